/-! Both run together: an effect performed. -/
/-- the states below are not higher -/
theorem y_sk.top {b : Nat → Nat} {n : Nat} {τ : z_TT} {A1 B1 A2 : Nat → List (Nat × Int32)} {ce : Nat} {rr : Nat → Int32} {rd : Nat} {fg : List Nat} {B : Nat → List (Nat × Int32)} {vr : z_F → Int32 → Int32 → Prop} {mm : Nat → Int32} {K0 : y_K} : ∀ (X : y_X) D tp bs p t en tl cv ph T, tp ≤ T → y_sk b n τ A1 B1 A2 ce rr rd fg B vr mm K0 X D tp bs p t en tl cv ph → y_sk b n τ A1 B1 A2 ce rr rd fg B vr mm (fun D' tp' bs' p' t' en' tl' cv' ph' => K0 D' tp' bs' p' t' en' tl' cv' ph' ∧ tp' ≤ T) X D tp bs p t en tl cv ph := by
  intro X
  induction X with
  | nil => intro D tp bs p t en tl cv ph T hT h; exact ⟨h, hT⟩
  | cons x X ih =>
    intro D tp bs p t en tl cv ph T hT h
    have be : ∀ t', bs ≤ T → y_Be A1 ce mm (y_sk b n τ A1 B1 A2 ce rr rd fg B vr mm K0 X) bs t' ph → y_Be A1 ce mm (y_sk b n τ A1 B1 A2 ce rr rd fg B vr mm (fun D' tp' bs' p' t' en' tl' cv' ph' => K0 D' tp' bs' p' t' en' tl' cv' ph' ∧ tp' ≤ T) X) bs t' ph := by
      intro t' hbT hb
      obtain ⟨bk, bl, D', k, p', en', tl', cv', ph', b1, b7, b8⟩ := hb
      exact ⟨bk, bl, D', k, p', en', tl', cv', ph', b1, b7, ih D' bs (bs - bl) p' t' en' tl' cv' ph' T hbT b8⟩
    obtain ⟨m, x1, x2, x3, h | ⟨e1, e2, e3, hf, h⟩⟩ := h
    · obtain ⟨f, wt, u, s, e', Γ, tt, tp0, en0, tl0, cv0, q1, ⟨s1, s5, s6, s7, k, p', s8, s9⟩, q3, q4⟩ := h
      have tpl := q4.tp
      exact ⟨m, x1, x2, x3, Or.inl ⟨f, wt, u, s, e', Γ, tt, tp0, en0, tl0, cv0, q1, ⟨s1, s5, s6, s7, k, p', s8, ih D tp0 bs p' tt en0 tl0 cv0 ph T (by omega) s9⟩, q3, q4⟩⟩
    · have hb := hf.1.1
      refine ⟨m, x1, x2, x3, Or.inr ⟨e1, e2, e3, hf, ?_⟩⟩
      rcases h with ⟨w1, w2, w6, w7⟩ | ⟨w1, s, e', f, wt, u, Γ, tt, y1, y2, g, h, r, v1, v2, w2, w3, w4⟩
      · exact Or.inl ⟨w1, w2, w6, be _ (by omega) w7⟩
      · exact Or.inr ⟨w1, s, e', f, wt, u, Γ, tt, y1, y2, g, h, r, v1, v2, w2, w3, be _ (by omega) w4⟩
section YPF
variable {b : Nat → Nat} {n : Nat} {τ : z_TT} {A1 B1 A2 : Nat → List (Nat × Int32)} {S0 : z_CS} {R0 : z_RS} {ce : Nat} {tt0 : z_F} {most : Nat} {f0 : Int32} {Φ : z_V → z_CS → Option Value → z_RS → Prop}
variable {S S' : z_CS} {R R' : z_RS} {tp bs rd pc : Nat} {fu : Int32} {th dp : Nat} {X : y_X} {cs0 : List Nat} {al : Nat → Prop} {φ : Nat → Nat} {ψ : Nat → z_F} {F : Nat} {fg : List Nat} {fc : Nat → List Nat} {Y : Nat → y_X} {pd cp : Nat → Nat} {aw ph fl Ψ m e : Nat} {Γ : List z_F} {tt t : z_F} {wt : Nat} {u : z_Bd} {v : Int32} {D : y_D} {en tl : Nat} {cv : List Nat} {f i k p : Nat} {x : y_E × List Nat}
variable {s tp0 en0 tl0 : Nat} {cv0 : List Nat}
theorem y_cl.cg {B B' : Nat → List (Nat × Int32)} (h : B' 79 = B 79) : ∀ (r : List Nat) (q : Int32), y_cl B q r → y_cl B' q r := by
  intro r
  induction r with
  | nil => intro q h'; exact h'
  | cons i r ih => intro q h'; exact ⟨h'.1, h'.2.1, by rw [h]; exact ih _ h'.2.2⟩
theorem y_fd.cg {B B' : Nat → List (Nat × Int32)} {E : Int32} (h : B' 71 = B 71) : ∀ (r : List Nat), y_fd B' E r = y_fd B E r := by
  intro r
  induction r with
  | nil => rfl
  | cons i r ih =>
    show (if z_fn 0 (B' 71) i = E then nI i else y_fd B' E r) = (if z_fn 0 (B 71) i = E then nI i else y_fd B E r)
    rw [h, ih]
/-- entries that have no clause, in the rows -/
theorem y_nh.hd {E : Int32} {off j : Nat} {X1 : y_X} (rB : ∀ k, 57 ≤ k → k ≤ 79 → R.1 k = B1 k) (hx : y_Px (y_do R) off X1) (hn : ∀ x, x ∈ X1 → y_nh B1 E x) (hj : j < X1.length) : y_hd R E (off + j) (-1) := by
  obtain ⟨z, z1, z2⟩ := hx.get X1 j hj
  have e1 : z_fn 0 (R.1 111) (off + j) = z.1.1 := congrArg (fun q : y_E => q.1) z2
  have e2 : z_fn 0 (R.1 112) (off + j) = z.1.2.1 := congrArg (fun q : y_E => q.2.1) z2
  rcases hn z z1 with h | ⟨h, nd, r, h1, h2, h3, h4⟩
  · exact Or.inl ⟨by rw [e1]; exact h, rfl⟩
  · refine Or.inr ⟨by rw [e1]; exact h, nd, r, by rw [e2]; exact h1, h2, ?_, ?_⟩
    · rw [rB 60 (by decide) (by decide)]
      exact y_cl.cg (rB 79 (by decide) (by decide)) r _ h3
    · rw [y_fd.cg (rB 71 (by decide) (by decide))]
      exact h4.symm
theorem y_g_perf {x1 ef : Nat} {v1 : z_Bd} (hp : y_Pg b n A1 B1 A2 S0 R0 ce tt0 most) (hC : y_Cr b n τ A1 B1 A2 S0 R0 ce most f0 (tp0 + 1) bs rd (e - 1) fu th dp (x :: X) cs0 al φ ψ F fg fc Y pd cp aw ph fl Ψ S R) (hi : i + Ψ ≤ 99999990) (hu : R.2.2 41 105 = 1 ∧ R.2.2 41 104 = v ∧ e - 1 < ce) (hm : x.1.2.1 = nI m) (hm6 : m < 600) (hse : s < e ∧ u.1.1 ≤ m ∧ m < u.1.2 ∧ e < ce) (hB : y_Bs b n A1 ce (z_rq S) R.1 (y_vr φ ψ F) (z_mm S) (y_SK b n τ A1 B1 A2 ce tt0 rd φ ψ F fg X S R) D tp0 bs s e Γ tt wt u x.2 x.1.2.2.2 en0 tl0 cv0 ph) (hw : x.1.1 = 6) (hc : y_c11 b n τ A1 B1 f wt u m s e Γ tt x1 ef v1) (hv : y_vr φ ψ F (z_shx τ (z_fn 0 (A1 22) ef)) (z_mm S tp0) v) (hfl : 1 ≤ fl) (kE : ∀ S' R' r, y_En S0 R0 S' R' → Φ (.inl (some (.int r))) S' (some (.int r)) R') (kW : ∀ f' S' R', y_W b n τ A1 B1 A2 S0 R0 ce tt0 most f0 f' (Ψ - 1) S' R' → 1 ≤ Ψ → y_J most f0 Φ (i + 1) S' R') : y_J most f0 Φ i S R := by
  obtain ⟨rB, -⟩ := hC.rw hp
  have hl := y_vl hC hu hm hm6
  rw [hw] at hl
  have c47 := hp.1.2.1
  obtain ⟨-, fz, -⟩ := hC.fuel hp
  obtain ⟨fz1, fz2, fz3⟩ := fz hfl
  obtain ⟨d1, d2, d3, ⟨d4, d4'⟩, d5⟩ := id hC
  obtain ⟨p1, -⟩ := d2.pop
  obtain ⟨hfr, l100, lk, Xl, tpl, bsl, -⟩ := hB.fr
  have dp4 : dp ≤ 400 := d2.2.2.1.2.1
  have hF := d2.F1
  have th1 : th ≤ 1000 := d2.2.2.1.1
  have aw3 : aw ≤ 326 * th := d2.2.2.1.2.2.1
  have rd3 : rd ≤ 2 + 340 * th := d2.2.2.1.2.2.2.1
  obtain ⟨u96, u97, u98, u99, u100, u114, u94⟩ := d2.2.1
  have edp : y_dp X = dp := by
    have : y_dp X + (if x.1.1 < 7 then 0 else 1) = dp := d3
    rw [if_pos (by rw [hw]; decide)] at this
    exact this
  obtain ⟨⟨e1, e2⟩, e3, e4, e5, e6, e7, e8, e9, e10⟩ := id hc
  have op16 := hp.op (o := 16) hu.2.2 e7 (by decide) (by decide)
  have a15 : z_fn 0 (S0.1 15) (e - 1) = nI ef := by rw [hp.a15 (o := 16) hu.2.2 e7 (by decide)]; exact e8
  have h68 : z_fn 0 (R.1 68) m = nI ef := by rw [rB 68 (by decide) (by decide)]; exact e9
  obtain ⟨s1, s5, s6, s7, k, p', s8, s9⟩ := id hB
  have rfE : ∀ st : Int32, y_Rf R0 (y_iv 94 st (y_cs X.length fu R)) := fun st => (d2.1.iv (j := 96) (by decide)).iv (j := 98) (by decide) |>.iv (j := 94) (by decide)
  have h16 : S0.1 16 = A1 16 := (hp.2.1.2 16 (by decide) (by decide)).trans (hp.1.2.2.2.1 16 (by decide))
  have h17 : S0.1 17 = A1 17 := (hp.2.1.2 17 (by decide) (by decide)).trans (hp.1.2.2.2.1 17 (by decide))
  obtain ⟨fb, hfb, hAB⟩ := y_find (S0 := S0) (E := nI ef) h16 h17 X D tp0 bs p' tt en0 tl0 cv0 ph s9
  rw [edp] at hfb
  have hfb1 : z_Fb (z_mm S) (tp0 + 1) bs dp fb := ⟨hfb.1, hfb.2.1, fun j hj => Nat.le_succ_of_le (hfb.2.2 j hj)⟩
  have pxR : y_Px (y_do R) 0 X := d2.2.2.2.2.1.1.2
  rcases hAB with ⟨a1, a2⟩ | ⟨X1, X2, hx, Dh, gh, thh, phh, c1, c2, c3, c4, c5, c6⟩
  · rw [edp] at a1
    refine g_perfe (n := dp) (ef := ef) (st := 4) (un := nI ef) (cl := fun _ => 0) d1 hp.2.1.1 hu.2.2 op16 a15 fz2 (by omega) dp4 th1 hfb1 (Nat.le_refl _) a1 (fun q => absurd q (Nat.lt_irrefl _)) (Or.inl ⟨rfl, rfl, rfl⟩) (fun S1 hz => ?_)
    refine y_g6u hl fz1 u98 h68 (fun j hj => by have := y_nh.hd rB pxR a2 hj; rw [Nat.zero_add] at this; exact this) ?_
    refine kE S1 _ _ ⟨4, 0, nI ef, fu + 1, th, dp, hz, ((rfE 4).iv (j := 101) (by decide)).iv (j := 96) (by decide), by decide, ⟨?_, ?_, ?_, ?_⟩, by rw [if_neg (fun q => absurd q.1 (by decide))], ?_⟩
    · rw [y_iv_n (by decide), y_iv_n (by decide), y_iv_k]
    · rw [y_iv_n (by decide), y_iv_n (by decide), y_iv_n (by decide), y_cs_98]
    · rw [y_iv_n (by decide), y_iv_n (by decide), y_iv_n (by decide), y_cs_n (by decide) (by decide)]
      exact u99
    · rw [y_iv_n (by decide), y_iv_n (by decide), y_iv_n (by decide), y_cs_n (by decide) (by decide)]
      exact u100
    · rw [if_pos rfl, y_iv_n (by decide), y_iv_k]
  · obtain ⟨h8, frh, mh, sh, eh, ffh, wth, uh, Γh, tth, y1h, y2h, hh, rh, v1h, v2h, xc, ic, ⟨hm1, hm2⟩, hHn, hBe, ⟨hcc, hcl, hl8⟩, hfe, hx0, hfd, hfo⟩ := c5
    obtain ⟨yc, efc, gc, vc, ⟨o1, o2, o3, o4, o5⟩, o6, o7, o8, ⟨o9, o10, o11, o12, o13, o14⟩, o15⟩ := hfo
    have eef : efc = ef := ((nI_eq (by omega) (by omega)).mp o10).symm
    subst eef
    have hHn' := hHn
    obtain ⟨hc4, ⟨n1, n2, n3, n4⟩, ⟨n5, n6, n7, n8⟩, env, ⟨n9, n10, n11⟩, n12⟩ := hHn
    have dX : y_dp X = y_dp X1 + (y_dp X2 + 1) := by
      rw [c1, y_dp_app]
      show y_dp X1 + (y_dp X2 + (if hx.1.1 < 7 then 0 else 1)) = _
      rw [h8, if_neg (by decide)]
    have lX : X.length = X1.length + (X2.length + 1) := by rw [c1, List.length_append]; rfl
    have pxA : y_Px (y_do R) (0 + (hx :: X2).length) X1 ∧ y_Px (y_do R) 0 (hx :: X2) := by
      have := pxR
      rw [c1] at this
      exact (y_Px_app X1).mp this
    have px1 : y_Px (y_do R) (X2.length + 1) X1 := by
      have := pxA.1
      rw [Nat.zero_add] at this
      exact this
    have pxh : y_do R X2.length = hx.1 := by
      have := pxA.2.1
      rw [Nat.zero_add] at this
      exact this
    have r111 : z_fn 0 (R.1 111) X2.length = 8 := (congrArg (fun q : y_E => q.1) pxh).trans h8
    have r112 : z_fn 0 (R.1 112) X2.length = nI mh := (congrArg (fun q : y_E => q.2.1) pxh).trans hm1
    have r114 : z_fn 0 (R.1 114) X2.length = hx.1.2.2.2 := congrArg (fun q : y_E => q.2.2.2) pxh
    have hnx : ∀ j, X2.length < j → j < X.length → y_hd R (nI efc) j (-1) := fun j j1 j2 => by
      have := y_nh.hd (j := j - (X2.length + 1)) rB px1 c3 (by omega)
      rw [show X2.length + 1 + (j - (X2.length + 1)) = j by omega] at this
      exact this
    have hcl' : y_cl R.1 (z_fn 0 (R.1 60) mh) (rh.map Prod.fst) := by
      rw [rB 60 (by decide) (by decide)]
      exact y_cl.cg (rB 79 (by decide) (by decide)) _ _ hcl
    have hfd' : y_fd R.1 (nI efc) (rh.map Prod.fst) = nI ic := by
      rw [y_fd.cg (rB 71 (by decide) (by decide))]
      exact hfd
    have hcu : y_ct R (X2.length + 1) (X.length - (X2.length + 1)) = y_dp X1 := by
      rw [show X.length - (X2.length + 1) = X1.length by omega]
      exact y_ct_dp X1 px1
    have hclz : z_fe (S0.1 17) (nI efc) (y_pos rh (hh + 1)) ≠ 0 := by rw [h17, hfe]; omega
    have hcc' : z_ccl ce (S0.1 16) (y_pos rh (hh + 1)) sh := by rw [h16]; exact hcc
    by_cases ht : th + 1 + (y_dp X1 + 1) ≤ 1000
    · -- names at the clause
      have cs1 : z_ctx A1 (sh + 1) = ((z_ctx A1 sh).1, (z_ctx A1 sh).1.length :: (z_ctx A1 sh).2) := by
        rw [z_ctx_s hc4.2.2.2.2.2.2.1]
        rfl
      have cgh : z_ctx A1 gh = z_ctx A1 (sh + 1) := hc4.2.2.2.2.2.2.2.2.1.fl.2.2
      have chh : z_ctx A1 (hh + 1) = z_ctx A1 gh := (hc4.2.2.2.2.2.2.2.2.2.2.2.1.fl.w22 hc4.2.2.2.2.2.2.2.2.2.1 hc4.2.2.2.2.2.2.2.2.2.2.2.2.1).2.2
      have cxc : z_ctx A1 xc = ((z_ctx A1 sh).1, (z_ctx A1 sh).1.length :: (z_ctx A1 sh).2) := ((o5.trans chh).trans cgh).trans cs1
      have cx1 : z_ctx A1 (xc + 1) = (z_fn 0 (A1 18) xc :: z_fn 0 (A1 15) xc :: (z_ctx A1 sh).1, (z_ctx A1 sh).1.length :: (z_ctx A1 sh).2) := by
        rw [z_ctx_s o6, cxc]
        rfl
      have k8 := hc4.2.2.2.1
      have k9 := hc4.2.2.2.2.1
      have k10 := hc4.2.2.2.2.2.1
      have hN' := frh.nm (s := xc + 1) (by rw [cx1, n5, n6]) (by omega) (by omega)
      rw [cx1, List.length_cons, List.length_cons, n5] at hN'
      have frh1 := frh.1
      -- the piece
      have ke : ∀ Dk tpk bsk pk tk enk tlk cvk phk, y_Ke Dh (fb (y_dp X1) + 4 + Dh.2.2.2.1) (fb (y_dp X1)) gh thh hx.2 phh Dk tpk bsk pk tk enk tlk cvk phk → Dk = Dh ∧ tpk = fb (y_dp X1) + 4 + Dh.2.2.2.1 ∧ bsk = fb (y_dp X1) ∧ pk = gh ∧ tk = thh ∧ enk = 0 ∧ tlk = 0 ∧ cvk = hx.2 ∧ phk = phh := fun _ _ _ _ _ _ _ _ _ h => h
      have fbl := hfb.le (y_dp X1) (by omega)
      have tpB := hfb.2.2 (y_dp X1) (by omega)
      -- heights: by the piece laid at 0
      have dn0 := y_sk.dn (mm := z_mm S) (mm' := fun z => z_mm S (z + fb (y_dp X1))) (b0 := fb (y_dp X1)) (T := tp0) (rr := z_rq S) (rr' := z_rq S) (rd := rd) (rd' := rd) (fg := fg) (fg' := fg) (B := R.1) (B' := R.1) (vr := y_vr φ ψ F) (vr' := y_vr φ ψ F) (K0' := y_Kh b n τ A1 B1 A2 ce (z_rq S) rd fg R.1 (y_vr φ ψ F) tth hx (fun z => z_mm S (z + fb (y_dp X1)))) (fun _ _ => rfl) (fun x _ q => ⟨rfl, q⟩) (Nat.le_refl _) (fun _ _ _ q => q) (fun Dk tpk bsk pk tk enk tlk cvk phk hT hK => by
        obtain ⟨g1, g2, g3, g4, g5, g6, g7, g8, g9⟩ := ke _ _ _ _ _ _ _ _ _ hK
        subst g1 g3 g4 g5
        rw [g2]
        exact ⟨Nat.le_refl _, frh, by omega, h8, g6, g7, g8, by omega, frh.dn (T := tp0) (fun _ _ => rfl) (fun x _ q => ⟨rfl, q⟩) (Nat.le_refl _) (Nat.le_refl _) (by omega), mh, hm1, hm2, sh, eh, ffh, wth, uh, Γh, y1h, y2h, _, hh, rh, v1h, v2h, hHn'.dn (T := tp0) (tp := fb (y_dp X1) + 4 + Dk.2.2.2.1) (fun _ _ => rfl) (fun x _ q => ⟨rfl, q⟩) (fun _ _ _ q => q) (Nat.le_refl _) (by omega) frh (fun c _ => y_sB.rf), rfl⟩) X1 D tp0 bs p' tt en0 tl0 cv0 ph (by omega) (fun _ _ _ _ => y_sB.rf) c6
      obtain ⟨-, -, dn1⟩ := dn0
      obtain ⟨i1, i2, i3, i4, -⟩ := y_sk.bd y_Kh.bd X1 D (tp0 - fb (y_dp X1)) (bs - fb (y_dp X1)) p' tt en0 tl0 cv0 ph dn1
      have hrm : fb (y_dp X1) + 4 + Dh.2.2.2.1 ≤ tp0 := by
        have := y_sk.k0 (Q := fb (y_dp X1) + 4 + Dh.2.2.2.1 ≤ tp0) (mm := z_mm S) (K0 := fun D' tp' bs' p' t' en' tl' cv' ph' => y_Ke Dh (fb (y_dp X1) + 4 + Dh.2.2.2.1) (fb (y_dp X1)) gh thh hx.2 phh D' tp' bs' p' t' en' tl' cv' ph' ∧ tp' ≤ tp0) (fun D' tp' bs' p' t' en' tl' cv' ph' h => by
          obtain ⟨g1, g2, -⟩ := h.1
          rw [← g2]
          exact h.2) X1 D tp0 bs p' tt en0 tl0 cv0 ph (y_sk.top X1 D tp0 bs p' tt en0 tl0 cv0 ph tp0 (Nat.le_refl _) c6)
        exact this
      refine g_perf (n := y_dp X1) (ef := efc) (hh := sh) (rm := Dh.2.2.2.1) (r := y_pos rh (hh + 1)) d1 hp.2.1.1 hu.2.2 op16 a15 fz2 (by omega) dp4 hfb (by omega) c2 n1 (by omega) hcc' (by rw [y_pos_len]; exact hl8) hclz ht (by rw [hp.2.1.2 18 (by decide) (by decide)]; exact n4) (by omega) hrm (by omega) (fun S1 hM mo m3 m4 m5 q2 hrk => ?_)
      rw [h17, hfe] at hM
      sorry
    · refine g_perfe (n := y_dp X1) (ef := efc) (st := 5) (un := -1) (cl := fun _ => xc) d1 hp.2.1.1 hu.2.2 op16 a15 fz2 (by omega) dp4 th1 hfb1 (by omega) c2 (fun q => ⟨Or.inr ⟨sh, y_pos rh (hh + 1), n1, by omega, hcc', by rw [y_pos_len]; exact hl8, by rw [h17]; exact hfe.symm⟩, by omega⟩) (Or.inr ⟨by omega, rfl, rfl, by omega⟩) (fun S1 hz => ?_)
      refine y_g6f hl fz1 u98 h68 (by omega) hnx r111 r112 hm2 hcl' hfd' o1 hcu u99 (by omega) (by omega) ?_
      exact kE S1 _ _ (y_En.mk hz (rfE 5) y_iv_k ((y_iv_n (by decide)).trans y_cs_98) ((y_iv_n (by decide)).trans ((y_cs_n (by decide) (by decide)).trans u99)) ((y_iv_n (by decide)).trans ((y_cs_n (by decide) (by decide)).trans u100)) (by decide))
end YPF
