/-! Both run together: an effect performed. -/
/-- the states below are not higher -/
theorem y_sk.top {b : Nat → Nat} {n : Nat} {τ : z_TT} {A1 B1 A2 : Nat → List (Nat × Int32)} {ce : Nat} {rr : Nat → Int32} {rd : Nat} {fg : List Nat} {B : Nat → List (Nat × Int32)} {vr : z_F → Int32 → Int32 → Prop} {mm : Nat → Int32} {K0 : y_K} : ∀ (X : y_X) D tp bs p t en tl cv ph T, tp ≤ T → y_sk b n τ A1 B1 A2 ce rr rd fg B vr mm K0 X D tp bs p t en tl cv ph → y_sk b n τ A1 B1 A2 ce rr rd fg B vr mm (fun D' tp' bs' p' t' en' tl' cv' ph' => K0 D' tp' bs' p' t' en' tl' cv' ph' ∧ tp' ≤ T) X D tp bs p t en tl cv ph := by
  intro X
  induction X with
  | nil => intro D tp bs p t en tl cv ph T hT h; exact ⟨h, hT⟩
  | cons x X ih =>
    intro D tp bs p t en tl cv ph T hT h
    have be : ∀ t', bs ≤ T → y_Be A1 ce mm (y_sk b n τ A1 B1 A2 ce rr rd fg B vr mm K0 X) bs t' ph → y_Be A1 ce mm (y_sk b n τ A1 B1 A2 ce rr rd fg B vr mm (fun D' tp' bs' p' t' en' tl' cv' ph' => K0 D' tp' bs' p' t' en' tl' cv' ph' ∧ tp' ≤ T) X) bs t' ph := by
      intro t' hbT hb
      obtain ⟨bk, bl, D', k, p', en', tl', cv', ph', b1, b7, b8⟩ := hb
      exact ⟨bk, bl, D', k, p', en', tl', cv', ph', b1, b7, ih D' bs (bs - bl) p' t' en' tl' cv' ph' T hbT b8⟩
    obtain ⟨m, x1, x2, x3, h | ⟨e1, e2, e3, hf, h⟩⟩ := h
    · obtain ⟨f, wt, u, s, e', Γ, tt, tp0, en0, tl0, cv0, q1, ⟨s1, s5, s6, s7, k, p', s8, s9⟩, q3, q4⟩ := h
      have tpl := q4.tp
      exact ⟨m, x1, x2, x3, Or.inl ⟨f, wt, u, s, e', Γ, tt, tp0, en0, tl0, cv0, q1, ⟨s1, s5, s6, s7, k, p', s8, ih D tp0 bs p' tt en0 tl0 cv0 ph T (by omega) s9⟩, q3, q4⟩⟩
    · have hb := hf.1.1
      refine ⟨m, x1, x2, x3, Or.inr ⟨e1, e2, e3, hf, ?_⟩⟩
      rcases h with ⟨w1, w2, w6, w7⟩ | ⟨w1, s, e', f, wt, u, Γ, tt, y1, y2, g, h, r, v1, v2, w2, w3, w4⟩
      · exact Or.inl ⟨w1, w2, w6, be _ (by omega) w7⟩
      · exact Or.inr ⟨w1, s, e', f, wt, u, Γ, tt, y1, y2, g, h, r, v1, v2, w2, w3, be _ (by omega) w4⟩
section YPF
variable {b : Nat → Nat} {n : Nat} {τ : z_TT} {A1 B1 A2 : Nat → List (Nat × Int32)} {S0 : z_CS} {R0 : z_RS} {ce : Nat} {tt0 : z_F} {most : Nat} {f0 : Int32} {Φ : z_V → z_CS → Option Value → z_RS → Prop}
variable {S S' : z_CS} {R R' : z_RS} {tp bs rd pc : Nat} {fu : Int32} {th dp : Nat} {X : y_X} {cs0 : List Nat} {al : Nat → Prop} {φ : Nat → Nat} {ψ : Nat → z_F} {F : Nat} {fg : List Nat} {fc : Nat → List Nat} {Y : Nat → y_X} {pd cp : Nat → Nat} {aw ph fl Ψ m e : Nat} {Γ : List z_F} {tt t : z_F} {wt : Nat} {u : z_Bd} {v : Int32} {D : y_D} {en tl : Nat} {cv : List Nat} {f i k p : Nat} {x : y_E × List Nat}
variable {s tp0 en0 tl0 : Nat} {cv0 : List Nat}
theorem y_cl.cg {B B' : Nat → List (Nat × Int32)} (h : B' 79 = B 79) : ∀ (r : List Nat) (q : Int32), y_cl B q r → y_cl B' q r := by
  intro r
  induction r with
  | nil => intro q h'; exact h'
  | cons i r ih => intro q h'; exact ⟨h'.1, h'.2.1, by rw [h]; exact ih _ h'.2.2⟩
theorem y_fd.cg {B B' : Nat → List (Nat × Int32)} {E : Int32} (h : B' 71 = B 71) : ∀ (r : List Nat), y_fd B' E r = y_fd B E r := by
  intro r
  induction r with
  | nil => rfl
  | cons i r ih =>
    show (if z_fn 0 (B' 71) i = E then nI i else y_fd B' E r) = (if z_fn 0 (B 71) i = E then nI i else y_fd B E r)
    rw [h, ih]
/-- entries that have no clause, in the rows -/
theorem y_nh.hd {E : Int32} {off j : Nat} {X1 : y_X} (rB : ∀ k, 57 ≤ k → k ≤ 79 → R.1 k = B1 k) (hx : y_Px (y_do R) off X1) (hn : ∀ x, x ∈ X1 → y_nh B1 E x) (hj : j < X1.length) : y_hd R E (off + j) (-1) := by
  obtain ⟨z, z1, z2⟩ := hx.get X1 j hj
  have e1 : z_fn 0 (R.1 111) (off + j) = z.1.1 := congrArg (fun q : y_E => q.1) z2
  have e2 : z_fn 0 (R.1 112) (off + j) = z.1.2.1 := congrArg (fun q : y_E => q.2.1) z2
  rcases hn z z1 with h | ⟨h, nd, r, h1, h2, h3, h4⟩
  · exact Or.inl ⟨by rw [e1]; exact h, rfl⟩
  · refine Or.inr ⟨by rw [e1]; exact h, nd, r, by rw [e2]; exact h1, h2, ?_, ?_⟩
    · rw [rB 60 (by decide) (by decide)]
      exact y_cl.cg (rB 79 (by decide) (by decide)) r _ h3
    · rw [y_fd.cg (rB 71 (by decide) (by decide))]
      exact h4.symm
theorem y_g_perf {x1 ef : Nat} {v1 : z_Bd} (hp : y_Pg b n A1 B1 A2 S0 R0 ce tt0 most) (hC : y_Cr b n τ A1 B1 A2 S0 R0 ce most f0 (tp0 + 1) bs rd (e - 1) fu th dp (x :: X) cs0 al φ ψ F fg fc Y pd cp aw ph fl Ψ S R) (hi : i + Ψ ≤ 99999990) (hu : R.2.2 41 105 = 1 ∧ R.2.2 41 104 = v ∧ e - 1 < ce) (hm : x.1.2.1 = nI m) (hm6 : m < 600) (hse : s < e ∧ u.1.1 ≤ m ∧ m < u.1.2 ∧ e < ce) (hB : y_Bs b n A1 ce (z_rq S) R.1 (y_vr φ ψ F) (z_mm S) (y_SK b n τ A1 B1 A2 ce tt0 rd φ ψ F fg X S R) D tp0 bs s e Γ tt wt u x.2 x.1.2.2.2 en0 tl0 cv0 ph) (hw : x.1.1 = 6) (hc : y_c11 b n τ A1 B1 f wt u m s e Γ tt x1 ef v1) (hv : y_vr φ ψ F (z_shx τ (z_fn 0 (A1 22) ef)) (z_mm S tp0) v) (hfl : 1 ≤ fl) (kE : ∀ S' R' r, y_En S0 R0 S' R' → Φ (.inl (some (.int r))) S' (some (.int r)) R') (kW : ∀ f' S' R', y_W b n τ A1 B1 A2 S0 R0 ce tt0 most f0 f' (Ψ - 1) S' R' → 1 ≤ Ψ → y_J most f0 Φ (i + 1) S' R') : y_J most f0 Φ i S R := by
  obtain ⟨rB, -⟩ := hC.rw hp
  have hl := y_vl hC hu hm hm6
  rw [hw] at hl
  have c47 := hp.1.2.1
  obtain ⟨-, fz, -⟩ := hC.fuel hp
  obtain ⟨fz1, fz2, fz3⟩ := fz hfl
  obtain ⟨d1, d2, d3, ⟨d4, d4'⟩, d5⟩ := id hC
  obtain ⟨p1, -⟩ := d2.pop
  obtain ⟨hfr, l100, lk, Xl, tpl, bsl, -⟩ := hB.fr
  have dp4 : dp ≤ 400 := d2.2.2.1.2.1
  have hF := d2.F1
  have th1 : th ≤ 1000 := d2.2.2.1.1
  have aw3 : aw ≤ 326 * th := d2.2.2.1.2.2.1
  have rd3 : rd ≤ 2 + 340 * th := d2.2.2.1.2.2.2.1
  obtain ⟨u96, u97, u98, u99, u100, u114, u94⟩ := d2.2.1
  have edp : y_dp X = dp := by
    have : y_dp X + (if x.1.1 < 7 then 0 else 1) = dp := d3
    rw [if_pos (by rw [hw]; decide)] at this
    exact this
  obtain ⟨⟨e1, e2⟩, e3, e4, e5, e6, e7, e8, e9, e10⟩ := id hc
  have op16 := hp.op (o := 16) hu.2.2 e7 (by decide) (by decide)
  have a15 : z_fn 0 (S0.1 15) (e - 1) = nI ef := by rw [hp.a15 (o := 16) hu.2.2 e7 (by decide)]; exact e8
  have h68 : z_fn 0 (R.1 68) m = nI ef := by rw [rB 68 (by decide) (by decide)]; exact e9
  obtain ⟨s1, s5, s6, s7, k, p', s8, s9⟩ := id hB
  have rfE : ∀ st : Int32, y_Rf R0 (y_iv 94 st (y_cs X.length fu R)) := fun st => (d2.1.iv (j := 96) (by decide)).iv (j := 98) (by decide) |>.iv (j := 94) (by decide)
  have h16 : S0.1 16 = A1 16 := (hp.2.1.2 16 (by decide) (by decide)).trans (hp.1.2.2.2.1 16 (by decide))
  have h17 : S0.1 17 = A1 17 := (hp.2.1.2 17 (by decide) (by decide)).trans (hp.1.2.2.2.1 17 (by decide))
  obtain ⟨fb, hfb, hAB⟩ := y_find (S0 := S0) (E := nI ef) h16 h17 X D tp0 bs p' tt en0 tl0 cv0 ph s9
  rw [edp] at hfb
  have hfb1 : z_Fb (z_mm S) (tp0 + 1) bs dp fb := ⟨hfb.1, hfb.2.1, fun j hj => Nat.le_succ_of_le (hfb.2.2 j hj)⟩
  have pxR : y_Px (y_do R) 0 X := d2.2.2.2.2.1.1.2
  rcases hAB with ⟨a1, a2⟩ | ⟨X1, X2, hx, Dh, gh, thh, phh, c1, c2, c3, c4, c5, c6⟩
  · rw [edp] at a1
    refine g_perfe (n := dp) (ef := ef) (st := 4) (un := nI ef) (cl := fun _ => 0) d1 hp.2.1.1 hu.2.2 op16 a15 fz2 (by omega) dp4 th1 hfb1 (Nat.le_refl _) a1 (fun q => absurd q (Nat.lt_irrefl _)) (Or.inl ⟨rfl, rfl, rfl⟩) (fun S1 hz => ?_)
    refine y_g6u hl fz1 u98 h68 (fun j hj => by have := y_nh.hd rB pxR a2 hj; rw [Nat.zero_add] at this; exact this) ?_
    refine kE S1 _ _ ⟨4, 0, nI ef, fu + 1, th, dp, hz, ((rfE 4).iv (j := 101) (by decide)).iv (j := 96) (by decide), by decide, ⟨?_, ?_, ?_, ?_⟩, by rw [if_neg (fun q => absurd q.1 (by decide))], ?_⟩
    · rw [y_iv_n (by decide), y_iv_n (by decide), y_iv_k]
    · rw [y_iv_n (by decide), y_iv_n (by decide), y_iv_n (by decide), y_cs_98]
    · rw [y_iv_n (by decide), y_iv_n (by decide), y_iv_n (by decide), y_cs_n (by decide) (by decide)]
      exact u99
    · rw [y_iv_n (by decide), y_iv_n (by decide), y_iv_n (by decide), y_cs_n (by decide) (by decide)]
      exact u100
    · rw [if_pos rfl, y_iv_n (by decide), y_iv_k]
  · obtain ⟨h8, frh, mh, sh, eh, ffh, wth, uh, Γh, tth, y1h, y2h, hh, rh, v1h, v2h, xc, ic, ⟨hm1, hm2⟩, hHn, hBe, ⟨hcc, hcl, hl8⟩, hfe, hx0, hfd, hfo⟩ := c5
    obtain ⟨yc, efc, gc, vc, ⟨o1, o2, o3, o4, o5⟩, o6, o7, o8, ⟨o9, o10, o11, o12, o13, o14⟩, o15⟩ := hfo
    have eef : efc = ef := ((nI_eq (by omega) (by omega)).mp o10).symm
    subst eef
    have hHn' := hHn
    obtain ⟨hc4, ⟨n1, n2, n3, n4⟩, ⟨n5, n6, n7, n8⟩, env, ⟨n9, n10, n11⟩, n12⟩ := hHn
    have dX : y_dp X = y_dp X1 + (y_dp X2 + 1) := by
      rw [c1, y_dp_app]
      show y_dp X1 + (y_dp X2 + (if hx.1.1 < 7 then 0 else 1)) = _
      rw [h8, if_neg (by decide)]
    have lX : X.length = X1.length + (X2.length + 1) := by rw [c1, List.length_append]; rfl
    have pxA : y_Px (y_do R) (0 + (hx :: X2).length) X1 ∧ y_Px (y_do R) 0 (hx :: X2) := by
      have := pxR
      rw [c1] at this
      exact (y_Px_app X1).mp this
    have px1 : y_Px (y_do R) (X2.length + 1) X1 := by
      have := pxA.1
      rw [Nat.zero_add] at this
      exact this
    have pxh : y_do R X2.length = hx.1 := by
      have := pxA.2.1
      rw [Nat.zero_add] at this
      exact this
    have r111 : z_fn 0 (R.1 111) X2.length = 8 := (congrArg (fun q : y_E => q.1) pxh).trans h8
    have r112 : z_fn 0 (R.1 112) X2.length = nI mh := (congrArg (fun q : y_E => q.2.1) pxh).trans hm1
    have r114 : z_fn 0 (R.1 114) X2.length = hx.1.2.2.2 := congrArg (fun q : y_E => q.2.2.2) pxh
    have hnx : ∀ j, X2.length < j → j < X.length → y_hd R (nI efc) j (-1) := fun j j1 j2 => by
      have := y_nh.hd (j := j - (X2.length + 1)) rB px1 c3 (by omega)
      rw [show X2.length + 1 + (j - (X2.length + 1)) = j by omega] at this
      exact this
    have hcl' : y_cl R.1 (z_fn 0 (R.1 60) mh) (rh.map Prod.fst) := by
      rw [rB 60 (by decide) (by decide)]
      exact y_cl.cg (rB 79 (by decide) (by decide)) _ _ hcl
    have hfd' : y_fd R.1 (nI efc) (rh.map Prod.fst) = nI ic := by
      rw [y_fd.cg (rB 71 (by decide) (by decide))]
      exact hfd
    have hcu : y_ct R (X2.length + 1) (X.length - (X2.length + 1)) = y_dp X1 := by
      rw [show X.length - (X2.length + 1) = X1.length by omega]
      exact y_ct_dp X1 px1
    have hclz : z_fe (S0.1 17) (nI efc) (y_pos rh (hh + 1)) ≠ 0 := by rw [h17, hfe]; omega
    have hcc' : z_ccl ce (S0.1 16) (y_pos rh (hh + 1)) sh := by rw [h16]; exact hcc
    by_cases ht : th + 1 + (y_dp X1 + 1) ≤ 1000
    · -- names at the clause
      have cs1 : z_ctx A1 (sh + 1) = ((z_ctx A1 sh).1, (z_ctx A1 sh).1.length :: (z_ctx A1 sh).2) := by
        rw [z_ctx_s hc4.2.2.2.2.2.2.1]
        rfl
      have cgh : z_ctx A1 gh = z_ctx A1 (sh + 1) := hc4.2.2.2.2.2.2.2.2.1.fl.2.2
      have chh : z_ctx A1 (hh + 1) = z_ctx A1 gh := (hc4.2.2.2.2.2.2.2.2.2.2.2.1.fl.w22 hc4.2.2.2.2.2.2.2.2.2.1 hc4.2.2.2.2.2.2.2.2.2.2.2.2.1).2.2
      have cxc : z_ctx A1 xc = ((z_ctx A1 sh).1, (z_ctx A1 sh).1.length :: (z_ctx A1 sh).2) := ((o5.trans chh).trans cgh).trans cs1
      have cx1 : z_ctx A1 (xc + 1) = (z_fn 0 (A1 18) xc :: z_fn 0 (A1 15) xc :: (z_ctx A1 sh).1, (z_ctx A1 sh).1.length :: (z_ctx A1 sh).2) := by
        rw [z_ctx_s o6, cxc]
        rfl
      have k8 := hc4.2.2.2.1
      have k9 := hc4.2.2.2.2.1
      have k10 := hc4.2.2.2.2.2.1
      have hN' := frh.nm (s := xc + 1) (by rw [cx1, n5, n6]) (by omega) (by omega)
      rw [cx1, List.length_cons, List.length_cons, n5] at hN'
      have frh1 := frh.1
      -- the piece
      have ke : ∀ Dk tpk bsk pk tk enk tlk cvk phk, y_Ke Dh (fb (y_dp X1) + 4 + Dh.2.2.2.1) (fb (y_dp X1)) gh thh hx.2 phh Dk tpk bsk pk tk enk tlk cvk phk → Dk = Dh ∧ tpk = fb (y_dp X1) + 4 + Dh.2.2.2.1 ∧ bsk = fb (y_dp X1) ∧ pk = gh ∧ tk = thh ∧ enk = 0 ∧ tlk = 0 ∧ cvk = hx.2 ∧ phk = phh := fun _ _ _ _ _ _ _ _ _ h => h
      have fbl := hfb.le (y_dp X1) (by omega)
      have tpB := hfb.2.2 (y_dp X1) (by omega)
      -- heights: by the piece laid at 0
      have dn0 := y_sk.dn (mm := z_mm S) (mm' := fun z => z_mm S (z + fb (y_dp X1))) (b0 := fb (y_dp X1)) (T := tp0) (rr := z_rq S) (rr' := z_rq S) (rd := rd) (rd' := rd) (fg := fg) (fg' := fg) (B := R.1) (B' := R.1) (vr := y_vr φ ψ F) (vr' := y_vr φ ψ F) (K0' := y_Kh b n τ A1 B1 A2 ce (z_rq S) rd fg R.1 (y_vr φ ψ F) tth hx (fun z => z_mm S (z + fb (y_dp X1)))) (fun _ _ => rfl) (fun x _ q => ⟨rfl, q⟩) (Nat.le_refl _) (fun _ _ _ q => q) (fun Dk tpk bsk pk tk enk tlk cvk phk hT hK => by
        obtain ⟨g1, g2, g3, g4, g5, g6, g7, g8, g9⟩ := ke _ _ _ _ _ _ _ _ _ hK
        subst g1 g3 g4 g5
        rw [g2]
        exact ⟨Nat.le_refl _, frh, by omega, h8, g6, g7, g8, by omega, frh.dn (T := tp0) (fun _ _ => rfl) (fun x _ q => ⟨rfl, q⟩) (Nat.le_refl _) (Nat.le_refl _) (by omega), mh, hm1, hm2, sh, eh, ffh, wth, uh, Γh, y1h, y2h, _, hh, rh, v1h, v2h, hHn'.dn (T := tp0) (tp := fb (y_dp X1) + 4 + Dk.2.2.2.1) (fun _ _ => rfl) (fun x _ q => ⟨rfl, q⟩) (fun _ _ _ q => q) (Nat.le_refl _) (by omega) frh (fun c _ => y_sB.rf), rfl⟩) X1 D tp0 bs p' tt en0 tl0 cv0 ph (by omega) (fun _ _ _ _ => y_sB.rf) c6
      obtain ⟨-, -, dn1⟩ := dn0
      obtain ⟨i1, i2, i3, i4, -⟩ := y_sk.bd y_Kh.bd X1 D (tp0 - fb (y_dp X1)) (bs - fb (y_dp X1)) p' tt en0 tl0 cv0 ph dn1
      have hrm : fb (y_dp X1) + 4 + Dh.2.2.2.1 ≤ tp0 := by
        have := y_sk.k0 (Q := fb (y_dp X1) + 4 + Dh.2.2.2.1 ≤ tp0) (mm := z_mm S) (K0 := fun D' tp' bs' p' t' en' tl' cv' ph' => y_Ke Dh (fb (y_dp X1) + 4 + Dh.2.2.2.1) (fb (y_dp X1)) gh thh hx.2 phh D' tp' bs' p' t' en' tl' cv' ph' ∧ tp' ≤ tp0) (fun D' tp' bs' p' t' en' tl' cv' ph' h => by
          obtain ⟨g1, g2, -⟩ := h.1
          rw [← g2]
          exact h.2) X1 D tp0 bs p' tt en0 tl0 cv0 ph (y_sk.top X1 D tp0 bs p' tt en0 tl0 cv0 ph tp0 (Nat.le_refl _) c6)
        exact this
      refine g_perf (n := y_dp X1) (ef := efc) (hh := sh) (rm := Dh.2.2.2.1) (r := y_pos rh (hh + 1)) d1 hp.2.1.1 hu.2.2 op16 a15 fz2 (by omega) dp4 hfb (by omega) c2 n1 (by omega) hcc' (by rw [y_pos_len]; exact hl8) hclz ht (by rw [hp.2.1.2 18 (by decide) (by decide)]; exact n4) (by omega) hrm (by omega) (fun S1 hM mo m3 m4 m5 q2 hrk => ?_)
      rw [h17, hfe] at hM
      rw [show th + (1 + (y_dp X1 + 1)) = th + 1 + (y_dp X1 + 1) by omega] at hM
      obtain ⟨R2, hpc, w1, w2, w3, w4, w5, ⟨w96, w97, w98, w99, w100, w114⟩, ⟨w119, w120, w121, w122, w123, w124⟩, waw, wpa⟩ := y_pc_row (hi := X.length) (h := X2.length) (cu := y_dp X1) (m := m) (F := F) (th := th) (dp := dp) (fu := fu) (R := R) u97
      have sB0 : ∀ c, y_sB R.1 R2.1 c := fun c => y_sB.of w2
      have nx2 : y_nx R2.1 = y_nx R.1 := by
        funext q
        unfold y_nx
        rw [w2 101 (by decide) (by decide)]
      have fg0 := d2.2.2.2.1.2.2.2
      have hr : ∀ x, x < rd → ¬ x ∈ fg → z_rq S1 x = z_rq S x ∧ ¬ x ∈ (rd + 1) :: fg := fun x hx hg => ⟨q2 x hx, fun q => by
        cases q with
        | head => omega
        | tail _ q => exact hg q⟩
      have mmP : ∀ z, z < tp0 - fb (y_dp X1) → z_rq S1 (rd + 5 + z) = z_mm S (z + fb (y_dp X1)) := fun z hz => by rw [Nat.add_comm z]; exact hrk.2 z hz
      -- the piece in its record
      have dn2 := y_sk.dn (mm := z_mm S) (mm' := fun z => z_rq S1 (rd + 5 + z)) (b0 := fb (y_dp X1)) (T := tp0 - fb (y_dp X1)) (rr := z_rq S) (rr' := z_rq S1) (rd := rd) (rd' := rd + (5 + (tp0 - fb (y_dp X1)))) (fg := fg) (fg' := (rd + 1) :: fg) (B := R.1) (B' := R2.1) (vr := y_vr φ ψ F) (vr' := y_vr (y_up φ F rd) (y_up ψ F (z_fz tt tth)) (F + 1)) (K0' := y_Kh b n τ A1 B1 A2 ce (z_rq S1) (rd + (5 + (tp0 - fb (y_dp X1)))) ((rd + 1) :: fg) R2.1 (y_vr (y_up φ F rd) (y_up ψ F (z_fz tt tth)) (F + 1)) tth hx (fun z => z_rq S1 (rd + 5 + z))) mmP hr (by omega) y_vr.up (fun Dk tpk bsk pk tk enk tlk cvk phk hT hK => by
        obtain ⟨g1, g2, g3, g4, g5, g6, g7, g8, g9⟩ := ke _ _ _ _ _ _ _ _ _ hK
        subst g1 g3 g4 g5
        rw [g2]
        exact ⟨Nat.le_refl _, frh, by omega, h8, g6, g7, g8, by omega, frh.dn mmP hr (by omega) (Nat.le_refl _) (by omega), mh, hm1, hm2, sh, eh, ffh, wth, uh, Γh, y1h, y2h, _, hh, rh, v1h, v2h, hHn'.dn (tp := fb (y_dp X1) + 4 + Dk.2.2.2.1) mmP hr y_vr.up (Nat.le_refl _) (by omega) frh (fun c _ => sB0 c), rfl⟩) X1 D tp0 bs p' tt en0 tl0 cv0 ph (by omega) (fun _ _ c _ => sB0 c) c6
      obtain ⟨-, -, dn3⟩ := dn2
      obtain ⟨-, -, -, -, -, -, ⟨ph0, -, ph01, dn4⟩, -⟩ := y_sk.bd y_Kh.bd X1 D (tp0 - fb (y_dp X1)) (bs - fb (y_dp X1)) p' tt en0 tl0 cv0 ph dn3
      -- the reference
      obtain ⟨-, -, -, -, ⟨-, -, xx5, LX, xx6, xx7⟩, ⟨⟨cc, fl', ⟨aa1, aa2, aa6, aa7⟩, aa8⟩, aa3, aa4, aa5⟩⟩ := id p1
      have hxX : hx ∈ X := by rw [c1]; exact List.mem_append_right _ List.mem_cons_self
      have eXX : X = (X1 ++ [hx]) ++ X2 := by rw [c1, List.append_assoc]; rfl
      have Y1l : (X1 ++ [hx]).length = X1.length + 1 := by rw [List.length_append]; rfl
      have Y1d : y_dp (X1 ++ [hx]) = y_dp X1 + 1 := by
        rw [y_dp_app]
        show y_dp X1 + (0 + (if hx.1.1 < 7 then 0 else 1)) = _
        rw [h8, if_neg (by decide)]
      have p1' := p1
      rw [eXX] at p1'
      have g0 := y_Gr.drop (X1 ++ [hx]) _ p1'
      rw [y_iv_iv] at g0
      have g1 := g0.iv (U' := z_v (z_v (y_iv 96 (nI X2.length) R).2.2 41 98 (fu + 1)) 41 100 (nI (dp - y_dp X1))) (fu' := fu + 1) (th' := th) (dp' := dp - y_dp X1) (fun a k hk => by
        rw [z_vn (fun q => hk ⟨q.1, by omega⟩), z_vn (fun q => hk ⟨q.1, by omega⟩)]) (by rw [z_vn (by decide), z_vk]) (by rw [z_vn (by decide), z_vn (by decide), y_iv_n (by decide)]; exact u99) z_vk (Nat.le_refl _) th1 (by omega)
      have pxY : y_Px (y_aw R2) aw (X1 ++ [hx]) := by
        have gen : ∀ (Z : y_X), Z.length ≤ X.length - X2.length → y_Px (y_do R) X2.length Z → y_Px (y_aw R2) aw Z := by
          intro Z
          induction Z with
          | nil => intro _ _; trivial
          | cons z Z ih =>
            intro hz hq
            rw [List.length_cons] at hz
            exact ⟨(wpa Z.length (by omega)).trans hq.1, ih (by omega) hq.2⟩
        refine gen _ (by omega) ((y_Px_app X1).mpr ⟨px1, ?_⟩)
        exact ⟨pxh, trivial⟩
      have g2 := g1.add (R' := R2) (rr' := z_rq S1) (rd' := rd + (5 + (tp0 - fb (y_dp X1)))) (th' := th + 1 + (y_dp X1 + 1)) (aw' := aw + (X.length - X2.length)) (pd1 := y_dp X1 + 1) (cp1 := ph0 + 4601) (fg' := (rd + 1) :: fg) (t0 := z_fz tt tth) (cs1 := []) (Y1 := X1 ++ [hx]) (al' := al) (fun q hq => w1 q hq) w3 w4 (fun a k hk => by
          show R2.2.2 a k = z_v (z_v (z_v R.2.2 41 96 (nI X2.length)) 41 98 (fu + 1)) 41 100 (nI (dp - y_dp X1)) a k
          by_cases q1 : a = 41 ∧ k = 100
          · rw [q1.1, q1.2, z_vk, w100]
          · rw [z_vn q1]
            by_cases q2 : a = 41 ∧ k = 98
            · rw [q2.1, q2.2, z_vk, w98]
            · rw [z_vn q2]
              by_cases q3 : a = 41 ∧ k = 96
              · rw [q3.1, q3.2, z_vk, w96]
              · rw [z_vn q3]
                exact w5 a k (fun q => by omega)) w97 w99 w114 (fun c _ => sB0 c) ⟨cc, fl', ⟨by rw [w5 41 77 (by decide)]; exact aa1, aa2, by rw [nx2, w5 41 122 (by decide)]; exact aa6, aa7⟩, aa8⟩ (fun c hc => by
          rcases hc with hc | hc | ⟨e, he, hc⟩ | ⟨f, hf, hc | ⟨e, he, hc⟩⟩
          · exact aa3 c hc
          · cases hc
          · exact aa4 e (by rw [eXX]; exact List.mem_append_right _ he) c hc
          · exact (aa5 f hf).1 c hc
          · exact (aa5 f hf).2 e he c hc) ⟨fun c hc => (by cases hc), fun e he => aa4 e (by rw [eXX]; exact List.mem_append_left _ he)⟩ (fun x hx => q2 x hx) (by omega) (fun x q => List.mem_cons_of_mem _ q) (fun x hx q => by
          cases q with
          | head => omega
          | tail _ q => exact q) (fun x q => by
          cases q with
          | head => omega
          | tail _ q => have := fg0 x q; omega) waw (by omega) ⟨by omega, by omega, by omega, by omega, by omega⟩
        (Or.inr ⟨⟨w119, w120, e - 1, tt, tth, ⟨hrk.1.1, by omega, e7⟩, ⟨by omega, fun q => by
            cases q with
            | tail _ q => have := fg0 _ q; omega, List.mem_cons_self, fun q => by
            cases q with
            | tail _ q => have := fg0 _ q; omega, hrk.1.2.2.1, by omega⟩, rfl, Or.inr ⟨w124, hrk.1.2.1, bs - fb (y_dp X1), tp0 - fb (y_dp X1), aw, ⟨hrk.1.2.2.2.1, hrk.1.2.2.2.2, by omega, fun k k1 k2 q => by
            rcases List.mem_cons.mp q with q | q
            · omega
            · have := fg0 _ q
              omega⟩, ⟨w121, by rw [w122, Y1l]; congr 1; omega, w123, by omega, pxY, Y1d⟩, X1, hx, D, k, p', en0, tl0, cv0, ph0, rfl, by rw [show e - 1 + 1 = e by omega]; exact s8, Nat.le_refl _, dn4⟩⟩, rfl⟩)
      have g3 := g2.pt (x := ((9, nI m, 0, -1), [])) rfl (fun c hc => by cases hc) (by omega) ⟨LX, xx6, fun e he => by
        cases he with
        | head => intro c hc; cases hc
        | tail _ he => exact xx7 e (by rw [eXX]; exact List.mem_append_right _ he)⟩
      have g3 : y_Gr b n τ A1 B1 A2 ce R0 (z_rq S1) (rd + (5 + (tp0 - fb (y_dp X1)))) (fu + 1) (th + 1 + (y_dp X1 + 1)) (dp - y_dp X1) (((9, nI m, 0, -1), []) :: X2) cs0 al (y_up φ F rd) (y_up ψ F (z_fz tt tth)) (F + 1) ((rd + 1) :: fg) (y_up fc F []) (y_up Y F (X1 ++ [hx])) (y_up pd F (y_dp X1 + 1)) (y_up cp F (ph0 + 4601)) (aw + (X.length - X2.length)) (y_pc X.length X2.length F th (y_dp X1) aw dp m fu R) := by rw [hpc]; exact g3
      have cB : ∀ q, 98 ≤ q → q ≤ 101 → (y_pc X.length X2.length F th (y_dp X1) aw dp m fu R).1 q = R.1 q := by
        intro q a d
        rw [hpc]
        show z_u (z_u (z_u (z_u R2.1 111 ((X2.length, 9) :: R2.1 111)) 112 ((X2.length, nI m) :: R2.1 112)) 113 ((X2.length, 0) :: R2.1 113)) 114 ((X2.length, -1) :: R2.1 114) q = R.1 q
        rw [z_un (by omega), z_un (by omega), z_un (by omega), z_un (by omega)]
        exact w2 q a d
      have sBc : ∀ c, y_sB R.1 (y_pc X.length X2.length F th (y_dp X1) aw dp m fu R).1 c := fun c => y_sB.of cB
      have lkh : y_lk (y_nx R.1) hx.1.2.2.2 hx.2 := xx5 hx hxX
      have alh := aa4 hx hxX
      obtain ⟨le1, le2, le3⟩ := y_en.len _ _ _ _ env
      obtain ⟨R3, j, hn1, kr1⟩ := y_g6 (n := nI most) (f0 := f0) hl fz1 u98 h68 (by omega) hnx r111 r112 hm2 hcl' hfd' o1 hcu u99 ht u114 (by omega) u97 (by omega) u100 (by omega) (by
        have := g3.as (x4 := hx.1.2.2.2) (cs' := hx.2) (lkh.sB (fun c _ => sBc c)) (by omega) alh
        rw [← r114] at this
        exact this)
      rw [r114] at hn1
      obtain ⟨g4, sB1'⟩ := g3.nd hn1
      obtain ⟨j1, ⟨n98, n99, n100, n101⟩, -⟩ := hn1
      have sB1 : ∀ c, y_Lv cs0 hx.2 (((9, nI m, 0, -1), []) :: X2) (F + 1) (y_up fc F []) (y_up Y F (X1 ++ [hx])) c → y_sB R.1 R3.1 c := fun c hc q a d => by rw [sB1' c hc q a d, cB q a d]
      have lk1 : y_lk (y_nx R3.1) (nI j) (j :: hx.2) := by
        refine ⟨rfl, j1, ?_⟩
        rw [show y_nx R3.1 j = hx.1.2.2.2 from n101]
        exact lkh.sB (fun c hc => sB1 c (Or.inr (Or.inl hc)))
      obtain ⟨R4, j2, hn2, kr2⟩ := kr1 _ _ _ (g4.as (x4 := nI j) (cs' := j :: hx.2) lk1 (by rw [List.length_cons]; omega) (fun c hc => by
        cases hc with
        | head => exact Or.inr rfl
        | tail _ hc => exact Or.inl (Or.inr (Or.inl hc))))
      obtain ⟨g5, sB2'⟩ := g4.nd hn2
      obtain ⟨k1, ⟨l98, l99, l100', l101⟩, -⟩ := hn2
      have sB2 : ∀ c, c ∈ hx.2 ∨ (∃ e, e ∈ X2 ∧ c ∈ e.2) → y_sB R.1 R4.1 c := fun c hc q a d => by
        rcases hc with hc | ⟨e, he, hc⟩
        · rw [sB2' c (Or.inr (Or.inl (List.mem_cons_of_mem _ hc))) q a d, sB1 c (Or.inr (Or.inl hc)) q a d]
        · rw [sB2' c (Or.inr (Or.inr (Or.inl ⟨e, List.mem_cons_of_mem _ he, hc⟩))) q a d, sB1 c (Or.inr (Or.inr (Or.inl ⟨e, List.mem_cons_of_mem _ he, hc⟩))) q a d]
      have sBj : y_sB R3.1 R4.1 j := sB2' j (Or.inr (Or.inl List.mem_cons_self))
      refine y_J.re ?_ kr2
      rw [rB 77 (by decide) (by decide), o12]
      have lk2 : y_lk (y_nx R4.1) (nI j2) (j2 :: j :: hx.2) := by
        refine ⟨rfl, k1, ?_⟩
        rw [show y_nx R4.1 j2 = nI j from l101]
        exact lk1.sB (fun c hc => sB2' c (Or.inr (Or.inl hc)))
      have g6 := g5.wk (m := nI gc) (nm := nI j2) (cs' := j2 :: j :: hx.2) lk2 (by rw [List.length_cons, List.length_cons]; omega) (fun c hc => by
        cases hc with
        | head => exact Or.inr rfl
        | tail _ hc => exact Or.inl (Or.inr (Or.inl hc)))
      have hwk := y_wk_u (R := R4) (x := nI gc) (nm' := nI j2)
      have hwm := o14.1.mod
      have hw4 := o14.1.1
      have f5 := frh.2.2.2.2.1
      have f4 := frh.2.2.2.1
      have rqD : ∀ k, k ≤ Dh.2.1 → z_rq S1 (Dh.1 + k) = z_rq S (Dh.1 + k) := fun k hk => q2 _ (by omega)
      have frN : y_Fr A1 A2 ce (z_rq S1) (rd + (5 + (tp0 - fb (y_dp X1)))) ((rd + 1) :: fg) (z_mm S1) (fb (y_dp X1) + 4 + Dh.2.2.2.1) (fb (y_dp X1)) Dh := by
        refine ⟨frh.1, by rw [mo _ (by omega) (by omega) (by omega)]; exact frh.2.1, ?_, by omega, fun k hk q => ?_, frh.2.2.2.2.2⟩
        · obtain ⟨mk, g1, g2⟩ := frh.2.2.1
          have := rqD 0 (Nat.zero_le _)
          rw [Nat.add_zero] at this
          exact ⟨mk, by rw [this]; exact g1, g2⟩
        · rcases List.mem_cons.mp q with q | q
          · omega
          · exact f5 k hk q
      obtain ⟨bk, bl, D', kk, pp, en', tl', cv', ph', ⟨b1, b2, b3, b4, b5, b6⟩, b7, b8⟩ := hBe
      have sk := (y_SK.mo (S' := S1) (R' := y_wk (nI gc) (nI j2) R4) (T := fb (y_dp X1)) (fg' := (rd + 1) :: fg) (rd' := rd + (5 + (tp0 - fb (y_dp X1)))) (φ' := y_up φ F rd) (ψ' := y_up ψ F (z_fz tt tth)) (F' := F + 1) (fun x _ hx => mo x (by omega) (by omega) (by omega)) hr (by omega) y_vr.up (fun e he c hc => sB2 c (Or.inr ⟨e, he, hc⟩)) (Nat.le_refl _) b8).2
      have szc := o13.1.2
      refine kW ffh S1 _ ⟨fb (y_dp X1) + 4 + Dh.2.2.2.1, fb (y_dp X1), _, xc + 1, fu + 1, _, dp - y_dp X1, ((9, nI m, 0, -1), []) :: X2, j2 :: j :: hx.2, _, _, _, F + 1, _, _, _, _, _, _, phh, fl - 1, gc, yc, _, tth, wth - 4, vc, nI j2, Dh, 0, 0, [], ⟨hM, g6, ?_, ⟨fz3, by omega⟩, ?_⟩, ⟨g6.2.1.2.2.2.2.2.2, hwk.1, hwk.2.1, hwk.2.2, o11⟩, ⟨o14.2, by omega⟩, ⟨by rw [cx1, n5, n6], by omega, by omega, by rw [cx1, List.length_cons, List.length_cons, n5]; omega⟩, ?_, ⟨by omega, by omega, by omega, by rw [cx1, List.length_cons, List.length_cons]; omega, by omega⟩, ⟨j2 :: j :: hx.2, by rw [List.append_nil]⟩, 0, yc, rfl, m, rfl, hm6, rfl, Or.inr ⟨rfl, rfl, rfl, frN, Or.inl ⟨Or.inr (Or.inl rfl), ⟨rfl, rfl, m3, by omega⟩, ⟨25, o15, Or.inr (Or.inr (Or.inr rfl))⟩, bk, bl, D', kk, pp, en', tl', cv', ph', ⟨by rw [mo _ (by omega) (by omega) (by omega)]; exact b1, by rw [mo _ (by omega) (by omega) (by omega)]; exact b2, b3, b4, b5, b6⟩, b7, sk⟩⟩⟩ (by omega)
      · show y_dp X2 + (if (9 : Int32) < 7 then 0 else 1) = dp - y_dp X1
        rw [if_neg (by decide)]
        omega
      · rw [y_sm_up]
        omega
      · rw [cx1]
        refine ⟨rfl, k1, ?_, ?_, l101, j1, ?_, ?_, ?_⟩
        · rw [show z_fn 0 ((y_wk (nI gc) (nI j2) R4).1 98) j2 = _ from l98, show z_fn 0 ((y_wk (nI gc) (nI j2) R4).1 99) j2 = _ from l99, rB 75 (by decide) (by decide), rB 76 (by decide) (by decide)]
          exact o8
        · rw [show z_fn 0 ((y_wk (nI gc) (nI j2) R4).1 100) j2 = _ from l100', ← e10]
          show y_vr _ _ _ _ (y_va (z_rq S1) (z_mm S1) (fb (y_dp X1)) Dh ((z_ctx A1 sh).1.length + 1)) _
          unfold y_va
          rw [if_pos (by rw [n5]; exact Nat.le_succ _), n5, Nat.add_sub_cancel_left]
          exact Or.inr ⟨F, Nat.lt_succ_self _, rfl, by rw [y_up_s]; exact m5, by rw [y_up_s], tt, tth, rfl⟩
        · rw [show z_fn 0 ((y_wk (nI gc) (nI j2) R4).1 98) j = _ from sBj 98 (by decide) (by decide), show z_fn 0 ((y_wk (nI gc) (nI j2) R4).1 99) j = _ from sBj 99 (by decide) (by decide), n98, n99, rB 73 (by decide) (by decide), rB 74 (by decide) (by decide)]
          exact o7
        · rw [show z_fn 0 ((y_wk (nI gc) (nI j2) R4).1 100) j = _ from sBj 100 (by decide) (by decide), n100]
          show y_vr _ _ _ _ (y_va (z_rq S1) (z_mm S1) (fb (y_dp X1)) Dh (z_ctx A1 sh).1.length) _
          unfold y_va
          rw [if_pos (by rw [n5]; exact Nat.le_refl _), n5, Nat.sub_self, Nat.add_zero, m4]
          exact y_vr.up _ _ _ hv
        · rw [show z_fn 0 ((y_wk (nI gc) (nI j2) R4).1 101) j = _ from sBj 101 (by decide) (by decide), n101]
          refine y_en.mo y_vr.up _ _ _ _ (fun k hk => ?_) (fun c hc => sB2 c (Or.inl hc)) env
          have hk : k < (z_ctx A1 sh).1.length := hk
          unfold y_va
          rw [if_neg (by rw [n5]; omega), if_neg (by rw [n5]; omega), Nat.add_assoc, rqD (1 + k) (by rw [n5]; omega)]
    · refine g_perfe (n := y_dp X1) (ef := efc) (st := 5) (un := -1) (cl := fun _ => xc) d1 hp.2.1.1 hu.2.2 op16 a15 fz2 (by omega) dp4 th1 hfb1 (by omega) c2 (fun q => ⟨Or.inr ⟨sh, y_pos rh (hh + 1), n1, by omega, hcc', by rw [y_pos_len]; exact hl8, by rw [h17]; exact hfe.symm⟩, by omega⟩) (Or.inr ⟨by omega, rfl, rfl, by omega⟩) (fun S1 hz => ?_)
      refine y_g6f hl fz1 u98 h68 (by omega) hnx r111 r112 hm2 hcl' hfd' o1 hcu u99 (by omega) (by omega) ?_
      exact kE S1 _ _ (y_En.mk hz (rfE 5) y_iv_k ((y_iv_n (by decide)).trans y_cs_98) ((y_iv_n (by decide)).trans ((y_cs_n (by decide) (by decide)).trans u99)) ((y_iv_n (by decide)).trans ((y_cs_n (by decide) (by decide)).trans u100)) (by decide))
end YPF
