/-! Both run together: atoms; the first part of a node. -/
/-- a name looked up by the reference -/
theorem y_en.get {b : Nat → Nat} {n : Nat} {vr : z_F → Int32 → Int32 → Prop} {val : Nat → Int32} {R : z_RS} {q x w : Int32} (hT : z_Tr (R.1 44) b n) (hq : z_Nm b n q x w) : ∀ (cs : List Nat) (L : List Int32) (Γ : List z_F) (nm : Int32) (k : Nat) (t : z_F), y_en b n R.1 vr val cs L Γ nm → z_wl x L = some k → z_gi Γ k = some t → k < L.length ∧ ∃ c, c < 200000 ∧ vr t (val k) (z_fn 0 (R.1 100) c) ∧ ∀ (l : Nat) (x3 : Int32) (Q : Option Value → z_RS → Prop), Q (some (.int (nI c))) R → z_WR (l + 1) 197 3 [(0, .ref 148), (1, .int q), (2, .int w), (3, .int x3), (4, .int nm)] [] R Q := by
  intro cs
  induction cs with
  | nil =>
    intro L Γ nm k t h h1 _
    cases L with
    | nil => cases h1
    | cons => exact h.elim
  | cons c r ih =>
    intro L Γ nm k t h h1 h2
    cases L with
    | nil => exact h.elim
    | cons y L =>
      cases Γ with
      | nil => exact h.elim
      | cons t0 Γ =>
        obtain ⟨rfl, e2, e3, e4, e5⟩ := h
        obtain ⟨l1, l2, -⟩ := y_en.len _ _ _ _ e5
        have ck : (nI c).toNatClampNeg = c := nI_clamp (by omega)
        have zi : z_in (nI c) 200000 = true := z_inI e2 (by decide)
        have h1 : (if y = x then some L.length else z_wl x L) = some k := h1
        have h2 : (if Γ.length = k then some t0 else z_gi Γ k) = some t := h2
        by_cases e : y = x
        · rw [if_pos e] at h1
          have ek := Option.some.inj h1
          subst ek
          rw [if_pos l2] at h2
          have et := Option.some.inj h2
          subst et
          refine ⟨Nat.lt_succ_self _, c, e2, e4, fun l x3 Q hQ => ?_⟩
          refine t197_3 (B := R.1) (M := R.2.1) (U := R.2.2) ?_
          unfold p197_3
          rw [if_neg (nI_pos (by omega))]
          unfold p197_8
          rw [ck]
          refine ⟨zi, zi, w153 hT hq e3 ?_⟩
          intro z hz
          refine ⟨z, rfl, ?_⟩
          unfold p197_28
          rcases hz with ⟨rfl, -⟩ | ⟨rfl, q'⟩
          · rw [if_neg (by decide)]
            exact hQ
          · exact absurd e q'
        · rw [if_neg e] at h1
          have lk : ∀ (L : List Int32) k, z_wl x L = some k → k < L.length := by
            intro L
            induction L with
            | nil => intro k q; cases q
            | cons y L ih =>
              intro k q
              have q : (if y = x then some L.length else z_wl x L) = some k := q
              by_cases e : y = x
              · rw [if_pos e] at q
                rw [← Option.some.inj q]
                exact Nat.lt_succ_self _
              · rw [if_neg e] at q
                exact Nat.lt_succ_of_lt (ih k q)
          have kl := lk L k h1
          rw [if_neg (by omega)] at h2
          obtain ⟨i1, c', i2, i3, i4⟩ := ih L Γ _ k t e5 h1 h2
          refine ⟨Nat.lt_succ_of_lt i1, c', i2, i3, fun l x3 Q hQ => ?_⟩
          refine t197_3 (B := R.1) (M := R.2.1) (U := R.2.2) ?_
          unfold p197_3
          rw [if_neg (nI_pos (by omega))]
          unfold p197_8
          rw [ck]
          refine ⟨zi, zi, w153 hT hq e3 ?_⟩
          intro z hz
          refine ⟨z, rfl, ?_⟩
          unfold p197_28
          rcases hz with ⟨rfl, q'⟩ | ⟨rfl, -⟩
          · exact absurd q' e
          · rw [if_pos rfl]
            unfold p197_31
            rw [ck]
            exact ⟨zi, i4 l x3 Q hQ⟩
theorem y_b15 {R : z_RS} {Q : Option Value → z_RS → Prop} {n f0 nm : Int32} {m c : Nat} (h : y_Wk m nm R) (hk : z_fn 0 (R.1 57) m = 15) (hc : c < 200000) (hf : ∀ (l : Nat) (x3 : Int32) (Q : Option Value → z_RS → Prop), Q (some (.int (nI c))) R → z_WR (l + 1) 197 3 [(0, .ref 148), (1, .int (z_fn 0 (R.1 64) m)), (2, .int (z_fn 0 (R.1 65) m)), (3, .int x3), (4, .int nm)] [] R Q) (k : y_RL n f0 1 (y_gv (z_fn 0 (R.1 100) c) R) Q) : y_RL n f0 1 R Q := by
  have h5 := h.2.2.2.2
  refine h.go hk ?_
  rw [if_neg (by decide), if_neg (by decide), if_neg (by decide), if_neg (by decide), if_neg (by decide), if_neg (by decide), if_neg (by decide), if_neg (by decide), if_neg (by decide), if_neg (by decide), if_pos rfl]
  unfold p205_117
  rw [nI_clamp (by omega)]
  refine ⟨z_inI h5 (by decide), z_inI h5 (by decide), ?_⟩
  refine t197_0 (l := 9) ?_
  unfold p197_0
  refine hf 9 _ _ ⟨_, rfl, ?_⟩
  unfold p205_139
  rw [nI_clamp (by omega)]
  exact ⟨z_inI hc (by decide), r206 ⟨rfl, y_ret k⟩⟩
section YW
variable {b : Nat → Nat} {n : Nat} {τ : z_TT} {A1 B1 A2 : Nat → List (Nat × Int32)} {S0 : z_CS} {R0 : z_RS} {ce : Nat} {tt0 : z_F} {most : Nat} {f0 : Int32} {Φ : z_V → z_CS → Option Value → z_RS → Prop}
variable {S S' : z_CS} {R R' : z_RS} {tp bs rd pc : Nat} {fu : Int32} {th dp : Nat} {X : y_X} {cs0 : List Nat} {al : Nat → Prop} {φ : Nat → Nat} {ψ : Nat → z_F} {F : Nat} {fg : List Nat} {fc : Nat → List Nat} {Y : Nat → y_X} {pd cp : Nat → Nat} {aw ph fl Ψ m e : Nat} {Γ : List z_F} {tt : z_F} {wt : Nat} {u : z_Bd} {nm v : Int32} {D : y_D} {en tl : Nat} {cv : List Nat} {f i : Nat}
theorem y_BS.mo {rd' : Nat} {φ' : Nat → Nat} {ψ' : Nat → z_F} {F' : Nat} {fg' : List Nat} {T s : Nat} (hm : ∀ x, 2 ≤ x → x < T → z_mm S' x = z_mm S x) (hr : ∀ x, x < rd → ¬ x ∈ fg → z_rq S' x = z_rq S x ∧ ¬ x ∈ fg') (hrd : rd ≤ rd') (hv : ∀ t x y, y_vr φ ψ F t x y → y_vr φ' ψ' F' t x y) (hc : ∀ e, e ∈ X → ∀ c, c ∈ e.2 → y_sB R.1 R'.1 c) (hc0 : ∀ c, c ∈ cs0 → y_sB R.1 R'.1 c) (hT : tp ≤ T) (hse : s ≤ e) (h : y_Bs b n A1 ce (z_rq S) R.1 (y_vr φ ψ F) (z_mm S) (y_SK b n τ A1 B1 A2 ce tt0 rd φ ψ F fg X S R) D tp bs s e Γ tt wt u cs0 nm en tl cv ph) : y_Bs b n A1 ce (z_rq S') R'.1 (y_vr φ' ψ' F') (z_mm S') (y_SK b n τ A1 B1 A2 ce tt0 rd' φ' ψ' F' fg' X S' R') D tp bs s e Γ tt wt u cs0 nm en tl cv ph := by
  obtain ⟨⟨s1, s2, s3, s4⟩, s5, s6, s7, k, p', s8, s9⟩ := h
  obtain ⟨f1, f2⟩ := y_SK.mo hm hr hrd hv hc hT s9
  have hn := f1.nm s1 s2 (by omega)
  exact ⟨⟨s1, s2, s3, s4⟩, y_en.mo hv _ _ _ _ (y_va.mo (o := 0) hm hr hT f1 hn) hc0 s5, s6, s7, k, p', s8, f2⟩
theorem y_Bs.fr (h : y_Bs b n A1 ce (z_rq S) R.1 (y_vr φ ψ F) (z_mm S) (y_SK b n τ A1 B1 A2 ce tt0 rd φ ψ F fg X S R) D tp bs pc e Γ tt wt u cs0 nm en tl cv ph) : y_Fr A1 A2 ce (z_rq S) rd fg (z_mm S) tp bs D ∧ cs0.length ≤ 100 ∧ y_lk (y_nx R.1) nm cs0 ∧ X.length ≤ 326 * y_dp X + 325 ∧ tp ≤ 333 * y_dp X + 333 ∧ (bs ≤ tp ∧ bs ≤ 333 * y_dp X) ∧ ∃ L : List Nat, L.length ≤ 100 + 100 * y_dp X ∧ (∀ c, c ∈ cs0 → c ∈ L) ∧ ∀ e, e ∈ X → ∀ c, c ∈ e.2 → c ∈ L := by
  obtain ⟨s1, s5, s6, ⟨l, s7⟩, k, p', s8, s9⟩ := h
  obtain ⟨i1, i2, i3, i4, i5, i6, -, L, i10, i11⟩ := s9.bd
  obtain ⟨l1, l2, l3⟩ := y_en.len _ _ _ _ s5
  have h4 := s6.2.2.2.1
  refine ⟨s9.fr, by omega, l3, by omega, by omega, ⟨by omega, i3⟩, cs0 ++ L, by rw [List.length_append]; omega, fun c hc => List.mem_append_left _ hc, fun e he c hc => ?_⟩
  rcases i11 e he c hc with q | q
  · exact List.mem_append_left _ (by rw [s7]; exact List.mem_append_right _ q)
  · exact List.mem_append_right _ q
/-- a value has been pushed -/
theorem y_toV (hC : y_Cr b n τ A1 B1 A2 S0 R0 ce most f0 tp bs rd pc fu th dp X cs0 al φ ψ F fg fc Y pd cp aw ph fl Ψ S R) (hc4 : ce ≤ 4601) (hpe : pc < e) (he : e < ce) (hB : y_Bs b n A1 ce (z_rq S) R.1 (y_vr φ ψ F) (z_mm S) (y_SK b n τ A1 B1 A2 ce tt0 rd φ ψ F fg X S R) D tp bs pc e Γ tt wt u cs0 nm en tl cv ph) (hM : z_Mc S0 (tp + 1) bs rd e fu th dp S') (k1 : z_ke tp (z_mm S) (z_mm S')) (k2 : z_ke rd (z_rq S) (z_rq S')) (hv : y_vr φ ψ F tt (z_mm S' tp) v) : y_V b n τ A1 B1 A2 S0 R0 ce tt0 most f0 (Ψ - 1) S' (y_gv v R) ∧ 1 ≤ Ψ := by
  obtain ⟨c1, c2, c3, c4, c5⟩ := hC
  obtain ⟨s1, s5, s6, s7, k, p', s8, s9⟩ := hB
  refine ⟨⟨tp, bs, rd, e, fu, th, dp, X, cs0, al, φ, ψ, F, fg, fc, Y, pd, cp, aw, ph, fl, k, p', tt, v, D, en, tl, cv, ⟨hM, (c2.grw (fun x hx => k2 x hx) (Nat.le_refl _) c2.2.2.1.2.2.2.1).gv, c3, c4, by omega⟩, ⟨?_, ?_, he⟩, s8, (y_SK.mo (T := tp) (R' := y_gv v R) (fun x _ hx => k1 x hx) (fun x hx q => ⟨k2 x hx, q⟩) (Nat.le_refl _) (fun _ _ _ q => q) (fun _ _ _ _ => y_sB.rf) (Nat.le_refl _) s9).2, hv⟩, by omega⟩
  · show z_v (z_v R.2.2 41 104 v) 41 105 1 41 105 = 1
    rw [z_vk]
  · show z_v (z_v R.2.2 41 104 v) 41 105 1 41 104 = v
    rw [z_vn (by decide), z_vk]
/-- the first part of a node is begun, something waits for it -/
theorem y_toP {w : Int32} {x1 c p tl' : Nat} {v1 : z_Bd} {t : z_F} (hC : y_Cr b n τ A1 B1 A2 S0 R0 ce most f0 tp bs rd pc fu th dp X cs0 al φ ψ F fg fc Y pd cp aw ph fl Ψ S R) (hW : y_Wk m nm R) (hce : e < ce) (hm : pc < e ∧ u.1.1 ≤ m ∧ m < u.1.2) (hB : y_Bs b n A1 ce (z_rq S) R.1 (y_vr φ ψ F) (z_mm S) (y_SK b n τ A1 B1 A2 ce tt0 rd φ ψ F fg X S R) D tp bs pc e Γ tt wt u cs0 nm en tl cv ph) (hN : y_Nf b n τ A1 B1 (y_vr φ ψ F) (z_mm S) w 0 m f wt u pc e Γ tt tp tp p t tl tl') (hP : y_P b n τ A1 B1 f wt c v1 x1 pc p Γ t) (hx : x1 < 600) (hpe : p ≤ e) (hb : 2 * (en + 1) + (v1.1.2 - v1.1.1) ≤ 600 + tl' ∧ tl' + (wt - c) / 1000 ≤ 50 ∧ v1.1.2 ≤ 600) : y_W b n τ A1 B1 A2 S0 R0 ce tt0 most f0 f Ψ S (y_wk (nI x1) nm (y_pt X.length (w, nI m, 0, nm) R)) := by
  obtain ⟨c1, c2, c3, c4, c5⟩ := hC
  obtain ⟨hfr, l100, lk, Xl, tpl, bsl, L, L1, L2, L3⟩ := hB.fr
  have dp4 : dp ≤ 400 := c2.2.2.1.2.1
  have h7 : w < 7 := hN.w
  have m6 := hW.2.2.2.2
  have hal := c2.2.2.2.2.2.2.1
  obtain ⟨R1, hR1⟩ : ∃ X', X' = y_wk (nI x1) nm (y_pt X.length (w, nI m, 0, nm) R) := ⟨_, rfl⟩
  have bo : ∀ q, ¬ (111 ≤ q ∧ q ≤ 114) → R1.1 q = R.1 q := by
    intro q hq
    rw [hR1]
    show z_u (z_u (z_u (z_u R.1 111 ((X.length, w) :: R.1 111)) 112 ((X.length, nI m) :: R.1 112)) 113 ((X.length, 0) :: R.1 113)) 114 ((X.length, nm) :: R.1 114) q = R.1 q
    rw [z_un (by omega), z_un (by omega), z_un (by omega), z_un (by omega)]
  have sB : ∀ c, y_sB R.1 R1.1 c := fun c => y_sB.of (fun q a d => bo q (by omega))
  have gr := (c2.pt (x := ((w, nI m, 0, nm), cs0)) lk hal (by omega) ⟨L, by omega, fun e he => by
    cases he with
    | head => exact L2
    | tail _ he => exact L3 e he⟩).wk (m := nI x1) (nm := nm) (cs' := cs0) (by
      have : y_nx (y_pt X.length (w, nI m, 0, nm) R).1 = y_nx R.1 := by
        funext d
        unfold y_nx
        have := bo 101 (by omega)
        rw [hR1] at this
        rw [show (y_pt X.length (w, nI m, 0, nm) R).1 101 = R.1 101 from this]
      rw [this]
      exact lk) (by omega) hal
  have gr : y_Gr b n τ A1 B1 A2 ce R0 (z_rq S) rd fu th dp (((w, nI m, 0, nm), cs0) :: X) cs0 al φ ψ F fg fc Y pd cp aw R1 := by rw [hR1]; exact gr
  have hB1 := y_BS.mo (S' := S) (R' := R1) (T := tp) (fg' := fg) (fun _ _ _ => rfl) (fun x _ q => ⟨rfl, q⟩) (Nat.le_refl _) (fun _ _ _ q => q) (fun _ _ c _ => sB c) (fun c _ => sB c) (Nat.le_refl _) (Nat.le_of_lt hm.1) hB
  obtain ⟨⟨s1, s2, s3, s4⟩, s5, ⟨u1, u2, u3, u4, u5⟩, s7, s8⟩ := id hB1
  have hwm := hP.1.mod
  rw [← hR1]
  refine ⟨tp, bs, rd, pc, fu, th, dp, ((w, nI m, 0, nm), cs0) :: X, cs0, al, φ, ψ, F, fg, fc, Y, pd, cp, aw, ph, fl, x1, p, Γ, t, wt - c, v1, nm, D, en + 1, tl', cs0, ⟨c1, gr, ?_, c4, c5⟩, ⟨gr.2.1.2.2.2.2.2.2, ?_, ?_, ?_, hx⟩, ⟨hP.2, by omega⟩, ⟨s1, s2, by omega, s4⟩, s5, ⟨hb.1, hb.2.1, by omega, by omega, hb.2.2⟩, ⟨[], rfl⟩, 0, p, rfl, m, rfl, m6, rfl, Or.inl ⟨f, wt, u, pc, e, Γ, tt, tp, en, tl, cv, ⟨hm.1, hm.2.1, hm.2.2, hce⟩, hB1, rfl, hN⟩⟩
  · show y_dp X + (if w < 7 then 0 else 1) = dp
    rw [if_pos h7]
    exact c3
  · rw [hR1]
    show z_v (z_v (z_v (y_pt X.length (w, nI m, 0, nm) R).2.2 41 102 (nI x1)) 41 103 nm) 41 105 0 41 105 = 0
    rw [z_vk]
  · rw [hR1]
    show z_v (z_v (z_v (y_pt X.length (w, nI m, 0, nm) R).2.2 41 102 (nI x1)) 41 103 nm) 41 105 0 41 102 = nI x1
    rw [z_vn (by decide), z_vn (by decide), z_vk]
  · rw [hR1]
    show z_v (z_v (z_v (y_pt X.length (w, nI m, 0, nm) R).2.2 41 102 (nI x1)) 41 103 nm) 41 105 0 41 103 = nm
    rw [z_vn (by decide), z_vk]
end YW
