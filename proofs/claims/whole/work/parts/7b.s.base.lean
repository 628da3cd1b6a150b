/-! The relation between the calls. -/
/-- the class's machine is the same -/
def y_SM (S S' : z_CS) : Prop := (S'.1 39 = S.1 39 ∧ S'.1 40 = S.1 40) ∧ (S'.2.2.1 39 = S.2.2.1 39 ∧ S'.2.2.1 40 = S.2.2.1 40) ∧ ∀ j, S'.2.2.2.1 38 j = S.2.2.2.1 38 j
/-- the reference's machine is the same -/
def y_SR (R R' : z_RS) : Prop := (∀ q, (98 ≤ q ∧ q ≤ 101) ∨ (111 ≤ q ∧ q ≤ 125) → R'.1 q = R.1 q) ∧ ∀ k, k = 77 ∨ (94 ≤ k ∧ k ≤ 105) ∨ k = 114 ∨ k = 122 → R'.2.2 41 k = R.2.2 41 k
section YBS
variable {b : Nat → Nat} {n : Nat} {τ : z_TT} {A1 B1 A2 : Nat → List (Nat × Int32)} {S0 : z_CS} {R0 : z_RS} {ce : Nat} {tt0 : z_F} {most : Nat} {f0 : Int32}
variable {S S' : z_CS} {R R' : z_RS} {tp bs rd pc : Nat} {fu : Int32} {th dp : Nat} {X : y_X} {cs0 : List Nat} {al : Nat → Prop} {φ : Nat → Nat} {ψ : Nat → z_F} {F : Nat} {fg : List Nat} {fc : Nat → List Nat} {Y : Nat → y_X} {pd cp : Nat → Nat} {aw ph fl Ψ : Nat}
theorem y_SM.e (h : y_SM S S') : z_mm S' = z_mm S ∧ z_rq S' = z_rq S := by
  constructor
  · funext x
    unfold z_mm
    rw [h.1.1]
  · funext x
    unfold z_rq
    rw [h.1.2]
theorem z_Mc.re (h : z_Mc S0 tp bs rd pc fu th dp S) (hm : y_SM S S') (hk : z_Rk S'.2.2.1 S'.2.2.2.2.2) (hw : S'.2.2.2.2.1 < 107) : z_Mc S' tp bs rd pc fu th dp S' := by
  obtain ⟨-, ⟨h1, h2⟩, ⟨v2, v3, v5, v6⟩, ⟨v7, v8, v9⟩, v10, v11, v12⟩ := h
  obtain ⟨-, ⟨n1, n2⟩, vv⟩ := hm
  exact ⟨⟨fun _ _ _ => rfl, rfl, fun _ _ _ => rfl, fun _ _ _ => rfl, ⟨rfl, hw⟩, hk, z_Gw.rf⟩, ⟨by rw [n1]; exact h1, by rw [n2]; exact h2⟩, ⟨(vv 2).trans v2, (vv 3).trans v3, (vv 5).trans v5, (vv 6).trans v6⟩, ⟨(vv 7).trans v7, (vv 8).trans v8, (vv 9).trans v9⟩, (vv 10).trans v10, (vv 11).trans v11, (vv 12).trans v12⟩
theorem y_Gr.re (h : y_Gr b n τ A1 B1 A2 ce R0 (z_rq S) rd fu th dp X cs0 al φ ψ F fg fc Y pd cp aw R) (hr : y_SR R R') : y_Gr b n τ A1 B1 A2 ce R' (z_rq S) rd fu th dp X cs0 al φ ψ F fg fc Y pd cp aw R' := by
  obtain ⟨-, ⟨i1, i2, i3, i4, i5, i6, i7⟩, h3, h4, ⟨x1, ⟨x2, x3⟩, x5, x6⟩, ⟨⟨cc, fl, ⟨a1, a2, a6, a7⟩, a8⟩, a3, a4, a5⟩⟩ := h
  obtain ⟨r1, r2⟩ := hr
  have sB : ∀ c, y_sB R.1 R'.1 c := fun c => y_sB.of (fun q a d => r1 q (by omega))
  have nx : y_nx R'.1 = y_nx R.1 := by
    funext d
    unfold y_nx
    rw [r1 101 (by omega)]
  refine ⟨⟨fun _ _ => rfl, rfl, fun _ _ _ => rfl⟩, ⟨(r2 96 (by omega)).trans i1, (r2 97 (by omega)).trans i2, (r2 98 (by omega)).trans i3, (r2 99 (by omega)).trans i4, (r2 100 (by omega)).trans i5, (r2 114 (by omega)).trans i6, (r2 94 (by omega)).trans i7⟩, h3, h4.mo (fun _ _ => rfl) (Nat.le_refl _) (fun q a c => r1 q (by omega)) (fun f hf => ⟨fun c _ => sB c, fun e _ c _ => sB c⟩), ⟨x1.mo X (fun k _ => ?_), ⟨by rw [nx, r2 103 (by omega)]; exact x2, x3⟩, fun e he => by rw [nx]; exact x5 e he, x6⟩, ⟨⟨cc, fl, ⟨(r2 77 (by omega)).trans a1, a2, by rw [nx, r2 122 (by omega)]; exact a6, a7⟩, a8⟩, a3, a4, a5⟩⟩
  unfold y_do
  rw [r1 111 (by omega), r1 112 (by omega), r1 113 (by omega), r1 114 (by omega)]
theorem y_Cr.re {most' ph0 : Nat} (h : y_Cr b n τ A1 B1 A2 S0 R0 ce most f0 tp bs rd pc fu th dp X cs0 al φ ψ F fg fc Y pd cp aw ph fl Ψ S R) (hm : y_SM S S') (hr : y_SR R R') (hk : z_Rk S'.2.2.1 S'.2.2.2.2.2) (hw : S'.2.2.2.2.1 < 107) (h2 : most' ≤ 2000) (hp0 : ph0 ≤ 4601 * dp) : y_Cr b n τ A1 B1 A2 S' R' ce most' (R'.2.2 41 98) tp bs rd pc fu th dp X cs0 al φ ψ F fg fc Y pd cp aw ph0 most' 16000000 S' R' := by
  obtain ⟨c1, c2, c3, c4, c5⟩ := h
  have g := c2.re hr
  have e := hm.e.2
  have n1 := c2.2.2.1
  refine ⟨c1.re hm hk hw, by rw [e]; exact g, c3, ⟨?_, Nat.le_refl _⟩, ?_⟩
  · rw [g.2.1.2.2.1, Int32.sub_self, Nat.sub_self]
    rfl
  · obtain ⟨a1, a2, -, -, -, -, a7⟩ := n1
    omega
theorem y_V.re {most' : Nat} (h : y_V b n τ A1 B1 A2 S0 R0 ce tt0 most f0 Ψ S R) (hm : y_SM S S') (hr : y_SR R R') (hk : z_Rk S'.2.2.1 S'.2.2.2.2.2) (hw : S'.2.2.2.2.1 < 107) (h2 : most' ≤ 2000) : y_V b n τ A1 B1 A2 S' R' ce tt0 most' (R'.2.2 41 98) 16000000 S' R' := by
  obtain ⟨tp, bs, rd, pc, fu, th, dp, X, cs0, al, φ, ψ, F, fg, fc, Y, pd, cp, aw, ph, fl, k, p, t, v, D, en, tl, cv, hC, hu, hA, hK, hv⟩ := h
  obtain ⟨-, -, -, -, -, -, ⟨ph0, -, p2, p3⟩, -⟩ := hK.bd
  obtain ⟨e1, e2⟩ := hm.e
  rw [hC.2.2.1] at p2
  have sB : ∀ c, y_sB R.1 R'.1 c := fun c => y_sB.of (fun q a d => hr.1 q (by omega))
  refine ⟨tp, bs, rd, pc, fu, th, dp, X, cs0, al, φ, ψ, F, fg, fc, Y, pd, cp, aw, ph0, most', k, p, t, v, D, en, tl, cv, hC.re hm hr hk hw h2 p2, ⟨(hr.2 105 (by omega)).trans hu.1, (hr.2 104 (by omega)).trans hu.2.1, hu.2.2⟩, hA, (y_SK.mo (T := tp) (R' := R') (fun x _ _ => congrFun e1 x) (fun x _ q => ⟨congrFun e2 x, q⟩) (Nat.le_refl _) (fun _ _ _ q => q) (fun _ _ c _ => sB c) (Nat.le_refl _) p3).2, by rw [e1]; exact hv⟩
theorem y_W.re {most' f : Nat} (h : y_W b n τ A1 B1 A2 S0 R0 ce tt0 most f0 f Ψ S R) (hm : y_SM S S') (hr : y_SR R R') (hk : z_Rk S'.2.2.1 S'.2.2.2.2.2) (hw : S'.2.2.2.2.1 < 107) (h2 : most' ≤ 2000) : y_W b n τ A1 B1 A2 S' R' ce tt0 most' (R'.2.2 41 98) f 16000000 S' R' := by
  obtain ⟨tp, bs, rd, pc, fu, th, dp, X, cs0, al, φ, ψ, F, fg, fc, Y, pd, cp, aw, ph, fl, m, e, Γ, tt, wt, u, nm, D, en, tl, cv, hC, hW, ⟨hct, hce⟩, hB⟩ := h
  have sB : ∀ c, y_sB R.1 R'.1 c := fun c => y_sB.of (fun q a d => hr.1 q (by omega))
  obtain ⟨s1, s5, s6, s7, k, p, s8, s9⟩ := id hB
  obtain ⟨-, -, -, -, -, -, ⟨ph0, -, p2, p3⟩, -⟩ := s9.bd
  obtain ⟨e1, e2⟩ := hm.e
  rw [hC.2.2.1] at p2
  have rg := z_Ct.rg hct
  have hB0 : y_Bs b n A1 ce (z_rq S) R.1 (y_vr φ ψ F) (z_mm S) (y_SK b n τ A1 B1 A2 ce tt0 rd φ ψ F fg X S R) D tp bs pc e Γ tt wt u cs0 nm en tl cv ph0 := ⟨s1, s5, s6, s7, k, p, s8, p3⟩
  have hB1 := y_BS.mo (S' := S') (R' := R') (T := tp) (fg' := fg) (fun x _ _ => congrFun e1 x) (fun x _ q => ⟨congrFun e2 x, q⟩) (Nat.le_refl _) (fun _ _ _ q => q) (fun _ _ c _ => sB c) (fun c _ => sB c) (Nat.le_refl _) (Nat.le_of_lt rg.1) hB0
  obtain ⟨w1, w2, w3, w4, w5⟩ := hW
  exact ⟨tp, bs, rd, pc, fu, th, dp, X, cs0, al, φ, ψ, F, fg, fc, Y, pd, cp, aw, ph0, most', m, e, Γ, tt, wt, u, nm, D, en, tl, cv, hC.re hm hr hk hw h2 p2, ⟨(hr.2 94 (by omega)).trans w1, (hr.2 105 (by omega)).trans w2, (hr.2 102 (by omega)).trans w3, (hr.2 103 (by omega)).trans w4, w5⟩, ⟨hct, hce⟩, hB1⟩
/-- the program is the same -/
theorem y_Pg.re {most' : Nat} (h : y_Pg b n A1 B1 A2 S R ce tt0 most) (h1 : ∀ k, 14 ≤ k → k ≤ 19 → S'.1 k = S.1 k) (h2 : ∀ k, 14 ≤ k → k ≤ 19 → S'.2.2.1 k = S.2.2.1 k) (h3 : S'.2.2.2.1 13 8 = S.2.2.2.1 13 8) (h4 : ∀ k, k = 44 ∨ (57 ≤ k ∧ k ≤ 79) → R'.1 k = R.1 k) (h5 : R'.2.2 41 92 = R.2.2 41 92) (h6 : most' ≤ 2000) : y_Pg b n A1 B1 A2 S' R' ce tt0 most' := by
  obtain ⟨a1, ⟨⟨a2, a3⟩, a4⟩, a5, ⟨a6, a7⟩, a8, a9, a10⟩ := h
  refine ⟨a1, ⟨⟨a2, fun k q1 q2 => by rw [h2 k q1 q2]; exact a3 k q1 q2⟩, fun k q1 q2 => (h1 k q1 q2).trans (a4 k q1 q2)⟩, fun k q1 q2 => (h4 k (Or.inr ⟨q1, q2⟩)).trans (a5 k q1 q2), ⟨by rw [h4 44 (Or.inl rfl)]; exact a6, a7⟩, h6, ?_, ?_⟩
  · rw [h3, h5]
    exact a9
  · rw [h3]
    exact a10
end YBS
/-- the class's state, out of what the law keeps -/
def y_dS (d : z_Dd) : z_CS := (d.1.1, d.1.2.1, d.1.2.2.1, d.1.2.2.2.1, d.1.2.2.2.2, d.2.2.2)
/-- the machines, between the calls -/
def y_I6 (d : z_Dd) : Prop := d.1.2.2.2.1 38 7 = 1 → ∃ (b : Nat → Nat) (n : Nat) (τ : z_TT) (A1 B1 A2 : Nat → List (Nat × Int32)) (ce : Nat) (tt0 : z_F), y_Pg b n A1 B1 A2 (y_dS d) d.2.1 ce tt0 0 ∧ ∃ (S0 : z_CS) (R0 : z_RS) (most : Nat) (f0 : Int32) (Ψ : Nat) (S : z_CS) (R : z_RS), ((∃ f, y_W b n τ A1 B1 A2 S0 R0 ce tt0 most f0 f Ψ S R) ∨ y_V b n τ A1 B1 A2 S0 R0 ce tt0 most f0 Ψ S R) ∧ y_SM S (y_dS d) ∧ y_SR R d.2.1
theorem y_I6.sm : ∀ d d', z_Fx d d' → y_I6 d → y_I6 d' := by
  intro d d' hf h h7
  obtain ⟨f1, f2, f3, f4, f5, f6, f7, f8, f9⟩ := hf
  obtain ⟨b, n, τ, A1, B1, A2, ce, tt0, hp, S0, R0, most, f0, Ψ, S, R, hwv, ⟨⟨m1, m2⟩, ⟨m3, m4⟩, m5⟩, r1, r2⟩ := h (by rw [f4 38 7 (by decide)] at h7; exact h7)
  refine ⟨b, n, τ, A1, B1, A2, ce, tt0, hp.re (fun k _ _ => f1 k (by omega) (by omega)) (fun k _ _ => congrFun f3 k) (f4 13 8 (by decide)) (fun k hk => f6 k (by omega) (by omega)) (f8 41 92 (by decide)) (by decide), S0, R0, most, f0, Ψ, S, R, hwv, ⟨⟨(f1 39 (by decide) (by decide)).trans m1, (f1 40 (by decide) (by decide)).trans m2⟩, ⟨(congrFun f3 39).trans m3, (congrFun f3 40).trans m4⟩, fun j => (f4 38 j (by omega)).trans (m5 j)⟩, fun q hq => (f6 q (by omega) (by omega)).trans (r1 q hq), fun k hk => (f8 41 k (by omega)).trans (r2 k hk)⟩
theorem y_I6.nb : ∀ d : z_Dd, d.1.2.2.2.1 38 7 = 0 → d.2.1.2.2 41 94 = 0 → y_I6 d := by
  intro d h _ h7
  rw [h] at h7
  exact absurd h7 (by decide)
