/-! Both run together: a value goes to what waits inside a frame. -/
theorem y_opk {k : Nat} (h1 : 5 ≤ k) (h2 : k ≤ 9) (x y : Int32) : z_op (k + 4) x y = y_rk k x y ∧ (7 < k → y_rk k x y = 0 ∨ y_rk k x y = 1) := by
  rcases (show k = 5 ∨ k = 6 ∨ k = 7 ∨ k = 8 ∨ k = 9 by omega) with rfl | rfl | rfl | rfl | rfl
  · unfold z_op y_rk
    rw [if_pos (by decide), if_pos (by decide)]
    exact ⟨rfl, fun q => absurd q (by decide)⟩
  · unfold z_op y_rk
    rw [if_neg (by decide), if_pos (by decide), if_neg (by decide), if_pos (by decide)]
    exact ⟨rfl, fun q => absurd q (by decide)⟩
  · unfold z_op y_rk
    rw [if_neg (by decide), if_neg (by decide), if_pos (by decide), if_neg (by decide), if_neg (by decide), if_pos (by decide)]
    exact ⟨rfl, fun q => absurd q (by decide)⟩
  · have e1 : z_op 12 x y = if y ≤ x then 0 else 1 := by
      unfold z_op
      rw [if_neg (show ¬ 12 = 9 by decide), if_neg (show ¬ 12 = 10 by decide), if_neg (show ¬ 12 = 11 by decide), if_pos (show 12 = 12 from rfl)]
    have e2 : y_rk 8 x y = if x < y then 1 else 0 := by
      unfold y_rk
      rw [if_neg (show ¬ 8 = 5 by decide), if_neg (show ¬ 8 = 6 by decide), if_neg (show ¬ 8 = 7 by decide), if_pos (show 8 = 8 from rfl)]
    show z_op 12 x y = y_rk 8 x y ∧ (7 < 8 → y_rk 8 x y = 0 ∨ y_rk 8 x y = 1)
    rw [e1, e2]
    by_cases q : x < y
    · rw [if_neg (show ¬ y ≤ x by rw [Int32.not_le]; exact q), if_pos q]
      exact ⟨rfl, fun _ => Or.inr rfl⟩
    · rw [if_pos (show y ≤ x by rw [← Int32.not_lt]; exact q), if_neg q]
      exact ⟨rfl, fun _ => Or.inl rfl⟩
  · have e1 : z_op 13 x y = if x = y then 1 else 0 := by
      unfold z_op
      rw [if_neg (show ¬ 13 = 9 by decide), if_neg (show ¬ 13 = 10 by decide), if_neg (show ¬ 13 = 11 by decide), if_neg (show ¬ 13 = 12 by decide)]
    have e2 : y_rk 9 x y = if x = y then 1 else 0 := by
      unfold y_rk
      rw [if_neg (show ¬ 9 = 5 by decide), if_neg (show ¬ 9 = 6 by decide), if_neg (show ¬ 9 = 7 by decide), if_neg (show ¬ 9 = 8 by decide)]
    show z_op 13 x y = y_rk 9 x y ∧ (7 < 9 → y_rk 9 x y = 0 ∨ y_rk 9 x y = 1)
    rw [e1, e2]
    by_cases q : x = y
    · rw [if_pos q]
      exact ⟨rfl, fun _ => Or.inr rfl⟩
    · rw [if_neg q]
      exact ⟨rfl, fun _ => Or.inl rfl⟩
section YB
variable {b : Nat → Nat} {n : Nat} {τ : z_TT} {A1 B1 A2 : Nat → List (Nat × Int32)} {S0 : z_CS} {R0 : z_RS} {ce : Nat} {tt0 : z_F} {most : Nat} {f0 : Int32} {Φ : z_V → z_CS → Option Value → z_RS → Prop}
variable {S S' : z_CS} {R R' : z_RS} {tp bs rd pc : Nat} {fu : Int32} {th dp : Nat} {X : y_X} {cs0 : List Nat} {al : Nat → Prop} {φ : Nat → Nat} {ψ : Nat → z_F} {F : Nat} {fg : List Nat} {fc : Nat → List Nat} {Y : Nat → y_X} {pd cp : Nat → Nat} {aw ph fl Ψ m e : Nat} {Γ : List z_F} {tt t : z_F} {wt : Nat} {u : z_Bd} {v : Int32} {D : y_D} {en tl : Nat} {cv : List Nat} {f i k p : Nat} {x : y_E × List Nat}
variable {s tp0 en0 tl0 : Nat} {cv0 : List Nat}
theorem y_vr.bz {k : Nat} {a v : Int32} (h : y_vr φ ψ F (z_bz k) a v) (hk : k < 3) : v = a ∧ (k = 1 → a = 0 ∨ a = 1) := by
  rcases h with ⟨k', k3, h1, h2, h3⟩ | ⟨f, -, -, -, -, a, r, h⟩
  · refine ⟨h2, fun q => h3 ?_⟩
    subst q
    rcases (show k' = 0 ∨ k' = 1 ∨ k' = 2 by omega) with rfl | rfl | rfl
    · exact absurd (show (Std.Format.line : z_F) = .nil from h1) (fun q => by cases q)
    · rfl
    · exact absurd (show (Std.Format.line : z_F) = .align false from h1) (fun q => by cases q)
  · exact absurd h.symm z_fz_bz
/-- an operation's left operand is there -/
theorem y_g_right {k0 x1 y g : Nat} {v1 v2 : z_Bd} (hC : y_Cr b n τ A1 B1 A2 S0 R0 ce most f0 (tp0 + 1) bs rd g fu th dp (x :: X) cs0 al φ ψ F fg fc Y pd cp aw ph fl Ψ S R) (hp : y_Pg b n A1 B1 A2 S0 R0 ce tt0 most) (hu : R.2.2 41 105 = 1 ∧ R.2.2 41 104 = v ∧ g < ce) (hm : x.1.2.1 = nI m) (hm6 : m < 600) (hse : s < e ∧ u.1.1 ≤ m ∧ m < u.1.2 ∧ e < ce) (hB : y_Bs b n A1 ce (z_rq S) R.1 (y_vr φ ψ F) (z_mm S) (y_SK b n τ A1 B1 A2 ce tt0 rd φ ψ F fg X S R) D tp0 bs s e Γ tt wt u x.2 x.1.2.2.2 en0 tl0 cv0 ph) (hw : x.1.1 = 0) (hc : y_c5 b n τ A1 B1 f wt u m s e Γ tt k0 x1 y g v1 v2) (hv : y_vr φ ψ F (z_bz 0) (z_mm S tp0) v) (kW : ∀ R', y_W b n τ A1 B1 A2 S0 R0 ce tt0 most f0 f Ψ S R' → y_J most f0 Φ i S R') : y_J most f0 Φ i S R := by
  obtain ⟨rB, -⟩ := hC.rw hp
  have hl := y_vl hC hu hm hm6
  rw [hw] at hl
  obtain ⟨⟨k1, k2, h57⟩, ⟨c1, c2, c3, c4, c5⟩, c6, c7, c8, c9, c10, c11, c12, c13⟩ := id hc
  have rg := z_Ct.rg c10.2
  have u5 := hB.2.2.1.2.2.2.2
  have sz := y_sz3 c3 c4 c5 ⟨hse.2.1, hse.2.2.1⟩ ⟨rg.2.1, rg.2.2⟩ u5
  have q := kW _ (y_toQ (w := 1) (v := v) hC (by rw [hw]; decide) hm6 hse hB (Or.inr (Or.inl ⟨rfl, rfl, rfl, (hv.bz (by decide)).1, k0, x1, y, g, v1, v2, hc, rfl, rfl⟩)) c10.fl.2.2 (by omega) c11 c2 ⟨by omega, by omega⟩)
  exact y_J.re q (fun Q q => y_g0 hl (by rw [rB 59 (by decide) (by decide), c7]; exact q))
/-- both operands are there -/
theorem y_g_left {k0 x1 y g : Nat} {v1 v2 : z_Bd} (hp : y_Pg b n A1 B1 A2 S0 R0 ce tt0 most) (hC : y_Cr b n τ A1 B1 A2 S0 R0 ce most f0 (tp0 + 2) bs rd (e - 1) fu th dp (x :: X) cs0 al φ ψ F fg fc Y pd cp aw ph fl Ψ S R) (hi : i + Ψ ≤ 99999990) (hu : R.2.2 41 105 = 1 ∧ R.2.2 41 104 = v ∧ e - 1 < ce) (hm : x.1.2.1 = nI m) (hm6 : m < 600) (hse : s < e ∧ u.1.1 ≤ m ∧ m < u.1.2 ∧ e < ce) (hB : y_Bs b n A1 ce (z_rq S) R.1 (y_vr φ ψ F) (z_mm S) (y_SK b n τ A1 B1 A2 ce tt0 rd φ ψ F fg X S R) D tp0 bs s e Γ tt wt u x.2 x.1.2.2.2 en0 tl0 cv0 ph) (hw : x.1.1 = 1) (hvv : x.1.2.2.1 = z_mm S tp0) (hc : y_c5 b n τ A1 B1 f wt u m s e Γ tt k0 x1 y g v1 v2) (hv : y_vr φ ψ F (z_bz 0) (z_mm S (tp0 + 1)) v) (kV : ∀ S' R', y_V b n τ A1 B1 A2 S0 R0 ce tt0 most f0 (Ψ - 1) S' R' → 1 ≤ Ψ → y_J most f0 Φ (i + 1) S' R') : y_J most f0 Φ i S R := by
  obtain ⟨rB, -⟩ := hC.rw hp
  have hl := y_vl (tp := tp0 + 1) hC hu hm hm6
  rw [hw, hvv] at hl
  have c47 := hp.1.2.1
  obtain ⟨⟨k1, k2, h57⟩, ⟨c1, c2, c3, c4, c5⟩, c6, c7, c8, c9, c10, c11, c12, c13⟩ := id hc
  obtain ⟨d1, d2, d3, d4, d5⟩ := hC
  obtain ⟨p1, -⟩ := d2.pop
  obtain ⟨hfr, -, -, -, tpl, -⟩ := hB.fr
  have dp4 : dp ≤ 400 := d2.2.2.1.2.1
  have edp : y_dp X = dp := by
    have : y_dp X + (if x.1.1 < 7 then 0 else 1) = dp := d3
    rw [if_pos (by rw [hw]; decide)] at this
    exact this
  obtain ⟨s1, s5, s6, s7, k, p', s8, s9⟩ := hB
  refine y_J.re ?_ (fun Q q => y_g1 (kd := k0) hl k1 k2 (by rw [rB 57 (by decide) (by decide)]; exact h57) q)
  refine g_op (o := k0 + 4) d1 hp.2.1.1 (by omega) (hp.op (by omega) c12 (by omega) (by omega)) (by omega) (by omega) (by omega) (by omega) (fun S1 hM q1 qv q2 => ?_)
  rw [show e - 1 + 1 = e by omega] at hM
  obtain ⟨ok1, ok2⟩ := y_opk k1 k2 (z_mm S tp0) (z_mm S (tp0 + 1))
  refine kV S1 _ ⟨tp0, bs, rd, e, fu, th, dp, X, cs0, al, φ, ψ, F, fg, fc, Y, pd, cp, aw, ph, fl, k, p', tt, y_rk k0 (z_mm S tp0) v, D, en0, tl0, cv0, ⟨hM, (p1.grw (fun x hx => q2 x hx) (Nat.le_refl _) p1.2.2.1.2.2.2.1).gv, edp, d4, by omega⟩, ⟨?_, ?_, hse.2.2.2⟩, s8, (y_SK.mo (T := tp0) (R' := y_gv (y_rk k0 (z_mm S tp0) v) (y_iv 96 (nI X.length) R)) (fun x _ hx => q1 x hx) (fun x hx q => ⟨q2 x hx, q⟩) (Nat.le_refl _) (fun _ _ _ q => q) (fun _ _ _ _ => y_sB.rf) (Nat.le_refl _) s9).2, ?_⟩ (by omega)
  · show z_v (z_v (y_iv 96 (nI X.length) R).2.2 41 104 (y_rk k0 (z_mm S tp0) v)) 41 105 1 41 105 = 1
    rw [z_vk]
  · show z_v (z_v (y_iv 96 (nI X.length) R).2.2 41 104 (y_rk k0 (z_mm S tp0) v)) 41 105 1 41 104 = y_rk k0 (z_mm S tp0) v
    rw [z_vn (by decide), z_vk]
  · rw [qv, ok1, (hv.bz (by decide)).1, c13]
    by_cases q : k0 ≤ 7
    · rw [if_pos q]
      exact Or.inl ⟨0, by decide, rfl, rfl, fun q => by cases q⟩
    · rw [if_neg q]
      exact Or.inl ⟨1, by decide, rfl, rfl, fun _ => ok2 (by omega)⟩
/-- the last part of a node is begun -/
theorem y_toT {y1 e' c : Nat} {v2 : z_Bd} (hC : y_Cr b n τ A1 B1 A2 S0 R0 ce most f0 (tp0 + 1) bs rd p fu th dp (x :: X) cs0 al φ ψ F fg fc Y pd cp aw ph fl Ψ S R) (h7 : x.1.1 < 7) (hse : s < e ∧ u.1.1 ≤ m ∧ m < u.1.2 ∧ e < ce) (hB : y_Bs b n A1 ce (z_rq S) R.1 (y_vr φ ψ F) (z_mm S) (y_SK b n τ A1 B1 A2 ce tt0 rd φ ψ F fg X S R) D tp0 bs s e Γ tt wt u x.2 x.1.2.2.2 en0 tl0 cv0 ph) (hM : z_Mc S0 tp0 bs rd pc fu th dp S') (e1 : S'.1 = S.1) (hctx : z_ctx A1 pc = z_ctx A1 s) (hps : s ≤ pc ∧ p < pc ∧ p < 4601) (hA : ∀ k p, y_Ad A1 ce k e p → ∃ k', y_Ad A1 ce k' e' p) (he' : e' ≤ e) (hP : y_P b n τ A1 B1 f wt c v2 y1 pc e' Γ tt) (hy : y1 < 600) (hsz : v2.1.2 - v2.1.1 ≤ u.1.2 - u.1.1 ∧ v2.1.2 ≤ 600) : y_W b n τ A1 B1 A2 S0 R0 ce tt0 most f0 f (Ψ - 1) S' (y_wk (nI y1) x.1.2.2.2 (y_iv 96 (nI X.length) R)) ∧ 1 ≤ Ψ := by
  obtain ⟨c1, c2, c3, c4, c5⟩ := hC
  obtain ⟨p1, -, -, p4, -, -⟩ := c2.pop
  obtain ⟨hfr, l100, lk, Xl, tpl, bsl, -⟩ := hB.fr
  have edp : y_dp X = dp := by
    have : y_dp X + (if x.1.1 < 7 then 0 else 1) = dp := c3
    rw [if_pos h7] at this
    exact this
  obtain ⟨m1, m2⟩ := y_mm_e e1
  have g2 := p1.wk (m := nI y1) (nm := x.1.2.2.2) (cs' := x.2) lk (by omega) p4
  have hwk := y_wk_u (R := y_iv 96 (nI X.length) R) (x := nI y1) (nm' := x.1.2.2.2)
  obtain ⟨⟨s1, s2, s3, s4⟩, s5, ⟨u1, u2, u3, u4, u5⟩, s7, k, p', s8, s9⟩ := id hB
  obtain ⟨k', hA'⟩ := hA k p' s8
  have hwm := hP.1.mod
  refine ⟨⟨tp0, bs, rd, pc, fu, th, dp, X, x.2, al, φ, ψ, F, fg, fc, Y, pd, cp, aw, ph, fl, y1, e', Γ, tt, wt - c, v2, x.1.2.2.2, D, en0, tl0, cv0, ⟨hM, by rw [m2]; exact g2, edp, c4, by omega⟩, ⟨g2.2.1.2.2.2.2.2.2, hwk.1, hwk.2.1, hwk.2.2, hy⟩, ⟨hP.2, by omega⟩, ⟨by rw [hctx]; exact s1, by omega, by omega, by rw [hctx]; exact s4⟩, by rw [hctx, m1, m2]; exact s5, ⟨by omega, by omega, by omega, by rw [hctx]; omega, hsz.2⟩, s7, k', p', hA', ?_⟩, by omega⟩
  unfold y_SK
  rw [m1, m2]
  exact s9
/-- a test -/
theorem y_g_test {x1 y z g h : Nat} {v1 v2 v3 : z_Bd} (hp : y_Pg b n A1 B1 A2 S0 R0 ce tt0 most) (hC : y_Cr b n τ A1 B1 A2 S0 R0 ce most f0 (tp0 + 1) bs rd g fu th dp (x :: X) cs0 al φ ψ F fg fc Y pd cp aw ph fl Ψ S R) (hi : i + Ψ ≤ 99999990) (hu : R.2.2 41 105 = 1 ∧ R.2.2 41 104 = v ∧ g < ce) (hm : x.1.2.1 = nI m) (hm6 : m < 600) (hse : s < e ∧ u.1.1 ≤ m ∧ m < u.1.2 ∧ e < ce) (hB : y_Bs b n A1 ce (z_rq S) R.1 (y_vr φ ψ F) (z_mm S) (y_SK b n τ A1 B1 A2 ce tt0 rd φ ψ F fg X S R) D tp0 bs s e Γ tt wt u x.2 x.1.2.2.2 en0 tl0 cv0 ph) (hw : x.1.1 = 2) (hc : y_c2 b n τ A1 B1 f wt u m s e Γ tt x1 y z g h v1 v2 v3) (hv : y_vr φ ψ F (z_bz 1) (z_mm S tp0) v) (kW : ∀ S' R', y_W b n τ A1 B1 A2 S0 R0 ce tt0 most f0 f (Ψ - 1) S' R' → 1 ≤ Ψ → y_J most f0 Φ (i + 1) S' R') : y_J most f0 Φ i S R := by
  obtain ⟨rB, -⟩ := hC.rw hp
  have hl := y_vl hC hu hm hm6
  rw [hw] at hl
  have c47 := hp.1.2.1
  obtain ⟨⟨c1, c2, c2', c3, c4, c4', c5, c5', c5''⟩, c6, c7, c7', c8, c9, c9', c10, c11, c12, c13, c14, c15, c16, c17⟩ := id hc
  have u5 := hB.2.2.1.2.2.2.2
  have rg := z_Ct.rg c10.2
  have sz2 := y_sz3 c3 c4 c5 ⟨hse.2.1, hse.2.2.1⟩ ⟨rg.2.1, rg.2.2⟩ u5
  have sz3 := y_sz3 c3 c4' c5'' ⟨hse.2.1, hse.2.2.1⟩ ⟨rg.2.1, rg.2.2⟩ u5
  have cg : z_ctx A1 g = z_ctx A1 s := c10.fl.2.2
  have cg1 : z_ctx A1 (g + 1) = z_ctx A1 s := (z_ctx_id (o := 6) c11 (by omega)).trans cg
  have ch : z_ctx A1 (h + 1) = z_ctx A1 s := ((z_ctx_id (o := 7) c14 (by omega)).trans c13.fl.2.2).trans cg1
  refine y_J.re ?_ (fun Q q => y_g2 hl q)
  refine g_test (g := h + 1) hC.1 hp.2.1.1 hu.2.2 (hp.op (o := 6) hu.2.2 c11 (by decide) (by decide)) (by rw [hp.a15 (o := 6) hu.2.2 c11 (by decide)]; exact c12) (by omega) (fun S1 hM e1 => ?_)
  obtain ⟨b1, b2⟩ := hv.bz (by decide)
  rcases b2 rfl with q | q
  · rw [if_pos q] at hM
    have := y_toT (S' := S1) (y1 := z) (e' := e - 1) (v2 := v3) (c := 4) (m := m) hC (by rw [hw]; decide) hse hB hM e1 ch ⟨by omega, by omega, by omega⟩ (fun k p hA => ⟨k + 1, by omega, Or.inl ⟨⟨8, c17, Or.inr (Or.inl rfl)⟩, by rw [show e - 1 + 1 = e by omega]; exact hA⟩⟩) (by omega) c16 c2' ⟨by omega, by omega⟩
    rw [if_neg (by rw [b1, q]; decide), show z_fn 0 (R.1 60) m = nI z by rw [rB 60 (by decide) (by decide)]; exact c7']
    exact kW S1 _ this.1 this.2
  · rw [if_neg (by rw [q]; decide)] at hM
    have := y_toT (S' := S1) (y1 := y) (e' := h) (v2 := v2) (c := 4) (m := m) hC (by rw [hw]; decide) hse hB hM e1 cg1 ⟨by omega, by omega, by omega⟩ (fun k p hA => ⟨k + 2, by omega, Or.inr ⟨c14, e - 1, by omega, by omega, c15, by omega, Or.inl ⟨⟨8, c17, Or.inr (Or.inl rfl)⟩, by rw [show e - 1 + 1 = e by omega]; exact hA⟩⟩⟩) (by omega) c13 c2 ⟨by omega, by omega⟩
    rw [if_pos (by rw [b1, q]), show z_fn 0 (R.1 59) m = nI y by rw [rB 59 (by decide) (by decide)]; exact c7]
    exact kW S1 _ this.1 this.2
/-- the function of a call is there -/
theorem y_g_arg {x1 y g : Nat} {t1 : z_F} {v1 v2 : z_Bd} (hp : y_Pg b n A1 B1 A2 S0 R0 ce tt0 most) (hC : y_Cr b n τ A1 B1 A2 S0 R0 ce most f0 (tp0 + 1) bs rd g fu th dp (x :: X) cs0 al φ ψ F fg fc Y pd cp aw ph fl Ψ S R) (hi : i + Ψ ≤ 99999990) (hu : R.2.2 41 105 = 1 ∧ R.2.2 41 104 = v ∧ g < ce) (hm : x.1.2.1 = nI m) (hm6 : m < 600) (hse : s < e ∧ u.1.1 ≤ m ∧ m < u.1.2 ∧ e < ce) (hB : y_Bs b n A1 ce (z_rq S) R.1 (y_vr φ ψ F) (z_mm S) (y_SK b n τ A1 B1 A2 ce tt0 rd φ ψ F fg X S R) D tp0 bs s e Γ tt wt u x.2 x.1.2.2.2 en0 tl0 cv0 ph) (hw : x.1.1 = 4) (hc : y_c10 b n τ A1 B1 f wt u m s e Γ tt x1 y g t1 v1 v2) (hv : y_vr φ ψ F (z_fz t1 tt) (z_mm S tp0) v) (kW : ∀ S' R', y_W b n τ A1 B1 A2 S0 R0 ce tt0 most f0 f (Ψ - 1) S' R' → 1 ≤ Ψ → y_J most f0 Φ (i + 1) S' R') : y_J most f0 Φ i S R := by
  obtain ⟨rB, -⟩ := hC.rw hp
  have hl := y_vl hC hu hm hm6
  rw [hw] at hl
  have c47 := hp.1.2.1
  obtain ⟨⟨c1, c2, c3, c4, c5⟩, c6, c7, c8, c9, c10, c11, c12, c13⟩ := id hc
  have u5 := hB.2.2.1.2.2.2.2
  have rg := z_Ct.rg c10.2
  have sz := y_sz3 c3 c4 c5 ⟨hse.2.1, hse.2.2.1⟩ ⟨rg.2.1, rg.2.2⟩ u5
  have cg1 : z_ctx A1 (g + 1) = z_ctx A1 s := (z_ctx_id (o := 14) c11 (by omega)).trans c10.fl.2.2
  obtain ⟨d1, d2, d3, d4, d5⟩ := hC
  refine y_J.re ?_ (fun Q q => y_g4 hl q)
  rw [rB 59 (by decide) (by decide), c7]
  refine g_nop (o := 14) d1 hp.2.1.1 hu.2.2 (hp.op (o := 14) hu.2.2 c11 (by decide) (by decide)) (by decide) (by omega) (fun S1 hM e1 => ?_)
  obtain ⟨m1, m2⟩ := y_mm_e e1
  have hC1 : y_Cr b n τ A1 B1 A2 S0 R0 ce most f0 (tp0 + 1) bs rd (g + 1) fu th dp (x :: X) cs0 al φ ψ F fg fc Y pd cp aw ph fl (Ψ - 1) S1 R := ⟨hM, by rw [m2]; exact d2, d3, d4, by omega⟩
  have hB1 : y_Bs b n A1 ce (z_rq S1) R.1 (y_vr φ ψ F) (z_mm S1) (y_SK b n τ A1 B1 A2 ce tt0 rd φ ψ F fg X S1 R) D tp0 bs s e Γ tt wt u x.2 x.1.2.2.2 en0 tl0 cv0 ph := by
    unfold y_SK
    rw [m1, m2]
    exact hB
  exact kW S1 _ (y_toQ (w := 5) (v := v) hC1 (by rw [hw]; decide) hm6 hse hB1 (Or.inr (Or.inr (Or.inr (Or.inr (Or.inr (Or.inl ⟨rfl, rfl, rfl, x1, y, g, t1, v1, v2, hc, by rw [m1]; exact hv, rfl, rfl⟩)))))) cg1 (by omega) c12 c2 ⟨by omega, by omega⟩) (by omega)
/-- the value of a name is there -/
theorem y_g_named {x1 y g : Nat} {t1 : z_F} {v1 v2 : z_Bd} (hp : y_Pg b n A1 B1 A2 S0 R0 ce tt0 most) (hC : y_Cr b n τ A1 B1 A2 S0 R0 ce most f0 (tp0 + 1) bs rd g fu th dp (x :: X) cs0 al φ ψ F fg fc Y pd cp aw ph fl Ψ S R) (hi : i + Ψ ≤ 99999990) (hu : R.2.2 41 105 = 1 ∧ R.2.2 41 104 = v ∧ g < ce) (hm : x.1.2.1 = nI m) (hm6 : m < 600) (hse : s < e ∧ u.1.1 ≤ m ∧ m < u.1.2 ∧ e < ce) (hB : y_Bs b n A1 ce (z_rq S) R.1 (y_vr φ ψ F) (z_mm S) (y_SK b n τ A1 B1 A2 ce tt0 rd φ ψ F fg X S R) D tp0 bs s e Γ tt wt u x.2 x.1.2.2.2 en0 tl0 cv0 ph) (hw : x.1.1 = 3) (hc : y_c0 b n τ A1 B1 f wt u m s e Γ tt x1 y g t1 v1 v2) (hv : y_vr φ ψ F t1 (z_mm S tp0) v) (kW : ∀ S' R', y_W b n τ A1 B1 A2 S0 R0 ce tt0 most f0 f (Ψ - 1) S' R' → 1 ≤ Ψ → y_J most f0 Φ (i + 1) S' R') : y_J most f0 Φ i S R := by
  obtain ⟨rB, -⟩ := hC.rw hp
  have hl := y_vl hC hu hm hm6
  rw [hw] at hl
  have c47 := hp.1.2.1
  obtain ⟨⟨c1, c2, c3, c4, c5⟩, c6, c7, c8, c9, c10, c11, c12, c13, c14⟩ := id hc
  obtain ⟨d1, d2, d3, d4, d5⟩ := hC
  obtain ⟨p1, -, -, p4, -, -⟩ := d2.pop
  obtain ⟨fr, l100, lk, Xl, tpl, bsl, -⟩ := hB.fr
  have dp4 : dp ≤ 400 := d2.2.2.1.2.1
  have edp : y_dp X = dp := by
    have : y_dp X + (if x.1.1 < 7 then 0 else 1) = dp := d3
    rw [if_pos (by rw [hw]; decide)] at this
    exact this
  obtain ⟨R1, j, hn, kr⟩ := y_g3 (n := nI most) (f0 := f0) hl (p1.as (x4 := x.1.2.2.2) (cs' := x.2) lk (by omega) p4)
  obtain ⟨gr, sB⟩ := p1.nd hn
  obtain ⟨n1, ⟨n98, n99, n100, n101⟩, -⟩ := hn
  refine y_J.re ?_ kr
  rw [rB 59 (by decide) (by decide), c7]
  obtain ⟨d, rfl⟩ : ∃ d, e = d + 1 := ⟨e - 1, by omega⟩
  have c9 : g + 1 < d := c9
  have c13 : y_P b n τ A1 B1 f wt 4 v2 y (g + 1) d (t1 :: Γ) tt := c13
  have c14 : z_fn 0 (A1 14) d = 5 := c14
  obtain ⟨⟨s1, s2, s3, s4⟩, s5, ⟨u1, u2, u3, u4, u5⟩, s7, k, p', s8, s9⟩ := id hB
  have cg : z_ctx A1 g = z_ctx A1 s := c10.fl.2.2
  have cg1 : z_ctx A1 (g + 1) = (z_fn 0 (A1 15) g :: (z_ctx A1 s).1, (z_ctx A1 s).2) := by rw [y_ctx4 c11, cg]
  have hN' := fr.nm (s := g + 1) (by rw [cg1]; exact s1) (by omega) (by omega)
  rw [cg1, List.length_cons] at hN'
  have fr1 := fr.1.1
  have a15 := (hp.1.2.2.1 g (by omega)).2.2.1 c11
  rw [cg, show (z_ctx A1 s).2.headD 0 = D.2.1 by rw [s1]; rfl] at a15
  have rg := z_Ct.rg c13.2
  have sz := y_sz2 c3 c4 c5 ⟨hse.2.1, hse.2.2.1⟩ ⟨rg.2.1, rg.2.2⟩ u5
  refine g_bind (a := (z_ctx A1 s).1.length - D.2.1) d1 hp.2.1.1 hu.2.2 (hp.op (o := 4) hu.2.2 c11 (by decide) (by decide)) (by rw [hp.2.1.2 15 (by decide) (by decide)]; exact a15) (by omega) (by omega) (fun S1 hM mo ms e40 => ?_)
  have rq : ∀ x, z_rq S1 x = z_rq S x := fun x => by unfold z_rq; rw [e40]
  have lk1 : y_lk (y_nx R1.1) (nI j) (j :: x.2) := by
    refine ⟨rfl, n1, ?_⟩
    rw [show y_nx R1.1 j = x.1.2.2.2 from n101]
    exact lk.sB (fun c hc => sB c (Or.inr (Or.inl hc)))
  have g2 := (gr.grw (rr' := z_rq S1) (rd' := rd) (fun x _ => rq x) (Nat.le_refl _) gr.2.2.1.2.2.2.1).wk (m := nI y) (nm := nI j) (cs' := j :: x.2) lk1 (by rw [List.length_cons]; omega) (fun c hc => by
    cases hc with
    | head => exact Or.inr rfl
    | tail _ hc => exact Or.inl (Or.inr (Or.inl hc)))
  have hwk := y_wk_u (R := R1) (x := nI y) (nm' := nI j)
  have hB2 := y_BS.bind (S' := S1) (R' := y_wk (nI y) (nI j) R1) (rd' := rd) (φ' := φ) (ψ' := ψ) (F' := F) (fg' := fg) (s' := g + 1) (j := j) (t1 := t1) (v2 := v2) hB ⟨by omega, by omega, hse.2.2.2⟩ cg1 c14 c13.1 ⟨by omega, by omega⟩ (fun x _ hn => mo x hn) (fun x _ q => ⟨rq x, q⟩) (Nat.le_refl _) (fun _ _ _ q => q) (fun e he c hc => sB c (Or.inr (Or.inr (Or.inl ⟨e, he, hc⟩)))) (fun c hc => sB c (Or.inr (Or.inl hc))) n1 (by
    rw [show z_fn 0 ((y_wk (nI y) (nI j) R1).1 98) j = _ from n98, show z_fn 0 ((y_wk (nI y) (nI j) R1).1 99) j = _ from n99, rB 64 (by decide) (by decide), rB 65 (by decide) (by decide)]
    exact c12) (by rw [ms, show z_fn 0 ((y_wk (nI y) (nI j) R1).1 100) j = _ from n100]; exact hv) n101
  exact kW S1 _ ⟨tp0, bs, rd, g + 1, fu, th, dp, X, j :: x.2, _, φ, ψ, F, fg, fc, Y, pd, cp, aw, ph, fl, y, d, _, tt, wt - 4, v2, nI j, D, en0, tl0, cv0, ⟨hM, g2, edp, d4, by omega⟩, ⟨g2.2.1.2.2.2.2.2.2, hwk.1, hwk.2.1, hwk.2.2, c2⟩, ⟨c13.2, by omega⟩, hB2⟩ (by omega)
end YB
