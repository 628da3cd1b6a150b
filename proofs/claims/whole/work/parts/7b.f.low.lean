/-! Both run together: a node begun that makes no function and no frame. -/
theorem y_sz2 {u v1 v2 : z_Bd} {m y : Nat} (h1 : z_S1 u m v1) (h2 : z_S1 u m v2) (h3 : v1.1.2 ≤ v2.1.1) (hm : u.1.1 ≤ m ∧ m < u.1.2) (hy : v2.1.1 ≤ y ∧ y < v2.1.2) (hu : u.1.2 ≤ 600) : v1.1.2 - v1.1.1 + 2 ≤ u.1.2 - u.1.1 ∧ v1.1.2 ≤ 600 ∧ v2.1.2 ≤ 600 ∧ v2.1.2 - v2.1.1 + 1 ≤ u.1.2 - u.1.1 := by
  obtain ⟨a1, -, a2⟩ := h1
  obtain ⟨b1, -, b2⟩ := h2
  omega
theorem y_sz1 {u v1 : z_Bd} {m y : Nat} (h1 : z_S1 u m v1) (hm : u.1.1 ≤ m ∧ m < u.1.2) (hu : u.1.2 ≤ 600) : v1.1.2 - v1.1.1 + 1 ≤ u.1.2 - u.1.1 ∧ v1.1.2 ≤ 600 := by
  obtain ⟨a1, -, a2⟩ := h1
  omega
section YX
variable {b : Nat → Nat} {n : Nat} {τ : z_TT} {A1 B1 A2 : Nat → List (Nat × Int32)} {S0 : z_CS} {R0 : z_RS} {ce : Nat} {tt0 : z_F} {most : Nat} {f0 : Int32} {Φ : z_V → z_CS → Option Value → z_RS → Prop}
variable {S S' : z_CS} {R R' : z_RS} {tp bs rd pc : Nat} {fu : Int32} {th dp : Nat} {X : y_X} {cs0 : List Nat} {al : Nat → Prop} {φ : Nat → Nat} {ψ : Nat → z_F} {F : Nat} {fg : List Nat} {fc : Nat → List Nat} {Y : Nat → y_X} {pd cp : Nat → Nat} {aw ph fl Ψ m e : Nat} {Γ : List z_F} {tt : z_F} {wt : Nat} {u : z_Bd} {nm v : Int32} {D : y_D} {en tl : Nat} {cv : List Nat} {f i : Nat}
theorem y_Pg.op {j o : Nat} (hp : y_Pg b n A1 B1 A2 S0 R0 ce tt0 most) (hj : j < ce) (ho : z_fn 0 (A1 14) j = nI o) (h1 : o ≠ 1) (h2 : o < 100) : z_fn 0 (S0.1 14) j = nI o := by
  rw [hp.2.1.2 14 (by decide) (by decide)]
  exact hp.1.op hj ho h1 h2
theorem y_Pg.a15 {j o : Nat} (hp : y_Pg b n A1 B1 A2 S0 R0 ce tt0 most) (hj : j < ce) (ho : z_fn 0 (A1 14) j = nI o) (h1 : o = 0 ∨ (4 < o ∧ o < 17)) : z_fn 0 (S0.1 15) j = z_fn 0 (A1 15) j := by
  rw [hp.2.1.2 15 (by decide) (by decide)]
  exact hp.1.a15 hj ho h1
theorem y_Cr.rw (hp : y_Pg b n A1 B1 A2 S0 R0 ce tt0 most) (hC : y_Cr b n τ A1 B1 A2 S0 R0 ce most f0 tp bs rd pc fu th dp X cs0 al φ ψ F fg fc Y pd cp aw ph fl Ψ S R) : (∀ k, 57 ≤ k → k ≤ 79 → R.1 k = B1 k) ∧ z_Tr (R.1 44) b n := by
  obtain ⟨-, ⟨⟨r1, -⟩, -⟩, -⟩ := hC
  exact ⟨fun k a c => (r1 k (by omega)).trans (hp.2.2.1 k a c), by rw [r1 44 (by omega)]; exact hp.2.2.2.1.1⟩
/-- a number, a truth, nothing -/
theorem y_w12 {kd : Nat} (hp : y_Pg b n A1 B1 A2 S0 R0 ce tt0 most) (hC : y_Cr b n τ A1 B1 A2 S0 R0 ce most f0 tp bs rd pc fu th dp X cs0 al φ ψ F fg fc Y pd cp aw ph fl Ψ S R) (hi : i + Ψ ≤ 99999990) (hW : y_Wk m nm R) (hce : e < ce) (hB : y_Bs b n A1 ce (z_rq S) R.1 (y_vr φ ψ F) (z_mm S) (y_SK b n τ A1 B1 A2 ce tt0 rd φ ψ F fg X S R) D tp bs pc e Γ tt wt u cs0 nm en tl cv ph) (h57 : z_fn 0 (B1 57) m = nI (12 + kd)) (k3 : kd < 3) (he : e = pc + 1) (ho : z_fn 0 (A1 14) pc = 0) (h15 : z_fn 0 (A1 15) pc = (if kd = 2 then 0 else z_fn 0 (B1 68) m)) (hb : kd = 1 → z_fn 0 (A1 15) pc = 0 ∨ z_fn 0 (A1 15) pc = 1) (ht : tt = z_bz kd) (kV : ∀ S' R', y_V b n τ A1 B1 A2 S0 R0 ce tt0 most f0 (Ψ - 1) S' R' → 1 ≤ Ψ → y_J most f0 Φ (i + 1) S' R') : y_J most f0 Φ i S R := by
  obtain ⟨rB, -⟩ := hC.rw hp
  have c47 := hp.1.2.1
  obtain ⟨-, -, -, -, tpl, -⟩ := hB.fr
  have dp4 : dp ≤ 400 := hC.2.1.2.2.1.2.1
  have edp := hC.2.2.1
  have hR57 : z_fn 0 (R.1 57) m = nI (12 + kd) := by rw [rB 57 (by decide) (by decide)]; exact h57
  have ref : ∀ Q, y_RL (nI most) f0 1 (y_gv (z_fn 0 (A1 15) pc) R) Q → y_RL (nI most) f0 1 R Q := by
    intro Q q
    rcases (show kd = 0 ∨ kd = 1 ∨ kd = 2 by omega) with rfl | rfl | rfl
    · rw [h15, if_neg (by decide), ← rB 68 (by decide) (by decide)] at q
      exact y_b12 hW (Or.inl hR57) q
    · rw [h15, if_neg (by decide), ← rB 68 (by decide) (by decide)] at q
      exact y_b12 hW (Or.inr hR57) q
    · rw [h15, if_pos rfl] at q
      exact y_b14 hW hR57 q
  refine y_J.re ?_ ref
  refine g_val (v := z_fn 0 (A1 15) pc) hC.1 hp.2.1.1 (by omega) (hp.op (o := 0) (by omega) ho (by decide) (by decide)) (hp.a15 (o := 0) (by omega) ho (Or.inl rfl)) (by omega) (by omega) (fun S1 hM k1 kv k2 => ?_)
  obtain ⟨q1, q2⟩ := y_toV (v := z_fn 0 (A1 15) pc) hC c47 (by omega) hce hB (by rw [he]; exact hM) k1 k2 (by
    rw [kv, ht]
    exact Or.inl ⟨kd, k3, rfl, rfl, hb⟩)
  exact kV S1 _ q1 q2
/-- a name -/
theorem y_w15 {k : Nat} (hp : y_Pg b n A1 B1 A2 S0 R0 ce tt0 most) (hC : y_Cr b n τ A1 B1 A2 S0 R0 ce most f0 tp bs rd pc fu th dp X cs0 al φ ψ F fg fc Y pd cp aw ph fl Ψ S R) (hi : i + Ψ ≤ 99999990) (hW : y_Wk m nm R) (hce : e < ce) (hB : y_Bs b n A1 ce (z_rq S) R.1 (y_vr φ ψ F) (z_mm S) (y_SK b n τ A1 B1 A2 ce tt0 rd φ ψ F fg X S R) D tp bs pc e Γ tt wt u cs0 nm en tl cv ph) (h57 : z_fn 0 (B1 57) m = 15) (he : e = pc + 1) (ho : z_fn 0 (A1 14) pc = 1) (hN : z_Nm b n (z_fn 0 (B1 64) m) (z_fn 0 (A1 15) pc) (z_fn 0 (B1 65) m)) (hk : z_wl (z_fn 0 (A1 15) pc) (z_ctx A1 pc).1 = some k) (hg : z_gi Γ k = some tt) (kV : ∀ S' R', y_V b n τ A1 B1 A2 S0 R0 ce tt0 most f0 (Ψ - 1) S' R' → 1 ≤ Ψ → y_J most f0 Φ (i + 1) S' R') : y_J most f0 Φ i S R := by
  obtain ⟨rB, hT⟩ := hC.rw hp
  have c47 := hp.1.2.1
  obtain ⟨fr, -, -, -, tpl, -⟩ := hB.fr
  have dp4 : dp ≤ 400 := hC.2.1.2.2.1.2.1
  have edp := hC.2.2.1
  obtain ⟨⟨s1, s2, s3, s4⟩, s5, -⟩ := id hB
  rw [← rB 64 (by decide) (by decide), ← rB 65 (by decide) (by decide)] at hN
  obtain ⟨kl, c, c1, c2, c3⟩ := y_en.get hT hN _ _ _ _ k tt s5 hk hg
  have hn := fr.nm s1 s2 (by omega)
  obtain ⟨⟨f1, f1'⟩, f2, -, f4, -⟩ := fr
  refine y_J.re ?_ (fun Q q => y_b15 hW (by rw [rB 57 (by decide) (by decide)]; exact h57) c1 c3 q)
  have fin : ∀ S1, z_Mc S0 (tp + 1) bs rd (pc + 1) fu th dp S1 → z_ke tp (z_mm S) (z_mm S1) → z_mm S1 tp = y_va (z_rq S) (z_mm S) bs D k → z_ke rd (z_rq S) (z_rq S1) → z_CL most f0 (fun o S' => y_RL (nI most) f0 1 (y_gv (z_fn 0 (R.1 100) c) R) (fun v R' => Φ o S' v R')) (i + 1) S1 := by
    intro S1 hM k1 kv k2
    obtain ⟨q1, q2⟩ := y_toV (v := z_fn 0 (R.1 100) c) hC c47 (by omega) hce hB (by rw [he]; exact hM) k1 k2 (by rw [kv]; exact c2)
    exact kV S1 _ q1 q2
  have hag := hp.1.2.2.1 pc (by omega)
  obtain ⟨k', w1, w2⟩ := hag.2.1 ho
  rw [hk] at w1
  have ek : k = k' := Option.some.inj w1
  subst ek
  rw [show (z_ctx A1 pc).2.headD 0 = D.2.1 by rw [s1]; rfl] at w2
  rcases w2 with ⟨w3, w4, w5⟩ | ⟨w3, w4, w5⟩
  · refine g_local (a := k - D.2.1) hC.1 hp.2.1.1 (by omega) (by rw [hp.2.1.2 14 (by decide) (by decide)]; exact w4) (by rw [hp.2.1.2 15 (by decide) (by decide)]; exact w5) (by omega) (by omega) (by omega) (fun S1 hM k1 kv k2 => fin S1 hM k1 (by rw [kv]; unfold y_va; rw [if_pos w3]) k2)
  · refine g_outer (a := k) (ar := D.1) hC.1 hp.2.1.1 (by omega) (by rw [hp.2.1.2 14 (by decide) (by decide)]; exact w4) (by rw [hp.2.1.2 15 (by decide) (by decide)]; exact w5) (by omega) f2 (by omega) (by omega) (by omega) (fun S1 hM k1 kv k2 => fin S1 hM k1 (by rw [kv]; unfold y_va; rw [if_neg (by omega)]) k2)
/-- a node whose first part is begun -/
theorem y_wpt (hp : y_Pg b n A1 B1 A2 S0 R0 ce tt0 most) (hC : y_Cr b n τ A1 B1 A2 S0 R0 ce most f0 tp bs rd pc fu th dp X cs0 al φ ψ F fg fc Y pd cp aw ph fl Ψ S R) (hW : y_Wk m nm R) (hce : e < ce) (hm : pc < e ∧ u.1.1 ≤ m ∧ m < u.1.2) (hB : y_Bs b n A1 ce (z_rq S) R.1 (y_vr φ ψ F) (z_mm S) (y_SK b n τ A1 B1 A2 ce tt0 rd φ ψ F fg X S R) D tp bs pc e Γ tt wt u cs0 nm en tl cv ph)
    (h : (z_fn 0 (B1 57) m = 0 ∧ ∃ (x y g : Nat) (t1 : z_F) (v1 v2 : z_Bd), y_c0 b n τ A1 B1 f wt u m pc e Γ tt x y g t1 v1 v2) ∨ (z_fn 0 (B1 57) m = 2 ∧ ∃ (x y z g h : Nat) (v1 v2 v3 : z_Bd), y_c2 b n τ A1 B1 f wt u m pc e Γ tt x y z g h v1 v2 v3) ∨ (∃ (k x y g : Nat) (v1 v2 : z_Bd), y_c5 b n τ A1 B1 f wt u m pc e Γ tt k x y g v1 v2) ∨ (z_fn 0 (B1 57) m = 10 ∧ ∃ (x y g : Nat) (t1 : z_F) (v1 v2 : z_Bd), y_c10 b n τ A1 B1 f wt u m pc e Γ tt x y g t1 v1 v2) ∨ (z_fn 0 (B1 57) m = 11 ∧ ∃ (x ef : Nat) (v1 : z_Bd), y_c11 b n τ A1 B1 f wt u m pc e Γ tt x ef v1))
    (kP : ∀ R', y_W b n τ A1 B1 A2 S0 R0 ce tt0 most f0 f Ψ S R' → y_J most f0 Φ i S R') : y_J most f0 Φ i S R := by
  obtain ⟨rB, hT⟩ := hC.rw hp
  obtain ⟨-, -, -, Xl, -⟩ := hB.fr
  have dp4 : dp ≤ 400 := hC.2.1.2.2.1.2.1
  have edp := hC.2.2.1
  have h96 := hC.2.1.2.1.1
  obtain ⟨-, -, ⟨u1, u2, u3, u4, u5⟩, -⟩ := id hB
  rcases h with ⟨h57, x, y, g, t1, v1, v2, hc⟩ | ⟨h57, x, y, z, g, h, v1, v2, v3, hc⟩ | ⟨k, x, y, g, v1, v2, hc⟩ | ⟨h57, x, y, g, t1, v1, v2, hc⟩ | ⟨h57, x, ef, v1, hc⟩
  · obtain ⟨⟨c1, c2, c3, c4, c5⟩, c6, c7, c8, c9, c10, c11, c12, c13, c14⟩ := id hc
    have rg := z_Ct.rg c13.2
    have sz := y_sz2 c3 c4 c5 hm.2 ⟨rg.2.1, rg.2.2⟩ u5
    have hwm := c10.1.mod
    have q := kP _ (y_toP (w := 3) hC hW hce hm hB (Or.inr (Or.inr (Or.inr (Or.inl ⟨rfl, rfl, rfl, x, y, g, t1, v1, v2, hc, rfl, rfl⟩)))) c10 c1 (by omega) ⟨by omega, by omega, by omega⟩)
    exact y_J.re q (fun Q q => y_b0 hW h96 (by omega) (by rw [rB 57 (by decide) (by decide)]; exact h57) (by rw [rB 58 (by decide) (by decide), c6]; exact q))
  · obtain ⟨⟨c1, c2, c2', c3, c4, c4', c5, c5', c5''⟩, c6, c7, c7', c8, c9, c9', c10, c11, c12, c13, c14, c15, c16, c17⟩ := id hc
    have rg := z_Ct.rg c13.2
    have sz := y_sz2 c3 c4 c5 hm.2 ⟨rg.2.1, rg.2.2⟩ u5
    have hwm := c10.1.mod
    have q := kP _ (y_toP (w := 2) hC hW hce hm hB (Or.inr (Or.inr (Or.inl ⟨rfl, rfl, rfl, x, y, z, g, h, v1, v2, v3, hc, rfl, rfl⟩))) c10 c1 (by omega) ⟨by omega, by omega, by omega⟩)
    exact y_J.re q (fun Q q => y_b2 hW h96 (by omega) (by rw [rB 57 (by decide) (by decide)]; exact h57) (by rw [rB 58 (by decide) (by decide), c6]; exact q))
  · obtain ⟨⟨k1, k2, h57⟩, ⟨c1, c2, c3, c4, c5⟩, c6, c7, c8, c9, c10, c11, c12, c13⟩ := id hc
    have rg := z_Ct.rg c11.2
    have sz := y_sz2 c3 c4 c5 hm.2 ⟨rg.2.1, rg.2.2⟩ u5
    have hwm := c10.1.mod
    have q := kP _ (y_toP (w := 0) hC hW hce hm hB (Or.inl ⟨rfl, rfl, rfl, k, x, y, g, v1, v2, hc, rfl, rfl⟩) c10 c1 (by omega) ⟨by omega, by omega, by omega⟩)
    exact y_J.re q (fun Q q => y_b5 hW h96 (by omega) k1 k2 (by rw [rB 57 (by decide) (by decide)]; exact h57) (by rw [rB 58 (by decide) (by decide), c6]; exact q))
  · obtain ⟨⟨c1, c2, c3, c4, c5⟩, c6, c7, c8, c9, c10, c11, c12, c13⟩ := id hc
    have rg := z_Ct.rg c12.2
    have sz := y_sz2 c3 c4 c5 hm.2 ⟨rg.2.1, rg.2.2⟩ u5
    have hwm := c10.1.mod
    have q := kP _ (y_toP (w := 4) hC hW hce hm hB (Or.inr (Or.inr (Or.inr (Or.inr (Or.inl ⟨rfl, rfl, rfl, x, y, g, t1, v1, v2, hc, rfl, rfl⟩))))) c10 c1 (by omega) ⟨by omega, by omega, by omega⟩)
    exact y_J.re q (fun Q q => y_b10 hW h96 (by omega) (by rw [rB 57 (by decide) (by decide)]; exact h57) (by rw [rB 58 (by decide) (by decide), c6]; exact q))
  · obtain ⟨⟨c1, c2⟩, c3, c4, c5, c6, c7, c8, c9, c10⟩ := id hc
    have sz := y_sz1 (y := 0) c2 hm.2 u5
    have hwm := c6.1.mod
    have hwl := c6.1
    unfold z_wle at hwl
    have q := kP _ (y_toP (w := 6) (tl' := tl + 1) hC hW hce hm hB (Or.inr (Or.inr (Or.inr (Or.inr (Or.inr (Or.inr ⟨rfl, rfl, rfl, x, ef, v1, hc, rfl, rfl⟩)))))) c6 c1 (by omega) ⟨by omega, by omega, by omega⟩)
    exact y_J.re q (fun Q q => y_b11 hW h96 (by omega) (by rw [rB 57 (by decide) (by decide)]; exact h57) (by rw [rB 58 (by decide) (by decide), c4]; exact q))
end YX
