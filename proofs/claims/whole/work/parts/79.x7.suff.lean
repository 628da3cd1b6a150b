/-! Reading programs, once the class has ended: what is left of the methods that begin expressions. -/
section ZX7
variable {R : z_RS} {x y : Int32} {d : Nat} {Q : Option Value → z_RS → Prop}
theorem g161_18 {x1 : Int32} {m : Nat} (hm : m < 600) (h : z_Dz x y d R) (hQ : ∀ R', z_Dz x y d R' → z_XR R R' → R'.2.2 41 53 = 0 → Q none R') : p161_18 17 R.1 R.2.1 R.2.2 x1 (nI m) Q := by
  obtain ⟨R', a1, a2, a3, a4⟩ := e159 (l := 16) (u := nI m) (v := 0) h
  exact ⟨none, R', a1, rfl, hQ R' a2 a3 a4⟩
theorem g161_12 {x1 : Int32} {m : Nat} (hm : m < 600) (h : z_Dz x y d R) (hQ : ∀ R', z_Dz x y d R' → z_XR R R' → R'.2.2 41 53 = 0 → Q none R') : p161_12 17 R.1 R.2.1 R.2.2 x1 (nI m) Q := by
  obtain ⟨R', a1, a2, -, a4⟩ := e154 (k := 61) h (by decide)
  exact ⟨none, R', a1.up (by decide), rfl, g161_18 (R := R') hm a2 (fun R2 b1 b2 b3 => hQ R2 b1 (a4.tr b2) b3)⟩
theorem g161_6 {x1 : Int32} {m : Nat} (hm : m < 600) (h : z_Dz x y d R) (hQ : ∀ R', z_Dz x y d R' → z_XR R R' → R'.2.2 41 53 = 0 → Q none R') : p161_6 17 R.1 R.2.1 R.2.2 x1 (nI m) Q := by
  obtain ⟨R', a1, a2, a3⟩ := e164 hm h
  exact ⟨none, R', a1.up (by decide), rfl, g161_12 (R := R') hm a2 (fun R2 b1 b2 b3 => hQ R2 b1 (a3.tr b2) b3)⟩
theorem g168_45 {x1 : Int32} {m : Nat} (hm : m < 600) (h : z_Dz x y d R) (hQ : ∀ R', z_Dz x y d R' → z_XR R R' → R'.2.2 41 53 = 0 → Q none R') : p168_45 17 R.1 R.2.1 R.2.2 x1 (nI m) Q := by
  obtain ⟨R', a1, a2, a3, a4⟩ := e159 (l := 16) (u := nI m) (v := 0) h
  exact ⟨none, R', a1, rfl, hQ R' a2 a3 a4⟩
theorem g168_40 {x1 : Int32} {m : Nat} (hm : m < 600) (h : z_Dz x y d R) (hQ : ∀ R', z_Dz x y d R' → z_XR R R' → R'.2.2 41 53 = 0 → Q none R') : p168_40 17 R.1 R.2.1 R.2.2 x1 (nI m) Q := by
  obtain ⟨R', a1, a2, -, a4⟩ := e154 (k := 4) h (by decide)
  exact ⟨none, R', a1.up (by decide), rfl, g168_45 (R := R') hm a2 (fun R2 b1 b2 b3 => hQ R2 b1 (a4.tr b2) b3)⟩
theorem g168_33 {x1 v : Int32} {m : Nat} (hm : m < 600) (h : z_Dz x y d R) (hQ : ∀ R', z_Dz x y d R' → z_XR R R' → R'.2.2 41 53 = 0 → Q none R') : p168_33 17 R.1 R.2.1 R.2.2 x1 (nI m) v (nI m) Q := by
  obtain ⟨zi, zc⟩ := z_o6_in hm
  have h' : z_Dz x y d (z_u R.1 68 ((m, v) :: R.1 68), R.2.1, R.2.2) := ⟨h.1, h.2.B rfl rfl rfl⟩
  have hx : z_XR R (z_u R.1 68 ((m, v) :: R.1 68), R.2.1, R.2.2) := z_XR_B (fun q r => z_un (by omega))
  unfold p168_33
  rw [zc]
  refine ⟨zi, ?_⟩
  obtain ⟨R', a1, a2, -, a4⟩ := e154 (k := 41) h' (by decide)
  exact ⟨none, R', a1.up (by decide), rfl, g168_40 (R := R') hm a2 (fun R2 b1 b2 b3 => hQ R2 b1 (hx.tr (a4.tr b2)) b3)⟩
theorem g168_24 {x1 : Int32} {m : Nat} (hm : m < 600) (h : z_Dz x y d R) (hQ : ∀ R', z_Dz x y d R' → z_XR R R' → R'.2.2 41 53 = 0 → Q none R') : p168_24 17 R.1 R.2.1 R.2.2 x1 (nI m) Q := by
  obtain ⟨v', R', a1, a2, a3⟩ := e155 h
  exact ⟨_, R', a1.up (by decide), v', rfl, g168_33 (R := R') hm a2 (fun R2 b1 b2 b3 => hQ R2 b1 (a3.tr b2) b3)⟩
theorem g168_18 {x1 : Int32} {m : Nat} (hm : m < 600) (h : z_Dz x y d R) (hQ : ∀ R', z_Dz x y d R' → z_XR R R' → R'.2.2 41 53 = 0 → Q none R') : p168_18 17 R.1 R.2.1 R.2.2 x1 (nI m) Q := by
  obtain ⟨R', a1, a2, -, a4⟩ := e154 (k := 58) h (by decide)
  exact ⟨none, R', a1.up (by decide), rfl, g168_24 (R := R') hm a2 (fun R2 b1 b2 b3 => hQ R2 b1 (a4.tr b2) b3)⟩
theorem g168_13 {x1 : Int32} {m : Nat} (hm : m < 600) (h : z_Dz x y d R) (hQ : ∀ R', z_Dz x y d R' → z_XR R R' → R'.2.2 41 53 = 0 → Q none R') : p168_13 17 R.1 R.2.1 R.2.2 x1 (nI m) Q := by
  obtain ⟨R', a1, a2, a3⟩ := e164 hm h
  exact ⟨none, R', a1.up (by decide), rfl, g168_18 (R := R') hm a2 (fun R2 b1 b2 b3 => hQ R2 b1 (a3.tr b2) b3)⟩
theorem g168_6 {x1 : Int32} {m : Nat} (hm : m < 600) (h : z_Dz x y d R) (hQ : ∀ R', z_Dz x y d R' → z_XR R R' → R'.2.2 41 53 = 0 → Q none R') : p168_6 17 R.1 R.2.1 R.2.2 x1 (nI m) Q := by
  obtain ⟨R', a1, a2, -, a4⟩ := e154 (k := 40) h (by decide)
  exact ⟨none, R', a1.up (by decide), rfl, g168_13 (R := R') hm a2 (fun R2 b1 b2 b3 => hQ R2 b1 (a4.tr b2) b3)⟩
theorem g165_77 {x1 : Int32} {m : Nat} (hm : m < 600) (h : z_Dz x y d R) (hQ : ∀ R', z_Dz x y d R' → z_XR R R' → R'.2.2 41 53 = 0 → Q none R') : p165_77 17 R.1 R.2.1 R.2.2 x1 (nI m) Q := by
  obtain ⟨R', a1, a2, a3, a4⟩ := e159 (l := 16) (u := nI m) (v := 0) h
  exact ⟨none, R', a1, rfl, hQ R' a2 a3 a4⟩
theorem g165_70 {x1 v : Int32} {m : Nat} (hm : m < 600) (h : z_Dz x y d R) (hQ : ∀ R', z_Dz x y d R' → z_XR R R' → R'.2.2 41 53 = 0 → Q none R') : p165_70 17 R.1 R.2.1 R.2.2 x1 (nI m) v (nI m) Q := by
  obtain ⟨zi, zc⟩ := z_o6_in hm
  have h' : z_Dz x y d (z_u R.1 70 ((m, v) :: R.1 70), R.2.1, R.2.2) := ⟨h.1, h.2.B rfl rfl rfl⟩
  have hx : z_XR R (z_u R.1 70 ((m, v) :: R.1 70), R.2.1, R.2.2) := z_XR_B (fun q r => z_un (by omega))
  unfold p165_70
  rw [zc]
  refine ⟨zi, ?_⟩
  obtain ⟨R', a1, a2, -, a4⟩ := e154 (k := 61) h' (by decide)
  exact ⟨none, R', a1.up (by decide), rfl, g165_77 (R := R') hm a2 (fun R2 b1 b2 b3 => hQ R2 b1 (hx.tr (a4.tr b2)) b3)⟩
theorem g165_60 {x1 v : Int32} {m : Nat} (hm : m < 600) (h : z_Dz x y d R) (hQ : ∀ R', z_Dz x y d R' → z_XR R R' → R'.2.2 41 53 = 0 → Q none R') : p165_60 17 R.1 R.2.1 R.2.2 x1 (nI m) v (nI m) Q := by
  obtain ⟨zi, zc⟩ := z_o6_in hm
  have h' : z_Dz x y d (z_u R.1 69 ((m, v) :: R.1 69), R.2.1, R.2.2) := ⟨h.1, h.2.B rfl rfl rfl⟩
  have hx : z_XR R (z_u R.1 69 ((m, v) :: R.1 69), R.2.1, R.2.2) := z_XR_B (fun q r => z_un (by omega))
  unfold p165_60
  rw [zc]
  refine ⟨zi, ?_⟩
  obtain ⟨v', R', a1, a2, a3⟩ := e156 h'
  exact ⟨_, R', a1.up (by decide), v', rfl, g165_70 (R := R') hm a2 (fun R2 b1 b2 b3 => hQ R2 b1 (hx.tr (a3.tr b2)) b3)⟩
theorem g165_51 {x1 : Int32} {m : Nat} (hm : m < 600) (h : z_Dz x y d R) (hQ : ∀ R', z_Dz x y d R' → z_XR R R' → R'.2.2 41 53 = 0 → Q none R') : p165_51 17 R.1 R.2.1 R.2.2 x1 (nI m) Q := by
  obtain ⟨v', R', a1, a2, a3⟩ := e155 h
  exact ⟨_, R', a1.up (by decide), v', rfl, g165_60 (R := R') hm a2 (fun R2 b1 b2 b3 => hQ R2 b1 (a3.tr b2) b3)⟩
theorem g165_45 {x1 : Int32} {m : Nat} (hm : m < 600) (h : z_Dz x y d R) (hQ : ∀ R', z_Dz x y d R' → z_XR R R' → R'.2.2 41 53 = 0 → Q none R') : p165_45 17 R.1 R.2.1 R.2.2 x1 (nI m) Q := by
  obtain ⟨R', a1, a2, -, a4⟩ := e154 (k := 58) h (by decide)
  exact ⟨none, R', a1.up (by decide), rfl, g165_51 (R := R') hm a2 (fun R2 b1 b2 b3 => hQ R2 b1 (a4.tr b2) b3)⟩
theorem g165_38 {x1 v : Int32} {m : Nat} (hm : m < 600) (h : z_Dz x y d R) (hQ : ∀ R', z_Dz x y d R' → z_XR R R' → R'.2.2 41 53 = 0 → Q none R') : p165_38 17 R.1 R.2.1 R.2.2 x1 (nI m) v (nI m) Q := by
  obtain ⟨zi, zc⟩ := z_o6_in hm
  have h' : z_Dz x y d (z_u R.1 68 ((m, v) :: R.1 68), R.2.1, R.2.2) := ⟨h.1, h.2.B rfl rfl rfl⟩
  have hx : z_XR R (z_u R.1 68 ((m, v) :: R.1 68), R.2.1, R.2.2) := z_XR_B (fun q r => z_un (by omega))
  unfold p165_38
  rw [zc]
  refine ⟨zi, ?_⟩
  obtain ⟨R', a1, a2, -, a4⟩ := e154 (k := 41) h' (by decide)
  exact ⟨none, R', a1.up (by decide), rfl, g165_45 (R := R') hm a2 (fun R2 b1 b2 b3 => hQ R2 b1 (hx.tr (a4.tr b2)) b3)⟩
theorem g165_29 {x1 : Int32} {m : Nat} (hm : m < 600) (h : z_Dz x y d R) (hQ : ∀ R', z_Dz x y d R' → z_XR R R' → R'.2.2 41 53 = 0 → Q none R') : p165_29 17 R.1 R.2.1 R.2.2 x1 (nI m) Q := by
  obtain ⟨v', R', a1, a2, a3⟩ := e155 h
  exact ⟨_, R', a1.up (by decide), v', rfl, g165_38 (R := R') hm a2 (fun R2 b1 b2 b3 => hQ R2 b1 (a3.tr b2) b3)⟩
theorem g165_23 {x1 : Int32} {m : Nat} (hm : m < 600) (h : z_Dz x y d R) (hQ : ∀ R', z_Dz x y d R' → z_XR R R' → R'.2.2 41 53 = 0 → Q none R') : p165_23 17 R.1 R.2.1 R.2.2 x1 (nI m) Q := by
  obtain ⟨R', a1, a2, -, a4⟩ := e154 (k := 58) h (by decide)
  exact ⟨none, R', a1.up (by decide), rfl, g165_29 (R := R') hm a2 (fun R2 b1 b2 b3 => hQ R2 b1 (a4.tr b2) b3)⟩
theorem g165_18 {x1 : Int32} {m : Nat} (hm : m < 600) (h : z_Dz x y d R) (hQ : ∀ R', z_Dz x y d R' → z_XR R R' → R'.2.2 41 53 = 0 → Q none R') : p165_18 17 R.1 R.2.1 R.2.2 x1 (nI m) Q := by
  obtain ⟨R', a1, a2, a3⟩ := e166 hm h
  exact ⟨none, R', a1.up (by decide), rfl, g165_23 (R := R') hm a2 (fun R2 b1 b2 b3 => hQ R2 b1 (a3.tr b2) b3)⟩
theorem g165_12 {x1 : Int32} {m : Nat} (hm : m < 600) (h : z_Dz x y d R) (hQ : ∀ R', z_Dz x y d R' → z_XR R R' → R'.2.2 41 53 = 0 → Q none R') : p165_12 17 R.1 R.2.1 R.2.2 x1 (nI m) Q := by
  obtain ⟨R', a1, a2, -, a4⟩ := e154 (k := 40) h (by decide)
  exact ⟨none, R', a1.up (by decide), rfl, g165_18 (R := R') hm a2 (fun R2 b1 b2 b3 => hQ R2 b1 (a4.tr b2) b3)⟩
theorem g165_6 {x1 : Int32} {m : Nat} (hm : m < 600) (h : z_Dz x y d R) (hQ : ∀ R', z_Dz x y d R' → z_XR R R' → R'.2.2 41 53 = 0 → Q none R') : p165_6 17 R.1 R.2.1 R.2.2 x1 (nI m) Q := by
  obtain ⟨R', a1, a2, a3⟩ := e164 hm h
  exact ⟨none, R', a1.up (by decide), rfl, g165_12 (R := R') hm a2 (fun R2 b1 b2 b3 => hQ R2 b1 (a3.tr b2) b3)⟩
theorem g167_26 {x1 x2 : Int32} {m : Nat} (h : z_Dz x y d R) (hQ : ∀ R', z_Dz x y d R' → z_XR R R' → R'.2.2 41 53 = 0 → Q none R') : p167_26 17 R.1 R.2.1 R.2.2 x1 x2 (nI m) Q := by
  obtain ⟨R', a1, a2, a3, a4⟩ := e159 (l := 16) (u := nI m) (v := 0) h
  exact ⟨none, R', a1, rfl, hQ R' a2 a3 a4⟩
theorem g167_6 {x1 x2 : Int32} {m : Nat} (hm : m < 600) (h : z_Dz x y d R) (hQ : ∀ R', z_Dz x y d R' → z_XR R R' → R'.2.2 41 53 = 0 → Q none R') : p167_6 17 R.1 R.2.1 R.2.2 x1 x2 (nI m) Q := by
  obtain ⟨zi, zc⟩ := z_o6_in hm
  unfold p167_6
  by_cases h4 : x2 = 4
  · refine z_ifp h4 ?_
    unfold p167_12
    by_cases h0 : R.2.2 41 11 = 0
    · refine z_ifp h0 ?_
      unfold p167_19
      rw [zc]
      exact ⟨zi, g167_26 (R := (z_u R.1 60 ((m, -1) :: R.1 60), R.2.1, R.2.2)) ⟨h.1, h.2.B rfl rfl rfl⟩ (fun R' b1 b2 b3 => hQ R' b1 ((z_XR_B (fun q r => z_un (by omega))).tr b2) b3)⟩
    · exact z_ifn h0 (g167_26 h hQ)
  · exact z_ifn h4 (g167_26 h hQ)
end ZX7
section ZX8
variable {b : Nat → Nat} {n me : Nat} {ep : Nat → Nat} {j : Nat} {t : Nat × Nat × Int32} {τ : z_TT} {s nn kk w d k : Nat} {S : z_CS} {R Rb : z_RS}
/-- what is to be shown of expressions that are less deep -/
def z_Ih (b : Nat → Nat) (n me : Nat) (ep : Nat → Nat) (k : Nat) : Prop := ∀ (d : Nat), d + k = 50 → ∀ (S : z_CS) (R : z_RS) (j : Nat) (t : Nat × Nat × Int32) (τ : z_TT) (s nn kk w : Nat), z_P b n me ep j t τ s nn kk w S R → z_Aq d R → (s + w ≤ 3 * j ∧ 5 * kk ≤ j ∧ w ≤ 3 * d) → z_WC (5 * k + 80) 62 0 [(0, .ref 131), (1, .int (nI d))] [] S (fun o S' => z_Eo b n me ep d j t τ s nn kk w S R o S')
/-- the reference begins an expression -/
theorem rB (hp : z_P b n me ep j t τ s nn kk w S R) (hq : z_Aq d R) (hd : d < 50) : ∃ Rb, z_Bg d R Rb ∧ ∀ Q, p160_150 18 Rb.1 Rb.2.1 Rb.2.2 (nI d) (fun x R1 => x = none ∧ z_Hq Q R1) → z_Hq Q R := by
  have h0 : R.2.2 41 11 = 0 := hp.1.2.2.2.1
  have hw : R.2.2 41 7 = z_wco t.2.1 := hp.1.2.1.2.2.2.2.2.2.2.1
  have n5 : ¬ R.2.2 41 7 = 5 := by
    rw [hw]
    exact fun q => hp.1.2.2.1 ((z_wco_5 _ hp.1.len.2).mp q)
  obtain ⟨Rb, h1, h2⟩ := r160 hd h0 n5 hq.1.1
  refine ⟨Rb, h1, fun Q hh => ?_⟩
  refine t140_79 (B := R.1) (M := R.2.1) (U := R.2.2) (z_ifp h0 (z_ifn (by rw [hq.2.1]; decide) ?_))
  unfold p140_94
  exact z_ifp hq.2.1 (h2 _ hh)
end ZX8
