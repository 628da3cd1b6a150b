/-! Reading programs, both together: what is a node by itself. -/
/-- what reading an operand comes to; G: what the reference asks from here on -/
def z_AtL (b : Nat → Nat) (n me : Nat) (ep : Nat → Nat) (d j : Nat) (τ : z_TT) (s nn kk w p : Nat) (S : z_CS) (R : z_RS) (G : (Option Value → z_RS → Prop) → Prop) (S' : z_CS) : Prop :=
  ∃ (R' : z_RS) (j' : Nat) (t' : Nat × Nat × Int32) (τ' : z_TT) (s' nn' kk' f m : Nat), z_P b n me ep j' t' τ' s' nn' kk' w S' R' ∧ z_Zd (d + 1) R' ∧ z_Cp b n me τ' S'.1 R'.1 ((nn, nn'), (kk, kk')) f (z_wx (d + 1)) m s s' (nI p) ∧ z_FR nn kk (d + 1) R R' ∧ z_Te τ τ' ∧ z_FC s w S S' ∧ (j < j' ∧ s' + 2 + 3 * j ≤ s + 3 * j' ∧ 5 * kk' + j ≤ 5 * kk + j' ∧ nn < nn' ∧ kk ≤ kk' ∧ s < s') ∧ ∀ Q, z_WR 18 171 0 [(0, .ref 148), (1, .int (nI d)), (2, .int (nI m)), (3, .int (nI p))] [] R' (fun x R1 => x = none ∧ z_Hq Q R1) → G Q
def z_AtD (S : z_CS) (R : z_RS) (G : (Option Value → z_RS → Prop) → Prop) (S' : z_CS) : Prop := ∃ x y, z_Xd x y S S' ∧ ∀ Q, (∀ R', z_Td x y R'.2.2 → z_XR R R' → Q none R') → G Q
section ZY5
variable {b : Nat → Nat} {n me : Nat} {ep : Nat → Nat} {j : Nat} {t : Nat × Nat × Int32} {τ : z_TT} {s nn kk w d p : Nat} {S : z_CS} {R : z_RS}
theorem jcore {o a1 a2 kd : Int32} {st : z_RS → Nat → z_RS} {G : (Option Value → z_RS → Prop) → Prop} (hoo : ¬ (o = 17 ∨ o = 19 ∨ o = 24)) (hp : z_P b n me ep j t τ s nn kk w S R) (ht : ¬ t.2.1 = 0) (hs : s ≤ 8000) (hz : z_Zd (d + 1) R)
    (hst : ∀ R2 m, (st R2 m).2 = R2.2 ∧ (∀ k, ¬ (k = 64 ∨ k = 65 ∨ k = 68) → (st R2 m).1 k = R2.1 k) ∧ ∀ k i, i ≠ m → z_fn 0 ((st R2 m).1 k) i = z_fn 0 (R2.1 k) i)
    (hG : ∀ Q R1 R2 m, z_Rr 14 141 0 [(0, .ref 148)] [] R none R1 → z_Rr 14 163 0 [(0, .ref 148), (1, .int kd)] [] R1 (some (.int (nI m))) R2 → m < 600 → z_WR 18 171 0 [(0, .ref 148), (1, .int (nI d)), (2, .int (nI m)), (3, .int (nI p))] [] (st R2 m) (fun x R1 => x = none ∧ z_Hq Q R1) → G Q)
    (hCb : ∀ (A' : Nat → List (Nat × Int32)) (R2 : z_RS), z_Is A' s o a1 a2 0 0 (nI p) → z_fn 0 (R2.1 57) nn = kd → z_Cb b n me τ A' (st R2 nn).1 ((nn, nn + 1), (kk, kk)) (fun c v g x y q => z_wle c (z_wx (d + 1)) ∧ z_Cp b n me τ A' (st R2 nn).1 v 0 (z_wx (d + 1) - c) g x y q) nn s (s + 1)) :
    ∃ S1, z_Cr 14 67 0 [(0, .ref 120), (1, .int o), (2, .int a1), (3, .int a2), (4, .int (nI p))] [] S (.inl (some (.int (nI s)))) S1 ∧ z_Rm ([], S1.2.2.2.2.2) ∧ ((∃ S2 S3, z_Cr 14 49 0 [(0, .ref 110)] [] S1 (.inl none) S2 ∧ z_Rm ([], S2.2.2.2.2.2) ∧ z_Cr 14 65 0 [(0, .ref 131)] [] S2 (.inl none) S3 ∧ z_AtL b n me ep d j τ s nn kk w p S R G S3) ∨ (∃ S2, z_Cr 14 49 0 [(0, .ref 110)] [] S1 (.inr 10) S2 ∧ z_AtD S R G S2) ∨ (∃ S2 S3, z_Cr 14 49 0 [(0, .ref 110)] [] S1 (.inl none) S2 ∧ z_Rm ([], S2.2.2.2.2.2) ∧ z_Cr 14 65 0 [(0, .ref 131)] [] S2 (.inr 10) S3 ∧ z_AtD S R G S3)) := by
  obtain ⟨S1, i1, P1, fc1, i4, -, -⟩ := Pa (o := o) (a1 := a1) (a2 := a2) (f := nI p) hp hs (fun h => absurd h hoo)
  refine ⟨S1, i1, P1.1.2.2.2.2.rm.1, ?_⟩
  obtain ⟨t1, R1, n1, n2, n3, n4⟩ := jn P1.1 ht
  -- the reference, once the class has ended
  have dead : ∀ (x y : Int32) (R2 : z_RS) (m : Nat) (S' : z_CS), m < 600 → z_Xd x y S S' → z_Rr 14 163 0 [(0, .ref 148), (1, .int kd)] [] R1 (some (.int (nI m))) R2 → z_Dz x y (d + 1) R2 → z_XR R R2 → z_AtD S R G S' := by
    intro x y R2 m S' m6 hx g1 g2 g3
    refine ⟨x, y, hx, fun Q hQ => hG Q R1 R2 m n1 g1 m6 ?_⟩
    obtain ⟨q1, q2, q3⟩ := hst R2 m
    have g2' : z_Dz x y (d + 1) (st R2 m) := by
      have e : st R2 m = ((st R2 m).1, R2.2.1, R2.2.2) := Prod.ext rfl q1
      rw [e]
      exact ⟨g2.1, g2.2.B (q2 80 (by decide)) (q2 81 (by decide)) (q2 95 (by decide))⟩
    have gx : z_XR R2 (st R2 m) := by
      have e : st R2 m = ((st R2 m).1, R2.2.1, R2.2.2) := Prod.ext rfl q1
      rw [e]
      exact z_XR_B (fun q r => q2 q (by omega))
    obtain ⟨R3, h1, h2, h3, h4⟩ := e171 (i := d) (v := nI m) (p := nI p) (Nat.lt_succ_self d) g2'
    refine ⟨none, R3, h1.up (by decide), rfl, eH h2 ?_ (fun R' r1 r2 => hQ R' r1 (g3.tr (gx.tr (h3.tr r2))))⟩
    rcases h4 with h4 | h4
    · exact Or.inr (Or.inr ⟨Nat.succ_pos d, Or.inr (Or.inl h4)⟩)
    · exact Or.inl h4
  rcases n4 with ⟨nb, S2, m1, m2, m3⟩ | ⟨nb, S2, m1, m2, m3⟩
  case inr =>
    obtain ⟨m, R2, m6, g1, g2, g3, g4⟩ := e163 (k := kd) (x := 2) (y := nI t1.1) (d := d + 1) (R := R1) ⟨m3.q, hz.lw n2⟩
    exact Or.inr (Or.inl ⟨S2, m1, dead 2 (nI t1.1) R2 m S2 m6 (m2.tr fc1.1) g1 g2 (n2.xR.tr g3)⟩)
  have P2 := P1.kw m3 m2 n2 (by omega)
  have Z2 := hz.lw n2
  rcases Pk (k := kd) P2 with ⟨S3, R3, c1, c2, P3, c4, c5, c6, c7, c8⟩ | ⟨S3, R3, c1, c2, c3, c4, c5⟩
  case inr =>
    exact Or.inr (Or.inr ⟨S2, S3, m1, m3.2.2.2.2.rm.1, c1, dead 4 (nI t1.1) R3 0 S3 (by decide) ((c2.tr m2.xc).tr fc1.1) c3 ⟨c4.q, Z2.lw c5⟩ (n2.xR.tr c5.xR)⟩)
  have n600 : nn < 600 := by
    have := P3.2.2.2.2.2.1.2.2
    omega
  refine Or.inl ⟨S2, S3, m1, m3.2.2.2.2.rm.1, c1, ?_⟩
  obtain ⟨q1, q2, q3⟩ := hst R3 nn
  have e : st R3 nn = ((st R3 nn).1, R3.2.1, R3.2.2) := Prod.ext rfl q1
  have Z3 : z_Zd (d + 1) R3 := by
    refine ⟨(c6 52 (by decide)).trans Z2.1, Z2.2.1, ⟨nn + 1, by omega, P3.2.2.2.2.2.1.2.1⟩, fun i hi => ?_⟩
    rw [c5, z_un (by decide), z_un (by decide), z_un (by decide), z_un (by decide), z_un (by decide), z_un (by decide)]
    exact Z2.2.2.2 i hi
  have P4 : z_P b n me ep (j + 1) t1 τ (s + 1) (nn + 1) kk w S3 (st R3 nn) := P3.ref (fun q r => q2 q (by omega)) (fun i _ => by rw [q1])
  have Z4 : z_Zd (d + 1) (st R3 nn) := by
    rw [e]
    exact Z3.B (q2 80 (by decide)) (q2 81 (by decide)) (q2 95 (by decide))
  have x34 : z_XR R3 (st R3 nn) := by
    rw [e]
    exact z_XR_B (fun q r => q2 q (by omega))
  have f34 : z_FR nn kk 50 R3 (st R3 nn) := ⟨x34, fun q a i c => q3 q i (by omega), fun q a b' i c => by rw [q2 q (by omega)], fun q a b' i c => by rw [q2 q (by omega)]⟩
  have lj := P2.1.len.1
  have k57 : z_fn 0 (R3.1 57) nn = kd := by rw [c5, z_un (by decide), z_uk, z_fcs]
  have is3 : z_Is S3.1 s o a1 a2 0 0 (nI p) := by
    rw [c4, m2.1]
    exact i4
  have d50 := hz.2.1
  refine ⟨st R3 nn, j + 1, t1, τ, s + 1, nn + 1, kk, 1, nn, P4, Z4, ⟨⟨Nat.le_refl _, Nat.lt_succ_self _, Nat.lt_succ_self _⟩, is3.2.2.2.2.2, hCb S3.1 R3 is3 k57⟩, ((n2.fr (nn := nn) (kk := kk) (d := d + 1)).tr c8 (Nat.le_refl _) (Nat.le_refl _) (by omega)).tr f34 (Nat.le_refl _) (Nat.le_refl _) (by omega), z_Te.rf, (fc1.tr m2.fc (Nat.le_refl _) (Nat.le_refl _)).tr (c7.tr z_FC.rf (Nat.le_refl _) (Nat.le_refl _) : z_FC (s + 1) w S2 S3) (by omega) (Nat.le_refl _), ⟨by omega, by omega, by omega, by omega, Nat.le_refl _, by omega⟩, fun Q h => hG Q R1 R3 nn n1 c2 n600 h⟩
/-- a value -/
theorem jval {a1 a2 kd : Int32} {st : z_RS → Nat → z_RS} {G : (Option Value → z_RS → Prop) → Prop} (hp : z_P b n me ep j t τ s nn kk w S R) (ht : ¬ t.2.1 = 0) (hs : s ≤ 8000) (hz : z_Zd (d + 1) R)
    (hst : ∀ R2 m, (st R2 m).2 = R2.2 ∧ (∀ k, ¬ (k = 64 ∨ k = 65 ∨ k = 68) → (st R2 m).1 k = R2.1 k) ∧ ∀ k i, i ≠ m → z_fn 0 ((st R2 m).1 k) i = z_fn 0 (R2.1 k) i)
    (hG : ∀ Q R1 R2 m, z_Rr 14 141 0 [(0, .ref 148)] [] R none R1 → z_Rr 14 163 0 [(0, .ref 148), (1, .int kd)] [] R1 (some (.int (nI m))) R2 → m < 600 → z_WR 18 171 0 [(0, .ref 148), (1, .int (nI d)), (2, .int (nI m)), (3, .int (nI p))] [] (st R2 m) (fun x R1 => x = none ∧ z_Hq Q R1) → G Q)
    (hCb : ∀ (A' : Nat → List (Nat × Int32)) (R2 : z_RS), z_Is A' s 0 a1 a2 0 0 (nI p) → z_fn 0 (R2.1 57) nn = kd → z_Cb b n me τ A' (st R2 nn).1 ((nn, nn + 1), (kk, kk)) (fun c v g x y q => z_wle c (z_wx (d + 1)) ∧ z_Cp b n me τ A' (st R2 nn).1 v 0 (z_wx (d + 1) - c) g x y q) nn s (s + 1)) :
    ∃ o S', z_Cr 15 76 0 [(0, .ref 131), (1, .int a1), (2, .int a2), (3, .int (nI p))] [] S o S' ∧ z_oj o (fun v => v = none ∧ z_AtL b n me ep d j τ s nn kk w p S R G S') (z_AtD S R G S') := by
  have hr := hp.1.2.2.2.2
  have go : z_WC 15 76 0 [(0, .ref 131), (1, .int a1), (2, .int a2), (3, .int (nI p))] [] S (fun o S' => z_oj o (fun v => v = none ∧ z_AtL b n me ep d j τ s nn kk w p S R G S') (z_AtD S R G S')) := by
    refine t76_0 (A := S.1) (E := S.2.1) (N := S.2.2.1) (V := S.2.2.2.1) (W := S.2.2.2.2.1) (c := S.2.2.2.2.2) ?_
    obtain ⟨S1, i1, i2, h⟩ := jcore (o := 0) (by decide) hp ht hs hz hst hG hCb
    refine ⟨hr.rm.1, .inl (some (.int (nI s))), S1, i1, nI s, rfl, i2, ?_⟩
    rcases h with ⟨S2, S3, m1, m2, m3, m4⟩ | ⟨S2, m1, m2⟩ | ⟨S2, S3, m1, m2, m3, m4⟩
    · exact ⟨.inl none, S2, m1, rfl, m2, .inl none, S3, m3, rfl, rfl, m4⟩
    · exact ⟨.inr 10, S2, m1, rfl, rfl, m2⟩
    · exact ⟨.inl none, S2, m1, rfl, m2, .inr 10, S3, m3, rfl, rfl, m4⟩
  obtain ⟨o, S', g1, g2⟩ := go
  exact ⟨o, S', g1, g2⟩
end ZY5
