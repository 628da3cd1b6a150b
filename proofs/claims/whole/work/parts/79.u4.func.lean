/-! Reading: function (reference). -/
/-- type i takes a, gives b, with the row r -/
def z_tf (ta tb tr : List (Nat × Int32)) (a b r : Int32) (i : Nat) : Bool := decide (z_fn 0 ta i = a) && decide (z_fn 0 tb i = b) && decide (z_fn 0 tr i = r)
section ZRD5
variable {L : Nat} {xs : Nat → Int32} {fv : Value} {f w : Nat} {c : Nat × Nat} {A : Nat → List (Nat × Int32)} {E : List (Nat × Option Nat)} {N : Nat → Nat} {V : Nat → Nat → Int32} {W : Nat} {g : List z_E} {B : Nat → List (Nat × Int32)} {M : Nat → List (Nat × Int64)} {U : Nat → Nat → Int32}
theorem s158s {i : Nat} {x1 x2 x3 : Int32} {o : z_V} {T' : z_Y} (hi : i < 1500) (hP : (z_tf (B 46) (B 47) (B 48) x1 x2 x3) i = false) (kk : z_Ln L xs fv f w 158 3 [(0, .ref 148), (1, .int x1), (2, .int x2), (3, .int x3), (4, .int (nI (i + 1)))] [] (hC A E N V W ++ (hR B M U ++ g), c) o T') : z_Ln L xs fv f w 158 12 [(0, .ref 148), (1, .int x1), (2, .int x2), (3, .int x3), (4, .int (nI i))] [] (hC A E N V W ++ (hR B M U ++ g), c) o T' := by
  have ci : (nI i).toNatClampNeg = i := nI_clamp (by omega)
  have ii : z_in (nI i) 1500 = true := z_inI hi (by decide)
  have nx : z_Ln L xs fv f w 158 48 [(0, .ref 148), (1, .int x1), (2, .int x2), (3, .int x3), (4, .int (nI i))] [] (hC A E N V W ++ (hR B M U ++ g), c) o T' := by
    refine b158_48 ?_
    rw [nI_1]
    exact kk
  by_cases h1 : z_fn 0 (B 46) i = x1
  · by_cases h2 : z_fn 0 (B 47) i = x2
    · by_cases h3 : z_fn 0 (B 48) i = x3
      · unfold z_tf at hP
        rw [decide_eq_true h1, decide_eq_true h2, decide_eq_true h3] at hP
        cases hP
      · exact b158_12f ii (fun q => q (by rw [ci]; exact h1)) (b158_23f ii (fun q => q (by rw [ci]; exact h2)) (b158_34t ii (by rw [ci]; exact h3) nx))
    · exact b158_12f ii (fun q => q (by rw [ci]; exact h1)) (b158_23t ii (by rw [ci]; exact h2) nx)
  · exact b158_12t ii (by rw [ci]; exact h1) nx
theorem s158l {m : Nat} {x1 x2 x3 : Int32} {o : z_V} {T' : z_Y} (hm : m ≤ 1500) (hU : U 41 13 = nI m) : ∀ k i, i + k = m → ((∀ j, i ≤ j → j < m → (z_tf (B 46) (B 47) (B 48) x1 x2 x3) j = false) ∧ (z_Ln L xs fv f w 158 54 [(0, .ref 148), (1, .int x1), (2, .int x2), (3, .int x3), (4, .int (nI m))] [] (hC A E N V W ++ (hR B M U ++ g), c) o T')) ∨ (∃ j, i ≤ j ∧ j < m ∧ (z_tf (B 46) (B 47) (B 48) x1 x2 x3) j = true ∧ (∀ j2, i ≤ j2 → j2 < j → (z_tf (B 46) (B 47) (B 48) x1 x2 x3) j2 = false) ∧ o = (.inl (some (.int (nI j)))) ∧ T' = (hC A E N V W ++ (hR B M U ++ g), c)) → z_Ln L xs fv f w 158 3 [(0, .ref 148), (1, .int x1), (2, .int x2), (3, .int x3), (4, .int (nI i))] [] (hC A E N V W ++ (hR B M U ++ g), c) o T' := by
  intro k
  induction k with
  | zero =>
    intro i h hh
    have : i = m := by omega
    subst this
    rcases hh with ⟨-, kk⟩ | ⟨j, j1, j2, -⟩
    · exact b158_3t (by rw [hU]; exact nI_le (Nat.le_refl _) (by omega)) kk
    · omega
  | succ k ih =>
    intro i h hh
    refine b158_3f (by rw [hU]; exact nI_ge (by omega) (by omega)) ?_
    have ci : (nI i).toNatClampNeg = i := nI_clamp (by omega)
    have ii : z_in (nI i) 1500 = true := z_inI (by omega) (by decide)
    rcases hh with ⟨hno, kk⟩ | ⟨j, j1, j2, j3, j4, ho, hT⟩
    · exact s158s (by omega) (hno i (Nat.le_refl _) (by omega)) (ih (i + 1) (by omega) (Or.inl ⟨fun j a b => hno j (by omega) b, kk⟩))
    · by_cases hij : i = j
      · subst hij
        rw [ho, hT]
        unfold z_tf at j3
        rw [Bool.and_eq_true, Bool.and_eq_true] at j3
        exact b158_12f ii (fun q => q (by rw [ci]; exact of_decide_eq_true j3.1.1)) (b158_23f ii (fun q => q (by rw [ci]; exact of_decide_eq_true j3.1.2)) (b158_34f ii (fun q => q (by rw [ci]; exact of_decide_eq_true j3.2)) b158_45))
      · exact s158s (by omega) (j4 i (Nat.le_refl _) (by omega)) (ih (i + 1) (by omega) (Or.inr ⟨j, by omega, j2, j3, fun a b c => j4 a (by omega) c, ho, hT⟩))
end ZRD5
