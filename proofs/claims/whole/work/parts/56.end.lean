/-! Ending, as a whole. -/
theorem z_uu {α : Type} {A : Nat → α} {k : Nat} {x y : α} : z_u (z_u A k x) k y = z_u A k y := by
  funext j
  unfold z_u
  by_cases h : j = k
  · rw [if_pos h, if_pos h]
  · rw [if_neg h, if_neg h, if_neg h]
theorem z_us {α : Type} {A : Nat → α} {k : Nat} : z_u A k (A k) = A := by
  funext j
  unfold z_u
  by_cases h : j = k
  · rw [if_pos h, h]
  · rw [if_neg h]
section SEND
variable {L : Nat} {xs : Nat → Int32} {fv : Value} {f w : Nat} {c : Nat × Nat} {o : z_V} {T' : z_Y} {A : Nat → List (Nat × Int32)} {E : List (Nat × Option Nat)} {N : Nat → Nat} {V : Nat → Nat → Int32} {W : Nat} {g : List z_E} {B : Nat → List (Nat × Int32)} {M : Nat → List (Nat × Int64)} {U : Nat → Nat → Int32} {n : Int32}
/-- a number of bytes that is refused -/
def z_nob (v n : Int32) : Prop := n < 0 ∨ (¬ n < 0 ∧ 20 < n) ∨ (¬ n < 0 ∧ ¬ 20 < n ∧ ¬ v + n ≤ 1500)
theorem z_nob_or (len : Nat) (hl : len ≤ 1500) (n : Int32) : z_nob (nI len) n ∨ ∃ j : Nat, n = nI j ∧ j ≤ 20 ∧ len + j ≤ 1500 := by
  by_cases h0 : n < 0
  · exact Or.inl (Or.inl h0)
  · obtain ⟨j, hj, rfl⟩ := nI_of h0
    by_cases h1 : j ≤ 20
    · by_cases h2 : len + j ≤ 1500
      · exact Or.inr ⟨j, rfl, h1, h2⟩
      · refine Or.inl (Or.inr (Or.inr ⟨h0, nI_nlt (a := 20) (b := j) h1 (by omega), ?_⟩))
        rw [nI_add]
        exact nI_ge (a := 1500) (by omega) (by omega)
    · exact Or.inl (Or.inr (Or.inl ⟨h0, nI_lt (a := 20) (b := j) (by omega) hj⟩))
theorem s_endC_no (h : z_nob (V 3 2) n) : z_Ln L xs fv f w 16 0 [(0, .ref 107), (1, .int n)] [] (hC A E N V W ++ g, c) (.inl (some (.int (-1)))) (hC A E N V W ++ g, c) := by
  have e : z_Ln L xs fv f w 16 25 [(0, .ref 107), (1, .int n)] [] (hC A E N V W ++ g, c) (.inl (some (.int (-1)))) (hC A E N V W ++ g, c) := b16_25 (z_Ln.ret rfl z_retI)
  rcases h with h | ⟨h1, h2⟩ | ⟨h1, h2, h3⟩
  · exact b16_0t h e
  · exact b16_0f h1 (b16_4t h2 e)
  · exact b16_0f h1 (b16_4f h2 (b16_10f h3 e))
theorem s_endC_ok {len j : Nat} (hV : V 3 2 = nI len) (hj : j ≤ 20) (hl : len + j ≤ 1500) (hb : ∀ i, i < 20 → fits .byte (.int (z_fn 0 (A 1) i)) = true) (hRm : z_Rm (hC A E N V W ++ g, c)) :
    ∃ A', (∀ k, k ≠ 1 → k ≠ 4 → A' k = A k) ∧ A' 4 = z_cpl (A 1) (A 4) 0 len j ∧ (∀ i, i < 20 → z_fn 0 (A' 1) i = 0) ∧ ∀ (fv : Value) (f w : Nat), 2 ≤ f → 120 ≤ w → z_Ln L xs fv f w 16 0 [(0, .ref 107), (1, .int (nI j))] [] (hC A E N V W ++ g, c) (.inl (some (.int (nI (len + j))))) (hC A' E N (z_v V 3 2 (nI (len + j))) W ++ g, c) := by
  have e1 : V 3 2 + nI j = nI (len + j) := by rw [hV, nI_add]
  have h1 : ¬ nI j < 0 := nI_pos (by omega)
  have h2 : ¬ 20 < nI j := nI_nlt (a := 20) (b := j) hj (by omega)
  have h3 : V 3 2 + nI j ≤ 1500 := by
    rw [e1]
    exact nI_le (b := 1500) hl (by omega)
  have c1 : (V 3 2).toNatClampNeg = len := by rw [hV, nI_clamp (by omega)]
  have c2 : (nI j).toNatClampNeg = j := nI_clamp (by omega)
  have hcp : z_cpk .byte 1 20 1500 (A 1) 0 (V 3 2) (nI j) [] := by
    refine ⟨⟨rfl, rfl, by decide⟩, ⟨by decide, by rw [hV]; exact nI_pos (by omega), h1⟩, ⟨?_, ?_⟩, ?_⟩
    · rw [c2]
      show 0 + j ≤ 20
      omega
    · rw [c1, c2]
      exact hl
    · rw [c2]
      refine List.all_eq_true.mpr (fun i hi => ?_)
      have hi := List.mem_range.mp hi
      have h0 : (0 : Int32).toNatClampNeg + i = i := by
        show 0 + i = i
        omega
      rw [h0]
      exact hb i (by omega)
  have key := fun (fv : Value) (f w : Nat) (hf : 2 ≤ f) (hw : 120 ≤ w) => s_endw (L := L) (xs := xs) (fv := fv) hRm hf hw hcp
  rw [e1, c1, c2] at key
  refine ⟨_, ?_, ?_, ?_, fun fv f w hf hw => b16_0f h1 (b16_4f h2 (b16_10t h3 (key fv f w hf hw)))⟩
  · intro k k1 k4
    unfold z_u
    simp [k1, k4]
  · rfl
  · intro i hi
    have : i = 0 ∨ i = 1 ∨ i = 2 ∨ i = 3 ∨ i = 4 ∨ i = 5 ∨ i = 6 ∨ i = 7 ∨ i = 8 ∨ i = 9 ∨ i = 10 ∨ i = 11 ∨ i = 12 ∨ i = 13 ∨ i = 14 ∨ i = 15 ∨ i = 16 ∨ i = 17 ∨ i = 18 ∨ i = 19 := by omega
    rcases this with rfl | rfl | rfl | rfl | rfl | rfl | rfl | rfl | rfl | rfl | rfl | rfl | rfl | rfl | rfl | rfl | rfl | rfl | rfl | rfl <;> rfl
/-- the reference: refused -/
theorem s_endR_no (h : z_nob (U 41 5) n) : z_Ln L xs fv f w 137 0 [(0, .ref 148), (1, .int n)] [] (hC A E N V W ++ (hR B M U ++ g), c) (.inl (some (.int (-1)))) (hC A E N V W ++ (hR B M (z_v U 41 0 0) ++ g), c) := by
  have e : z_Ln L xs fv f w 137 27 [(0, .ref 148), (1, .int n)] [] (hC A E N V W ++ (hR B M (z_v U 41 0 0) ++ g), c) (.inl (some (.int (-1)))) (hC A E N V W ++ (hR B M (z_v U 41 0 0) ++ g), c) := b137_27 (z_Ln.ret rfl z_retI)
  rcases h with h | ⟨h1, h2⟩ | ⟨h1, h2, h3⟩
  · exact b137_0t h e
  · exact b137_0f h1 (b137_9t h2 e)
  · exact b137_0f h1 (b137_9f h2 (b137_15f h3 e))
/-- the reference's copying -/
theorem s_cpR {len j : Nat} (hU : U 41 5 = nI len) (hj : j ≤ 20) (hl : len + j ≤ 1500) : ∀ m k, k + m = j → z_Ln L xs fv f w 137 59 [(2, .int (nI j)), (0, .ref 148), (1, .int (nI j))] [] (hC A E N V W ++ (hR (z_u B 43 (z_cpl (B 42) (B 43) 0 len j)) M U ++ g), c) o T' →
    z_Ln L xs fv f w 137 31 [(2, .int (nI k)), (0, .ref 148), (1, .int (nI j))] [] (hC A E N V W ++ (hR (z_u B 43 (z_cpl (B 42) (B 43) 0 len k)) M U ++ g), c) o T' := by
  intro m
  induction m with
  | zero =>
    intro k hk kk
    have : k = j := by omega
    subst this
    exact b137_31t (nI_le (Nat.le_refl _) (by omega)) kk
  | succ m ih =>
    intro k hk kk
    have hkj : k < j := by omega
    refine b137_31f (nI_ge hkj (by omega)) (b137_36 (z_inI (by omega) (by decide)) ?_ ?_)
    · rw [hU, nI_add]
      exact z_inI (by omega) (by decide)
    · have e1 : z_u (z_u B 43 (z_cpl (B 42) (B 43) 0 len k)) 43 ((((U 41 5) + nI k).toNatClampNeg, (z_fn 0 ((z_u B 43 (z_cpl (B 42) (B 43) 0 len k)) 42) (nI k).toNatClampNeg)) :: (z_u B 43 (z_cpl (B 42) (B 43) 0 len k)) 43) = z_u B 43 (z_cpl (B 42) (B 43) 0 len (k + 1)) := by
        rw [z_uu, hU, nI_add, nI_clamp (by omega), nI_clamp (by omega)]
        have e2 : z_cpl (B 42) (B 43) 0 len (k + 1) = (len + k, z_fn 0 (B 42) (0 + k)) :: z_cpl (B 42) (B 43) 0 len k := rfl
        rw [e2, Nat.zero_add]
        rfl
      rw [e1, nI_1]
      exact ih (k + 1) (by omega) kk
theorem s_endR_ok {len j : Nat} (hU : U 41 5 = nI len) (hj : j ≤ 20) (hl : len + j ≤ 1500) :
    ∃ B', (∀ k, k ≠ 42 → k ≠ 43 → B' k = B k) ∧ B' 43 = z_cpl (B 42) (B 43) 0 len j ∧ (∀ i, i < 20 → z_fn 0 (B' 42) i = 0) ∧ ∀ (fv : Value) (f w : Nat), z_Ln L xs fv f w 137 0 [(0, .ref 148), (1, .int (nI j))] [] (hC A E N V W ++ (hR B M U ++ g), c) (.inl (some (.int (nI (len + j))))) (hC A E N V W ++ (hR B' M (z_v (z_v U 41 0 0) 41 5 (nI (len + j))) ++ g), c) := by
  have e1 : U 41 5 + nI j = nI (len + j) := by rw [hU, nI_add]
  have h1 : ¬ nI j < 0 := nI_pos (by omega)
  have h2 : ¬ 20 < nI j := nI_nlt (a := 20) (b := j) hj (by omega)
  have h3 : U 41 5 + nI j ≤ 1500 := by
    rw [e1]
    exact nI_le (b := 1500) hl (by omega)
  have e2 : (z_v U 41 0 0) 41 5 + nI j = nI (len + j) := e1
  have e3 : z_u B 43 (z_cpl (B 42) (B 43) 0 len 0) = B := z_us
  have key := fun (fv : Value) (f w : Nat) => b137_59 (L := L) (xs := xs) (fv := fv) (f := f) (w := w) (c := c) (A := A) (E := E) (N := N) (V := V) (W := W) (g := g) (B := z_u B 43 (z_cpl (B 42) (B 43) 0 len j)) (M := M) (U := z_v U 41 0 0) (n := nI j) (k := nI j)
  rw [e2] at key
  have k1 := fun (fv : Value) (f w : Nat) => s_cpR (L := L) (xs := xs) (fv := fv) (f := f) (w := w) (c := c) (A := A) (E := E) (N := N) (V := V) (W := W) (g := g) (B := B) (M := M) (U := z_v U 41 0 0) (len := len) hU hj hl j 0 (by omega) (key fv f w)
  rw [e3] at k1
  refine ⟨_, ?_, ?_, ?_, fun fv f w => b137_0f h1 (b137_9f h2 (b137_15t h3 (b137_29 (k1 fv f w))))⟩
  · intro k k1 k4
    unfold z_u
    simp [k1, k4]
  · rfl
  · intro i hi
    have : i = 0 ∨ i = 1 ∨ i = 2 ∨ i = 3 ∨ i = 4 ∨ i = 5 ∨ i = 6 ∨ i = 7 ∨ i = 8 ∨ i = 9 ∨ i = 10 ∨ i = 11 ∨ i = 12 ∨ i = 13 ∨ i = 14 ∨ i = 15 ∨ i = 16 ∨ i = 17 ∨ i = 18 ∨ i = 19 := by omega
    rcases this with rfl | rfl | rfl | rfl | rfl | rfl | rfl | rfl | rfl | rfl | rfl | rfl | rfl | rfl | rfl | rfl | rfl | rfl | rfl | rfl <;> rfl
end SEND
