/-! Reading: takeRow, when the class has ended. -/
theorem z_Qd_0 {U : Nat → Nat → Int32} {k p : Int32} (h : z_Qd k p U) : ¬ U 41 11 ≤ 0 ∨ (U 41 11 = 0 ∧ U 41 7 = 5) := h.elim (fun a => Or.inl a.1) (fun a => Or.inr ⟨a.2.1, a.2.2.1⟩)
theorem z_ne0 {x : Int32} (h : ¬ x ≤ 0) : ¬ x = 0 := fun q => h (by rw [q]; decide)
theorem q156a {U : Nat → Nat → Int32} {k p : Int32} {B : Nat → List (Nat × Int32)} (h : z_Qd k p U) (x1 x2 : Int32) : ∃ U' v, z_Qd k p U' ∧ z_Uw U U' ∧ (∀ (L : Nat) (xs : Nat → Int32) (fv : Value) (f w : Nat) (c : Nat × Nat) (A : Nat → List (Nat × Int32)) (E : List (Nat × Option Nat)) (N : Nat → Nat) (V : Nat → Nat → Int32) (W : Nat) (g : List z_E) (M : Nat → List (Nat × Int64)), z_Rm ([], c) → 9 ≤ f → 600 ≤ w → z_Ln L xs fv f w 156 105 [(0, .ref 148), (1, .int x1), (2, .int x2)] [] (hC A E N V W ++ (hR B M U ++ g), c) (.inl (some (.int (v)))) (hC A E N V W ++ (hR B M U' ++ g), c)) := by
  have m154 : z_pg.2.1 154 ≤ 40 := by decide +kernel
  obtain ⟨U', a1, a2, a3⟩ := q154 (x := 125) h (by decide)
  exact ⟨U', x1, a1, a2, fun L xs fv f w c A E N V W g M hRm hf hw => b156_105 hRm (by omega) (by omega) (a3 _ _ _ _ _ _ _ _ _ _ _ _ _ _ hRm (by omega) (by omega)) b156_111⟩
theorem q156b {U : Nat → Nat → Int32} {k p : Int32} {B : Nat → List (Nat × Int32)} (h : z_Qd k p U) (x1 : Int32) (x3 : Int32) (x2 : Int32) : ∃ U' v, z_Qd k p U' ∧ z_Uw U U' ∧ (∀ (L : Nat) (xs : Nat → Int32) (fv : Value) (f w : Nat) (c : Nat × Nat) (A : Nat → List (Nat × Int32)) (E : List (Nat × Option Nat)) (N : Nat → Nat) (V : Nat → Nat → Int32) (W : Nat) (g : List z_E) (M : Nat → List (Nat × Int64)), z_Rm ([], c) → 9 ≤ f → 600 ≤ w → z_Ln L xs fv f w 156 92 [(0, .ref 148), (1, .int x1), (2, .int x2), (3, .int x3)] [] (hC A E N V W ++ (hR B M U ++ g), c) (.inl (some (.int (v)))) (hC A E N V W ++ (hR B M U' ++ g), c)) := by
  obtain ⟨U', v, a1, a2, a3⟩ := q156a (B := B) h x1 0
  exact ⟨U', v, a1, a2, fun L xs fv f w c A E N V W g M hRm hf hw => b156_92 (b156_93t rfl (b156_102 (b156_39t rfl (a3 L xs fv f w c A E N V W g M hRm hf hw))))⟩
theorem q156m {U : Nat → Nat → Int32} {k p : Int32} {B : Nat → List (Nat × Int32)} (h : z_Qd k p U) (x1 x2 y : Int32) : ∃ U' v, z_Qd k p U' ∧ z_Uw U U' ∧ (∀ (L : Nat) (xs : Nat → Int32) (fv : Value) (f w : Nat) (c : Nat × Nat) (A : Nat → List (Nat × Int32)) (E : List (Nat × Option Nat)) (N : Nat → Nat) (V : Nat → Nat → Int32) (W : Nat) (g : List z_E) (M : Nat → List (Nat × Int64)), z_Rm ([], c) → 9 ≤ f → 600 ≤ w → z_Ln L xs fv f w 156 54 [(0, .ref 148), (1, .int x1), (2, .int x2)] [.int y] (hC A E N V W ++ (hR B M U ++ g), c) (.inl (some (.int (v)))) (hC A E N V W ++ (hR B M U' ++ g), c)) := by
  rcases z_Qd_0 h with h1 | ⟨h1, h2⟩
  · obtain ⟨U', v, a1, a2, a3⟩ := q156b (B := B) h x1 y x2
    exact ⟨U', v, a1, a2, fun L xs fv f w c A E N V W g M hRm hf hw => b156_54f h1 (b156_62 (b156_71t (z_ne0 h1) (a3 L xs fv f w c A E N V W g M hRm hf hw)))⟩
  · obtain ⟨U', v, a1, a2, a3⟩ := q156b (B := B) h (x1 ||| (1 <<< (y &&& 31))) y x2
    exact ⟨U', v, a1, a2, fun L xs fv f w c A E N V W g M hRm hf hw => b156_54t (by rw [h1]; decide) (b156_66 (b156_71f (fun q => q h1) (b156_79t (by rw [h2]; decide) (a3 L xs fv f w c A E N V W g M hRm hf hw))))⟩
theorem q156l {U : Nat → Nat → Int32} {k p : Int32} {B : Nat → List (Nat × Int32)} (h : z_Qd k p U) (x1 x2 : Int32) : ∃ U' v, z_Qd k p U' ∧ z_Uw U U' ∧ (∀ (L : Nat) (xs : Nat → Int32) (fv : Value) (f w : Nat) (c : Nat × Nat) (A : Nat → List (Nat × Int32)) (E : List (Nat × Option Nat)) (N : Nat → Nat) (V : Nat → Nat → Int32) (W : Nat) (g : List z_E) (M : Nat → List (Nat × Int64)), z_Rm ([], c) → 9 ≤ f → 600 ≤ w → z_Ln L xs fv f w 156 39 [(0, .ref 148), (1, .int x1), (2, .int x2)] [] (hC A E N V W ++ (hR B M U ++ g), c) (.inl (some (.int (v)))) (hC A E N V W ++ (hR B M U' ++ g), c)) := by
  have m157 : z_pg.2.1 157 ≤ 40 := by decide +kernel
  by_cases h0 : x2 = 0
  · obtain ⟨U', v, a1, a2, a3⟩ := q156a (B := B) h x1 x2
    exact ⟨U', v, a1, a2, fun L xs fv f w c A E N V W g M hRm hf hw => b156_39t h0 (a3 L xs fv f w c A E N V W g M hRm hf hw)⟩
  · rcases z_Qd_0 h with h1 | ⟨h1, h2⟩
    · obtain ⟨U', v, a1, a2, a3⟩ := q156a (B := B) h x1 x2
      exact ⟨U', v, a1, a2, fun L xs fv f w c A E N V W g M hRm hf hw => b156_39f h0 (b156_43t (z_ne0 h1) (a3 L xs fv f w c A E N V W g M hRm hf hw))⟩
    · obtain ⟨U1, b1, b2, b3⟩ := q157 (B := B) h
      obtain ⟨U', v, a1, a2, a3⟩ := q156m (B := B) b1 x1 x2 (-1)
      exact ⟨U', v, a1, z_Uw_tr b2 a2, fun L xs fv f w c A E N V W g M hRm hf hw => b156_39f h0 (b156_43f (fun q => q h1) (b156_50 hRm (by omega) (by omega) (b3 L xs fv _ _ c A E N V W g M hRm (by omega) (by omega)) (a3 L xs fv f w c A E N V W g M hRm hf hw)))⟩
theorem q156n {U : Nat → Nat → Int32} {k p : Int32} {B : Nat → List (Nat × Int32)} (h : z_Qd k p U) (h5 : U 41 7 = 5) : ∃ U' v, z_Qd k p U' ∧ z_Uw U U' ∧ (∀ (L : Nat) (xs : Nat → Int32) (fv : Value) (f w : Nat) (c : Nat × Nat) (A : Nat → List (Nat × Int32)) (E : List (Nat × Option Nat)) (N : Nat → Nat) (V : Nat → Nat → Int32) (W : Nat) (g : List z_E) (M : Nat → List (Nat × Int64)), z_Rm ([], c) → 9 ≤ f → 600 ≤ w → z_Ln L xs fv f w 156 22 [(0, .ref 148)] [] (hC A E N V W ++ (hR B M U ++ g), c) (.inl (some (.int (v)))) (hC A E N V W ++ (hR B M U' ++ g), c)) := by
  obtain ⟨U', v, a1, a2, a3⟩ := q156l (B := B) h 0 1
  exact ⟨U', v, a1, a2, fun L xs fv f w c A E N V W g M hRm hf hw => b156_22f (by rw [h5]; decide) (b156_33 (b156_38 (a3 L xs fv f w c A E N V W g M hRm hf hw)))⟩
theorem q156 {U : Nat → Nat → Int32} {k p : Int32} {B : Nat → List (Nat × Int32)} (h : z_Qd k p U) : ∃ U' v, z_Qd k p U' ∧ z_Uw U U' ∧ (∀ (L : Nat) (xs : Nat → Int32) (fv : Value) (f w : Nat) (c : Nat × Nat) (A : Nat → List (Nat × Int32)) (E : List (Nat × Option Nat)) (N : Nat → Nat) (V : Nat → Nat → Int32) (W : Nat) (g : List z_E) (M : Nat → List (Nat × Int64)), z_Rm ([], c) → 9 ≤ f → 600 ≤ w → z_Ln L xs fv f w 156 0 [(0, .ref 148)] [] (hC A E N V W ++ (hR B M U ++ g), c) (.inl (some (.int (v)))) (hC A E N V W ++ (hR B M U' ++ g), c)) := by
  refine ⟨U, 0, h, z_Uw_rfl, fun L xs fv f w c A E N V W g M hRm hf hw => ?_⟩
  rcases z_Qd_0 h with h1 | ⟨h1, h2⟩
  · exact b156_0t (Int32.not_le.mp h1) b156_16
  · exact b156_0f (by rw [h1]; decide) (b156_7f (by rw [h2]; decide) b156_16)
