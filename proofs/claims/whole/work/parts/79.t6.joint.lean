/-! Reading: toNext and next, expect and need, together. -/
/-- but for the word looked at and the fault all is as it was (class) -/
def z_Vw (V V' : Nat → Nat → Int32) : Prop := ∀ k j, ¬ (k = 3 ∧ 7 ≤ j ∧ j ≤ 10) → V' k j = V k j
theorem z_Vw_rfl {V : Nat → Nat → Int32} : z_Vw V V := fun _ _ _ => rfl
theorem z_Vw_tr {V V' V'' : Nat → Nat → Int32} (h : z_Vw V V') (h2 : z_Vw V' V'') : z_Vw V V'' := fun k j q => (h2 k j q).trans (h k j q)
theorem z_Vw_n {V : Nat → Nat → Int32} {i : Nat} {t : Nat × Nat × Int32} : z_Vw V (z_Vn V i t) := by
  intro k j q
  unfold z_Vn z_v
  by_cases hk : k = 3
  · have h1 : ¬ j = 10 := fun e => q ⟨hk, by omega, by omega⟩
    have h2 : ¬ j = 9 := fun e => q ⟨hk, by omega, by omega⟩
    have h3 : ¬ j = 7 := fun e => q ⟨hk, by omega, by omega⟩
    simp [hk, h1, h2, h3]
  · simp [hk]
/-- what both have of the text -/
def z_Jt (b : Nat → Nat) (n : Nat) (E : List (Nat × Option Nat)) (A B : Nat → List (Nat × Int32)) (U : Nat → Nat → Int32) : Prop := (∀ p, p < n → b p < 256) ∧ n ≤ 1500 ∧ z_TkC E (A 6) (A 7) (z_ts b n) ∧ z_Tr (B 44) b n ∧ z_Ky (B 45) ∧ U 41 6 = nI n
theorem z_Jt_U {b : Nat → Nat} {n : Nat} {E : List (Nat × Option Nat)} {A B : Nat → List (Nat × Int32)} {U U' : Nat → Nat → Int32} (h : z_Jt b n E A B U) (hw : z_Uw U U') : z_Jt b n E A B U' := ⟨h.1, h.2.1, h.2.2.1, h.2.2.2.1, h.2.2.2.2.1, (hw.1 41 6 (by omega)).trans h.2.2.2.2.2⟩
theorem z_ts_len {b : Nat → Nat} {n : Nat} : (z_ts b n).length ≤ n + 1 := z_tks_len n 0 [] (Nat.zero_le _) (Nat.le_refl _)
theorem j49 {b : Nat → Nat} {n j : Nat} {t : Nat × Nat × Int32} {A B : Nat → List (Nat × Int32)} {E : List (Nat × Option Nat)} {V : Nat → Nat → Int32} {W : Nat} {U : Nat → Nat → Int32} (hJ : z_Jt b n E A B U) (hW : z_Wj b n j t V W U) (h1 : ¬ t.2.1 = 1) (h0 : ¬ t.2.1 = 0) : ∃ t' U', (z_ts b n)[j + 1]? = some t' ∧ z_Wj b n (j + 1) t' (z_Vn V (j + 1) t') t'.2.1 U' ∧ z_Uw U U' ∧ U' 41 11 = U 41 11 ∧ (∀ (L : Nat) (xs : Nat → Int32) (fv : Value) (f w : Nat) (c : Nat × Nat) (A : Nat → List (Nat × Int32)) (E : List (Nat × Option Nat)) (N : Nat → Nat) (V : Nat → Nat → Int32) (W : Nat) (g : List z_E) (M : Nat → List (Nat × Int64)), z_Rm ([], c) → 8 ≤ f → 400 ≤ w → z_Ln L xs fv f w 141 0 [(0, .ref 148)] [] (hC A E N V W ++ (hR B M U ++ g), c) (.inl none) (hC A E N V W ++ (hR B M U' ++ g), c)) ∧ (¬ t'.2.1 = 1 ∨ (t'.2.1 = 1 ∧ (∀ (L : Nat) (xs : Nat → Int32) (fv : Value) (f w : Nat) (c : Nat × Nat) (N : Nat → Nat) (g : List z_E), c.1 + 1 ≤ 601024 → c.2 + 6 ≤ 7293034 → 8 ≤ f → 400 ≤ w → z_Ln L xs fv f w 49 0 [(0, .ref 110)] [] (hC A E N V W ++ g, c) (.inr 10) (hC A E N (z_Vf (z_Vn V (j + 1) t') 2 (nI t'.1)) t'.2.1 ++ g, c.1 + 1, c.2 + 6)))) ∧ (¬ t'.2.1 = 1 → (∀ (L : Nat) (xs : Nat → Int32) (fv : Value) (f w : Nat) (c : Nat × Nat) (N : Nat → Nat) (g : List z_E), c.1 + 1 ≤ 601024 → c.2 + 6 ≤ 7293034 → 8 ≤ f → 400 ≤ w → z_Ln L xs fv f w 49 0 [(0, .ref 110)] [] (hC A E N V W ++ g, c) (.inl none) (hC A E N (z_Vn V (j + 1) t') t'.2.1 ++ g, c))) := by
  obtain ⟨hb, hn, hTk, hTr, hKy, hU6⟩ := hJ
  obtain ⟨t', a1, a2, a3, a4⟩ := z_Wj_next hb hW h0 h1
  obtain ⟨q1, q2, q3, q4, q5, q6, q7, q8, q9, q10⟩ := hW
  have hlen := z_ts_len (b := b) (n := n)
  have hj : j + 1 < (z_ts b n).length := (List.getElem?_eq_some_iff.mp a1).1
  obtain ⟨w1, w2⟩ := z_we_le (b := b) a2
  have ell : z_ll b n t.1 = z_we b n t.1 - t.1 := if_pos a2
  have hcur : V 3 7 + 1 = nI (j + 1) := by rw [q3, nI_1]
  have hlt : ¬ V 3 6 - 1 ≤ V 3 7 := by
    rw [q2, q3, show (1 : Int32) = nI 1 from rfl, pk_sub (by omega)]
    exact nI_ge (by omega) (by omega)
  refine ⟨t', _, a1, a4, z_Uw_tr (z_Uw_v (by decide) (by decide)) z_Uw_3, rfl, ?_, ?_, ?_⟩
  · intro L xs fv f w c A E N V W g M hRm hf hw
    exact s141 hTr hKy hU6 q7 q9 (by omega) hRm (by omega) (by omega)
  · by_cases hb1 : t'.2.1 = 1
    · exact Or.inr ⟨hb1, fun L xs fv f w c N g h1c h2c hf hw => s49x hTk a1 (by omega) hcur hlt hb1 (show c.1 ≤ 601024 ∧ c.2 ≤ 7293034 from ⟨by omega, by omega⟩) h1c h2c (by omega) (by omega)⟩
    · exact Or.inl hb1
  · intro hb1 L xs fv f w c N g h1c h2c hf hw
    exact s49 hTk a1 (by omega) hcur hlt hb1
theorem j54 {b : Nat → Nat} {n j : Nat} {t : Nat × Nat × Int32} {A B : Nat → List (Nat × Int32)} {E : List (Nat × Option Nat)} {V : Nat → Nat → Int32} {W : Nat} {U : Nat → Nat → Int32} (hJ : z_Jt b n E A B U) (hW : z_Wj b n j t V W U) (h1 : ¬ t.2.1 = 1) {k : Nat} (hk : k < 37) (hk0 : ¬ k = 0) (hk1 : ¬ k = 1) (h0 : U 41 11 = 0) : (∃ t' U', t.2.1 = k ∧ ¬ t'.2.1 = 1 ∧ z_Wj b n (j + 1) t' (z_Vn V (j + 1) t') t'.2.1 U' ∧ z_Uw U U' ∧ U' 41 11 = 0 ∧ (∀ (L : Nat) (xs : Nat → Int32) (fv : Value) (f w : Nat) (c : Nat × Nat) (N : Nat → Nat) (g : List z_E), c.1 + 1 ≤ 601024 → c.2 + 6 ≤ 7293034 → 8 ≤ f → 400 ≤ w → z_Ln L xs fv f w 54 0 [(0, .ref 131), (1, .ref k)] [] (hC A E N V W ++ g, c) (.inl none) (hC A E N (z_Vn V (j + 1) t') t'.2.1 ++ g, c)) ∧ (∀ (L : Nat) (xs : Nat → Int32) (fv : Value) (f w : Nat) (c : Nat × Nat) (A : Nat → List (Nat × Int32)) (E : List (Nat × Option Nat)) (N : Nat → Nat) (V : Nat → Nat → Int32) (W : Nat) (g : List z_E) (M : Nat → List (Nat × Int64)), z_Rm ([], c) → 8 ≤ f → 400 ≤ w → z_Ln L xs fv f w 154 0 [(0, .ref 148), (1, .int (z_wco k))] [] (hC A E N V W ++ (hR B M U ++ g), c) (.inl none) (hC A E N V W ++ (hR B M U' ++ g), c))) ∨ (∃ V' W' U' x y, (z_Vw V V' ∧ W' < 107) ∧ z_Uw U U' ∧ z_Qd x y U' ∧ (∀ (L : Nat) (xs : Nat → Int32) (fv : Value) (f w : Nat) (c : Nat × Nat) (N : Nat → Nat) (g : List z_E), c.1 + 1 ≤ 601024 → c.2 + 6 ≤ 7293034 → 8 ≤ f → 400 ≤ w → z_Ln L xs fv f w 54 0 [(0, .ref 131), (1, .ref k)] [] (hC A E N V W ++ g, c) (.inr 10) (hC A E N (z_Vf V' x y) W' ++ g, c.1 + 1, c.2 + 6)) ∧ (∀ (L : Nat) (xs : Nat → Int32) (fv : Value) (f w : Nat) (c : Nat × Nat) (A : Nat → List (Nat × Int32)) (E : List (Nat × Option Nat)) (N : Nat → Nat) (V : Nat → Nat → Int32) (W : Nat) (g : List z_E) (M : Nat → List (Nat × Int64)), z_Rm ([], c) → 8 ≤ f → 400 ≤ w → z_Ln L xs fv f w 154 0 [(0, .ref 148), (1, .int (z_wco k))] [] (hC A E N V W ++ (hR B M U ++ g), c) (.inl none) (hC A E N V W ++ (hR B M U' ++ g), c))) := by
  obtain ⟨hb, hn, hTk, hTr, hKy, hU6⟩ := id hJ
  have hq := id hW
  obtain ⟨q1, q2, q3, q4, q5, q6, q7, q8, q9, q10⟩ := id hW
  have t37 : t.2.1 < 37 := (hTk j t q1).2.1
  by_cases htk : t.2.1 = k
  · obtain ⟨t', a1, a2, a3, a4⟩ := z_Wj_next hb hW (by rw [htk]; exact hk0) h1
    have hlen := z_ts_len (b := b) (n := n)
    have hj : j + 1 < (z_ts b n).length := (List.getElem?_eq_some_iff.mp a1).1
    obtain ⟨w1, w2⟩ := z_we_le (b := b) a2
    have ell : z_ll b n t.1 = z_we b n t.1 - t.1 := if_pos a2
    have hcur : V 3 7 + 1 = nI (j + 1) := by rw [q3, nI_1]
    have hlt : ¬ V 3 6 - 1 ≤ V 3 7 := by
      rw [q2, q3, show (1 : Int32) = nI 1 from rfl, pk_sub (by omega)]
      exact nI_ge (by omega) (by omega)
    have hWk : W = k := q4.trans htk
    subst hWk
    obtain ⟨-, -, -, -, -, -, r7, r8, -, -⟩ := id a4
    by_cases hb1 : t'.2.1 = 1
    · refine Or.inr ⟨z_Vn V (j + 1) t', t'.2.1, _, 2, nI t'.1, ⟨z_Vw_n, by rw [hb1]; decide⟩, z_Uw_tr (z_Uw_v (by decide) (by decide)) z_Uw_3, Or.inr ⟨rfl, ?_, ?_, r7⟩, ?_, ?_⟩
      · exact h0
      · rw [r8, hb1]
        rfl
      · intro L xs fv f w c N g h1c h2c hf hw
        exact s54x hTk a1 (by omega) hcur hlt hk hb1 (show c.1 ≤ 601024 ∧ c.2 ≤ 7293034 from ⟨by omega, by omega⟩) h1c h2c (by omega) (by omega)
      · intro L xs fv f w c A E N V W' g M hRm hf hw
        exact s154 h0 (by rw [q8, htk]) hTr hKy hU6 q7 q9 (by omega) hRm (by omega) (by omega)
    · refine Or.inl ⟨t', _, htk, hb1, a4, z_Uw_tr (z_Uw_v (by decide) (by decide)) z_Uw_3, h0, ?_, ?_⟩
      · intro L xs fv f w c N g h1c h2c hf hw
        exact s54 hTk a1 (by omega) hcur hlt hk hb1 (show c.1 ≤ 601024 ∧ c.2 ≤ 7293034 from ⟨by omega, by omega⟩) (by omega) (by omega)
      · intro L xs fv f w c A E N V W' g M hRm hf hw
        exact s154 h0 (by rw [q8, htk]) hTr hKy hU6 q7 q9 (by omega) hRm (by omega) (by omega)
  · have hw5 : ¬ U 41 7 = 5 := by
      rw [q8]
      exact fun q => h1 ((z_wco_5 _ t37).mp q)
    refine Or.inr ⟨V, W, z_UF U 1 (U 41 8), 1, V 3 9, ⟨z_Vw_rfl, by omega⟩, z_Uw_F, ?_, ?_, ?_⟩
    · rw [q5, q7]
      exact z_Qd_F (by decide)
    · intro L xs fv f w c N g h1c h2c hf hw
      exact s54b (by rw [q4]; exact t37) hk (by rw [q4]; exact htk) (show c.1 ≤ 601024 ∧ c.2 ≤ 7293034 from ⟨by omega, by omega⟩) h1c h2c (by omega) (by omega)
    · intro L xs fv f w c A E N V W g M hRm hf hw
      have := s154b (L := L) (xs := xs) (fv := fv) (f := f) (w := w) (c := c) (A := A) (E := E) (N := N) (V := V) (W := W) (g := g) (B := B) (M := M) (U := U) (x := z_wco k) h0 (by rw [q8]; exact fun q => htk (z_wco_inj _ t37 _ hk q)) hRm (by omega) (by omega)
      rw [if_neg hw5] at this
      exact this
