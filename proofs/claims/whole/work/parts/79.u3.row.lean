/-! Reading: row and takeRow, together. -/
theorem j57 {b : Nat → Nat} {n m j : Nat} {ep : Nat → Nat} {t : Nat × Nat × Int32} {A B : Nat → List (Nat × Int32)} {E : List (Nat × Option Nat)} {V : Nat → Nat → Int32} {W : Nat} {U : Nat → Nat → Int32} (hJ : z_Jt b n E A B U) (hW : z_Wj b n j t V W U) (h1 : ¬ t.2.1 = 1) (hD : z_De b n m ep A B V U) (h0 : U 41 11 = 0) : (∃ (v : Int32) (j' : Nat) (t' : Nat × Nat × Int32) (V' U' : Nat → Nat → Int32), ¬ t'.2.1 = 1 ∧ z_Wj b n j' t' V' t'.2.1 U' ∧ j ≤ j' ∧ z_Vw V V' ∧ z_Uw U U' ∧ U' 41 11 = 0 ∧ (∀ (L : Nat) (xs : Nat → Int32) (fv : Value) (f w : Nat) (c : Nat × Nat) (N : Nat → Nat) (g : List z_E), c.1 + 1 ≤ 601024 → c.2 + 6 ≤ 7293034 → 9 ≤ f → 600 ≤ w → z_Ln L xs fv f w 57 0 [(0, .ref 131)] [] (hC A E N V W ++ g, c) (.inl (some (.int (v)))) (hC A E N V' t'.2.1 ++ g, c)) ∧ (∀ (L : Nat) (xs : Nat → Int32) (fv : Value) (f w : Nat) (c : Nat × Nat) (A : Nat → List (Nat × Int32)) (E : List (Nat × Option Nat)) (N : Nat → Nat) (V : Nat → Nat → Int32) (W : Nat) (g : List z_E) (M : Nat → List (Nat × Int64)), z_Rm ([], c) → 9 ≤ f → 600 ≤ w → z_Ln L xs fv f w 156 0 [(0, .ref 148)] [] (hC A E N V W ++ (hR B M U ++ g), c) (.inl (some (.int (v)))) (hC A E N V W ++ (hR B M U' ++ g), c))) ∨ (∃ (V' : Nat → Nat → Int32) (W' : Nat) (U' : Nat → Nat → Int32) (x y v : Int32), (z_Vw V V' ∧ W' < 107) ∧ z_Uw U U' ∧ z_Qd x y U' ∧ (∀ (L : Nat) (xs : Nat → Int32) (fv : Value) (f w : Nat) (c : Nat × Nat) (N : Nat → Nat) (g : List z_E), c.1 + 1 ≤ 601024 → c.2 + 6 ≤ 7293034 → 9 ≤ f → 600 ≤ w → z_Ln L xs fv f w 57 0 [(0, .ref 131)] [] (hC A E N V W ++ g, c) (.inr 10) (hC A E N (z_Vf V' x y) W' ++ g, c.1 + 1, c.2 + 6)) ∧ (∀ (L : Nat) (xs : Nat → Int32) (fv : Value) (f w : Nat) (c : Nat × Nat) (A : Nat → List (Nat × Int32)) (E : List (Nat × Option Nat)) (N : Nat → Nat) (V : Nat → Nat → Int32) (W : Nat) (g : List z_E) (M : Nat → List (Nat × Int64)), z_Rm ([], c) → 9 ≤ f → 600 ≤ w → z_Ln L xs fv f w 156 0 [(0, .ref 148)] [] (hC A E N V W ++ (hR B M U ++ g), c) (.inl (some (.int (v)))) (hC A E N V W ++ (hR B M U' ++ g), c))) := by
  have m49 : z_pg.2.1 49 ≤ 60 := by decide +kernel
  have m141 : z_pg.2.1 141 ≤ 40 := by decide +kernel
  have rm : ∀ c : Nat × Nat, c.1 + 1 ≤ 601024 → c.2 + 6 ≤ 7293034 → c.1 ≤ 601024 ∧ c.2 ≤ 7293034 := fun c a b => ⟨by omega, by omega⟩
  obtain ⟨q1, q2, q3, q4, q5, q6, q7, q8, q9, q10⟩ := id hW
  have t37 : t.2.1 < 37 := (hJ.2.2.1 j t q1).2.1
  have hW37 : W < 37 := by rw [q4]; exact t37
  have hz : ¬ (0 : Int32) < U 41 11 := by rw [h0]; decide
  by_cases h7 : t.2.1 = 7
  · have hx : U 41 7 = 123 := by
      rw [q8, h7]
      rfl
    have hW7 : W = 7 := q4.trans h7
    obtain ⟨t1, U1, b1, W1, u1, f1, r141, cx, ck⟩ := j49 hJ hW h1 (by omega)
    have f1' : U1 41 11 = 0 := f1.trans h0
    have hJ1 := z_Jt_U hJ u1
    have t137 : t1.2.1 < 37 := (hJ.2.2.1 (j + 1) t1 b1).2.1
    obtain ⟨-, -, -, -, -, -, r7, r8, -, -⟩ := id W1
    rcases cx with nb | ⟨bad1, cthr⟩
    · by_cases h8 : t1.2.1 = 8
      · have hx8 : U1 41 7 = 125 := by
          rw [r8, h8]
          rfl
        rcases j57t hJ1 W1 nb f1' 0 0 0 0 with ⟨t', U', g1, g2, g3, g4, g5, g6⟩ | ⟨V', W', U', x, y, g1, g2, g3, g4, g5⟩
        · refine Or.inl ⟨0, j + 1 + 1, t', _, U', g1, g2, by omega, z_Vw_tr z_Vw_n z_Vw_n, z_Uw_tr u1 g3, g4, ?_, ?_⟩
          · intro L xs fv f w c N g h1c h2c hf hw
            exact b57_0t hW37 (by rw [hW7]) (b57_15 (rm c h1c h2c) (by omega) (by omega) (ck nb L xs fv _ _ c N g h1c h2c (by omega) (by omega)) (b57_22t t137 (by rw [h8]) (b57_41 (b57_42 (b57_45f (by decide) (b57_52t rfl (g5 L xs fv f w c N g h1c h2c hf hw)))))))
          · intro L xs fv f w c A E N V W g M hRm hf hw
            exact b156_0f hz (b156_7t hx (b156_18 hRm (by omega) (by omega) (r141 L xs fv _ _ c A E N V W g M hRm (by omega) (by omega)) (b156_22t hx8 (b156_37 (b156_38 (b156_39t rfl (g6 L xs fv f w c A E N V W g M hRm hf hw)))))))
        · refine Or.inr ⟨V', W', U', x, y, 0, ⟨z_Vw_tr z_Vw_n g1.1, g1.2⟩, z_Uw_tr u1 g2, g3, ?_, ?_⟩
          · intro L xs fv f w c N g h1c h2c hf hw
            exact b57_0t hW37 (by rw [hW7]) (b57_15 (rm c h1c h2c) (by omega) (by omega) (ck nb L xs fv _ _ c N g h1c h2c (by omega) (by omega)) (b57_22t t137 (by rw [h8]) (b57_41 (b57_42 (b57_45f (by decide) (b57_52t rfl (g4 L xs fv f w c N g h1c h2c hf hw)))))))
          · intro L xs fv f w c A E N V W g M hRm hf hw
            exact b156_0f hz (b156_7t hx (b156_18 hRm (by omega) (by omega) (r141 L xs fv _ _ c A E N V W g M hRm (by omega) (by omega)) (b156_22t hx8 (b156_37 (b156_38 (b156_39t rfl (g5 L xs fv f w c A E N V W g M hRm hf hw)))))))
      · have hx8 : ¬ U1 41 7 = 125 := by
          rw [r8]
          exact fun q => h8 (z_wco_inj _ t137 8 (by decide) q)
        rcases j57l (z_ts b n).length (j + 1) t1 _ _ U1 0 0 (by omega) (by omega) hJ1 W1 nb (z_De_w hD z_Vw_n u1) f1' with ⟨v, j', t', V', U', g1, g2, g3, g4, g5, g6, g7, g8⟩ | ⟨V', W', U', x, y, v, g1, g2, g3, g4, g5⟩
        · refine Or.inl ⟨v, j', t', V', U', g1, g2, by omega, z_Vw_tr z_Vw_n g4, z_Uw_tr u1 g5, g6, ?_, ?_⟩
          · intro L xs fv f w c N g h1c h2c hf hw
            exact b57_0t hW37 (by rw [hW7]) (b57_15 (rm c h1c h2c) (by omega) (by omega) (ck nb L xs fv _ _ c N g h1c h2c (by omega) (by omega)) (b57_22f t137 (fun q => h8 (Option.some.inj q)) (b57_37 (b57_42 (g7 L xs fv f w c N g h1c h2c hf hw)))))
          · intro L xs fv f w c A E N V W g M hRm hf hw
            exact b156_0f hz (b156_7t hx (b156_18 hRm (by omega) (by omega) (r141 L xs fv _ _ c A E N V W g M hRm (by omega) (by omega)) (b156_22f hx8 (b156_33 (b156_38 (g8 L xs fv f w c A E N V W g M hRm hf hw))))))
        · refine Or.inr ⟨V', W', U', x, y, v, ⟨z_Vw_tr z_Vw_n g1.1, g1.2⟩, z_Uw_tr u1 g2, g3, ?_, ?_⟩
          · intro L xs fv f w c N g h1c h2c hf hw
            exact b57_0t hW37 (by rw [hW7]) (b57_15 (rm c h1c h2c) (by omega) (by omega) (ck nb L xs fv _ _ c N g h1c h2c (by omega) (by omega)) (b57_22f t137 (fun q => h8 (Option.some.inj q)) (b57_37 (b57_42 (g4 L xs fv f w c N g h1c h2c hf hw)))))
          · intro L xs fv f w c A E N V W g M hRm hf hw
            exact b156_0f hz (b156_7t hx (b156_18 hRm (by omega) (by omega) (r141 L xs fv _ _ c A E N V W g M hRm (by omega) (by omega)) (b156_22f hx8 (b156_33 (b156_38 (g5 L xs fv f w c A E N V W g M hRm hf hw))))))
    · have w5 : U1 41 7 = 5 := by
        rw [r8, bad1]
        rfl
      have qd : z_Qd 2 (nI t1.1) U1 := Or.inr ⟨rfl, f1', w5, r7⟩
      obtain ⟨U2, v, a1, a2, a3⟩ := q156n (B := B) qd w5
      refine Or.inr ⟨z_Vn V (j + 1) t1, t1.2.1, U2, 2, nI t1.1, v, ⟨z_Vw_n, by rw [bad1]; decide⟩, z_Uw_tr u1 a2, a1, ?_, ?_⟩
      · intro L xs fv f w c N g h1c h2c hf hw
        exact b57_0t hW37 (by rw [hW7]) (b57_15x (rm c h1c h2c) (by omega) (by omega) (cthr L xs fv _ _ c N g h1c h2c (by omega) (by omega)))
      · intro L xs fv f w c A E N V W g M hRm hf hw
        exact b156_0f hz (b156_7t hx (b156_18 hRm (by omega) (by omega) (r141 L xs fv _ _ c A E N V W g M hRm (by omega) (by omega)) (a3 L xs fv f w c A E N V W g M hRm hf hw)))
  · have hx : ¬ U 41 7 = 123 := by
      rw [q8]
      exact fun q => h7 (z_wco_inj _ t37 7 (by decide) q)
    subst q4
    refine Or.inl ⟨0, j, t, V, U, h1, hW, Nat.le_refl _, z_Vw_rfl, z_Uw_rfl, h0, ?_, ?_⟩
    · intro L xs fv f w c N g h1c h2c hf hw
      exact b57_0f hW37 (fun q => h7 (Option.some.inj q)) b57_13
    · intro L xs fv f w c A E N V W g M hRm hf hw
      exact b156_0f hz (b156_7f hx b156_16)
