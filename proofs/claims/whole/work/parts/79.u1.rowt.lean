/-! Reading: the end of a row, both together. -/
theorem j57t {b : Nat → Nat} {n j : Nat} {t : Nat × Nat × Int32} {A B : Nat → List (Nat × Int32)} {E : List (Nat × Option Nat)} {V : Nat → Nat → Int32} {W : Nat} {U : Nat → Nat → Int32} (hJ : z_Jt b n E A B U) (hW : z_Wj b n j t V W U) (h1 : ¬ t.2.1 = 1) (h0 : U 41 11 = 0) (x1 x2 x3 y2 : Int32) : (∃ t' U', ¬ t'.2.1 = 1 ∧ z_Wj b n (j + 1) t' (z_Vn V (j + 1) t') t'.2.1 U' ∧ z_Uw U U' ∧ U' 41 11 = 0 ∧ (∀ (L : Nat) (xs : Nat → Int32) (fv : Value) (f w : Nat) (c : Nat × Nat) (N : Nat → Nat) (g : List z_E), c.1 + 1 ≤ 601024 → c.2 + 6 ≤ 7293034 → 9 ≤ f → 600 ≤ w → z_Ln L xs fv f w 57 108 [(0, .ref 131), (1, .int x1), (2, .int x2), (3, .int x3)] [] (hC A E N V W ++ g, c) (.inl (some (.int (x1)))) (hC A E N (z_Vn V (j + 1) t') t'.2.1 ++ g, c)) ∧ (∀ (L : Nat) (xs : Nat → Int32) (fv : Value) (f w : Nat) (c : Nat × Nat) (A : Nat → List (Nat × Int32)) (E : List (Nat × Option Nat)) (N : Nat → Nat) (V : Nat → Nat → Int32) (W : Nat) (g : List z_E) (M : Nat → List (Nat × Int64)), z_Rm ([], c) → 9 ≤ f → 600 ≤ w → z_Ln L xs fv f w 156 105 [(0, .ref 148), (1, .int x1), (2, .int y2)] [] (hC A E N V W ++ (hR B M U ++ g), c) (.inl (some (.int (x1)))) (hC A E N V W ++ (hR B M U' ++ g), c))) ∨ (∃ V' W' U' x y, (z_Vw V V' ∧ W' < 107) ∧ z_Uw U U' ∧ z_Qd x y U' ∧ (∀ (L : Nat) (xs : Nat → Int32) (fv : Value) (f w : Nat) (c : Nat × Nat) (N : Nat → Nat) (g : List z_E), c.1 + 1 ≤ 601024 → c.2 + 6 ≤ 7293034 → 9 ≤ f → 600 ≤ w → z_Ln L xs fv f w 57 108 [(0, .ref 131), (1, .int x1), (2, .int x2), (3, .int x3)] [] (hC A E N V W ++ g, c) (.inr 10) (hC A E N (z_Vf V' x y) W' ++ g, c.1 + 1, c.2 + 6)) ∧ (∀ (L : Nat) (xs : Nat → Int32) (fv : Value) (f w : Nat) (c : Nat × Nat) (A : Nat → List (Nat × Int32)) (E : List (Nat × Option Nat)) (N : Nat → Nat) (V : Nat → Nat → Int32) (W : Nat) (g : List z_E) (M : Nat → List (Nat × Int64)), z_Rm ([], c) → 9 ≤ f → 600 ≤ w → z_Ln L xs fv f w 156 105 [(0, .ref 148), (1, .int x1), (2, .int y2)] [] (hC A E N V W ++ (hR B M U ++ g), c) (.inl (some (.int (x1)))) (hC A E N V W ++ (hR B M U' ++ g), c))) := by
  have m49 : z_pg.2.1 49 ≤ 60 := by decide +kernel
  have m52 : z_pg.2.1 52 ≤ 60 := by decide +kernel
  have m154 : z_pg.2.1 154 ≤ 40 := by decide +kernel
  obtain ⟨hb, hn, hTk, hTr, hKy, hU6⟩ := id hJ
  obtain ⟨q1, q2, q3, q4, q5, q6, q7, q8, q9, q10⟩ := id hW
  have t37 : t.2.1 < 37 := (hTk j t q1).2.1
  have rm : ∀ c : Nat × Nat, c.1 + 1 ≤ 601024 → c.2 + 6 ≤ 7293034 → c.1 ≤ 601024 ∧ c.2 ≤ 7293034 := fun c a b => ⟨by omega, by omega⟩
  have hW37 : W < 37 := by rw [q4]; exact t37
  by_cases htk : t.2.1 = 8
  · have hW8 : W = 8 := q4.trans htk
    have hx : U 41 7 = 125 := by
      rw [q8, htk]
      rfl
    obtain ⟨t', a1, a2, a3, a4⟩ := z_Wj_next hb hW (by omega) h1
    have hlen := z_ts_len (b := b) (n := n)
    have hj : j + 1 < (z_ts b n).length := (List.getElem?_eq_some_iff.mp a1).1
    obtain ⟨w1, w2⟩ := z_we_le (b := b) a2
    have ell : z_ll b n t.1 = z_we b n t.1 - t.1 := if_pos a2
    have hcur : V 3 7 + 1 = nI (j + 1) := by rw [q3, nI_1]
    have hlt : ¬ V 3 6 - 1 ≤ V 3 7 := by
      rw [q2, q3, show (1 : Int32) = nI 1 from rfl, pk_sub (by omega)]
      exact nI_ge (by omega) (by omega)
    obtain ⟨-, -, -, -, -, -, r7, r8, -, -⟩ := id a4
    by_cases hb1 : t'.2.1 = 1
    · refine Or.inr ⟨z_Vn V (j + 1) t', t'.2.1, _, 2, nI t'.1, ⟨z_Vw_n, by rw [hb1]; decide⟩, z_Uw_tr (z_Uw_v (by decide) (by decide)) z_Uw_3, Or.inr ⟨rfl, ?_, ?_, r7⟩, ?_, ?_⟩
      · exact h0
      · rw [r8, hb1]
        rfl
      · intro L xs fv f w c N g h1c h2c hf hw
        exact b57_108t hW37 (by rw [hW8]) (b57_125x (rm c h1c h2c) (by omega) (by omega) (s49x hTk a1 (by omega) hcur hlt hb1 (rm c h1c h2c) h1c h2c (by omega) (by omega)))
      · intro L xs fv f w c A E N V W' g M hRm hf hw
        exact b156_105 hRm (by omega) (by omega) (s154 h0 hx hTr hKy hU6 q7 q9 (by omega) hRm (by omega) (by omega)) b156_111
    · refine Or.inl ⟨t', _, hb1, a4, z_Uw_tr (z_Uw_v (by decide) (by decide)) z_Uw_3, h0, ?_, ?_⟩
      · intro L xs fv f w c N g h1c h2c hf hw
        exact b57_108t hW37 (by rw [hW8]) (b57_125 (rm c h1c h2c) (by omega) (by omega) (s49 hTk a1 (by omega) hcur hlt hb1) b57_132)
      · intro L xs fv f w c A E N V W' g M hRm hf hw
        exact b156_105 hRm (by omega) (by omega) (s154 h0 hx hTr hKy hU6 q7 q9 (by omega) hRm (by omega) (by omega)) b156_111
  · have hw5 : ¬ U 41 7 = 5 := by
      rw [q8]
      exact fun q => h1 ((z_wco_5 _ t37).mp q)
    have hx : ¬ U 41 7 = 125 := by
      rw [q8]
      exact fun q => htk (z_wco_inj _ t37 8 (by decide) q)
    refine Or.inr ⟨V, W, z_UF U 1 (U 41 8), 1, V 3 9, ⟨z_Vw_rfl, by omega⟩, z_Uw_F, ?_, ?_, ?_⟩
    · rw [q5, q7]
      exact z_Qd_F (by decide)
    · intro L xs fv f w c N g h1c h2c hf hw
      exact b57_108f hW37 (by rw [q4]; exact fun q => htk (Option.some.inj q)) (b57_121x (rm c h1c h2c) (by omega) (by omega) (s52 (rm c h1c h2c) h1c h2c (by omega) (by omega)))
    · intro L xs fv f w c A E N V W g M hRm hf hw
      have := s154b (L := L) (xs := xs) (fv := fv) (f := f - 1) (w := w - (19 + z_pg.2.1 154)) (c := c) (A := A) (E := E) (N := N) (V := V) (W := W) (g := g) (B := B) (M := M) (U := U) (x := 125) h0 hx hRm (by omega) (by omega)
      rw [if_neg hw5] at this
      exact b156_105 hRm (by omega) (by omega) this b156_111
