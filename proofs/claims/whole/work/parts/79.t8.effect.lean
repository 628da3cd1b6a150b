/-! Reading: effect and takeEffect, together. -/
section ZRD4
variable {L : Nat} {xs : Nat → Int32} {fv : Value} {f w : Nat} {c : Nat × Nat} {A : Nat → List (Nat × Int32)} {E : List (Nat × Option Nat)} {N : Nat → Nat} {V : Nat → Nat → Int32} {W : Nat} {g : List z_E} {B : Nat → List (Nat × Int32)} {M : Nat → List (Nat × Int64)} {U : Nat → Nat → Int32}
theorem s58a {v : Int32} (hW : W = 3) (hv : ¬ v = -1) (hfind : ∀ f w, z_Ln L xs fv f w 53 0 [(0, .ref 127), (1, .int (V 3 10))] [] (hC A E N V W ++ g, c) (.inl (some (.int (v)))) (hC A E N V W ++ g, c)) (hRm : z_Rm (hC A E N V W ++ g, c)) (hf : 1 ≤ f) (hw : 100 ≤ w) : z_Ln L xs fv f w 58 0 [(0, .ref 131)] [] (hC A E N V W ++ g, c) (.inl (some (.int (v)))) (hC A E N V W ++ g, c) := by
  have m53 : z_pg.2.1 53 ≤ 40 := by decide +kernel
  exact b58_0t (show W < 37 by omega) (by rw [hW]) (b58_28 hRm (by omega) (by omega) (hfind _ _) (b58_42t hv b58_63))
theorem s58b (hW : W = 3) (hfind : ∀ f w, z_Ln L xs fv f w 53 0 [(0, .ref 127), (1, .int (V 3 10))] [] (hC A E N V W ++ g, c) (.inl (some (.int (-1)))) (hC A E N V W ++ g, c)) (hRm : z_Rm (hC A E N V W ++ g, c)) (h1c : c.1 + 1 ≤ 601024) (h2c : c.2 + 6 ≤ 7293034) (hf : 8 ≤ f) (hw : 400 ≤ w) : z_Ln L xs fv f w 58 0 [(0, .ref 131)] [] (hC A E N V W ++ g, c) (.inr 10) (hC A E N (z_Vf V 3 (V 3 9)) W ++ g, c.1 + 1, c.2 + 6) := by
  have m53 : z_pg.2.1 53 ≤ 40 := by decide +kernel
  have m50 : z_pg.2.1 50 ≤ 60 := by decide +kernel
  exact b58_0t (show W < 37 by omega) (by rw [hW]) (b58_28 hRm (by omega) (by omega) (hfind _ _) (b58_42f (fun q => q rfl) (b58_48x hRm (by omega) (by omega) (b50_0 (by omega) (by omega) h1c h2c))))
theorem s58c (hW : W < 37) (h3 : ¬ W = 3) (hRm : z_Rm (hC A E N V W ++ g, c)) (h1c : c.1 + 1 ≤ 601024) (h2c : c.2 + 6 ≤ 7293034) (hf : 8 ≤ f) (hw : 400 ≤ w) : z_Ln L xs fv f w 58 0 [(0, .ref 131)] [] (hC A E N V W ++ g, c) (.inr 10) (hC A E N (z_Vf V 1 (V 3 9)) W ++ g, c.1 + 1, c.2 + 6) := by
  have m50 : z_pg.2.1 50 ≤ 60 := by decide +kernel
  exact b58_0f hW (fun q => h3 (Option.some.inj q)) (b58_13x hRm (by omega) (by omega) (b50_0 (by omega) (by omega) h1c h2c))
theorem s157a {b : Nat → Nat} {n p l : Nat} {v : Int32} (h0 : U 41 11 = 0) (hx : U 41 7 = 2) (hv : 0 ≤ v) (hfind : ∀ f w, 1 ≤ f → 100 ≤ w → z_Ln L xs fv f w 152 0 [(0, .ref 148)] [] (hC A E N V W ++ (hR B M U ++ g), c) (.inl (some (.int (v)))) (hC A E N V W ++ (hR B M U ++ g), c)) (hT : z_Tr (B 44) b n) (hK : z_Ky (B 45)) (hU6 : U 41 6 = nI n) (hU : U 41 8 = nI p) (hU9 : U 41 9 = nI l) (hp2 : p + l ≤ 2000) (hRm : z_Rm (hC A E N V W ++ (hR B M U ++ g), c)) (hf : 5 ≤ f) (hw : 400 ≤ w) : z_Ln L xs fv f w 157 0 [(0, .ref 148)] [] (hC A E N V W ++ (hR B M U ++ g), c) (.inl (some (.int (v)))) (hC A E N V W ++ (hR B M (z_U3 (z_v U 41 8 (nI (z_nx b n (p + l)))) (z_lw b n (z_nx b n (p + l))) (nI (z_ll b n (z_nx b n (p + l)))) (z_lv2 b n (z_nx b n (p + l)) (U 41 10))) ++ g), c) := by
  have m152 : z_pg.2.1 152 ≤ 40 := by decide +kernel
  have m141 : z_pg.2.1 141 ≤ 40 := by decide +kernel
  exact b157_0t (by rw [h0]; decide) (b157_11t hx (b157_26 hRm (by omega) (by omega) (hfind _ _ (by omega) (by omega)) (b157_30 (b157_31f (fun q => q h0) (b157_38t hv (b157_51f (fun q => q h0) (b157_58 hRm (by omega) (by omega) (s141 hT hK hU6 hU hU9 hp2 hRm (by omega) (by omega)) b157_62)))))))
theorem s157b (h0 : U 41 11 = 0) (hx : U 41 7 = 2) (hfind : ∀ f w, 1 ≤ f → 100 ≤ w → z_Ln L xs fv f w 152 0 [(0, .ref 148)] [] (hC A E N V W ++ (hR B M U ++ g), c) (.inl (some (.int (-1)))) (hC A E N V W ++ (hR B M U ++ g), c)) (hRm : z_Rm (hC A E N V W ++ (hR B M U ++ g), c)) (hf : 5 ≤ f) (hw : 400 ≤ w) : z_Ln L xs fv f w 157 0 [(0, .ref 148)] [] (hC A E N V W ++ (hR B M U ++ g), c) (.inl (some (.int (-1)))) (hC A E N V W ++ (hR B M (z_UF U 3 (U 41 8)) ++ g), c) := by
  have m152 : z_pg.2.1 152 ≤ 40 := by decide +kernel
  have m150 : z_pg.2.1 150 ≤ 40 := by decide +kernel
  exact b157_0t (by rw [h0]; decide) (b157_11t hx (b157_26 hRm (by omega) (by omega) (hfind _ _ (by omega) (by omega)) (b157_30 (b157_31f (fun q => q h0) (b157_38f (by decide) (b157_42 hRm (by omega) (by omega) (s150 h0) (b157_51t (show ¬ (3 : Int32) = 0 by decide) b157_62)))))))
theorem s157c (h0 : U 41 11 = 0) (hx : ¬ U 41 7 = 2) (hRm : z_Rm (hC A E N V W ++ (hR B M U ++ g), c)) (hf : 5 ≤ f) (hw : 400 ≤ w) : z_Ln L xs fv f w 157 0 [(0, .ref 148)] [] (hC A E N V W ++ (hR B M U ++ g), c) (.inl (some (.int (-1)))) (hC A E N V W ++ (hR B M (z_UF U (if U 41 7 = 5 then 2 else 1) (U 41 8)) ++ g), c) := by
  have m151 : z_pg.2.1 151 ≤ 40 := by decide +kernel
  have hne : ¬ (z_UF U (if U 41 7 = 5 then 2 else 1) (U 41 8)) 41 11 = 0 := by
    show ¬ (if U 41 7 = 5 then (2 : Int32) else 1) = 0
    split <;> decide
  exact b157_0t (by rw [h0]; decide) (b157_11f hx (b157_19 hRm (by omega) (by omega) (s151 h0 hRm (by omega) (by omega)) (b157_23 (b157_31t hne (b157_51t hne b157_62)))))
theorem s157f (h0 : ¬ U 41 11 ≤ 0) : z_Ln L xs fv f w 157 0 [(0, .ref 148)] [] (hC A E N V W ++ (hR B M U ++ g), c) (.inl (some (.int (-1)))) (hC A E N V W ++ (hR B M U ++ g), c) := b157_0f h0 b157_9
end ZRD4
/-- takeEffect, when the class has ended -/
theorem q157 {U : Nat → Nat → Int32} {k p : Int32} {B : Nat → List (Nat × Int32)} (h : z_Qd k p U) : ∃ U', z_Qd k p U' ∧ z_Uw U U' ∧ (∀ (L : Nat) (xs : Nat → Int32) (fv : Value) (f w : Nat) (c : Nat × Nat) (A : Nat → List (Nat × Int32)) (E : List (Nat × Option Nat)) (N : Nat → Nat) (V : Nat → Nat → Int32) (W : Nat) (g : List z_E) (M : Nat → List (Nat × Int64)), z_Rm ([], c) → 8 ≤ f → 500 ≤ w → z_Ln L xs fv f w 157 0 [(0, .ref 148)] [] (hC A E N V W ++ (hR B M U ++ g), c) (.inl (some (.int (-1)))) (hC A E N V W ++ (hR B M U' ++ g), c)) := by
  rcases h with ⟨h1, h2, h3⟩ | ⟨h1, h2, h3, h4⟩
  · exact ⟨U, Or.inl ⟨h1, h2, h3⟩, z_Uw_rfl, fun _ _ _ _ _ _ _ _ _ _ _ _ _ _ _ _ => s157f h1⟩
  · refine ⟨z_UF U 2 (U 41 8), ?_, z_Uw_F, fun L xs fv f w c A E N V W g M hRm hf hw => ?_⟩
    · rw [h1, ← h4]
      exact z_Qd_F (by decide)
    · have := s157c (L := L) (xs := xs) (fv := fv) (f := f) (w := w) (c := c) (A := A) (E := E) (N := N) (V := V) (W := W) (g := g) (B := B) (M := M) (U := U) h2 (by rw [h3]; decide) hRm (by omega) (by omega)
      rw [if_pos h3] at this
      exact this
theorem j58 {b : Nat → Nat} {n j m : Nat} {ep : Nat → Nat} {t : Nat × Nat × Int32} {A B : Nat → List (Nat × Int32)} {E : List (Nat × Option Nat)} {V : Nat → Nat → Int32} {W : Nat} {U : Nat → Nat → Int32} (hJ : z_Jt b n E A B U) (hW : z_Wj b n j t V W U) (h1 : ¬ t.2.1 = 1) (hD : z_De b n m ep A B V U) (h0 : U 41 11 = 0) : (∃ i t' U', i < m ∧ t.2.1 = 3 ∧ (∀ (L : Nat) (xs : Nat → Int32) (fv : Value) (f w : Nat) (c : Nat × Nat) (N : Nat → Nat) (g : List z_E), c.1 + 1 ≤ 601024 → c.2 + 6 ≤ 7293034 → 8 ≤ f → 400 ≤ w → z_Ln L xs fv f w 58 0 [(0, .ref 131)] [] (hC A E N V W ++ g, c) (.inl (some (.int (nI i)))) (hC A E N V W ++ g, c)) ∧ z_Wj b n (j + 1) t' (z_Vn V (j + 1) t') t'.2.1 U' ∧ z_Uw U U' ∧ U' 41 11 = 0 ∧ (¬ t'.2.1 = 1 → (∀ (L : Nat) (xs : Nat → Int32) (fv : Value) (f w : Nat) (c : Nat × Nat) (N : Nat → Nat) (g : List z_E), c.1 + 1 ≤ 601024 → c.2 + 6 ≤ 7293034 → 8 ≤ f → 400 ≤ w → z_Ln L xs fv f w 49 0 [(0, .ref 110)] [] (hC A E N V W ++ g, c) (.inl none) (hC A E N (z_Vn V (j + 1) t') t'.2.1 ++ g, c))) ∧ (t'.2.1 = 1 → (∀ (L : Nat) (xs : Nat → Int32) (fv : Value) (f w : Nat) (c : Nat × Nat) (N : Nat → Nat) (g : List z_E), c.1 + 1 ≤ 601024 → c.2 + 6 ≤ 7293034 → 8 ≤ f → 400 ≤ w → z_Ln L xs fv f w 49 0 [(0, .ref 110)] [] (hC A E N V W ++ g, c) (.inr 10) (hC A E N (z_Vf (z_Vn V (j + 1) t') 2 (nI t'.1)) t'.2.1 ++ g, c.1 + 1, c.2 + 6))) ∧ (∀ (L : Nat) (xs : Nat → Int32) (fv : Value) (f w : Nat) (c : Nat × Nat) (A : Nat → List (Nat × Int32)) (E : List (Nat × Option Nat)) (N : Nat → Nat) (V : Nat → Nat → Int32) (W : Nat) (g : List z_E) (M : Nat → List (Nat × Int64)), z_Rm ([], c) → 8 ≤ f → 500 ≤ w → z_Ln L xs fv f w 157 0 [(0, .ref 148)] [] (hC A E N V W ++ (hR B M U ++ g), c) (.inl (some (.int (nI i)))) (hC A E N V W ++ (hR B M U' ++ g), c))) ∨ (∃ U' x y, z_Uw U U' ∧ z_Qd x y U' ∧ (∀ (L : Nat) (xs : Nat → Int32) (fv : Value) (f w : Nat) (c : Nat × Nat) (N : Nat → Nat) (g : List z_E), c.1 + 1 ≤ 601024 → c.2 + 6 ≤ 7293034 → 8 ≤ f → 400 ≤ w → z_Ln L xs fv f w 58 0 [(0, .ref 131)] [] (hC A E N V W ++ g, c) (.inr 10) (hC A E N (z_Vf V x y) W ++ g, c.1 + 1, c.2 + 6)) ∧ (∀ (L : Nat) (xs : Nat → Int32) (fv : Value) (f w : Nat) (c : Nat × Nat) (A : Nat → List (Nat × Int32)) (E : List (Nat × Option Nat)) (N : Nat → Nat) (V : Nat → Nat → Int32) (W : Nat) (g : List z_E) (M : Nat → List (Nat × Int64)), z_Rm ([], c) → 8 ≤ f → 500 ≤ w → z_Ln L xs fv f w 157 0 [(0, .ref 148)] [] (hC A E N V W ++ (hR B M U ++ g), c) (.inl (some (.int (-1)))) (hC A E N V W ++ (hR B M U' ++ g), c))) := by
  obtain ⟨hb, hn, hTk, hTr, hKy, hU6⟩ := id hJ
  obtain ⟨q1, q2, q3, q4, q5, q6, q7, q8, q9, q10⟩ := id hW
  obtain ⟨d1, d2, d3, d4⟩ := id hD
  have t37 : t.2.1 < 37 := (hTk j t q1).2.1
  have rm : ∀ c : Nat × Nat, c.1 + 1 ≤ 601024 → c.2 + 6 ≤ 7293034 → c.1 ≤ 601024 ∧ c.2 ≤ 7293034 := fun c a b => ⟨by omega, by omega⟩
  by_cases h3 : t.2.1 = 3
  · obtain ⟨tn, -⟩ := z_ts_name q1 (Or.inr h3)
    obtain ⟨w1, w2⟩ := z_we_le (b := b) tn
    have ell : z_ll b n t.1 = z_we b n t.1 - t.1 := if_pos tn
    have hfe := z_De_find hn hD q1 (Or.inr h3)
    have hx2 : U 41 7 = 2 := by
      rw [q8, h3]
      rfl
    have hE : ∀ i, i < m → z_fn 0 (B 51) i = nI (ep i) ∧ z_fn 0 (B 52) i = nI (z_ll b n (ep i)) ∧ ep i + z_ll b n (ep i) ≤ n := by
      intro i hi
      obtain ⟨k, u, u1, u2, u3, u4, u5, u6⟩ := d4 i hi
      obtain ⟨un, -⟩ := z_ts_name u1 (Or.inr u2)
      obtain ⟨v1, v2⟩ := z_we_le (b := b) un
      have el2 : z_ll b n u.1 = z_we b n u.1 - u.1 := if_pos un
      rw [u3] at v1 v2 el2
      exact ⟨u5, u6, by omega⟩
    rcases z_fs_or (P := fun i => decide (z_fn 0 (A 21) i = t.2.2)) m 0 with hno | ⟨i, -, i2, -, i4⟩
    · refine Or.inr ⟨z_UF U 3 (U 41 8), 3, V 3 9, z_Uw_F, by rw [q5, q7]; exact z_Qd_F (by decide), ?_, ?_⟩
      · intro L xs fv f w c N g h1c h2c hf hw
        exact s58b (q4.trans h3) (fun f w => by rw [← hno, q6]; exact s53 d1 d2) (rm c h1c h2c) h1c h2c (by omega) (by omega)
      · intro L xs fv f w c A E N V W g M hRm hf hw
        exact s157b h0 hx2 (fun f w a1 a2 => by rw [← hno, hfe]; exact s152 hTr d1 d3 q7 q9 (by omega) hE hRm a1 a2) hRm (by omega) (by omega)
    · obtain ⟨t', a1, a2, a3, a4⟩ := z_Wj_next hb hW (by omega) h1
      have hlen := z_ts_len (b := b) (n := n)
      have hj : j + 1 < (z_ts b n).length := (List.getElem?_eq_some_iff.mp a1).1
      have hcur : V 3 7 + 1 = nI (j + 1) := by rw [q3, nI_1]
      have hlt : ¬ V 3 6 - 1 ≤ V 3 7 := by
        rw [q2, q3, show (1 : Int32) = nI 1 from rfl, pk_sub (by omega)]
        exact nI_ge (by omega) (by omega)
      have i0 : (0 : Int32) ≤ nI i := nI_le (a := 0) (Nat.zero_le i) (by omega)
      have i9 : ¬ nI i = -1 := by
        intro q
        rw [q] at i0
        exact absurd i0 (by decide)
      refine Or.inl ⟨i, t', _, by omega, h3, ?_, a4, z_Uw_tr (z_Uw_v (by decide) (by decide)) z_Uw_3, h0, ?_, ?_, ?_⟩
      · intro L xs fv f w c N g h1c h2c hf hw
        exact s58a (q4.trans h3) i9 (fun f w => by rw [← i4, q6]; exact s53 d1 d2) (rm c h1c h2c) (by omega) (by omega)
      · intro hb1 L xs fv f w c N g h1c h2c hf hw
        exact s49 hTk a1 (by omega) hcur hlt hb1
      · intro hb1 L xs fv f w c N g h1c h2c hf hw
        exact s49x hTk a1 (by omega) hcur hlt hb1 (rm c h1c h2c) h1c h2c (by omega) (by omega)
      · intro L xs fv f w c A E N V W g M hRm hf hw
        exact s157a h0 hx2 i0 (fun f w b1 b2 => by rw [← i4, hfe]; exact s152 hTr d1 d3 q7 q9 (by omega) hE hRm b1 b2) hTr hKy hU6 q7 q9 (by omega) hRm (by omega) (by omega)
  · have hw5 : ¬ U 41 7 = 5 := by
      rw [q8]
      exact fun q => h1 ((z_wco_5 _ t37).mp q)
    have hw2 : ¬ U 41 7 = 2 := by
      rw [q8]
      exact fun q => h3 (z_wco_inj _ t37 3 (by decide) q)
    refine Or.inr ⟨z_UF U 1 (U 41 8), 1, V 3 9, z_Uw_F, by rw [q5, q7]; exact z_Qd_F (by decide), ?_, ?_⟩
    · intro L xs fv f w c N g h1c h2c hf hw
      exact s58c (by rw [q4]; exact t37) (by rw [q4]; exact h3) (rm c h1c h2c) h1c h2c (by omega) (by omega)
    · intro L xs fv f w c A E N V W g M hRm hf hw
      have := s157c (L := L) (xs := xs) (fv := fv) (f := f) (w := w) (c := c) (A := A) (E := E) (N := N) (V := V) (W := W) (g := g) (B := B) (M := M) (U := U) h0 hw2 hRm (by omega) (by omega)
      rw [if_neg hw5] at this
      exact this
