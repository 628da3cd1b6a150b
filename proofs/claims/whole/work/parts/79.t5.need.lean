/-! Reading: faults told; expect and need, together. -/
/-- the reference has a fault -/
def z_UF (U : Nat → Nat → Int32) (k p : Int32) : Nat → Nat → Int32 := z_v (z_v U 41 11 k) 41 12 p
/-- the class has ended with the fault k at p: the reference has told it, or looks at what is no word -/
def z_Qd (k p : Int32) (U : Nat → Nat → Int32) : Prop := (¬ U 41 11 ≤ 0 ∧ U 41 11 = k ∧ U 41 12 = p) ∨ (k = 2 ∧ U 41 11 = 0 ∧ U 41 7 = 5 ∧ U 41 8 = p)
/-- but for the word looked at and the fault all is as it was -/
def z_Uw (U U' : Nat → Nat → Int32) : Prop := (∀ k j, ¬ (k = 41 ∧ 7 ≤ j ∧ j ≤ 12) → U' k j = U k j) ∧ (U' 41 11 = 0 → U 41 11 = 0 ∧ U' 41 12 = U 41 12)
theorem z_Uw_rfl {U : Nat → Nat → Int32} : z_Uw U U := ⟨fun _ _ _ => rfl, fun h => ⟨h, rfl⟩⟩
theorem z_Uw_tr {U U' U'' : Nat → Nat → Int32} (h : z_Uw U U') (h2 : z_Uw U' U'') : z_Uw U U'' := ⟨fun k j q => (h2.1 k j q).trans (h.1 k j q), fun e => ⟨(h.2 (h2.2 e).1).1, (h2.2 e).2.trans (h.2 (h2.2 e).1).2⟩⟩
theorem z_Uw_v {U : Nat → Nat → Int32} {i : Nat} {x : Int32} (h7 : 7 ≤ i) (h12 : i ≤ 10) : z_Uw U (z_v U 41 i x) := by
  refine ⟨?_, fun e => ?_⟩
  case refine_2 =>
    have h1 : z_v U 41 i x 41 11 = U 41 11 := by
      unfold z_v
      rw [if_pos rfl, if_neg (by omega)]
    have h2 : z_v U 41 i x 41 12 = U 41 12 := by
      unfold z_v
      rw [if_pos rfl, if_neg (by omega)]
    exact ⟨h1 ▸ e, h2⟩
  intro k j q
  unfold z_v
  by_cases hk : k = 41
  · rw [if_pos hk]
    by_cases hj : j = i
    · exact absurd ⟨hk, by omega, by omega⟩ q
    · exact if_neg hj
  · exact if_neg hk
theorem z_Uw_F {U : Nat → Nat → Int32} {k p : Int32} (hk : ¬ k = 0 := by first | decide | (split <;> decide)) : z_Uw U (z_UF U k p) := by
  refine ⟨?_, fun e => absurd e hk⟩
  intro k2 j q
  unfold z_UF z_v
  by_cases h1 : k2 = 41
  · have a1 : ¬ j = 12 := fun e => q ⟨h1, by omega, by omega⟩
    have a2 : ¬ j = 11 := fun e => q ⟨h1, by omega, by omega⟩
    rw [if_pos h1, if_neg a1, if_pos h1, if_neg a2]
  · rw [if_neg h1, if_neg h1]
theorem z_Uw_3 {U : Nat → Nat → Int32} {a b d : Int32} : z_Uw U (z_U3 U a b d) := by
  refine ⟨?_, fun e => ⟨e, rfl⟩⟩
  intro k j q
  unfold z_U3
  by_cases hk : k = 41
  · rw [if_pos hk, if_neg (fun e => q ⟨hk, by omega, by omega⟩), if_neg (fun e => q ⟨hk, by omega, by omega⟩), if_neg (fun e => q ⟨hk, by omega, by omega⟩)]
  · exact if_neg hk
theorem z_Qd_F {U : Nat → Nat → Int32} {k p : Int32} (h : ¬ k ≤ 0) : z_Qd k p (z_UF U k p) := Or.inl ⟨h, rfl, rfl⟩
theorem z_wco_inj : ∀ k, k < 37 → ∀ j, j < 37 → z_wco k = z_wco j → k = j := by decide +kernel
theorem z_wco_5 : ∀ k, k < 37 → (z_wco k = 5 ↔ k = 1) := by decide +kernel
section ZRD1
variable {L : Nat} {xs : Nat → Int32} {fv : Value} {f w : Nat} {c : Nat × Nat} {A : Nat → List (Nat × Int32)} {E : List (Nat × Option Nat)} {N : Nat → Nat} {V : Nat → Nat → Int32} {W : Nat} {g : List z_E} {B : Nat → List (Nat × Int32)} {M : Nat → List (Nat × Int64)} {U : Nat → Nat → Int32}
theorem s150 {k q : Int32} (h0 : U 41 11 = 0) : z_Ln L xs fv f w 150 0 [(0, .ref 148), (1, .int k), (2, .int q)] [] (hC A E N V W ++ (hR B M U ++ g), c) (.inl none) (hC A E N V W ++ (hR B M (z_UF U k q) ++ g), c) := b150_0t (by rw [h0]; decide) b150_8
theorem s150f {k q : Int32} (h0 : ¬ U 41 11 ≤ 0) : z_Ln L xs fv f w 150 0 [(0, .ref 148), (1, .int k), (2, .int q)] [] (hC A E N V W ++ (hR B M U ++ g), c) (.inl none) (hC A E N V W ++ (hR B M U ++ g), c) := b150_0f h0 b150_7
theorem s151 (h0 : U 41 11 = 0) (hRm : z_Rm (hC A E N V W ++ (hR B M U ++ g), c)) (hf : 2 ≤ f) (hw : 100 ≤ w) : z_Ln L xs fv f w 151 0 [(0, .ref 148)] [] (hC A E N V W ++ (hR B M U ++ g), c) (.inl none) (hC A E N V W ++ (hR B M (z_UF U (if U 41 7 = 5 then 2 else 1) (U 41 8)) ++ g), c) := by
  have m150 : z_pg.2.1 150 ≤ 40 := by decide +kernel
  by_cases h5 : U 41 7 = 5
  · rw [if_pos h5]
    exact b151_0f (fun q => q h5) (b151_9 (b151_14 hRm (by omega) (by omega) (s150 h0) b151_21))
  · rw [if_neg h5]
    exact b151_0t h5 (b151_13 (b151_14 hRm (by omega) (by omega) (s150 h0) b151_21))
theorem s154f {x : Int32} (h0 : ¬ U 41 11 ≤ 0) : z_Ln L xs fv f w 154 0 [(0, .ref 148), (1, .int x)] [] (hC A E N V W ++ (hR B M U ++ g), c) (.inl none) (hC A E N V W ++ (hR B M U ++ g), c) := b154_0f h0 b154_7
theorem s154b {x : Int32} (h0 : U 41 11 = 0) (hx : ¬ U 41 7 = x) (hRm : z_Rm (hC A E N V W ++ (hR B M U ++ g), c)) (hf : 3 ≤ f) (hw : 200 ≤ w) : z_Ln L xs fv f w 154 0 [(0, .ref 148), (1, .int x)] [] (hC A E N V W ++ (hR B M U ++ g), c) (.inl none) (hC A E N V W ++ (hR B M (z_UF U (if U 41 7 = 5 then 2 else 1) (U 41 8)) ++ g), c) := by
  have m151 : z_pg.2.1 151 ≤ 40 := by decide +kernel
  exact b154_0t (by rw [h0]; decide) (b154_8t hx (b154_23 hRm (by omega) (by omega) (s151 h0 hRm (by omega) (by omega)) b154_27))
theorem s154 {x : Int32} {b : Nat → Nat} {n p l : Nat} (h0 : U 41 11 = 0) (hx : U 41 7 = x) (hT : z_Tr (B 44) b n) (hK : z_Ky (B 45)) (hU6 : U 41 6 = nI n) (hU : U 41 8 = nI p) (hU9 : U 41 9 = nI l) (hp2 : p + l ≤ 2000) (hRm : z_Rm (hC A E N V W ++ (hR B M U ++ g), c)) (hf : 5 ≤ f) (hw : 400 ≤ w) : z_Ln L xs fv f w 154 0 [(0, .ref 148), (1, .int x)] [] (hC A E N V W ++ (hR B M U ++ g), c) (.inl none) (hC A E N V W ++ (hR B M (z_U3 (z_v U 41 8 (nI (z_nx b n (p + l)))) (z_lw b n (z_nx b n (p + l))) (nI (z_ll b n (z_nx b n (p + l)))) (z_lv2 b n (z_nx b n (p + l)) (U 41 10))) ++ g), c) := by
  have m141 : z_pg.2.1 141 ≤ 40 := by decide +kernel
  exact b154_0t (by rw [h0]; decide) (b154_8f (fun q => q hx) (b154_16 hRm (by omega) (by omega) (s141 hT hK hU6 hU hU9 hp2 hRm (by omega) (by omega)) (b154_20 b154_27)))
end ZRD1
/-- need, when the class has ended -/
theorem q154 {U : Nat → Nat → Int32} {k p x : Int32} (h : z_Qd k p U) (hx : ¬ x = 5) : ∃ U', z_Qd k p U' ∧ z_Uw U U' ∧ ∀ (L : Nat) (xs : Nat → Int32) (fv : Value) (f w : Nat) (c : Nat × Nat) (A : Nat → List (Nat × Int32)) (E : List (Nat × Option Nat)) (N : Nat → Nat) (V : Nat → Nat → Int32) (W : Nat) (g : List z_E) (B : Nat → List (Nat × Int32)) (M : Nat → List (Nat × Int64)), z_Rm ([], c) → 3 ≤ f → 200 ≤ w → z_Ln L xs fv f w 154 0 [(0, .ref 148), (1, .int x)] [] (hC A E N V W ++ (hR B M U ++ g), c) (.inl none) (hC A E N V W ++ (hR B M U' ++ g), c) := by
  rcases h with ⟨h1, h2, h3⟩ | ⟨h1, h2, h3, h4⟩
  · exact ⟨U, Or.inl ⟨h1, h2, h3⟩, z_Uw_rfl, fun _ _ _ _ _ _ _ _ _ _ _ _ _ _ _ _ _ => s154f h1⟩
  · refine ⟨z_UF U 2 (U 41 8), ?_, z_Uw_F, fun L xs fv f w c A E N V W g B M hRm hf hw => ?_⟩
    · rw [h1, ← h4]
      exact z_Qd_F (by decide)
    · have := s154b (L := L) (xs := xs) (fv := fv) (f := f) (w := w) (c := c) (A := A) (E := E) (N := N) (V := V) (W := W) (g := g) (B := B) (M := M) (U := U) (x := x) h2 (by rw [h3]; exact fun q => hx q.symm) hRm hf hw
      rw [if_pos h3] at this
      exact this
section ZRD2
variable {L : Nat} {xs : Nat → Int32} {fv : Value} {f w : Nat} {c : Nat × Nat} {A : Nat → List (Nat × Int32)} {E : List (Nat × Option Nat)} {N : Nat → Nat} {V : Nat → Nat → Int32} {W : Nat} {g : List z_E}
theorem s54 {toks : List (Nat × Nat × Int32)} {j : Nat} {t : Nat × Nat × Int32} (hTk : z_TkC E (A 6) (A 7) toks) (ht : toks[j]? = some t) (hlen : toks.length ≤ 1501) (hcur : V 3 7 + 1 = nI j) (hlt : ¬ V 3 6 - 1 ≤ V 3 7) (hW : W < 37) (h1 : ¬ t.2.1 = 1) (hRm : z_Rm (hC A E N V W ++ g, c)) (hf : 2 ≤ f) (hw : 100 ≤ w) : z_Ln L xs fv f w 54 0 [(0, .ref 131), (1, .ref W)] [] (hC A E N V W ++ g, c) (.inl none) (hC A E N (z_Vn V j t) t.2.1 ++ g, c) := by
  have m49 : z_pg.2.1 49 ≤ 60 := by decide +kernel
  exact b54_0t hW hW rfl (b54_15 (by omega) hRm (by omega) (by omega) (s49 hTk ht hlen hcur hlt h1) b54_22)
theorem s54x {toks : List (Nat × Nat × Int32)} {j : Nat} {t : Nat × Nat × Int32} (hTk : z_TkC E (A 6) (A 7) toks) (ht : toks[j]? = some t) (hlen : toks.length ≤ 1501) (hcur : V 3 7 + 1 = nI j) (hlt : ¬ V 3 6 - 1 ≤ V 3 7) (hW : W < 37) (h1 : t.2.1 = 1) (hRm : z_Rm (hC A E N V W ++ g, c)) (h1c : c.1 + 1 ≤ 601024) (h2c : c.2 + 6 ≤ 7293034) (hf : 8 ≤ f) (hw : 350 ≤ w) : z_Ln L xs fv f w 54 0 [(0, .ref 131), (1, .ref W)] [] (hC A E N V W ++ g, c) (.inr 10) (hC A E N (z_Vf (z_Vn V j t) 2 (nI t.1)) t.2.1 ++ g, c.1 + 1, c.2 + 6) := by
  have m49 : z_pg.2.1 49 ≤ 60 := by decide +kernel
  exact b54_0t hW hW rfl (b54_15x hRm (by omega) (by omega) (s49x hTk ht hlen hcur hlt h1 hRm h1c h2c (by omega) (by omega)))
theorem s54b {k : Nat} (hW : W < 37) (hk : k < 37) (hne : ¬ W = k) (hRm : z_Rm (hC A E N V W ++ g, c)) (h1c : c.1 + 1 ≤ 601024) (h2c : c.2 + 6 ≤ 7293034) (hf : 8 ≤ f) (hw : 350 ≤ w) : z_Ln L xs fv f w 54 0 [(0, .ref 131), (1, .ref k)] [] (hC A E N V W ++ g, c) (.inr 10) (hC A E N (z_Vf V 1 (V 3 9)) W ++ g, c.1 + 1, c.2 + 6) := by
  have m52 : z_pg.2.1 52 ≤ 60 := by decide +kernel
  exact b54_0f hk hW (fun q => hne (Option.some.inj q)) (b54_11x hRm (by omega) (by omega) (s52 hRm h1c h2c (by omega) (by omega)))
end ZRD2
