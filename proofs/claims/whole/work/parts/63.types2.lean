/-! Telling types and effects. -/
section ZTZ
variable {L : Nat} {xs : Nat → Int32} {c : Nat × Nat} {A : Nat → List (Nat × Int32)} {E : List (Nat × Option Nat)} {N : Nat → Nat} {V : Nat → Nat → Int32} {W : Nat} {g : List z_E} {B : Nat → List (Nat × Int32)} {M : Nat → List (Nat × Int64)} {U : Nat → Nat → Int32}
theorem z_m1n {x : Nat} (hx : x < 2 ^ 31) : ¬ nI x = -1 := by
  intro h
  have h1 := nI_pos hx
  rw [h] at h1
  exact h1 (by decide)
/-- what is told of a node: 0, 1, 2, or 3 of a function -/
def z_ty (v : Nat) : Nat := if v < 3 then v else 3
/-- a node's row of effects, or -1 -/
def z_ef (v : Nat) : Int32 := if v < 3 then -1 else nI (v - 3)
/-- of a node that was found: what the arrays say of it -/
theorem z_TC_lab {a r w s : List (Nat × Int32)} {m n t v : Nat} {l : List Nat} (h : z_TC a r w s m n t l) (hv : l[0]? = some v) : (t < 3 ∧ v = t) ∨ (3 ≤ t ∧ 3 ≤ v ∧ z_fn 0 w t = nI (v - 3)) := by
  cases n with
  | zero => exact h.elim
  | succ n =>
    obtain ⟨h1, -, h3⟩ := h
    rcases h3 with ⟨h3, rfl⟩ | ⟨h3, x, y, e, l1, l2, -, -, e3, rfl, -⟩
    · cases hv
      exact Or.inl ⟨h3, rfl⟩
    · cases hv
      refine Or.inr ⟨h3, by omega, ?_⟩
      rw [e3, show 3 + e - 3 = e by omega]
theorem z_TR_lab {a r w : List (Nat × Int32)} {s : List (Nat × Int64)} {m n t v : Nat} {l : List Nat} (h : z_TR a r w s m n t l) (hv : l[0]? = some v) : (t < 3 ∧ v = t) ∨ (3 ≤ t ∧ 3 ≤ v ∧ z_fn 0 w t = nI (v - 3)) := by
  cases n with
  | zero => exact h.elim
  | succ n =>
    obtain ⟨h1, -, h3⟩ := h
    rcases h3 with ⟨h3, rfl⟩ | ⟨h3, x, y, e, l1, l2, -, -, e3, rfl, -⟩
    · cases hv
      exact Or.inl ⟨h3, rfl⟩
    · cases hv
      refine Or.inr ⟨h3, by omega, ?_⟩
      rw [e3, show 3 + e - 3 = e by omega]
/-- a number that names no node -/
def z_nok (l : List Nat) (k : Int32) : Prop := k < 0 ∨ (¬ k < 0 ∧ ¬ k < nI l.length)
theorem z_nok_or (l : List Nat) (hl : l.length < 2 ^ 31) (k : Int32) : z_nok l k ∨ ∃ j v, k = nI j ∧ j < l.length ∧ l[j]? = some v := by
  by_cases h0 : k < 0
  · exact Or.inl (Or.inl h0)
  · obtain ⟨j, hj, rfl⟩ := nI_of h0
    by_cases h1 : j < l.length
    · exact Or.inr ⟨j, l[j], rfl, h1, List.getElem?_eq_getElem h1⟩
    · exact Or.inl (Or.inr ⟨h0, nI_nlt (by omega) hj⟩)
/-- the class's Types.node -/
theorem s_node_no {fv : Value} {f w m n t : Nat} {l : List Nat} {k : Int32} (hN : z_Tn N m) (hT : z_TC (A 9) (A 10) (A 11) (A 12) m n t l) (h : z_nok l k) : z_Ln L xs fv f w 22 0 [(0, .ref 115), (1, .int (nI t)), (2, .int k)] [] (hC A E N V W ++ g, c) (.inl (some (.int (-1)))) (hC A E N V W ++ g, c) := by
  have e : z_Ln L xs fv f w 22 14 [(0, .ref 115), (1, .int (nI t)), (2, .int k)] [] (hC A E N V W ++ g, c) (.inl (some (.int (-1)))) (hC A E N V W ++ g, c) := b22_14 (z_Ln.ret rfl z_retI)
  have ht := (z_TC_hd hT).2
  obtain ⟨-, -, -, n12, n12'⟩ := hN
  rcases h with h | ⟨h1, h2⟩
  · exact b22_0t h e
  · refine b22_0f h1 (b22_4f (z_inI (by omega) n12') ?_ e)
    rw [nI_clamp (by omega)]
    cases n with
    | zero => exact hT.elim
    | succ n =>
      rw [hT.2.1]
      exact h2
theorem s_node_ok {m n t j : Nat} {l : List Nat} (hN : z_Tn N m) (hT : z_TC (A 9) (A 10) (A 11) (A 12) m n t l) (hl : l.length < 2 ^ 31) (hj : j < l.length) : ∃ (t' n' : Nat) (l' : List Nat), z_TC (A 9) (A 10) (A 11) (A 12) m n' t' l' ∧ l'[0]? = l[j]? ∧ ∀ (fv : Value) (f w : Nat), z_Ln L xs fv f w 22 0 [(0, .ref 115), (1, .int (nI t)), (2, .int (nI j))] [] (hC A E N V W ++ g, c) (.inl (some (.int (nI t')))) (hC A E N V W ++ g, c) := by
  obtain ⟨t', n', l', a1, a2, a3⟩ := s_nodeL (L := L) (xs := xs) (c := c) (E := E) (V := V) (W := W) (g := g) (ty := nI t) (kk := nI j) hN n t l j hT hl hj
  have ht := (z_TC_hd hT).2
  obtain ⟨-, -, -, n12, n12'⟩ := id hN
  refine ⟨t', n', l', a1, a2, fun fv f w => b22_0f (nI_pos (by omega)) (b22_4t (z_inI (by omega) n12') ?_ (b22_16 (a3 fv f w)))⟩
  rw [nI_clamp (by omega)]
  cases n with
  | zero => exact hT.elim
  | succ n =>
    rw [hT.2.1]
    exact nI_lt hj hl
/-- the class's programNode -/
theorem s_pn0 {fv : Value} {f w : Nat} {k : Int32} (h : V 0 8 = 0) : z_Ln L xs fv f w 21 0 [(0, .ref 107), (1, .int k)] [] (hC A E N V W ++ g, c) (.inl (some (.int (-1)))) (hC A E N V W ++ g, c) := b21_0t h (b21_25 (z_Ln.ret rfl z_retI))
set_option maxRecDepth 10000 in
theorem s_pn1 {fv : Value} {f w : Nat} {k x : Int32} (hRm : z_Rm (hC A E N V W ++ g, c)) (hf : 1 ≤ f) (hw : 40 ≤ w) (h : ¬ V 0 8 = 0) (hc : z_Ln L xs fv (f - 1) (w - (19 + z_pg.2.1 22)) 22 0 [(0, .ref 115), (1, .int (V 13 8)), (2, .int k)] [] (hC A E N V W ++ g, c) (.inl (some (.int x))) (hC A E N V W ++ g, c)) : z_Ln L xs fv f w 21 0 [(0, .ref 107), (1, .int k)] [] (hC A E N V W ++ g, c) (.inl (some (.int x))) (hC A E N V W ++ g, c) := by
  refine b21_0f h (b21_7 ?_)
  refine z_Ln.call (s := 0) (mj := 22) (as := [.ref 115, .int (V 13 8), .int k]) (rr := []) (v := some (.int x)) (T1 := (hC A E N V W ++ g, c)) rfl rfl ⟨⟨hf, by have : z_pg.2.1 22 = 6 := rfl; omega⟩, (by decide : (0 : Nat) ≤ 8), (by decide +kernel : (3 : Nat) ≤ z_pg.2.1 22)⟩ hRm hc ⟨trivial, z_sm0C 0 (by decide) rfl rfl, trivial, trivial⟩ ?_
  exact b21_22 (z_Ln.ret rfl z_retI)
/-- the class's isFunction and rowOf -/
theorem s_isf {fv : Value} {f w t : Nat} (ht : t < 2 ^ 31) : z_Ln L xs fv f w 23 0 [(0, .ref 115), (1, .int (nI t))] [] (hC A E N V W ++ g, c) (.inl (some (.int (if t < 3 then 0 else 1)))) (hC A E N V W ++ g, c) := by
  by_cases h : t < 3
  · rw [if_pos h]
    exact b23_0t (nI_lt (b := 3) h (by omega)) (b23_9 (z_Ln.ret rfl (z_retB (Or.inl rfl))))
  · rw [if_neg h]
    exact b23_0f (nI_nlt (b := 3) (by omega) ht) (b23_5 (z_Ln.ret rfl (z_retB (Or.inr rfl))))

set_option maxRecDepth 10000 in
theorem s_ty_no {fv : Value} {f w : Nat} {k : Int32} (hRm : z_Rm (hC A E N V W ++ g, c)) (hf : 3 ≤ f) (hw : 100 ≤ w) (hc : ∀ f w, 1 ≤ f → 40 ≤ w → z_Ln L xs fv f w 21 0 [(0, .ref 107), (1, .int k)] [] (hC A E N V W ++ g, c) (.inl (some (.int (-1)))) (hC A E N V W ++ g, c)) : z_Ln L xs fv f w 20 0 [(0, .ref 107), (1, .int k)] [] (hC A E N V W ++ g, c) (.inl (some (.int (-1)))) (hC A E N V W ++ g, c) := by
  have m21 : z_pg.2.1 21 = 2 := rfl
  refine b20_0 ?_
  refine z_Ln.call (s := 0) (mj := 21) (as := [.ref 107, .int k]) (rr := []) (v := some (.int (-1))) (T1 := (hC A E N V W ++ g, c)) rfl rfl ⟨⟨by omega, by omega⟩, (by decide : (0 : Nat) ≤ 8), (by decide +kernel : (2 : Nat) ≤ z_pg.2.1 21)⟩ hRm (hc _ _ (by omega) (by omega)) ⟨trivial, z_sm0C 0 (by decide) rfl rfl, trivial, trivial⟩ ?_
  exact b20_5f (not_not_intro rfl) (b20_11 (z_Ln.ret rfl z_retI))
end ZTZ
