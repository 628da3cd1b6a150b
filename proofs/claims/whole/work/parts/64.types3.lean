/-! Telling types and effects: what each side answers, and the law's steps. -/
section ZT3
variable {L : Nat} {xs : Nat → Int32} {c : Nat × Nat} {A : Nat → List (Nat × Int32)} {E : List (Nat × Option Nat)} {N : Nat → Nat} {V : Nat → Nat → Int32} {W : Nat} {g : List z_E} {B : Nat → List (Nat × Int32)} {M : Nat → List (Nat × Int64)} {U : Nat → Nat → Int32}
set_option maxRecDepth 10000 in
theorem s_ty_ok {fv : Value} {f w t v : Nat} {k : Int32} (ht : t < 2 ^ 31) (hv : (t < 3 ∧ v = t) ∨ (3 ≤ t ∧ 3 ≤ v)) (hRm : z_Rm (hC A E N V W ++ g, c)) (hf : 3 ≤ f) (hw : 100 ≤ w) (hc : ∀ f w, 1 ≤ f → 40 ≤ w → z_Ln L xs fv f w 21 0 [(0, .ref 107), (1, .int k)] [] (hC A E N V W ++ g, c) (.inl (some (.int (nI t)))) (hC A E N V W ++ g, c)) : z_Ln L xs fv f w 20 0 [(0, .ref 107), (1, .int k)] [] (hC A E N V W ++ g, c) (.inl (some (.int (nI (z_ty v))))) (hC A E N V W ++ g, c) := by
  have m21 : z_pg.2.1 21 = 2 := rfl
  have m23 : z_pg.2.1 23 = 2 := rfl
  refine b20_0 ?_
  refine z_Ln.call (s := 0) (mj := 21) (as := [.ref 107, .int k]) (rr := []) (v := some (.int (nI t))) (T1 := (hC A E N V W ++ g, c)) rfl rfl ⟨⟨by omega, by omega⟩, (by decide : (0 : Nat) ≤ 8), (by decide +kernel : (2 : Nat) ≤ z_pg.2.1 21)⟩ hRm (hc _ _ (by omega) (by omega)) ⟨trivial, z_sm0C 0 (by decide) rfl rfl, trivial, trivial⟩ ?_
  refine b20_5t (z_m1n ht) (b20_13 ?_)
  refine z_Ln.call (s := 0) (mj := 23) (as := [.ref 115, .int (nI t)]) (rr := []) (v := some (.int (if t < 3 then 0 else 1))) (T1 := (hC A E N V W ++ g, c)) rfl rfl ⟨⟨by omega, by omega⟩, (by decide : (0 : Nat) ≤ 8), (by decide +kernel : (2 : Nat) ≤ z_pg.2.1 23)⟩ hRm (s_isf ht) ⟨trivial, trivial, z_sm0C 0 (by decide) rfl rfl, trivial, trivial⟩ ?_
  rcases hv with ⟨h1, rfl⟩ | ⟨h1, h2⟩
  · rw [if_pos h1]
    have e : z_ty v = v := if_pos h1
    rw [e]
    exact b20_21t rfl (b20_28 (z_Ln.ret rfl z_retI))
  · rw [if_neg (by omega)]
    have e : z_ty v = 3 := if_neg (by omega)
    rw [e]
    exact b20_21f (by decide) (b20_24 (z_Ln.ret rfl z_retI))
set_option maxRecDepth 10000 in
theorem s_ef_no {fv : Value} {f w : Nat} {k : Int32} (hk : ¬ k = -1) (hRm : z_Rm (hC A E N V W ++ g, c)) (hf : 3 ≤ f) (hw : 100 ≤ w) (hc : ∀ f w, 1 ≤ f → 40 ≤ w → z_Ln L xs fv f w 21 0 [(0, .ref 107), (1, .int k)] [] (hC A E N V W ++ g, c) (.inl (some (.int (-1)))) (hC A E N V W ++ g, c)) : z_Ln L xs fv f w 24 0 [(0, .ref 107), (1, .int k)] [] (hC A E N V W ++ g, c) (.inl (some (.int (-1)))) (hC A E N V W ++ g, c) := by
  have m21 : z_pg.2.1 21 = 2 := rfl
  refine b24_0t hk (b24_24 ?_)
  refine z_Ln.call (s := 0) (mj := 21) (as := [.ref 107, .int k]) (rr := []) (v := some (.int (-1))) (T1 := (hC A E N V W ++ g, c)) rfl rfl ⟨⟨by omega, by omega⟩, (by decide : (0 : Nat) ≤ 8), (by decide +kernel : (2 : Nat) ≤ z_pg.2.1 21)⟩ hRm (hc _ _ (by omega) (by omega)) ⟨trivial, z_sm0C 0 (by decide) rfl rfl, trivial, trivial⟩ ?_
  exact b24_29t rfl (b24_57 (z_Ln.ret rfl z_retI))
set_option maxRecDepth 10000 in
theorem s_ef_ok {fv : Value} {f w t v : Nat} {k : Int32} (hk : ¬ k = -1) (hN : t < N 11 ∧ N 11 < 2 ^ 31) (hv : (t < 3 ∧ v = t) ∨ (3 ≤ t ∧ 3 ≤ v ∧ z_fn 0 (A 11) t = nI (v - 3))) (hRm : z_Rm (hC A E N V W ++ g, c)) (hf : 3 ≤ f) (hw : 100 ≤ w) (hc : ∀ f w, 1 ≤ f → 40 ≤ w → z_Ln L xs fv f w 21 0 [(0, .ref 107), (1, .int k)] [] (hC A E N V W ++ g, c) (.inl (some (.int (nI t)))) (hC A E N V W ++ g, c)) : z_Ln L xs fv f w 24 0 [(0, .ref 107), (1, .int k)] [] (hC A E N V W ++ g, c) (.inl (some (.int (z_ef v)))) (hC A E N V W ++ g, c) := by
  have m21 : z_pg.2.1 21 = 2 := rfl
  have m23 : z_pg.2.1 23 = 2 := rfl
  have m25 : z_pg.2.1 25 = 2 := rfl
  have ht : t < 2 ^ 31 := by omega
  refine b24_0t hk (b24_24 ?_)
  refine z_Ln.call (s := 0) (mj := 21) (as := [.ref 107, .int k]) (rr := []) (v := some (.int (nI t))) (T1 := (hC A E N V W ++ g, c)) rfl rfl ⟨⟨by omega, by omega⟩, (by decide : (0 : Nat) ≤ 8), (by decide +kernel : (2 : Nat) ≤ z_pg.2.1 21)⟩ hRm (hc _ _ (by omega) (by omega)) ⟨trivial, z_sm0C 0 (by decide) rfl rfl, trivial, trivial⟩ ?_
  refine b24_29f (z_m1n ht) (b24_35 ?_)
  refine z_Ln.call (s := 0) (mj := 23) (as := [.ref 115, .int (nI t)]) (rr := []) (v := some (.int (if t < 3 then 0 else 1))) (T1 := (hC A E N V W ++ g, c)) rfl rfl ⟨⟨by omega, by omega⟩, (by decide : (0 : Nat) ≤ 8), (by decide +kernel : (2 : Nat) ≤ z_pg.2.1 23)⟩ hRm (s_isf ht) ⟨trivial, trivial, z_sm0C 0 (by decide) rfl rfl, trivial, trivial⟩ ?_
  rcases hv with ⟨h1, rfl⟩ | ⟨h1, h2, h3⟩
  · rw [if_pos h1]
    have e : z_ef v = -1 := if_pos h1
    rw [e]
    exact b24_43t rfl (b24_57 (z_Ln.ret rfl z_retI))
  · rw [if_neg (by omega)]
    have e : z_ef v = nI (v - 3) := if_neg (by omega)
    rw [e, ← h3]
    refine b24_43f (by decide) (b24_46 ?_)
    have hr : z_Ln L xs fv (f - 1) (w - (19 + z_pg.2.1 25)) 25 0 [(0, .ref 115), (1, .int (nI t))] [] (hC A E N V W ++ g, c) (.inl (some (.int (z_fn 0 (A 11) t)))) (hC A E N V W ++ g, c) := by
      refine b25_0 (z_inI hN.1 hN.2) ?_
      rw [nI_clamp ht]
      exact z_Ln.ret rfl z_retI
    refine z_Ln.call (s := 0) (mj := 25) (as := [.ref 115, .int (nI t)]) (rr := []) (v := some (.int (z_fn 0 (A 11) t))) (T1 := (hC A E N V W ++ g, c)) rfl rfl ⟨⟨by omega, by omega⟩, (by decide : (0 : Nat) ≤ 8), (by decide +kernel : (2 : Nat) ≤ z_pg.2.1 25)⟩ hRm hr ⟨trivial, trivial, z_sm0C 0 (by decide) rfl rfl, trivial, trivial⟩ ?_
    exact b24_54 (z_Ln.ret rfl z_retI)
theorem s_ef_m {fv : Value} {f w : Nat} (h : V 0 8 = 0 ∨ V 0 8 = 1) : z_Ln L xs fv f w 24 0 [(0, .ref 107), (1, .int (-1))] [] (hC A E N V W ++ g, c) (.inl (some (.int (if V 0 8 = 0 then -1 else V 13 9)))) (hC A E N V W ++ g, c) := by
  refine b24_0f (not_not_intro rfl) ?_
  rcases h with h | h
  · rw [if_pos h]
    exact b24_5t h (b24_22 (z_Ln.ret rfl z_retI))
  · have h0 : ¬ V 0 8 = 0 := by rw [h]; decide
    rw [if_neg h0]
    exact b24_5f h0 (b24_12 (z_Ln.ret rfl z_retI))
/-- the reference's typeAt -/
theorem s_ta_no {fv : Value} {f w m n t : Nat} {l : List Nat} {k : Int32} (hU : U 41 91 = 1) (ht : U 41 92 = nI t) (hm : m ≤ 1500) (hT : z_TR (B 46) (B 47) (B 48) (M 110) m n t l) (hl : l.length < 2 ^ 31) (h : z_nok l k) : z_Ln L xs fv f w 201 0 [(0, .ref 148), (1, .int k)] [] (hC A E N V W ++ (hR B M U ++ g), c) (.inl (some (.int (-1)))) (hC A E N V W ++ (hR B M U ++ g), c) := by
  have e : z_Ln L xs fv f w 201 26 [(0, .ref 148), (1, .int k)] [] (hC A E N V W ++ (hR B M U ++ g), c) (.inl (some (.int (-1)))) (hC A E N V W ++ (hR B M U ++ g), c) := b201_26 (z_Ln.ret rfl z_retI)
  have htm := (z_TR_hd hT).2
  refine b201_0f (by rw [hU]; decide) ?_
  rcases h with h | ⟨h1, h2⟩
  · exact b201_7t h e
  · obtain ⟨j, hj, rfl⟩ := nI_of h1
    have h3 : l.length ≤ j := by
      rcases Nat.lt_or_ge j l.length with q | q
      · exact absurd (nI_lt q hl) h2
      · exact q
    refine b201_7f h1 (b201_11f ?_ ?_ e)
    · rw [ht]
      exact z_inI (by omega) (by decide)
    · rw [ht, nI_clamp (by omega)]
      cases n with
      | zero => exact hT.elim
      | succ n =>
        rw [hT.2.1, nI_l hj]
        intro q
        have q2 := (lN_lt (by omega) hl).mp ((lg_cmp_lt _ _).mp q)
        omega
theorem s_ta_ok {m n t j : Nat} {l : List Nat} (hU : U 41 91 = 1) (ht : U 41 92 = nI t) (hm : m ≤ 1500) (hT : z_TR (B 46) (B 47) (B 48) (M 110) m n t l) (hl : l.length < 2 ^ 31) (hj : j < l.length) : ∃ (t' n' : Nat) (l' : List Nat), z_TR (B 46) (B 47) (B 48) (M 110) m n' t' l' ∧ l'[0]? = l[j]? ∧ ∀ (fv : Value) (f w : Nat), z_Ln L xs fv f w 201 0 [(0, .ref 148), (1, .int (nI j))] [] (hC A E N V W ++ (hR B M U ++ g), c) (.inl (some (.int (nI t')))) (hC A E N V W ++ (hR B M U ++ g), c) := by
  obtain ⟨t', n', l', a1, a2, a3⟩ := s_typeL (L := L) (xs := xs) (c := c) (A := A) (E := E) (N := N) (V := V) (W := W) (U := U) (g := g) (kk := nI j) hm n t l j hT hl hj
  have htm := (z_TR_hd hT).2
  refine ⟨t', n', l', a1, a2, fun fv f w => b201_0f (by rw [hU]; decide) (b201_7f (nI_pos (by omega)) (b201_11t ?_ ?_ (b201_28 ?_)))⟩
  · rw [ht]
    exact z_inI (by omega) (by decide)
  · rw [ht, nI_clamp (by omega)]
    cases n with
    | zero => exact hT.elim
    | succ n =>
      rw [hT.2.1, nI_l (by omega)]
      exact (lg_cmp_lt _ _).mpr ((lN_lt (by omega) hl).mpr hj)
  · rw [ht, nI_l (by omega)]
    exact a3 fv f w
theorem s_ta_0 {fv : Value} {f w : Nat} {k : Int32} (hU : U 41 91 = 0) : z_Ln L xs fv f w 201 0 [(0, .ref 148), (1, .int k)] [] (hC A E N V W ++ (hR B M U ++ g), c) (.inl (some (.int (-1)))) (hC A E N V W ++ (hR B M U ++ g), c) := b201_0t hU (b201_26 (z_Ln.ret rfl z_retI))
/-- the reference's type and effects, by what typeAt tells -/
def z_taC (L : Nat) (xs : Nat → Int32) (c : Nat × Nat) (A : Nat → List (Nat × Int32)) (E : List (Nat × Option Nat)) (N : Nat → Nat) (V : Nat → Nat → Int32) (W : Nat) (B : Nat → List (Nat × Int32)) (M : Nat → List (Nat × Int64)) (U : Nat → Nat → Int32) (g : List z_E) (fv : Value) (k x : Int32) : Prop := ∀ f w, z_Ln L xs fv f w 201 0 [(0, .ref 148), (1, .int k)] [] (hC A E N V W ++ (hR B M U ++ g), c) (.inl (some (.int x))) (hC A E N V W ++ (hR B M U ++ g), c)
set_option maxRecDepth 10000 in
theorem s_tyR {fv : Value} {f w : Nat} {k x : Int32} (hRm : z_Rm (hC A E N V W ++ (hR B M (z_v U 41 0 0) ++ g), c)) (hf : 3 ≤ f) (hw : 100 ≤ w) (hc : z_taC L xs c A E N V W B M (z_v U 41 0 0) g fv k x) : z_Ln L xs fv f w 200 0 [(0, .ref 148), (1, .int k)] [] (hC A E N V W ++ (hR B M U ++ g), c) (.inl (some (.int (if 3 ≤ x then 3 else x)))) (hC A E N V W ++ (hR B M (z_v U 41 0 0) ++ g), c) := by
  have m201 : z_pg.2.1 201 = 5 := rfl
  refine b200_0 ?_
  refine z_Ln.call (s := 0) (mj := 201) (as := [.ref 148, .int k]) (rr := []) (v := some (.int x)) (T1 := (hC A E N V W ++ (hR B M (z_v U 41 0 0) ++ g), c)) rfl rfl ⟨⟨by omega, by omega⟩, (by decide : (0 : Nat) ≤ 8), (by decide +kernel : (2 : Nat) ≤ z_pg.2.1 201)⟩ hRm (hc _ _) ⟨trivial, z_smM, trivial, trivial⟩ ?_
  by_cases h : 3 ≤ x
  · rw [if_pos h]
    exact b200_10t h (b200_20 (z_Ln.ret rfl z_retI))
  · rw [if_neg h]
    exact b200_10f h (b200_16 (z_Ln.ret rfl z_retI))
set_option maxRecDepth 10000 in
theorem s_efR {fv : Value} {f w : Nat} {k x : Int32} (hk : ¬ k = -1) (hRm : z_Rm (hC A E N V W ++ (hR B M (z_v U 41 0 0) ++ g), c)) (hf : 3 ≤ f) (hw : 100 ≤ w) (hx : ¬ 3 ≤ x ∨ z_in x 1500 = true) (hc : z_taC L xs c A E N V W B M (z_v U 41 0 0) g fv k x) : z_Ln L xs fv f w 202 0 [(0, .ref 148), (1, .int k)] [] (hC A E N V W ++ (hR B M U ++ g), c) (.inl (some (.int (if 3 ≤ x then z_fn 0 (B 48) x.toNatClampNeg else -1)))) (hC A E N V W ++ (hR B M (z_v U 41 0 0) ++ g), c) := by
  have m201 : z_pg.2.1 201 = 5 := rfl
  refine b202_0t hk (b202_26 ?_)
  refine z_Ln.call (s := 0) (mj := 201) (as := [.ref 148, .int k]) (rr := []) (v := some (.int x)) (T1 := (hC A E N V W ++ (hR B M (z_v U 41 0 0) ++ g), c)) rfl rfl ⟨⟨by omega, by omega⟩, (by decide : (0 : Nat) ≤ 8), (by decide +kernel : (2 : Nat) ≤ z_pg.2.1 201)⟩ hRm (hc _ _) ⟨trivial, z_smM, trivial, trivial⟩ ?_
  by_cases h : 3 ≤ x
  · rw [if_pos h]
    rcases hx with hx | hx
    · exact absurd h hx
    · exact b202_31t h (b202_41 hx (z_Ln.ret rfl z_retI))
  · rw [if_neg h]
    exact b202_31f h (b202_37 (z_Ln.ret rfl z_retI))
theorem s_efR_m {fv : Value} {f w : Nat} (h : U 41 91 = 0 ∨ U 41 91 = 1) : z_Ln L xs fv f w 202 0 [(0, .ref 148), (1, .int (-1))] [] (hC A E N V W ++ (hR B M U ++ g), c) (.inl (some (.int (if U 41 91 = 0 then -1 else U 41 93)))) (hC A E N V W ++ (hR B M (z_v U 41 0 0) ++ g), c) := by
  refine b202_0f (not_not_intro rfl) ?_
  rcases h with h | h
  · rw [if_pos h]
    exact b202_10t h (b202_24 (z_Ln.ret rfl z_retI))
  · have h0 : ¬ U 41 91 = 0 := by rw [h]; decide
    rw [if_neg h0]
    exact b202_10f h0 (b202_17 (z_Ln.ret rfl z_retI))
end ZT3
