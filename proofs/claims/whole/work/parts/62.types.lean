/-! Types as both sides hold them: the row of their nodes as they are written. A node is 0, 1, 2, or 3 and a function's row of effects. -/
def z_TC (a r w s : List (Nat × Int32)) (m : Nat) : Nat → Nat → List Nat → Prop
  | 0, _, _ => False
  | n + 1, t, l => t < m ∧ z_fn 0 s t = nI l.length ∧ ((t < 3 ∧ l = [t]) ∨ (3 ≤ t ∧ ∃ x y e l1 l2, z_fn 0 a t = nI x ∧ z_fn 0 r t = nI y ∧ z_fn 0 w t = nI e ∧ l = (3 + e) :: (l1 ++ l2) ∧ z_TC a r w s m n x l1 ∧ z_TC a r w s m n y l2))
def z_TR (a r w : List (Nat × Int32)) (s : List (Nat × Int64)) (m : Nat) : Nat → Nat → List Nat → Prop
  | 0, _, _ => False
  | n + 1, t, l => t < m ∧ z_fn 0 s t = lN l.length ∧ ((t < 3 ∧ l = [t]) ∨ (3 ≤ t ∧ ∃ x y e l1 l2, z_fn 0 a t = nI x ∧ z_fn 0 r t = nI y ∧ z_fn 0 w t = nI e ∧ l = (3 + e) :: (l1 ++ l2) ∧ z_TR a r w s m n x l1 ∧ z_TR a r w s m n y l2))
section ZTY
variable {L : Nat} {xs : Nat → Int32} {c : Nat × Nat} {A : Nat → List (Nat × Int32)} {E : List (Nat × Option Nat)} {N : Nat → Nat} {V : Nat → Nat → Int32} {W : Nat} {g : List z_E} {B : Nat → List (Nat × Int32)} {M : Nat → List (Nat × Int64)} {U : Nat → Nat → Int32}
/-- the arrays of the class's types are long enough -/
def z_Tn (N : Nat → Nat) (m : Nat) : Prop := (m ≤ N 9 ∧ N 9 < 2 ^ 31) ∧ (m ≤ N 10 ∧ N 10 < 2 ^ 31) ∧ (m ≤ N 11 ∧ N 11 < 2 ^ 31) ∧ m ≤ N 12 ∧ N 12 < 2 ^ 31
theorem z_TC_hd {a r w s : List (Nat × Int32)} {m n t : Nat} {l : List Nat} (h : z_TC a r w s m n t l) : 0 < l.length ∧ t < m := by
  cases n with
  | zero => exact h.elim
  | succ n =>
    obtain ⟨h1, -, h3⟩ := h
    rcases h3 with ⟨-, rfl⟩ | ⟨-, x, y, e, l1, l2, -, -, -, rfl, -⟩
    · exact ⟨Nat.succ_pos _, h1⟩
    · exact ⟨Nat.succ_pos _, h1⟩
theorem z_TR_hd {a r w : List (Nat × Int32)} {s : List (Nat × Int64)} {m n t : Nat} {l : List Nat} (h : z_TR a r w s m n t l) : 0 < l.length ∧ t < m := by
  cases n with
  | zero => exact h.elim
  | succ n =>
    obtain ⟨h1, -, h3⟩ := h
    rcases h3 with ⟨-, rfl⟩ | ⟨-, x, y, e, l1, l2, -, -, -, rfl, -⟩
    · exact ⟨Nat.succ_pos _, h1⟩
    · exact ⟨Nat.succ_pos _, h1⟩
set_option maxRecDepth 10000 in
theorem s_nodeL {m : Nat} (hN : z_Tn N m) {ty kk : Int32} : ∀ (n t : Nat) (l : List Nat) (k : Nat), z_TC (A 9) (A 10) (A 11) (A 12) m n t l → l.length < 2 ^ 31 → k < l.length →
    ∃ (t' n' : Nat) (l' : List Nat), z_TC (A 9) (A 10) (A 11) (A 12) m n' t' l' ∧ l'[0]? = l[k]? ∧ ∀ (fv : Value) (f w : Nat), z_Ln L xs fv f w 22 21 [(4, .int (nI k)), (3, .int (nI t)), (0, .ref 115), (1, .int ty), (2, .int kk)] [] (hC A E N V W ++ g, c) (.inl (some (.int (nI t')))) (hC A E N V W ++ g, c) := by
  obtain ⟨⟨n9, n9'⟩, ⟨n10, n10'⟩, -, n12, n12'⟩ := hN
  intro n
  induction n with
  | zero => intro t l k h; exact h.elim
  | succ n ih =>
    intro t l k h hl hk
    cases k with
    | zero => exact ⟨t, n + 1, l, h, rfl, fun fv f w => b22_21t (nI_le (a := 0) (b := 0) (Nat.le_refl _) (by decide)) (b22_76 (z_Ln.ret rfl z_retI))⟩
    | succ k =>
      obtain ⟨h1, h2, h3⟩ := h
      rcases h3 with ⟨-, rfl⟩ | ⟨h3, x, y, e, l1, l2, e1, e2, e3, rfl, t1, t2⟩
      · have hk : k + 1 < 1 := hk
        omega
      · have hk : k + 1 < (l1 ++ l2).length + 1 := hk
        have hl : (l1 ++ l2).length + 1 < 2 ^ 31 := hl
        rw [List.length_append] at hk hl
        have ct : (nI t).toNatClampNeg = t := nI_clamp (by omega)
        have x1 := (z_TC_hd t1).2
        have y1 := (z_TC_hd t2).2
        have cx : (nI x).toNatClampNeg = x := nI_clamp (by omega)
        have sx : z_fn 0 (A 12) x = nI l1.length := by
          cases n with
          | zero => exact t1.elim
          | succ n => exact t1.2.1
        have em : nI (k + 1) + Int32.ofInt (-1) = nI k := by
          have : (Int32.ofInt (-1)) = (-1 : Int32) := by decide
          rw [this]
          exact pk_m1 k
        have i1 : z_in (nI t) (N 9) = true := z_inI (by omega) n9'
        have i2 : z_in (nI x) (N 12) = true := z_inI (by omega) n12'
        have i3 : z_in (nI t) (N 10) = true := z_inI (by omega) n10'
        by_cases hc : l1.length ≤ k
        · obtain ⟨t', n', l', a1, a2, a3⟩ := ih y l2 (k - l1.length) t2 (by omega) (by omega)
          refine ⟨t', n', l', a1, ?_, fun fv f w => ?_⟩
          · rw [a2, List.getElem?_cons_succ, List.getElem?_append_right hc]
          · refine b22_21f (nI_nle (by omega) (by omega)) (b22_26 ?_)
            rw [em]
            refine b22_29 i1 (by rw [ct, e1]; exact i2) ?_
            rw [ct, e1, cx, sx]
            refine b22_42t (nI_le hc (by omega)) (b22_59 i3 (b22_59b ?_))
            rw [ct, e2, pk_sub hc]
            exact z_Ln.lv (z_le.cons rfl rfl (z_le.cons rfl rfl (z_le.cons rfl rfl (z_le.cons rfl rfl (z_le.cons rfl rfl z_le.nil))))) (a3 fv f w)
        · obtain ⟨t', n', l', a1, a2, a3⟩ := ih x l1 k t1 (by omega) (by omega)
          refine ⟨t', n', l', a1, ?_, fun fv f w => ?_⟩
          · rw [a2, List.getElem?_cons_succ, List.getElem?_append_left (by omega)]
          · refine b22_21f (nI_nle (by omega) (by omega)) (b22_26 ?_)
            rw [em]
            refine b22_29 i1 (by rw [ct, e1]; exact i2) ?_
            rw [ct, e1, cx, sx]
            refine b22_42f (nI_ge (by omega) (by omega)) (b22_49 i1 (b22_49b ?_))
            rw [ct, e1]
            exact z_Ln.lv (z_le.cons rfl rfl (z_le.cons rfl rfl (z_le.cons rfl rfl (z_le.cons rfl rfl (z_le.cons rfl rfl z_le.nil))))) (a3 fv f w)
set_option maxRecDepth 10000 in
theorem s_typeL {m : Nat} (hm : m ≤ 1500) {kk : Int32} : ∀ (n t : Nat) (l : List Nat) (k : Nat), z_TR (B 46) (B 47) (B 48) (M 110) m n t l → l.length < 2 ^ 31 → k < l.length →
    ∃ (t' n' : Nat) (l' : List Nat), z_TR (B 46) (B 47) (B 48) (M 110) m n' t' l' ∧ l'[0]? = l[k]? ∧ ∀ (fv : Value) (f w : Nat), z_Ln L xs fv f w 201 36 [(3, .long (lN k)), (2, .int (nI t)), (0, .ref 148), (1, .int kk)] [] (hC A E N V W ++ (hR B M U ++ g), c) (.inl (some (.int (nI t')))) (hC A E N V W ++ (hR B M U ++ g), c) := by
  intro n
  induction n with
  | zero => intro t l k h; exact h.elim
  | succ n ih =>
    intro t l k h hl hk
    cases k with
    | zero => exact ⟨t, n + 1, l, h, rfl, fun fv f w => b201_36t ((lg_cmp_le _ _).mpr ((lN_le (a := 0) (b := 0) (by decide) (by decide)).mpr (Nat.le_refl _))) (b201_96 (z_Ln.ret rfl z_retI))⟩
    | succ k =>
      obtain ⟨h1, h2, h3⟩ := h
      rcases h3 with ⟨-, rfl⟩ | ⟨h3, x, y, e, l1, l2, e1, e2, e3, rfl, t1, t2⟩
      · have hk : k + 1 < 1 := hk
        omega
      · have hk : k + 1 < (l1 ++ l2).length + 1 := hk
        have hl : (l1 ++ l2).length + 1 < 2 ^ 31 := hl
        rw [List.length_append] at hk hl
        have ct : (nI t).toNatClampNeg = t := nI_clamp (by omega)
        have x1 := (z_TR_hd t1).2
        have y1 := (z_TR_hd t2).2
        have cx : (nI x).toNatClampNeg = x := nI_clamp (by omega)
        have sx : z_fn 0 (M 110) x = lN l1.length := by
          cases n with
          | zero => exact t1.elim
          | succ n => exact t1.2.1
        have em : lN (k + 1) - 1 = lN k := lN_sub (a := k + 1) (b := 1) (by omega)
        have i1 : z_in (nI t) 1500 = true := z_inI (by omega) (by decide)
        have i2 : z_in (nI x) 1500 = true := z_inI (by omega) (by decide)
        have h0 : ¬ lg_cmp (lN (k + 1)) 0 ≤ 0 := by
          intro q
          have q2 := (lN_le (a := k + 1) (b := 0) (by omega) (by decide)).mp ((lg_cmp_le _ _).mp q)
          omega
        by_cases hc : l1.length ≤ k
        · obtain ⟨t', n', l', a1, a2, a3⟩ := ih y l2 (k - l1.length) t2 (by omega) (by omega)
          refine ⟨t', n', l', a1, ?_, fun fv f w => ?_⟩
          · rw [a2, List.getElem?_cons_succ, List.getElem?_append_right hc]
          · refine b201_36f h0 (b201_42t i1 (by rw [ct, e1]; exact i2) ?_ ?_)
            · rw [em, ct, e1, cx, sx]
              exact (lg_cmp_ge _ _).mpr ((lN_le (by omega) (by omega)).mpr hc)
            · rw [em]
              refine b201_72 i1 (by rw [ct, e1]; exact i2) i1 ?_
              rw [ct, e1, cx, sx, e2, lN_sub hc]
              exact z_Ln.lv (z_le.cons rfl rfl (z_le.cons rfl rfl (z_le.cons rfl rfl (z_le.cons rfl rfl z_le.nil)))) (a3 fv f w)
        · obtain ⟨t', n', l', a1, a2, a3⟩ := ih x l1 k t1 (by omega) (by omega)
          refine ⟨t', n', l', a1, ?_, fun fv f w => ?_⟩
          · rw [a2, List.getElem?_cons_succ, List.getElem?_append_left (by omega)]
          · refine b201_36f h0 (b201_42f i1 (by rw [ct, e1]; exact i2) ?_ ?_)
            · rw [em, ct, e1, cx, sx]
              intro q
              have q2 := (lN_le (by omega) (by omega)).mp ((lg_cmp_ge _ _).mp q)
              omega
            · rw [em]
              refine b201_62 i1 ?_
              rw [ct, e1]
              exact z_Ln.lv (z_le.cons rfl rfl (z_le.cons rfl rfl (z_le.cons rfl rfl (z_le.cons rfl rfl z_le.nil)))) (a3 fv f w)
end ZTY
