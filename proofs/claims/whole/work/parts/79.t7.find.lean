/-! Reading: effects looked up. -/
/-- the first place from i on where P holds, of k -/
def z_fs (P : Nat → Bool) : Nat → Nat → Int32
  | 0, _ => -1
  | k + 1, i => if P i = true then nI i else z_fs P k (i + 1)
theorem z_fs_eq {P Q : Nat → Bool} : ∀ k i, (∀ j, i ≤ j → j < i + k → P j = Q j) → z_fs P k i = z_fs Q k i := by
  intro k
  induction k with
  | zero => intro i _; rfl
  | succ k ih =>
    intro i h
    have e1 : z_fs P (k + 1) i = (if P i = true then nI i else z_fs P k (i + 1)) := rfl
    have e2 : z_fs Q (k + 1) i = (if Q i = true then nI i else z_fs Q k (i + 1)) := rfl
    rw [e1, e2, h i (Nat.le_refl _) (by omega), ih (i + 1) (fun j a b => h j (by omega) (by omega))]
theorem z_fs_or {P : Nat → Bool} : ∀ k i, z_fs P k i = -1 ∨ ∃ j, i ≤ j ∧ j < i + k ∧ P j = true ∧ z_fs P k i = nI j := by
  intro k
  induction k with
  | zero => intro i; exact Or.inl rfl
  | succ k ih =>
    intro i
    have e1 : z_fs P (k + 1) i = (if P i = true then nI i else z_fs P k (i + 1)) := rfl
    rw [e1]
    by_cases h : P i = true
    · rw [if_pos h]
      exact Or.inr ⟨i, Nat.le_refl _, by omega, h, rfl⟩
    · rw [if_neg h]
      rcases ih (i + 1) with h2 | ⟨j, j1, j2, j3, j4⟩
      · exact Or.inl h2
      · exact Or.inr ⟨j, by omega, by omega, j3, j4⟩
section ZRD3
variable {L : Nat} {xs : Nat → Int32} {fv : Value} {f w : Nat} {c : Nat × Nat} {A : Nat → List (Nat × Int32)} {E : List (Nat × Option Nat)} {N : Nat → Nat} {V : Nat → Nat → Int32} {W : Nat} {g : List z_E} {B : Nat → List (Nat × Int32)} {M : Nat → List (Nat × Int64)} {U : Nat → Nat → Int32}
theorem s153a {b : Nat → Nat} {n p l e l2 : Nat} (hT : z_Tr (B 44) b n) (hp : p + l ≤ n) (he : e + l ≤ n) : ∀ m j, j + m = l → (∀ i, i < j → b (p + i) = b (e + i)) → z_Ln L xs fv f w 153 16 [(0, .ref 148), (1, .int (nI p)), (2, .int (nI l)), (3, .int (nI e)), (4, .int (nI l2)), (5, .int 1), (6, .int (nI j))] [] (hC A E N V W ++ (hR B M U ++ g), c) (.inl (some (.int (z_B1 (z_sm2 b p e l))))) (hC A E N V W ++ (hR B M U ++ g), c) := by
  obtain ⟨hn, ht⟩ := id hT
  intro m
  induction m with
  | zero =>
    intro j h hb
    have e1 : z_sm2 b p e l = true := (z_sm2_iff l).mpr (fun k hk => hb k (by omega))
    rw [e1]
    exact b153_16t (nI_le (by omega) (by omega)) (b153_61 (Or.inr rfl))
  | succ m ih =>
    intro j h hb
    have q1 : z_fn 0 (B 44) (nI p + nI j).toNatClampNeg = nI (b (p + j)) := by rw [nI_add, nI_clamp (by omega), (ht (p + j) (by omega)).2]
    have q2 : z_fn 0 (B 44) (nI e + nI j).toNatClampNeg = nI (b (e + j)) := by rw [nI_add, nI_clamp (by omega), (ht (e + j) (by omega)).2]
    have b1 := (ht (p + j) (by omega)).1
    have b2 := (ht (e + j) (by omega)).1
    have i1 : z_in (nI p + nI j) 1500 = true := by rw [nI_add]; exact z_inI (by omega) (by decide)
    have i2 : z_in (nI e + nI j) 1500 = true := by rw [nI_add]; exact z_inI (by omega) (by decide)
    refine b153_16f (nI_ge (by omega) (by omega)) (b153_22f (by decide) ?_)
    by_cases heq : b (p + j) = b (e + j)
    · refine b153_27f i1 i2 (fun q => q (by rw [q1, q2, heq])) (b153_48 (b153_53 ?_))
      rw [nI_1]
      refine ih (j + 1) (by omega) (fun i hi => ?_)
      by_cases hij : i = j
      · rw [hij]
        exact heq
      · exact hb i (by omega)
    · have e1 : z_sm2 b p e l = false := z_sm2_no heq l (by omega)
      rw [e1]
      refine b153_27t i1 i2 (fun q => heq ?_) (b153_52 (b153_53 ?_))
      · rw [q1, q2] at q
        have q' := congrArg Int32.toNatClampNeg q
        rwa [nI_clamp (by omega), nI_clamp (by omega)] at q'
      · rw [nI_1]
        by_cases hl : l ≤ j + 1
        · exact b153_16t (nI_le hl (by omega)) (b153_61 (Or.inl rfl))
        · exact b153_16f (nI_ge (by omega) (by omega)) (b153_22t rfl (b153_61 (Or.inl rfl)))
theorem s153 {b : Nat → Nat} {n p l e l2 : Nat} (hT : z_Tr (B 44) b n) (hp : p + l ≤ n) (he : e + l2 ≤ n) : z_Ln L xs fv f w 153 0 [(0, .ref 148), (1, .int (nI p)), (2, .int (nI l)), (3, .int (nI e)), (4, .int (nI l2))] [] (hC A E N V W ++ (hR B M U ++ g), c) (.inl (some (.int (z_B1 (decide (l = l2) && z_sm2 b p e l))))) (hC A E N V W ++ (hR B M U ++ g), c) := by
  have hn := hT.1
  by_cases h : l = l2
  · rw [decide_eq_true h, Bool.true_and]
    subst h
    exact b153_0f (fun q => q rfl) (b153_6 (b153_11 (s153a hT hp he l 0 (by omega) (fun i hi => absurd hi (Nat.not_lt_zero i)))))
  · rw [decide_eq_false h, Bool.false_and]
    refine b153_0t (fun q => h ?_) (b153_10 (b153_11 ?_))
    · have q' := congrArg Int32.toNatClampNeg q
      rwa [nI_clamp (by omega), nI_clamp (by omega)] at q'
    · by_cases h0 : nI l ≤ 0
      · exact b153_16t h0 (b153_61 (Or.inl rfl))
      · exact b153_16f h0 (b153_22t rfl (b153_61 (Or.inl rfl)))
theorem s53a {m : Nat} {x : Int32} (hm : m ≤ 8) (hV : V 20 3 = nI m) : ∀ k i, i + k = m → z_Ln L xs fv f w 53 2 [(0, .ref 127), (1, .int x), (2, .int (nI i))] [] (hC A E N V W ++ g, c) (.inl (some (.int (z_fs (fun i => decide (z_fn 0 (A 21) i = x)) k i)))) (hC A E N V W ++ g, c) := by
  intro k
  induction k with
  | zero =>
    intro i h
    exact b53_2t (by rw [hV]; exact nI_le (by omega) (by omega)) b53_28
  | succ k ih =>
    intro i h
    have ci : (nI i).toNatClampNeg = i := nI_clamp (by omega)
    have ii : z_in (nI i) 8 = true := z_inI (by omega) (by decide)
    have e1 : z_fs (fun i => decide (z_fn 0 (A 21) i = x)) (k + 1) i = (if decide (z_fn 0 (A 21) i = x) = true then nI i else z_fs (fun i => decide (z_fn 0 (A 21) i = x)) k (i + 1)) := rfl
    rw [e1]
    refine b53_2f (by rw [hV]; exact nI_ge (by omega) (by omega)) ?_
    by_cases hx : z_fn 0 (A 21) i = x
    · rw [if_pos (decide_eq_true hx)]
      exact b53_10f ii (fun q => q (by rw [ci]; exact hx)) b53_20
    · rw [if_neg (fun q => hx (of_decide_eq_true q))]
      refine b53_10t ii (by rw [ci]; exact hx) (b53_22 ?_)
      rw [nI_1]
      exact ih (i + 1) (by omega)
theorem s53 {m : Nat} {x : Int32} (hm : m ≤ 8) (hV : V 20 3 = nI m) : z_Ln L xs fv f w 53 0 [(0, .ref 127), (1, .int x)] [] (hC A E N V W ++ g, c) (.inl (some (.int (z_fs (fun i => decide (z_fn 0 (A 21) i = x)) m 0)))) (hC A E N V W ++ g, c) := b53_0 (s53a hm hV m 0 (by omega))
theorem s152a {b : Nat → Nat} {n p l m : Nat} {ep el : Nat → Nat} (hT : z_Tr (B 44) b n) (hm : m ≤ 8) (hU19 : U 41 19 = nI m) (hU : U 41 8 = nI p) (hU9 : U 41 9 = nI l) (hp : p + l ≤ n) (hE : ∀ i, i < m → z_fn 0 (B 51) i = nI (ep i) ∧ z_fn 0 (B 52) i = nI (el i) ∧ ep i + el i ≤ n) (hRm : z_Rm (hC A E N V W ++ (hR B M U ++ g), c)) (hf : 1 ≤ f) (hw : 100 ≤ w) : ∀ k i, i + k = m → z_Ln L xs fv f w 152 2 [(0, .ref 148), (1, .int (nI i))] [] (hC A E N V W ++ (hR B M U ++ g), c) (.inl (some (.int (z_fs (fun i => decide (l = el i) && z_sm2 b p (ep i) l) k i)))) (hC A E N V W ++ (hR B M U ++ g), c) := by
  have m153 : z_pg.2.1 153 ≤ 40 := by decide +kernel
  intro k
  induction k with
  | zero =>
    intro i h
    exact b152_2t (by rw [hU19]; exact nI_le (by omega) (by omega)) b152_45
  | succ k ih =>
    intro i h
    obtain ⟨a1, a2, a3⟩ := hE i (by omega)
    have ci : (nI i).toNatClampNeg = i := nI_clamp (by omega)
    have ii : z_in (nI i) 8 = true := z_inI (by omega) (by decide)
    have e1 : z_fs (fun i => decide (l = el i) && z_sm2 b p (ep i) l) (k + 1) i = (if (decide (l = el i) && z_sm2 b p (ep i) l) = true then nI i else z_fs (fun i => decide (l = el i) && z_sm2 b p (ep i) l) k (i + 1)) := rfl
    rw [e1]
    refine b152_2f (by rw [hU19]; exact nI_ge (by omega) (by omega)) (b152_10 (v := z_B1 (decide (l = el i) && z_sm2 b p (ep i) l)) ii ii hRm (by omega) (by omega) (by rw [ci, a1, a2, hU, hU9]; exact s153 hT hp a3) ?_)
    cases hx : (decide (l = el i) && z_sm2 b p (ep i) l) with
    | true =>
      rw [if_pos rfl]
      exact b152_34f (by decide) b152_37
    | false =>
      rw [if_neg (by decide)]
      refine b152_34t rfl (b152_39 ?_)
      rw [nI_1]
      exact ih (i + 1) (by omega)
theorem s152 {b : Nat → Nat} {n p l m : Nat} {ep el : Nat → Nat} (hT : z_Tr (B 44) b n) (hm : m ≤ 8) (hU19 : U 41 19 = nI m) (hU : U 41 8 = nI p) (hU9 : U 41 9 = nI l) (hp : p + l ≤ n) (hE : ∀ i, i < m → z_fn 0 (B 51) i = nI (ep i) ∧ z_fn 0 (B 52) i = nI (el i) ∧ ep i + el i ≤ n) (hRm : z_Rm (hC A E N V W ++ (hR B M U ++ g), c)) (hf : 1 ≤ f) (hw : 100 ≤ w) : z_Ln L xs fv f w 152 0 [(0, .ref 148)] [] (hC A E N V W ++ (hR B M U ++ g), c) (.inl (some (.int (z_fs (fun i => decide (l = el i) && z_sm2 b p (ep i) l) m 0)))) (hC A E N V W ++ (hR B M U ++ g), c) := b152_0 (s152a hT hm hU19 hU hU9 hp hE hRm hf hw m 0 (by omega))
end ZRD3
/-- the effects declared so far, of both: m, where they are told (place), each a word of the text -/
def z_De (b : Nat → Nat) (n m : Nat) (ep : Nat → Nat) (A B : Nat → List (Nat × Int32)) (V U : Nat → Nat → Int32) : Prop := m ≤ 8 ∧ V 20 3 = nI m ∧ U 41 19 = nI m ∧ ∀ i, i < m → ∃ (j : Nat) (t : Nat × Nat × Int32), (z_ts b n)[j]? = some t ∧ t.2.1 = 3 ∧ t.1 = ep i ∧ z_fn 0 (A 21) i = t.2.2 ∧ z_fn 0 (B 51) i = nI (ep i) ∧ z_fn 0 (B 52) i = nI (z_ll b n (ep i))
/-- both find one -/
theorem z_De_find {b : Nat → Nat} {n m j : Nat} {ep : Nat → Nat} {A B : Nat → List (Nat × Int32)} {V U : Nat → Nat → Int32} {t : Nat × Nat × Int32} (hn : n ≤ 1500) (h : z_De b n m ep A B V U) (ht : (z_ts b n)[j]? = some t) (hk : t.2.1 = 2 ∨ t.2.1 = 3) : z_fs (fun i => decide (z_fn 0 (A 21) i = t.2.2)) m 0 = z_fs (fun i => decide (z_ll b n t.1 = z_ll b n (ep i)) && z_sm2 b t.1 (ep i) (z_ll b n t.1)) m 0 := by
  obtain ⟨h1, h2, h3, h4⟩ := h
  refine z_fs_eq m 0 (fun i _ hi => ?_)
  obtain ⟨k, u, u1, u2, u3, u4, u5, u6⟩ := h4 i (by omega)
  obtain ⟨a1, -⟩ := z_ts_name ht hk
  obtain ⟨b1, -⟩ := z_ts_name u1 (Or.inr u2)
  have e1 : z_ll b n t.1 = z_we b n t.1 - t.1 := if_pos a1
  have e2 : z_ll b n u.1 = z_we b n u.1 - u.1 := if_pos b1
  rw [← u3, e1, e2]
  have hz := z_name hn u1 (Or.inr u2) ht hk
  rw [u4]
  refine Bool.eq_iff_iff.mpr ?_
  rw [decide_eq_true_iff, Bool.and_eq_true, decide_eq_true_iff, z_sm2_iff, hz]
  constructor
  · intro q
    exact ⟨q.1.symm, fun k hk => (q.2 k hk).symm⟩
  · intro q
    exact ⟨q.1.symm, fun k hk => (q.2 k hk).symm⟩
