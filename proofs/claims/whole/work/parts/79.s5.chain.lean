/-! Lexing: the class's row of words is what the reference's next finds, one after another. -/
theorem z_we_dg {b : Nat → Nat} {n p : Nat} (hdg : z_Dg2 (b p) = true) : z_we b n p = z_go z_Dg2 b n (p + 1) := by
  have hlt : ¬ z_Lt2 (b p) = true := by
    intro h1
    unfold z_Lt2 at h1
    unfold z_Dg2 at hdg
    simp at h1 hdg
    omega
  exact (if_neg hlt).trans (if_pos hdg)
theorem z_go_in {P : Nat → Bool} {b : Nat → Nat} {n : Nat} : ∀ k q, n - q ≤ k → ∀ i, q ≤ i → i < z_go P b n q → P (b i) = true := by
  intro k
  induction k with
  | zero =>
    intro q hk i h1 h2
    rw [z_go_f (fun x => by omega)] at h2
    omega
  | succ k ih =>
    intro q hk i h1 h2
    by_cases hP : q < n ∧ P (b q) = true
    · rw [z_go_t hP.1 hP.2] at h2
      by_cases hi : i = q
      · rw [hi]
        exact hP.2
      · exact ih (q + 1) (by omega) i (by omega) h2
    · rw [z_go_f hP] at h2
      omega
theorem z_bc_dg : ∀ c, c < 256 → z_Dg2 c = true → z_bc c = nI c := by decide +kernel
/-- both make one number -/
theorem z_nr_nu {b : Nat → Nat} {p : Nat} : ∀ l, (∀ i, i < l → b (p + i) < 256 ∧ z_Dg2 (b (p + i)) = true) → z_nr b p l = z_nu b p l := by
  intro l
  induction l with
  | zero => intro _; rfl
  | succ l ih =>
    intro h
    obtain ⟨h1, h2⟩ := h l (by omega)
    show ((10 * z_nr b p l) + nI (b (p + l))) - 48 = z_nu b p l * 10 + (z_bc (b (p + l)) - 48)
    rw [ih (fun i hi => h i (by omega)), z_bc_dg _ h1 h2, Int32.mul_comm, Int32.sub_eq_add_neg, Int32.sub_eq_add_neg, Int32.add_assoc]
/-- where the i-th word is to be -/
def z_ex (b : Nat → Nat) (n : Nat) (toks : List (Nat × Nat × Int32)) : Nat → Nat
  | 0 => z_nx b n 0
  | i + 1 => z_nx b n (z_we b n (toks.getD i (0, 0, 0)).1)
/-- the i-th word is the one that is there -/
def z_Gd (b : Nat → Nat) (n : Nat) (toks : List (Nat × Nat × Int32)) (i : Nat) (t : Nat × Nat × Int32) : Prop := (t.1 < n ∧ z_Sp2 (b t.1) = false ∧ t = z_tw b n t.1 (toks.take i) ∧ t.1 = z_ex b n toks i) ∨ (t = (n, 0, 0) ∧ i + 1 = toks.length ∧ (z_ex b n toks i = n ∨ ∃ j, i = j + 1 ∧ (toks.getD j (0, 0, 0)).2.1 = 1))
theorem z_ex_app {b : Nat → Nat} {n : Nat} {toks r : List (Nat × Nat × Int32)} {i : Nat} (h : i ≤ toks.length) : z_ex b n (toks ++ r) i = z_ex b n toks i := by
  cases i with
  | zero => rfl
  | succ i =>
    show z_nx b n (z_we b n ((toks ++ r).getD i (0, 0, 0)).1) = z_nx b n (z_we b n (toks.getD i (0, 0, 0)).1)
    rw [List.getD_eq_getElem?_getD, List.getD_eq_getElem?_getD, List.getElem?_append_left (by omega)]
/-- words, all there, none the end's -/
def z_Gs (b : Nat → Nat) (n : Nat) (toks : List (Nat × Nat × Int32)) : Prop := ∀ i t, toks[i]? = some t → t.1 < n ∧ z_Sp2 (b t.1) = false ∧ t = z_tw b n t.1 (toks.take i) ∧ t.1 = z_ex b n toks i
theorem z_Gs_app {b : Nat → Nat} {n p : Nat} {toks : List (Nat × Nat × Int32)} (h : z_Gs b n toks) (hp : p < n) (hs : z_Sp2 (b p) = false) (he : p = z_ex b n toks toks.length) : z_Gs b n (toks ++ [z_tw b n p toks]) := by
  intro i t ht
  have hi : i < (toks ++ [z_tw b n p toks]).length := (List.getElem?_eq_some_iff.mp ht).1
  rw [List.length_append, List.length_singleton] at hi
  rw [z_ex_app (by omega), List.take_append_of_le_length (by omega)]
  by_cases hl : i < toks.length
  · rw [List.getElem?_append_left hl] at ht
    exact h i t ht
  · have : i = toks.length := by omega
    subst this
    rw [List.getElem?_append_right (Nat.le_refl _), Nat.sub_self] at ht
    have e : z_tw b n p toks = t := Option.some.inj ht
    subst e
    refine ⟨hp, hs, ?_, he⟩
    rw [List.take_length]
    rfl
theorem z_Gs_end {b : Nat → Nat} {n : Nat} {toks : List (Nat × Nat × Int32)} (h : z_Gs b n toks) (he : z_ex b n toks toks.length = n ∨ ∃ j, toks.length = j + 1 ∧ (toks.getD j (0, 0, 0)).2.1 = 1) : ∀ i t, (toks ++ [(n, 0, 0)])[i]? = some t → z_Gd b n (toks ++ [(n, 0, 0)]) i t := by
  intro i t ht
  have hi : i < (toks ++ [(n, 0, 0)]).length := (List.getElem?_eq_some_iff.mp ht).1
  rw [List.length_append, List.length_singleton] at hi
  unfold z_Gd
  rw [z_ex_app (by omega), List.take_append_of_le_length (by omega)]
  by_cases hl : i < toks.length
  · rw [List.getElem?_append_left hl] at ht
    exact Or.inl (h i t ht)
  · have : i = toks.length := by omega
    subst this
    rw [List.getElem?_append_right (Nat.le_refl _), Nat.sub_self] at ht
    refine Or.inr ⟨(Option.some.inj ht).symm, by rw [List.length_append, List.length_singleton], ?_⟩
    rcases he with he | ⟨j, j1, j2⟩
    · exact Or.inl he
    · refine Or.inr ⟨j, j1, ?_⟩
      rw [List.getD_eq_getElem?_getD] at j2 ⊢
      rw [List.getElem?_append_left (by omega)]
      exact j2
theorem z_nx_at {b : Nat → Nat} {n q : Nat} (h : ¬ (q < n ∧ z_Sp2 (b q) = true)) : z_nx b n q = q := z_go_f h
theorem z_ex_last {b : Nat → Nat} {n p : Nat} {toks : List (Nat × Nat × Int32)} : z_ex b n (toks ++ [z_tw b n p toks]) (toks ++ [z_tw b n p toks]).length = z_nx b n (z_we b n p) ∧ ((toks ++ [z_tw b n p toks]).getD toks.length (0, 0, 0)) = z_tw b n p toks := by
  have e : (toks ++ [z_tw b n p toks]).getD toks.length (0, 0, 0) = z_tw b n p toks := by
    rw [List.getD_eq_getElem?_getD, List.getElem?_append_right (Nat.le_refl _), Nat.sub_self]
    rfl
  refine ⟨?_, e⟩
  rw [List.length_append, List.length_singleton]
  show z_nx b n (z_we b n ((toks ++ [z_tw b n p toks]).getD toks.length (0, 0, 0)).1) = _
  rw [e]
  rfl
theorem z_tks_ok {b : Nat → Nat} {n : Nat} : ∀ m q toks, n - q ≤ m → q ≤ n → z_ex b n toks toks.length = z_nx b n q → z_Gs b n toks → ∀ i t, (z_tks b n m q toks)[i]? = some t → z_Gd b n (z_tks b n m q toks) i t := by
  intro m
  induction m with
  | zero =>
    intro q toks hm hq he hG
    refine z_Gs_end hG (Or.inl ?_)
    rw [he, z_nx_at (fun x => by omega)]
    omega
  | succ m ih =>
    intro q toks hm hq he hG
    by_cases h : q < n
    · by_cases hs : b q = 32 ∨ b q = 10
      · rw [z_tks_sp h hs]
        refine ih (q + 1) toks (by omega) h (he.trans ?_) hG
        exact z_go_t h (z_Sp_iff.mpr hs)
      · obtain ⟨w1, w2⟩ := z_we_le (b := b) h
        have hs2 : z_Sp2 (b q) = false := Bool.eq_false_iff.mpr (fun x => hs (z_Sp_iff.mp x))
        have hq2 : z_nx b n q = q := z_nx_at (fun x => hs (z_Sp_iff.mp x.2))
        have hG2 := z_Gs_app hG h hs2 (by rw [he, hq2])
        obtain ⟨l1, l2⟩ := z_ex_last (b := b) (n := n) (p := q) (toks := toks)
        by_cases hk : z_kd b n q = 1
        · rw [z_tks_bad h hs hk]
          refine z_Gs_end hG2 (Or.inr ⟨toks.length, by rw [List.length_append, List.length_singleton], ?_⟩)
          rw [l2]
          exact hk
        · rw [z_tks_wd h hs hk]
          exact ih (z_we b n q) _ (by omega) w2 l1 hG2
    · rw [z_tks_end h]
      refine z_Gs_end hG (Or.inl ?_)
      rw [he, z_nx_at (fun x => h x.1)]
      omega
theorem z_tks_last {b : Nat → Nat} {n : Nat} : ∀ m q toks, ∃ r, z_tks b n m q toks = r ++ [(n, 0, 0)] := by
  intro m
  induction m with
  | zero => exact fun q toks => ⟨toks, rfl⟩
  | succ m ih =>
    intro q toks
    by_cases h : q < n
    · by_cases hs : b q = 32 ∨ b q = 10
      · rw [z_tks_sp h hs]
        exact ih _ _
      · by_cases hk : z_kd b n q = 1
        · rw [z_tks_bad h hs hk]
          exact ⟨_, rfl⟩
        · rw [z_tks_wd h hs hk]
          exact ih _ _
    · rw [z_tks_end h]
      exact ⟨_, rfl⟩
/-- the class's words -/
def z_ts (b : Nat → Nat) (n : Nat) : List (Nat × Nat × Int32) := z_tks b n n 0 []
theorem z_ts_ok {b : Nat → Nat} {n i : Nat} {t : Nat × Nat × Int32} (h : (z_ts b n)[i]? = some t) : z_Gd b n (z_ts b n) i t := z_tks_ok n 0 [] (by omega) (Nat.zero_le _) rfl (fun i t h => by cases h) i t h
theorem z_ts_next {b : Nat → Nat} {n i : Nat} {t : Nat × Nat × Int32} (h : (z_ts b n)[i]? = some t) (h0 : ¬ t.2.1 = 0) : ∃ t', (z_ts b n)[i + 1]? = some t' := by
  obtain ⟨r, hr⟩ := z_tks_last (b := b) (n := n) n 0 []
  have hi : i < (z_ts b n).length := (List.getElem?_eq_some_iff.mp h).1
  have hl : (z_ts b n).length = r.length + 1 := by
    show (z_tks b n n 0 []).length = _
    rw [hr, List.length_append, List.length_singleton]
  by_cases hir : i < r.length
  · exact ⟨_, List.getElem?_eq_getElem (by omega)⟩
  · have : i = r.length := by omega
    subst this
    have h2 : (r ++ [(n, 0, 0)])[r.length]? = some t := by
      rw [← hr]
      exact h
    rw [List.getElem?_append_right (Nat.le_refl _), Nat.sub_self] at h2
    have e : ((n, 0, 0) : Nat × Nat × Int32) = t := Option.some.inj h2
    rw [← e] at h0
    exact absurd rfl h0
