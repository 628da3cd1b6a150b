/-! Lexing: names alike have one number. -/
/-- the words at e and p are spelled alike -/
def z_alk (b : Nat → Nat) (n e p : Nat) : Prop := z_we b n e - e = z_we b n p - p ∧ ∀ k, k < z_we b n p - p → b (e + k) = b (p + k)
theorem z_alk_rfl {b : Nat → Nat} {n e : Nat} : z_alk b n e e := ⟨rfl, fun _ _ => rfl⟩
theorem z_alk_sym {b : Nat → Nat} {n e p : Nat} (h : z_alk b n e p) : z_alk b n p e := ⟨h.1.symm, fun k hk => (h.2 k (by rw [← h.1]; exact hk)).symm⟩
theorem z_alk_tr {b : Nat → Nat} {n e p q : Nat} (h : z_alk b n e p) (h2 : z_alk b n p q) : z_alk b n e q := ⟨h.1.trans h2.1, fun k hk => (h.2 k (by rw [h2.1]; exact hk)).trans (h2.2 k hk)⟩
theorem z_sm2_iff {b : Nat → Nat} {e p : Nat} : ∀ l, z_sm2 b e p l = true ↔ ∀ k, k < l → b (e + k) = b (p + k) := by
  intro l
  induction l with
  | zero => exact ⟨fun _ k hk => absurd hk (Nat.not_lt_zero k), fun _ => rfl⟩
  | succ l ih =>
    have e1 : z_sm2 b e p (l + 1) = (z_sm2 b e p l && decide (b (e + l) = b (p + l))) := rfl
    rw [e1, Bool.and_eq_true, ih]
    constructor
    · intro h k hk
      by_cases hkl : k = l
      · rw [hkl]
        exact of_decide_eq_true h.2
      · exact h.1 k (by omega)
    · intro h
      exact ⟨fun k hk => h k (by omega), decide_eq_true (h l (by omega))⟩
theorem z_sw_iff {b : Nat → Nat} {n e p : Nat} (he : e < n) : z_sw b n e p (z_we b n p - p) = true ↔ z_alk b n e p := by
  obtain ⟨w1, w2⟩ := z_we_le (b := b) he
  unfold z_sw z_alk
  rw [Bool.and_eq_true, z_sm2_iff]
  constructor
  · intro h
    have := of_decide_eq_true h.2
    exact ⟨by omega, h.1⟩
  · intro h
    exact ⟨h.2, decide_eq_true (by omega)⟩
theorem z_nm_yes {b : Nat → Nat} {n p l : Nat} {t : Nat × Nat × Int32} {r : List (Nat × Nat × Int32)} (h : (t.2.1 = 2 ∨ t.2.1 = 3) ∧ z_sw b n t.1 p l = true) : z_nm b n p l (t :: r) = t.1 := if_pos h
theorem z_nm_no {b : Nat → Nat} {n p l : Nat} {t : Nat × Nat × Int32} {r : List (Nat × Nat × Int32)} (h : ¬ ((t.2.1 = 2 ∨ t.2.1 = 3) ∧ z_sw b n t.1 p l = true)) : z_nm b n p l (t :: r) = z_nm b n p l r := if_neg h
theorem z_nm_same {b : Nat → Nat} {n p : Nat} : ∀ toks : List (Nat × Nat × Int32), (∀ t ∈ toks, t.1 < n) → z_alk b n (z_nm b n p (z_we b n p - p) toks) p := by
  intro toks
  induction toks with
  | nil => exact fun _ => z_alk_rfl
  | cons t r ih =>
    intro h
    by_cases hq : (t.2.1 = 2 ∨ t.2.1 = 3) ∧ z_sw b n t.1 p (z_we b n p - p) = true
    · rw [z_nm_yes hq]
      exact (z_sw_iff (h t List.mem_cons_self)).mp hq.2
    · rw [z_nm_no hq]
      exact ih (fun u hu => h u (List.mem_cons_of_mem t hu))
theorem z_nm_one {b : Nat → Nat} {n p q : Nat} (hs : z_alk b n p q) {u : Nat × Nat × Int32} (hu : (u.2.1 = 2 ∨ u.2.1 = 3)) (hup : u.1 = p) (hpn : p < n) {r : List (Nat × Nat × Int32)} : ∀ toks : List (Nat × Nat × Int32), (∀ t ∈ toks, t.1 < n) → z_nm b n q (z_we b n q - q) (toks ++ u :: r) = z_nm b n p (z_we b n p - p) toks := by
  intro toks
  induction toks with
  | nil =>
    intro _
    rw [List.nil_append, z_nm_yes ⟨hu, (z_sw_iff (by rw [hup]; exact hpn)).mpr (by rw [hup]; exact hs)⟩]
    exact hup
  | cons t s ih =>
    intro h
    have htn := h t List.mem_cons_self
    rw [List.cons_append]
    by_cases hq : (t.2.1 = 2 ∨ t.2.1 = 3) ∧ z_sw b n t.1 p (z_we b n p - p) = true
    · rw [z_nm_yes hq, z_nm_yes ⟨hq.1, (z_sw_iff htn).mpr (z_alk_tr ((z_sw_iff htn).mp hq.2) hs)⟩]
    · rw [z_nm_no hq, z_nm_no (fun x => hq ⟨x.1, (z_sw_iff htn).mpr (z_alk_tr ((z_sw_iff htn).mp x.2) (z_alk_sym hs))⟩)]
      exact ih (fun v hv => h v (List.mem_cons_of_mem t hv))
/-- words ahead of one that is no end are words -/
theorem z_ts_take {b : Nat → Nat} {n i : Nat} {t : Nat × Nat × Int32} (ht : (z_ts b n)[i]? = some t) : ∀ u ∈ (z_ts b n).take i, u.1 < n := by
  intro u hu
  have hi : i < (z_ts b n).length := (List.getElem?_eq_some_iff.mp ht).1
  obtain ⟨k, hk, hku⟩ := List.mem_take_iff_getElem.mp hu
  have hk2 : (z_ts b n)[k]? = some u := by
    rw [List.getElem?_eq_getElem (by omega), hku]
  rcases z_ts_ok hk2 with ⟨h1, -⟩ | ⟨-, h1, -⟩
  · exact h1
  · omega
theorem z_ts_name {b : Nat → Nat} {n i : Nat} {t : Nat × Nat × Int32} (ht : (z_ts b n)[i]? = some t) (hk : t.2.1 = 2 ∨ t.2.1 = 3) : t.1 < n ∧ t.2.2 = nI (z_nm b n t.1 (z_we b n t.1 - t.1) ((z_ts b n).take i)) := by
  rcases z_ts_ok ht with ⟨h1, h2, h3, h4⟩ | ⟨h1, -⟩
  · have ek : t.2.1 = z_kd b n t.1 := congrArg (fun x => x.2.1) h3
    have ev : t.2.2 = z_va b n t.1 (z_we b n t.1 - t.1) ((z_ts b n).take i) (z_kd b n t.1) := congrArg (fun x => x.2.2) h3
    rw [ek] at hk
    have hd : ¬ z_Dg2 (b t.1) = true := by
      intro hd
      have e : z_kd b n t.1 = (if z_we b n t.1 - t.1 ≤ 9 then 4 else 1) := if_pos hd
      rw [e] at hk
      revert hk
      split <;> intro hk <;> omega
    refine ⟨h1, ev.trans ?_⟩
    unfold z_va
    rw [if_neg hd, if_pos hk]
  · subst h1
    rcases hk with hk | hk <;> cases hk
theorem z_nm_le {b : Nat → Nat} {n p l : Nat} (hp : p < n) : ∀ toks : List (Nat × Nat × Int32), (∀ t ∈ toks, t.1 < n) → z_nm b n p l toks < n := by
  intro toks
  induction toks with
  | nil => exact fun _ => hp
  | cons t r ih =>
    intro h
    by_cases hq : (t.2.1 = 2 ∨ t.2.1 = 3) ∧ z_sw b n t.1 p l = true
    · rw [z_nm_yes hq]
      exact h t List.mem_cons_self
    · rw [z_nm_no hq]
      exact ih (fun u hu => h u (List.mem_cons_of_mem t hu))
theorem z_name_lt {b : Nat → Nat} {n i j : Nat} {t u : Nat × Nat × Int32} (hij : i < j) (ht : (z_ts b n)[i]? = some t) (hk : t.2.1 = 2 ∨ t.2.1 = 3) (hu : (z_ts b n)[j]? = some u) (hk2 : u.2.1 = 2 ∨ u.2.1 = 3) (hs : z_alk b n t.1 u.1) : t.2.2 = u.2.2 := by
  obtain ⟨a1, a2⟩ := z_ts_name ht hk
  obtain ⟨b1, b2⟩ := z_ts_name hu hk2
  have hj : j < (z_ts b n).length := (List.getElem?_eq_some_iff.mp hu).1
  have hti : (z_ts b n)[i]'(by omega) = t := (List.getElem?_eq_some_iff.mp ht).2
  have e : (z_ts b n).take j = (z_ts b n).take i ++ t :: ((z_ts b n).take j).drop (i + 1) := by
    have h1 : ((z_ts b n).take j).take i = (z_ts b n).take i := by rw [List.take_take, Nat.min_eq_left (by omega)]
    have h2 : i < ((z_ts b n).take j).length := by rw [List.length_take]; omega
    have h3 : ((z_ts b n).take j)[i]'h2 = t := by rw [List.getElem_take]; exact hti
    have h4 := List.take_append_drop i ((z_ts b n).take j)
    rw [h1, List.drop_eq_getElem_cons h2, h3] at h4
    exact h4.symm
  rw [a2, b2, e, z_nm_one hs hk rfl a1 _ (z_ts_take ht)]
/-- names alike, and only those, have one number -/
theorem z_name {b : Nat → Nat} {n i j : Nat} {t u : Nat × Nat × Int32} (hn : n ≤ 1500) (ht : (z_ts b n)[i]? = some t) (hk : t.2.1 = 2 ∨ t.2.1 = 3) (hu : (z_ts b n)[j]? = some u) (hk2 : u.2.1 = 2 ∨ u.2.1 = 3) : t.2.2 = u.2.2 ↔ z_alk b n t.1 u.1 := by
  constructor
  · intro h
    obtain ⟨a1, a2⟩ := z_ts_name ht hk
    obtain ⟨b1, b2⟩ := z_ts_name hu hk2
    rw [a2, b2] at h
    have l1 := z_nm_le (b := b) (l := z_we b n t.1 - t.1) a1 _ (z_ts_take ht)
    have l2 := z_nm_le (b := b) (l := z_we b n u.1 - u.1) b1 _ (z_ts_take hu)
    have h' := congrArg Int32.toNatClampNeg h
    rw [nI_clamp (by omega), nI_clamp (by omega)] at h'
    have s1 := z_nm_same (b := b) (p := t.1) _ (z_ts_take ht)
    have s2 := z_nm_same (b := b) (p := u.1) _ (z_ts_take hu)
    rw [h'] at s1
    exact z_alk_tr (z_alk_sym s1) s2
  · intro hs
    by_cases h1 : i < j
    · exact z_name_lt h1 ht hk hu hk2 hs
    · by_cases h2 : j < i
      · exact (z_name_lt h2 hu hk2 ht hk (z_alk_sym hs)).symm
      · have : i = j := by omega
        subst this
        rw [ht] at hu
        rw [Option.some.inj hu]
