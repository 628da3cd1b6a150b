/-! Types as tables: of a function its argument, its result and its row; what a type is when it is written out. -/
def z_dn (T : Nat → Nat × Nat × Int32) : Nat → Nat → List Nat
  | 0, _ => []
  | k + 1, t => if t < 3 then [t] else (3 + (T t).2.2.toUInt32.toNat) :: (z_dn T k (T t).1 ++ z_dn T k (T t).2.1)
def z_dt (T : Nat → Nat × Nat × Int32) (t : Nat) : List Nat := z_dn T (t + 1) t
/-- a table of m types: what a function is made of stands ahead of it, and none stands twice -/
def z_Tw (T : Nat → Nat × Nat × Int32) (m : Nat) : Prop := 3 ≤ m ∧ ∀ i, 3 ≤ i → i < m → (T i).1 < i ∧ (T i).2.1 < i ∧ ∀ j, 3 ≤ j → j < i → T j ≠ T i
section ZTB
variable {T T' : Nat → Nat × Nat × Int32} {m m' : Nat}
theorem z_dn_s {k t : Nat} : z_dn T (k + 1) t = if t < 3 then [t] else (3 + (T t).2.2.toUInt32.toNat) :: (z_dn T k (T t).1 ++ z_dn T k (T t).2.1) := rfl
theorem z_dn_k (h : z_Tw T m) : ∀ t, t < m → ∀ k k', t < k → t < k' → z_dn T k t = z_dn T k' t := by
  intro t
  induction t using Nat.strongRecOn with
  | ind t ih =>
    intro ht k k' hk hk'
    cases k with
    | zero => omega
    | succ k =>
      cases k' with
      | zero => omega
      | succ k' =>
        rw [z_dn_s, z_dn_s]
        by_cases h3 : t < 3
        · rw [if_pos h3, if_pos h3]
        · rw [if_neg h3, if_neg h3]
          obtain ⟨a1, a2, -⟩ := h.2 t (by omega) ht
          rw [ih _ a1 (by omega) k k' (by omega) (by omega), ih _ a2 (by omega) k k' (by omega) (by omega)]
theorem z_dt_lo {t : Nat} (h : t < 3) : z_dt T t = [t] := by
  unfold z_dt
  rw [z_dn_s, if_pos h]
theorem z_dt_s (h : z_Tw T m) {t : Nat} (h3 : 3 ≤ t) (ht : t < m) : z_dt T t = (3 + (T t).2.2.toUInt32.toNat) :: (z_dt T (T t).1 ++ z_dt T (T t).2.1) := by
  obtain ⟨a1, a2, -⟩ := h.2 t h3 ht
  unfold z_dt
  rw [z_dn_s, if_neg (by omega), z_dn_k h _ (by omega) t ((T t).1 + 1) a1 (by omega), z_dn_k h _ (by omega) t ((T t).2.1 + 1) a2 (by omega)]
theorem z_dn_e (h : z_Tw T m) (he : ∀ i, 3 ≤ i → i < m → T' i = T i) : ∀ k t, t < m → z_dn T' k t = z_dn T k t := by
  intro k
  induction k with
  | zero => intro t _; rfl
  | succ k ih =>
    intro t ht
    rw [z_dn_s, z_dn_s]
    by_cases h3 : t < 3
    · rw [if_pos h3, if_pos h3]
    · obtain ⟨a1, a2, -⟩ := h.2 t (by omega) ht
      rw [if_neg h3, if_neg h3, he t (by omega) ht, ih _ (by omega), ih _ (by omega)]
theorem z_dt_e (h : z_Tw T m) (he : ∀ i, 3 ≤ i → i < m → T' i = T i) {t : Nat} (ht : t < m) : z_dt T' t = z_dt T t := z_dn_e h he _ t ht
/-- where one type's nodes begin another's, they are the same -/
theorem z_dt_x (h : z_Tw T m) (h' : z_Tw T' m') : ∀ x, x < m → ∀ y, y < m' → ∀ r r', z_dt T x ++ r = z_dt T' y ++ r' → z_dt T x = z_dt T' y ∧ r = r' := by
  intro x
  induction x using Nat.strongRecOn with
  | ind x ih =>
    intro hx y hy r r' e
    by_cases x3 : x < 3
    · by_cases y3 : y < 3
      · rw [z_dt_lo x3, z_dt_lo y3] at e ⊢
        have e1 : x = y := (List.cons.inj e).1
        have e2 : r = r' := (List.cons.inj e).2
        exact ⟨by rw [e1], e2⟩
      · rw [z_dt_lo x3, z_dt_s h' (by omega) hy] at e
        have e1 := (List.cons.inj e).1
        omega
    · by_cases y3 : y < 3
      · rw [z_dt_lo y3, z_dt_s h (by omega) hx] at e
        have e1 := (List.cons.inj e).1
        omega
      · obtain ⟨a1, a2, -⟩ := h.2 x (by omega) hx
        obtain ⟨b1, b2, -⟩ := h'.2 y (by omega) hy
        rw [z_dt_s h (by omega) hx, z_dt_s h' (by omega) hy] at e ⊢
        obtain ⟨e1, e2⟩ := List.cons.inj e
        have e3 : z_dt T (T x).1 ++ (z_dt T (T x).2.1 ++ r) = z_dt T' (T' y).1 ++ (z_dt T' (T' y).2.1 ++ r') := by
          rw [← List.append_assoc, ← List.append_assoc]
          exact e2
        obtain ⟨f1, f2⟩ := ih _ a1 (by omega) _ (by omega) _ _ e3
        obtain ⟨g1, g2⟩ := ih _ a2 (by omega) _ (by omega) _ _ f2
        exact ⟨by rw [e1, f1, g1], g2⟩
theorem z_u32i {a b : Int32} (h : a.toUInt32.toNat = b.toUInt32.toNat) : a = b := by
  have h1 : a.toUInt32 = b.toUInt32 := UInt32.toNat_inj.mp h
  have h2 : Int32.ofUInt32 a.toUInt32 = Int32.ofUInt32 b.toUInt32 := by rw [h1]
  exact h2
/-- two functions of one making: row, argument, result -/
theorem z_dt_c (h : z_Tw T m) (h' : z_Tw T' m') {x y : Nat} (hx : x < m) (hy : y < m') (e : z_dt T x = z_dt T' y) : (x < 3 ∧ y = x) ∨ (3 ≤ x ∧ 3 ≤ y ∧ (T x).2.2 = (T' y).2.2 ∧ z_dt T (T x).1 = z_dt T' (T' y).1 ∧ z_dt T (T x).2.1 = z_dt T' (T' y).2.1) := by
  by_cases x3 : x < 3
  · by_cases y3 : y < 3
    · rw [z_dt_lo x3, z_dt_lo y3] at e
      exact Or.inl ⟨x3, (List.cons.inj e).1.symm⟩
    · rw [z_dt_lo x3, z_dt_s h' (by omega) hy] at e
      have e1 := (List.cons.inj e).1
      omega
  · by_cases y3 : y < 3
    · rw [z_dt_lo y3, z_dt_s h (by omega) hx] at e
      have e1 := (List.cons.inj e).1
      omega
    · obtain ⟨a1, a2, -⟩ := h.2 x (by omega) hx
      obtain ⟨b1, b2, -⟩ := h'.2 y (by omega) hy
      rw [z_dt_s h (by omega) hx, z_dt_s h' (by omega) hy] at e
      obtain ⟨e1, e2⟩ := List.cons.inj e
      obtain ⟨f1, f2⟩ := z_dt_x h h' _ (by omega) _ (by omega) _ _ e2
      exact Or.inr ⟨by omega, by omega, z_u32i (by omega), f1, f2⟩
theorem z_dt_inj (h : z_Tw T m) : ∀ x, x < m → ∀ y, y < m → z_dt T x = z_dt T y → x = y := by
  intro x
  induction x using Nat.strongRecOn with
  | ind x ih =>
    intro hx y hy e
    rcases z_dt_c h h hx hy e with ⟨-, e1⟩ | ⟨x3, y3, e1, e2, e3⟩
    · exact e1.symm
    · obtain ⟨a1, a2, a3⟩ := h.2 x x3 hx
      obtain ⟨b1, b2, b3⟩ := h.2 y y3 hy
      have f1 := ih _ a1 (by omega) _ (by omega) e2
      have f2 := ih _ a2 (by omega) _ (by omega) e3
      have e4 : T x = T y := Prod.ext f1 (Prod.ext f2 e1)
      rcases Nat.lt_trichotomy x y with q | q | q
      · exact absurd e4 (b3 x x3 q)
      · exact q
      · exact absurd e4.symm (a3 y y3 q)
theorem z_Tw_0 (T : Nat → Nat × Nat × Int32) : z_Tw T 3 := ⟨Nat.le_refl _, fun i a b => by omega⟩
theorem z_Tw_add (h : z_Tw T m) {x y : Nat} {e : Int32} (hx : x < m) (hy : y < m) (hn : ∀ j, 3 ≤ j → j < m → T j ≠ (x, y, e)) : z_Tw (fun i => if i = m then (x, y, e) else T i) (m + 1) := by
  refine ⟨by have := h.1; omega, fun i h3 hi => ?_⟩
  by_cases him : i = m
  · subst him
    have e1 : (fun i' => if i' = i then (x, y, e) else T i') i = (x, y, e) := if_pos rfl
    refine ⟨by rw [e1]; exact hx, by rw [e1]; exact hy, fun j j3 jm => ?_⟩
    rw [e1]
    have e2 : (fun i' => if i' = i then (x, y, e) else T i') j = T j := if_neg (by omega)
    rw [e2]
    exact hn j j3 jm
  · have e1 : (fun i' => if i' = m then (x, y, e) else T i') i = T i := if_neg him
    obtain ⟨a1, a2, a3⟩ := h.2 i h3 (by omega)
    refine ⟨by rw [e1]; exact a1, by rw [e1]; exact a2, fun j j3 jm => ?_⟩
    have e2 : (fun i' => if i' = m then (x, y, e) else T i') j = T j := if_neg (by omega)
    rw [e1, e2]
    exact a3 j j3 jm
end ZTB
/-- how often arguments stand in one another -/
def z_an (T : Nat → Nat × Nat × Int32) : Nat → Nat → Nat
  | 0, _ => 0
  | k + 1, t => if t < 3 then 0 else max (z_an T k (T t).1 + 1) (z_an T k (T t).2.1)
def z_ad (T : Nat → Nat × Nat × Int32) (t : Nat) : Nat := z_an T (t + 1) t
section ZTA
variable {T T' : Nat → Nat × Nat × Int32} {m : Nat}
theorem z_an_s {k t : Nat} : z_an T (k + 1) t = if t < 3 then 0 else max (z_an T k (T t).1 + 1) (z_an T k (T t).2.1) := rfl
theorem z_an_k (h : z_Tw T m) : ∀ t, t < m → ∀ k k', t < k → t < k' → z_an T k t = z_an T k' t := by
  intro t
  induction t using Nat.strongRecOn with
  | ind t ih =>
    intro ht k k' hk hk'
    cases k with
    | zero => omega
    | succ k =>
      cases k' with
      | zero => omega
      | succ k' =>
        rw [z_an_s, z_an_s]
        by_cases h3 : t < 3
        · rw [if_pos h3, if_pos h3]
        · rw [if_neg h3, if_neg h3]
          obtain ⟨a1, a2, -⟩ := h.2 t (by omega) ht
          rw [ih _ a1 (by omega) k k' (by omega) (by omega), ih _ a2 (by omega) k k' (by omega) (by omega)]
theorem z_ad_lo {t : Nat} (h : t < 3) : z_ad T t = 0 := by
  unfold z_ad
  rw [z_an_s, if_pos h]
theorem z_ad_s (h : z_Tw T m) {t : Nat} (h3 : 3 ≤ t) (ht : t < m) : z_ad T t = max (z_ad T (T t).1 + 1) (z_ad T (T t).2.1) := by
  obtain ⟨a1, a2, -⟩ := h.2 t h3 ht
  unfold z_ad
  rw [z_an_s, if_neg (by omega), z_an_k h _ (by omega) t ((T t).1 + 1) a1 (by omega), z_an_k h _ (by omega) t ((T t).2.1 + 1) a2 (by omega)]
theorem z_an_e (h : z_Tw T m) (he : ∀ i, 3 ≤ i → i < m → T' i = T i) : ∀ k t, t < m → z_an T' k t = z_an T k t := by
  intro k
  induction k with
  | zero => intro t _; rfl
  | succ k ih =>
    intro t ht
    rw [z_an_s, z_an_s]
    by_cases h3 : t < 3
    · rw [if_pos h3, if_pos h3]
    · obtain ⟨a1, a2, -⟩ := h.2 t (by omega) ht
      rw [if_neg h3, if_neg h3, he t (by omega) ht, ih _ (by omega), ih _ (by omega)]
theorem z_ad_e (h : z_Tw T m) (he : ∀ i, 3 ≤ i → i < m → T' i = T i) {t : Nat} (ht : t < m) : z_ad T' t = z_ad T t := z_an_e h he _ t ht
/-- no argument holds more than fifty, and none is long -/
def z_Tv (T : Nat → Nat × Nat × Int32) (m : Nat) : Prop := ∀ i, 3 ≤ i → i < m → z_ad T (T i).1 ≤ 50 ∧ (z_dt T (T i).1).length ≤ 3100
theorem z_Tv.all (h : z_Tw T m) (hv : z_Tv T m) : ∀ t, t < m → z_ad T t ≤ 51 := by
  intro t
  induction t using Nat.strongRecOn with
  | ind t ih =>
    intro ht
    by_cases h3 : t < 3
    · rw [z_ad_lo h3]
      omega
    · obtain ⟨a1, a2, -⟩ := h.2 t (by omega) ht
      rw [z_ad_s h (by omega) ht]
      have b1 := (hv t (by omega) ht).1
      have b2 := ih _ a2 (by omega)
      omega
theorem z_Tv.len (h : z_Tw T m) (hv : z_Tv T m) : ∀ t, t < m → (z_dt T t).length ≤ 3101 * (t + 1) := by
  intro t
  induction t using Nat.strongRecOn with
  | ind t ih =>
    intro ht
    by_cases h3 : t < 3
    · rw [z_dt_lo h3]
      show 1 ≤ _
      omega
    · obtain ⟨a1, a2, -⟩ := h.2 t (by omega) ht
      rw [z_dt_s h (by omega) ht, List.length_cons, List.length_append]
      have b1 := (hv t (by omega) ht).2
      have b2 := ih _ a2 (by omega)
      omega
end ZTA
/-- both tables: of the class, of the reference -/
abbrev z_TT : Type := ((Nat → Nat × Nat × Int32) × Nat) × ((Nat → Nat × Nat × Int32) × Nat)
/-- more types may have come -/
def z_Te (τ τ' : z_TT) : Prop := (τ.1.2 ≤ τ'.1.2 ∧ ∀ i, 3 ≤ i → i < τ.1.2 → τ'.1.1 i = τ.1.1 i) ∧ (τ.2.2 ≤ τ'.2.2 ∧ ∀ i, 3 ≤ i → i < τ.2.2 → τ'.2.1 i = τ.2.1 i)
/-- one written type, of both -/
def z_Tqd (D : Nat) (τ : z_TT) (x y : Int32) : Prop := ∃ i i', x = nI i ∧ y = nI i' ∧ i < τ.1.2 ∧ i' < τ.2.2 ∧ z_dt τ.1.1 i = z_dt τ.2.1 i' ∧ z_ad τ.1.1 i ≤ D
/-- one that is not longer than L -/
def z_Tqe (D L : Nat) (τ : z_TT) (x y : Int32) : Prop := ∃ i i', x = nI i ∧ y = nI i' ∧ i < τ.1.2 ∧ i' < τ.2.2 ∧ z_dt τ.1.1 i = z_dt τ.2.1 i' ∧ z_ad τ.1.1 i ≤ D ∧ (z_dt τ.1.1 i).length ≤ L
def z_Tq (τ : z_TT) (x y : Int32) : Prop := z_Tqe 50 3100 τ x y
theorem z_Te.rf {τ : z_TT} : z_Te τ τ := ⟨⟨Nat.le_refl _, fun _ _ _ => rfl⟩, ⟨Nat.le_refl _, fun _ _ _ => rfl⟩⟩
theorem z_Te.tr {τ τ' τ'' : z_TT} (h : z_Te τ τ') (h' : z_Te τ' τ'') : z_Te τ τ'' :=
  ⟨⟨Nat.le_trans h.1.1 h'.1.1, fun i a b => (h'.1.2 i a (Nat.lt_of_lt_of_le b h.1.1)).trans (h.1.2 i a b)⟩, ⟨Nat.le_trans h.2.1 h'.2.1, fun i a b => (h'.2.2 i a (Nat.lt_of_lt_of_le b h.2.1)).trans (h.2.2 i a b)⟩⟩
theorem z_Tqd.x {D : Nat} {τ τ' : z_TT} {x y : Int32} (hc : z_Tw τ.1.1 τ.1.2) (hr : z_Tw τ.2.1 τ.2.2) (h : z_Te τ τ') (q : z_Tqd D τ x y) : z_Tqd D τ' x y := by
  obtain ⟨i, i', h1, h2, h3, h4, h5, h6⟩ := q
  refine ⟨i, i', h1, h2, Nat.lt_of_lt_of_le h3 h.1.1, Nat.lt_of_lt_of_le h4 h.2.1, ?_, ?_⟩
  · rw [z_dt_e hc h.1.2 h3, z_dt_e hr h.2.2 h4]
    exact h5
  · rw [z_ad_e hc h.1.2 h3]
    exact h6
theorem z_Tqe.d {D L : Nat} {τ : z_TT} {x y : Int32} (q : z_Tqe D L τ x y) : z_Tqd D τ x y := by
  obtain ⟨i, i', h1, h2, h3, h4, h5, h6, -⟩ := q
  exact ⟨i, i', h1, h2, h3, h4, h5, h6⟩
theorem z_Tqe.le {D L L' : Nat} {τ : z_TT} {x y : Int32} (q : z_Tqe D L τ x y) (hL : L ≤ L') : z_Tqe D L' τ x y := by
  obtain ⟨i, i', h1, h2, h3, h4, h5, h6, h7⟩ := q
  exact ⟨i, i', h1, h2, h3, h4, h5, h6, Nat.le_trans h7 hL⟩
theorem z_Tqe.x {D L : Nat} {τ τ' : z_TT} {x y : Int32} (hc : z_Tw τ.1.1 τ.1.2) (hr : z_Tw τ.2.1 τ.2.2) (h : z_Te τ τ') (q : z_Tqe D L τ x y) : z_Tqe D L τ' x y := by
  obtain ⟨i, i', h1, h2, h3, h4, h5, h6, h7⟩ := q
  refine ⟨i, i', h1, h2, Nat.lt_of_lt_of_le h3 h.1.1, Nat.lt_of_lt_of_le h4 h.2.1, ?_, ?_, ?_⟩
  · rw [z_dt_e hc h.1.2 h3, z_dt_e hr h.2.2 h4]
    exact h5
  · rw [z_ad_e hc h.1.2 h3]
    exact h6
  · rw [z_dt_e hc h.1.2 h3]
    exact h7
theorem z_Tq.d {τ : z_TT} {x y : Int32} (q : z_Tq τ x y) : z_Tqd 50 τ x y := z_Tqe.d q
theorem z_Tq.x {τ τ' : z_TT} {x y : Int32} (hc : z_Tw τ.1.1 τ.1.2) (hr : z_Tw τ.2.1 τ.2.2) (h : z_Te τ τ') (q : z_Tq τ x y) : z_Tq τ' x y := z_Tqe.x hc hr h q
/-- the class holds its table -/
def z_TyC (A : Nat → List (Nat × Int32)) (N : Nat → Nat) (V : Nat → Nat → Int32) (T : Nat → Nat × Nat × Int32) (m : Nat) : Prop := z_Tw T m ∧ (m ≤ 1500 ∧ z_Tv T m) ∧ V 8 4 = nI m ∧ (m ≤ N 9 ∧ m ≤ N 10 ∧ m ≤ N 11 ∧ m ≤ N 12) ∧ (∀ i, i < m → z_fn 0 (A 12) i = nI (z_dt T i).length) ∧ ∀ i, 3 ≤ i → i < m → z_fn 0 (A 9) i = nI (T i).1 ∧ z_fn 0 (A 10) i = nI (T i).2.1 ∧ z_fn 0 (A 11) i = (T i).2.2
/-- the reference holds its table -/
def z_TyR (B : Nat → List (Nat × Int32)) (U : Nat → Nat → Int32) (T : Nat → Nat × Nat × Int32) (m : Nat) : Prop := z_Tw T m ∧ m ≤ 1500 ∧ U 41 13 = nI m ∧ ∀ i, 3 ≤ i → i < m → z_fn 0 (B 46) i = nI (T i).1 ∧ z_fn 0 (B 47) i = nI (T i).2.1 ∧ z_fn 0 (B 48) i = (T i).2.2
