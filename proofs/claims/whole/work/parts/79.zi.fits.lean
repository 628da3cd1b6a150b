/-! Whether one type may stand for another: what both mean by it, and what fits comes to, of both. -/
def z_ft (T : Nat → Nat × Nat × Int32) : Nat → Nat → Nat → Prop
  | 0, _, _ => False
  | k + 1, a, b => a = b ∨ (3 ≤ a ∧ 3 ≤ b ∧ ((T a).2.2 &&& ((T b).2.2 ^^^ (-1))) = 0 ∧ z_ft T k (T b).1 (T a).1 ∧ z_ft T k (T a).2.1 (T b).2.1)
def z_ftt (T : Nat → Nat × Nat × Int32) (a b : Nat) : Prop := z_ft T (a + b + 1) a b
section ZFT
variable {T T' : Nat → Nat × Nat × Int32} {m m' : Nat}
theorem z_ft_s {k a b : Nat} : z_ft T (k + 1) a b = (a = b ∨ (3 ≤ a ∧ 3 ≤ b ∧ ((T a).2.2 &&& ((T b).2.2 ^^^ (-1))) = 0 ∧ z_ft T k (T b).1 (T a).1 ∧ z_ft T k (T a).2.1 (T b).2.1)) := rfl
theorem z_ft_k (h : z_Tw T m) : ∀ n a b, a + b ≤ n → a < m → b < m → ∀ k k', a + b < k → a + b < k' → (z_ft T k a b ↔ z_ft T k' a b) := by
  intro n
  induction n using Nat.strongRecOn with
  | ind n ih =>
    intro a b hn ha hb k k' hk hk'
    cases k with
    | zero => omega
    | succ k =>
      cases k' with
      | zero => omega
      | succ k' =>
        rw [z_ft_s, z_ft_s]
        by_cases a3 : 3 ≤ a
        · by_cases b3 : 3 ≤ b
          · obtain ⟨a1, a2, -⟩ := h.2 a a3 ha
            obtain ⟨b1, b2, -⟩ := h.2 b b3 hb
            rw [ih (n - 1) (by omega) (T b).1 (T a).1 (by omega) (by omega) (by omega) k k' (by omega) (by omega), ih (n - 1) (by omega) (T a).2.1 (T b).2.1 (by omega) (by omega) (by omega) k k' (by omega) (by omega)]
          · exact or_congr Iff.rfl ⟨fun q => absurd q.2.1 b3, fun q => absurd q.2.1 b3⟩
        · exact or_congr Iff.rfl ⟨fun q => absurd q.1 a3, fun q => absurd q.1 a3⟩
theorem z_ftt.rf {a : Nat} : z_ftt T a a := Or.inl rfl
theorem z_ftt_s (h : z_Tw T m) {a b : Nat} (a3 : 3 ≤ a) (b3 : 3 ≤ b) (ha : a < m) (hb : b < m) (ne : a ≠ b) : z_ftt T a b ↔ ((T a).2.2 &&& ((T b).2.2 ^^^ (-1))) = 0 ∧ z_ftt T (T b).1 (T a).1 ∧ z_ftt T (T a).2.1 (T b).2.1 := by
  obtain ⟨a1, a2, -⟩ := h.2 a a3 ha
  obtain ⟨b1, b2, -⟩ := h.2 b b3 hb
  have e1 := z_ft_k h _ (T b).1 (T a).1 (Nat.le_refl _) (by omega) (by omega) (a + b) ((T b).1 + (T a).1 + 1) (by omega) (by omega)
  have e2 := z_ft_k h _ (T a).2.1 (T b).2.1 (Nat.le_refl _) (by omega) (by omega) (a + b) ((T a).2.1 + (T b).2.1 + 1) (by omega) (by omega)
  have e3 : z_ftt T a b ↔ (a = b ∨ (3 ≤ a ∧ 3 ≤ b ∧ ((T a).2.2 &&& ((T b).2.2 ^^^ (-1))) = 0 ∧ z_ft T (a + b) (T b).1 (T a).1 ∧ z_ft T (a + b) (T a).2.1 (T b).2.1)) := Iff.rfl
  rw [e3, e1, e2]
  exact ⟨fun q => q.elim (fun e => absurd e ne) (fun q => ⟨q.2.2.1, q.2.2.2.1, q.2.2.2.2⟩), fun q => Or.inr ⟨a3, b3, q.1, q.2.1, q.2.2⟩⟩
theorem z_ftt_lo {a b : Nat} (h : a < 3 ∨ b < 3) (ne : a ≠ b) : ¬ z_ftt T a b := by
  intro q
  rcases (q : a = b ∨ _) with q | q
  · exact ne q
  · have := q.1
    have := q.2.1
    omega
/-- both tables say it alike -/
theorem z_ftt_x (h : z_Tw T m) (h' : z_Tw T' m') : ∀ n a b, a + b ≤ n → a < m → b < m → ∀ a' b', a' < m' → b' < m' → z_dt T a = z_dt T' a' → z_dt T b = z_dt T' b' → (z_ftt T a b ↔ z_ftt T' a' b') := by
  intro n
  induction n using Nat.strongRecOn with
  | ind n ih =>
    intro a b hn ha hb a' b' ha' hb' ea eb
    by_cases ne : a = b
    · subst ne
      have e := z_dt_inj h' a' ha' b' hb' (ea.symm.trans eb)
      subst e
      exact ⟨fun _ => z_ftt.rf, fun _ => z_ftt.rf⟩
    · have ne' : a' ≠ b' := by
        intro e
        subst e
        exact ne (z_dt_inj h a ha b hb (ea.trans eb.symm))
      rcases z_dt_c h h' ha ha' ea with ⟨a3, e1⟩ | ⟨a3, a3', r1, x1, y1⟩
      · exact ⟨fun q => absurd q (z_ftt_lo (Or.inl a3) ne), fun q => absurd q (z_ftt_lo (Or.inl (by omega)) ne')⟩
      · rcases z_dt_c h h' hb hb' eb with ⟨b3, e1⟩ | ⟨b3, b3', r2, x2, y2⟩
        · exact ⟨fun q => absurd q (z_ftt_lo (Or.inr b3) ne), fun q => absurd q (z_ftt_lo (Or.inr (by omega)) ne')⟩
        · obtain ⟨a1, a2, -⟩ := h.2 a a3 ha
          obtain ⟨b1, b2, -⟩ := h.2 b b3 hb
          obtain ⟨c1, c2, -⟩ := h'.2 a' a3' ha'
          obtain ⟨d1, d2, -⟩ := h'.2 b' b3' hb'
          rw [z_ftt_s h a3 b3 ha hb ne, z_ftt_s h' a3' b3' ha' hb' ne', r1, r2, ih (n - 1) (by omega) _ _ (by omega) (by omega) (by omega) _ _ (by omega) (by omega) x2 x1, ih (n - 1) (by omega) _ _ (by omega) (by omega) (by omega) _ _ (by omega) (by omega) y1 y2]
end ZFT
theorem w23 {l : Nat} {S : z_CS} {a : Nat} (ha : a < 2 ^ 31) {Q : z_V → z_CS → Prop} (hQ : ∀ v : Int32, ((v = 1 ∧ 3 ≤ a) ∨ (v = 0 ∧ a < 3)) → Q (.inl (some (.int v))) S) : z_WC (l + 1) 23 0 [(0, .ref 115), (1, .int (nI a))] [] S Q := by
  refine t23_0 (A := S.1) (E := S.2.1) (N := S.2.2.1) (V := S.2.2.2.1) (W := S.2.2.2.2.1) (c := S.2.2.2.2.2) ?_
  unfold p23_0
  by_cases h : a < 3
  · rw [if_pos (show nI a < 3 from nI_lt h (by decide))]
    exact ⟨Or.inl rfl, hQ 0 (Or.inr ⟨rfl, h⟩)⟩
  · rw [if_neg (show ¬ nI a < 3 from nI_nlt (b := 3) (by omega) ha)]
    exact ⟨Or.inr rfl, hQ 1 (Or.inl ⟨rfl, by omega⟩)⟩
/-- the class's fits -/
theorem w94 {S : z_CS} {T : Nat → Nat × Nat × Int32} {m : Nat} (h : z_TyC S.1 S.2.2.1 S.2.2.2.1 T m) (hr : z_Rk S.2.2.1 S.2.2.2.2.2) : ∀ k a b d, d + k = 51 → a < m → b < m → z_ad T a ≤ k → z_ad T b ≤ k → ∀ Q : z_V → z_CS → Prop, (∀ v : Int32, ((v = 1 ∧ z_ftt T a b) ∨ (v = 0 ∧ ¬ z_ftt T a b)) → Q (.inl (some (.int v))) S) → z_WC (k + 2) 94 0 [(0, .ref 115), (1, .int (nI a)), (2, .int (nI b)), (3, .int (nI d))] [] S Q := by
  intro k
  induction k with
  | zero =>
    intro a b d hd ha hb da db Q hQ
    obtain ⟨hT, ⟨hm, hv⟩, hV, ⟨n9, n10, n11, -⟩, -, hA⟩ := id h
    have lo : ∀ t, t < m → z_ad T t ≤ 0 → t < 3 := by
      intro t ht hq
      by_cases t3 : t < 3
      · exact t3
      · rw [z_ad_s hT (by omega) ht] at hq
        omega
    have a3 := lo a ha da
    have b3 := lo b hb db
    refine t94_0 (A := S.1) (E := S.2.1) (N := S.2.2.1) (V := S.2.2.2.1) (W := S.2.2.2.2.1) (c := S.2.2.2.2.2) ?_
    unfold p94_0
    refine t94_9 (A := S.1) (E := S.2.1) (N := S.2.2.1) (V := S.2.2.2.1) (W := S.2.2.2.2.1) (c := S.2.2.2.2.2) ?_
    unfold p94_9
    have h3 := hT.1
    rw [if_neg (show ¬ S.2.2.2.1 8 4 ≤ 0 by rw [hV]; exact nI_ge (a := 0) (b := m) (by omega) (by omega))]
    unfold p94_18
    by_cases e : a = b
    · subst e
      rw [if_pos rfl]
      unfold p94_121
      rw [if_pos rfl]
      exact ⟨Or.inr rfl, hQ 1 (Or.inl ⟨rfl, z_ftt.rf⟩)⟩
    · rw [if_neg (fun q => e ((nI_eq (by omega) (by omega)).mp q))]
      refine ⟨hr.rm.1, w23 (by omega) ?_⟩
      intro v hv
      refine ⟨v, rfl, ?_⟩
      unfold p94_31
      rcases hv with ⟨-, q⟩ | ⟨rfl, -⟩
      · omega
      · rw [if_pos rfl]
        exact hQ 0 (Or.inr ⟨rfl, z_ftt_lo (Or.inl a3) e⟩)
  | succ k ih =>
    intro a b d hd ha hb da db Q hQ
    obtain ⟨hT, ⟨hm, hv⟩, hV, ⟨n9, n10, n11, -⟩, -, hA⟩ := id h
    have nb := hr.1
    have N9 := (nb 9 rfl).2
    have N10 := (nb 10 rfl).2
    have N11 := (nb 11 rfl).2
    have N9 : S.2.2.1 9 ≤ 4096 := N9
    have N10 : S.2.2.1 10 ≤ 4096 := N10
    have N11 : S.2.2.1 11 ≤ 4096 := N11
    have i9 : ∀ t, t < m → z_in (nI t) (S.2.2.1 9) = true := fun t ht => z_inI (by omega) (by omega)
    have i10 : ∀ t, t < m → z_in (nI t) (S.2.2.1 10) = true := fun t ht => z_inI (by omega) (by omega)
    have i11 : ∀ t, t < m → z_in (nI t) (S.2.2.1 11) = true := fun t ht => z_inI (by omega) (by omega)
    have loop : ∀ n x y i, x ≤ n → i + x < m → y < m → z_ad T x ≤ k + 1 → z_ad T y ≤ k + 1 → (∀ v : Int32, ((v = 1 ∧ z_ftt T x y) ∨ (v = 0 ∧ ¬ z_ftt T x y)) → Q (.inl (some (.int v))) S) → z_WC (k + 1 + 2) 94 9 [(0, .ref 115), (1, .int (nI a)), (2, .int (nI b)), (3, .int (nI d)), (4, .int (nI x)), (5, .int (nI y)), (6, .int (nI i))] [] S Q := by
      intro n
      induction n using Nat.strongRecOn with
      | ind n ihn =>
        intro x y i hn hi hy dx dy hQ
        refine t94_9 (A := S.1) (E := S.2.1) (N := S.2.2.1) (V := S.2.2.2.1) (W := S.2.2.2.2.1) (c := S.2.2.2.2.2) ?_
        unfold p94_9
        rw [if_neg (by rw [hV]; exact nI_ge (a := i) (b := m) (by omega) (by omega))]
        unfold p94_18
        by_cases e : x = y
        · subst e
          rw [if_pos rfl]
          unfold p94_121
          rw [if_pos rfl]
          exact ⟨Or.inr rfl, hQ 1 (Or.inl ⟨rfl, z_ftt.rf⟩)⟩
        · rw [if_neg (fun q => e ((nI_eq (by omega) (by omega)).mp q))]
          refine ⟨hr.rm.1, w23 (by omega) ?_⟩
          intro v hv
          refine ⟨v, rfl, ?_⟩
          unfold p94_31
          rcases hv with ⟨rfl, x3⟩ | ⟨rfl, q⟩
          · rw [if_neg (by decide)]
            refine ⟨hr.rm.1, w23 (by omega) ?_⟩
            intro v hv
            refine ⟨v, rfl, ?_⟩
            unfold p94_40
            rcases hv with ⟨rfl, y3⟩ | ⟨rfl, q⟩
            · rw [if_neg (by decide)]
              obtain ⟨x9, x10, x11⟩ := hA x x3 (by omega)
              obtain ⟨y9, y10, y11⟩ := hA y y3 hy
              obtain ⟨a1, a2, -⟩ := hT.2 x x3 (by omega)
              obtain ⟨b1, b2, -⟩ := hT.2 y y3 hy
              have cx : (nI x).toNatClampNeg = x := nI_clamp (by omega)
              have cy : (nI y).toNatClampNeg = y := nI_clamp (by omega)
              have dx' := dx
              have dy' := dy
              rw [z_ad_s hT x3 (by omega)] at dx'
              rw [z_ad_s hT y3 hy] at dy'
              unfold p94_43
              refine ⟨i11 x (by omega), i11 y hy, ?_⟩
              rw [cx, cy, x11, y11]
              by_cases hrow : ((T x).2.2 &&& ((T y).2.2 ^^^ (-1))) = 0
              · rw [if_pos hrow]
                unfold p94_65
                rw [if_neg (show ¬ (50 : Int32) < nI d from nI_nlt (a := 50) (b := d) (by omega) (by decide))]
                refine ⟨i9 y hy, i9 x (by omega), hr.rm.1, ?_⟩
                rw [cx, cy, x9, y9, nI_1]
                refine ih (T y).1 (T x).1 (d + 1) (by omega) (by omega) (by omega) (by omega) (by omega) _ ?_
                intro v hv
                refine ⟨v, rfl, ?_⟩
                unfold p94_92
                rcases hv with ⟨rfl, f1⟩ | ⟨rfl, f1⟩
                · rw [if_neg (by decide)]
                  refine ⟨i10 x (by omega), i10 y hy, ?_⟩
                  rw [cx, cy, x10, y10, nI_1]
                  refine ihn (n - 1) (by omega) (T x).2.1 (T y).2.1 (i + 1) (by omega) (by omega) (by omega) (by omega) (by omega) ?_
                  intro v hv
                  refine hQ v ?_
                  rw [z_ftt_s hT x3 y3 (by omega) hy e]
                  rcases hv with ⟨rfl, f2⟩ | ⟨rfl, f2⟩
                  · exact Or.inl ⟨rfl, hrow, f1, f2⟩
                  · exact Or.inr ⟨rfl, fun q => f2 q.2.2⟩
                · rw [if_pos rfl]
                  refine hQ 0 (Or.inr ⟨rfl, ?_⟩)
                  rw [z_ftt_s hT x3 y3 (by omega) hy e]
                  exact fun q => f1 q.2.1
              · rw [if_neg hrow]
                refine hQ 0 (Or.inr ⟨rfl, ?_⟩)
                rw [z_ftt_s hT x3 y3 (by omega) hy e]
                exact fun q => hrow q.1
            · rw [if_pos rfl]
              exact hQ 0 (Or.inr ⟨rfl, z_ftt_lo (Or.inr q) e⟩)
          · rw [if_pos rfl]
            exact hQ 0 (Or.inr ⟨rfl, z_ftt_lo (Or.inl q) e⟩)
    refine t94_0 (A := S.1) (E := S.2.1) (N := S.2.2.1) (V := S.2.2.2.1) (W := S.2.2.2.2.1) (c := S.2.2.2.2.2) ?_
    exact loop a a b 0 (Nat.le_refl _) (by omega) hb da db hQ
