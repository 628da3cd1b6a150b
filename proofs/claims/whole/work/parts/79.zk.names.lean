/-! Checking: names looked up by both. -/
/-- which of the first k names is v, the last such -/
def z_wh (a : List (Nat × Int32)) (v : Int32) : Nat → Option Nat
  | 0 => none
  | k + 1 => if z_fn 0 a k = v then some k else z_wh a v k
/-- the reference's cell of the last of k names -/
def z_ko (κ : Nat → Nat) : Nat → Int32
  | 0 => -1
  | k + 1 => nI (κ k)
def z_kf2 (κ : Nat → Nat) (o : Option Nat) : Int32 := match o with
  | none => -1
  | some i => nI (κ i)
theorem z_wh_s {a : List (Nat × Int32)} {v : Int32} {k : Nat} : z_wh a v (k + 1) = if z_fn 0 a k = v then some k else z_wh a v k := rfl
theorem z_wh_lt {a : List (Nat × Int32)} {v : Int32} : ∀ k i, z_wh a v k = some i → i < k ∧ z_fn 0 a i = v := by
  intro k
  induction k with
  | zero => intro i h; cases h
  | succ k ih =>
    intro i h
    rw [z_wh_s] at h
    by_cases e : z_fn 0 a k = v
    · rw [if_pos e] at h
      have h := Option.some.inj h
      subst h
      exact ⟨Nat.lt_succ_self _, e⟩
    · rw [if_neg e] at h
      obtain ⟨h1, h2⟩ := ih i h
      exact ⟨by omega, h2⟩
theorem z_wh_e {a a' : List (Nat × Int32)} {v : Int32} : ∀ k, (∀ i, i < k → z_fn 0 a' i = z_fn 0 a i) → z_wh a' v k = z_wh a v k := by
  intro k
  induction k with
  | zero => intro _; rfl
  | succ k ih =>
    intro h
    rw [z_wh_s, z_wh_s, h k (Nat.lt_succ_self _), ih (fun i hi => h i (by omega))]
/-- the chain of the reference's cells: the names from the last to the first -/
def z_Ch (b : Nat → Nat) (n : Nat) (B : Nat → List (Nat × Int32)) (a : List (Nat × Int32)) (κ : Nat → Nat) (cc N : Nat) : Prop := ∀ i, i < N → κ i < cc ∧ z_fn 0 (B 101) (κ i) = z_ko κ i ∧ z_Nm b n (z_fn 0 (B 98) (κ i)) (z_fn 0 a i) (z_fn 0 (B 99) (κ i))
theorem z_Nm_same {b : Nat → Nat} {n : Nat} {q v w q' v' w' : Int32} (hn : n ≤ 1500) (h : z_Nm b n q v w) (h' : z_Nm b n q' v' w') : ∃ p l e l2 : Nat, q = nI p ∧ w = nI l ∧ q' = nI e ∧ w' = nI l2 ∧ p + l ≤ n ∧ e + l2 ≤ n ∧ ((decide (l = l2) && z_sm2 b p e l) = true ↔ v' = v) := by
  obtain ⟨i, t, h1, h2, h3, h4, h5⟩ := h
  obtain ⟨j, u, u1, u2, u3, u4, u5⟩ := h'
  obtain ⟨a1, -⟩ := z_ts_name h1 (Or.inl h2)
  obtain ⟨b1, -⟩ := z_ts_name u1 (Or.inl u2)
  have e1 : z_ll b n t.1 = z_we b n t.1 - t.1 := if_pos a1
  have e2 : z_ll b n u.1 = z_we b n u.1 - u.1 := if_pos b1
  have w1 := z_we_le (b := b) a1
  have w2 := z_we_le (b := b) b1
  refine ⟨t.1, z_ll b n t.1, u.1, z_ll b n u.1, h3, h4, u3, u4, by omega, by omega, ?_⟩
  have hz := z_name hn u1 (Or.inl u2) h1 (Or.inl h2)
  rw [h5, u5, hz, Bool.and_eq_true, decide_eq_true_iff, z_sm2_iff, e1, e2]
  constructor
  · intro q
    exact ⟨q.1.symm, fun k hk => (q.2 k hk).symm⟩
  · intro q
    exact ⟨q.1.symm, fun k hk => (q.2 k hk).symm⟩
theorem w153 {l : Nat} {R : z_RS} {b : Nat → Nat} {n : Nat} {q v w q' v' w' : Int32} {Q : Option Value → z_RS → Prop} (hT : z_Tr (R.1 44) b n) (h : z_Nm b n q v w) (h' : z_Nm b n q' v' w') (hQ : ∀ x : Int32, ((x = 1 ∧ v' = v) ∨ (x = 0 ∧ ¬ v' = v)) → Q (some (.int x)) R) : z_WR l 153 0 [(0, .ref 148), (1, .int q), (2, .int w), (3, .int q'), (4, .int w')] [] R Q := by
  obtain ⟨p, k, e, k2, rfl, rfl, rfl, rfl, h5, h6, h7⟩ := z_Nm_same hT.1 h h'
  refine ⟨_, R, fun L xs fv f w c A E N V W g _ _ => s153 hT h5 h6, hQ _ ?_⟩
  cases hx : (decide (k = k2) && z_sm2 b p e k) with
  | true => exact Or.inl ⟨rfl, h7.mp hx⟩
  | false => exact Or.inr ⟨rfl, fun q => by rw [h7.mpr q] at hx; cases hx⟩
/-- the reference looks a name up -/
theorem w197 {l : Nat} {R : z_RS} {b : Nat → Nat} {n : Nat} {q v w : Int32} {a : List (Nat × Int32)} {κ : Nat → Nat} {cc N : Nat} {Q : Option Value → z_RS → Prop} (hT : z_Tr (R.1 44) b n) (hq : z_Nm b n q v w) (hc : z_Ch b n R.1 a κ cc N) (hcc : cc ≤ 200000) (hQ : Q (some (.int (z_kf2 κ (z_wh a v N)))) R) : z_WR (l + 1) 197 0 [(0, .ref 148), (1, .int q), (2, .int w), (3, .int (z_ko κ N))] [] R Q := by
  refine t197_0 (B := R.1) (M := R.2.1) (U := R.2.2) ?_
  unfold p197_0
  have loop : ∀ (x3 : Int32) k, k ≤ N → Q (some (.int (z_kf2 κ (z_wh a v k)))) R → z_WR (l + 1) 197 3 [(0, .ref 148), (1, .int q), (2, .int w), (3, .int x3), (4, .int (z_ko κ k))] [] R Q := by
    intro x3 k
    induction k with
    | zero =>
      intro _ hQ
      refine t197_3 (B := R.1) (M := R.2.1) (U := R.2.2) ?_
      unfold p197_3
      rw [if_pos (show z_ko κ 0 < 0 from (by decide : (-1 : Int32) < 0))]
      exact hQ
    | succ k ih =>
      intro hk hQ
      obtain ⟨c1, c2, c3⟩ := hc k (by omega)
      have ck : (nI (κ k)).toNatClampNeg = κ k := nI_clamp (by omega)
      have zi : z_in (nI (κ k)) 200000 = true := z_inI (by omega) (by decide)
      refine t197_3 (B := R.1) (M := R.2.1) (U := R.2.2) ?_
      unfold p197_3
      rw [show z_ko κ (k + 1) = nI (κ k) from rfl, if_neg (nI_pos (by omega))]
      unfold p197_8
      rw [ck]
      refine ⟨zi, zi, w153 hT hq c3 ?_⟩
      intro x hx
      refine ⟨x, rfl, ?_⟩
      unfold p197_28
      rw [z_wh_s] at hQ
      rcases hx with ⟨rfl, e⟩ | ⟨rfl, e⟩
      · rw [if_pos e] at hQ
        rw [if_neg (by decide)]
        exact hQ
      · rw [if_neg e] at hQ
        rw [if_pos rfl]
        unfold p197_31
        rw [ck, c2]
        exact ⟨zi, ih (by omega) hQ⟩
  exact loop _ N (Nat.le_refl _) hQ
theorem z_nIm1 {i : Nat} : nI (i + 1) + Int32.ofInt (-1) = nI i := by
  rw [← z_nI2, Int32.add_assoc, show nI 1 + Int32.ofInt (-1) = 0 by decide, Int32.add_zero]
/-- the class looks a name up: at p85_35 -/
theorem w85 {l : Nat} {S : z_CS} {i N : Nat} {v : Int32} {Q : z_V → z_CS → Prop} (hN : N ≤ 128) (hV : S.2.2.2.1 27 10 = nI N) (hi : z_in (nI i) (S.2.2.1 15) = true) (hv : z_fn 0 (S.1 15) i = v) (ci : (nI i).toNatClampNeg = i) (hQ : p85_35 l S.1 S.2.1 S.2.2.1 S.2.2.2.1 S.2.2.2.2.1 S.2.2.2.2.2 (nI i) (z_kf2 id (z_wh (S.1 31) v N)) Q) : z_WC (l + 1) 85 0 [(0, .ref 134), (1, .int (nI i))] [] S Q := by
  refine t85_0 (A := S.1) (E := S.2.1) (N := S.2.2.1) (V := S.2.2.2.1) (W := S.2.2.2.2.1) (c := S.2.2.2.2.2) ?_
  unfold p85_0
  have loop : ∀ k, k ≤ N → p85_35 l S.1 S.2.1 S.2.2.1 S.2.2.2.1 S.2.2.2.2.1 S.2.2.2.2.2 (nI i) (z_kf2 id (z_wh (S.1 31) v k)) Q → z_WC (l + 1) 85 7 [(0, .ref 134), (1, .int (nI i)), (2, .int (z_ko id k))] [] S Q := by
    intro k
    induction k with
    | zero =>
      intro _ hQ
      refine t85_7 (A := S.1) (E := S.2.1) (N := S.2.2.1) (V := S.2.2.2.1) (W := S.2.2.2.2.1) (c := S.2.2.2.2.2) ?_
      unfold p85_7
      rw [if_pos (show z_ko id 0 < 0 by decide)]
      exact hQ
    | succ k ih =>
      intro hk hQ
      have ck : (nI k).toNatClampNeg = k := nI_clamp (by omega)
      refine t85_7 (A := S.1) (E := S.2.1) (N := S.2.2.1) (V := S.2.2.2.1) (W := S.2.2.2.2.1) (c := S.2.2.2.2.2) ?_
      unfold p85_7
      rw [show z_ko id (k + 1) = nI k from rfl, if_neg (nI_pos (by omega))]
      unfold p85_11
      rw [ck, ci, hv]
      refine ⟨z_inI (by omega) (by decide), hi, ?_⟩
      rw [z_wh_s] at hQ
      by_cases e : z_fn 0 (S.1 31) k = v
      · rw [if_pos e] at hQ ⊢
        exact hQ
      · rw [if_neg e] at hQ ⊢
        unfold p85_29
        have e2 : nI k + Int32.ofInt (-1) = z_ko id k := by
          cases k with
          | zero => decide
          | succ k => exact z_nIm1
        rw [e2]
        exact ih (by omega) hQ
  have e0 : S.2.2.2.1 27 10 - 1 = z_ko id N := by
    rw [hV]
    cases N with
    | zero => decide
    | succ N => exact nI_pred N
  rw [e0]
  exact loop N (Nat.le_refl _) hQ
