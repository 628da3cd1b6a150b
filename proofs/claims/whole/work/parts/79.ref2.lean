/-! Lexing (reference): keyword, look, next. -/
theorem z_cmp_iff {b : Nat → Nat} {p r : Nat} : ∀ m j, z_cmp b p r m j = true ↔ ∀ i, i < m → b (p + (j + i)) = z_kl.getD (r + (j + i)) 0 := by
  intro m
  induction m with
  | zero =>
    intro j
    exact ⟨fun _ i hi => absurd hi (Nat.not_lt_zero i), fun _ => rfl⟩
  | succ m ih =>
    intro j
    have e : z_cmp b p r (m + 1) j = (decide (b (p + j) = z_kl.getD (r + j) 0) && z_cmp b p r m (j + 1)) := rfl
    rw [e, Bool.and_eq_true]
    constructor
    · intro h i hi
      cases i with
      | zero => exact of_decide_eq_true h.1
      | succ i =>
        have := (ih (j + 1)).mp h.2 i (by omega)
        rwa [show j + 1 + i = j + (i + 1) by omega] at this
    · intro h
      refine ⟨decide_eq_true (h 0 (by omega)), (ih (j + 1)).mpr (fun i hi => ?_)⟩
      have := h (i + 1) (by omega)
      rwa [show j + (i + 1) = j + 1 + i by omega] at this
theorem z_mt_iff {b : Nat → Nat} {p l k : Nat} : z_mt k b p l = true ↔ (z_wls.getD k []).length = l ∧ ∀ j, j < (z_wls.getD k []).length → b (p + j) = (z_wls.getD k []).getD j 0 := by
  unfold z_mt
  rw [Bool.and_eq_true, List.all_eq_true]
  constructor
  · intro h
    exact ⟨of_decide_eq_true h.1, fun j hj => of_decide_eq_true (h.2 j (List.mem_range.mpr hj))⟩
  · intro h
    exact ⟨decide_eq_true h.1, fun j hj => decide_eq_true (h.2 j (List.mem_range.mp hj))⟩
theorem z_mt_cmp {b : Nat → Nat} {p l k : Nat} (hk : k < 17) : z_mt (20 + k) b p l = true ↔ (z_wls.getD (20 + k) []).length = l ∧ z_cmp b p (z_kfs.getD k 0) (z_wls.getD (20 + k) []).length 0 = true := by
  obtain ⟨-, -, -, hj⟩ := z_kl_ok k hk
  rw [z_mt_iff, z_cmp_iff]
  constructor
  · intro h
    refine ⟨h.1, fun i hi => ?_⟩
    rw [Nat.zero_add, (hj i hi).1]
    exact h.2 i hi
  · intro h
    refine ⟨h.1, fun i hi => ?_⟩
    have := h.2 i hi
    rwa [Nat.zero_add, (hj i hi).1] at this
section ZLX6
variable {L : Nat} {xs : Nat → Int32} {fv : Value} {f w : Nat} {c : Nat × Nat} {A : Nat → List (Nat × Int32)} {E : List (Nat × Option Nat)} {N : Nat → Nat} {V : Nat → Nat → Int32} {W : Nat} {g : List z_E} {B : Nat → List (Nat × Int32)} {M : Nat → List (Nat × Int64)} {U : Nat → Nat → Int32}
theorem s147c {b : Nat → Nat} {n p l : Nat} (hT : z_Tr (B 44) b n) (hU : U 41 8 = nI p) (hU9 : U 41 9 = nI l) (hp : p + l ≤ n) (hK : z_Ky (B 45)) : ∀ m, m ≤ 17 → z_Ln L xs fv f w 147 4 [(0, .ref 148), (1, .int (nI (z_kfs.getD (17 - m) 0))), (2, .int (nI (17 - m)))] [] (hC A E N V W ++ (hR B M U ++ g), c) (.inl (some (.int (z_kf b p l m)))) (hC A E N V W ++ (hR B M U ++ g), c) := by
  have hn := hT.1
  intro m
  induction m with
  | zero =>
    intro _
    exact b147_4t (nI_le (a := 17) (by omega) (by omega)) b147_118
  | succ m ih =>
    intro hm
    obtain ⟨k, hk⟩ : ∃ k, k = 16 - m := ⟨_, rfl⟩
    have k1 : 17 - (m + 1) = k := by omega
    have k2 : 17 - m = k + 1 := by omega
    have k3 : 36 - m = 20 + k := by omega
    have k4 : 316 - m = 300 + k := by omega
    have kl17 : k < 17 := by omega
    have ekf : z_kf b p l (m + 1) = (if z_mt (36 - m) b p l = true then nI (316 - m) else z_kf b p l m) := rfl
    rw [k3, k4] at ekf
    rw [k1, ekf]
    have ih := ih (by omega)
    rw [k2] at ih
    obtain ⟨o1, o2, o3, o4⟩ := z_kl_ok k kl17
    rw [o2] at ih
    have hmt := z_mt_cmp (b := b) (p := p) (l := l) kl17
    generalize z_kfs.getD k 0 = r at o1 o3 o4 hmt ih ⊢
    generalize (z_wls.getD (20 + k) []) = wd at o1 o3 o4 hmt ih ⊢
    have no : ∀ (x4 x5 : Int32), x4 = 0 → ¬ z_mt (20 + k) b p l = true → z_Ln L xs fv f w 147 95 [(0, .ref 148), (1, .int (nI r)), (2, .int (nI k)), (3, .int (nI wd.length)), (4, .int x4), (5, .int x5)] [] (hC A E N V W ++ (hR B M U ++ g), c) (.inl (some (.int (if z_mt (20 + k) b p l = true then nI (300 + k) else z_kf b p l m)))) (hC A E N V W ++ (hR B M U ++ g), c) := by
      intro x4 x5 h4 h
      rw [if_neg h]
      refine b147_95t h4 (b147_106 ?_)
      rw [nI_1, nI_add, nI_1]
      exact ih
    refine b147_4f (nI_ge (b := 17) kl17 (by omega)) (b147_10 (s147a hK o1 o3 (fun j hj => ?_) ?_ wd.length 0 (by omega)))
    · rw [(o4 j hj).1]
      exact (o4 j hj).2
    · by_cases hl : wd.length = l
      · refine b147_29f (fun q => q (by rw [hU9, hl])) (b147_37 (b147_42 (s147b hT hU (by omega) hK o1 (fun j hj => by rw [(o4 j hj).1]; exact (o4 j hj).2.2) ?_ wd.length 0 (by omega) rfl)))
        intro v j hv
        cases v with
        | true =>
          rw [if_pos (hmt.mpr ⟨hl, hv.symm⟩), ← nI_add]
          exact b147_95f (by decide) b147_100
        | false =>
          refine no _ _ rfl (fun q => ?_)
          have := (hmt.mp q).2
          rw [← hv] at this
          cases this
      · refine b147_29t (fun q => hl ?_) (b147_41 (b147_42 ?_))
        · rw [hU9] at q
          have q' := congrArg Int32.toNatClampNeg q
          rwa [nI_clamp (by omega), nI_clamp (by omega)] at q'
        · by_cases h0 : nI wd.length ≤ 0
          · exact b147_47t h0 (no _ _ rfl (fun q => hl (hmt.mp q).1))
          · exact b147_47f h0 (b147_53t rfl (no _ _ rfl (fun q => hl (hmt.mp q).1)))
theorem s147 {b : Nat → Nat} {n p l : Nat} (hT : z_Tr (B 44) b n) (hU : U 41 8 = nI p) (hU9 : U 41 9 = nI l) (hp : p + l ≤ n) (hK : z_Ky (B 45)) : z_Ln L xs fv f w 147 0 [(0, .ref 148)] [] (hC A E N V W ++ (hR B M U ++ g), c) (.inl (some (.int (z_kf b p l 17)))) (hC A E N V W ++ (hR B M U ++ g), c) := b147_0 (s147c hT hU hU9 hp hK 17 (by omega))
end ZLX6
