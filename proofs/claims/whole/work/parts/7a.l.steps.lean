/-! All steps of the law together, but for start and run. -/
theorem z_and15 (y : Int32) : ∃ k, k < 16 ∧ y &&& 15 = nI k := by
  refine ⟨(y &&& 15).toUInt32.toNat, ?_, (z_i32n _).symm⟩
  have e : (y &&& 15).toUInt32.toNat = y.toBitVec.toNat &&& 15 := by
    show (y &&& 15).toBitVec.toNat = _
    rw [Int32.toBitVec_and, BitVec.toNat_and]
    rfl
  rw [e]
  exact Nat.lt_succ_of_le Nat.and_le_right
def z_Inv (I6 : z_Dd → Prop) (i : Nat) (d : z_Dd) : Prop := z_Ib i d ∧ z_I5 d ∧ I6 d
theorem z_Inv.fx {I6 : z_Dd → Prop} (sm : ∀ d d', z_Fx d d' → I6 d → I6 d') {i : Nat} {d d' : z_Dd} (h : z_Inv I6 i d) (hf : z_Fx d d') (h1 : z_I1 d') (h2 : z_I2 d') : z_Inv I6 (i + 6) d' := ⟨h.1.sm hf h1 h2, h.2.1.sm hf, sm d d' hf h.2.2⟩
set_option maxRecDepth 100000 in
theorem z_stepAll {I6 : z_Dd → Prop} (sm : ∀ d d', z_Fx d d' → I6 d → I6 d') (nb : ∀ d : z_Dd, d.1.2.2.2.1 38 7 = 0 → d.2.1.2.2 41 94 = 0 → I6 d)
    (start : ∀ (L : Nat) (xs : Nat → Int32) (i : Nat) (d : z_Dd), i + 6 ≤ L → L ≤ 3072 → xs i &&& 15 = 6 → z_Inv I6 i d → ∃ d', z_Inv I6 (i + 6) d' ∧ z_St L xs i d d')
    (run : ∀ (L : Nat) (xs : Nat → Int32) (i : Nat) (d : z_Dd), i + 6 ≤ L → L ≤ 3072 → xs i &&& 15 = 7 → z_Inv I6 i d → ∃ d', z_Inv I6 (i + 6) d' ∧ z_St L xs i d d')
    {L : Nat} {xs : Nat → Int32} (hL : L ≤ 3072) : ∀ i d, z_Inv I6 i d → i + 6 ≤ L → ∃ d', z_Inv I6 (i + 6) d' ∧ z_St L xs i d d' := by
  intro i d h hi
  have hRm : z_Rm (z_H d) := h.1.rm (by omega)
  have tell : z_St L xs i d (z_tell d) → ∃ d', z_Inv I6 (i + 6) d' ∧ z_St L xs i d d' := fun q => ⟨z_tell d, h.fx sm z_tell_Fx (z_tell_1 h.1.1) (z_tell_2 h.1.2.1), q⟩
  obtain ⟨k, k16, hk⟩ := z_and15 (xs i)
  rcases (show k = 0 ∨ k = 1 ∨ k = 2 ∨ k = 3 ∨ k = 4 ∨ k = 5 ∨ k = 6 ∨ k = 7 ∨ k = 8 ∨ 8 < k by omega) with rfl | rfl | rfl | rfl | rfl | rfl | rfl | rfl | rfl | k9
  · obtain ⟨d', f1, f2, f3, f4, f5, f6, f7⟩ := st_feed hi hL hk hRm
    refine ⟨d', h.fx sm f1 f2 ?_, f7⟩
    obtain ⟨len, a1, a2, a3, a4⟩ := h.1.2.1
    exact ⟨len, a1, f5.trans a2, f6.trans a3, fun j hj => by rw [f3, f4]; exact a4 j hj⟩
  · obtain ⟨d', f1, f2, f3, f4⟩ := st_end hi hL hk hRm h.1.1 h.1.2.1
    exact ⟨d', h.fx sm f1 f2 f3, f4⟩
  · obtain ⟨d', f1, f2, f3, f4⟩ := st_read hi hL hk h.1
    exact ⟨d', ⟨f1, f2, nb d' f3.1 f3.2⟩, f4⟩
  · exact tell (st_fault hi hL hk hRm h.1.2.2.1)
  · exact tell (st_type hi hL hk hRm h.1.2.2.2.1)
  · exact tell (st_eff hi hL hk hRm h.1.2.2.2.1)
  · exact start L xs i d hi hL hk h
  · exact run L xs i d hi hL hk h
  · exact tell (st_state hi hL hk hRm h.1.2.2.2.2.1)
  · refine ⟨d, h.fx sm z_Fx.rf h.1.1 h.1.2.1, st_none hi hL ?_⟩
    rw [hk, nI_toInt (by omega)]
    omega
set_option maxRecDepth 100000 in
theorem z_Ib0 : z_Ib 0 z_d0 := by
  have gn : z_Gn ([] : List z_E) := by
    intro k ci fs hk
    cases k with
    | zero => cases hk
    | succ k => cases hk
  refine ⟨fun j hj => ?_, ⟨0, by decide, rfl, rfl, fun j hj => absurd hj (Nat.not_lt_zero _)⟩, ⟨rfl, rfl⟩, Or.inl ⟨rfl, rfl⟩, ⟨rfl, rfl, rfl, rfl, rfl, rfl⟩, ⟨gn, Nat.le_refl 127⟩, (show 0 < 107 by decide), ?_, ?_, ?_, ?_⟩
  · show z_bp (z_fn 0 (z_A0 1) j) (z_fn 0 (z_B0 42) j)
    exact z_bp0
  · show z_Ky (z_B0 45)
    unfold z_Ky
    decide +kernel
  · intro k hk
    rcases z_gk_or hk with rfl | rfl | rfl | rfl | rfl | rfl | rfl | rfl | rfl | rfl | rfl | rfl <;> decide
  · show 64 * 127 ≤ 8128 + 64 * 0 + z_Pt z_N0
    omega
  · show 3005623 ≤ 3005623 + 6 * 0 + 2 * z_Pt z_N0
    omega
theorem z_I50 : z_I5 z_d0 := Or.inl rfl
/-- the whole law, if start and run keep what is asked of the machine -/
theorem z_allRuns {I6 : z_Dd → Prop} (sm : ∀ d d', z_Fx d d' → I6 d → I6 d') (nb : ∀ d : z_Dd, d.1.2.2.2.1 38 7 = 0 → d.2.1.2.2 41 94 = 0 → I6 d)
    (start : ∀ (L : Nat) (xs : Nat → Int32) (i : Nat) (d : z_Dd), i + 6 ≤ L → L ≤ 3072 → xs i &&& 15 = 6 → z_Inv I6 i d → ∃ d', z_Inv I6 (i + 6) d' ∧ z_St L xs i d d')
    (run : ∀ (L : Nat) (xs : Nat → Int32) (i : Nat) (d : z_Dd), i + 6 ≤ L → L ≤ 3072 → xs i &&& 15 = 7 → z_Inv I6 i d → ∃ d', z_Inv I6 (i + 6) d' ∧ z_St L xs i d d')
    {L : Nat} {xs : Nat → Int32} (hL : L ≤ 3072) : ∀ fv : Value, fv = .null ∨ fv = .ref 106 → ∃ S : z_S, z_Rn L xs fv 2048 84000 0 0 (lv_args 0 [.ref 39]) [] ([], 0) (.inl (some (.int 1)), S) ∧ S.1.length ≤ 601024 ∧ S.2 ≤ 7293034 := by
  refine z_whole (Inv := fun i d => z_Inv I6 i d ∧ i ≤ 3078) hL ⟨⟨z_Ib0, z_I50, nb _ rfl rfl⟩, by decide⟩ (fun i d h hi => ?_) (fun i d h => h.1.1.rm h.2)
  obtain ⟨d', a1, a2⟩ := z_stepAll sm nb start run hL i d h.1 hi
  exact ⟨d', ⟨a1, by omega⟩, a2⟩
