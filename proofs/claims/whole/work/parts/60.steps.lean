/-! Steps of the law's loop: feed, end, fault, state, and what is no call. -/
/-- d' is d but for what feed and end write -/
def z_Fx (d d' : z_Dd) : Prop := (∀ k, k ≠ 1 → k ≠ 4 → d'.1.1 k = d.1.1 k) ∧ d'.1.2.1 = d.1.2.1 ∧ d'.1.2.2.1 = d.1.2.2.1 ∧ (∀ k j, ¬ (k = 3 ∧ j = 2) → d'.1.2.2.2.1 k j = d.1.2.2.2.1 k j) ∧ d'.1.2.2.2.2 = d.1.2.2.2.2 ∧
  (∀ k, k ≠ 42 → k ≠ 43 → d'.2.1.1 k = d.2.1.1 k) ∧ d'.2.1.2.1 = d.2.1.2.1 ∧ (∀ k j, ¬ (k = 41 ∧ (j = 0 ∨ j = 5)) → d'.2.1.2.2 k j = d.2.1.2.2 k j) ∧ d'.2.2 = d.2.2
/-- the bytes that are ready -/
def z_I1 (d : z_Dd) : Prop := ∀ j, j < 20 → z_bp (z_fn 0 (d.1.1 1) j) (z_fn 0 (d.2.1.1 42) j)
/-- the text so far -/
def z_I2 (d : z_Dd) : Prop := ∃ len, len ≤ 1500 ∧ d.1.2.2.2.1 3 2 = nI len ∧ d.2.1.2.2 41 5 = nI len ∧ ∀ j, j < len → z_bp (z_fn 0 (d.1.1 4) j) (z_fn 0 (d.2.1.1 43) j)
/-- the fault of the latest reading -/
def z_I3 (d : z_Dd) : Prop := d.1.2.2.2.1 2 0 = d.2.1.2.2 41 11 ∧ d.1.2.2.2.1 2 1 = d.2.1.2.2 41 12
/-- what is told of the run -/
def z_I8 (d : z_Dd) : Prop := d.1.2.2.2.1 38 7 = d.2.1.2.2 41 94 ∧ d.1.2.2.2.1 38 8 = (if d.2.1.2.2 41 94 = 2 ∧ ¬ 2 ≤ d.2.1.2.2 41 92 then d.2.1.2.2 41 104 else 0) ∧ d.1.2.2.2.1 38 10 = d.2.1.2.2 41 98 ∧ d.1.2.2.2.1 38 11 = d.2.1.2.2 41 99 ∧ d.1.2.2.2.1 38 12 = d.2.1.2.2 41 100 ∧ d.1.2.2.2.1 38 9 = (if d.2.1.2.2 41 94 = 4 then d.2.1.2.2 41 101 else -1)
theorem z_Fx.rf {d : z_Dd} : z_Fx d d := ⟨fun _ _ _ => rfl, rfl, rfl, fun _ _ _ => rfl, rfl, fun _ _ _ => rfl, rfl, fun _ _ _ => rfl, rfl⟩
theorem z_I3.sm {d d' : z_Dd} (h : z_Fx d d') (hi : z_I3 d) : z_I3 d' := by
  obtain ⟨-, -, -, h4, -, -, -, h8, -⟩ := h
  unfold z_I3
  rw [h4 2 0 (by decide), h4 2 1 (by decide), h8 41 11 (by decide), h8 41 12 (by decide)]
  exact hi
theorem z_I8.sm {d d' : z_Dd} (h : z_Fx d d') (hi : z_I8 d) : z_I8 d' := by
  obtain ⟨-, -, -, h4, -, -, -, h8, -⟩ := h
  unfold z_I8
  rw [h4 38 7 (by decide), h4 38 8 (by decide), h4 38 9 (by decide), h4 38 10 (by decide), h4 38 11 (by decide), h4 38 12 (by decide), h8 41 94 (by decide), h8 41 92 (by decide), h8 41 104 (by decide), h8 41 98 (by decide), h8 41 99 (by decide), h8 41 100 (by decide), h8 41 101 (by decide)]
  exact hi
theorem z_Rm.sm {d d' : z_Dd} (h : z_Fx d d') (hi : z_Rm (z_H d)) : z_Rm (z_H d') := by
  have e : d'.2.2 = d.2.2 := h.2.2.2.2.2.2.2.2
  show d'.2.2.2.1 ≤ 601024 ∧ d'.2.2.2.2 ≤ 7293034
  rw [e]
  exact hi
section ZSTEP
variable {L : Nat} {xs : Nat → Int32} {i : Nat}
theorem z_ik (hi : i + 6 ≤ L) (hL : L ≤ 3072) (k : Nat) (hk : k < 6) {x : Int32} (hx : x = nI k) : z_in (nI i + x) L = true := by
  rw [hx, nI_add]
  exact z_inI (by omega) (by omega)
theorem z_i0 (hi : i + 6 ≤ L) (hL : L ≤ 3072) : z_in (nI i) L = true := z_inI (by omega) (by omega)
theorem z_xi (hi : i + 6 ≤ L) (hL : L ≤ 3072) : xs (nI i).toNatClampNeg = xs i := by rw [nI_clamp (by omega)]

set_option maxRecDepth 100000 in
theorem st_feed (hi : i + 6 ≤ L) (hL : L ≤ 3072) (hop : xs i &&& 15 = 0) {d : z_Dd} (hRm : z_Rm (z_H d)) : ∃ d', z_Fx d d' ∧ z_I1 d' ∧ d'.1.1 4 = d.1.1 4 ∧ d'.2.1.1 43 = d.2.1.1 43 ∧ d'.1.2.2.2.1 3 2 = d.1.2.2.2.1 3 2 ∧ d'.2.1.2.2 41 5 = d.2.1.2.2 41 5 ∧ z_St L xs i d d' := by
  obtain ⟨⟨A, E, N, V, W⟩, ⟨B, M, U⟩, g, c⟩ := d
  refine ⟨((z_u A 1 ((19, z_nar .byte ((((xs ((nI i) + 5).toNatClampNeg).toUInt32 >>> ((0 : Int32).toUInt32 &&& Int32.toUInt32 31)).toInt32).toInt8.toInt32)) :: (18, z_nar .byte ((((xs ((nI i) + 5).toNatClampNeg).toUInt32 >>> ((8 : Int32).toUInt32 &&& Int32.toUInt32 31)).toInt32).toInt8.toInt32)) :: (17, z_nar .byte ((((xs ((nI i) + 5).toNatClampNeg).toUInt32 >>> ((16 : Int32).toUInt32 &&& Int32.toUInt32 31)).toInt32).toInt8.toInt32)) :: (16, z_nar .byte ((((xs ((nI i) + 5).toNatClampNeg).toUInt32 >>> ((24 : Int32).toUInt32 &&& Int32.toUInt32 31)).toInt32).toInt8.toInt32)) :: (15, z_nar .byte ((((xs ((nI i) + 4).toNatClampNeg).toUInt32 >>> ((0 : Int32).toUInt32 &&& Int32.toUInt32 31)).toInt32).toInt8.toInt32)) :: (14, z_nar .byte ((((xs ((nI i) + 4).toNatClampNeg).toUInt32 >>> ((8 : Int32).toUInt32 &&& Int32.toUInt32 31)).toInt32).toInt8.toInt32)) :: (13, z_nar .byte ((((xs ((nI i) + 4).toNatClampNeg).toUInt32 >>> ((16 : Int32).toUInt32 &&& Int32.toUInt32 31)).toInt32).toInt8.toInt32)) :: (12, z_nar .byte ((((xs ((nI i) + 4).toNatClampNeg).toUInt32 >>> ((24 : Int32).toUInt32 &&& Int32.toUInt32 31)).toInt32).toInt8.toInt32)) :: (11, z_nar .byte ((((xs ((nI i) + 3).toNatClampNeg).toUInt32 >>> ((0 : Int32).toUInt32 &&& Int32.toUInt32 31)).toInt32).toInt8.toInt32)) :: (10, z_nar .byte ((((xs ((nI i) + 3).toNatClampNeg).toUInt32 >>> ((8 : Int32).toUInt32 &&& Int32.toUInt32 31)).toInt32).toInt8.toInt32)) :: (9, z_nar .byte ((((xs ((nI i) + 3).toNatClampNeg).toUInt32 >>> ((16 : Int32).toUInt32 &&& Int32.toUInt32 31)).toInt32).toInt8.toInt32)) :: (8, z_nar .byte ((((xs ((nI i) + 3).toNatClampNeg).toUInt32 >>> ((24 : Int32).toUInt32 &&& Int32.toUInt32 31)).toInt32).toInt8.toInt32)) :: (7, z_nar .byte ((((xs ((nI i) + 2).toNatClampNeg).toUInt32 >>> ((0 : Int32).toUInt32 &&& Int32.toUInt32 31)).toInt32).toInt8.toInt32)) :: (6, z_nar .byte ((((xs ((nI i) + 2).toNatClampNeg).toUInt32 >>> ((8 : Int32).toUInt32 &&& Int32.toUInt32 31)).toInt32).toInt8.toInt32)) :: (5, z_nar .byte ((((xs ((nI i) + 2).toNatClampNeg).toUInt32 >>> ((16 : Int32).toUInt32 &&& Int32.toUInt32 31)).toInt32).toInt8.toInt32)) :: (4, z_nar .byte ((((xs ((nI i) + 2).toNatClampNeg).toUInt32 >>> ((24 : Int32).toUInt32 &&& Int32.toUInt32 31)).toInt32).toInt8.toInt32)) :: (3, z_nar .byte ((((xs ((nI i) + 1).toNatClampNeg).toUInt32 >>> ((0 : Int32).toUInt32 &&& Int32.toUInt32 31)).toInt32).toInt8.toInt32)) :: (2, z_nar .byte ((((xs ((nI i) + 1).toNatClampNeg).toUInt32 >>> ((8 : Int32).toUInt32 &&& Int32.toUInt32 31)).toInt32).toInt8.toInt32)) :: (1, z_nar .byte ((((xs ((nI i) + 1).toNatClampNeg).toUInt32 >>> ((16 : Int32).toUInt32 &&& Int32.toUInt32 31)).toInt32).toInt8.toInt32)) :: (0, z_nar .byte ((((xs ((nI i) + 1).toNatClampNeg).toUInt32 >>> ((24 : Int32).toUInt32 &&& Int32.toUInt32 31)).toInt32).toInt8.toInt32)) :: A 1), E, N, V, W), (z_u B 42 ((19, (((xs ((nI i) + 5).toNatClampNeg) >>> (0 &&& 31)) &&& 255)) :: (15, (((xs ((nI i) + 4).toNatClampNeg) >>> (0 &&& 31)) &&& 255)) :: (11, (((xs ((nI i) + 3).toNatClampNeg) >>> (0 &&& 31)) &&& 255)) :: (7, (((xs ((nI i) + 2).toNatClampNeg) >>> (0 &&& 31)) &&& 255)) :: (3, (((xs ((nI i) + 1).toNatClampNeg) >>> (0 &&& 31)) &&& 255)) :: (18, (((xs ((nI i) + 5).toNatClampNeg) >>> (8 &&& 31)) &&& 255)) :: (14, (((xs ((nI i) + 4).toNatClampNeg) >>> (8 &&& 31)) &&& 255)) :: (10, (((xs ((nI i) + 3).toNatClampNeg) >>> (8 &&& 31)) &&& 255)) :: (6, (((xs ((nI i) + 2).toNatClampNeg) >>> (8 &&& 31)) &&& 255)) :: (2, (((xs ((nI i) + 1).toNatClampNeg) >>> (8 &&& 31)) &&& 255)) :: (17, (((xs ((nI i) + 5).toNatClampNeg) >>> (16 &&& 31)) &&& 255)) :: (13, (((xs ((nI i) + 4).toNatClampNeg) >>> (16 &&& 31)) &&& 255)) :: (9, (((xs ((nI i) + 3).toNatClampNeg) >>> (16 &&& 31)) &&& 255)) :: (5, (((xs ((nI i) + 2).toNatClampNeg) >>> (16 &&& 31)) &&& 255)) :: (1, (((xs ((nI i) + 1).toNatClampNeg) >>> (16 &&& 31)) &&& 255)) :: (16, (((xs ((nI i) + 5).toNatClampNeg) >>> (24 &&& 31)) &&& 255)) :: (12, (((xs ((nI i) + 4).toNatClampNeg) >>> (24 &&& 31)) &&& 255)) :: (8, (((xs ((nI i) + 3).toNatClampNeg) >>> (24 &&& 31)) &&& 255)) :: (4, (((xs ((nI i) + 2).toNatClampNeg) >>> (24 &&& 31)) &&& 255)) :: (0, (((xs ((nI i) + 1).toNatClampNeg) >>> (24 &&& 31)) &&& 255)) :: B 42), M, z_v U 41 0 0), g, c), ⟨fun k k1 _ => if_neg k1, rfl, rfl, fun _ _ _ => rfl, rfl, fun k k1 _ => if_neg k1, rfl, fun k j hkj => ?_, rfl⟩, ?_, rfl, rfl, rfl, rfl, ?_⟩
  · show (z_v U 41 0 0) k j = U k j
    unfold z_v
    by_cases h1 : k = 41
    · rw [if_pos h1, if_neg (fun h2 => hkj ⟨h1, Or.inl h2⟩)]
    · rw [if_neg h1]
  · intro j hj
    have : j = 0 ∨ j = 1 ∨ j = 2 ∨ j = 3 ∨ j = 4 ∨ j = 5 ∨ j = 6 ∨ j = 7 ∨ j = 8 ∨ j = 9 ∨ j = 10 ∨ j = 11 ∨ j = 12 ∨ j = 13 ∨ j = 14 ∨ j = 15 ∨ j = 16 ∨ j = 17 ∨ j = 18 ∨ j = 19 := by omega
    rcases this with rfl | rfl | rfl | rfl | rfl | rfl | rfl | rfl | rfl | rfl | rfl | rfl | rfl | rfl | rfl | rfl | rfl | rfl | rfl | rfl
    · exact z_bp_of (z_by24 _) rfl
    · exact z_bp_of (z_by16 _) rfl
    · exact z_bp_of (z_by8 _) rfl
    · exact z_bp_of (z_by0 _) rfl
    · exact z_bp_of (z_by24 _) rfl
    · exact z_bp_of (z_by16 _) rfl
    · exact z_bp_of (z_by8 _) rfl
    · exact z_bp_of (z_by0 _) rfl
    · exact z_bp_of (z_by24 _) rfl
    · exact z_bp_of (z_by16 _) rfl
    · exact z_bp_of (z_by8 _) rfl
    · exact z_bp_of (z_by0 _) rfl
    · exact z_bp_of (z_by24 _) rfl
    · exact z_bp_of (z_by16 _) rfl
    · exact z_bp_of (z_by8 _) rfl
    · exact z_bp_of (z_by0 _) rfl
    · exact z_bp_of (z_by24 _) rfl
    · exact z_bp_of (z_by16 _) rfl
    · exact z_bp_of (z_by8 _) rfl
    · exact z_bp_of (z_by0 _) rfl
  · intro fv o T' kk
    refine b0_33 (z_i0 hi hL) ?_
    rw [z_xi (xs := xs) hi hL, hop]
    exact b0_sw0 (law_0 (z_i0 hi hL) (z_ik hi hL 1 (by omega) rfl) (z_ik hi hL 2 (by omega) rfl) (z_ik hi hL 3 (by omega) rfl) (z_ik hi hL 4 (by omega) rfl) (z_ik hi hL 5 (by omega) rfl) hRm (by omega) (by omega) kk)
theorem z_bp_fit {a b : Int32} (h : z_bp a b) : fits .byte (.int a) = true := by
  obtain ⟨rfl, -⟩ := h
  have h1 := Int8.le_toInt b.toInt8
  have h2 := Int8.toInt_lt b.toInt8
  have e : b.toInt8.toInt32.toInt = b.toInt8.toInt := Int8.toInt_toInt32 _
  have a1 : (-128 : Int32) ≤ b.toInt8.toInt32 := by
    rw [Int32.le_iff_toInt_le, e]
    exact h1
  have a2 : b.toInt8.toInt32 ≤ (127 : Int32) := by
    rw [Int32.le_iff_toInt_le, e]
    show _ ≤ (127 : Int)
    omega
  show (decide ((-128 : Int32) ≤ b.toInt8.toInt32) && decide (b.toInt8.toInt32 ≤ (127 : Int32))) = true
  rw [decide_eq_true a1, decide_eq_true a2]
  rfl
set_option maxRecDepth 100000 in
theorem st_end (hi : i + 6 ≤ L) (hL : L ≤ 3072) (hop : xs i &&& 15 = 1) {d : z_Dd} (hRm : z_Rm (z_H d)) (h1 : z_I1 d) (h2 : z_I2 d) : ∃ d', z_Fx d d' ∧ z_I1 d' ∧ z_I2 d' ∧ z_St L xs i d d' := by
  obtain ⟨⟨A, E, N, V, W⟩, ⟨B, M, U⟩, g, c⟩ := d
  obtain ⟨len, hl, hV, hU, ht⟩ := h2
  have hV : V 3 2 = nI len := hV
  have hU : U 41 5 = nI len := hU
  have m16 : z_pg.2.1 16 = 2 := rfl
  have m137 : z_pg.2.1 137 = 3 := rfl
  have hx1 := z_ik hi hL 1 (by omega) (x := 1) rfl
  have hx2 := z_ik hi hL 2 (by omega) (x := 2) rfl
  have hx3 := z_ik hi hL 3 (by omega) (x := 3) rfl
  have hx4 := z_ik hi hL 4 (by omega) (x := 4) rfl
  have hx5 := z_ik hi hL 5 (by omega) (x := 5) rfl
  have U0 : ∀ k j, ¬ (k = 41 ∧ (j = 0 ∨ j = 5)) → (z_v U 41 0 0) k j = U k j := by
    intro k j hkj
    unfold z_v
    by_cases q1 : k = 41
    · rw [if_pos q1, if_neg (fun q2 => hkj ⟨q1, Or.inl q2⟩)]
    · rw [if_neg q1]
  rcases z_nob_or len hl (xs (nI i + 1).toNatClampNeg) with hn | ⟨j, hj1, hj2, hj3⟩
  · refine ⟨((A, E, N, V, W), (B, M, z_v U 41 0 0), g, c), ⟨fun _ _ _ => rfl, rfl, rfl, fun _ _ _ => rfl, rfl, fun _ _ _ => rfl, rfl, U0, rfl⟩, h1, ⟨len, hl, hV, hU, ht⟩, ?_⟩
    intro fv o T' kk
    refine b0_33 (z_i0 hi hL) ?_
    rw [z_xi (xs := xs) hi hL, hop]
    exact b0_sw1 (law_1 (v := -1) (c1 := c) (c2 := c) (z_i0 hi hL) hx1 hx2 hx3 hx4 hx5 hRm hRm (by omega) (by omega) (s_endC_no (by show z_nob (V 3 2) _; rw [hV]; exact hn)) (s_endR_no (by show z_nob (U 41 5) _; rw [hU]; exact hn)) kk)
  · obtain ⟨A', a1, a2, a3, a4⟩ := s_endC_ok (L := L) (xs := xs) (c := c) (A := A) (E := E) (N := N) (V := V) (W := W) (g := hR B M U ++ g) (len := len) (j := j) hV hj2 hj3 (fun k hk => z_bp_fit (h1 k hk)) hRm
    obtain ⟨B', b1, b2, b3, b4⟩ := s_endR_ok (L := L) (xs := xs) (c := c) (A := A') (E := E) (N := N) (V := z_v V 3 2 (nI (len + j))) (W := W) (g := g) (B := B) (M := M) (U := U) (len := len) (j := j) hU hj2 hj3
    refine ⟨((A', E, N, z_v V 3 2 (nI (len + j)), W), (B', M, z_v (z_v U 41 0 0) 41 5 (nI (len + j))), g, c), ⟨a1, rfl, rfl, fun k m hkm => ?_, rfl, b1, rfl, fun k m hkm => ?_, rfl⟩, ?_, ⟨len + j, hj3, rfl, rfl, ?_⟩, ?_⟩
    · show (z_v V 3 2 (nI (len + j))) k m = V k m
      unfold z_v
      by_cases q1 : k = 3
      · rw [if_pos q1, if_neg (fun q2 => hkm ⟨q1, q2⟩)]
      · rw [if_neg q1]
    · show (z_v (z_v U 41 0 0) 41 5 (nI (len + j))) k m = U k m
      rw [← U0 k m hkm]
      show (if k = 41 then (if m = 5 then nI (len + j) else (z_v U 41 0 0) k m) else (z_v U 41 0 0) k m) = _
      by_cases q1 : k = 41
      · rw [if_pos q1, if_neg (fun q2 => hkm ⟨q1, Or.inr q2⟩)]
      · rw [if_neg q1]
    · intro k hk
      show z_bp (z_fn 0 (A' 1) k) (z_fn 0 (B' 42) k)
      rw [a3 k hk, b3 k hk]
      exact z_bp0
    · intro k hk
      show z_bp (z_fn 0 (A' 4) k) (z_fn 0 (B' 43) k)
      rw [a2, b2, z_cpl_fn, z_cpl_fn]
      unfold va_cpy
      by_cases q : len ≤ k ∧ k < len + j
      · rw [if_pos q, if_pos q]
        exact h1 _ (by omega)
      · rw [if_neg q, if_neg q]
        exact ht k (by omega)
    · intro fv o T' kk
      refine b0_33 (z_i0 hi hL) ?_
      rw [z_xi (xs := xs) hi hL, hop]
      refine b0_sw1 (law_1 (v := nI (len + j)) (A := A) (E := E) (N := N) (V := V) (W := W) (B := B) (M := M) (U := U) (g := g) (A1 := A') (E1 := E) (N1 := N) (V1 := z_v V 3 2 (nI (len + j))) (W1 := W) (g1 := g) (B2 := B') (M2 := M) (U2 := z_v (z_v U 41 0 0) 41 5 (nI (len + j))) (g2 := g) (c1 := c) (c2 := c) (z_i0 hi hL) hx1 hx2 hx3 hx4 hx5 hRm hRm (by omega) (by omega) ?_ ?_ kk)
      · rw [hj1]
        exact a4 fv _ _ (by omega) (by omega)
      · rw [hj1]
        exact b4 fv _ _
/-- a call of the law that only tells something -/
def z_tell (d : z_Dd) : z_Dd := (d.1, (d.2.1.1, d.2.1.2.1, z_v d.2.1.2.2 41 0 0), d.2.2)
theorem z_tell_Fx {d : z_Dd} : z_Fx d (z_tell d) := by
  refine ⟨fun _ _ _ => rfl, rfl, rfl, fun _ _ _ => rfl, rfl, fun _ _ _ => rfl, rfl, fun k j hkj => ?_, rfl⟩
  show (z_v d.2.1.2.2 41 0 0) k j = _
  unfold z_v
  by_cases q1 : k = 41
  · rw [if_pos q1, if_neg (fun q2 => hkj ⟨q1, Or.inl q2⟩)]
  · rw [if_neg q1]
theorem z_tell_1 {d : z_Dd} (h : z_I1 d) : z_I1 (z_tell d) := h
theorem z_tell_2 {d : z_Dd} (h : z_I2 d) : z_I2 (z_tell d) := h
set_option maxRecDepth 100000 in
theorem st_fault (hi : i + 6 ≤ L) (hL : L ≤ 3072) (hop : xs i &&& 15 = 3) {d : z_Dd} (hRm : z_Rm (z_H d)) (h3 : z_I3 d) : z_St L xs i d (z_tell d) := by
  obtain ⟨⟨A, E, N, V, W⟩, ⟨B, M, U⟩, g, c⟩ := d
  obtain ⟨e1, e2⟩ := h3
  have e1 : V 2 0 = U 41 11 := e1
  have e2 : V 2 1 = U 41 12 := e2
  have hx1 := z_ik hi hL 1 (by omega) (x := 1) rfl
  have hx2 := z_ik hi hL 2 (by omega) (x := 2) rfl
  have hx3 := z_ik hi hL 3 (by omega) (x := 3) rfl
  have hx4 := z_ik hi hL 4 (by omega) (x := 4) rfl
  have hx5 := z_ik hi hL 5 (by omega) (x := 5) rfl
  intro fv o T' kk
  refine b0_33 (z_i0 hi hL) ?_
  rw [z_xi (xs := xs) hi hL, hop]
  have go : ∀ v : Int32, (∀ f w, z_Ln L xs fv f w 19 0 [(0, .ref 107), (1, .int (xs (nI i + 1).toNatClampNeg))] [] (hC A E N V W ++ (hR B M U ++ g), c) (.inl (some (.int v))) (hC A E N V W ++ (hR B M U ++ g), c)) → (∀ f w, z_Ln L xs fv f w 199 0 [(0, .ref 148), (1, .int (xs (nI i + 1).toNatClampNeg))] [] (hC A E N V W ++ (hR B M U ++ g), c) (.inl (some (.int v))) (hC A E N V W ++ (hR B M (z_v U 41 0 0) ++ g), c)) → z_Ln L xs fv 2048 84000 0 40 (z_LV i) [.int 3] (hC A E N V W ++ (hR B M U ++ g), c) o T' := fun v q1 q2 => b0_sw3 (law_3 (v := v) (c1 := c) (c2 := c) (z_i0 hi hL) hx1 hx2 hx3 hx4 hx5 hRm hRm (by omega) (by omega) (q1 _ _) (q2 _ _) kk)
  generalize xs (nI i + 1).toNatClampNeg = x at go
  by_cases x0 : x = 0
  · subst x0
    exact go (V 2 0) (fun f w => s19_0) (fun f w => by rw [e1]; exact s199_0)
  · by_cases x1 : x = 1
    · subst x1
      exact go (V 2 1) (fun f w => s19_1) (fun f w => by rw [e2]; exact s199_1)
    · exact go (-1) (fun f w => s19_d x0 x1) (fun f w => s199_d x0 x1)
theorem z_x5 (x : Int32) : x = 0 ∨ x = 1 ∨ x = 2 ∨ x = 3 ∨ x = 4 ∨ x = 5 ∨ (x.toInt < 0 ∨ 5 < x.toInt) := by
  by_cases h0 : x < 0
  · refine Or.inr (Or.inr (Or.inr (Or.inr (Or.inr (Or.inr (Or.inl ?_))))))
    exact Int32.lt_iff_toInt_lt.mp h0
  · obtain ⟨j, hj, rfl⟩ := nI_of h0
    have : j = 0 ∨ j = 1 ∨ j = 2 ∨ j = 3 ∨ j = 4 ∨ j = 5 ∨ 5 < j := by omega
    rcases this with rfl | rfl | rfl | rfl | rfl | rfl | h5
    · exact Or.inl rfl
    · exact Or.inr (Or.inl rfl)
    · exact Or.inr (Or.inr (Or.inl rfl))
    · exact Or.inr (Or.inr (Or.inr (Or.inl rfl)))
    · exact Or.inr (Or.inr (Or.inr (Or.inr (Or.inl rfl))))
    · exact Or.inr (Or.inr (Or.inr (Or.inr (Or.inr (Or.inl rfl)))))
    · refine Or.inr (Or.inr (Or.inr (Or.inr (Or.inr (Or.inr (Or.inr ?_))))))
      rw [nI_toInt hj]
      omega
set_option maxRecDepth 100000 in
theorem st_state (hi : i + 6 ≤ L) (hL : L ≤ 3072) (hop : xs i &&& 15 = 8) {d : z_Dd} (hRm : z_Rm (z_H d)) (h8 : z_I8 d) : z_St L xs i d (z_tell d) := by
  obtain ⟨⟨A, E, N, V, W⟩, ⟨B, M, U⟩, g, c⟩ := d
  obtain ⟨e1, e2, e3, e4, e5, e6⟩ := h8
  have e1 : V 38 7 = U 41 94 := e1
  have e2 : V 38 8 = (if U 41 94 = 2 ∧ ¬ 2 ≤ U 41 92 then U 41 104 else 0) := e2
  have e3 : V 38 10 = U 41 98 := e3
  have e4 : V 38 11 = U 41 99 := e4
  have e5 : V 38 12 = U 41 100 := e5
  have e6 : V 38 9 = (if U 41 94 = 4 then U 41 101 else -1) := e6
  have hx1 := z_ik hi hL 1 (by omega) (x := 1) rfl
  have hx2 := z_ik hi hL 2 (by omega) (x := 2) rfl
  have hx3 := z_ik hi hL 3 (by omega) (x := 3) rfl
  have hx4 := z_ik hi hL 4 (by omega) (x := 4) rfl
  have hx5 := z_ik hi hL 5 (by omega) (x := 5) rfl
  intro fv o T' kk
  refine b0_33 (z_i0 hi hL) ?_
  rw [z_xi (xs := xs) hi hL, hop]
  have go : ∀ v : Int32, (∀ f w, z_Ln L xs fv f w 26 0 [(0, .ref 107), (1, .int (xs (nI i + 1).toNatClampNeg))] [] (hC A E N V W ++ (hR B M U ++ g), c) (.inl (some (.int v))) (hC A E N V W ++ (hR B M U ++ g), c)) → (∀ f w, z_Ln L xs fv f w 220 0 [(0, .ref 148), (1, .int (xs (nI i + 1).toNatClampNeg))] [] (hC A E N V W ++ (hR B M U ++ g), c) (.inl (some (.int v))) (hC A E N V W ++ (hR B M (z_v U 41 0 0) ++ g), c)) → z_Ln L xs fv 2048 84000 0 40 (z_LV i) [.int 8] (hC A E N V W ++ (hR B M U ++ g), c) o T' := fun v q1 q2 => b0_sw8 (law_8 (v := v) (c1 := c) (c2 := c) (z_i0 hi hL) hx1 hx2 hx3 hx4 hx5 hRm hRm (by omega) (by omega) (q1 _ _) (q2 _ _) kk)
  generalize xs (nI i + 1).toNatClampNeg = x at go
  rcases z_x5 x with rfl | rfl | rfl | rfl | rfl | rfl | hd
  · exact go (V 38 7) (fun f w => s26_0) (fun f w => by rw [e1]; exact s220_0)
  · refine go (V 38 8) (fun f w => s26_1) (fun f w => ?_)
    rw [e2]
    by_cases q1 : U 41 94 = 2
    · by_cases q2 : 2 ≤ U 41 92
      · rw [if_neg (fun q => q.2 q2)]
        exact s220_1f q1 q2
      · rw [if_pos ⟨q1, q2⟩]
        exact s220_1t q1 q2
    · rw [if_neg (fun q => q1 q.1)]
      exact s220_1n q1
  · exact go (V 38 10) (fun f w => s26_2) (fun f w => by rw [e3]; exact s220_2)
  · exact go (V 38 11) (fun f w => s26_3) (fun f w => by rw [e4]; exact s220_3)
  · exact go (V 38 12) (fun f w => s26_4) (fun f w => by rw [e5]; exact s220_4)
  · refine go (V 38 9) (fun f w => s26_5) (fun f w => ?_)
    rw [e6]
    by_cases q1 : U 41 94 = 4
    · rw [if_pos q1]
      exact s220_5t q1
    · rw [if_neg q1]
      exact s220_5n q1
  · exact go (-1) (fun f w => s26_d hd) (fun f w => s220_d hd)

set_option maxRecDepth 100000 in
theorem st_none (hi : i + 6 ≤ L) (hL : L ≤ 3072) (hop : (8 : Int) < (xs i &&& 15).toInt) {d : z_Dd} : z_St L xs i d d := by
  obtain ⟨⟨A, E, N, V, W⟩, ⟨B, M, U⟩, g, c⟩ := d
  intro fv o T' kk
  refine b0_33 (z_i0 hi hL) ?_
  rw [z_xi (xs := xs) hi hL]
  exact b0_swd hop kk
theorem z_ops (y : Int32) : y &&& 15 = 0 ∨ y &&& 15 = 1 ∨ y &&& 15 = 2 ∨ y &&& 15 = 3 ∨ y &&& 15 = 4 ∨ y &&& 15 = 5 ∨ y &&& 15 = 6 ∨ y &&& 15 = 7 ∨ y &&& 15 = 8 ∨ (8 : Int) < (y &&& 15).toInt := by
  obtain ⟨j, hj, e⟩ := pk_andE y (m := 15) 4 (by decide)
  rw [e]
  have : j = 0 ∨ j = 1 ∨ j = 2 ∨ j = 3 ∨ j = 4 ∨ j = 5 ∨ j = 6 ∨ j = 7 ∨ j = 8 ∨ 8 < j := by omega
  rcases this with rfl | rfl | rfl | rfl | rfl | rfl | rfl | rfl | rfl | h
  · exact Or.inl rfl
  · exact Or.inr (Or.inl rfl)
  · exact Or.inr (Or.inr (Or.inl rfl))
  · exact Or.inr (Or.inr (Or.inr (Or.inl rfl)))
  · exact Or.inr (Or.inr (Or.inr (Or.inr (Or.inl rfl))))
  · exact Or.inr (Or.inr (Or.inr (Or.inr (Or.inr (Or.inl rfl)))))
  · exact Or.inr (Or.inr (Or.inr (Or.inr (Or.inr (Or.inr (Or.inl rfl))))))
  · exact Or.inr (Or.inr (Or.inr (Or.inr (Or.inr (Or.inr (Or.inr (Or.inl rfl)))))))
  · exact Or.inr (Or.inr (Or.inr (Or.inr (Or.inr (Or.inr (Or.inr (Or.inr (Or.inl rfl))))))))
  · refine Or.inr (Or.inr (Or.inr (Or.inr (Or.inr (Or.inr (Or.inr (Or.inr (Or.inr ?_))))))))
    rw [nI_toInt (by omega)]
    omega
end ZSTEP

