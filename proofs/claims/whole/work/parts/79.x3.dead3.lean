/-! Reading programs, once the class has ended: operands, parts, the loop. -/
section ZE2
variable {R : z_RS} {x y : Int32} {d : Nat}
theorem z_i50 {i : Nat} (hd : d ≤ 50) (h : i < d) : z_in (nI i) 50 = true ∧ (nI i).toNatClampNeg = i := ⟨z_inI (by omega) (by decide), nI_clamp (by omega)⟩
theorem z_Zd.put95 {i : Nat} {v : Int32} (h : z_Zd d R) (hv : z_o6 v) : z_Zd d (z_u R.1 95 ((i, v) :: R.1 95), R.2.1, R.2.2) := by
  obtain ⟨h2, h3, h4, h5⟩ := h
  refine ⟨h2, h3, h4, fun j hj => ?_⟩
  obtain ⟨⟨a1, a2⟩, a3⟩ := h5 j hj
  refine ⟨⟨?_, ?_⟩, ?_⟩
  · show z_o6 (z_fn 0 (z_u R.1 95 ((i, v) :: R.1 95) 80) j)
    rw [z_un (by decide)]
    exact a1
  · show z_o6 (z_fn 0 (z_u R.1 95 ((i, v) :: R.1 95) 95) j)
    rw [z_uk]
    by_cases e : j = i
    · rw [e, z_fcs]
      exact hv
    · rw [z_fcn e]
      exact a2
  · show (∃ w, w < 304 ∧ ¬ w = 3 ∧ z_fn 0 (z_u R.1 95 ((i, v) :: R.1 95) 81) j = nI w) ∧ (j = 0 → z_fn 0 (z_u R.1 95 ((i, v) :: R.1 95) 80) j = -1)
    rw [z_un (by decide), z_un (by decide)]
    exact a3
theorem e171 {i : Nat} {v p : Int32} (hi : i < d) (h : z_Dz x y d R) : ∃ R', z_Rr 16 171 0 [(0, .ref 148), (1, .int (nI i)), (2, .int v), (3, .int p)] [] R none R' ∧ z_Dz x y d R' ∧ z_XR R R' ∧ (R'.2.2 41 53 = 2 ∨ z_Td x y R'.2.2) := by
  obtain ⟨B, M, U⟩ := R
  obtain ⟨h1, h2, h3, h4, h5⟩ := id h
  obtain ⟨zi, zc⟩ := z_i50 h3 hi
  by_cases h0 : U 41 11 ≤ 0
  · have hD : z_Dz x y d (B, M, z_v U 41 53 2) := ⟨h.1.U rfl rfl rfl rfl, h.2.cg rfl rfl rfl rfl rfl⟩
    have hX : z_XR (B, M, U) (B, M, z_v U 41 53 2) := z_XR_U (R := (B, M, U)) (fun k j q => z_vn (by omega))
    obtain ⟨⟨-, p6⟩, -⟩ := h5 i hi
    have p6 : z_o6 (z_fn 0 (B 95) i) := p6
    rcases p6 with p6 | ⟨m, m6, p6⟩
    · by_cases hc : z_fn 0 (B 93) i < 0
      · refine ⟨(z_u (z_u B 93 ((i, v) :: B 93)) 94 ((i, p) :: B 94), M, z_v U 41 53 2), z_WR.get (fun Q hq => t171_0 (z_ifp h0 ?_)), ⟨hD.1, hD.2.B (R := (B, M, z_v U 41 53 2)) rfl rfl rfl⟩, hX.tr (z_XR_B (R := (B, M, z_v U 41 53 2)) (fun q r => by rw [z_un (by omega), z_un (by omega)])), Or.inl rfl⟩
        unfold p171_8
        rw [zc]
        refine ⟨zi, z_ifp (by rw [p6]; decide) ?_⟩
        unfold p171_63
        rw [zc]
        refine ⟨zi, z_ifp hc ?_⟩
        unfold p171_101
        rw [zc]
        exact ⟨zi, zi, hq⟩
      · obtain ⟨m, R1, hm, b1, b2, b3, b4⟩ := e172 (k := 10) (a1 := z_fn 0 (B 93) i) (a2 := z_fn 0 (B 94) i) (a3 := v) (a4 := p) hD
        refine ⟨(z_u R1.1 93 ((i, nI m) :: R1.1 93), R1.2.1, R1.2.2), z_WR.get (fun Q hq => t171_0 (z_ifp h0 ?_)), ⟨b2.1, b2.2.B rfl rfl rfl⟩, hX.tr (b3.tr (z_XR_B (fun q r => z_un (by omega)))), ?_⟩
        · unfold p171_8
          rw [zc]
          refine ⟨zi, z_ifp (by rw [p6]; decide) ?_⟩
          unfold p171_63
          rw [zc]
          refine ⟨zi, z_ifn hc ?_⟩
          unfold p171_72
          rw [zc]
          refine ⟨zi, zi, _, R1, b1, _, rfl, ?_⟩
          unfold p171_97
          rw [zc]
          exact ⟨zi, hq⟩
        · exact Or.inl b4
    · obtain ⟨zj, zk⟩ := z_o6_in m6
      refine ⟨(z_u (z_u (z_u (z_u B 58 ((m, v) :: B 58)) 61 ((m, p) :: B 61)) 95 ((i, -1) :: B 95)) 96 ((i, z_nar .boolean 1) :: B 96), M, z_v U 41 53 2), z_WR.get (fun Q hq => t171_0 (z_ifp h0 ?_)), ⟨hD.1, ?_⟩, hX.tr (z_XR_B (R := (B, M, z_v U 41 53 2)) (fun q r => by rw [z_un (by omega), z_un (by omega), z_un (by omega), z_un (by omega)])), Or.inl rfl⟩
      · unfold p171_8
        rw [zc]
        refine ⟨zi, z_ifn (by rw [p6]; exact nI_pos (by omega)) ?_⟩
        unfold p171_22
        rw [zc, p6, zk]
        exact ⟨zi, zj, zi, zj, zi, zi, hq⟩
      · have q1 : z_Zd d (z_u (z_u B 58 ((m, v) :: B 58)) 61 ((m, p) :: B 61), M, z_v U 41 53 2) := hD.2.B (R := (B, M, z_v U 41 53 2)) rfl rfl rfl
        have q2 := q1.put95 (i := i) (v := -1) (Or.inl rfl)
        exact q2.cg rfl rfl rfl rfl rfl
  · refine ⟨(B, M, U), z_WR.get (fun Q hq => t171_0 (z_ifn h0 hq)), h, z_XR.rf, Or.inr ?_⟩
    rcases h1 with ht | ⟨-, q, -⟩
    · exact ht
    · exact absurd (show U 41 11 ≤ 0 by rw [show U 41 11 = 0 from q]; decide) h0
theorem e174 {i : Nat} (hi : i < d) (h : z_Dz x y d R) : ∃ R', z_Rr 16 174 0 [(0, .ref 148), (1, .int (nI i))] [] R none R' ∧ z_Dz x y d R' ∧ z_XR R R' := by
  obtain ⟨B, M, U⟩ := R
  obtain ⟨h1, h2, h3, h4, h5⟩ := id h
  obtain ⟨zi, zc⟩ := z_i50 h3 hi
  by_cases ht : z_fn 0 (B 91) i < 0
  · refine ⟨(z_u (z_u (z_u (z_u B 91 ((i, z_fn 0 (B 93) i) :: B 91)) 92 ((i, z_fn 0 (B 94) i) :: B 92)) 93 ((i, -1) :: B 93)) 96 ((i, z_nar .boolean 0) :: B 96), M, U), z_WR.get (fun Q hq => t174_0 ?_), ⟨h.1, h.2.B (R := (B, M, U)) rfl rfl rfl⟩, z_XR_B (R := (B, M, U)) (fun q r => by rw [z_un (by omega), z_un (by omega), z_un (by omega), z_un (by omega)])⟩
    unfold p174_0
    rw [zc]
    refine ⟨zi, z_ifp ht ?_⟩
    unfold p174_48
    rw [zc]
    refine ⟨zi, zi, zi, zi, ?_⟩
    unfold p174_72
    rw [zc]
    exact ⟨zi, zi, hq⟩
  · obtain ⟨m, R1, hm, b1, b2, b3, b4⟩ := e172 (k := 7) (a1 := z_fn 0 (B 91) i) (a2 := z_fn 0 (B 92) i) (a3 := z_fn 0 (B 93) i) (a4 := z_fn 0 (B 94) i) h
    refine ⟨(z_u (z_u (z_u R1.1 91 ((i, nI m) :: R1.1 91)) 93 ((i, -1) :: R1.1 93)) 96 ((i, z_nar .boolean 0) :: R1.1 96), R1.2.1, R1.2.2), z_WR.get (fun Q hq => t174_0 ?_), ⟨b2.1, b2.2.B rfl rfl rfl⟩, b3.tr (z_XR_B (fun q r => by rw [z_un (by omega), z_un (by omega), z_un (by omega)]))⟩
    unfold p174_0
    rw [zc]
    refine ⟨zi, z_ifn ht ?_⟩
    unfold p174_9
    rw [zc]
    refine ⟨zi, zi, zi, zi, _, R1, b1, _, rfl, ?_⟩
    unfold p174_44
    rw [zc]
    refine ⟨zi, ?_⟩
    unfold p174_72
    rw [zc]
    exact ⟨zi, zi, hq⟩
theorem e176 {i : Nat} (hi : i < d) (h : z_Dz x y d R) : ∃ R', z_Rr 17 176 0 [(0, .ref 148), (1, .int (nI i))] [] R none R' ∧ z_Dz x y d R' ∧ z_XR R R' := by
  obtain ⟨R1, c1, c2, c3⟩ := e174 hi h
  obtain ⟨zi, zc⟩ := z_i50 h.2.2.1 hi
  by_cases ht : z_fn 0 (R1.1 88) i < 0
  · refine ⟨(z_u (z_u (z_u R1.1 89 ((i, z_fn 0 (R1.1 91) i) :: R1.1 89)) 90 ((i, z_fn 0 (R1.1 92) i) :: R1.1 90)) 91 ((i, -1) :: R1.1 91), R1.2.1, R1.2.2), z_WR.get (fun Q hq => t176_0 (B := R.1) (M := R.2.1) (U := R.2.2) ⟨none, R1, c1, rfl, ?_⟩), ⟨c2.1, c2.2.B rfl rfl rfl⟩, c3.tr (z_XR_B (fun q r => by rw [z_un (by omega), z_un (by omega), z_un (by omega)]))⟩
    unfold p176_5
    rw [zc]
    refine ⟨zi, z_ifp ht ?_⟩
    unfold p176_57
    rw [zc]
    refine ⟨zi, zi, zi, zi, ?_⟩
    unfold p176_81
    rw [zc]
    exact ⟨zi, hq⟩
  · obtain ⟨m, R2, hm, b1, b2, b3, b4⟩ := e172 (k := z_fn 0 (R1.1 88) i) (a1 := z_fn 0 (R1.1 89) i) (a2 := z_fn 0 (R1.1 90) i) (a3 := z_fn 0 (R1.1 91) i) (a4 := z_fn 0 (R1.1 92) i) c2
    refine ⟨(z_u (z_u R2.1 89 ((i, nI m) :: R2.1 89)) 91 ((i, -1) :: R2.1 91), R2.2.1, R2.2.2), z_WR.get (fun Q hq => t176_0 (B := R.1) (M := R.2.1) (U := R.2.2) ⟨none, R1, c1, rfl, ?_⟩), ⟨b2.1, b2.2.B rfl rfl rfl⟩, c3.tr (b3.tr (z_XR_B (fun q r => by rw [z_un (by omega), z_un (by omega)])))⟩
    unfold p176_5
    rw [zc]
    refine ⟨zi, z_ifn ht ?_⟩
    unfold p176_14
    rw [zc]
    refine ⟨zi, zi, zi, zi, zi, _, R2, b1.up (by decide), _, rfl, ?_⟩
    unfold p176_53
    rw [zc]
    refine ⟨zi, ?_⟩
    unfold p176_81
    rw [zc]
    exact ⟨zi, hq⟩
theorem e177 {i : Nat} (hi : i < d) (h : z_Dz x y d R) : ∃ R', z_Rr 18 177 0 [(0, .ref 148), (1, .int (nI i))] [] R none R' ∧ z_Dz x y d R' ∧ z_XR R R' := by
  obtain ⟨R1, c1, c2, c3⟩ := e176 hi h
  obtain ⟨zi, zc⟩ := z_i50 h.2.2.1 hi
  have fin : ∀ R2, z_Dz x y d R2 → z_XR R R2 → (∀ Q, Q none (z_u R2.1 88 ((i, -1) :: R2.1 88), R2.2.1, R2.2.2) → p177_5 17 R1.1 R1.2.1 R1.2.2 (nI i) Q) → ∃ R', z_Rr 18 177 0 [(0, .ref 148), (1, .int (nI i))] [] R none R' ∧ z_Dz x y d R' ∧ z_XR R R' := by
    intro R2 g1 g2 g3
    exact ⟨(z_u R2.1 88 ((i, -1) :: R2.1 88), R2.2.1, R2.2.2), z_WR.get (fun Q hq => t177_0 (B := R.1) (M := R.2.1) (U := R.2.2) ⟨none, R1, c1, rfl, g3 Q hq⟩), ⟨g1.1, g1.2.B rfl rfl rfl⟩, g2.tr (z_XR_B (fun q r => z_un (by omega)))⟩
  have end97 : ∀ (R2 : z_RS) Q, Q none (z_u R2.1 88 ((i, -1) :: R2.1 88), R2.2.1, R2.2.2) → p177_97 17 R2.1 R2.2.1 R2.2.2 (nI i) Q := by
    intro R2 Q hq
    unfold p177_97
    rw [zc]
    exact ⟨zi, hq⟩
  have p64 : ∃ R2, z_Dz x y d R2 ∧ z_XR R R2 ∧ ∀ Q, Q none (z_u R2.1 88 ((i, -1) :: R2.1 88), R2.2.1, R2.2.2) → p177_64 17 R1.1 R1.2.1 R1.2.2 (nI i) Q := by
    by_cases hc : 0 ≤ z_fn 0 (R1.1 85) i
    · refine ⟨R1, c2, c3, fun Q hq => ?_⟩
      unfold p177_64
      rw [zc]
      exact ⟨zi, z_ifp hc (end97 R1 Q hq)⟩
    · refine ⟨(z_u (z_u R1.1 86 ((i, z_fn 0 (R1.1 89) i) :: R1.1 86)) 87 ((i, z_fn 0 (R1.1 90) i) :: R1.1 87), R1.2.1, R1.2.2), ⟨c2.1, c2.2.B rfl rfl rfl⟩, c3.tr (z_XR_B (fun q r => by rw [z_un (by omega), z_un (by omega)])), fun Q hq => ?_⟩
      unfold p177_64
      rw [zc]
      refine ⟨zi, z_ifn hc ?_⟩
      unfold p177_73
      rw [zc]
      exact ⟨zi, zi, zi, zi, end97 (z_u (z_u R1.1 86 ((i, z_fn 0 (R1.1 89) i) :: R1.1 86)) 87 ((i, z_fn 0 (R1.1 90) i) :: R1.1 87), R1.2.1, R1.2.2) Q hq⟩
  obtain ⟨R2, g1, g2, g3⟩ := p64
  by_cases h0 : R1.2.2 41 11 = 0
  · by_cases hc : z_fn 0 (R1.1 85) i < 0
    · refine fin R2 g1 g2 (fun Q hq => z_ifp h0 ?_)
      unfold p177_12
      rw [zc]
      exact ⟨zi, z_ifp hc (g3 Q hq)⟩
    · obtain ⟨m, R3, hm, b1, b2, b3, b4⟩ := e172 (k := z_fn 0 (R1.1 85) i) (a1 := z_fn 0 (R1.1 86) i) (a2 := z_fn 0 (R1.1 87) i) (a3 := z_fn 0 (R1.1 89) i) (a4 := z_fn 0 (R1.1 90) i) c2
      refine fin (z_u R3.1 86 ((i, nI m) :: R3.1 86), R3.2.1, R3.2.2) ⟨b2.1, b2.2.B rfl rfl rfl⟩ (c3.tr (b3.tr (z_XR_B (fun q r => z_un (by omega))))) (fun Q hq => z_ifp h0 ?_)
      unfold p177_12
      rw [zc]
      refine ⟨zi, z_ifn hc ?_⟩
      unfold p177_21
      rw [zc]
      refine ⟨zi, zi, zi, zi, zi, _, R3, b1.up (by decide), _, rfl, ?_⟩
      unfold p177_60
      rw [zc]
      exact ⟨zi, end97 (z_u R3.1 86 ((i, nI m) :: R3.1 86), R3.2.1, R3.2.2) Q hq⟩
  · exact fin R2 g1 g2 (fun Q hq => z_ifn h0 (g3 Q hq))
end ZE2
