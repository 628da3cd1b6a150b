/-! Reading programs, once the class has ended: the reference's loop. -/
section ZE3
variable {R : z_RS} {x y : Int32} {d : Nat}
theorem e170 {l : Nat} (h5 : R.2.2 41 7 = 5) : z_Rr (l + 1) 170 0 [(0, .ref 148)] [] R (some (.int 0)) R := by
  refine z_WR.get (fun Q hq => t170_0 (B := R.1) (M := R.2.1) (U := R.2.2) ?_)
  unfold p170_0
  refine z_ifn (by rw [h5]; decide) ?_
  unfold p170_8
  refine z_ifn (by rw [h5]; decide) ?_
  unfold p170_18
  refine z_ifn (by rw [h5]; decide) ?_
  unfold p170_28
  refine z_ifn (by rw [h5]; decide) ?_
  unfold p170_37
  refine z_ifn (by rw [h5]; decide) ?_
  exact ⟨Or.inl rfl, hq⟩
theorem e173 {i : Nat} (hi : i < d) (h : z_Dz x y d R) (h5 : R.2.2 41 7 = 5) : ∃ R', z_Rr 19 173 0 [(0, .ref 148), (1, .int (nI i))] [] R none R' ∧ z_Dz x y d R' ∧ z_XR R R' ∧ R'.2.2 41 53 = 3 := by
  obtain ⟨R1, c1, c2, c3⟩ := e177 hi h
  obtain ⟨zi, zc⟩ := z_i50 h.2.2.1 hi
  refine ⟨(R1.1, R1.2.1, z_v (z_v (z_v R1.2.2 41 54 (z_fn 0 (R1.1 86) i)) 41 55 (z_fn 0 (R1.1 82) i)) 41 53 3), z_WR.get (fun Q hq => t173_0 (B := R.1) (M := R.2.1) (U := R.2.2) ⟨_, R, e170 h5, 0, rfl, z_ifp rfl ?_⟩), ⟨c2.1.U rfl rfl rfl rfl, c2.2.cg rfl rfl rfl rfl rfl⟩, c3.tr (z_XR_U (fun k j q => by rw [z_vn (by omega), z_vn (by omega), z_vn (by omega)])), rfl⟩
  unfold p173_24
  refine z_ifn (by rw [h5]; decide) ?_
  unfold p173_45
  refine z_ifn (by rw [h5]; decide) ?_
  unfold p173_54
  refine z_ifn (by rw [h5]; decide) ?_
  unfold p173_98
  refine z_ifn (by rw [h5]; decide) ?_
  unfold p173_107
  refine z_ifn (by rw [h5]; decide) ?_
  refine ⟨none, R1, c1, rfl, ?_⟩
  unfold p173_166
  rw [zc]
  exact ⟨zi, zi, hq⟩
theorem e169 {v : Int32} (h : z_Dz x y d R) (h5 : R.2.2 41 7 = 5) : ∃ R', z_Rr 19 169 0 [(0, .ref 148), (1, .int v)] [] R none R' ∧ z_Td x y R'.2.2 ∧ z_XR R R' := by
  obtain ⟨R1, c1, c2, c3, c4⟩ := e151 (l := 17) h
  refine ⟨R1, z_WR.get (fun Q hq => t169_0 (B := R.1) (M := R.2.1) (U := R.2.2) ?_), c3, c4⟩
  unfold p169_0
  refine z_ifn (by rw [h5]; decide) ?_
  unfold p169_105
  refine z_ifn (by rw [h5]; decide) ?_
  unfold p169_149
  refine z_ifn (by rw [h5]; decide) ?_
  unfold p169_159
  refine z_ifn (by rw [h5]; decide) ?_
  unfold p169_216
  refine z_ifn (by rw [h5]; decide) ?_
  unfold p169_268
  refine z_ifn (by rw [h5]; decide) ?_
  exact ⟨none, R1, c1, rfl, hq⟩
theorem e160 (h : z_Dz x y d R) (h5 : R.2.2 41 7 = 5) : ∃ R', z_Rr 19 160 0 [(0, .ref 148)] [] R none R' ∧ z_Td x y R'.2.2 ∧ z_XR R R' := by
  obtain ⟨R1, c1, c2, c3, c4⟩ := e151 (l := 17) h
  refine ⟨R1, z_WR.get (fun Q hq => t160_0 (B := R.1) (M := R.2.1) (U := R.2.2) ?_), c3, c4⟩
  unfold p160_0
  refine z_ifp h5 ⟨none, R1, c1, rfl, ?_⟩
  unfold p160_12 p160_33
  exact z_ifn c3.1 hq
theorem e181 {m : Nat} (hm : m < 600) (h : z_Dz x y d R) : ∃ R', z_Rr 17 181 0 [(0, .ref 148), (1, .int (nI m))] [] R none R' ∧ z_Dz x y d R' ∧ z_Td x y R'.2.2 ∧ z_XR R R' := by
  obtain ⟨zi, zc⟩ := z_o6_in hm
  obtain ⟨R1, a1, a2, a3, a4⟩ := e154 (k := 309) h (by decide)
  obtain ⟨v, R2, b1, b2, b3⟩ := e156 a2
  have b2' : z_Dz x y d (z_u R2.1 70 ((m, v) :: R2.1 70), R2.2.1, R2.2.2) := ⟨b2.1, b2.2.B rfl rfl rfl⟩
  obtain ⟨R3, c1, c2, c3, c4⟩ := e154 (k := 310) b2' (by decide)
  obtain ⟨R4, d1, d2, d3⟩ := e164 hm c2
  obtain ⟨R5, f1, f2, f3, f4⟩ := e154 (k := 4) d2 (by decide)
  obtain ⟨R6, g1, g2, g3, g4⟩ := e159 (l := 15) (u := nI m) (v := 1) f2
  have td : z_Td x y R6.2.2 := by
    rcases g2.1 with q | ⟨-, q, -⟩
    · exact q
    · exact absurd (g3.2.2.2 q).1 f3.n0
  refine ⟨R6, z_WR.get (fun Q hq => t181_0 (B := R.1) (M := R.2.1) (U := R.2.2) ⟨none, R1, a1.up (by decide), rfl, _, R2, b1.up (by decide), v, rfl, ?_⟩), g2, td, a4.tr (b3.tr ((z_XR_B (fun q r => z_un (by omega))).tr (c4.tr (d3.tr (f4.tr g3)))))⟩
  unfold p181_16
  rw [zc]
  exact ⟨zi, none, R3, c1.up (by decide), rfl, none, R4, d1.up (by decide), rfl, none, R5, f1.up (by decide), rfl, none, R6, g1, rfl, hq⟩
theorem e182 {m : Nat} (hm : m < 600) (hd : 0 < d) (h : z_Dz x y d R) (h5 : R.2.2 41 7 = 5) : ∃ R', z_Rr 17 182 0 [(0, .ref 148), (1, .int (nI m))] [] R none R' ∧ z_Dz x y d R' ∧ z_Td x y R'.2.2 ∧ z_XR R R' := by
  obtain ⟨R1, a1, a2, a3, a4⟩ := e154 (k := 311) h (by decide)
  obtain ⟨R2, b1, b2, b3, b4⟩ := e180 (l := 15) (v := nI m) hd a2
  have td : z_Td x y R2.2.2 := by
    rcases b2.1 with q | ⟨-, q, -⟩
    · exact q
    · exact absurd (b3.2.2.2 q).1 a3.n0
  refine ⟨R2, z_WR.get (fun Q hq => t182_0 (B := R.1) (M := R.2.1) (U := R.2.2) ?_), b2, td, a4.tr b3⟩
  unfold p182_0
  exact z_ifn (by rw [h5]; decide) ⟨none, R1, a1.up (by decide), rfl, none, R2, b1, rfl, hq⟩
/-- what part does behind its writing -/
theorem e179b {m w : Nat} (hm : m < 600) (hw : w < 304) (hd : 0 < d) (h : z_Dz x y d R) (h5 : R.2.2 41 7 = 5) : ∃ R', (∀ Q, Q none R' → p179_107 17 R.1 R.2.1 R.2.2 (nI m) (nI w) Q) ∧ z_Dz x y d R' ∧ z_XR R R' ∧ (z_Td x y R'.2.2 ∨ R'.2.2 41 53 = 3) := by
  obtain ⟨zi, zc⟩ := z_o6_in hm
  obtain ⟨Rw, w1, w2, w3, w4⟩ := e180 (l := 16) (v := nI m) hd h
  -- need, then ask
  have na : ∀ (k v : Int32), ¬ k = 5 → ∃ R1 R2, z_Rr 17 154 0 [(0, .ref 148), (1, .int k)] [] R none R1 ∧ z_Rr 17 159 0 [(0, .ref 148), (1, .int (nI m)), (2, .int v)] [] R1 none R2 ∧ z_Dz x y d R2 ∧ z_XR R R2 ∧ z_Td x y R2.2.2 := by
    intro k v hk
    obtain ⟨R1, a1, a2, a3, a4⟩ := e154 (k := k) h hk
    obtain ⟨R2, g1, g2, g3, g4⟩ := e159 (l := 16) (u := nI m) (v := v) a2
    refine ⟨R1, R2, a1.up (by decide), g1, g2, a4.tr g3, ?_⟩
    rcases g2.1 with q | ⟨-, q, -⟩
    · exact q
    · exact absurd (g3.2.2.2 q).1 a3.n0
  by_cases k0 : z_fn 0 (R.1 57) m = 0 ∨ z_fn 0 (R.1 57) m = 1
  · by_cases e0 : nI w = 0
    · obtain ⟨R1, R2, a1, a2, a3, a4, a5⟩ := na 303 1 (by decide)
      refine ⟨R2, fun Q hq => ?_, a3, a4, Or.inl a5⟩
      have q144 : p179_144 17 R.1 R.2.1 R.2.2 (nI m) (nI w) Q := z_ifp e0 ⟨none, R1, a1, rfl, none, R2, a2, rfl, hq⟩
      unfold p179_107
      rw [zc]
      refine ⟨zi, ?_⟩
      rcases k0 with k0 | k0
      · exact z_ifp k0 q144
      · exact z_ifn (by rw [k0]; decide) (z_ifp k0 q144)
    · refine ⟨Rw, fun Q hq => ?_, w2, w3, Or.inr w4⟩
      have q144 : p179_144 17 R.1 R.2.1 R.2.2 (nI m) (nI w) Q := z_ifn e0 ⟨none, Rw, w1, rfl, hq⟩
      unfold p179_107
      rw [zc]
      refine ⟨zi, ?_⟩
      rcases k0 with k0 | k0
      · exact z_ifp k0 q144
      · exact z_ifn (by rw [k0]; decide) (z_ifp k0 q144)
  · have k0a : ¬ z_fn 0 (R.1 57) m = 0 := fun q => k0 (Or.inl q)
    have k0b : ¬ z_fn 0 (R.1 57) m = 1 := fun q => k0 (Or.inr q)
    by_cases k2 : z_fn 0 (R.1 57) m = 2
    · by_cases e2 : nI w = 2
      · refine ⟨Rw, fun Q hq => ?_, w2, w3, Or.inr w4⟩
        unfold p179_107
        rw [zc]
        exact ⟨zi, z_ifn k0a (z_ifn k0b (z_ifp k2 (z_ifp e2 ⟨none, Rw, w1, rfl, hq⟩)))⟩
      · by_cases e0 : nI w = 0
        · obtain ⟨R1, R2, a1, a2, a3, a4, a5⟩ := na 305 (nI w + 1) (by decide)
          refine ⟨R2, fun Q hq => ?_, a3, a4, Or.inl a5⟩
          unfold p179_107
          rw [zc]
          exact ⟨zi, z_ifn k0a (z_ifn k0b (z_ifp k2 (z_ifn e2 (z_ifp e0 ⟨none, R1, a1, rfl, none, R2, a2, rfl, hq⟩))))⟩
        · obtain ⟨R1, R2, a1, a2, a3, a4, a5⟩ := na 306 (nI w + 1) (by decide)
          refine ⟨R2, fun Q hq => ?_, a3, a4, Or.inl a5⟩
          unfold p179_107
          rw [zc]
          exact ⟨zi, z_ifn k0a (z_ifn k0b (z_ifp k2 (z_ifn e2 (z_ifn e0 ⟨none, R1, a1, rfl, none, R2, a2, rfl, hq⟩))))⟩
    · by_cases k3 : z_fn 0 (R.1 57) m = 3
      · refine ⟨Rw, fun Q hq => ?_, w2, w3, Or.inr w4⟩
        unfold p179_107
        rw [zc]
        exact ⟨zi, z_ifn k0a (z_ifn k0b (z_ifn k2 (z_ifp k3 ⟨none, Rw, w1, rfl, hq⟩)))⟩
      · by_cases e0 : nI w = 0
        · obtain ⟨R1, a1, a2, a3, a4⟩ := e181 hm h
          refine ⟨R1, fun Q hq => ?_, a2, a4, Or.inl a3⟩
          unfold p179_107
          rw [zc]
          exact ⟨zi, z_ifn k0a (z_ifn k0b (z_ifn k2 (z_ifn k3 (z_ifp e0 ⟨none, R1, a1, rfl, hq⟩))))⟩
        · obtain ⟨R1, a1, a2, a3, a4⟩ := e182 hm hd h h5
          refine ⟨R1, fun Q hq => ?_, a2, a4, Or.inl a3⟩
          unfold p179_107
          rw [zc]
          exact ⟨zi, z_ifn k0a (z_ifn k0b (z_ifn k2 (z_ifn k3 (z_ifn e0 ⟨none, R1, a1, rfl, hq⟩))))⟩
theorem e179 {m w : Nat} (hm : m < 600) (hw : w < 304) (h3 : ¬ w = 3) (hd : 0 < d) (h : z_Dz x y d R) (h5 : R.2.2 41 7 = 5) : ∃ R', z_Rr 18 179 0 [(0, .ref 148), (1, .int (nI m)), (2, .int (nI w))] [] R none R' ∧ z_Dz x y d R' ∧ z_XR R R' ∧ (z_Td x y R'.2.2 ∨ R'.2.2 41 53 = 3) := by
  obtain ⟨zi, zc⟩ := z_o6_in hm
  have go : ∀ (B' : Nat → List (Nat × Int32)), (∀ k, k ≤ 45 → B' k = R.1 k) → B' 80 = R.1 80 → B' 81 = R.1 81 → B' 95 = R.1 95 → (∀ Q, p179_107 17 B' R.2.1 R.2.2 (nI m) (nI w) Q → p179_0 17 R.1 R.2.1 R.2.2 (nI m) (nI w) Q) → ∃ R', z_Rr 18 179 0 [(0, .ref 148), (1, .int (nI m)), (2, .int (nI w))] [] R none R' ∧ z_Dz x y d R' ∧ z_XR R R' ∧ (z_Td x y R'.2.2 ∨ R'.2.2 41 53 = 3) := by
    intro B' g1 g2 g3 g4 g5
    obtain ⟨R', a1, a2, a3, a4⟩ := e179b (R := (B', R.2.1, R.2.2)) hm hw hd ⟨h.1, h.2.B g2 g3 g4⟩ h5
    exact ⟨R', z_WR.get (fun Q hq => t179_0 (B := R.1) (M := R.2.1) (U := R.2.2) (g5 Q (a1 Q hq))), a2, (z_XR_B g1).tr a3, a4⟩
  by_cases e0 : w = 0
  · refine go (z_u (z_u R.1 58 ((m, R.2.2 41 54) :: R.1 58)) 61 ((m, R.2.2 41 55) :: R.1 61)) (fun q r => by rw [z_un (by omega), z_un (by omega)]) rfl rfl rfl (fun Q hq => z_ifp (by rw [e0]; rfl) ?_)
    unfold p179_4
    rw [zc]
    exact ⟨zi, zi, hq⟩
  · have n0 : ¬ nI w = 0 := nI_ne0 (by omega) (by omega)
    by_cases e1 : w = 1
    · refine go (z_u (z_u R.1 59 ((m, R.2.2 41 54) :: R.1 59)) 62 ((m, R.2.2 41 55) :: R.1 62)) (fun q r => by rw [z_un (by omega), z_un (by omega)]) rfl rfl rfl (fun Q hq => z_ifn n0 (z_ifp (by rw [e1]; rfl) ?_))
      unfold p179_32
      rw [zc]
      exact ⟨zi, zi, hq⟩
    · have n1 : ¬ nI w = 1 := fun q => e1 ((nI_eq (a := w) (b := 1) (by omega) (by omega)).mp q)
      by_cases e2 : w = 2
      · refine go (z_u (z_u R.1 60 ((m, R.2.2 41 54) :: R.1 60)) 63 ((m, R.2.2 41 55) :: R.1 63)) (fun q r => by rw [z_un (by omega), z_un (by omega)]) rfl rfl rfl (fun Q hq => z_ifn n0 (z_ifn n1 (z_ifp (by rw [e2]; rfl) ?_)))
        unfold p179_60
        rw [zc]
        exact ⟨zi, zi, hq⟩
      · have n2 : ¬ nI w = 2 := fun q => e2 ((nI_eq (a := w) (b := 2) (by omega) (by omega)).mp q)
        have e4 : nI w - 4 = nI (w - 4) := by rw [show (4 : Int32) = nI 4 from rfl, pk_sub (by omega)]
        have z4 : z_in (nI w - 4) 300 = true := by
          rw [e4]
          exact z_inI (by omega) (by decide)
        refine go (z_u (z_u R.1 77 (((nI w - 4).toNatClampNeg, R.2.2 41 54) :: R.1 77)) 78 (((nI w - 4).toNatClampNeg, R.2.2 41 55) :: R.1 78)) (fun q r => by rw [z_un (by omega), z_un (by omega)]) rfl rfl rfl (fun Q hq => z_ifn n0 (z_ifn n1 (z_ifn n2 ?_)))
        exact ⟨z4, z4, hq⟩
theorem z_Zd.dn (h : z_Zd (d + 1) R) : z_Zd d (R.1, R.2.1, z_v R.2.2 41 52 (nI d)) := ⟨rfl, by have := h.2.1; omega, h.2.2.1, fun i hi => h.2.2.2 i (by omega)⟩
theorem e178 (h : z_Dz x y (d + 1) R) (h5 : R.2.2 41 7 = 5) (h0 : R.2.2 41 11 = 0) : ∃ R', z_Rr 19 178 0 [(0, .ref 148)] [] R none R' ∧ z_Dz x y d R' ∧ z_XR R R' ∧ (z_Td x y R'.2.2 ∨ (R'.2.2 41 53 = 3 ∧ 0 < d)) := by
  have u52 : R.2.2 41 52 = nI (d + 1) := h.2.1
  have e1 : R.2.2 41 52 - 1 = nI d := by rw [u52]; exact nI_pred d
  have d50 := h.2.2.1
  have zi : z_in (nI d) 50 = true := z_inI (by omega) (by decide)
  have zc : (nI d).toNatClampNeg = d := nI_clamp (by omega)
  obtain ⟨⟨o6, -⟩, ⟨w, w1, w2, w3⟩, o0⟩ := h.2.2.2.2 d (by omega)
  have hD : z_Dz x y d (R.1, R.2.1, z_v R.2.2 41 52 (nI d)) := ⟨h.1.U rfl rfl rfl rfl, h.2.dn⟩
  have hX : z_XR R (R.1, R.2.1, z_v R.2.2 41 52 (nI d)) := z_XR_U (fun k j q => z_vn (by omega))
  have start : ∀ Q, (if z_fn 0 (R.1 80) d < 0 then p178_38 18 R.1 R.2.1 (z_v R.2.2 41 52 (nI d)) (nI d) (z_fn 0 (R.1 80) d) Q else p178_26 18 R.1 R.2.1 (z_v R.2.2 41 52 (nI d)) (nI d) (z_fn 0 (R.1 80) d) Q) → z_WR 19 178 0 [(0, .ref 148)] [] R Q := by
    intro Q hq
    refine t178_0 (B := R.1) (M := R.2.1) (U := R.2.2) ?_
    unfold p178_0
    rw [e1, zc]
    exact ⟨zi, hq⟩
  rcases o6 with o6 | ⟨m, m6, o6⟩
  · have neg : z_fn 0 (R.1 80) d < 0 := by
      rw [o6]
      decide
    by_cases hd : d = 0
    · obtain ⟨R1, a1, a2, a3, a4⟩ := e151 (l := 17) (R := (R.1, R.2.1, z_v (z_v (z_v R.2.2 41 52 (nI d)) 41 28 (R.2.2 41 54)) 41 53 4)) (x := x) (y := y) (d := d) ⟨hD.1.U rfl rfl rfl rfl, hD.2.cg rfl rfl rfl rfl rfl⟩
      refine ⟨R1, z_WR.get (fun Q hq => start Q (z_ifp neg ?_)), a2, hX.tr ((z_XR_U (R := (R.1, R.2.1, z_v R.2.2 41 52 (nI d))) (fun k j q => by rw [z_vn (by omega), z_vn (by omega)])).tr a4), Or.inl a3⟩
      unfold p178_38
      refine z_ifp (by rw [z_vk, hd]; rfl) ?_
      unfold p178_45
      refine z_ifn (by rw [z_vn (by decide), h5]; decide) ?_
      exact ⟨none, R1, a1, rfl, hq⟩
    · obtain ⟨R1, a1, a2, a3, a4⟩ := e154 (k := 41) hD (by decide)
      have u1 : R1.2.2 41 52 = nI d := a2.2.1
      have e2 : nI d - 1 = nI (d - 1) := by rw [show (1 : Int32) = nI 1 from rfl, pk_sub (by omega)]
      obtain ⟨R2, b1, b2, b3, b4⟩ := e171 (i := d - 1) (v := z_v R.2.2 41 52 (nI d) 41 54) (p := z_fn 0 (R.1 83) d) (by omega) a2
      have td : z_Td x y R2.2.2 := by
        rcases b2.1 with q | ⟨-, q, -⟩
        · exact q
        · exact absurd (b3.2.2.2 q).1 a3.n0
      refine ⟨R2, z_WR.get (fun Q hq => start Q (z_ifp neg ?_)), b2, hX.tr (a4.tr b3), Or.inl td⟩
      unfold p178_38
      refine z_ifn (by rw [z_vk]; exact nI_ne0 (by omega) (by omega)) ?_
      unfold p178_70
      rw [zc]
      refine ⟨zi, none, R1, a1.up (by decide), rfl, ?_⟩
      unfold p178_89
      rw [u1, e2]
      exact ⟨none, R2, b1.up (by decide), rfl, hq⟩
  · have pos : ¬ z_fn 0 (R.1 80) d < 0 := by
      rw [o6]
      exact nI_pos (by omega)
    have hd : 0 < d := by
      rcases Nat.eq_zero_or_pos d with e | e
      · have := o0 e
        rw [o6] at this
        have q := nI_pos' (n := m) (by omega)
        rw [this] at q
        exact absurd q (by decide)
      · exact e
    obtain ⟨R1, a1, a2, a3, a4⟩ := e179 m6 w1 w2 hd hD h5
    refine ⟨R1, z_WR.get (fun Q hq => start Q (z_ifn pos ?_)), a2, hX.tr a3, ?_⟩
    · unfold p178_26
      rw [zc, w3, o6]
      exact ⟨zi, none, R1, a1, rfl, hq⟩
    · rcases a4 with a4 | a4
      · exact Or.inl a4
      · exact Or.inr ⟨a4, hd⟩
/-- told: the loop ends -/
theorem eHt {Q : Option Value → z_RS → Prop} (h : z_Td x y R.2.2) (hq : Q none R) : z_WR 20 140 79 [(0, .ref 148)] [] R Q := t140_79 (B := R.1) (M := R.2.1) (U := R.2.2) (z_ifn h.n0 hq)
theorem eH3 {Q : Option Value → z_RS → Prop} : ∀ (d : Nat) (R : z_RS), z_Dz x y d R → 0 < d → R.2.2 41 53 = 3 → (∀ R', z_Td x y R'.2.2 → z_XR R R' → Q none R') → z_WR 20 140 79 [(0, .ref 148)] [] R Q := by
  intro d
  induction d with
  | zero => intro R _ h; omega
  | succ d ih =>
    intro R h hd hm hQ
    rcases id h.1 with ht | ⟨hx, h0, h5, h8⟩
    · exact eHt ht (hQ R ht z_XR.rf)
    · obtain ⟨R1, a1, a2, a3, a4⟩ := e178 h h5 h0
      refine t140_79 (B := R.1) (M := R.2.1) (U := R.2.2) (z_ifp h0 (z_ifn (by rw [hm]; decide) ?_))
      unfold p140_94
      refine z_ifn (by rw [hm]; decide) (z_ifn (by rw [hm]; decide) (z_ifn (by rw [hm]; decide) ⟨none, R1, a1, rfl, ?_⟩))
      rcases a4 with a4 | ⟨a4, a5⟩
      · exact eHt a4 (hQ R1 a4 a3)
      · exact ih R1 a2 a5 a4 (fun R' b1 b2 => hQ R' b1 (a3.tr b2))
theorem eH {Q : Option Value → z_RS → Prop} (h : z_Dz x y d R) (hm : z_Td x y R.2.2 ∨ R.2.2 41 53 = 0 ∨ (0 < d ∧ (R.2.2 41 53 = 1 ∨ R.2.2 41 53 = 2 ∨ R.2.2 41 53 = 3))) (hQ : ∀ R', z_Td x y R'.2.2 → z_XR R R' → Q none R') : z_WR 20 140 79 [(0, .ref 148)] [] R Q := by
  rcases id h.1 with ht | ⟨hx, h0, h5, h8⟩
  · exact eHt ht (hQ R ht z_XR.rf)
  · rcases hm with hm | hm | ⟨hd, hm | hm | hm⟩
    · exact absurd h0 hm.n0
    · obtain ⟨R1, a1, a2, a3⟩ := e160 h h5
      refine t140_79 (B := R.1) (M := R.2.1) (U := R.2.2) (z_ifp h0 (z_ifn (by rw [hm]; decide) ?_))
      unfold p140_94
      exact z_ifp hm ⟨none, R1, a1, rfl, eHt a2 (hQ R1 a2 a3)⟩
    · obtain ⟨R1, a1, a2, a3⟩ := e169 (v := R.2.2 41 52 - 1) h h5
      refine t140_79 (B := R.1) (M := R.2.1) (U := R.2.2) (z_ifp h0 (z_ifn (by rw [hm]; decide) ?_))
      unfold p140_94
      exact z_ifn (by rw [hm]; decide) (z_ifp hm ⟨none, R1, a1, rfl, eHt a2 (hQ R1 a2 a3)⟩)
    · have u52 : R.2.2 41 52 = nI d := h.2.1
      have e1 : R.2.2 41 52 - 1 = nI (d - 1) := by rw [u52, show (1 : Int32) = nI 1 from rfl, pk_sub (by omega)]
      obtain ⟨R1, a1, a2, a3, a4⟩ := e173 (i := d - 1) (by omega) h h5
      refine t140_79 (B := R.1) (M := R.2.1) (U := R.2.2) (z_ifp h0 (z_ifn (by rw [hm]; decide) ?_))
      unfold p140_94
      refine z_ifn (by rw [hm]; decide) (z_ifn (by rw [hm]; decide) (z_ifp hm ?_))
      unfold p140_144
      rw [e1]
      exact ⟨none, R1, a1, rfl, eH3 d R1 a2 hd a4 (fun R' b1 b2 => hQ R' b1 (a3.tr b2))⟩
    · exact eH3 d R h hd hm hQ
end ZE3
