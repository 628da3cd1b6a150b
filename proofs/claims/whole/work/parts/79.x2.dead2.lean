/-! Reading programs, once the class has ended: what the reference still does. -/
def z_o6 (v : Int32) : Prop := v = -1 ∨ ∃ m, m < 600 ∧ v = nI m
/-- the reference's open expressions: what they are parts of -/
def z_Zd (d : Nat) (R : z_RS) : Prop := R.2.2 41 52 = nI d ∧ d ≤ 50 ∧ (∃ nn, nn ≤ 600 ∧ R.2.2 41 26 = nI nn) ∧ ∀ i, i < d → (z_o6 (z_fn 0 (R.1 80) i) ∧ z_o6 (z_fn 0 (R.1 95) i)) ∧ (∃ w, w < 304 ∧ ¬ w = 3 ∧ z_fn 0 (R.1 81) i = nI w) ∧ (i = 0 → z_fn 0 (R.1 80) i = -1)
def z_Dz (x y : Int32) (d : Nat) (R : z_RS) : Prop := z_Qd x y R.2.2 ∧ z_Zd d R
theorem z_Zd.cg {d : Nat} {R R' : z_RS} (h : z_Zd d R) (h1 : R'.1 80 = R.1 80) (h2 : R'.1 81 = R.1 81) (h3 : R'.1 95 = R.1 95) (h4 : R'.2.2 41 52 = R.2.2 41 52) (h5 : R'.2.2 41 26 = R.2.2 41 26) : z_Zd d R' := by
  unfold z_Zd at h ⊢
  rw [h1, h2, h3, h4, h5]
  exact h
theorem z_Zd.xr {d : Nat} {R R' : z_RS} (h : z_Zd d R) (hx : z_Xr R R') : z_Zd d R' := h.cg (hx.1 80 (by decide) (by decide)) (hx.1 81 (by decide) (by decide)) (hx.1 95 (by decide) (by decide)) (hx.2.2.1 41 52 (by decide)) (hx.2.2.1 41 26 (by decide))
theorem z_Zd.lw {d : Nat} {R R' : z_RS} (h : z_Zd d R) (hx : z_Lw R R') : z_Zd d R' := h.xr hx.xr
theorem z_Zd.B {d : Nat} {R : z_RS} {B' : Nat → List (Nat × Int32)} (h : z_Zd d R) (h1 : B' 80 = R.1 80) (h2 : B' 81 = R.1 81) (h3 : B' 95 = R.1 95) : z_Zd d (B', R.2.1, R.2.2) := h.cg h1 h2 h3 rfl rfl
theorem z_XR_B {R : z_RS} {B' : Nat → List (Nat × Int32)} (h : ∀ k, k ≤ 45 → B' k = R.1 k) : z_XR R (B', R.2.1, R.2.2) := ⟨h, rfl, fun _ _ _ => rfl, fun h => ⟨h, rfl⟩⟩
theorem z_XR_U {R : z_RS} {U' : Nat → Nat → Int32} (h2 : ∀ k j, ¬ (k = 41 ∧ 13 ≤ j ∧ j ≤ 75) → U' k j = R.2.2 k j) : z_XR R (R.1, R.2.1, U') := ⟨fun _ _ => rfl, rfl, fun k j q => h2 k j (fun r => q ⟨r.1, by omega, r.2.2⟩), fun e => ⟨(h2 41 11 (by omega)).symm.trans e, h2 41 12 (by omega)⟩⟩
theorem z_Qd.U {x y : Int32} {U U' : Nat → Nat → Int32} (h : z_Qd x y U) (h7 : U' 41 7 = U 41 7) (h8 : U' 41 8 = U 41 8) (h11 : U' 41 11 = U 41 11) (h12 : U' 41 12 = U 41 12) : z_Qd x y U' := by
  unfold z_Qd at h ⊢
  rw [h7, h8, h11, h12]
  exact h
theorem z_o6_in {m : Nat} (h : m < 600) : z_in (nI m) 600 = true ∧ (nI m).toNatClampNeg = m := ⟨z_inI h (by decide), nI_clamp (by omega)⟩
section ZE1
variable {R : z_RS} {x y : Int32} {d : Nat}
theorem e154 {k : Int32} (h : z_Dz x y d R) (hk : ¬ k = 5) : ∃ R', z_Rr 14 154 0 [(0, .ref 148), (1, .int k)] [] R none R' ∧ z_Dz x y d R' ∧ z_Td x y R'.2.2 ∧ z_XR R R' := by
  obtain ⟨R', a1, a2, a3⟩ := d154 (x := k) h.1 hk
  exact ⟨R', a1, ⟨a3.q, h.2.lw a2⟩, a3, a2.xR⟩
theorem e155 (h : z_Dz x y d R) : ∃ v R', z_Rr 16 155 0 [(0, .ref 148)] [] R (some (.int v)) R' ∧ z_Dz x y d R' ∧ z_XR R R' := by
  obtain ⟨v, R', a1, a2, a3⟩ := d155 h.1
  exact ⟨v, R', a1, ⟨a2, h.2.xr a3⟩, a3.xR⟩
theorem e156 (h : z_Dz x y d R) : ∃ v R', z_Rr 14 156 0 [(0, .ref 148)] [] R (some (.int v)) R' ∧ z_Dz x y d R' ∧ z_XR R R' := by
  obtain ⟨v, R', a1, a2, a3⟩ := d156 h.1
  exact ⟨v, R', a1, ⟨a3, h.2.lw a2⟩, a2.xR⟩
theorem e151 {l : Nat} (h : z_Dz x y d R) : ∃ R', z_Rr (l + 1) 151 0 [(0, .ref 148)] [] R none R' ∧ z_Dz x y d R' ∧ z_Td x y R'.2.2 ∧ z_XR R R' := by
  obtain ⟨R', a1, a2, a3⟩ := d151 (l := l) h.1
  exact ⟨R', a1, ⟨a3.q, h.2.lw a2⟩, a3, a2.xR⟩
theorem e159 {l : Nat} {u v : Int32} (h : z_Dz x y d R) : ∃ R', z_Rr (l + 1) 159 0 [(0, .ref 148), (1, .int u), (2, .int v)] [] R none R' ∧ z_Dz x y d R' ∧ z_XR R R' ∧ R'.2.2 41 53 = 0 := by
  obtain ⟨B, M, U⟩ := R
  refine ⟨(B, M, z_v (z_v (z_v (z_v U 41 73 u) 41 74 v) 41 75 (-1)) 41 53 0), z_WR.get (fun Q hq => t159_0 hq), ⟨h.1.U rfl rfl rfl rfl, h.2.cg rfl rfl rfl rfl rfl⟩, z_XR_U (R := (B, M, U)) (fun k j q => ?_), rfl⟩
  rw [z_vn (by omega), z_vn (by omega), z_vn (by omega), z_vn (by omega)]
theorem e163 {k : Int32} (h : z_Dz x y d R) : ∃ m R', m < 600 ∧ z_Rr 14 163 0 [(0, .ref 148), (1, .int k)] [] R (some (.int (nI m))) R' ∧ z_Dz x y d R' ∧ z_XR R R' ∧ R'.2.2 41 53 = R.2.2 41 53 := by
  obtain ⟨B, M, U⟩ := R
  obtain ⟨h1, h2, h3, ⟨nn, h4, h5⟩, h6⟩ := id h
  have h5 : U 41 26 = nI nn := h5
  rcases id h1 with ht | ⟨hx, h0, h7, h8⟩
  · refine ⟨0, (B, M, U), by decide, z_WR.get (fun Q hq => t163_0 ?_), h, z_XR.rf, rfl⟩
    unfold p163_0
    refine z_ifn (z_Td.n0 ht) ?_
    exact z_ifn ht.1 hq
  · have h0 : U 41 11 = 0 := h0
    have h7 : U 41 7 = 5 := h7
    by_cases hn : nn = 600
    · refine ⟨0, (B, M, z_UF U 2 (U 41 8)), by decide, z_WR.get (fun Q hq => t163_0 ?_), ⟨?_, h.2.cg rfl rfl rfl rfl rfl⟩, (z_Lw_F (R := (B, M, U)) (by decide)).xR, rfl⟩
      · unfold p163_0
        refine z_ifp h0 (z_ifp (by rw [h5, hn]; rfl) (z_ifp h7 ⟨none, _, f150 (R := (B, M, U)) h0, rfl, ?_⟩))
        unfold p163_34 p163_46
        exact z_ifn (show ¬ (2 : Int32) ≤ 0 by decide) hq
      · rw [hx, ← h8]
        exact z_Qd_F (by decide)
    · have hn6 : ¬ nI nn = 600 := fun q => hn ((nI_eq (a := nn) (b := 600) (by omega) (by omega)).mp q)
      have zi : z_in (nI nn) 600 = true := z_inI (by omega) (by decide)
      refine ⟨nn, (z_u (z_u B 57 ((nn, k) :: B 57)) 60 ((nn, -1) :: B 60), M, z_v U 41 26 (nI (nn + 1))), by omega, z_WR.get (fun Q hq => t163_0 ?_), ⟨h1.U rfl rfl rfl rfl, h2, h3, ⟨nn + 1, by omega, rfl⟩, h6⟩, ?_, rfl⟩
      · unfold p163_0
        refine z_ifp h0 (z_ifn (by rw [h5]; exact hn6) (z_ifp (by rw [h0]; decide) ?_))
        unfold p163_55
        rw [h5, nI_1, nI_pred, nI_clamp (by omega)]
        exact ⟨zi, zi, hq⟩
      · exact z_XR_BU (fun q r => by rw [z_un (by omega), z_un (by omega)]) (fun q r s => z_vn (by omega))
theorem e172 {k a1 a2 a3 a4 : Int32} (h : z_Dz x y d R) : ∃ m R', m < 600 ∧ z_Rr 15 172 0 [(0, .ref 148), (1, .int k), (2, .int a1), (3, .int a2), (4, .int a3), (5, .int a4)] [] R (some (.int (nI m))) R' ∧ z_Dz x y d R' ∧ z_XR R R' ∧ R'.2.2 41 53 = R.2.2 41 53 := by
  obtain ⟨m, R1, hm, b1, b2, b3, b4⟩ := e163 (k := k) h
  obtain ⟨zi, zc⟩ := z_o6_in hm
  by_cases h0 : R1.2.2 41 11 ≤ 0
  · refine ⟨m, (z_u (z_u (z_u (z_u R1.1 58 ((m, a1) :: R1.1 58)) 61 ((m, a2) :: R1.1 61)) 59 ((m, a3) :: R1.1 59)) 62 ((m, a4) :: R1.1 62), R1.2.1, R1.2.2), hm, z_WR.get (fun Q hq => t172_0 (B := R.1) (M := R.2.1) (U := R.2.2) ⟨_, R1, b1, _, rfl, z_ifp h0 ?_⟩), ⟨b2.1, b2.2.B rfl rfl rfl⟩, b3.tr (z_XR_B (fun q r => ?_)), b4⟩
    · unfold p172_16
      rw [zc]
      exact ⟨zi, zi, zi, zi, hq⟩
    · rw [z_un (by omega), z_un (by omega), z_un (by omega), z_un (by omega)]
  · exact ⟨0, R1, by decide, z_WR.get (fun Q hq => t172_0 (B := R.1) (M := R.2.1) (U := R.2.2) ⟨_, R1, b1, _, rfl, z_ifn h0 hq⟩), b2, b3, b4⟩
theorem e164 {m : Nat} (hm : m < 600) (h : z_Dz x y d R) : ∃ R', z_Rr 15 164 0 [(0, .ref 148), (1, .int (nI m))] [] R none R' ∧ z_Dz x y d R' ∧ z_XR R R' := by
  obtain ⟨B, M, U⟩ := R
  obtain ⟨zi, zc⟩ := z_o6_in hm
  by_cases h0 : U 41 11 ≤ 0
  · have hb : z_Dz x y d (z_u (z_u B 64 ((m, U 41 8) :: B 64)) 65 ((m, U 41 9) :: B 65), M, U) := ⟨h.1, h.2.B (R := (B, M, U)) rfl rfl rfl⟩
    obtain ⟨R', a1, a2, -, a4⟩ := e154 (k := 1) hb (by decide)
    refine ⟨R', z_WR.get (fun Q hq => t164_0 (z_ifp h0 ?_)), a2, (z_XR_B (R := (B, M, U)) (fun q r => by rw [z_un (by omega), z_un (by omega)])).tr a4⟩
    unfold p164_8
    rw [zc]
    exact ⟨zi, zi, none, R', a1, rfl, hq⟩
  · exact ⟨(B, M, U), z_WR.get (fun Q hq => t164_0 (z_ifn h0 hq)), h, z_XR.rf⟩
theorem e166 {m : Nat} (hm : m < 600) (h : z_Dz x y d R) : ∃ R', z_Rr 15 166 0 [(0, .ref 148), (1, .int (nI m))] [] R none R' ∧ z_Dz x y d R' ∧ z_XR R R' := by
  obtain ⟨B, M, U⟩ := R
  obtain ⟨zi, zc⟩ := z_o6_in hm
  by_cases h0 : U 41 11 ≤ 0
  · have hb : z_Dz x y d (z_u (z_u B 66 ((m, U 41 8) :: B 66)) 67 ((m, U 41 9) :: B 67), M, U) := ⟨h.1, h.2.B (R := (B, M, U)) rfl rfl rfl⟩
    obtain ⟨R', a1, a2, -, a4⟩ := e154 (k := 1) hb (by decide)
    refine ⟨R', z_WR.get (fun Q hq => t166_0 (z_ifp h0 ?_)), a2, (z_XR_B (R := (B, M, U)) (fun q r => by rw [z_un (by omega), z_un (by omega)])).tr a4⟩
    unfold p166_8
    rw [zc]
    exact ⟨zi, zi, none, R', a1, rfl, hq⟩
  · exact ⟨(B, M, U), z_WR.get (fun Q hq => t166_0 (z_ifn h0 hq)), h, z_XR.rf⟩
theorem e180 {l : Nat} {v : Int32} (hd : 0 < d) (h : z_Dz x y d R) : ∃ R', z_Rr (l + 1) 180 0 [(0, .ref 148), (1, .int v)] [] R none R' ∧ z_Dz x y d R' ∧ z_XR R R' ∧ R'.2.2 41 53 = 3 := by
  obtain ⟨B, M, U⟩ := R
  obtain ⟨h1, h2, h3, h4, h5⟩ := id h
  have h2 : U 41 52 = nI d := h2
  have e : nI d - 1 = nI (d - 1) := by rw [show (1 : Int32) = nI 1 from rfl, pk_sub (by omega)]
  refine ⟨(B, M, z_v (z_v (z_v U 41 54 v) 41 55 (z_fn 0 (B 82) (nI d - 1).toNatClampNeg)) 41 53 3), z_WR.get (fun Q hq => t180_0 ?_), ⟨h.1.U rfl rfl rfl rfl, h.2.cg rfl rfl rfl rfl rfl⟩, z_XR_U (R := (B, M, U)) (fun k j q => ?_), rfl⟩
  · unfold p180_0
    rw [h2]
    exact ⟨by rw [e]; exact z_inI (by omega) (by decide), hq⟩
  · rw [z_vn (by omega), z_vn (by omega), z_vn (by omega)]
end ZE1
