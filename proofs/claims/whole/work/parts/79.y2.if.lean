/-! Reading programs, both together: if. -/
section ZY2
variable {b : Nat → Nat} {n me : Nat} {ep : Nat → Nat} {j : Nat} {t : Nat × Nat × Int32} {τ : z_TT} {s nn kk w d k e : Nat} {S : z_CS} {R : z_RS}
/-- an entry of an instruction is written -/
theorem z_Cs.put {k i : Nat} {v : Int32} (hi : i < s ∨ e ≤ i) : z_Cs s e S (z_u S.1 k ((i, v) :: S.1 k), S.2.1, S.2.2.1, S.2.2.2.1, S.2.2.2.2.1, S.2.2.2.2.2) := by
  intro q a b' r c h
  show z_fn 0 (z_u S.1 k ((i, v) :: S.1 k) q) r = z_fn 0 (S.1 q) r
  by_cases e1 : q = k
  · subst e1
    rw [z_uk, z_fcn (by omega)]
  · rw [z_un e1]
theorem z_FC.put {k i : Nat} {v : Int32} (hk : 14 ≤ k ∧ k ≤ 19) (hi : s ≤ i) : z_FC s w S (z_u S.1 k ((i, v) :: S.1 k), S.2.1, S.2.2.1, S.2.2.2.1, S.2.2.2.2.1, S.2.2.2.2.2) := by
  refine ⟨z_XC_AV (fun q r => z_un (fun e1 => ?_)) (fun _ _ _ => rfl), fun q a b' r c => z_Cs.put (s := 0) (e := s) (Or.inr hi) q a b' r (Nat.zero_le _) c, fun q a b' r c => ?_⟩
  · have : k = 14 ∨ k = 15 ∨ k = 16 ∨ k = 17 ∨ k = 18 ∨ k = 19 := by omega
    rcases this with rfl | rfl | rfl | rfl | rfl | rfl <;> (subst e1; cases r)
  · show z_fn 0 (z_u S.1 k ((i, v) :: S.1 k) q) r = z_fn 0 (S.1 q) r
    rw [z_un (by omega)]
theorem z_P.put {k i : Nat} {v : Int32} (h : z_P b n me ep j t τ s nn kk w S R) (hk : 15 ≤ k ∧ k ≤ 19) : z_P b n me ep j t τ s nn kk w (z_u S.1 k ((i, v) :: S.1 k), S.2.1, S.2.2.1, S.2.2.2.1, S.2.2.2.2.1, S.2.2.2.2.2) R := h.cls (fun q a _ => z_un (by omega))
theorem z_P.in {k i : Nat} (h : z_P b n me ep j t τ s nn kk w S R) (hk : 14 ≤ k ∧ k ≤ 19) (hi : i < s) : z_in (nI i) (S.2.2.1 k) = true := by
  have h1 := h.2.2.2.2.1.2 k hk.1 hk.2
  have h2 := (h.1.2.2.2.2.1 k (by
    have : k = 14 ∨ k = 15 ∨ k = 16 ∨ k = 17 ∨ k = 18 ∨ k = 19 := by omega
    rcases this with rfl | rfl | rfl | rfl | rfl | rfl <;> rfl)).2
  have h3 := z_mxl_b k
  exact z_inI (by omega) (by omega)
theorem jif (ih : z_Ih b n me ep k) (hk : d + (k + 1) = 50) (hp : z_P b n me ep j t τ s nn kk w S R) (hq : z_Aq d R) (hb : s + w ≤ 3 * j ∧ 5 * kk ≤ j ∧ w ≤ 3 * d) (ht : t.2.1 = 24) : z_WC (5 * k + 84) 69 0 [(0, .ref 131), (1, .int (nI d))] [] S (fun o S' => z_Eo b n me ep d j t τ s nn kk w S R o S') := by
  have d50 : d < 50 := by omega
  obtain ⟨Rb, hbg, refB⟩ := rB hp hq d50
  have hpb := hbg.p hp
  have hzb := hbg.zd hq d50
  have hw : Rb.2.2 41 7 = 304 := by
    rw [hpb.1.2.1.2.2.2.2.2.2.2.1, ht]
    rfl
  have ref1 : ∀ Q, z_WR 18 167 0 [(0, .ref 148), (1, .int (nI d)), (2, .int 2)] [] Rb (fun x R1 => x = none ∧ z_Hq Q R1) → z_Hq Q R := fun Q h => refB Q (z_ifn (by rw [hw]; decide) (z_ifn (by rw [hw]; decide) (z_ifp hw (h.im (fun v R1 hv => ⟨hv.1, rfl, hv.2⟩)))))
  have hr := hp.1.2.2.2.2
  have xb : z_XR R Rb := (hbg.fr (nn := 0) (kk := 0)).1
  refine t69_0 (A := S.1) (E := S.2.1) (N := S.2.2.1) (V := S.2.2.2.1) (W := S.2.2.2.2.1) (c := S.2.2.2.2.2) ?_
  refine ⟨hr.rm.1, ?_⟩
  -- the keyword
  rcases Pf (k := 2) (d := d) hpb (by omega) hzb with ⟨t1, S1, R1, n6, a1, a2, a3, a4, a5, a6, a7, a8, a9⟩ | ⟨x, y, S1, R1, m, m6, a1, a2, a3, a4, a5⟩
  case inr =>
    exact ⟨.inr 10, S1, a1.up (by omega), rfl, rfl, x, y, a2, fun Q hQ => ref1 Q (t167_0 (B := Rb.1) (M := Rb.2.1) (U := Rb.2.2) ⟨_, R1, a3.up (by decide), _, rfl, g167_6 (R := R1) m6 a4 (fun R' b1 b2 b3 => ⟨rfl, eH b1 (Or.inr (Or.inl b3)) (fun R2 c1 c2 => hQ R2 c1 (xb.tr (a5.tr (b2.tr c2))))⟩)⟩)⟩
  refine ⟨.inl (some (.int (nI t.1))), S1, a1.up (by omega), nI t.1, rfl, ?_⟩
  have hr1 := a3.1.2.2.2.2
  refine ⟨hr1.rm.1, ?_⟩
  have x1 : z_XR R R1 := xb.tr a5.1
  obtain ⟨R4, k1, P4, q4, B4, u73, u74, x14⟩ := jask (m := nn) (v := 0) a3 a9 n6 (by decide)
  have ref4 : ∀ Q, z_Hq Q R4 → z_Hq Q R := fun Q h => ref1 Q (t167_0 (B := Rb.1) (M := Rb.2.1) (U := Rb.2.2) ⟨_, R1, a2.up (by decide), _, rfl, z_ifn (by decide) ⟨none, R4, k1 16, rfl, rfl, h⟩⟩)
  have x4 : z_XR R R4 := x1.tr x14
  have n57 : z_fn 0 (R4.1 57) nn = 2 := by rw [B4, a7, z_un (by decide), z_un (by decide), z_uk, z_fcs]
  obtain ⟨zin, zcn⟩ := z_o6_in n6
  -- the condition
  obtain ⟨o5, S5, f1, f2⟩ := jpart (q := 0) (k1 := 58) (k2 := 61) (Or.inl ⟨rfl, rfl, rfl⟩) ih (by omega) P4 q4 u73 u74 (Nat.lt_succ_self nn) ⟨by omega, by omega, by omega⟩
  rw [nI_1]
  refine ⟨o5, S5, f1.up (by omega), ?_⟩
  rcases o5 with v5 | e5'
  case inr =>
    obtain ⟨rfl, x, y, g1, g2⟩ := f2
    exact ⟨rfl, rfl, x, y, g1.tr a4.1, fun Q hQ => ref4 Q (g2 Q (fun R' h1 h2 => hQ R' h1 (x4.tr h2)))⟩
  obtain ⟨rfl, R5, j5, t5, τ5, s5, nn5, kk5, f5, m5, P5, Z5, C5, ⟨n58, n61⟩, fm5, te5, fc5, ⟨l1, l2, l3, l4, l5, l6⟩, ref5'⟩ := f2
  refine ⟨rfl, ?_⟩
  have hr5 := P5.1.2.2.2.2
  have fc5' : z_FC s w S S5 := a4.tr fc5 (Nat.le_refl _) (Nat.le_refl _)
  have x5 : z_XR R R5 := x4.tr fm5.1
  have m57 : z_fn 0 (R5.1 57) nn = 2 := (fm5.at (Nat.lt_succ_self nn) (by decide) (by decide) (by decide)).trans n57
  refine ⟨hr5.rm.1, ?_⟩
  have ref5 : ∀ Q, p179_199 17 R5.1 R5.2.1 R5.2.2 (nI nn) (nI 0) 305 (fun x R1 => x = none ∧ z_Hq Q R1) → z_Hq Q R := by
    intro Q h
    refine ref4 Q (ref5' Q ?_)
    unfold p179_107
    rw [zcn]
    exact ⟨zin, z_ifn (by rw [m57]; decide) (z_ifn (by rw [m57]; decide) (z_ifp m57 (z_ifn (show ¬ nI 0 = 2 by decide) (z_ifp (show nI 0 = 0 from rfl) h))))⟩
  -- then
  rcases jx P5.1 25 (by decide) (by decide) (by decide) with ⟨t6, S6, R6, c0, c1, c2, c3, c4, c5⟩ | ⟨x, y, S6, R6, c1, c2, c3, c4, c5⟩
  case inr =>
    obtain ⟨R8, g1, g2, g3, g4⟩ := e159 (l := 16) (u := nI nn) (v := nI 0 + 1) (x := x) (y := y) (d := d + 1) (R := R6) ⟨c5, Z5.lw c4⟩
    exact ⟨.inr 10, S6, c1.up (by omega), rfl, rfl, x, y, c3.tr fc5'.1, fun Q hQ => ref5 Q ⟨none, R6, c2.up (by decide), rfl, none, R8, g1, rfl, rfl, eH g2 (Or.inr (Or.inl g4)) (fun R3 d1 d2 => hQ R3 d1 (x5.tr (c4.xR.tr (g3.tr d2))))⟩⟩
  refine ⟨.inl none, S6, c1.up (by omega), rfl, ?_⟩
  have P6 := P5.kw c5 c3 c4 (by omega)
  have hr6 := P6.1.2.2.2.2
  have J6 := P6.1.len.1
  refine ⟨hr6.rm.1, ?_⟩
  obtain ⟨R7, k7, P7, q7, B7, v73, v74, x67⟩ := jask (m := nn) (v := 1) P6 (Z5.lw c4) n6 (by decide)
  have ref7 : ∀ Q, z_Hq Q R7 → z_Hq Q R := fun Q h => ref5 Q ⟨none, R6, c2.up (by decide), rfl, none, R7, k7 16, rfl, rfl, h⟩
  have x7 : z_XR R R7 := x5.tr (c4.xR.tr x67)
  -- TEST
  obtain ⟨S8, i1, i2, i3, i4, -, -⟩ := Pa (o := 6) (a1 := 0) (a2 := 0) (f := nI t.1) P7 (by omega)
  refine ⟨.inl (some (.int (nI s5))), S8, i1.up (by omega), nI s5, rfl, ?_⟩
  have hr8 := i2.1.2.2.2.2
  refine ⟨hr8.rm.1, ?_⟩
  have fc8 : z_FC s w S S8 := (fc5'.tr c3.fc (Nat.le_refl _) (Nat.le_refl _)).tr i3 (by omega) (Nat.le_refl _)
  -- the first way
  obtain ⟨o9, S9, y1, y2⟩ := jpart (q := 1) (k1 := 59) (k2 := 62) (Or.inr (Or.inl ⟨rfl, rfl, rfl⟩)) ih (by omega) i2 q7 v73 v74 (by omega) ⟨by omega, by omega, by omega⟩
  rw [nI_1]
  refine ⟨o9, S9, y1.up (by omega), ?_⟩
  rcases o9 with v9 | e9
  case inr =>
    obtain ⟨rfl, x, y, g1, g2⟩ := y2
    exact ⟨rfl, rfl, x, y, g1.tr fc8.1, fun Q hQ => ref7 Q (g2 Q (fun R' h1 h2 => hQ R' h1 (x7.tr h2)))⟩
  obtain ⟨rfl, R9, j9, t9, τ9, s9, nn9, kk9, f9, m9, P9, Z9, C9, ⟨n59, n62⟩, fm9, te9, fc9, ⟨r1, r2, r3, r4, r5, r6⟩, ref9'⟩ := y2
  refine ⟨rfl, ?_⟩
  have hr9 := P9.1.2.2.2.2
  have fc9' : z_FC s w S S9 := fc8.tr fc9 (by omega) (Nat.le_refl _)
  have x9 : z_XR R R9 := x7.tr fm9.1
  have B76 : R7.1 = R5.1 := B7.trans c4.1
  have o57 : z_fn 0 (R9.1 57) nn = 2 := by
    rw [fm9.at (by omega) (by decide) (by decide) (by decide), B76]
    exact m57
  refine ⟨hr9.rm.1, ?_⟩
  have ref9 : ∀ Q, p179_199 17 R9.1 R9.2.1 R9.2.2 (nI nn) (nI 1) 306 (fun x R1 => x = none ∧ z_Hq Q R1) → z_Hq Q R := by
    intro Q h
    refine ref7 Q (ref9' Q ?_)
    unfold p179_107
    rw [zcn]
    exact ⟨zin, z_ifn (by rw [o57]; decide) (z_ifn (by rw [o57]; decide) (z_ifp o57 (z_ifn (show ¬ nI 1 = 2 by decide) (z_ifn (show ¬ nI 1 = 0 by decide) h))))⟩
  -- else
  rcases jx P9.1 26 (by decide) (by decide) (by decide) with ⟨t10, S10, R10, d0, d1, d2, d3, d4, d5⟩ | ⟨x, y, S10, R10, d1, d2, d3, d4, d5⟩
  case inr =>
    obtain ⟨R8', g1, g2, g3, g4⟩ := e159 (l := 16) (u := nI nn) (v := nI 1 + 1) (x := x) (y := y) (d := d + 1) (R := R10) ⟨d5, Z9.lw d4⟩
    exact ⟨.inr 10, S10, d1.up (by omega), rfl, rfl, x, y, d3.tr fc9'.1, fun Q hQ => ref9 Q ⟨none, R10, d2.up (by decide), rfl, none, R8', g1, rfl, rfl, eH g2 (Or.inr (Or.inl g4)) (fun R3 p1 p2 => hQ R3 p1 (x9.tr (d4.xR.tr (g3.tr p2))))⟩⟩
  refine ⟨.inl none, S10, d1.up (by omega), rfl, ?_⟩
  have P10 := P9.kw d5 d3 d4 (by omega)
  have hr10 := P10.1.2.2.2.2
  have J10 := P10.1.len.1
  refine ⟨hr10.rm.1, ?_⟩
  obtain ⟨R11, k11, P11, q11, B11, w73, w74, x1011⟩ := jask (m := nn) (v := 2) P10 (Z9.lw d4) n6 (by decide)
  have ref11 : ∀ Q, z_Hq Q R11 → z_Hq Q R := fun Q h => ref9 Q ⟨none, R10, d2.up (by decide), rfl, none, R11, k11 16, rfl, rfl, h⟩
  have x11 : z_XR R R11 := x9.tr (d4.xR.tr x1011)
  -- SKIP
  obtain ⟨S12, h1, h2, h3, h4, -, -⟩ := Pa (o := 7) (a1 := 0) (a2 := 0) (f := nI t.1) P11 (by omega)
  refine ⟨.inl (some (.int (nI s9))), S12, h1.up (by omega), nI s9, rfl, ?_⟩
  have hr12 := h2.1.2.2.2.2
  have cs5 : (nI s5).toNatClampNeg = s5 := nI_clamp (by omega)
  have e136 : S12.2.2.2.1 13 6 = nI (s9 + 1) := h2.2.2.2.2.1.1
  unfold p69_58
  rw [cs5, e136, nI_1]
  refine ⟨h2.in (by decide) (by omega), hr12.rm.1, ?_⟩
  have P12 := h2.put (k := 15) (i := s5) (v := nI (s9 + 1)) (by decide)
  have fc12 : z_FC s w S S12 := (fc9'.tr d3.fc (Nat.le_refl _) (Nat.le_refl _)).tr h3 (by omega) (Nat.le_refl _)
  obtain ⟨S13, hS13⟩ : ∃ X, X = (z_u S12.1 15 ((s5, nI (s9 + 1)) :: S12.1 15), S12.2.1, S12.2.2.1, S12.2.2.2.1, S12.2.2.2.2.1, S12.2.2.2.2.2) := ⟨_, rfl⟩
  have fc13 : z_FC s w S S13 := by
    rw [hS13]
    exact fc12.tr (z_FC.put (s := s) (w := w) (by decide) (by omega)) (Nat.le_refl _) (Nat.le_refl _)
  rw [← hS13] at P12 ⊢
  -- the second way
  obtain ⟨o14, S14, y3, y4⟩ := jpart (q := 2) (k1 := 60) (k2 := 63) (Or.inr (Or.inr ⟨rfl, rfl, rfl⟩)) ih (by omega) P12 q11 w73 w74 (by omega) ⟨by omega, by omega, by omega⟩
  refine ⟨o14, S14, y3.up (by omega), ?_⟩
  rcases o14 with v14 | e14
  case inr =>
    obtain ⟨rfl, x, y, g1, g2⟩ := y4
    exact ⟨rfl, rfl, x, y, g1.tr fc13.1, fun Q hQ => ref11 Q (g2 Q (fun R' h1 h2 => hQ R' h1 (x11.tr h2)))⟩
  obtain ⟨rfl, R14, j14, t14, τ14, s14, nn14, kk14, f14, m14, P14, Z14, C14, ⟨n60, n63⟩, fm14, te14, fc14, ⟨q1, q2, q3, q4', q5, q6⟩, ref14'⟩ := y4
  refine ⟨rfl, ?_⟩
  have hr14 := P14.1.2.2.2.2
  have J14 := P14.1.len.1
  have cs9 : (nI s9).toNatClampNeg = s9 := nI_clamp (by omega)
  have e146 : S14.2.2.2.1 13 6 = nI s14 := P14.2.2.2.2.1.1
  unfold p69_83
  rw [cs9, e146]
  refine ⟨P14.in (by decide) (by omega), hr14.rm.1, ?_⟩
  have P15 := P14.put (k := 15) (i := s9) (v := nI s14) (by decide)
  obtain ⟨S15, hS15⟩ : ∃ X, X = (z_u S14.1 15 ((s9, nI s14) :: S14.1 15), S14.2.1, S14.2.2.1, S14.2.2.2.1, S14.2.2.2.2.1, S14.2.2.2.2.2) := ⟨_, rfl⟩
  have fc15 : z_FC s w S S15 := by
    rw [hS15]
    exact (fc13.tr fc14 (by omega) (Nat.le_refl _)).tr (z_FC.put (s := s) (w := w) (by decide) (by omega)) (Nat.le_refl _) (Nat.le_refl _)
  rw [← hS15] at P15 ⊢
  -- JOIN
  obtain ⟨S16, z1, z2, z3, z4, -, -⟩ := Pa (o := 8) (a1 := 0) (a2 := 0) (f := nI t.1) P15 (by omega)
  refine ⟨.inl (some (.int (nI s14))), S16, z1.up (by omega), nI s14, rfl, rfl, ?_⟩
  -- the whole
  have B119 : R11.1 = R9.1 := B11.trans d4.1
  have p57 : z_fn 0 (R14.1 57) nn = 2 := by
    rw [fm14.at (by omega) (by decide) (by decide) (by decide), B119]
    exact o57
  obtain ⟨R15, k15, P16, Z15, B15, U53, U54, U55, x1415⟩ := jwhole (m := nn) z2 Z14
  have ref15 : ∀ Q, z_Hq Q R15 → z_Hq Q R := by
    intro Q h
    refine ref11 Q (ref14' Q ?_)
    unfold p179_107
    rw [zcn]
    exact ⟨zin, z_ifn (by rw [p57]; decide) (z_ifn (by rw [p57]; decide) (z_ifp p57 (z_ifp (show nI 2 = 2 from rfl) ⟨none, R15, k15 16, rfl, rfl, h⟩)))⟩
  have dep : ∀ q, 80 ≤ q → q ≤ 83 → z_fn 0 (R14.1 q) d = z_fn 0 (Rb.1 q) d := by
    intro q a1' b1'
    rw [fm14.2.2.2 q a1' (by omega) d (by omega), B119, fm9.2.2.2 q a1' (by omega) d (by omega), B76, fm5.2.2.2 q a1' (by omega) d (by omega), B4, a7, z_un (by omega), z_un (by omega), z_un (by omega)]
  obtain ⟨⟨g80, g81, g83, g82⟩, -⟩ := id hbg
  have e8 : R.2.2 41 8 = nI t.1 := hp.1.2.1.2.2.2.2.2.2.1
  have f15 : z_FR nn kk d R R15 := by
    have g1 : z_FR nn kk d R R4 := ((hbg.fr (nn := nn) (kk := kk)).tr a5 (Nat.le_refl _) (Nat.le_refl _) (Nat.le_refl _)).tr (z_FR.Be (nn := nn) (kk := kk) (d := d) x14 B4) (Nat.le_refl _) (Nat.le_refl _) (Nat.le_refl _)
    have g2 : z_FR nn kk d R R7 := (g1.tr (fm5.fr (nn0 := nn) (kk0 := kk) (d0 := d) (Nat.le_refl _) (by omega) (Nat.le_refl _) (by omega)) (Nat.le_refl _) (Nat.le_refl _) (Nat.le_refl _)).tr (z_FR.Be (nn := nn) (kk := kk) (d := d) (c4.xR.tr x67) B76) (Nat.le_refl _) (Nat.le_refl _) (Nat.le_refl _)
    have g3 : z_FR nn kk d R R11 := (g2.tr (fm9.fr (nn0 := nn) (kk0 := kk) (d0 := d) (Nat.le_refl _) (by omega) (by omega) (by omega)) (Nat.le_refl _) (Nat.le_refl _) (Nat.le_refl _)).tr (z_FR.Be (nn := nn) (kk := kk) (d := d) (d4.xR.tr x1011) B119) (Nat.le_refl _) (Nat.le_refl _) (Nat.le_refl _)
    exact (g3.tr (fm14.fr (nn0 := nn) (kk0 := kk) (d0 := d) (Nat.le_refl _) (by omega) (by omega) (by omega)) (Nat.le_refl _) (Nat.le_refl _) (Nat.le_refl _)).tr (z_FR.Be (nn := nn) (kk := kk) (d := d) x1415 B15) (Nat.le_refl _) (Nat.le_refl _) (Nat.le_refl _)
  have nr5 : z_Nr ((nn + 1, nn5), (kk, kk5)) R5 R15 := ((z_Nr.Be B76).tr (fm9.nr (u := ((nn + 1, nn5), (kk, kk5))) (Nat.lt_succ_self _) (Nat.le_refl _) (Nat.le_refl _))).tr (((z_Nr.Be B119).tr (fm14.nr (u := ((nn + 1, nn5), (kk, kk5))) (Nat.lt_succ_self _) (by show nn5 ≤ nn9; omega) (by show kk5 ≤ kk9; omega))).tr (z_Nr.Be B15))
  have nr9 : z_Nr ((nn5, nn9), (kk5, kk9)) R9 R15 := ((z_Nr.Be B119).tr (fm14.nr (u := ((nn5, nn9), (kk5, kk9))) (by show nn < nn5; omega) (Nat.le_refl _) (Nat.le_refl _))).tr (z_Nr.Be B15)
  have nr14 : z_Nr ((nn9, nn14), (kk9, kk14)) R14 R15 := z_Nr.Be B15
  -- what stays of the instructions
  have t13 : ∀ {a c : Nat}, (s5 < a ∨ c ≤ s5) → z_Cs a c S12 S13 := by
    intro a c h
    rw [hS13]
    exact z_Cs.put h
  have t15 : ∀ {a c : Nat}, (s9 < a ∨ c ≤ s9) → z_Cs a c S14 S15 := by
    intro a c h
    rw [hS15]
    exact z_Cs.put h
  have cs1 : z_Cs s s5 S5 S16 := ((((c3.cs.tr i3.cs).tr (fc9.cs' (by omega))).tr (d3.cs.tr (h3.cs' (by omega)))).tr ((t13 (Or.inr (Nat.le_refl _))).tr (fc14.cs' (by omega)))).tr ((t15 (Or.inr (by omega))).tr (z3.cs' (by omega)))
  have cs2 : z_Cs (s5 + 1) s9 S9 S16 := ((d3.cs.tr h3.cs).tr ((t13 (Or.inl (Nat.lt_succ_self _))).tr (fc14.cs' (by omega)))).tr ((t15 (Or.inr (Nat.le_refl _))).tr (z3.cs' (by omega)))
  have cs3 : z_Cs (s9 + 1) s14 S14 S16 := (t15 (Or.inl (Nat.lt_succ_self _))).tr z3.cs
  have csT : z_Cs s5 (s5 + 1) S8 S12 := (fc9.cs' (Nat.le_refl _)).tr (d3.cs.tr (h3.cs' (by omega)))
  have csU : z_Cs s5 (s5 + 1) S13 S16 := (fc14.cs' (by omega)).tr ((t15 (Or.inr (by omega))).tr (z3.cs' (by omega)))
  have csK : z_Cs s9 (s9 + 1) S12 S14 := (t13 (Or.inl (by omega))).tr (fc14.cs' (Nat.le_refl _))
  have e61 : z_fn 0 (R15.1 61) nn = nI t1.1 := by
    rw [B15, fm14.at (by omega) (by decide) (by decide) (by decide), B119, fm9.at (by omega) (by decide) (by decide) (by decide), B76]
    exact n61
  have e62 : z_fn 0 (R15.1 62) nn = nI t6.1 := by
    rw [B15, fm14.at (by omega) (by decide) (by decide) (by decide), B119]
    exact n62
  have e63 : z_fn 0 (R15.1 63) nn = nI t10.1 := by
    rw [B15]
    exact n63
  have T5 := P5.2.2.1
  have T9 := P9.2.2.1
  have T14 := P14.2.2.1
  refine ⟨R15, j14, t14, τ14, s14 + 1, nn14, kk14, max f5 (max f9 f14) + 1, nn, P16, Z15, ⟨U53, U54, ?_⟩, ⟨⟨Nat.le_refl _, by show nn < nn14; omega, by omega⟩, z4.2.2.2.2.2, ?_⟩, ⟨?_, ?_, ?_, ?_⟩, te5.tr (te9.tr te14), fc15.tr z3 (by omega) (Nat.le_refl _), f15, ⟨by omega, by omega, by omega, by omega, by omega⟩, ref15⟩
  · rw [U55, dep 82 (by decide) (by decide), g82, e8]
  · refine Or.inr (Or.inr (Or.inr (Or.inr (Or.inr (Or.inr (Or.inl ⟨?_, m5, m9, m14, s5, s9, ((nn + 1, nn5), (kk, kk5)), ((nn5, nn9), (kk5, kk9)), ((nn9, nn14), (kk9, kk14)), ⟨z_S1i (by omega) (by omega) (by omega) (by omega) (by omega), z_S1i (by omega) (by omega) (by omega) (by omega) (by omega), z_S1i (by omega) (by omega) (by omega) (by omega) (by omega), Nat.le_refl _, Nat.le_refl _, by show nn5 ≤ nn9; omega⟩, ?_, ?_, ?_, by omega, by omega, by show s9 + 1 < s14; omega, ?_, ?_, ?_, ?_, ?_, ?_, ?_, z4.1⟩))))))
    · rw [B15]
      exact p57
    · rw [B15, fm14.at (by omega) (by decide) (by decide) (by decide), B119, fm9.at (by omega) (by decide) (by decide) (by decide), B76]
      exact n58
    · rw [B15, fm14.at (by omega) (by decide) (by decide) (by decide), B119]
      exact n59
    · rw [B15]
      exact n60
    · rw [e61]
      exact ⟨z_wle.z, C5.mv (S' := S16) (R' := R15) (f' := max f5 (max f9 f14)) (u' := ((nn + 1, nn5), (kk, kk5))) (by omega) cs1 nr5 T5.1.1 T5.2.1.1 (te9.tr te14) ⟨⟨Nat.le_refl _, Nat.le_refl _⟩, ⟨Nat.le_refl _, Nat.le_refl _⟩⟩⟩
    · rw [csU 14 (by decide) (by decide) s5 (Nat.le_refl _) (by omega), hS13]
      show z_fn 0 (z_u S12.1 15 ((s5, nI (s9 + 1)) :: S12.1 15) 14) s5 = 6
      rw [z_un (by decide), csT 14 (by decide) (by decide) s5 (Nat.le_refl _) (by omega)]
      exact i4.1
    · rw [csU 15 (by decide) (by decide) s5 (Nat.le_refl _) (by omega), hS13]
      show z_fn 0 (z_u S12.1 15 ((s5, nI (s9 + 1)) :: S12.1 15) 15) s5 = nI (s9 + 1)
      rw [z_uk, z_fcs]
    · rw [e62]
      exact ⟨z_wa d50, C9.mv (S' := S16) (R' := R15) (f' := max f5 (max f9 f14)) (u' := ((nn5, nn9), (kk5, kk9))) (by omega) cs2 nr9 T9.1.1 T9.2.1.1 te14 ⟨⟨Nat.le_refl _, Nat.le_refl _⟩, ⟨Nat.le_refl _, Nat.le_refl _⟩⟩⟩
    · rw [z3.2.1 14 (by decide) (by decide) s9 (by omega), hS15]
      show z_fn 0 (z_u S14.1 15 ((s9, nI s14) :: S14.1 15) 14) s9 = 7
      rw [z_un (by decide), csK 14 (by decide) (by decide) s9 (Nat.le_refl _) (by omega)]
      exact h4.1
    · rw [z3.2.1 15 (by decide) (by decide) s9 (by omega), hS15]
      show z_fn 0 (z_u S14.1 15 ((s9, nI s14) :: S14.1 15) 15) s9 = nI s14
      rw [z_uk, z_fcs]
    · rw [e63]
      exact ⟨z_wa d50, C14.mv (S' := S16) (R' := R15) (f' := max f5 (max f9 f14)) (u' := ((nn9, nn14), (kk9, kk14))) (by omega) cs3 nr14 T14.1.1 T14.2.1.1 z_Te.rf ⟨⟨Nat.le_refl _, Nat.le_refl _⟩, ⟨Nat.le_refl _, Nat.le_refl _⟩⟩⟩
  · rw [B15, dep 80 (by decide) (by decide), g80]
  · rw [B15, dep 81 (by decide) (by decide), g81]
  · rw [B15, dep 83 (by decide) (by decide), g83]
  · rw [B15, dep 82 (by decide) (by decide), g82, e8]
end ZY2
