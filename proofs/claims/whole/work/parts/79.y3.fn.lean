/-! Reading programs, both together: fn. -/
section ZY3
variable {b : Nat → Nat} {n me : Nat} {ep : Nat → Nat} {j : Nat} {t : Nat × Nat × Int32} {τ : z_TT} {s nn kk w d k : Nat} {S : z_CS} {R : z_RS}
theorem z_FR.p1 {R R' : z_RS} {k1 i : Nat} {v1 : Int32} (hx : z_XR R R') (hB : R'.1 = z_u R.1 k1 ((i, v1) :: R.1 k1)) (h1 : 57 ≤ k1 ∧ k1 ≤ 70) (hi : nn ≤ i) : z_FR nn kk d R R' := by
  refine ⟨hx, fun q a r c => ?_, fun q a b' r c => ?_, fun q a b' r c => ?_⟩
  · rw [hB]
    by_cases e1 : q = k1
    · subst e1
      rw [z_uk, z_fcn (by omega)]
    · rw [z_un e1]
  · rw [hB, z_un (by omega)]
  · rw [hB, z_un (by omega)]
theorem jfn (ih : z_Ih b n me ep k) (hk : d + (k + 1) = 50) (hp : z_P b n me ep j t τ s nn kk w S R) (hq : z_Aq d R) (hb : s + w ≤ 3 * j ∧ 5 * kk ≤ j ∧ w ≤ 3 * d) (ht : t.2.1 = 27) : z_WC (5 * k + 84) 70 0 [(0, .ref 131), (1, .int (nI d))] [] S (fun o S' => z_Eo b n me ep d j t τ s nn kk w S R o S') := by
  have d50 : d < 50 := by omega
  obtain ⟨Rb, hbg, refB⟩ := rB hp hq d50
  have hpb := hbg.p hp
  have hzb := hbg.zd hq d50
  have hw : Rb.2.2 41 7 = 307 := by
    rw [hpb.1.2.1.2.2.2.2.2.2.2.1, ht]
    rfl
  have ref1 : ∀ Q, z_WR 18 168 0 [(0, .ref 148), (1, .int (nI d))] [] Rb (fun x R1 => x = none ∧ z_Hq Q R1) → z_Hq Q R := fun Q h => refB Q (z_ifn (by rw [hw]; decide) (z_ifn (by rw [hw]; decide) (z_ifn (by rw [hw]; decide) (z_ifp hw (h.im (fun v R1 hv => ⟨hv.1, rfl, hv.2⟩))))))
  have hr := hp.1.2.2.2.2
  have xb : z_XR R Rb := (hbg.fr (nn := 0) (kk := 0)).1
  refine t70_0 (A := S.1) (E := S.2.1) (N := S.2.2.1) (V := S.2.2.2.1) (W := S.2.2.2.2.1) (c := S.2.2.2.2.2) ?_
  refine ⟨hr.rm.1, ?_⟩
  -- the keyword
  rcases Pf (k := 3) (d := d) hpb (by omega) hzb with ⟨t1, S1, R1, n6, a1, a2, a3, a4, a5, a6, a7, a8, a9⟩ | ⟨x, y, S1, R1, m, m6, a1, a2, a3, a4, a5⟩
  case inr =>
    exact ⟨.inr 10, S1, a1.up (by omega), rfl, rfl, x, y, a2, fun Q hQ => ref1 Q (t168_0 (B := Rb.1) (M := Rb.2.1) (U := Rb.2.2) ⟨_, R1, a3.up (by decide), _, rfl, g168_6 (R := R1) m6 a4 (fun R' b1 b2 b3 => ⟨rfl, eH b1 (Or.inr (Or.inl b3)) (fun R2 c1 c2 => hQ R2 c1 (xb.tr (a5.tr (b2.tr c2))))⟩)⟩)⟩
  refine ⟨.inl (some (.int (nI t.1))), S1, a1.up (by omega), nI t.1, rfl, a3.1.2.2.2.2.rm.1, ?_⟩
  have ref2 : ∀ Q, p168_6 17 R1.1 R1.2.1 R1.2.2 (nI d) (nI nn) (fun x R1 => x = none ∧ z_Hq Q R1) → z_Hq Q R := fun Q h => ref1 Q (t168_0 (B := Rb.1) (M := Rb.2.1) (U := Rb.2.2) ⟨_, R1, a2.up (by decide), _, rfl, h⟩)
  have x1 : z_XR R R1 := xb.tr a5.1
  obtain ⟨zin, zcn⟩ := z_o6_in n6
  -- (
  rcases jx a3.1 5 (by decide) (by decide) (by decide) with ⟨t2, S2, R2, b0, b1, b2, b3, b4, b5⟩ | ⟨x, y, S2, R2, b1, b2, b3, b4, b5⟩
  case inr =>
    exact ⟨.inr 10, S2, b1.up (by omega), rfl, rfl, x, y, b3.tr a4.1, fun Q hQ => ref2 Q ⟨none, R2, b2.up (by decide), rfl, g168_13 (R := R2) n6 ⟨b5, a9.lw b4⟩ (fun R' p1 p2 p3 => ⟨rfl, eH p1 (Or.inr (Or.inl p3)) (fun R3 r1 r2 => hQ R3 r1 (x1.tr (b4.xR.tr (p2.tr r2))))⟩)⟩⟩
  have P2 := a3.kw b5 b3 b4 (by omega)
  have Z2 := a9.lw b4
  have x2 : z_XR R R2 := x1.tr b4.xR
  have fc2 : z_FC s w S S2 := a4.tr b3.fc (Nat.le_refl _) (Nat.le_refl _)
  refine ⟨.inl none, S2, b1.up (by omega), rfl, P2.1.2.2.2.2.rm.1, ?_⟩
  have ref3 : ∀ Q, p168_13 17 R2.1 R2.2.1 R2.2.2 (nI d) (nI nn) (fun x R1 => x = none ∧ z_Hq Q R1) → z_Hq Q R := fun Q h => ref2 Q ⟨none, R2, b2.up (by decide), rfl, h⟩
  -- the name
  rcases Pm (m := nn) (d := d + 1) P2 n6 Z2 with ⟨t3, S3, R3, c0, c1, c2, P3, c4, c5, c6, c7, c8, Z3, c10⟩ | ⟨x, y, S3, R3, c1, c2, c3, c4, c5⟩
  case inr =>
    exact ⟨.inr 10, S3, c1.up (by omega), rfl, rfl, x, y, c2.tr fc2.1, fun Q hQ => ref3 Q ⟨none, R3, c3.up (by decide), rfl, g168_18 (R := R3) n6 c4 (fun R' p1 p2 p3 => ⟨rfl, eH p1 (Or.inr (Or.inl p3)) (fun R4 r1 r2 => hQ R4 r1 (x2.tr (c5.tr (p2.tr r2))))⟩)⟩⟩
  have x3 : z_XR R R3 := x2.tr c8
  have fc3 : z_FC s w S S3 := fc2.tr c4.fc (Nat.le_refl _) (Nat.le_refl _)
  refine ⟨.inl (some (.int t2.2.2)), S3, c1.up (by omega), t2.2.2, rfl, P3.1.2.2.2.2.rm.1, ?_⟩
  have ref4 : ∀ Q, p168_18 17 R3.1 R3.2.1 R3.2.2 (nI d) (nI nn) (fun x R1 => x = none ∧ z_Hq Q R1) → z_Hq Q R := fun Q h => ref3 Q ⟨none, R3, c2.up (by decide), rfl, h⟩
  -- :
  rcases jx P3.1 9 (by decide) (by decide) (by decide) with ⟨t4, S4, R4, d0, d1, d2, d3, d4, d5⟩ | ⟨x, y, S4, R4, d1, d2, d3, d4, d5⟩
  case inr =>
    exact ⟨.inr 10, S4, d1.up (by omega), rfl, rfl, x, y, d3.tr fc3.1, fun Q hQ => ref4 Q ⟨none, R4, d2.up (by decide), rfl, g168_24 (R := R4) n6 ⟨d5, Z3.lw d4⟩ (fun R' p1 p2 p3 => ⟨rfl, eH p1 (Or.inr (Or.inl p3)) (fun R4 r1 r2 => hQ R4 r1 (x3.tr (d4.xR.tr (p2.tr r2))))⟩)⟩⟩
  have P4 := P3.kw d5 d3 d4 (by omega)
  have Z4 := Z3.lw d4
  have x4 : z_XR R R4 := x3.tr d4.xR
  have fc4 : z_FC s w S S4 := fc3.tr d3.fc (Nat.le_refl _) (Nat.le_refl _)
  refine ⟨.inl none, S4, d1.up (by omega), rfl, P4.1.2.2.2.2.rm.1, ?_⟩
  have ref5 : ∀ Q, p168_24 17 R4.1 R4.2.1 R4.2.2 (nI d) (nI nn) (fun x R1 => x = none ∧ z_Hq Q R1) → z_Hq Q R := fun Q h => ref4 Q ⟨none, R4, d2.up (by decide), rfl, h⟩
  -- the type
  obtain ⟨o5, S5, e1, e2⟩ := jt P4.1 P4.2.1 P4.2.2.1.1 P4.2.2.1.2.1 (by have q := P4.2.2.2.1; omega)
  refine ⟨o5, S5, e1.up (by omega), ?_⟩
  rcases o5 with v5 | w5
  case inr =>
    obtain ⟨rfl, x, y, v, R5, g1, g2, g3, g4⟩ := e2
    exact ⟨rfl, rfl, x, y, g1.tr fc4.1, fun Q hQ => ref5 Q ⟨_, R5, g2.up (by decide), v, rfl, g168_33 (R := R5) n6 ⟨g3, Z4.xr g4⟩ (fun R' p1 p2 p3 => ⟨rfl, eH p1 (Or.inr (Or.inl p3)) (fun R4 r1 r2 => hQ R4 r1 (x4.tr (g4.xR.tr (p2.tr r2))))⟩)⟩⟩
  obtain ⟨x5, y5, j5, t5, τ5, R5, rfl, J5, lj5, te5, TC5, TR5, inc5, tq5, xt5, xr5, run5⟩ := e2
  have P5 := P4.xt J5 xt5 xr5 te5 TC5 TR5 inc5
  have Z5 := Z4.xr xr5
  have x5' : z_XR R R5 := x4.tr xr5.xR
  have fc5 : z_FC s w S S5 := fc4.tr xt5.fc (Nat.le_refl _) (Nat.le_refl _)
  refine ⟨x5, rfl, P5.1.2.2.2.2.rm.1, ?_⟩
  have ref6 : ∀ Q, p168_33 17 R5.1 R5.2.1 R5.2.2 (nI d) (nI nn) y5 (nI nn) (fun x R1 => x = none ∧ z_Hq Q R1) → z_Hq Q R := fun Q h => ref5 Q ⟨_, R5, run5.up (by decide), y5, rfl, h⟩
  obtain ⟨R6, hR6⟩ : ∃ X, X = (z_u R5.1 68 ((nn, y5) :: R5.1 68), R5.2.1, R5.2.2) := ⟨_, rfl⟩
  have B6 : R6.1 = z_u R5.1 68 ((nn, y5) :: R5.1 68) := by rw [hR6]
  have P6 : z_P b n me ep j5 t5 τ5 s (nn + 1) kk w S5 R6 := by
    rw [hR6]
    exact P5.ref (fun q r => z_un (by omega)) (fun _ _ => rfl)
  have Z6 : z_Zd (d + 1) R6 := by
    rw [hR6]
    exact Z5.B rfl rfl rfl
  have x56 : z_XR R5 R6 := by
    rw [hR6]
    exact z_XR_B (fun q r => z_un (by omega))
  have x6 : z_XR R R6 := x5'.tr x56
  -- )
  rcases jx P6.1 6 (by decide) (by decide) (by decide) with ⟨t7, S7, R7, f0, f1, f2, f3, f4, f5⟩ | ⟨x, y, S7, R7, f1, f2, f3, f4, f5⟩
  case inr =>
    refine ⟨.inr 10, S7, f1.up (by omega), rfl, rfl, x, y, f3.tr fc5.1, fun Q hQ => ref6 Q ?_⟩
    unfold p168_33
    rw [zcn, ← hR6]
    exact ⟨zin, none, R7, f2.up (by decide), rfl, g168_40 (R := R7) n6 ⟨f5, Z6.lw f4⟩ (fun R' p1 p2 p3 => ⟨rfl, eH p1 (Or.inr (Or.inl p3)) (fun R4 r1 r2 => hQ R4 r1 (x6.tr (f4.xR.tr (p2.tr r2))))⟩)⟩
  have P7 := P6.kw f5 f3 f4 (by omega)
  have Z7 := Z6.lw f4
  have x7 : z_XR R R7 := x6.tr f4.xR
  have fc7 : z_FC s w S S7 := fc5.tr f3.fc (Nat.le_refl _) (Nat.le_refl _)
  refine ⟨.inl none, S7, f1.up (by omega), rfl, P7.1.2.2.2.2.rm.1, ?_⟩
  have ref7 : ∀ Q, p168_40 17 R7.1 R7.2.1 R7.2.2 (nI d) (nI nn) (fun x R1 => x = none ∧ z_Hq Q R1) → z_Hq Q R := fun Q h => ref6 Q (by
    unfold p168_33
    rw [zcn, ← hR6]
    exact ⟨zin, none, R7, f2.up (by decide), rfl, h⟩)
  -- ->
  rcases jx P7.1 19 (by decide) (by decide) (by decide) with ⟨t8, S8, R8, h0, h1, h2, h3, h4, h5⟩ | ⟨x, y, S8, R8, h1, h2, h3, h4, h5⟩
  case inr =>
    exact ⟨.inr 10, S8, h1.up (by omega), rfl, rfl, x, y, h3.tr fc7.1, fun Q hQ => ref7 Q ⟨none, R8, h2.up (by decide), rfl, g168_45 (R := R8) n6 ⟨h5, Z7.lw h4⟩ (fun R' p1 p2 p3 => ⟨rfl, eH p1 (Or.inr (Or.inl p3)) (fun R4 r1 r2 => hQ R4 r1 (x7.tr (h4.xR.tr (p2.tr r2))))⟩)⟩⟩
  have P8 := P7.kw h5 h3 h4 (by omega)
  have Z8 := Z7.lw h4
  have fc8 : z_FC s w S S8 := fc7.tr h3.fc (Nat.le_refl _) (Nat.le_refl _)
  refine ⟨.inl none, S8, h1.up (by omega), rfl, P8.1.2.2.2.2.rm.1, ?_⟩
  obtain ⟨R9, k9, P9, q9, B9, u73, u74, x89⟩ := jask (m := nn) (v := 0) P8 Z8 n6 (by decide)
  have ref9 : ∀ Q, z_Hq Q R9 → z_Hq Q R := fun Q h => ref7 Q ⟨none, R8, h2.up (by decide), rfl, none, R9, k9 16, rfl, rfl, h⟩
  have x9 : z_XR R R9 := x7.tr (h4.xR.tr x89)
  have J8 := P8.1.len.1
  -- FN
  obtain ⟨S10, i1, i2, i3, i4, -, -⟩ := Pa (o := 17) (a1 := t2.2.2) (a2 := x5) (f := nI t.1) P9 (by omega) (fun _ => by rw [h3.1, f3.1]; have q := P5.2.2.2.1; omega)
  refine ⟨.inl (some (.int (nI s))), S10, i1.up (by omega), nI s, rfl, i2.1.2.2.2.2.rm.1, ?_⟩
  have fc10 : z_FC s w S S10 := fc8.tr i3 (Nat.le_refl _) (Nat.le_refl _)
  -- the body
  obtain ⟨o11, S11, y1, y2⟩ := jpart (q := 0) (k1 := 58) (k2 := 61) (Or.inl ⟨rfl, rfl, rfl⟩) ih (by omega) i2 q9 u73 u74 (Nat.lt_succ_self nn) ⟨by omega, by omega, by omega⟩
  rw [nI_1]
  refine ⟨o11, S11, y1.up (by omega), ?_⟩
  rcases o11 with v11 | w11
  case inr =>
    obtain ⟨rfl, x, y, g1, g2⟩ := y2
    exact ⟨rfl, rfl, x, y, g1.tr fc10.1, fun Q hQ => ref9 Q (g2 Q (fun R' h1 h2 => hQ R' h1 (x9.tr h2)))⟩
  obtain ⟨rfl, R11, j11, t11, τ11, s11, nn11, kk11, f11, m11, P11, Z11, C11, ⟨n58, n61⟩, fm11, te11, fc11, ⟨l1, l2, l3, l4, l5, l6⟩, ref11'⟩ := y2
  refine ⟨rfl, ?_⟩
  have J11 := P11.1.len.1
  have css : (nI s).toNatClampNeg = s := nI_clamp (by omega)
  have e136 : S11.2.2.2.1 13 6 = nI s11 := P11.2.2.2.2.1.1
  unfold p70_67
  rw [css, e136]
  refine ⟨P11.in (by decide) (by omega), P11.1.2.2.2.2.rm.1, ?_⟩
  have P12 := P11.put (k := 17) (i := s) (v := nI s11) (by decide)
  obtain ⟨S12, hS12⟩ : ∃ X, X = (z_u S11.1 17 ((s, nI s11) :: S11.1 17), S11.2.1, S11.2.2.1, S11.2.2.2.1, S11.2.2.2.2.1, S11.2.2.2.2.2) := ⟨_, rfl⟩
  have fc12 : z_FC s w S S12 := by
    rw [hS12]
    exact (fc10.tr fc11 (by omega) (Nat.le_refl _)).tr (z_FC.put (s := s) (w := w) (by decide) (Nat.le_refl _)) (Nat.le_refl _) (Nat.le_refl _)
  rw [← hS12] at P12 ⊢
  -- FN_END
  obtain ⟨S13, z1, z2, z3, z4, -, -⟩ := Pa (o := 18) (a1 := 0) (a2 := 0) (f := nI t.1) P12 (by omega)
  refine ⟨.inl (some (.int (nI s11))), S13, z1.up (by omega), nI s11, rfl, rfl, ?_⟩
  -- the whole
  have B85 : R9.1 = R6.1 := B9.trans (h4.1.trans f4.1)
  have B43 : R4.1 = R3.1 := d4.1
  have nd : ∀ q, (57 ≤ q ∧ q ≤ 70) → ¬ q = 68 → z_fn 0 (R9.1 q) nn = z_fn 0 (R3.1 q) nn := by
    intro q a h
    rw [B85, B6, z_un h, xr5.1 q (by omega) (by omega), B43]
  have p57 : z_fn 0 (R11.1 57) nn = 3 := by
    rw [fm11.at (Nat.lt_succ_self nn) (by decide) (by decide) (by decide), nd 57 (by decide) (by decide), c5, z_un (by decide), z_un (by decide), b4.1, a7, z_un (by decide), z_un (by decide), z_uk, z_fcs]
  have p64 : z_fn 0 (R11.1 64) nn = nI t2.1 := by
    rw [fm11.at (Nat.lt_succ_self nn) (by decide) (by decide) (by decide), nd 64 (by decide) (by decide), c5, z_un (by decide), z_uk, z_fcs]
  have p65 : z_fn 0 (R11.1 65) nn = nI (z_ll b n t2.1) := by
    rw [fm11.at (Nat.lt_succ_self nn) (by decide) (by decide) (by decide), nd 65 (by decide) (by decide), c5, z_uk, z_fcs]
  have p68 : z_fn 0 (R11.1 68) nn = y5 := by
    rw [fm11.at (Nat.lt_succ_self nn) (by decide) (by decide) (by decide), B85, B6, z_uk, z_fcs]
  obtain ⟨R15, k15, P16, Z15, B15, U53, U54, U55, x1415⟩ := jwhole (m := nn) z2 Z11
  have ref15 : ∀ Q, z_Hq Q R15 → z_Hq Q R := by
    intro Q h
    refine ref9 Q (ref11' Q ?_)
    unfold p179_107
    rw [zcn]
    exact ⟨zin, z_ifn (by rw [p57]; decide) (z_ifn (by rw [p57]; decide) (z_ifn (by rw [p57]; decide) (z_ifp p57 ⟨none, R15, k15 16, rfl, rfl, h⟩)))⟩
  have dep : ∀ q, 80 ≤ q → q ≤ 83 → z_fn 0 (R11.1 q) d = z_fn 0 (Rb.1 q) d := by
    intro q a1' b1'
    rw [fm11.2.2.2 q a1' (by omega) d (by omega), B85, B6, z_un (by omega), xr5.1 q (by omega) (by omega), B43, c5, z_un (by omega), z_un (by omega), b4.1, a7, z_un (by omega), z_un (by omega), z_un (by omega)]
  obtain ⟨⟨g80, g81, g83, g82⟩, -⟩ := id hbg
  have e8 : R.2.2 41 8 = nI t.1 := hp.1.2.1.2.2.2.2.2.2.1
  have f15 : z_FR nn kk d R R15 := by
    have g1 : z_FR nn kk d R R2 := ((hbg.fr (nn := nn) (kk := kk)).tr a5 (Nat.le_refl _) (Nat.le_refl _) (Nat.le_refl _)).tr (b4.fr (nn := nn) (kk := kk) (d := d)) (Nat.le_refl _) (Nat.le_refl _) (Nat.le_refl _)
    have g2 : z_FR nn kk d R R4 := (g1.tr (z_FR.p2 (nn := nn) (kk := kk) (d := d) c8 c5 (by decide) (by decide) (Nat.le_refl _)) (Nat.le_refl _) (Nat.le_refl _) (Nat.le_refl _)).tr (d4.fr (nn := nn) (kk := kk) (d := d)) (Nat.le_refl _) (Nat.le_refl _) (Nat.le_refl _)
    have g3 : z_FR nn kk d R R6 := (g2.tr (xr5.fr (nn := nn) (kk := kk) (d := d)) (Nat.le_refl _) (Nat.le_refl _) (Nat.le_refl _)).tr (z_FR.p1 (nn := nn) (kk := kk) (d := d) x56 B6 (by decide) (Nat.le_refl _)) (Nat.le_refl _) (Nat.le_refl _) (Nat.le_refl _)
    have g4 : z_FR nn kk d R R9 := g3.tr (z_FR.Be (nn := nn) (kk := kk) (d := d) (f4.xR.tr (h4.xR.tr x89)) B85) (Nat.le_refl _) (Nat.le_refl _) (Nat.le_refl _)
    exact (g4.tr (fm11.fr (nn0 := nn) (kk0 := kk) (d0 := d) (Nat.le_refl _) (by omega) (Nat.le_refl _) (by omega)) (Nat.le_refl _) (Nat.le_refl _) (Nat.le_refl _)).tr (z_FR.Be (nn := nn) (kk := kk) (d := d) x1415 B15) (Nat.le_refl _) (Nat.le_refl _) (Nat.le_refl _)
  have t12 : ∀ {a c : Nat}, (s < a ∨ c ≤ s) → z_Cs a c S11 S12 := by
    intro a c h
    rw [hS12]
    exact z_Cs.put h
  have cs1 : z_Cs (s + 1) s11 S11 S13 := (t12 (Or.inl (Nat.lt_succ_self _))).tr z3.cs
  have csF : z_Cs s (s + 1) S10 S11 := fc11.cs
  have at14 : ∀ q, 14 ≤ q → q ≤ 19 → ¬ q = 17 → z_fn 0 (S13.1 q) s = z_fn 0 (S10.1 q) s := by
    intro q a c h
    rw [z3.2.1 q a c s (by omega), hS12]
    show z_fn 0 (z_u S11.1 17 ((s, nI s11) :: S11.1 17) q) s = z_fn 0 (S10.1 q) s
    rw [z_un h, csF q a c s (Nat.le_refl _) (Nat.lt_succ_self _)]
  have at17 : z_fn 0 (S13.1 17) s = nI s11 := by
    rw [z3.2.1 17 (by decide) (by decide) s (by omega), hS12]
    show z_fn 0 (z_u S11.1 17 ((s, nI s11) :: S11.1 17) 17) s = nI s11
    rw [z_uk, z_fcs]
  have T11 := P11.2.2.1
  refine ⟨R15, j11, t11, τ11, s11 + 1, nn11, kk11, f11 + 1, nn, P16, Z15, ⟨U53, U54, ?_⟩, ⟨⟨Nat.le_refl _, by show nn < nn11; omega, by omega⟩, z4.2.2.2.2.2, ?_⟩, ⟨?_, ?_, ?_, ?_⟩, te5.tr te11, fc12.tr z3 (by omega) (Nat.le_refl _), f15, ⟨by omega, by omega, by omega, by omega, by omega⟩, ref15⟩
  · rw [U55, dep 82 (by decide) (by decide), g82, e8]
  · have e57 : z_fn 0 (R15.1 57) nn = 3 := by rw [B15]; exact p57
    have e58 : z_fn 0 (R15.1 58) nn = nI m11 := by rw [B15]; exact n58
    have e61 : z_fn 0 (R15.1 61) nn = nI t8.1 := by rw [B15]; exact n61
    have e64 : z_fn 0 (R15.1 64) nn = nI t2.1 := by rw [B15]; exact p64
    have e65 : z_fn 0 (R15.1 65) nn = nI (z_ll b n t2.1) := by rw [B15]; exact p65
    have e68 : z_fn 0 (R15.1 68) nn = y5 := by rw [B15]; exact p68
    refine Or.inr (Or.inr (Or.inr (Or.inr (Or.inr (Or.inr (Or.inr (Or.inl ⟨e57, m11, ((nn + 1, nn11), (kk, kk11)), z_S1i (by omega) (by omega) (by omega) (by omega) (by omega), e58, by show s + 1 < s11; omega, ?_, ?_, ?_, at17, ?_, z4.1⟩)))))))
    · rw [at14 14 (by decide) (by decide) (by decide)]
      exact i4.1
    · rw [at14 15 (by decide) (by decide) (by decide), i4.2.1, e64, e65]
      exact c10
    · rw [at14 16 (by decide) (by decide) (by decide), i4.2.2.1, e68]
      exact tq5.x TC5.1 TR5.1 te11
    · rw [e61]
      exact ⟨z_wa d50, C11.mv (S' := S13) (R' := R15) (f' := f11) (u' := ((nn + 1, nn11), (kk, kk11))) (Nat.le_refl _) cs1 (z_Nr.Be B15) T11.1.1 T11.2.1.1 z_Te.rf ⟨⟨Nat.le_refl _, Nat.le_refl _⟩, ⟨Nat.le_refl _, Nat.le_refl _⟩⟩⟩
  · rw [B15, dep 80 (by decide) (by decide), g80]
  · rw [B15, dep 81 (by decide) (by decide), g81]
  · rw [B15, dep 83 (by decide) (by decide), g83]
  · rw [B15, dep 82 (by decide) (by decide), g82, e8]
end ZY3
