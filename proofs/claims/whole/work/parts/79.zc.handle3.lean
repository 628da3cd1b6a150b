/-! Reading programs, both together: a handle, from its keyword on. -/
section ZZC
variable {b : Nat → Nat} {n me : Nat} {ep : Nat → Nat} {j : Nat} {t : Nat × Nat × Int32} {τ : z_TT} {s nn kk w d k : Nat} {S : z_CS} {R : z_RS}
theorem z_hab {j j5 j13 s s5 s13 kk kk5 kk13 : Nat} (l1 : j + 1 < j5) (l2 : s5 + 3 * (j + 1) ≤ s + 1 + 3 * j5) (l3 : 5 * kk5 + (j + 1) ≤ 5 * kk + j5) (l5 : kk ≤ kk5) {j11 : Nat} (h : j5 + 4 ≤ j11) (r1 : j11 < j13) (r2 : s13 + 3 * j11 ≤ s5 + 1 + 3 * j13) (r3 : 5 * kk13 + j11 ≤ 5 * kk5 + j13) (r5 : kk5 ≤ kk13) : j < j13 ∧ s13 + 1 + 1 + 3 * j ≤ s + 3 * j13 ∧ 5 * kk13 + j ≤ 5 * kk + j13 ∧ kk ≤ kk13 := ⟨by omega, by omega, by omega, by omega⟩
theorem jhandle (ih : z_Ih b n me ep k) (hk : d + (k + 1) = 50) (hp : z_P b n me ep j t τ s nn kk w S R) (hq : z_Aq d R) (hb : s + w ≤ 3 * j ∧ 5 * kk ≤ j ∧ w ≤ 3 * d) (ht : t.2.1 = 28) : z_WC (5 * k + 84) 71 0 [(0, .ref 131), (1, .int (nI d))] [] S (fun o S' => z_Eo b n me ep d j t τ s nn kk w S R o S') := by
  have d50 : d < 50 := by omega
  obtain ⟨Rb, hbg, refB⟩ := rB hp hq d50
  have hpb := hbg.p hp
  have hzb := hbg.zd hq d50
  have hw : Rb.2.2 41 7 = 308 := by
    rw [hpb.1.2.1.2.2.2.2.2.2.2.1, ht]
    rfl
  have ref1 : ∀ Q, z_WR 18 167 0 [(0, .ref 148), (1, .int (nI d)), (2, .int 4)] [] Rb (fun x R1 => x = none ∧ z_Hq Q R1) → z_Hq Q R := fun Q h => refB Q (z_ifn (by rw [hw]; decide) (z_ifn (by rw [hw]; decide) (z_ifn (by rw [hw]; decide) (z_ifn (by rw [hw]; decide) (z_ifp hw (h.im (fun v R1 hv => ⟨hv.1, rfl, hv.2⟩)))))))
  have hr := hp.1.2.2.2.2
  have xb : z_XR R Rb := (hbg.fr (nn := 0) (kk := 0)).1
  refine t71_0 (A := S.1) (E := S.2.1) (N := S.2.2.1) (V := S.2.2.2.1) (W := S.2.2.2.2.1) (c := S.2.2.2.2.2) ?_
  refine ⟨hr.rm.1, ?_⟩
  -- the keyword
  rcases Pf (k := 4) (d := d) hpb (by omega) hzb with ⟨t1, S1, R1, n6, a1, a2, a3, a4, a5, a6, a7, a8, a9⟩ | ⟨x, y, S1, R1, m, m6, a1, a2, a3, a4, a5⟩
  case inr =>
    exact ⟨.inr 10, S1, a1.up (by omega), rfl, rfl, x, y, a2, fun Q hQ => ref1 Q (t167_0 (B := Rb.1) (M := Rb.2.1) (U := Rb.2.2) ⟨_, R1, a3.up (by decide), _, rfl, g167_6 (R := R1) m6 a4 (fun R' b1 b2 b3 => ⟨rfl, eH b1 (Or.inr (Or.inl b3)) (fun R2 c1 c2 => hQ R2 c1 (xb.tr (a5.tr (b2.tr c2))))⟩)⟩)⟩
  refine ⟨.inl (some (.int (nI t.1))), S1, a1.up (by omega), nI t.1, rfl, a3.1.2.2.2.2.rm.1, ?_⟩
  have lj1 := a3.1.len.1
  -- HANDLE
  obtain ⟨S2, i1, P2, i3, i4, -, -⟩ := Pa (o := 21) (a1 := 0) (a2 := 0) (f := nI t.1) a3 (by omega)
  refine ⟨.inl (some (.int (nI s))), S2, i1.up (by omega), nI s, rfl, P2.1.2.2.2.2.rm.1, ?_⟩
  obtain ⟨zin, zcn⟩ := z_o6_in n6
  obtain ⟨R2, hR2⟩ : ∃ X, X = (z_u R1.1 60 ((nn, -1) :: R1.1 60), R1.2.1, R1.2.2) := ⟨_, rfl⟩
  have B2 : R2.1 = z_u R1.1 60 ((nn, -1) :: R1.1 60) := by rw [hR2]
  have x12 : z_XR R1 R2 := by
    rw [hR2]
    exact z_XR_B (fun q r => z_un (by omega))
  have P3 : z_P b n me ep (j + 1) t1 τ (s + 1) (nn + 1) kk w S2 R2 := P2.ref (fun q r => by rw [B2, z_un (by omega)]) (fun _ _ => by rw [hR2])
  have Z3 : z_Zd (d + 1) R2 := by
    rw [hR2]
    exact a9.cg rfl rfl rfl rfl rfl
  obtain ⟨R4, k1, P4, q4, B4, u73, u74, x24⟩ := jask (m := nn) (v := 0) P3 Z3 n6 (by decide)
  have ref4 : ∀ Q, z_Hq Q R4 → z_Hq Q R := by
    intro Q h
    refine ref1 Q (t167_0 (B := Rb.1) (M := Rb.2.1) (U := Rb.2.2) ⟨_, R1, a2.up (by decide), _, rfl, z_ifp rfl (z_ifp a3.1.2.2.2.1 ?_)⟩)
    unfold p167_19
    rw [zcn]
    have kk1 := k1 16
    rw [hR2] at kk1
    exact ⟨zin, none, R4, kk1, rfl, rfl, h⟩
  have x1 : z_XR R R1 := xb.tr a5.1
  have x4 : z_XR R R4 := x1.tr (x12.tr x24)
  have fc2 : z_FC s w S S2 := a4.tr i3 (Nat.le_refl _) (Nat.le_refl _)
  have n57 : z_fn 0 (R4.1 57) nn = 4 := by rw [B4, B2, z_un (by decide), a7, z_un (by decide), z_un (by decide), z_uk, z_fcs]
  have n60 : z_fn 0 (R4.1 60) nn = -1 := by rw [B4, B2, z_uk, z_fcs]
  -- the body
  obtain ⟨o5, S5, f1, f2⟩ := jpart (q := 0) (k1 := 58) (k2 := 61) (Or.inl ⟨rfl, rfl, rfl⟩) ih (by omega) P4 q4 u73 u74 (Nat.lt_succ_self nn) ⟨by omega, by omega, by omega⟩
  rw [nI_1]
  refine ⟨o5, S5, f1.up (by omega), ?_⟩
  rcases o5 with v5 | e5'
  case inr =>
    obtain ⟨rfl, x, y, g1, g2⟩ := f2
    exact ⟨rfl, rfl, x, y, g1.tr fc2.1, fun Q hQ => ref4 Q (g2 Q (fun R' h1 h2 => hQ R' h1 (x4.tr h2)))⟩
  obtain ⟨rfl, R5, j5, t5, τ5, s5, nn5, kk5, f5, m5, P5, Z5, C5, ⟨n58, n61⟩, fm5, te5, fc5, ⟨l1, l2, l3, l4, l5, l6⟩, ref5'⟩ := f2
  refine ⟨rfl, P5.1.2.2.2.2.rm.1, ?_⟩
  have fc5' : z_FC s w S S5 := fc2.tr fc5 (Nat.le_succ _) (Nat.le_refl _)
  have x5 : z_XR R R5 := x4.tr fm5.1
  have m57 : z_fn 0 (R5.1 57) nn = 4 := (fm5.at (Nat.lt_succ_self nn) (by decide) (by decide) (by decide)).trans n57
  have m60 : z_fn 0 (R5.1 60) nn = -1 := (fm5.at (Nat.lt_succ_self nn) (by decide) (by decide) (by decide)).trans n60
  have ref5 : ∀ Q, p181_0 16 R5.1 R5.2.1 R5.2.2 (nI nn) (fun x R1 => x = none ∧ z_Hq Q R1) → z_Hq Q R := by
    intro Q h
    refine ref4 Q (ref5' Q ?_)
    unfold p179_107
    rw [zcn, m57]
    exact ⟨zin, z_ifn (by decide) (z_ifn (by decide) (z_ifn (by decide) (z_ifn (by decide) (z_ifp (show nI 0 = 0 from rfl) ((t181_0 (l := 16) h).im (fun v R1 hv => ⟨hv.1, rfl, hv.2⟩))))))⟩
  have dead : ∀ (x y : Int32) (R6 : z_RS) (S' : z_CS) (G : (Option Value → z_RS → Prop) → Prop), z_XR R R6 → z_Xd x y S S' → z_Dz x y (d + 1) R6 → (∀ Q, G (fun x R1 => x = none ∧ z_Hq Q R1) → z_Hq Q R) → (∀ Q', (∀ R', z_Dz x y (d + 1) R' → z_XR R6 R' → R'.2.2 41 53 = 0 → Q' none R') → G Q') → z_oj (.inr 10) (fun v => v = none ∧ z_El b n me ep d j t.1 τ s nn kk w S R S') (∃ x y, z_Xd x y S S' ∧ ∀ Q, (∀ R', z_Td x y R'.2.2 → z_XR R R' → Q none R') → z_Hq Q R) := by
    intro x y R6 S' G h1 h2 h3 h4 h5
    exact ⟨rfl, x, y, h2, fun Q hQ => h4 Q (h5 _ (fun R' b1 b2 b3 => ⟨rfl, eH b1 (Or.inr (Or.inl b3)) (fun R2 c1 c2 => hQ R2 c1 (h1.tr (b2.tr c2)))⟩))⟩
  -- with
  rcases jx P5.1 29 (by decide) (by decide) (by decide) with ⟨t6, S6, R6, c0, c1, c2, c3, c4, c5⟩ | ⟨x, y, S6, R6, c1, c2, c3, c4, c5⟩
  case inr => exact ⟨.inr 10, S6, c1.up (by omega), rfl, dead x y R6 S6 _ (x5.tr c4.xR) (c3.tr fc5'.1) ⟨c5, Z5.lw c4⟩ (fun Q h => ref5 Q ⟨none, R6, c2.up (by decide), rfl, h⟩) (fun Q' h => g181_7 (R := R6) n6 ⟨c5, Z5.lw c4⟩ h)⟩
  have P6 := P5.kw c5 c3 c4 (by omega)
  have Z6 := Z5.lw c4
  have ref6 : ∀ Q, p181_7 16 R6.1 R6.2.1 R6.2.2 (nI nn) (fun x R1 => x = none ∧ z_Hq Q R1) → z_Hq Q R := fun Q h => ref5 Q ⟨none, R6, c2.up (by decide), rfl, h⟩
  have x6 : z_XR R R6 := x5.tr c4.xR
  have fc6 : z_FC s w S S6 := fc5'.tr c3.fc (Nat.le_refl _) (Nat.le_refl _)
  refine ⟨.inl none, S6, c1.up (by omega), rfl, P6.1.2.2.2.2.rm.1, ?_⟩
  -- the row
  rcases jr P6.1 P6.2.1 with ⟨v, j7, t7, S7, R7, e0, e1, e2, e3, e4, e5⟩ | ⟨x, y, v, S7, R7, e1, e2, e3, e4, e5⟩
  case inr => exact ⟨.inr 10, S7, e1.up (by omega), rfl, dead x y R7 S7 _ (x6.tr e4.xR) (e3.tr fc6.1) ⟨e5, Z6.lw e4⟩ (fun Q h => ref6 Q ⟨_, R7, e2.up (by decide), v, rfl, h⟩) (fun Q' h => g181_16 (R := R7) n6 ⟨e5, Z6.lw e4⟩ h)⟩
  have P7 := P6.kw e5 e3 e4 e0
  have Z7 := Z6.lw e4
  have fc7 : z_FC s w S S7 := fc6.tr e3.fc (Nat.le_refl _) (Nat.le_refl _)
  refine ⟨.inl (some (.int v)), S7, e1.up (by omega), v, rfl, P7.1.2.2.2.2.rm.1, ?_⟩
  obtain ⟨R8, hR8⟩ : ∃ X, X = (z_u R7.1 70 ((nn, v) :: R7.1 70), R7.2.1, R7.2.2) := ⟨_, rfl⟩
  have B8 : R8.1 = z_u R7.1 70 ((nn, v) :: R7.1 70) := by rw [hR8]
  have x78 : z_XR R7 R8 := by
    rw [hR8]
    exact z_XR_B (fun q r => z_un (by omega))
  have P8 : z_P b n me ep j7 t7 τ5 s5 nn5 kk5 w S7 R8 := P7.ref (fun q r => by rw [B8, z_un (by omega)]) (fun _ _ => by rw [hR8])
  have Z8 : z_Zd (d + 1) R8 := by
    rw [hR8]
    exact Z7.cg rfl rfl rfl rfl rfl
  have ref8 : ∀ R9, z_Rr 14 154 0 [(0, .ref 148), (1, .int 310)] [] R8 none R9 → ∀ Q, p181_24 16 R9.1 R9.2.1 R9.2.2 (nI nn) (fun x R1 => x = none ∧ z_Hq Q R1) → z_Hq Q R := by
    intro R9 g1 Q h
    refine ref6 Q ⟨_, R7, e2.up (by decide), v, rfl, ?_⟩
    unfold p181_16
    rw [zcn, ← hR8]
    exact ⟨zin, none, R9, g1.up (by decide), rfl, h⟩
  have x8 : z_XR R R8 := x6.tr (e4.xR.tr x78)
  -- return
  rcases jx P8.1 30 (by decide) (by decide) (by decide) with ⟨t9, S9, R9, g0, g1, g2, g3, g4, g5⟩ | ⟨x, y, S9, R9, g1, g2, g3, g4, g5⟩
  case inr => exact ⟨.inr 10, S9, g1.up (by omega), rfl, dead x y R9 S9 _ (x8.tr g4.xR) (g3.tr fc7.1) ⟨g5, Z8.lw g4⟩ (fun Q h => ref8 R9 g2 Q h) (fun Q' h => g181_24 (R := R9) n6 ⟨g5, Z8.lw g4⟩ h)⟩
  have P9 := P8.kw g5 g3 g4 (by omega)
  have Z9 := Z8.lw g4
  have x9 : z_XR R R9 := x8.tr g4.xR
  have fc9 : z_FC s w S S9 := fc7.tr g3.fc (Nat.le_refl _) (Nat.le_refl _)
  refine ⟨.inl none, S9, g1.up (by omega), rfl, P9.1.2.2.2.2.rm.1, ?_⟩
  -- the name
  rcases Pm (m := nn) P9 n6 Z9 with ⟨t10, S10, R10, h0, h1, h2, P10, h4, h5, h6, h7, h8, Z10, hNm⟩ | ⟨x, y, S10, R10, h1, h2, h3, h4, h5⟩
  case inr => exact ⟨.inr 10, S10, h1.up (by omega), rfl, dead x y R10 S10 _ (x9.tr h5) (h2.tr fc9.1) h4 (fun Q h => ref8 R9 g2 Q ⟨none, R10, h3.up (by decide), rfl, h⟩) (fun Q' h => g181_29 (R := R10) n6 h4 h)⟩
  have x10 : z_XR R R10 := x9.tr h8
  have fc10 : z_FC s w S S10 := fc9.tr h4.fc (Nat.le_refl _) (Nat.le_refl _)
  have ref10 : ∀ Q, p181_29 16 R10.1 R10.2.1 R10.2.2 (nI nn) (fun x R1 => x = none ∧ z_Hq Q R1) → z_Hq Q R := fun Q h => ref8 R9 g2 Q ⟨none, R10, h2.up (by decide), rfl, h⟩
  refine ⟨.inl (some (.int t9.2.2)), S10, h1.up (by omega), t9.2.2, rfl, P10.1.2.2.2.2.rm.1, ?_⟩
  -- the arrow
  rcases jx P10.1 19 (by decide) (by decide) (by decide) with ⟨t11, S11, R11, o0, o1, o2, o3, o4, o5⟩ | ⟨x, y, S11, R11, o1, o2, o3, o4, o5⟩
  case inr => exact ⟨.inr 10, S11, o1.up (by omega), rfl, dead x y R11 S11 _ (x10.tr o4.xR) (o3.tr fc10.1) ⟨o5, Z10.lw o4⟩ (fun Q h => ref10 Q ⟨none, R11, o2.up (by decide), rfl, h⟩) (fun Q' h => g181_34 (R := R11) n6 ⟨o5, Z10.lw o4⟩ h)⟩
  have P11 := P10.kw o5 o3 o4 (by omega)
  have Z11 := Z10.lw o4
  have fc11 : z_FC s w S S11 := fc10.tr o3.fc (Nat.le_refl _) (Nat.le_refl _)
  have lj11 := P11.1.len.1
  refine ⟨.inl none, S11, o1.up (by omega), rfl, P11.1.2.2.2.2.rm.1, ?_⟩
  -- RETURN
  obtain ⟨S12, v1, P12, v3, v4, -, -⟩ := Pa (o := 22) (a1 := t9.2.2) (a2 := v) (f := nI t.1) P11 (by omega)
  refine ⟨.inl (some (.int (nI s5))), S12, v1.up (by omega), nI s5, rfl, P12.1.2.2.2.2.rm.1, ?_⟩
  obtain ⟨R12, k12, P12', q12, B12, w73, w74, x1112⟩ := jask (m := nn) (v := 1) P12 Z11 n6 (by decide)
  have ref12 : ∀ Q, z_Hq Q R12 → z_Hq Q R := fun Q h => ref10 Q ⟨none, R11, o2.up (by decide), rfl, none, R12, k12 15, rfl, rfl, h⟩
  have x12' : z_XR R R12 := x10.tr (o4.xR.tr x1112)
  have fc12 : z_FC s w S S12 := fc11.tr v3 (by omega) (Nat.le_refl _)
  -- what it answers
  obtain ⟨o13, S13, y1, y2⟩ := jpart (q := 1) (k1 := 59) (k2 := 62) (Or.inr (Or.inl ⟨rfl, rfl, rfl⟩)) ih (by omega) P12' q12 w73 w74 (by omega) ⟨by omega, by omega, by omega⟩
  rw [nI_1]
  refine ⟨o13, S13, y1.up (by omega), ?_⟩
  rcases o13 with v13 | e13
  case inr =>
    obtain ⟨rfl, x, y, g1, g2⟩ := y2
    exact ⟨rfl, rfl, x, y, g1.tr fc12.1, fun Q hQ => ref12 Q (g2 Q (fun R' h1 h2 => hQ R' h1 (x12'.tr h2)))⟩
  obtain ⟨rfl, R13, j13, t13, τ13, s13, nn13, kk13, f13, m13, P13, Z13, C13, ⟨n59, n62⟩, fm13, te13, fc13, ⟨r1, r2, r3, r4, r5, r6⟩, ref13'⟩ := y2
  refine ⟨rfl, P13.1.2.2.2.2.rm.1, ?_⟩
  have fc13' : z_FC s w S S13 := fc12.tr fc13 (by omega) (Nat.le_refl _)
  have lj13 := P13.1.len.1
  -- RETURN_END
  obtain ⟨S14, z1, P14, z3, z4, -, -⟩ := Pa (o := 23) (a1 := 0) (a2 := 0) (f := nI t.1) P13 (by omega)
  refine ⟨.inl (some (.int (nI s13))), S14, z1.up (by omega), nI s13, rfl, ?_⟩
  -- the node's entries in the end
  have B1211 : R12.1 = R11.1 := B12
  have at12 : ∀ q, ¬ (q = 64 ∨ q = 65 ∨ q = 70) → R12.1 q = R5.1 q := by
    intro q hq
    rw [B12, o4.1, h5, z_un (by omega), z_un (by omega), g4.1, B8, z_un (by omega), e4.1, c4.1]
  have f13n : ∀ q, (57 ≤ q ∧ q ≤ 70) ∨ q = 97 → ¬ (q = 59 ∨ q = 62) → z_fn 0 (R13.1 q) nn = z_fn 0 (R12.1 q) nn := fun q a c => fm13.at (by omega) a (by omega) (by omega)
  have q57 : z_fn 0 (R13.1 57) nn = 4 := by rw [f13n 57 (by decide) (by decide), at12 57 (by decide), m57]
  have q60 : z_fn 0 (R13.1 60) nn = -1 := by rw [f13n 60 (by decide) (by decide), at12 60 (by decide), m60]
  have q58 : z_fn 0 (R13.1 58) nn = nI m5 := by rw [f13n 58 (by decide) (by decide), at12 58 (by decide), n58]
  have q61 : z_fn 0 (R13.1 61) nn = nI t1.1 := by rw [f13n 61 (by decide) (by decide), at12 61 (by decide), n61]
  have q64 : z_fn 0 (R13.1 64) nn = nI t9.1 := by rw [f13n 64 (by decide) (by decide), B12, o4.1, h5, z_un (by decide), z_uk, z_fcs]
  have q65 : z_fn 0 (R13.1 65) nn = nI (z_ll b n t9.1) := by rw [f13n 65 (by decide) (by decide), B12, o4.1, h5, z_uk, z_fcs]
  have q70 : z_fn 0 (R13.1 70) nn = v := by rw [f13n 70 (by decide) (by decide), B12, o4.1, h5, z_un (by decide), z_un (by decide), g4.1, B8, z_uk, z_fcs]
  have oth12 : ∀ q x, ¬ ((q = 64 ∨ q = 65 ∨ q = 70) ∧ x = nn) → z_fn 0 (R12.1 q) x = z_fn 0 (R5.1 q) x := by
    intro q x hx
    rw [B12, o4.1, h5]
    by_cases e1 : q = 65
    · subst e1
      rw [z_uk, z_fcn (fun e => hx ⟨Or.inr (Or.inl rfl), e⟩), g4.1, B8, z_un (by decide), e4.1, c4.1]
    rw [z_un e1]
    by_cases e2 : q = 64
    · subst e2
      rw [z_uk, z_fcn (fun e => hx ⟨Or.inl rfl, e⟩), g4.1, B8, z_un (by decide), e4.1, c4.1]
    rw [z_un e2, g4.1, B8]
    by_cases e3 : q = 70
    · subst e3
      rw [z_uk, z_fcn (fun e => hx ⟨Or.inr (Or.inr rfl), e⟩), e4.1, c4.1]
    rw [z_un e3, e4.1, c4.1]
  have x512 : z_XR R5 R12 := c4.xR.tr (e4.xR.tr (x78.tr (g4.xR.tr (h8.tr (o4.xR.tr x1112)))))
  have nr5 : z_Nr ((nn + 1, nn5), (kk, kk5)) R5 R13 := ⟨fun q a c x e1 e2 => by
    have : nn + 1 ≤ x := e1
    rw [fm13.2.1 q (Or.inl ⟨a, c⟩) x e2 (by omega), oth12 q x (by omega)], fun q a c x e1 e2 => by rw [fm13.2.2.1 q a c x e2, oth12 q x (by omega)]⟩
  have cs5 : z_Cs (s + 1) s5 S5 S14 := fun q a c x e1 e2 => by rw [z3.2.1 q a c x (by omega), fc13.2.1 q a c x (by omega), v3.2.1 q a c x (by omega), o3.1, h4.1, g3.1, e3.1, c3.1]
  have csA : ∀ q, 14 ≤ q → q ≤ 19 → ∀ x, x < s5 + 1 → z_fn 0 (S14.1 q) x = z_fn 0 (S12.1 q) x := fun q a c x e => by rw [z3.2.1 q a c x (by omega), fc13.2.1 q a c x e]
  have T5 := P5.2.2.1
  have T13 := P13.2.2.1
  obtain ⟨w1, w2, w3, w4⟩ := z_hab (kk := kk) l1 l2 l3 l5 (j11 := j7 + 1 + 1 + 1) (by omega) r1 r2 r3 r5
  obtain ⟨⟨c80, c81, c83, c82⟩, -⟩ := id hbg
  have e8 : R.2.2 41 8 = nI t.1 := hp.1.2.1.2.2.2.2.2.2.1
  have cell : ∀ q, 80 ≤ q → q ≤ 83 → z_fn 0 (R13.1 q) d = z_fn 0 (Rb.1 q) d := by
    intro q a c
    rw [fm13.2.2.2 q a (by omega) d (Nat.lt_succ_self d), oth12 q d (by omega), fm5.2.2.2 q a (by omega) d (Nat.lt_succ_self d), B4, B2, z_un (by omega), a7, z_un (by omega), z_un (by omega), z_un (by omega)]
  have frA : z_FR nn kk d R R13 := by
    have q1 : z_FR nn kk d R R1 := (hbg.fr (nn := nn) (kk := kk)).tr a5 (Nat.le_refl _) (Nat.le_refl _) (Nat.le_refl _)
    have q2 : z_FR nn kk d R R2 := by
      rw [hR2]
      exact q1.tr (z_FR.put (nn := nn) (kk := kk) (d := d) (by decide) (fun _ => Nat.le_refl _) (by omega) (by omega)) (Nat.le_refl _) (Nat.le_refl _) (Nat.le_refl _)
    have q3 : z_FR nn kk d R R4 := q2.tr (z_FR.Be (nn := nn) (kk := kk) (d := d) x24 B4) (Nat.le_refl _) (Nat.le_refl _) (Nat.le_refl _)
    have q4 : z_FR nn kk d R R5 := q3.tr (fm5.fr (nn0 := nn) (kk0 := kk) (d0 := d) (Nat.le_refl _) (Nat.le_succ _) (Nat.le_refl _) (Nat.le_succ _)) (Nat.le_refl _) (Nat.le_refl _) (Nat.le_refl _)
    have q5 : z_FR nn kk d R R12 := q4.tr (⟨x512, fun q a x e => oth12 q x (by omega), fun q a c x e => oth12 q x (by omega), fun q a c x e => oth12 q x (by omega)⟩ : z_FR nn kk d R5 R12) (Nat.le_refl _) (Nat.le_refl _) (Nat.le_refl _)
    exact q5.tr (fm13.fr (nn0 := nn) (kk0 := kk) (d0 := d) (Nat.le_refl _) (by omega) l5 (Nat.le_succ _)) (Nat.le_refl _) (Nat.le_refl _) (Nat.le_refl _)
  have hvz : z_Hvz b n me ep d j τ s nn kk w S R t.1 j13 t13 s S14 R13 := by
    refine ⟨τ13, s13 + 1, nn13, kk13, max f5 f13, [], m5, m13, s5, s13, nn5, P14, Z13, q57, ⟨q58, n59, l6, r6, Nat.lt_succ_self _, ?_, ?_, ?_, ?_, ?_, ?_, z4.1⟩, ⟨⟨by omega, Nat.le_of_lt r4⟩, ⟨q60, ?_, rfl⟩, rfl, trivial, fun i hi => (by cases hi), Or.inl ⟨rfl, q60⟩⟩, ⟨frA, ⟨(cell 80 (by decide) (by decide)).trans c80, (cell 81 (by decide) (by decide)).trans c81, (cell 83 (by decide) (by decide)).trans c83, ((cell 82 (by decide) (by decide)).trans c82).trans e8⟩, te5.tr te13, fc13'.tr z3 (by omega) (Nat.le_refl _)⟩, ⟨w1, w2, w3, by omega, w4⟩, ?_⟩
    · rw [csA 14 (by decide) (by decide) s (by omega), v3.2.1 14 (by decide) (by decide) s (by omega), o3.1, h4.1, g3.1, e3.1, c3.1, fc5.2.1 14 (by decide) (by decide) s (Nat.lt_succ_self s)]
      exact i4.1
    · rw [q61]
      exact ⟨((nn + 1, nn5), (kk, kk5)), f5, Nat.le_max_left _ _, ⟨Nat.le_refl _, Nat.le_refl _⟩, ⟨Nat.le_refl _, r5⟩, fun c hc => (by cases hc), C5.mv (S' := S14) (R' := R13) (f' := f5) (u' := ((nn + 1, nn5), (kk, kk5))) (Nat.le_refl _) cs5 nr5 T5.1.1 T5.2.1.1 te13 ⟨⟨Nat.le_refl _, Nat.le_refl _⟩, ⟨Nat.le_refl _, Nat.le_refl _⟩⟩⟩
    · rw [csA 14 (by decide) (by decide) s5 (Nat.lt_succ_self _)]
      exact v4.1
    · rw [q64, q65, csA 15 (by decide) (by decide) s5 (Nat.lt_succ_self _), v4.2.1]
      exact hNm
    · rw [q70, csA 16 (by decide) (by decide) s5 (Nat.lt_succ_self _)]
      exact v4.2.2.1
    · rw [n62]
      exact ⟨((nn5, nn13), (kk5, kk13)), f13, Nat.le_max_right _ _, ⟨Nat.le_refl _, Nat.le_refl _⟩, ⟨l5, Nat.le_refl _⟩, fun c hc => (by cases hc), C13.mv (S' := S14) (R' := R13) (f' := f13) (u' := ((nn5, nn13), (kk5, kk13))) (Nat.le_refl _) z3.cs z_Nr.rf T13.1.1 T13.2.1.1 z_Te.rf ⟨⟨Nat.le_refl _, Nat.le_refl _⟩, ⟨Nat.le_refl _, Nat.le_refl _⟩⟩⟩
    · rw [csA 16 (by decide) (by decide) s (by omega), v3.2.1 16 (by decide) (by decide) s (by omega), o3.1, h4.1, g3.1, e3.1, c3.1, fc5.2.1 16 (by decide) (by decide) s (Nat.lt_succ_self s)]
      exact i4.2.2.1
    · intro Q h
      refine ref12 Q (ref13' Q ?_)
      unfold p179_107
      rw [zcn, q57]
      exact ⟨zin, z_ifn (by decide) (z_ifn (by decide) (z_ifn (by decide) (z_ifn (by decide) (z_ifn (show ¬ nI 1 = 0 by decide) (h.im (fun v R1 hv => ⟨hv.1, rfl, hv.2⟩))))))⟩
  exact (jhl (v4 := v) (v5 := t9.2.2) ih hk hb n6 (1501 - j13) j13 t13 S14 R13 s 0 (Nat.le_refl _) (by omega) hvz).im (fun o S' ho => ho)
end ZZC
