/-! Reading programs, both together: let. -/
section ZX9
variable {b : Nat → Nat} {n me : Nat} {ep : Nat → Nat} {j : Nat} {t : Nat × Nat × Int32} {τ : z_TT} {s nn kk w d k : Nat} {S : z_CS} {R : z_RS}
theorem z_Cp.lt {A B : Nat → List (Nat × Int32)} {u : z_Bd} {f g m e : Nat} {p : Int32} (h : z_Cp b n me τ A B u f g m s e p) : s < e ∧ m < u.1.2 ∧ u.1.1 ≤ m := by
  cases f with
  | zero => exact h.elim
  | succ f => exact ⟨h.1.2.2, h.1.2.1, h.1.1⟩
theorem jlet (ih : z_Ih b n me ep k) (hk : d + (k + 1) = 50) (hp : z_P b n me ep j t τ s nn kk w S R) (hq : z_Aq d R) (hb : s + w ≤ 3 * j ∧ 5 * kk ≤ j ∧ w ≤ 3 * d) (ht : t.2.1 = 21) : z_WC (5 * k + 84) 63 0 [(0, .ref 131), (1, .int (nI d))] [] S (fun o S' => z_Eo b n me ep d j t τ s nn kk w S R o S') := by
  have d50 : d < 50 := by omega
  obtain ⟨Rb, hbg, refB⟩ := rB hp hq d50
  have hpb := hbg.p hp
  have hzb := hbg.zd hq d50
  have hw : Rb.2.2 41 7 = 301 := by
    rw [hpb.1.2.1.2.2.2.2.2.2.2.1, ht]
    rfl
  have ref1 : ∀ Q, z_WR 18 161 0 [(0, .ref 148), (1, .int (nI d))] [] Rb (fun x R1 => x = none ∧ z_Hq Q R1) → z_Hq Q R := fun Q h => refB Q (z_ifp hw (h.im (fun v R1 hv => ⟨hv.1, rfl, hv.2⟩)))
  have hr := hp.1.2.2.2.2
  have xb : z_XR R Rb := (hbg.fr (nn := 0) (kk := 0)).1
  refine t63_0 (A := S.1) (E := S.2.1) (N := S.2.2.1) (V := S.2.2.2.1) (W := S.2.2.2.2.1) (c := S.2.2.2.2.2) ?_
  refine ⟨hr.rm.1, ?_⟩
  -- the keyword
  rcases Pf (k := 0) (d := d) hpb (by omega) hzb with ⟨t1, S1, R1, n6, a1, a2, a3, a4, a5, a6, a7, a8, a9⟩ | ⟨x, y, S1, R1, m, m6, a1, a2, a3, a4, a5⟩
  case inr =>
    exact ⟨.inr 10, S1, a1.up (by omega), rfl, rfl, x, y, a2, fun Q hQ => ref1 Q (t161_0 (B := Rb.1) (M := Rb.2.1) (U := Rb.2.2) ⟨_, R1, a3.up (by decide), _, rfl, g161_6 (R := R1) m6 a4 (fun R' b1 b2 b3 => ⟨rfl, eH b1 (Or.inr (Or.inl b3)) (fun R2 c1 c2 => hQ R2 c1 (xb.tr (a5.tr (b2.tr c2))))⟩)⟩)⟩
  refine ⟨.inl (some (.int (nI t.1))), S1, a1.up (by omega), nI t.1, rfl, ?_⟩
  have hr1 := a3.1.2.2.2.2
  refine ⟨hr1.rm.1, ?_⟩
  have ref2 : ∀ Q, p161_6 17 R1.1 R1.2.1 R1.2.2 (nI d) (nI nn) (fun x R1 => x = none ∧ z_Hq Q R1) → z_Hq Q R := fun Q h => ref1 Q (t161_0 (B := Rb.1) (M := Rb.2.1) (U := Rb.2.2) ⟨_, R1, a2.up (by decide), _, rfl, h⟩)
  have x1 : z_XR R R1 := xb.tr a5.1
  obtain ⟨zin, zcn⟩ := z_o6_in n6
  -- the name
  rcases Pm (m := nn) (d := d + 1) a3 n6 a9 with ⟨t2, S2, R2, c0, c1, c2, c3, c4, c5, c6, c7, c8, c9, c10⟩ | ⟨x, y, S2, R2, c1, c2, c3, c4, c5⟩
  case inr =>
    exact ⟨.inr 10, S2, c1.up (by omega), rfl, rfl, x, y, c2.tr a4.1, fun Q hQ => ref2 Q ⟨none, R2, c3.up (by decide), rfl, g161_12 (R := R2) n6 c4 (fun R' b1 b2 b3 => ⟨rfl, eH b1 (Or.inr (Or.inl b3)) (fun R3 d1 d2 => hQ R3 d1 (x1.tr (c5.tr (b2.tr d2))))⟩)⟩⟩
  refine ⟨.inl (some (.int t1.2.2)), S2, c1.up (by omega), t1.2.2, rfl, ?_⟩
  have hr2 := c3.1.2.2.2.2
  refine ⟨hr2.rm.1, ?_⟩
  have ref3 : ∀ Q, p161_12 17 R2.1 R2.2.1 R2.2.2 (nI d) (nI nn) (fun x R1 => x = none ∧ z_Hq Q R1) → z_Hq Q R := fun Q h => ref2 Q ⟨none, R2, c2.up (by decide), rfl, h⟩
  have x2 : z_XR R R2 := x1.tr c8
  have fc2 : z_FC s w S S2 := a4.tr c4.fc (Nat.le_refl _) (Nat.le_refl _)
  -- the sign =
  rcases jx c3.1 12 (by decide) (by decide) (by decide) with ⟨t3, S3, R3, e0, e1, e2, e3, e4, e5⟩ | ⟨x, y, S3, R3, e1, e2, e3, e4, e5⟩
  case inr =>
    exact ⟨.inr 10, S3, e1.up (by omega), rfl, rfl, x, y, e3.tr fc2.1, fun Q hQ => ref3 Q ⟨none, R3, e2.up (by decide), rfl, g161_18 (R := R3) n6 ⟨e5, c9.lw e4⟩ (fun R' b1 b2 b3 => ⟨rfl, eH b1 (Or.inr (Or.inl b3)) (fun R3 d1 d2 => hQ R3 d1 (x2.tr (e4.xR.tr (b2.tr d2))))⟩)⟩⟩
  refine ⟨.inl none, S3, e1.up (by omega), rfl, ?_⟩
  have P3 := c3.kw e5 e3 e4 (by omega)
  have Z3 : z_Zd (d + 1) R3 := c9.lw e4
  have hr3 := P3.1.2.2.2.2
  refine ⟨hr3.rm.1, ?_⟩
  have fc3 : z_FC s w S S3 := fc2.tr e3.fc (Nat.le_refl _) (Nat.le_refl _)
  obtain ⟨R4, hR4⟩ : ∃ X, X = (R3.1, R3.2.1, z_v (z_v (z_v (z_v R3.2.2 41 73 (nI nn)) 41 74 0) 41 75 (-1)) 41 53 0) := ⟨_, rfl⟩
  have ref4 : ∀ Q, z_Hq Q R4 → z_Hq Q R := fun Q h => ref3 Q ⟨none, R3, e2.up (by decide), rfl, none, R4, by rw [hR4]; exact r159, rfl, rfl, h⟩
  have P4 : z_P b n me ep (j + 1 + 1 + 1) t3 τ s (nn + 1) kk w S3 R4 := by
    rw [hR4]
    exact P3.ref (fun _ _ => rfl) (fun i hi => by show z_v (z_v (z_v (z_v R3.2.2 41 73 (nI nn)) 41 74 0) 41 75 (-1)) 41 53 0 41 i = R3.2.2 41 i; rw [z_vn (by omega), z_vn (by omega), z_vn (by omega), z_vn (by omega)])
  have q4 : z_Aq (d + 1) R4 := by
    rw [hR4]
    exact z_Aq_i Z3 (Or.inr ⟨nn, n6, rfl⟩) (by omega) ⟨0, by decide, by decide, rfl⟩
  have f34 : z_FR (nn + 1) kk 50 R3 R4 := by
    rw [hR4]
    exact z_FR.U z_ak
  have x4 : z_XR R R4 := x2.tr (e4.xR.tr f34.1)
  have u73 : R4.2.2 41 73 = nI nn := by
    rw [hR4]
    rfl
  have u74 : R4.2.2 41 74 = nI 0 := by
    rw [hR4]
    rfl
  -- the first part
  have J3 := P3.1.len.1
  obtain ⟨o5, S5, f1, f2⟩ := ih (d + 1) (by omega) S3 R4 (j + 1 + 1 + 1) t3 τ s (nn + 1) kk w P4 q4 ⟨by omega, by omega, by omega⟩
  rw [nI_1]
  refine ⟨o5, S5, f1.up (by omega), ?_⟩
  rcases o5 with v5 | e5'
  case inr =>
    obtain ⟨rfl, x, y, g1, g2⟩ := f2
    exact ⟨rfl, rfl, x, y, g1.tr fc3.1, fun Q hQ => ref4 Q (g2 Q (fun R' h1 h2 => hQ R' h1 (x4.tr h2)))⟩
  obtain ⟨rfl, R5, j5, t5, τ5, s5, nn5, kk5, f5, m5, P5, Z5, ⟨M5, E5, A5⟩, C5, ⟨b80, b81, -, -⟩, te5, fc5, fr5, ⟨l1, l2, l3, l4, l5⟩, ref5'⟩ := f2
  refine ⟨rfl, ?_⟩
  have hr5 := P5.1.2.2.2.2
  have h05 : R5.2.2 41 11 = 0 := P5.1.2.2.2.1
  have J5 := P5.1.len.1
  have ss5 := C5.lt
  have fc5' : z_FC s w S S5 := fc3.tr fc5 (Nat.le_refl _) (Nat.le_refl _)
  have x5 : z_XR R R5 := x4.tr fr5.1
  refine ⟨hr5.rm.1, ?_⟩
  obtain ⟨R6, hR6⟩ : ∃ X, X = (z_u (z_u R5.1 58 ((nn, nI m5) :: R5.1 58)) 61 ((nn, nI t3.1) :: R5.1 61), R5.2.1, z_v R5.2.2 41 52 (nI (d + 1))) := ⟨_, rfl⟩
  have B6 : R6.1 = z_u (z_u R5.1 58 ((nn, nI m5) :: R5.1 58)) 61 ((nn, nI t3.1) :: R5.1 61) := by rw [hR6]
  -- what node nn holds
  have k57 : ∀ X : z_RS, z_FR (nn + 1) kk (d + 1) R4 X → z_fn 0 (X.1 57) nn = 0 ∧ z_fn 0 (X.1 64) nn = nI t1.1 ∧ z_fn 0 (X.1 65) nn = nI (z_ll b n t1.1) := by
    intro X hX
    have r4 : R4.1 = z_u (z_u R1.1 64 ((nn, nI t1.1) :: R1.1 64)) 65 ((nn, nI (z_ll b n t1.1)) :: R1.1 65) := by
      rw [hR4]
      exact e4.1.trans c5
    rw [hX.2.1 57 (by omega) nn (by omega), hX.2.1 64 (by omega) nn (by omega), hX.2.1 65 (by omega) nn (by omega), r4]
    refine ⟨?_, ?_, ?_⟩
    · rw [z_un (by decide), z_un (by decide), a7, z_un (by decide), z_un (by decide), z_uk, z_fcs]
    · rw [z_un (by decide), z_uk, z_fcs]
    · rw [z_uk, z_fcs]
  have k5 := k57 R5 fr5
  have ref6 : ∀ Q, p179_148 17 R6.1 R6.2.1 R6.2.2 (nI nn) (nI 0) (fun x R1 => x = none ∧ z_Hq Q R1) → z_Hq Q R := by
    intro Q h
    refine ref4 Q (ref5' Q (rC h05 M5 Z5.1 (by have := Z5.2.1; omega) (b80.trans u73) n6 (b81.trans u74) Q ?_))
    refine z_ifp (show nI 0 = 0 from rfl) ?_
    unfold p179_4
    have q54 : z_v R5.2.2 41 52 (nI (d + 1)) 41 54 = nI m5 := E5
    have q55 : z_v R5.2.2 41 52 (nI (d + 1)) 41 55 = nI t3.1 := A5
    rw [zcn, q54, q55]
    refine ⟨zin, zin, ?_⟩
    unfold p179_107
    rw [zcn]
    rw [hR6] at h
    exact ⟨zin, z_ifp k5.1 (z_ifp (show nI 0 = 0 from rfl) h)⟩
  have P6 : z_P b n me ep j5 t5 τ5 s5 nn5 kk5 w S5 R6 := by
    rw [hR6]
    exact P5.ref (fun q r => by show z_u (z_u R5.1 58 ((nn, nI m5) :: R5.1 58)) 61 ((nn, nI t3.1) :: R5.1 61) q = R5.1 q; rw [z_un (by omega), z_un (by omega)]) (fun i hi => by show z_v R5.2.2 41 52 (nI (d + 1)) 41 i = R5.2.2 41 i; rw [z_vn (by omega)])
  have Z6 : z_Zd (d + 1) R6 := by
    rw [hR6]
    exact (z_Zd.dn Z5).cg rfl rfl rfl rfl rfl
  have x56 : z_XR R5 R6 := by
    rw [hR6]
    exact (z_XR_B (R := R5) (B' := z_u (z_u R5.1 58 ((nn, nI m5) :: R5.1 58)) 61 ((nn, nI t3.1) :: R5.1 61)) (fun q r => by rw [z_un (by omega), z_un (by omega)])).tr (z_XR_U (R := (z_u (z_u R5.1 58 ((nn, nI m5) :: R5.1 58)) 61 ((nn, nI t3.1) :: R5.1 61), R5.2.1, R5.2.2)) (fun k' j' q => z_vn (by omega)))
  have x6 : z_XR R R6 := x5.tr x56
  -- in
  rcases jx P6.1 23 (by decide) (by decide) (by decide) with ⟨t7, S7, R7, h0, h1, h2, h3, h4, h5⟩ | ⟨x, y, S7, R7, h1, h2, h3, h4, h5⟩
  case inr =>
    obtain ⟨R8, g1, g2, g3, g4⟩ := e159 (l := 16) (u := nI nn) (v := 1) (x := x) (y := y) (d := d + 1) (R := R7) ⟨h5, Z6.lw h4⟩
    exact ⟨.inr 10, S7, h1.up (by omega), rfl, rfl, x, y, h3.tr fc5'.1, fun Q hQ => ref6 Q ⟨none, R7, h2.up (by decide), rfl, none, R8, g1, rfl, rfl, eH g2 (Or.inr (Or.inl g4)) (fun R3 d1 d2 => hQ R3 d1 (x6.tr (h4.xR.tr (g3.tr d2))))⟩⟩
  refine ⟨.inl none, S7, h1.up (by omega), rfl, ?_⟩
  have P7 := P6.kw h5 h3 h4 (by omega)
  have hr7 := P7.1.2.2.2.2
  refine ⟨hr7.rm.1, ?_⟩
  obtain ⟨R8, hR8⟩ : ∃ X, X = (R7.1, R7.2.1, z_v (z_v (z_v (z_v R7.2.2 41 73 (nI nn)) 41 74 1) 41 75 (-1)) 41 53 0) := ⟨_, rfl⟩
  have ref8 : ∀ Q, z_Hq Q R8 → z_Hq Q R := fun Q h => ref6 Q ⟨none, R7, h2.up (by decide), rfl, none, R8, by rw [hR8]; exact r159, rfl, rfl, h⟩
  have P8 : z_P b n me ep (j5 + 1) t7 τ5 s5 nn5 kk5 w S7 R8 := by
    rw [hR8]
    exact P7.ref (fun _ _ => rfl) (fun i hi => by show z_v (z_v (z_v (z_v R7.2.2 41 73 (nI nn)) 41 74 1) 41 75 (-1)) 41 53 0 41 i = R7.2.2 41 i; rw [z_vn (by omega), z_vn (by omega), z_vn (by omega), z_vn (by omega)])
  have q8 : z_Aq (d + 1) R8 := by
    rw [hR8]
    exact z_Aq_i (Z6.lw h4) (Or.inr ⟨nn, n6, rfl⟩) (by omega) ⟨1, by decide, by decide, rfl⟩
  have f78 : z_FR nn5 kk5 50 R7 R8 := by
    rw [hR8]
    exact z_FR.U z_ak
  have v73 : R8.2.2 41 73 = nI nn := by
    rw [hR8]
    rfl
  have v74 : R8.2.2 41 74 = nI 1 := by
    rw [hR8]
    rfl
  have x8 : z_XR R R8 := x6.tr (h4.xR.tr f78.1)
  have J7 := P7.1.len.1
  -- BIND
  obtain ⟨S9, i1, i2, i3, i4, -, -⟩ := Pa (o := 4) (a1 := t1.2.2) (a2 := 0) (f := nI t.1) P8 (by omega)
  refine ⟨.inl (some (.int (nI s5))), S9, i1.up (by omega), nI s5, rfl, ?_⟩
  have hr9 := i2.1.2.2.2.2
  refine ⟨hr9.rm.1, ?_⟩
  have fc9 : z_FC s w S S9 := (fc5'.tr h3.fc (Nat.le_refl _) (Nat.le_refl _)).tr i3 (by omega) (Nat.le_refl _)
  -- the second part
  obtain ⟨o10, S10, y1, y2⟩ := ih (d + 1) (by omega) S9 R8 (j5 + 1) t7 τ5 (s5 + 1) nn5 kk5 w i2 q8 ⟨by omega, by omega, by omega⟩
  rw [nI_1]
  refine ⟨o10, S10, y1.up (by omega), ?_⟩
  rcases o10 with v10 | e10
  case inr =>
    obtain ⟨rfl, x, y, g1, g2⟩ := y2
    exact ⟨rfl, rfl, x, y, g1.tr fc9.1, fun Q hQ => ref8 Q (g2 Q (fun R' h1 h2 => hQ R' h1 (x8.tr h2)))⟩
  obtain ⟨rfl, R10, j10, t10, τ10, s10, nn10, kk10, f10, m10, P10, Z10, ⟨M10, E10, A10⟩, C10, ⟨w80, w81, -, -⟩, te10, fc10, fr10, ⟨r1, r2, r3, r4, r5⟩, ref10'⟩ := y2
  refine ⟨rfl, ?_⟩
  have hr10 := P10.1.2.2.2.2
  have h010 : R10.2.2 41 11 = 0 := P10.1.2.2.2.1
  have J10 := P10.1.len.1
  refine ⟨hr10.rm.1, ?_⟩
  -- FORGET
  obtain ⟨S11, z1, z2, z3, z4, -, -⟩ := Pa (o := 5) (a1 := 0) (a2 := 0) (f := nI t.1) P10 (by omega)
  refine ⟨.inl (some (.int (nI s10))), S11, z1.up (by omega), nI s10, rfl, rfl, ?_⟩
  -- the reference: the whole
  obtain ⟨R11, hR11⟩ : ∃ X, X = (z_u (z_u R10.1 59 ((nn, nI m10) :: R10.1 59)) 62 ((nn, nI t7.1) :: R10.1 62), R10.2.1, z_v R10.2.2 41 52 (nI (d + 1))) := ⟨_, rfl⟩
  have B11 : R11.1 = z_u (z_u R10.1 59 ((nn, nI m10) :: R10.1 59)) 62 ((nn, nI t7.1) :: R10.1 62) := by rw [hR11]
  have U11 : R11.2.2 41 52 = nI (d + 1) := by
    rw [hR11]
    rfl
  obtain ⟨R12, hR12⟩ : ∃ X, X = (R11.1, R11.2.1, z_v (z_v (z_v R11.2.2 41 54 (nI nn)) 41 55 (z_fn 0 (R11.1 82) d)) 41 53 3) := ⟨_, rfl⟩
  have ss10 := C10.lt
  have x1011 : z_XR R10 R11 := by
    rw [hR11]
    exact (z_XR_B (R := R10) (B' := z_u (z_u R10.1 59 ((nn, nI m10) :: R10.1 59)) 62 ((nn, nI t7.1) :: R10.1 62)) (fun q r => by rw [z_un (by omega), z_un (by omega)])).tr (z_XR_U (R := (z_u (z_u R10.1 59 ((nn, nI m10) :: R10.1 59)) 62 ((nn, nI t7.1) :: R10.1 62), R10.2.1, R10.2.2)) (fun k' j' q => z_vn (by omega)))
  have B12 : R12.1 = R11.1 := by rw [hR12]
  have B8 : R8.1 = R6.1 := by
    rw [hR8]
    exact h4.1
  -- node nn
  have n10 : ∀ q, 57 ≤ q → q ≤ 70 → z_fn 0 (R10.1 q) nn = z_fn 0 (R6.1 q) nn := fun q a1' b1' => by rw [fr10.2.1 q (Or.inl ⟨a1', b1'⟩) nn (by omega), B8]
  have n57 : z_fn 0 (R12.1 57) nn = 0 := by rw [B12, B11, z_un (by decide), z_un (by decide), n10 57 (by decide) (by decide), B6, z_un (by decide), z_un (by decide)]; exact k5.1
  have n64 : z_fn 0 (R12.1 64) nn = nI t1.1 := by rw [B12, B11, z_un (by decide), z_un (by decide), n10 64 (by decide) (by decide), B6, z_un (by decide), z_un (by decide)]; exact k5.2.1
  have n65 : z_fn 0 (R12.1 65) nn = nI (z_ll b n t1.1) := by rw [B12, B11, z_un (by decide), z_un (by decide), n10 65 (by decide) (by decide), B6, z_un (by decide), z_un (by decide)]; exact k5.2.2
  have n58 : z_fn 0 (R12.1 58) nn = nI m5 := by rw [B12, B11, z_un (by decide), z_un (by decide), n10 58 (by decide) (by decide), B6, z_un (by decide), z_uk, z_fcs]
  have n61 : z_fn 0 (R12.1 61) nn = nI t3.1 := by rw [B12, B11, z_un (by decide), z_un (by decide), n10 61 (by decide) (by decide), B6, z_uk, z_fcs]
  have n59 : z_fn 0 (R12.1 59) nn = nI m10 := by rw [B12, B11, z_un (by decide), z_uk, z_fcs]
  have n62 : z_fn 0 (R12.1 62) nn = nI t7.1 := by rw [B12, B11, z_uk, z_fcs]
  -- the open expression
  have dep : ∀ q, 80 ≤ q → q ≤ 83 → z_fn 0 (R11.1 q) d = z_fn 0 (Rb.1 q) d := by
    intro q a1' b1'
    have r4 : R4.1 q = Rb.1 q := by
      rw [hR4]
      show R3.1 q = Rb.1 q
      rw [e4.1, c5, z_un (by omega), z_un (by omega), a7, z_un (by omega), z_un (by omega), z_un (by omega)]
    rw [B11, z_un (by omega), z_un (by omega), fr10.2.2.2 q a1' (by omega) d (by omega), B8, B6, z_un (by omega), z_un (by omega), fr5.2.2.2 q a1' (by omega) d (by omega), r4]
  obtain ⟨⟨g80, g81, g83, g82⟩, -⟩ := id hbg
  have e8 : R.2.2 41 8 = nI t.1 := hp.1.2.1.2.2.2.2.2.2.1
  have ref12 : ∀ Q, z_Hq Q R12 → z_Hq Q R := by
    intro Q h
    refine ref8 Q (ref10' Q (rC h010 M10 Z10.1 (by have := Z10.2.1; omega) (w80.trans v73) n6 (w81.trans v74) Q ?_))
    refine z_ifn (show ¬ nI 1 = 0 by decide) (z_ifp (show nI 1 = 1 from rfl) ?_)
    unfold p179_32
    have q54 : z_v R10.2.2 41 52 (nI (d + 1)) 41 54 = nI m10 := E10
    have q55 : z_v R10.2.2 41 52 (nI (d + 1)) 41 55 = nI t7.1 := A10
    rw [zcn, q54, q55]
    refine ⟨zin, zin, ?_⟩
    unfold p179_107
    rw [zcn]
    refine ⟨zin, z_ifp ?_ (z_ifn (show ¬ nI 1 = 0 by decide) ?_)⟩
    · rw [← B11, ← B12]
      exact n57
    · have r := r180 (l := 16) (x := nI nn) (R := R11) (d := d) U11 d50
      rw [← hR12, hR11] at r
      exact ⟨none, R12, r, rfl, rfl, h⟩
  have f12 : z_FR nn kk d R R12 := by
    have g1 : z_FR nn kk d R R1 := (hbg.fr (nn := nn) (kk := kk)).tr a5 (Nat.le_refl _) (Nat.le_refl _) (Nat.le_refl _)
    have g2 : z_FR nn kk d R R3 := (g1.tr (z_FR.p2 (nn := nn) (kk := kk) (d := d) c8 c5 (by decide) (by decide) (Nat.le_refl _)) (Nat.le_refl _) (Nat.le_refl _) (Nat.le_refl _)).tr (e4.fr (nn := nn) (kk := kk) (d := d)) (Nat.le_refl _) (Nat.le_refl _) (Nat.le_refl _)
    have g3 : z_FR nn kk d R R5 := (g2.tr f34 (by omega) (Nat.le_refl _) (by omega)).tr fr5 (by omega) (Nat.le_refl _) (by omega)
    have g4 : z_FR nn kk d R R8 := ((g3.tr (z_FR.p2 (nn := nn) (kk := kk) (d := d) x56 B6 (by decide) (by decide) (Nat.le_refl _)) (Nat.le_refl _) (Nat.le_refl _) (Nat.le_refl _)).tr (h4.fr (nn := nn) (kk := kk) (d := d)) (Nat.le_refl _) (Nat.le_refl _) (Nat.le_refl _)).tr f78 (by omega) (by omega) (by omega)
    have g5 : z_FR nn kk d R R11 := (g4.tr fr10 (by omega) (by omega) (by omega)).tr (z_FR.p2 (nn := nn) (kk := kk) (d := d) x1011 B11 (by decide) (by decide) (Nat.le_refl _)) (Nat.le_refl _) (Nat.le_refl _) (Nat.le_refl _)
    rw [hR12]
    exact g5.tr (z_FR.U (nn := nn) (kk := kk) (d := d) z_wk) (Nat.le_refl _) (Nat.le_refl _) (Nat.le_refl _)
  have P12 : z_P b n me ep j10 t10 τ10 (s10 + 1) nn10 kk10 w S11 R12 := by
    refine z2.ref (fun q r => ?_) (fun i hi => ?_)
    · rw [B12, B11, z_un (by omega), z_un (by omega)]
    · rw [hR12]
      show z_v (z_v (z_v R11.2.2 41 54 (nI nn)) 41 55 (z_fn 0 (R11.1 82) d)) 41 53 3 41 i = R10.2.2 41 i
      rw [z_vn (by omega), z_vn (by omega), z_vn (by omega), hR11]
      show z_v R10.2.2 41 52 (nI (d + 1)) 41 i = R10.2.2 41 i
      rw [z_vn (by omega)]
  have Z12 : z_Zd (d + 1) R12 := by
    have q1 : z_Zd (d + 1) R11 := by
      rw [hR11]
      exact (z_Zd.dn Z10).cg rfl rfl rfl rfl rfl
    rw [hR12]
    exact q1.cg rfl rfl rfl rfl rfl
  have nr1 : z_Nr ((nn + 1, nn5), (kk, kk5)) R5 R12 := ((((z_Nr.p2 B6 (by decide) (by decide) (Or.inl (Nat.lt_succ_self _))).tr h4.nr).tr (z_Nr.B (fun q _ _ => by rw [hR8]))).tr (fr10.nr (Nat.le_refl _) (Nat.le_refl _))).tr ((z_Nr.p2 B11 (by decide) (by decide) (Or.inl (Nat.lt_succ_self _))).tr (z_Nr.B (fun q _ _ => by rw [B12])))
  have nr2 : z_Nr ((nn5, nn10), (kk5, kk10)) R10 R12 := (z_Nr.p2 B11 (by decide) (by decide) (Or.inl (by show nn < nn5; omega))).tr (z_Nr.B (fun q _ _ => by rw [B12]))
  have cs1 : z_Cs s s5 S5 S11 := ((h3.cs.tr i3.cs).tr (fc10.cs' (by omega))).tr (z3.cs' (by omega))
  have cs2 : z_Cs (s5 + 1) s10 S10 S11 := z3.cs
  have csb : z_Cs s5 (s5 + 1) S9 S11 := (fc10.cs' (Nat.le_refl _)).tr (z3.cs' (by omega))
  have T5 := P5.2.2.1
  have T10 := P10.2.2.1
  refine ⟨R12, j10, t10, τ10, s10 + 1, nn10, kk10, max f5 f10 + 1, nn, P12, Z12, ⟨?_, ?_, ?_⟩, ⟨⟨Nat.le_refl _, by show nn < nn10; omega, by omega⟩, z4.2.2.2.2.2, ?_⟩, ⟨?_, ?_, ?_, ?_⟩, te5.tr te10, (fc9.tr fc10 (by omega) (Nat.le_refl _)).tr z3 (by omega) (Nat.le_refl _), f12, ⟨by omega, by omega, by omega, by omega, by omega⟩, ref12⟩
  · rw [hR12]
    rfl
  · rw [hR12]
    rfl
  · have q : R12.2.2 41 55 = z_fn 0 (R11.1 82) d := by
      rw [hR12]
      rfl
    rw [q, dep 82 (by decide) (by decide), g82, e8]
  · refine Or.inr (Or.inr (Or.inr (Or.inr (Or.inl ⟨n57, m5, m10, s5, ((nn + 1, nn5), (kk, kk5)), ((nn5, nn10), (kk5, kk10)), ⟨z_S1i (by omega) (by omega) (by omega) (by omega) (by omega), z_S1i (by omega) (by omega) (by omega) (by omega) (by omega), Nat.le_refl _⟩, n58, n59, ss5.1, by omega, ?_, ?_, ?_, ?_, z4.1⟩))))
    · rw [n61]
      exact ⟨z_wle.z, C5.mv (S' := S11) (R' := R12) (Nat.le_max_left _ _) cs1 nr1 T5.1.1 T5.2.1.1 te10 ⟨⟨Nat.le_refl _, Nat.le_refl _⟩, ⟨Nat.le_refl _, Nat.le_refl _⟩⟩⟩
    · rw [csb 14 (by decide) (by decide) s5 (Nat.le_refl _) (by omega)]
      exact i4.1
    · rw [csb 15 (by decide) (by decide) s5 (Nat.le_refl _) (by omega), i4.2.1, n64, n65]
      exact c10
    · rw [n62]
      exact ⟨z_wa d50, C10.mv (S' := S11) (R' := R12) (Nat.le_max_right _ _) cs2 nr2 T10.1.1 T10.2.1.1 z_Te.rf ⟨⟨Nat.le_refl _, Nat.le_refl _⟩, ⟨Nat.le_refl _, Nat.le_refl _⟩⟩⟩
  · rw [B12, dep 80 (by decide) (by decide), g80]
  · rw [B12, dep 81 (by decide) (by decide), g81]
  · rw [B12, dep 83 (by decide) (by decide), g83]
  · rw [B12, dep 82 (by decide) (by decide), g82, e8]
end ZX9
