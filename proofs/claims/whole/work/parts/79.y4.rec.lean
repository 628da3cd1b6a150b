/-! Reading programs, both together: rec. -/
section ZY4
variable {b : Nat → Nat} {n me : Nat} {ep : Nat → Nat} {j : Nat} {t : Nat × Nat × Int32} {τ : z_TT} {s nn kk w d k : Nat} {S : z_CS} {R : z_RS}
/-- the class makes the type of a function -/
theorem Pfun {x1 x2 y1 y2 e : Int32} (h : z_P b n me ep j t τ s nn kk w S R) (q1 : z_Tq τ x1 y1) (q2 : z_Tq τ x2 y2) (hb : 2 * τ.1.2 + 2 * z_cf (S.1 14) s + 2 ≤ 6 + j) : ∃ S' τ' i, z_Cr 14 59 0 [(0, .ref 115), (1, .int x1), (2, .int x2), (3, .int e)] [] S (.inl (some (.int (nI i)))) S' ∧ z_P b n me ep j t τ' s nn kk w S' R ∧ z_Te τ τ' ∧ z_Fq τ' (nI i) y1 y2 e ∧ z_XT S S' ∧ (τ'.1.2 ≤ τ.1.2 + 1 ∧ τ'.2 = τ.2) := by
  obtain ⟨i1, i1', rfl, rfl, u1, u2, u3, u7⟩ := q1
  obtain ⟨i2, i2', rfl, rfl, u4, u5, u6, -⟩ := q2
  obtain ⟨p1, p2, ⟨p3, p4, p5⟩, p6, ⟨p7, p8⟩, p9, p12, p13⟩ := id h
  have lj := p1.len
  have hW : S.2.2.2.2.1 < 107 := by
    rw [p1.2.1.2.2.2.1]
    omega
  have : z_WC 14 59 0 [(0, .ref 115), (1, .int (nI i1)), (2, .int (nI i2)), (3, .int e)] [] S (fun o S' => ∃ τ' i, o = .inl (some (.int (nI i))) ∧ z_P b n me ep j t τ' s nn kk w S' R ∧ z_Te τ τ' ∧ z_Fq τ' (nI i) (nI i1') (nI i2') e ∧ z_XT S S' ∧ (τ'.1.2 ≤ τ.1.2 + 1 ∧ τ'.2 = τ.2)) := by
    refine w59 (l := 13) (A := S.1) (E := S.2.1) (N := S.2.2.1) (V := S.2.2.2.1) (W := S.2.2.2.2.1) (c := S.2.2.2.2.2) p3 (by omega) hW p1.2.2.2.2 u1 u4 u7 (fun T' m' i A' N' V' c' f1 f2 f3 f4 f5 f6 f7 => ?_)
    obtain ⟨a1, a2, a3, a4, a5, a6⟩ := id f2
    have te : z_Te τ ((T', m'), τ.2) := ⟨⟨a1, a3⟩, ⟨Nat.le_refl _, fun _ _ _ => rfl⟩⟩
    refine ⟨((T', m'), τ.2), i, rfl, ⟨p1.cg rfl (f3 6 (by decide)) (f3 7 (by decide)) (fun q => f5 3 q (by omega)) rfl rfl rfl (fun _ _ _ => rfl) f6, p2.cg (f3 21 (by decide)) rfl rfl (f5 20 3 (by decide)) rfl, ⟨f1, p4, (p5.x p3.1 p4.1 te).cg (f3 22 (by decide)) (f3 23 (by decide)) rfl rfl⟩, ⟨by show 2 * m' + 2 * z_cf (A' 14) s ≤ 6 + j; rw [f3 14 (by decide)]; omega, by show 2 * τ.2.2 + 2 * z_cf (A' 14) s ≤ 6 + j; rw [f3 14 (by decide)]; exact p6.2⟩, ⟨(f5 13 6 (by decide)).trans p7, fun q r v => by show s ≤ N' q; rw [f4 q (by omega)]; exact p8 q r v⟩, ⟨(f5 13 7 (by decide)).trans p9.1, p9.2⟩, p12, (f5 24 7 (by decide)).trans p13⟩, te, ⟨i, i1', i2', rfl, a4, a5, rfl, rfl, u2, u5, ?_⟩, ⟨f3, rfl, f4, fun q r _ v => f5 q r v, f7⟩, a2, rfl⟩
    show z_dt T' i = _
    rw [z_dt_s f1.1 a4 a5, a6]
    show (3 + e.toUInt32.toNat) :: (z_dt T' i1 ++ z_dt T' i2) = _
    rw [z_dt_e p3.1 a3 u1, z_dt_e p3.1 a3 u4, u3, u6]
  obtain ⟨o, S', r1, τ', i, rfl, r2⟩ := this
  exact ⟨S', τ', i, r1, r2⟩
theorem z_rcn {j j6 j9 j10 j15 j21 s s15 s21 kk kk15 kk21 : Nat} (h1 : j + 1 + 1 + 1 + 1 + 1 < j6) (h2 : j6 + 1 + 1 < j9) (h3 : j9 ≤ j10) (l1 : j10 + 1 < j15) (l2 : s15 + 3 * (j10 + 1) ≤ s + 1 + 3 * j15) (l3 : 5 * kk15 + (j10 + 1) ≤ 5 * kk + j15) (l6 : s + 1 < s15) (r1 : j15 + 1 < j21) (r2 : s21 + 3 * (j15 + 1) ≤ s15 + 1 + 1 + 3 * j21) (r3 : 5 * kk21 + (j15 + 1) ≤ 5 * kk15 + j21) (r6 : s15 + 1 + 1 < s21) : (j < j21 ∧ s21 + 1 + 3 * j ≤ s + 3 * j21 ∧ 5 * kk21 + j ≤ 5 * kk + j21) ∧ s < s21 + 1 ∧ s ≤ s15 + 1 + 1 ∧ s ≤ s21 := ⟨⟨by omega, by omega, by omega⟩, by omega, by omega, by omega⟩
theorem jrec (ih : z_Ih b n me ep k) (hk : d + (k + 1) = 50) (hp : z_P b n me ep j t τ s nn kk w S R) (hq : z_Aq d R) (hb : s + w ≤ 3 * j ∧ 5 * kk ≤ j ∧ w ≤ 3 * d) (ht : t.2.1 = 22) : z_WC (5 * k + 84) 68 0 [(0, .ref 131), (1, .int (nI d))] [] S (fun o S' => z_Eo b n me ep d j t τ s nn kk w S R o S') := by
  have d50 : d < 50 := by omega
  obtain ⟨Rb, hbg, refB⟩ := rB hp hq d50
  have hpb := hbg.p hp
  have hzb := hbg.zd hq d50
  have hw : Rb.2.2 41 7 = 302 := by
    rw [hpb.1.2.1.2.2.2.2.2.2.2.1, ht]
    rfl
  have ref0 : ∀ Q, z_WR 18 165 0 [(0, .ref 148), (1, .int (nI d))] [] Rb (fun x R1 => x = none ∧ z_Hq Q R1) → z_Hq Q R := fun Q h => refB Q (z_ifn (by rw [hw]; decide) (z_ifp hw (h.im (fun v R1 hv => ⟨hv.1, rfl, hv.2⟩))))
  have hr := hp.1.2.2.2.2
  have xb : z_XR R Rb := (hbg.fr (nn := 0) (kk := 0)).1
  refine t68_0 (A := S.1) (E := S.2.1) (N := S.2.2.1) (V := S.2.2.2.1) (W := S.2.2.2.2.1) (c := S.2.2.2.2.2) ?_
  refine ⟨hr.rm.1, ?_⟩
  rcases Pf (k := 1) (d := d) hpb (by omega) hzb with ⟨t1, S1, R1, n6, a1, a2, P1, fc1, a5, a6, a7, a8, Z1⟩ | ⟨x, y, S1, R1, m, m6, a1, a2, a3, a4, a5⟩
  case inr =>
    exact ⟨.inr 10, S1, a1.up (by omega), rfl, rfl, x, y, a2, fun Q hQ => ref0 Q (t165_0 (B := Rb.1) (M := Rb.2.1) (U := Rb.2.2) ⟨_, R1, a3.up (by decide), _, rfl, g165_6 (R := R1) m6 a4 (fun R' b1 b2 b3 => ⟨rfl, eH b1 (Or.inr (Or.inl b3)) (fun R2 c1 c2 => hQ R2 c1 (xb.tr (a5.tr (b2.tr c2))))⟩)⟩)⟩
  refine ⟨.inl (some (.int (nI t.1))), S1, a1.up (by omega), nI t.1, rfl, P1.1.2.2.2.2.rm.1, ?_⟩
  have ref1 : ∀ Q, p165_6 17 R1.1 R1.2.1 R1.2.2 (nI d) (nI nn) (fun x R1 => x = none ∧ z_Hq Q R1) → z_Hq Q R := fun Q h => ref0 Q (t165_0 (B := Rb.1) (M := Rb.2.1) (U := Rb.2.2) ⟨_, R1, a2.up (by decide), _, rfl, h⟩)
  have x1 : z_XR R R1 := xb.tr a5.1
  have fr1 : z_FR nn kk d R R1 := (hbg.fr (nn := nn) (kk := kk)).tr a5 (Nat.le_refl _) (Nat.le_refl _) (Nat.le_refl _)
  obtain ⟨zin, zcn⟩ := z_o6_in n6
  rcases Pm (m := nn) (d := d + 1) P1 n6 Z1 with ⟨t2, S2, R2, c20, c21, c22, P2, c24, c25, c26, c27, c28, Z2, nm2⟩ | ⟨x, y, S2, R2, c1, c2, c3, c4, c5⟩
  case inr =>
    exact ⟨.inr 10, S2, c1.up (by omega), rfl, rfl, x, y, c2.tr fc1.1, fun Q hQ => ref1 Q ⟨none, R2, c3.up (by decide), rfl, g165_12 (R := R2) n6 c4 (fun R' p1 p2 p3 => ⟨rfl, eH p1 (Or.inr (Or.inl p3)) (fun R0 r1 r2 => hQ R0 r1 (x1.tr (c5.tr (p2.tr r2))))⟩)⟩⟩
  have x2 : z_XR R R2 := x1.tr c28
  have fc2 : z_FC s w S S2 := fc1.tr c24.fc (Nat.le_refl _) (Nat.le_refl _)
  have fr2 : z_FR nn kk d R R2 := fr1.tr (z_FR.p2 (nn := nn) (kk := kk) (d := d) c28 c25 (by decide) (by decide) (Nat.le_refl _)) (Nat.le_refl _) (Nat.le_refl _) (Nat.le_refl _)
  refine ⟨.inl (some (.int t1.2.2)), S2, c21.up (by omega), t1.2.2, rfl, P2.1.2.2.2.2.rm.1, ?_⟩
  have ref2 : ∀ Q, p165_12 17 R2.1 R2.2.1 R2.2.2 (nI d) (nI nn) (fun x R1 => x = none ∧ z_Hq Q R1) → z_Hq Q R := fun Q h => ref1 Q ⟨none, R2, c22.up (by decide), rfl, h⟩
  rcases jx P2.1 5 (by decide) (by decide) (by decide) with ⟨t3, S3, R3, c30, c31, c32, c33, c34, c35⟩ | ⟨x, y, S3, R3, c1, c2, c3, c4, c5⟩
  case inr =>
    exact ⟨.inr 10, S3, c1.up (by omega), rfl, rfl, x, y, c3.tr fc2.1, fun Q hQ => ref2 Q ⟨none, R3, c2.up (by decide), rfl, g165_18 (R := R3) n6 ⟨c5, Z2.lw c4⟩ (fun R' p1 p2 p3 => ⟨rfl, eH p1 (Or.inr (Or.inl p3)) (fun R0 r1 r2 => hQ R0 r1 (x2.tr (c4.xR.tr (p2.tr r2))))⟩)⟩⟩
  have P3 := P2.kw c35 c33 c34 (by omega)
  have Z3 := Z2.lw c34
  have x3 : z_XR R R3 := x2.tr c34.xR
  have fc3 : z_FC s w S S3 := fc2.tr c33.fc (Nat.le_refl _) (Nat.le_refl _)
  have fr3 : z_FR nn kk d R R3 := fr2.tr (c34.fr (nn := nn) (kk := kk) (d := d)) (Nat.le_refl _) (Nat.le_refl _) (Nat.le_refl _)
  refine ⟨.inl none, S3, c31.up (by omega), rfl, P3.1.2.2.2.2.rm.1, ?_⟩
  have ref3 : ∀ Q, p165_18 17 R3.1 R3.2.1 R3.2.2 (nI d) (nI nn) (fun x R1 => x = none ∧ z_Hq Q R1) → z_Hq Q R := fun Q h => ref2 Q ⟨none, R3, c32.up (by decide), rfl, h⟩
  rcases Po (m := nn) (d := d + 1) P3 n6 Z3 with ⟨t4, S4, R4, c40, c41, c42, P4, c44, c45, c46, c47, c48, Z4, nm4⟩ | ⟨x, y, S4, R4, c1, c2, c3, c4, c5⟩
  case inr =>
    exact ⟨.inr 10, S4, c1.up (by omega), rfl, rfl, x, y, c2.tr fc3.1, fun Q hQ => ref3 Q ⟨none, R4, c3.up (by decide), rfl, g165_23 (R := R4) n6 c4 (fun R' p1 p2 p3 => ⟨rfl, eH p1 (Or.inr (Or.inl p3)) (fun R0 r1 r2 => hQ R0 r1 (x3.tr (c5.tr (p2.tr r2))))⟩)⟩⟩
  have x4 : z_XR R R4 := x3.tr c48
  have fc4 : z_FC s w S S4 := fc3.tr c44.fc (Nat.le_refl _) (Nat.le_refl _)
  have fr4 : z_FR nn kk d R R4 := fr3.tr (z_FR.p2 (nn := nn) (kk := kk) (d := d) c48 c45 (by decide) (by decide) (Nat.le_refl _)) (Nat.le_refl _) (Nat.le_refl _) (Nat.le_refl _)
  refine ⟨.inl (some (.int t3.2.2)), S4, c41.up (by omega), t3.2.2, rfl, P4.1.2.2.2.2.rm.1, ?_⟩
  have ref4 : ∀ Q, p165_23 17 R4.1 R4.2.1 R4.2.2 (nI d) (nI nn) (fun x R1 => x = none ∧ z_Hq Q R1) → z_Hq Q R := fun Q h => ref3 Q ⟨none, R4, c42.up (by decide), rfl, h⟩
  rcases jx P4.1 9 (by decide) (by decide) (by decide) with ⟨t5, S5, R5, c50, c51, c52, c53, c54, c55⟩ | ⟨x, y, S5, R5, c1, c2, c3, c4, c5⟩
  case inr =>
    exact ⟨.inr 10, S5, c1.up (by omega), rfl, rfl, x, y, c3.tr fc4.1, fun Q hQ => ref4 Q ⟨none, R5, c2.up (by decide), rfl, g165_29 (R := R5) n6 ⟨c5, Z4.lw c4⟩ (fun R' p1 p2 p3 => ⟨rfl, eH p1 (Or.inr (Or.inl p3)) (fun R0 r1 r2 => hQ R0 r1 (x4.tr (c4.xR.tr (p2.tr r2))))⟩)⟩⟩
  have P5 := P4.kw c55 c53 c54 (by omega)
  have Z5 := Z4.lw c54
  have x5 : z_XR R R5 := x4.tr c54.xR
  have fc5 : z_FC s w S S5 := fc4.tr c53.fc (Nat.le_refl _) (Nat.le_refl _)
  have fr5 : z_FR nn kk d R R5 := fr4.tr (c54.fr (nn := nn) (kk := kk) (d := d)) (Nat.le_refl _) (Nat.le_refl _) (Nat.le_refl _)
  refine ⟨.inl none, S5, c51.up (by omega), rfl, P5.1.2.2.2.2.rm.1, ?_⟩
  have ref5 : ∀ Q, p165_29 17 R5.1 R5.2.1 R5.2.2 (nI d) (nI nn) (fun x R1 => x = none ∧ z_Hq Q R1) → z_Hq Q R := fun Q h => ref4 Q ⟨none, R5, c52.up (by decide), rfl, h⟩
  obtain ⟨o6, S6, c61, c62⟩ := jt P5.1 P5.2.1 P5.2.2.1.1 P5.2.2.1.2.1 (by have q := P5.2.2.2.1; omega)
  refine ⟨o6, S6, c61.up (by omega), ?_⟩
  rcases o6 with v6' | w6'
  case inr =>
    obtain ⟨rfl, x, y, v, R6, g1, g2, g3, g4⟩ := c62
    exact ⟨rfl, rfl, x, y, g1.tr fc5.1, fun Q hQ => ref5 Q ⟨_, R6, g2.up (by decide), v, rfl, g165_38 (R := R6) n6 ⟨g3, Z5.xr g4⟩ (fun R' p1 p2 p3 => ⟨rfl, eH p1 (Or.inr (Or.inl p3)) (fun R0 r1 r2 => hQ R0 r1 (x5.tr (g4.xR.tr (p2.tr r2))))⟩)⟩⟩
  obtain ⟨xx6, v6, j6, t6, τ6, R6, rfl, J6, lj6, te6, TC6, TR6, inc6, tq6, xt6, xr6, run6⟩ := c62
  have P6 := P5.xt J6 xt6 xr6 te6 TC6 TR6 inc6
  have Z6 := Z5.xr xr6
  have x6 : z_XR R R6 := x5.tr xr6.xR
  have fc6 : z_FC s w S S6 := fc5.tr xt6.fc (Nat.le_refl _) (Nat.le_refl _)
  have fr6 : z_FR nn kk d R R6 := fr5.tr (xr6.fr (nn := nn) (kk := kk) (d := d)) (Nat.le_refl _) (Nat.le_refl _) (Nat.le_refl _)
  refine ⟨xx6, rfl, P6.1.2.2.2.2.rm.1, ?_⟩
  have ref6 : ∀ Q, p165_38 17 R6.1 R6.2.1 R6.2.2 (nI d) (nI nn) v6 (nI nn) (fun x R1 => x = none ∧ z_Hq Q R1) → z_Hq Q R := fun Q h => ref5 Q ⟨_, R6, run6.up (by decide), v6, rfl, h⟩
  obtain ⟨Q7, hQ7⟩ : ∃ X, X = (z_u R6.1 68 ((nn, v6) :: R6.1 68), R6.2.1, R6.2.2) := ⟨_, rfl⟩
  have BQ7 : Q7.1 = z_u R6.1 68 ((nn, v6) :: R6.1 68) := by rw [hQ7]
  have PQ7 := P6.ref (R' := Q7) (fun q r => by rw [BQ7, z_un (by omega)]) (fun _ _ => by rw [hQ7])
  have ZQ7 : z_Zd (d + 1) Q7 := by
    rw [hQ7]
    exact Z6.B rfl rfl rfl
  have xq7 : z_XR R6 Q7 := by
    rw [hQ7]
    exact z_XR_B (fun q r => z_un (by omega))
  have xQ7 : z_XR R Q7 := x6.tr xq7
  have frQ7 : z_FR nn kk d R Q7 := fr6.tr (z_FR.p1 (nn := nn) (kk := kk) (d := d) xq7 BQ7 (by decide) (Nat.le_refl _)) (Nat.le_refl _) (Nat.le_refl _) (Nat.le_refl _)
  rcases jx PQ7.1 6 (by decide) (by decide) (by decide) with ⟨t7, S7, R7, c70, c71, c72, c73, c74, c75⟩ | ⟨x, y, S7, R7, c1, c2, c3, c4, c5⟩
  case inr =>
    exact ⟨.inr 10, S7, c1.up (by omega), rfl, rfl, x, y, c3.tr fc6.1, fun Q hQ => ref6 Q (by
      unfold p165_38
      rw [zcn, ← hQ7]
      exact ⟨zin, none, R7, c2.up (by decide), rfl, g165_45 (R := R7) n6 ⟨c5, ZQ7.lw c4⟩ (fun R' p1 p2 p3 => ⟨rfl, eH p1 (Or.inr (Or.inl p3)) (fun R0 r1 r2 => hQ R0 r1 (xQ7.tr (c4.xR.tr (p2.tr r2))))⟩)⟩)⟩
  have P7 := PQ7.kw c75 c73 c74 (by omega)
  have Z7 := ZQ7.lw c74
  have x7 : z_XR R R7 := xQ7.tr c74.xR
  have fc7 : z_FC s w S S7 := fc6.tr c73.fc (Nat.le_refl _) (Nat.le_refl _)
  have fr7 : z_FR nn kk d R R7 := frQ7.tr (c74.fr (nn := nn) (kk := kk) (d := d)) (Nat.le_refl _) (Nat.le_refl _) (Nat.le_refl _)
  refine ⟨.inl none, S7, c71.up (by omega), rfl, P7.1.2.2.2.2.rm.1, ?_⟩
  have ref7 : ∀ Q, p165_45 17 R7.1 R7.2.1 R7.2.2 (nI d) (nI nn) (fun x R1 => x = none ∧ z_Hq Q R1) → z_Hq Q R := fun Q h => ref6 Q (by
      unfold p165_38
      rw [zcn, ← hQ7]
      exact ⟨zin, none, R7, c72.up (by decide), rfl, h⟩)
  rcases jx P7.1 9 (by decide) (by decide) (by decide) with ⟨t8, S8, R8, c80, c81, c82, c83, c84, c85⟩ | ⟨x, y, S8, R8, c1, c2, c3, c4, c5⟩
  case inr =>
    exact ⟨.inr 10, S8, c1.up (by omega), rfl, rfl, x, y, c3.tr fc7.1, fun Q hQ => ref7 Q ⟨none, R8, c2.up (by decide), rfl, g165_51 (R := R8) n6 ⟨c5, Z7.lw c4⟩ (fun R' p1 p2 p3 => ⟨rfl, eH p1 (Or.inr (Or.inl p3)) (fun R0 r1 r2 => hQ R0 r1 (x7.tr (c4.xR.tr (p2.tr r2))))⟩)⟩⟩
  have P8 := P7.kw c85 c83 c84 (by omega)
  have Z8 := Z7.lw c84
  have x8 : z_XR R R8 := x7.tr c84.xR
  have fc8 : z_FC s w S S8 := fc7.tr c83.fc (Nat.le_refl _) (Nat.le_refl _)
  have fr8 : z_FR nn kk d R R8 := fr7.tr (c84.fr (nn := nn) (kk := kk) (d := d)) (Nat.le_refl _) (Nat.le_refl _) (Nat.le_refl _)
  refine ⟨.inl none, S8, c81.up (by omega), rfl, P8.1.2.2.2.2.rm.1, ?_⟩
  have ref8 : ∀ Q, p165_51 17 R8.1 R8.2.1 R8.2.2 (nI d) (nI nn) (fun x R1 => x = none ∧ z_Hq Q R1) → z_Hq Q R := fun Q h => ref7 Q ⟨none, R8, c82.up (by decide), rfl, h⟩
  obtain ⟨o9, S9, c91, c92⟩ := jt P8.1 P8.2.1 P8.2.2.1.1 P8.2.2.1.2.1 (by have q := P8.2.2.2.1; omega)
  refine ⟨o9, S9, c91.up (by omega), ?_⟩
  rcases o9 with v9' | w9'
  case inr =>
    obtain ⟨rfl, x, y, v, R9, g1, g2, g3, g4⟩ := c92
    exact ⟨rfl, rfl, x, y, g1.tr fc8.1, fun Q hQ => ref8 Q ⟨_, R9, g2.up (by decide), v, rfl, g165_60 (R := R9) n6 ⟨g3, Z8.xr g4⟩ (fun R' p1 p2 p3 => ⟨rfl, eH p1 (Or.inr (Or.inl p3)) (fun R0 r1 r2 => hQ R0 r1 (x8.tr (g4.xR.tr (p2.tr r2))))⟩)⟩⟩
  obtain ⟨xx9, v9, j9, t9, τ9, R9, rfl, J9, lj9, te9, TC9, TR9, inc9, tq9, xt9, xr9, run9⟩ := c92
  have P9 := P8.xt J9 xt9 xr9 te9 TC9 TR9 inc9
  have Z9 := Z8.xr xr9
  have x9 : z_XR R R9 := x8.tr xr9.xR
  have fc9 : z_FC s w S S9 := fc8.tr xt9.fc (Nat.le_refl _) (Nat.le_refl _)
  have fr9 : z_FR nn kk d R R9 := fr8.tr (xr9.fr (nn := nn) (kk := kk) (d := d)) (Nat.le_refl _) (Nat.le_refl _) (Nat.le_refl _)
  refine ⟨xx9, rfl, P9.1.2.2.2.2.rm.1, ?_⟩
  have ref9 : ∀ Q, p165_60 17 R9.1 R9.2.1 R9.2.2 (nI d) (nI nn) v9 (nI nn) (fun x R1 => x = none ∧ z_Hq Q R1) → z_Hq Q R := fun Q h => ref8 Q ⟨_, R9, run9.up (by decide), v9, rfl, h⟩
  obtain ⟨Q10, hQ10⟩ : ∃ X, X = (z_u R9.1 69 ((nn, v9) :: R9.1 69), R9.2.1, R9.2.2) := ⟨_, rfl⟩
  have BQ10 : Q10.1 = z_u R9.1 69 ((nn, v9) :: R9.1 69) := by rw [hQ10]
  have PQ10 := P9.ref (R' := Q10) (fun q r => by rw [BQ10, z_un (by omega)]) (fun _ _ => by rw [hQ10])
  have ZQ10 : z_Zd (d + 1) Q10 := by
    rw [hQ10]
    exact Z9.B rfl rfl rfl
  have xq10 : z_XR R9 Q10 := by
    rw [hQ10]
    exact z_XR_B (fun q r => z_un (by omega))
  have xQ10 : z_XR R Q10 := x9.tr xq10
  have frQ10 : z_FR nn kk d R Q10 := fr9.tr (z_FR.p1 (nn := nn) (kk := kk) (d := d) xq10 BQ10 (by decide) (Nat.le_refl _)) (Nat.le_refl _) (Nat.le_refl _) (Nat.le_refl _)
  rcases jr PQ10.1 PQ10.2.1 with ⟨v10, j10, t10, S10, R10, c100, c101, c102, c103, c104, c105⟩ | ⟨x, y, v, S10, R10, c1, c2, c3, c4, c5⟩
  case inr =>
    exact ⟨.inr 10, S10, c1.up (by omega), rfl, rfl, x, y, c3.tr fc9.1, fun Q hQ => ref9 Q (by
      unfold p165_60
      rw [zcn, ← hQ10]
      exact ⟨zin, _, R10, c2.up (by decide), v, rfl, g165_70 (R := R10) n6 ⟨c5, ZQ10.lw c4⟩ (fun R' p1 p2 p3 => ⟨rfl, eH p1 (Or.inr (Or.inl p3)) (fun R0 r1 r2 => hQ R0 r1 (xQ10.tr (c4.xR.tr (p2.tr r2))))⟩)⟩)⟩
  have P10 := PQ10.kw c105 c103 c104 c100
  have Z10 := ZQ10.lw c104
  have x10 : z_XR R R10 := xQ10.tr c104.xR
  have fc10 : z_FC s w S S10 := fc9.tr c103.fc (Nat.le_refl _) (Nat.le_refl _)
  have fr10 : z_FR nn kk d R R10 := frQ10.tr (c104.fr (nn := nn) (kk := kk) (d := d)) (Nat.le_refl _) (Nat.le_refl _) (Nat.le_refl _)
  refine ⟨.inl (some (.int v10)), S10, c101.up (by omega), v10, rfl, P10.1.2.2.2.2.rm.1, ?_⟩
  have ref10 : ∀ Q, p165_70 17 R10.1 R10.2.1 R10.2.2 (nI d) (nI nn) v10 (nI nn) (fun x R1 => x = none ∧ z_Hq Q R1) → z_Hq Q R := fun Q h => ref9 Q (by
      unfold p165_60
      rw [zcn, ← hQ10]
      exact ⟨zin, _, R10, c102.up (by decide), v10, rfl, h⟩)
  obtain ⟨Q11, hQ11⟩ : ∃ X, X = (z_u R10.1 70 ((nn, v10) :: R10.1 70), R10.2.1, R10.2.2) := ⟨_, rfl⟩
  have BQ11 : Q11.1 = z_u R10.1 70 ((nn, v10) :: R10.1 70) := by rw [hQ11]
  have PQ11 := P10.ref (R' := Q11) (fun q r => by rw [BQ11, z_un (by omega)]) (fun _ _ => by rw [hQ11])
  have ZQ11 : z_Zd (d + 1) Q11 := by
    rw [hQ11]
    exact Z10.B rfl rfl rfl
  have xq11 : z_XR R10 Q11 := by
    rw [hQ11]
    exact z_XR_B (fun q r => z_un (by omega))
  have xQ11 : z_XR R Q11 := x10.tr xq11
  have frQ11 : z_FR nn kk d R Q11 := fr10.tr (z_FR.p1 (nn := nn) (kk := kk) (d := d) xq11 BQ11 (by decide) (Nat.le_refl _)) (Nat.le_refl _) (Nat.le_refl _) (Nat.le_refl _)
  rcases jx PQ11.1 12 (by decide) (by decide) (by decide) with ⟨t11, S11, R11, c110, c111, c112, c113, c114, c115⟩ | ⟨x, y, S11, R11, c1, c2, c3, c4, c5⟩
  case inr =>
    exact ⟨.inr 10, S11, c1.up (by omega), rfl, rfl, x, y, c3.tr fc10.1, fun Q hQ => ref10 Q (by
      unfold p165_70
      rw [zcn, ← hQ11]
      exact ⟨zin, none, R11, c2.up (by decide), rfl, g165_77 (R := R11) n6 ⟨c5, ZQ11.lw c4⟩ (fun R' p1 p2 p3 => ⟨rfl, eH p1 (Or.inr (Or.inl p3)) (fun R0 r1 r2 => hQ R0 r1 (xQ11.tr (c4.xR.tr (p2.tr r2))))⟩)⟩)⟩
  have P11 := PQ11.kw c115 c113 c114 (by omega)
  have Z11 := ZQ11.lw c114
  have x11 : z_XR R R11 := xQ11.tr c114.xR
  have fc11 : z_FC s w S S11 := fc10.tr c113.fc (Nat.le_refl _) (Nat.le_refl _)
  have fr11 : z_FR nn kk d R R11 := frQ11.tr (c114.fr (nn := nn) (kk := kk) (d := d)) (Nat.le_refl _) (Nat.le_refl _) (Nat.le_refl _)
  refine ⟨.inl none, S11, c111.up (by omega), rfl, P11.1.2.2.2.2.rm.1, ?_⟩
  have ref11 : ∀ Q, p165_77 17 R11.1 R11.2.1 R11.2.2 (nI d) (nI nn) (fun x R1 => x = none ∧ z_Hq Q R1) → z_Hq Q R := fun Q h => ref10 Q (by
      unfold p165_70
      rw [zcn, ← hQ11]
      exact ⟨zin, none, R11, c112.up (by decide), rfl, h⟩)
  obtain ⟨R12, k12, P12, q12, B12, u73, u74, x1112⟩ := jask (m := nn) (v := 0) P11 Z11 n6 (by decide)
  have ref12 : ∀ Q, z_Hq Q R12 → z_Hq Q R := fun Q h => ref11 Q ⟨none, R12, k12 16, rfl, rfl, h⟩
  have x12 : z_XR R R12 := x11.tr x1112
  have fr12 : z_FR nn kk d R R12 := fr11.tr (z_FR.Be (nn := nn) (kk := kk) (d := d) x1112 B12) (Nat.le_refl _) (Nat.le_refl _) (Nat.le_refl _)
  have hP := hp.2.2.2.1
  have J11 := P11.1.len.1
  -- its type
  obtain ⟨S12, τ12, i12, e1, P13, te12, fq12, xt12, tb1, tb2⟩ := Pfun (e := v10) P12 (tq6.x TC6.1 TR6.1 te9) tq9 (by rw [z_cf_e s (fc11.2.1 14 (by decide) (by decide))]; omega)
  refine ⟨.inl (some (.int (nI i12))), S12, e1.up (by omega), nI i12, rfl, P13.1.2.2.2.2.rm.1, ?_⟩
  have fc12 : z_FC s w S S12 := fc11.tr xt12.fc (Nat.le_refl _) (Nat.le_refl _)
  -- REC
  obtain ⟨S13, i1, i2, i3, i4, -, -⟩ := Pa (o := 19) (a1 := t1.2.2) (a2 := nI i12) (f := nI t.1) P13 (by omega) (fun _ => by rw [z_cf_e s (fc12.2.1 14 (by decide) (by decide)), tb2]; omega)
  refine ⟨.inl (some (.int (nI s))), S13, i1.up (by omega), nI s, rfl, ?_⟩
  have fc13 : z_FC s w S S13 := fc12.tr i3 (Nat.le_refl _) (Nat.le_refl _)
  have css : (nI s).toNatClampNeg = s := nI_clamp (by omega)
  unfold p68_95
  rw [css, nI_1]
  refine ⟨i2.in (by decide) (by omega), i2.1.2.2.2.2.rm.1, ?_⟩
  have P14 := i2.put (k := 18) (i := s) (v := t3.2.2) (by decide)
  obtain ⟨S14, hS14⟩ : ∃ X, X = (z_u S13.1 18 ((s, t3.2.2) :: S13.1 18), S13.2.1, S13.2.2.1, S13.2.2.2.1, S13.2.2.2.2.1, S13.2.2.2.2.2) := ⟨_, rfl⟩
  have fc14 : z_FC s w S S14 := by
    rw [hS14]
    exact fc13.tr (z_FC.put (s := s) (w := w) (by decide) (Nat.le_refl _)) (Nat.le_refl _) (Nat.le_refl _)
  rw [← hS14] at P14 ⊢
  -- the body
  obtain ⟨o15, S15, y1, y2⟩ := jpart (q := 0) (k1 := 58) (k2 := 61) (Or.inl ⟨rfl, rfl, rfl⟩) ih (by omega) P14 q12 u73 u74 (Nat.lt_succ_self nn) ⟨by omega, by omega, by omega⟩
  refine ⟨o15, S15, y1.up (by omega), ?_⟩
  rcases o15 with v15 | w15
  case inr =>
    obtain ⟨rfl, x, y, g1, g2⟩ := y2
    exact ⟨rfl, rfl, x, y, g1.tr fc14.1, fun Q hQ => ref12 Q (g2 Q (fun R' h1 h2 => hQ R' h1 (x12.tr h2)))⟩
  obtain ⟨rfl, R15, j15, t15, τ15, s15, nn15, kk15, f15, m15, P15, Z15, C15, ⟨n58, n61⟩, fm15, te15, fc15, ⟨l1, l2, l3, l4, l5, l6⟩, ref15'⟩ := y2
  refine ⟨rfl, ?_⟩
  have J15 := P15.1.len.1
  have e136 : S15.2.2.2.1 13 6 = nI s15 := P15.2.2.2.2.1.1
  unfold p68_116
  rw [css, e136]
  refine ⟨P15.in (by decide) (by omega), P15.1.2.2.2.2.rm.1, ?_⟩
  have P16 := P15.put (k := 17) (i := s) (v := nI s15) (by decide)
  obtain ⟨S16, hS16⟩ : ∃ X, X = (z_u S15.1 17 ((s, nI s15) :: S15.1 17), S15.2.1, S15.2.2.1, S15.2.2.2.1, S15.2.2.2.2.1, S15.2.2.2.2.2) := ⟨_, rfl⟩
  have fc16 : z_FC s w S S16 := by
    rw [hS16]
    exact (fc14.tr fc15 (by omega) (Nat.le_refl _)).tr (z_FC.put (s := s) (w := w) (by decide) (Nat.le_refl _)) (Nat.le_refl _) (Nat.le_refl _)
  rw [← hS16] at P16 ⊢
  -- REC_END
  obtain ⟨S17, z1, z2, z3, z4, -, -⟩ := Pa (o := 20) (a1 := 0) (a2 := 0) (f := nI t.1) P16 (by omega)
  refine ⟨.inl (some (.int (nI s15))), S17, z1.up (by omega), nI s15, rfl, z2.1.2.2.2.2.rm.1, ?_⟩
  have fc17 : z_FC s w S S17 := fc16.tr z3 (by omega) (Nat.le_refl _)
  have x15 : z_XR R R15 := x12.tr fm15.1
  -- node nn, at R12
  have B1110 : R12.1 = Q11.1 := B12.trans c114.1
  have nd10 : ∀ q, (57 ≤ q ∧ q ≤ 70) → ¬ q = 70 → ¬ q = 69 → ¬ q = 68 → z_fn 0 (R12.1 q) nn = z_fn 0 (R4.1 q) nn := by
    intro q a h1 h2 h3
    rw [B1110, BQ11, z_un h1, c104.1, BQ10, z_un h2, xr9.1 q (by omega) (by omega), c84.1, c74.1, BQ7, z_un h3, xr6.1 q (by omega) (by omega), c54.1]
  have m57 : z_fn 0 (R12.1 57) nn = 1 := by
    rw [nd10 57 (by decide) (by decide) (by decide) (by decide), c45, z_un (by decide), z_un (by decide), c34.1, c25, z_un (by decide), z_un (by decide), a7, z_un (by decide), z_un (by decide), z_uk, z_fcs]
  have m64 : z_fn 0 (R12.1 64) nn = nI t1.1 := by
    rw [nd10 64 (by decide) (by decide) (by decide) (by decide), c45, z_un (by decide), z_un (by decide), c34.1, c25, z_un (by decide), z_uk, z_fcs]
  have m65 : z_fn 0 (R12.1 65) nn = nI (z_ll b n t1.1) := by
    rw [nd10 65 (by decide) (by decide) (by decide) (by decide), c45, z_un (by decide), z_un (by decide), c34.1, c25, z_uk, z_fcs]
  have m66 : z_fn 0 (R12.1 66) nn = nI t3.1 := by
    rw [nd10 66 (by decide) (by decide) (by decide) (by decide), c45, z_un (by decide), z_uk, z_fcs]
  have m67 : z_fn 0 (R12.1 67) nn = nI (z_ll b n t3.1) := by
    rw [nd10 67 (by decide) (by decide) (by decide) (by decide), c45, z_uk, z_fcs]
  have m70 : z_fn 0 (R12.1 70) nn = v10 := by rw [B1110, BQ11, z_uk, z_fcs]
  have m69 : z_fn 0 (R12.1 69) nn = v9 := by rw [B1110, BQ11, z_un (by decide), c104.1, BQ10, z_uk, z_fcs]
  have m68 : z_fn 0 (R12.1 68) nn = v6 := by rw [B1110, BQ11, z_un (by decide), c104.1, BQ10, z_un (by decide), xr9.1 68 (by decide) (by decide), c84.1, c74.1, BQ7, z_uk, z_fcs]
  have k57 : z_fn 0 (R15.1 57) nn = 1 := (fm15.at (Nat.lt_succ_self nn) (by decide) (by decide) (by decide)).trans m57
  have ref15 : ∀ Q, p179_148 17 R15.1 R15.2.1 R15.2.2 (nI nn) (nI 0) (fun x R1 => x = none ∧ z_Hq Q R1) → z_Hq Q R := by
    intro Q h
    refine ref12 Q (ref15' Q ?_)
    unfold p179_107
    rw [zcn]
    exact ⟨zin, z_ifn (by rw [k57]; decide) (z_ifp k57 (z_ifp (show nI 0 = 0 from rfl) h))⟩
  -- in
  rcases jx z2.1 23 (by decide) (by decide) (by decide) with ⟨t18, S18, R18, h0, h1, h2, h3, h4, h5⟩ | ⟨x, y, S18, R18, h1, h2, h3, h4, h5⟩
  case inr =>
    obtain ⟨R8', g1, g2, g3, g4⟩ := e159 (l := 16) (u := nI nn) (v := 1) (x := x) (y := y) (d := d + 1) (R := R18) ⟨h5, Z15.lw h4⟩
    exact ⟨.inr 10, S18, h1.up (by omega), rfl, rfl, x, y, h3.tr fc17.1, fun Q hQ => ref15 Q ⟨none, R18, h2.up (by decide), rfl, none, R8', g1, rfl, rfl, eH g2 (Or.inr (Or.inl g4)) (fun R3 d1 d2 => hQ R3 d1 (x15.tr (h4.xR.tr (g3.tr d2))))⟩⟩
  have P18 := z2.kw h5 h3 h4 (by omega)
  refine ⟨.inl none, S18, h1.up (by omega), rfl, P18.1.2.2.2.2.rm.1, ?_⟩
  obtain ⟨R19, k19, P19, q19, B19, v73, v74, x1819⟩ := jask (m := nn) (v := 1) P18 (Z15.lw h4) n6 (by decide)
  have ref19 : ∀ Q, z_Hq Q R19 → z_Hq Q R := fun Q h => ref15 Q ⟨none, R18, h2.up (by decide), rfl, none, R19, k19 16, rfl, rfl, h⟩
  have x19 : z_XR R R19 := x15.tr (h4.xR.tr x1819)
  have J18 := P18.1.len.1
  -- BIND
  obtain ⟨S20, b1, b2, b3, b4, -, -⟩ := Pa (o := 4) (a1 := t1.2.2) (a2 := 0) (f := nI t.1) P19 (by omega)
  refine ⟨.inl (some (.int (nI (s15 + 1)))), S20, b1.up (by omega), nI (s15 + 1), rfl, b2.1.2.2.2.2.rm.1, ?_⟩
  have fc20 : z_FC s w S S20 := (fc17.tr h3.fc (Nat.le_refl _) (Nat.le_refl _)).tr b3 (by omega) (Nat.le_refl _)
  -- the rest
  obtain ⟨o21, S21, y3, y4⟩ := jpart (q := 1) (k1 := 59) (k2 := 62) (Or.inr (Or.inl ⟨rfl, rfl, rfl⟩)) ih (by omega) b2 q19 v73 v74 (by omega) ⟨by omega, by omega, by omega⟩
  rw [nI_1]
  refine ⟨o21, S21, y3.up (by omega), ?_⟩
  rcases o21 with v21 | w21
  case inr =>
    obtain ⟨rfl, x, y, g1, g2⟩ := y4
    exact ⟨rfl, rfl, x, y, g1.tr fc20.1, fun Q hQ => ref19 Q (g2 Q (fun R' h1 h2 => hQ R' h1 (x19.tr h2)))⟩
  obtain ⟨rfl, R21, j21, t21, τ21, s21, nn21, kk21, f21, m21, P21, Z21, C21, ⟨n59, n62⟩, fm21, te21, fc21, ⟨r1, r2, r3, r4, r5, r6⟩, ref21'⟩ := y4
  refine ⟨rfl, P21.1.2.2.2.2.rm.1, ?_⟩
  have J21 := P21.1.len.1
  -- FORGET
  obtain ⟨S22, d1, d2, d3, d4, -, -⟩ := Pa (o := 5) (a1 := 0) (a2 := 0) (f := nI t.1) P21 (by omega)
  refine ⟨.inl (some (.int (nI s21))), S22, d1.up (by omega), nI s21, rfl, rfl, ?_⟩
  have B1915 : R19.1 = R15.1 := B19.trans h4.1
  obtain ⟨R22, k22, P22, Z22, B22, U53, U54, U55, x2122⟩ := jwhole (m := nn) d2 Z21
  have nd22 : ∀ q, (57 ≤ q ∧ q ≤ 70) → ¬ q = 58 → ¬ q = 61 → ¬ q = 59 → ¬ q = 62 → z_fn 0 (R22.1 q) nn = z_fn 0 (R12.1 q) nn := by
    intro q a e1 e2 e3 e4
    rw [B22, fm21.at (by omega) (Or.inl a) e3 e4, B1915, fm15.at (Nat.lt_succ_self nn) (Or.inl a) e1 e2]
  have e57 : z_fn 0 (R22.1 57) nn = 1 := (nd22 57 (by decide) (by decide) (by decide) (by decide) (by decide)).trans m57
  have ref22 : ∀ Q, z_Hq Q R22 → z_Hq Q R := by
    intro Q h
    refine ref19 Q (ref21' Q ?_)
    rw [B22] at e57
    unfold p179_107
    rw [zcn]
    exact ⟨zin, z_ifn (by rw [e57]; decide) (z_ifp e57 (z_ifn (show ¬ nI 1 = 0 by decide) ⟨none, R22, k22 16, rfl, rfl, h⟩))⟩
  have dep : ∀ q, 80 ≤ q → q ≤ 83 → z_fn 0 (R21.1 q) d = z_fn 0 (Rb.1 q) d := by
    intro q a1' b1'
    rw [fm21.2.2.2 q a1' (by omega) d (by omega), B1915, fm15.2.2.2 q a1' (by omega) d (by omega), B1110, BQ11, z_un (by omega), c104.1, BQ10, z_un (by omega), xr9.1 q (by omega) (by omega), c84.1, c74.1, BQ7, z_un (by omega), xr6.1 q (by omega) (by omega), c54.1, c45, z_un (by omega), z_un (by omega), c34.1, c25, z_un (by omega), z_un (by omega), a7, z_un (by omega), z_un (by omega), z_un (by omega)]
  obtain ⟨⟨g80, g81, g83, g82⟩, -⟩ := id hbg
  have e8 : R.2.2 41 8 = nI t.1 := hp.1.2.1.2.2.2.2.2.2.1
  have f22 : z_FR nn kk d R R22 := by
    have g1 : z_FR nn kk d R R19 := (fr12.tr (fm15.fr (nn0 := nn) (kk0 := kk) (d0 := d) (Nat.le_refl _) (by omega) (Nat.le_refl _) (by omega)) (Nat.le_refl _) (Nat.le_refl _) (Nat.le_refl _)).tr (z_FR.Be (nn := nn) (kk := kk) (d := d) (h4.xR.tr x1819) B1915) (Nat.le_refl _) (Nat.le_refl _) (Nat.le_refl _)
    exact (g1.tr (fm21.fr (nn0 := nn) (kk0 := kk) (d0 := d) (Nat.le_refl _) (by omega) (by omega) (by omega)) (Nat.le_refl _) (Nat.le_refl _) (Nat.le_refl _)).tr (z_FR.Be (nn := nn) (kk := kk) (d := d) x2122 B22) (Nat.le_refl _) (Nat.le_refl _) (Nat.le_refl _)
  have nr15 : z_Nr ((nn + 1, nn15), (kk, kk15)) R15 R22 := ((z_Nr.Be B1915).tr (fm21.nr (u := ((nn + 1, nn15), (kk, kk15))) (Nat.lt_succ_self _) (Nat.le_refl _) (Nat.le_refl _))).tr (z_Nr.Be B22)
  have t14 : ∀ {a c : Nat}, (s < a ∨ c ≤ s) → z_Cs a c S13 S14 := by
    intro a c h
    rw [hS14]
    exact z_Cs.put h
  have t16 : ∀ {a c : Nat}, (s < a ∨ c ≤ s) → z_Cs a c S15 S16 := by
    intro a c h
    rw [hS16]
    exact z_Cs.put h
  have tail : ∀ {a c : Nat}, c ≤ s15 + 1 → z_Cs a c S17 S22 := by
    intro a c h
    exact (h3.cs.tr (b3.cs' (by omega))).tr ((fc21.cs' (by omega)).tr (d3.cs' (by omega)))
  have cs1 : z_Cs (s + 1) s15 S15 S22 := ((t16 (Or.inl (Nat.lt_succ_self _))).tr z3.cs).tr (tail (by omega))
  have cs2 : z_Cs (s15 + 1 + 1) s21 S21 S22 := d3.cs
  have csG : z_Cs s15 (s15 + 1) S17 S22 := tail (Nat.le_refl _)
  have csB : z_Cs (s15 + 1) (s15 + 1 + 1) S20 S22 := (fc21.cs' (Nat.le_refl _)).tr (d3.cs' (by omega))
  -- instruction s
  have at0 : ∀ q, 14 ≤ q → q ≤ 19 → ¬ q = 17 → z_fn 0 (S22.1 q) s = z_fn 0 (S14.1 q) s := by
    intro q a c h
    rw [tail (a := s) (c := s + 1) (by omega) q a c s (Nat.le_refl _) (Nat.lt_succ_self _), z3.2.1 q a c s (by omega), hS16]
    show z_fn 0 (z_u S15.1 17 ((s, nI s15) :: S15.1 17) q) s = z_fn 0 (S14.1 q) s
    rw [z_un h, fc15.2.1 q a c s (Nat.lt_succ_self _)]
  have at1 : ∀ q, 14 ≤ q → q ≤ 19 → ¬ q = 17 → ¬ q = 18 → z_fn 0 (S22.1 q) s = z_fn 0 (S13.1 q) s := by
    intro q a c h h'
    rw [at0 q a c h, hS14]
    show z_fn 0 (z_u S13.1 18 ((s, t3.2.2) :: S13.1 18) q) s = z_fn 0 (S13.1 q) s
    rw [z_un h']
  have at18 : z_fn 0 (S22.1 18) s = t3.2.2 := by
    rw [at0 18 (by decide) (by decide) (by decide), hS14]
    show z_fn 0 (z_u S13.1 18 ((s, t3.2.2) :: S13.1 18) 18) s = t3.2.2
    rw [z_uk, z_fcs]
  have at17 : z_fn 0 (S22.1 17) s = nI s15 := by
    rw [tail (a := s) (c := s + 1) (by omega) 17 (by decide) (by decide) s (Nat.le_refl _) (Nat.lt_succ_self _), z3.2.1 17 (by decide) (by decide) s (by omega), hS16]
    show z_fn 0 (z_u S15.1 17 ((s, nI s15) :: S15.1 17) 17) s = nI s15
    rw [z_uk, z_fcs]
  have T15 := P15.2.2.1
  have T21 := P21.2.2.1
  have T13 := P13.2.2.1
  have hnn : nn < nn15 := Nat.lt_of_succ_lt l4
  obtain ⟨⟨w1, w2, w3⟩, w4, w5, w6⟩ := z_rcn lj6 lj9 c100 l1 l2 l3 l6 r1 r2 r3 r6
  refine ⟨R22, j21, t21, τ21, s21 + 1, nn21, kk21, max f15 f21 + 1, nn, P22, Z22, ⟨U53, U54, ?_⟩, ⟨⟨Nat.le_refl _, Nat.lt_trans hnn r4, w4⟩, d4.2.2.2.2.2, ?_⟩, ⟨?_, ?_, ?_, ?_⟩, te6.tr (te9.tr (te12.tr (te15.tr te21))), (fc20.tr fc21 w5 (Nat.le_refl _)).tr d3 w6 (Nat.le_refl _), f22, ⟨w1, w2, w3, Nat.le_of_lt (Nat.lt_trans hnn r4), Nat.le_trans l5 r5⟩, ref22⟩
  · rw [U55, dep 82 (by decide) (by decide), g82, e8]
  · have e58 : z_fn 0 (R22.1 58) nn = nI m15 := by rw [B22, fm21.at hnn (by decide) (by decide) (by decide), B1915]; exact n58
    have e61 : z_fn 0 (R22.1 61) nn = nI t11.1 := by rw [B22, fm21.at hnn (by decide) (by decide) (by decide), B1915]; exact n61
    have e59 : z_fn 0 (R22.1 59) nn = nI m21 := by rw [B22]; exact n59
    have e62 : z_fn 0 (R22.1 62) nn = nI t18.1 := by rw [B22]; exact n62
    have e64 := (nd22 64 (by decide) (by decide) (by decide) (by decide) (by decide)).trans m64
    have e65 := (nd22 65 (by decide) (by decide) (by decide) (by decide) (by decide)).trans m65
    have e66 := (nd22 66 (by decide) (by decide) (by decide) (by decide) (by decide)).trans m66
    have e67 := (nd22 67 (by decide) (by decide) (by decide) (by decide) (by decide)).trans m67
    have e68 := (nd22 68 (by decide) (by decide) (by decide) (by decide) (by decide)).trans m68
    have e69 := (nd22 69 (by decide) (by decide) (by decide) (by decide) (by decide)).trans m69
    have e70 := (nd22 70 (by decide) (by decide) (by decide) (by decide) (by decide)).trans m70
    refine Or.inr (Or.inr (Or.inr (Or.inr (Or.inr (Or.inl ⟨e57, m15, m21, s15, ((nn + 1, nn15), (kk, kk15)), ((nn15, nn21), (kk15, kk21)), ⟨z_S1i (Nat.le_succ _) (Nat.le_of_lt r4) (Nat.le_refl _) r5 (Or.inl (Nat.lt_succ_self _)), z_S1i (Nat.le_of_lt hnn) (Nat.le_refl _) l5 (Nat.le_refl _) (Or.inl hnn), Nat.le_refl _⟩, e58, e59, l6, r6, ?_, ?_, ?_, ?_, ?_, at17, ?_, ?_, ?_, ?_, d4.1⟩)))))
    · rw [at1 14 (by decide) (by decide) (by decide) (by decide)]
      exact i4.1
    · rw [at1 15 (by decide) (by decide) (by decide) (by decide), i4.2.1, e64, e65]
      exact nm2
    · rw [at18, e66, e67]
      exact nm4
    · rw [at1 16 (by decide) (by decide) (by decide) (by decide), i4.2.2.1, e68, e69, e70]
      exact fq12.x T13.1.1 T13.2.1.1 (te15.tr te21)
    · rw [e61]
      exact ⟨z_wa d50, C15.mv (S' := S22) (R' := R22) (f' := max f15 f21) (u' := ((nn + 1, nn15), (kk, kk15))) (Nat.le_max_left _ _) cs1 nr15 T15.1.1 T15.2.1.1 te21 ⟨⟨Nat.le_refl _, Nat.le_refl _⟩, ⟨Nat.le_refl _, Nat.le_refl _⟩⟩⟩
    · rw [csG 14 (by decide) (by decide) s15 (Nat.le_refl _) (Nat.lt_succ_self _)]
      exact z4.1
    · rw [csB 14 (by decide) (by decide) (s15 + 1) (Nat.le_refl _) (Nat.lt_succ_self _)]
      exact b4.1
    · rw [csB 15 (by decide) (by decide) (s15 + 1) (Nat.le_refl _) (Nat.lt_succ_self _), b4.2.1, e64, e65]
      exact nm2
    · rw [e62]
      exact ⟨z_wa d50, C21.mv (S' := S22) (R' := R22) (f' := max f15 f21) (u' := ((nn15, nn21), (kk15, kk21))) (Nat.le_max_right _ _) cs2 (z_Nr.Be B22) T21.1.1 T21.2.1.1 z_Te.rf ⟨⟨Nat.le_refl _, Nat.le_refl _⟩, ⟨Nat.le_refl _, Nat.le_refl _⟩⟩⟩
  · rw [B22, dep 80 (by decide) (by decide), g80]
  · rw [B22, dep 81 (by decide) (by decide), g81]
  · rw [B22, dep 83 (by decide) (by decide), g83]
  · rw [B22, dep 82 (by decide) (by decide), g82, e8]
end ZY4
