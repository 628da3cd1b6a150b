/-! Reading programs, both together: a call, from its first word on. -/
theorem z_ifx {c : Prop} [Decidable c] {P Q : Prop} (h : ¬ c) (q : if c then P else Q) : Q := by
  rw [if_neg h] at q
  exact q
section ZZ2
variable {b : Nat → Nat} {n me : Nat} {ep : Nat → Nat} {j : Nat} {t : Nat × Nat × Int32} {τ : z_TT} {s nn kk w d k : Nat} {S : z_CS} {R : z_RS} {x y : Int32}
/-- the reference, once the class has ended at an effect -/
theorem dW {v p : Int32} (h : z_Dz x y (d + 1) R) : ∃ R', (∀ Q : Option Value → z_RS → Prop, Q none R' → p169_26 18 R.1 R.2.1 R.2.2 (nI d) p v Q) ∧ z_Td x y R'.2.2 ∧ z_XR R R' := by
  obtain ⟨R', a1, a2, a3, a4⟩ := e154 (k := 33) h (by decide)
  exact ⟨R', fun Q hq => ⟨none, R', a1.up (by decide), rfl, z_ifn a3.1 hq⟩, a3, a4⟩
/-- the same, behind the word that stands behind the effect -/
theorem dW2 {v p : Int32} (h : z_Dz x y (d + 1) R) : ∃ R', (∀ Q : Option Value → z_RS → Prop, Q none R' → p169_33 18 R.1 R.2.1 R.2.2 (nI d) p v Q) ∧ z_Td x y R'.2.2 ∧ z_XR R R' := by
  obtain ⟨zi, zc⟩ := z_i50 (d := d + 1) (i := d) h.2.2.1 (Nat.lt_succ_self d)
  rcases id h.1 with ht | ⟨hx, h0, h5, h8⟩
  · exact ⟨R, fun Q hq => z_ifn ht.1 hq, ht, z_XR.rf⟩
  · obtain ⟨m, R3, m6, g1, g2, g3, g4⟩ := e163 (k := 11) h
    obtain ⟨zj, zk⟩ := z_o6_in m6
    rcases id g2.1 with ht | ⟨hx3, h03, h53, h83⟩
    · exact ⟨R3, fun Q hq => z_ifp (by rw [h0]; decide) ⟨_, R3, g1.up (by decide), _, rfl, z_ifn ht.1 hq⟩, ht, g3⟩
    · obtain ⟨R4, hR4⟩ : ∃ X, X = ((z_u (z_u (z_u (z_u R3.1 68 ((m, v) :: R3.1 68)) 95 ((d, nI m) :: R3.1 95)) 93 ((d, nI m) :: R3.1 93)) 94 ((d, p) :: R3.1 94)), R3.2.1, R3.2.2) := ⟨_, rfl⟩
      have x34 : z_XR R3 R4 := by
        rw [hR4]
        exact z_XR_B (fun q r => by rw [z_un (by omega), z_un (by omega), z_un (by omega), z_un (by omega)])
      have q4 : z_Qd x y R4.2.2 := by
        rw [hR4]
        exact g2.1
      have h5' : R4.2.2 41 7 = 5 := by
        rw [hR4]
        exact h53
      obtain ⟨R5, k1, k2, k3⟩ := d151 (l := 17) (R := R4) q4
      refine ⟨R5, fun Q hq => z_ifp (by rw [h0]; decide) ⟨_, R3, g1.up (by decide), _, rfl, z_ifp (by rw [h03]; decide) ?_⟩, k3, g3.tr (x34.tr k2.xR)⟩
      unfold p169_57
      rw [zk, zc, ← hR4]
      exact ⟨zj, zi, zi, zi, _, R4, e170 (l := 17) h5', 0, rfl, z_ifp rfl ⟨none, R5, k1, rfl, hq⟩⟩
/-- an effect that is told with something -/
theorem jperf (ih : z_Ih b n me ep k) (hk : d + (k + 1) = 50) (hp : z_P b n me ep j t τ s nn kk w S R) (hz : z_Zd (d + 1) R) (hm : R.2.2 41 53 = 1) (h93 : z_fn 0 (R.1 93) d = -1) (h3 : t.2.1 = 3) (hb : s + w ≤ 3 * j + 2 ∧ 5 * kk ≤ j ∧ w ≤ 3 * (d + 1)) : p74_21 (5 * k + 82) S.1 S.2.1 S.2.2.1 S.2.2.2.1 S.2.2.2.2.1 S.2.2.2.2.2 (nI d) (nI t.1) (fun o S' => z_oj o (fun v => v = none ∧ ∃ j' t' R', z_Cal b n me ep d j τ s nn kk w t.1 S R (fun Q => z_Hq Q R) j' t' S' R' ∧ (z_atm t'.2.1 = false ∨ z_fn 0 (R'.1 96) d = 1)) (z_AtD S R (fun Q => z_Hq Q R) S')) := by
  have hr := hp.1.2.2.2.2
  have d50 := hz.2.1
  have w2 : R.2.2 41 7 = 2 := by
    rw [hp.1.2.1.2.2.2.2.2.2.2.1, h3]
    rfl
  have e8 : R.2.2 41 8 = nI t.1 := hp.1.2.1.2.2.2.2.2.2.1
  obtain ⟨zi, zc⟩ := z_i50 (d := d + 1) (i := d) hz.2.1 (Nat.lt_succ_self d)
  -- the reference comes to its effect
  have refE : ∀ v R1, z_Rr 14 157 0 [(0, .ref 148)] [] R (some (.int v)) R1 → ∀ Q, p169_26 18 R1.1 R1.2.1 R1.2.2 (nI d) (nI t.1) v (fun x R1 => x = none ∧ z_Hq Q R1) → z_Hq Q R := by
    intro v R1 g1 Q h
    refine rW (d := d) hp.1.2.2.2.1 hm hz.1 Q (z_ifp w2 ?_)
    unfold p169_13
    rw [zc, h93, e8]
    exact ⟨zi, z_ifn (by decide) ⟨_, R1, g1.up (by decide), v, rfl, h⟩⟩
  refine ⟨hr.rm.1, ?_⟩
  rcases je hp.1 hp.2.1 with ⟨i, t1, R1, i8, -, c58, r157, lw1, -, hl⟩ | ⟨x, y, S1, R1, c58, r157, xd, lw1, qd⟩
  case inr =>
    refine ⟨.inr 10, S1, c58.up (by omega), rfl, rfl, x, y, xd, fun Q hQ => ?_⟩
    obtain ⟨R2, g1, g2, g3⟩ := dW (d := d) (v := -1) (p := nI t.1) (R := R1) ⟨qd, hz.lw lw1⟩
    exact refE _ R1 r157 Q (g1 _ ⟨rfl, eHt g2 (hQ R2 g2 (lw1.xR.tr g3))⟩)
  refine ⟨.inl (some (.int (nI i))), S, c58.up (by omega), nI i, rfl, hr.rm.1, ?_⟩
  rcases hl with ⟨nb, S1, m1, m2, m3⟩ | ⟨nb, S1, m1, m2, m3⟩
  case inr =>
    refine ⟨.inr 10, S1, m1.up (by omega), rfl, rfl, 2, nI t1.1, m2, fun Q hQ => ?_⟩
    obtain ⟨R2, g1, g2, g3⟩ := dW (d := d) (v := nI i) (p := nI t.1) (x := 2) (y := nI t1.1) (R := R1) ⟨m3.q, hz.lw lw1⟩
    exact refE _ R1 r157 Q (g1 _ ⟨rfl, eHt g2 (hQ R2 g2 (lw1.xR.tr g3))⟩)
  have P1 := hp.kw m3 m2 lw1 (by omega)
  have Z1 := hz.lw lw1
  refine ⟨.inl none, S1, m1.up (by omega), rfl, P1.1.2.2.2.2.rm.1, ?_⟩
  rcases jx P1.1 17 (by decide) (by decide) (by decide) with ⟨t2, S2, R2, c0, c1, c2, c3, c4, c5⟩ | ⟨x, y, S2, R2, c1, c2, c3, c4, c5⟩
  case inr =>
    refine ⟨.inr 10, S2, c1.up (by omega), rfl, rfl, x, y, c3.tr m2.xc, fun Q hQ => ?_⟩
    obtain ⟨R3, g1, g2, g3⟩ := dW2 (d := d) (v := nI i) (p := nI t.1) (R := R2) ⟨c5, Z1.lw c4⟩
    exact refE _ R1 r157 Q ⟨none, R2, c2.up (by decide), rfl, g1 _ ⟨rfl, eHt g2 (hQ R3 g2 (lw1.xR.tr (c4.xR.tr g3)))⟩⟩
  have P2 := P1.kw c5 c3 c4 (by omega)
  have Z2 := Z1.lw c4
  have kw2 : z_Kw S S2 := m2.tr c3
  have lw2 : z_Lw R R2 := lw1.tr c4
  have h02 : R2.2.2 41 11 = 0 := P2.1.2.2.2.1
  refine ⟨.inl none, S2, c1.up (by omega), rfl, P2.1.2.2.2.2.rm.1, ?_⟩
  have refN : ∀ m R3, z_Rr 14 163 0 [(0, .ref 148), (1, .int 11)] [] R2 (some (.int (nI m))) R3 → ∀ Q, p169_47 18 R3.1 R3.2.1 R3.2.2 (nI d) (nI t.1) (nI i) (nI m) (fun x R1 => x = none ∧ z_Hq Q R1) → z_Hq Q R := fun m R3 g1 Q h => refE _ R1 r157 Q ⟨none, R2, c2.up (by decide), rfl, z_ifp (by rw [h02]; decide) ⟨_, R3, g1.up (by decide), _, rfl, h⟩⟩
  rcases Pk (k := 11) P2 with ⟨S3, R3, k1, k2, P3, k4, k5, k6, k7, k8⟩ | ⟨S3, R3, k1, k2, k3, k4, k5⟩
  case inr =>
    exact ⟨.inr 10, S3, k1.up (by omega), rfl, rfl, 4, nI t2.1, k2.tr kw2.xc, fun Q hQ => refN 0 R3 k3 Q (z_ifn k4.1 ⟨rfl, eHt k4 (hQ R3 k4 (lw2.tr k5).xR)⟩)⟩
  have n600 : nn < 600 := by
    have := P3.2.2.2.2.2.1.2.2
    omega
  obtain ⟨zj, zk⟩ := z_o6_in n600
  have Z3 : z_Zd (d + 1) R3 := by
    refine ⟨(k6 52 (by decide)).trans Z2.1, Z2.2.1, ⟨nn + 1, by omega, P3.2.2.2.2.2.1.2.1⟩, fun i hi => ?_⟩
    rw [k5, z_un (by decide), z_un (by decide), z_un (by decide), z_un (by decide), z_un (by decide), z_un (by decide)]
    exact Z2.2.2.2 i hi
  have h03 : R3.2.2 41 11 = 0 := P3.1.2.2.2.1
  refine ⟨.inl none, S3, k1.up (by omega), rfl, P3.1.2.2.2.2.rm.1, ?_⟩
  obtain ⟨R4, hR4⟩ : ∃ X, X = ((z_u (z_u (z_u (z_u R3.1 68 ((nn, nI i) :: R3.1 68)) 95 ((d, nI nn) :: R3.1 95)) 93 ((d, nI nn) :: R3.1 93)) 94 ((d, nI t.1) :: R3.1 94)), R3.2.1, R3.2.2) := ⟨_, rfl⟩
  have B4 : R4.1 = z_u (z_u (z_u (z_u R3.1 68 ((nn, nI i) :: R3.1 68)) 95 ((d, nI nn) :: R3.1 95)) 93 ((d, nI nn) :: R3.1 93)) 94 ((d, nI t.1) :: R3.1 94) := by rw [hR4]
  have U4 : R4.2 = R3.2 := by rw [hR4]
  have x34 : z_XR R3 R4 := by
    rw [hR4]
    exact z_XR_B (fun q r => by rw [z_un (by omega), z_un (by omega), z_un (by omega), z_un (by omega)])
  have oth : ∀ q r, ¬ (q = 68 ∧ r = nn) → ¬ ((q = 95 ∨ q = 93 ∨ q = 94) ∧ r = d) → z_fn 0 (R4.1 q) r = z_fn 0 (R3.1 q) r := by
    intro q r a1 a2
    rw [B4]
    by_cases e1 : q = 94
    · subst e1
      rw [z_uk, z_fcn (fun e => a2 ⟨Or.inr (Or.inr rfl), e⟩)]
    rw [z_un e1]
    by_cases e2 : q = 93
    · subst e2
      rw [z_uk, z_fcn (fun e => a2 ⟨Or.inr (Or.inl rfl), e⟩)]
    rw [z_un e2]
    by_cases e3 : q = 95
    · subst e3
      rw [z_uk, z_fcn (fun e => a2 ⟨Or.inl rfl, e⟩)]
    rw [z_un e3]
    by_cases e4 : q = 68
    · subst e4
      rw [z_uk, z_fcn (fun e => a1 ⟨rfl, e⟩)]
    rw [z_un e4]
  have P4 : z_P b n me ep (j + 1 + 1) t2 τ s (nn + 1) kk w S3 R4 := P3.ref (fun q r => by rw [B4, z_un (by omega), z_un (by omega), z_un (by omega), z_un (by omega)]) (fun i _ => by rw [U4])
  have Z4 : z_Zd (d + 1) R4 := by
    have q1 := z_Zd.put95 (i := d) (v := nI nn) Z3 (Or.inr ⟨nn, n600, rfl⟩)
    exact q1.cg (by rw [hR4]; rfl) (by rw [hR4]; rfl) (by rw [hR4]; rfl) (by rw [hR4]) (by rw [hR4])
  have b95 : z_fn 0 (R4.1 95) d = nI nn := by rw [B4, z_un (by decide), z_un (by decide), z_uk, z_fcs]
  have b93 : z_fn 0 (R4.1 93) d = nI nn := by rw [B4, z_un (by decide), z_uk, z_fcs]
  have b94 : z_fn 0 (R4.1 94) d = nI t.1 := by rw [B4, z_uk, z_fcs]
  have b68 : z_fn 0 (R4.1 68) nn = nI i := by rw [B4, z_un (by decide), z_un (by decide), z_un (by decide), z_uk, z_fcs]
  have b57 : z_fn 0 (R4.1 57) nn = 11 := by rw [oth 57 nn (by omega) (by omega), k5, z_un (by decide), z_uk, z_fcs]
  have w4 : R4.2.2 41 7 = z_wco t2.2.1 := P4.1.2.1.2.2.2.2.2.2.2.1
  have e84 : R4.2.2 41 8 = nI t2.1 := P4.1.2.1.2.2.2.2.2.2.1
  have t37 := P4.1.len.2
  -- the reference comes to what the effect is told with
  have refA : ∀ Q, p169_105 18 R4.1 R4.2.1 R4.2.2 (nI d) (nI t2.1) (fun x R1 => x = none ∧ z_Hq Q R1) → z_Hq Q R := by
    intro Q h
    refine refN nn R3 k2 Q (z_ifp (by rw [h03]; decide) ?_)
    unfold p169_57
    rw [zk, zc, ← hR4]
    refine ⟨zj, zi, zi, zi, _, R4, r170 (l := 17) w4 t37, _, rfl, ?_⟩
    by_cases ha : z_atm t2.2.1 = true
    · rw [if_pos ha]
      refine z_ifn (by decide) ?_
      unfold p169_100
      rw [e84]
      exact h
    · rw [if_neg ha]
      have nt : ∀ c, (R4.2.2 41 7 = 3 ∨ R4.2.2 41 7 = 312 ∨ R4.2.2 41 7 = 313 ∨ R4.2.2 41 7 = 40 ∨ R4.2.2 41 7 = 1) → c := fun c q => by
        rw [w4] at q
        exact absurd ((z_atm_w t2.2.1 t37).mpr q) ha
      have h1 := z_ifx (fun q => nt _ (Or.inl q)) h
      have h2 := z_ifx (fun q => nt _ (Or.inr (Or.inl q))) h1
      have h3 := z_ifx (fun q => nt _ (Or.inr (Or.inr (Or.inl q)))) h2
      have h4 := z_ifx (fun q => nt _ (Or.inr (Or.inr (Or.inr (Or.inr q))))) h3
      exact z_ifp rfl (z_ifx (fun q => nt _ (Or.inr (Or.inr (Or.inr (Or.inl q))))) h4)
  have fr4 : z_FR nn kk (d + 1) R4 R4 := z_FR.rf
  have fcS3 : z_FC s w S S3 := (kw2.fc (s := s) (w := w)).tr k7 (Nat.le_refl _) (Nat.le_refl _)
  have fr34 : z_FR nn kk d R R4 := by
    have q1 : z_FR nn kk d R R3 := (lw2.fr (nn := nn) (kk := kk) (d := d)).tr k8 (Nat.le_refl _) (Nat.le_refl _) (by omega)
    exact q1.tr (⟨x34, fun q a r c => oth q r (by omega) (by omega), fun q a b' r c => oth q r (by omega) (by omega), fun q a b' r c => oth q r (by omega) (by omega)⟩ : z_FR nn kk d R3 R4) (Nat.le_refl _) (Nat.le_refl _) (Nat.le_refl _)
  obtain ⟨o5, S5, y1, y2⟩ := jatom ih hk P4 Z4 ⟨by omega, by omega, hb.2.2⟩
  refine ⟨o5, S5, y1, ?_⟩
  rcases o5 with v5 | e5
  case inr =>
    obtain ⟨rfl, x, y, r1, r2⟩ := y2
    exact ⟨rfl, rfl, x, y, r1.tr fcS3.1, fun Q hQ => refA Q (r2 Q (fun R' a c => hQ R' a (fr34.1.tr c)))⟩
  obtain ⟨rfl, R5, j5, t5, τ5, s5, nn5, kk5, f5, m5, P5, Z5, C5, fr5, te5, fc5, ⟨l1, l2, l3, l4, l5, l6⟩, ref5⟩ := y2
  have lj5 := P5.1.len.1
  refine ⟨rfl, P5.1.2.2.2.2.rm.1, ?_⟩
  obtain ⟨S6, z1, P6, z3, z4, -, -⟩ := Pa (o := 16) (a1 := nI i) (a2 := 0) (f := nI t.1) P5 (by omega)
  refine ⟨.inl (some (.int (nI s5))), S6, z1.up (by omega), nI s5, rfl, rfl, ?_⟩
  have at5 : ∀ q, 80 ≤ q → q ≤ 96 → z_fn 0 (R5.1 q) d = z_fn 0 (R4.1 q) d := fun q a c => fr5.2.2.2 q a c d (Nat.lt_succ_self d)
  have h05 : R5.2.2 41 11 = 0 := P5.1.2.2.2.1
  have run := r171c (l := 17) (v := nI m5) (p := nI t2.1) (R := R5) (d := d) (by omega) h05 n600 ((at5 95 (by decide) (by decide)).trans b95)
  obtain ⟨R6, hR6⟩ : ∃ X, X = (z_u (z_u (z_u (z_u R5.1 58 ((nn, nI m5) :: R5.1 58)) 61 ((nn, nI t2.1) :: R5.1 61)) 95 ((d, -1) :: R5.1 95)) 96 ((d, z_nar .boolean 1) :: R5.1 96), R5.2.1, z_v R5.2.2 41 53 2) := ⟨_, rfl⟩
  rw [← hR6] at run
  have B6 : R6.1 = z_u (z_u (z_u (z_u R5.1 58 ((nn, nI m5) :: R5.1 58)) 61 ((nn, nI t2.1) :: R5.1 61)) 95 ((d, -1) :: R5.1 95)) 96 ((d, z_nar .boolean 1) :: R5.1 96) := by rw [hR6]
  have U6 : R6.2.2 = z_v R5.2.2 41 53 2 := by rw [hR6]
  have ot6 : ∀ q r, ¬ ((q = 58 ∨ q = 61) ∧ r = nn) → ¬ ((q = 95 ∨ q = 96) ∧ r = d) → z_fn 0 (R6.1 q) r = z_fn 0 (R5.1 q) r := by
    intro q r a1 a2
    rw [B6]
    by_cases e1 : q = 96
    · subst e1
      rw [z_uk, z_fcn (fun e => a2 ⟨Or.inr rfl, e⟩)]
    rw [z_un e1]
    by_cases e2 : q = 95
    · subst e2
      rw [z_uk, z_fcn (fun e => a2 ⟨Or.inl rfl, e⟩)]
    rw [z_un e2]
    by_cases e3 : q = 61
    · subst e3
      rw [z_uk, z_fcn (fun e => a1 ⟨Or.inr rfl, e⟩)]
    rw [z_un e3]
    by_cases e4 : q = 58
    · subst e4
      rw [z_uk, z_fcn (fun e => a1 ⟨Or.inl rfl, e⟩)]
    rw [z_un e4]
  have x56 : z_XR R5 R6 := by
    rw [hR6]
    exact (z_XR_B (R := R5) (B' := z_u (z_u (z_u (z_u R5.1 58 ((nn, nI m5) :: R5.1 58)) 61 ((nn, nI t2.1) :: R5.1 61)) 95 ((d, -1) :: R5.1 95)) 96 ((d, z_nar .boolean 1) :: R5.1 96)) (fun q r => by rw [z_un (by omega), z_un (by omega), z_un (by omega), z_un (by omega)])).tr (z_XR_U (R := (z_u (z_u (z_u (z_u R5.1 58 ((nn, nI m5) :: R5.1 58)) 61 ((nn, nI t2.1) :: R5.1 61)) 95 ((d, -1) :: R5.1 95)) 96 ((d, z_nar .boolean 1) :: R5.1 96), R5.2.1, R5.2.2)) (fun k' j' q => z_vn (by omega)))
  have P7 : z_P b n me ep j5 t5 τ5 (s5 + 1) nn5 kk5 w S6 R6 := P6.ref (fun q r => by rw [B6, z_un (by omega), z_un (by omega), z_un (by omega), z_un (by omega)]) (fun i' hi' => by rw [U6, z_vn (by omega)])
  have Z7 : z_Zd (d + 1) R6 := by
    have q1 := z_Zd.put95 (i := d) (v := -1) Z5 (Or.inl rfl)
    exact q1.cg (by rw [hR6]; rfl) (by rw [hR6]; rfl) (by rw [hR6]; rfl) (by rw [hR6]; rfl) (by rw [hR6]; rfl)
  have e58 : z_fn 0 (R6.1 58) nn = nI m5 := by rw [B6, z_un (by decide), z_un (by decide), z_un (by decide), z_uk, z_fcs]
  have e61 : z_fn 0 (R6.1 61) nn = nI t2.1 := by rw [B6, z_un (by decide), z_un (by decide), z_uk, z_fcs]
  have e57 : z_fn 0 (R6.1 57) nn = 11 := by rw [ot6 57 nn (by omega) (by omega), fr5.2.1 57 (by decide) nn (Nat.lt_succ_self _), b57]
  have e68 : z_fn 0 (R6.1 68) nn = nI i := by rw [ot6 68 nn (by omega) (by omega), fr5.2.1 68 (by decide) nn (Nat.lt_succ_self _), b68]
  have e96 : z_fn 0 (R6.1 96) d = 1 := by rw [B6, z_uk, z_fcs, z_nb1]
  have e95 : z_fn 0 (R6.1 95) d = -1 := by rw [B6, z_un (by decide), z_uk, z_fcs]
  have T5 := P5.2.2.1
  have nrB : z_Nr ((nn + 1, nn5), (kk, kk5)) R5 R6 := ⟨fun q a b' r c e => ot6 q r (by have : nn + 1 ≤ r := c; omega) (by omega), fun q a b' r c e => ot6 q r (by omega) (by omega)⟩
  refine ⟨j5, t5, R6, ⟨τ5, s5 + 1, nn5, kk5, f5 + 1, nn, P7, Z7, ⟨by rw [U6]; rfl, ?_, ?_, e95⟩, ⟨⟨Nat.le_refl _, (show nn < nn5 by omega), by omega⟩, z4.2.2.2.2.2, ?_⟩, ?_, fun q a c => ?_, te5, (fcS3.tr fc5 (Nat.le_refl _) (Nat.le_refl _)).tr z3 (by omega) (Nat.le_refl _), ⟨by omega, by omega, by omega, by omega, l5, by omega⟩, fun Q h => refA Q (ref5 Q ⟨none, R6, run, rfl, h⟩)⟩, Or.inr e96⟩
  · rw [ot6 93 d (by omega) (by omega), at5 93 (by decide) (by decide), b93]
  · rw [ot6 94 d (by omega) (by omega), at5 94 (by decide) (by decide), b94]
  · refine Or.inr (Or.inr (Or.inr (Or.inr (Or.inr (Or.inr (Or.inr (Or.inr (Or.inr (Or.inr (Or.inr ⟨e57, m5, i, ((nn + 1, nn5), (kk, kk5)), z_S1i (Nat.le_succ _) (Nat.le_refl _) (Nat.le_refl _) (Nat.le_refl _) (Or.inl (Nat.lt_succ_self _)), i8, e58, by omega, ?_, z4.1, z4.2.1, e68⟩))))))))))
    rw [e61]
    exact ⟨z_wd2 (by omega), C5.mv (S' := S6) (R' := R6) (f' := f5) (u' := ((nn + 1, nn5), (kk, kk5))) (Nat.le_refl _) z3.cs nrB T5.1.1 T5.2.1.1 z_Te.rf ⟨⟨Nat.le_refl _, Nat.le_refl _⟩, ⟨Nat.le_refl _, Nat.le_refl _⟩⟩ z_w32⟩
  · have q1 : z_FR nn kk d R R5 := fr34.tr fr5 (Nat.le_succ _) (Nat.le_refl _) (Nat.le_succ _)
    exact q1.tr (⟨x56, fun q a r c => ot6 q r (by omega) (by omega), fun q a b' r c => ot6 q r (by omega) (by omega), fun q a b' r c => ot6 q r (by omega) (by omega)⟩ : z_FR nn kk d R5 R6) (Nat.le_refl _) (Nat.le_refl _) (Nat.le_refl _)
  · rw [ot6 q d (by omega) (by omega), at5 q a (by omega), oth q d (by omega) (by omega)]
    rw [k8.2.2.2 q a (by omega) d (by omega), lw2.1]
/-- a call -/
theorem jcall (ih : z_Ih b n me ep k) (hk : d + (k + 1) = 50) (hp : z_P b n me ep j t τ s nn kk w S R) (hz : z_Zd (d + 1) R) (hm : R.2.2 41 53 = 1) (h93 : z_fn 0 (R.1 93) d = -1) (h95 : z_fn 0 (R.1 95) d = -1) (h96 : z_fn 0 (R.1 96) d = 0) (hb : s + w ≤ 3 * j + 2 ∧ 5 * kk ≤ j ∧ w ≤ 3 * (d + 1)) : z_WC (5 * k + 83) 74 0 [(0, .ref 131), (1, .int (nI d))] [] S (fun o S' => z_oj o (fun v => v = none ∧ ∃ j' t' R', z_Cal b n me ep d j τ s nn kk w t.1 S R (fun Q => z_Hq Q R) j' t' S' R' ∧ (z_atm t'.2.1 = false ∨ z_fn 0 (R'.1 96) d = 1)) (z_AtD S R (fun Q => z_Hq Q R) S')) := by
  have hr := hp.1.2.2.2.2
  have hW : S.2.2.2.2.1 = t.2.1 := hp.1.2.1.2.2.2.1
  have lj := hp.1.len
  have e9 : S.2.2.2.1 3 9 = nI t.1 := hp.1.2.1.2.2.2.2.1
  have d50 := hz.2.1
  refine t74_0 (A := S.1) (E := S.2.1) (N := S.2.2.1) (V := S.2.2.2.1) (W := S.2.2.2.2.1) (c := S.2.2.2.2.2) ?_
  unfold p74_0
  rw [e9]
  refine ⟨by show S.2.2.2.2.1 < 37; rw [hW]; exact lj.2, ?_⟩
  by_cases h3 : t.2.1 = 3
  · exact z_ifp (by rw [hW, h3]) (jperf ih hk hp hz hm h93 h3 hb)
  refine z_ifn (fun q => h3 (hW.symm.trans (Option.some.inj q))) ⟨hr.rm.1, ?_⟩
  have refA : ∀ Q, p169_105 18 R.1 R.2.1 R.2.2 (nI d) (nI t.1) (fun x R1 => x = none ∧ z_Hq Q R1) → z_Hq Q R := by
    intro Q h
    refine rW (d := d) hp.1.2.2.2.1 hm hz.1 Q (z_ifn ?_ ?_)
    · rw [hp.1.2.1.2.2.2.2.2.2.2.1]
      exact z_wco_n (i := 3) lj.2 (by decide) h3
    · rw [hp.1.2.1.2.2.2.2.2.2.1]
      exact h
  obtain ⟨o5, S5, y1, y2⟩ := jatom ih hk hp hz ⟨by omega, hb.2.1, hb.2.2⟩
  refine ⟨o5, S5, y1, ?_⟩
  rcases o5 with v5 | e5
  case inr =>
    obtain ⟨rfl, x, y, r1, r2⟩ := y2
    exact ⟨rfl, rfl, x, y, r1, fun Q hQ => refA Q (r2 Q hQ)⟩
  obtain ⟨rfl, R5, j5, t5, τ5, s5, nn5, kk5, f5, m5, P5, Z5, C5, fr5, te5, fc5, ⟨l1, l2, l3, l4, l5, l6⟩, ref5⟩ := y2
  refine ⟨rfl, ?_⟩
  have at5 : ∀ q, 80 ≤ q → q ≤ 96 → z_fn 0 (R5.1 q) d = z_fn 0 (R.1 q) d := fun q a c => fr5.2.2.2 q a c d (Nat.lt_succ_self d)
  have h05 : R5.2.2 41 11 = 0 := P5.1.2.2.2.1
  have run := r171a (l := 17) (v := nI m5) (p := nI t.1) (R := R5) (d := d) (by omega) h05 ((at5 95 (by decide) (by decide)).trans h95) ((at5 93 (by decide) (by decide)).trans h93)
  obtain ⟨R6, hR6⟩ : ∃ X, X = (z_u (z_u R5.1 93 ((d, nI m5) :: R5.1 93)) 94 ((d, nI t.1) :: R5.1 94), R5.2.1, z_v R5.2.2 41 53 2) := ⟨_, rfl⟩
  rw [← hR6] at run
  have B6 : R6.1 = z_u (z_u R5.1 93 ((d, nI m5) :: R5.1 93)) 94 ((d, nI t.1) :: R5.1 94) := by rw [hR6]
  have U6 : R6.2.2 = z_v R5.2.2 41 53 2 := by rw [hR6]
  have ot6 : ∀ q r, ¬ ((q = 93 ∨ q = 94) ∧ r = d) → z_fn 0 (R6.1 q) r = z_fn 0 (R5.1 q) r := by
    intro q r a2
    rw [B6]
    by_cases e1 : q = 94
    · subst e1
      rw [z_uk, z_fcn (fun e => a2 ⟨Or.inr rfl, e⟩)]
    rw [z_un e1]
    by_cases e2 : q = 93
    · subst e2
      rw [z_uk, z_fcn (fun e => a2 ⟨Or.inl rfl, e⟩)]
    rw [z_un e2]
  have x56 : z_XR R5 R6 := by
    rw [hR6]
    exact (z_XR_B (R := R5) (B' := z_u (z_u R5.1 93 ((d, nI m5) :: R5.1 93)) 94 ((d, nI t.1) :: R5.1 94)) (fun q r => by rw [z_un (by omega), z_un (by omega)])).tr (z_XR_U (R := (z_u (z_u R5.1 93 ((d, nI m5) :: R5.1 93)) 94 ((d, nI t.1) :: R5.1 94), R5.2.1, R5.2.2)) (fun k' j' q => z_vn (by omega)))
  have P6 : z_P b n me ep j5 t5 τ5 s5 nn5 kk5 w S5 R6 := P5.ref (fun q r => by rw [B6, z_un (by omega), z_un (by omega)]) (fun i' hi' => by rw [U6, z_vn (by omega)])
  have Z6 : z_Zd (d + 1) R6 := Z5.cg (by rw [hR6]; rfl) (by rw [hR6]; rfl) (by rw [hR6]; rfl) (by rw [hR6]; rfl) (by rw [hR6]; rfl)
  have nrB : z_Nr ((nn, nn5), (kk, kk5)) R5 R6 := ⟨fun q a b' r c e => ot6 q r (by omega), fun q a b' r c e => ot6 q r (by omega)⟩
  have T5 := P5.2.2.1
  have fr6 : z_FR nn kk d R R6 := ((z_FR.rf (nn := nn) (kk := kk) (d := d) (R := R)).tr fr5 (Nat.le_refl _) (Nat.le_refl _) (Nat.le_succ _)).tr (⟨x56, fun q a r c => ot6 q r (by omega), fun q a b' r c => ot6 q r (by omega), fun q a b' r c => ot6 q r (by omega)⟩ : z_FR nn kk d R5 R6) (Nat.le_refl _) (Nat.le_refl _) (Nat.le_refl _)
  have cal : z_Cal b n me ep d j τ s nn kk w t.1 S R (fun Q => z_Hq Q R) j5 t5 S5 R6 := by
    refine ⟨τ5, s5, nn5, kk5, f5, m5, P6, Z6, ⟨by rw [U6]; rfl, ?_, ?_, ?_⟩, C5.mv (S' := S5) (R' := R6) (f' := f5) (u' := ((nn, nn5), (kk, kk5))) (Nat.le_refl _) z_Cs.rf nrB T5.1.1 T5.2.1.1 z_Te.rf ⟨⟨Nat.le_refl _, Nat.le_refl _⟩, ⟨Nat.le_refl _, Nat.le_refl _⟩⟩, fr6, fun q a c => ?_, te5, fc5, ⟨l1, l2, l3, l4, l5, l6⟩, fun Q h => refA Q (ref5 Q ⟨none, R6, run, rfl, h⟩)⟩
    · rw [B6, z_un (by decide), z_uk, z_fcs]
    · rw [B6, z_uk, z_fcs]
    · rw [ot6 95 d (by omega), at5 95 (by decide) (by decide), h95]
    · rw [ot6 q d (by omega), at5 q a (by omega)]
  refine (jcl ih hk hb (1501 - j5) j5 t5 S5 R6 0 (Nat.le_refl _) (by omega) ?_ cal).im (fun o S' ho => ?_)
  · rw [ot6 96 d (by omega), at5 96 (by decide) (by decide), h96]
  · rcases o with v | e
    · obtain ⟨h1, j', t', R', h2, h3, h4⟩ := ho
      exact ⟨h1, j', t', R', h2, Or.inl h3⟩
    · exact ho
end ZZ2
