/-! Reading programs, both together: a program. -/
/-- but for what reading writes the reference is as it was -/
def z_Xq (R R' : z_RS) : Prop := (∀ k, k ≤ 45 → R'.1 k = R.1 k) ∧ R'.2.1 = R.2.1 ∧ ∀ k j, ¬ (k = 41 ∧ 7 ≤ j ∧ j ≤ 75) → R'.2.2 k j = R.2.2 k j
theorem z_XR.xq {R R' R'' : z_RS} (h : z_Xq R R') (h' : z_XR R' R'') : z_Xq R R'' := ⟨fun k q => (h'.1 k q).trans (h.1 k q), h'.2.1.trans h.2.1, fun k j q => (h'.2.2.1 k j q).trans (h.2.2 k j q)⟩
/-- a program that both have read -/
def z_Rp (b : Nat → Nat) (n : Nat) (S' : z_CS) (R' : z_RS) : Prop := ∃ (me : Nat) (ep : Nat → Nat) (j : Nat) (t : Nat × Nat × Int32) (τ : z_TT) (s nn kk f m : Nat) (p : Int32), z_P b n me ep j t τ (s + 1) nn kk 0 S' R' ∧ z_Cp b n me τ S'.1 R'.1 ((0, nn), (0, kk)) f (z_wx 0) m 0 s p ∧ z_fn 0 (S'.1 14) s = 27 ∧ R'.2.2 41 28 = nI m ∧ R'.2.2 41 12 = -1 ∧ s ≤ 4600 ∧ kk < 301 ∧ z_fn 0 (S'.1 15) s = 0
/-- what both stand at while declarations are read -/
def z_Dl (b : Nat → Nat) (n i : Nat) (S0 : z_CS) (R0 : z_RS) (S : z_CS) (R : z_RS) : Prop := ∃ (ep : Nat → Nat) (j : Nat) (t : Nat × Nat × Int32) (τ : z_TT), z_J b n j t S R ∧ z_De b n i ep S.1 R.1 S.2.2.2.1 R.2.2 ∧ z_TyC S.1 S.2.2.1 S.2.2.2.1 τ.1.1 τ.1.2 ∧ z_TyR R.1 R.2.2 τ.2.1 τ.2.2 ∧ (2 * τ.1.2 ≤ 6 + j ∧ 2 * τ.2.2 ≤ 6 + j) ∧ z_Et τ i S.1 R.1 ∧ (S.2.2.2.1 13 6 = 0 ∧ S.2.2.2.1 13 7 = 0 ∧ S.2.2.2.1 24 7 = 0) ∧ (R.2.2 41 26 = 0 ∧ R.2.2 41 27 = 0 ∧ R.2.2 41 52 = 0) ∧ z_XC S0 S ∧ z_XR R0 R
section ZZH
variable {b : Nat → Nat} {n : Nat} {S0 S : z_CS} {R0 R : z_RS} {x y : Int32}
/-- the reference, once the class has ended -/
theorem eD (h : z_Qd x y R.2.2) : ∃ R', z_Rr 20 140 49 [(0, .ref 148)] [] R none R' ∧ z_Td x y R'.2.2 ∧ z_XR R R' := by
  obtain ⟨Ra, hRa⟩ : ∃ X, X = (R.1, R.2.1, z_v (z_v (z_v (z_v R.2.2 41 73 (-1)) 41 74 0) 41 75 (-1)) 41 53 0) := ⟨_, rfl⟩
  have ra : z_Rr 19 159 0 [(0, .ref 148), (1, .int (-1)), (2, .int 0)] [] R none Ra := by
    rw [hRa]
    exact r159
  have xa : z_XR R Ra := by
    rw [hRa]
    exact z_XR_U z_ak
  have qa : z_Qd x y Ra.2.2 := by
    rw [hRa]
    exact h.U rfl rfl rfl rfl
  rcases id h with ht | ⟨hx, h0, h5, h8⟩
  · have ht : z_Td x y R.2.2 := ht
    have ta : z_Td x y Ra.2.2 := ht.x xa qa
    exact ⟨Ra, z_WR.get (fun Q hq => t140_49 (B := R.1) (M := R.2.1) (U := R.2.2) (z_ifn ht.n0 ⟨none, Ra, ra, rfl, eHt ta hq⟩)), ta, xa⟩
  · have h5a : Ra.2.2 41 7 = 5 := by
      rw [hRa]
      exact h5
    have h0a : Ra.2.2 41 11 = 0 := by
      rw [hRa]
      exact h0
    have h53 : Ra.2.2 41 53 = 0 := by
      rw [hRa]
      rfl
    obtain ⟨R1, a1, a2, a3⟩ := d151 (l := 17) (R := Ra) qa
    refine ⟨R1, z_WR.get (fun Q hq => t140_49 (B := R.1) (M := R.2.1) (U := R.2.2) (z_ifp h0 (z_ifn (by rw [h5]; decide) ⟨none, Ra, ra, rfl, ?_⟩))), a3, xa.tr a2.xR⟩
    refine t140_79 (B := Ra.1) (M := Ra.2.1) (U := Ra.2.2) (z_ifp h0a (z_ifn (by rw [h53]; decide) ?_))
    unfold p140_94
    refine z_ifp h53 (t160_0 (B := Ra.1) (M := Ra.2.1) (U := Ra.2.2) (z_ifp h5a ⟨none, R1, a1, rfl, z_ifn a3.1 ⟨rfl, eHt a3 hq⟩⟩))
/-- declarations, then the expression -/
theorem jdecl (h0u : R0.2.2 41 12 = -1) : ∀ (q i : Nat) (S : z_CS) (R : z_RS), i + q = 9 → z_Dl b n i S0 R0 S R → z_WC 331 47 36 [(0, .ref 131), (1, .int (nI i))] [] S (fun o S' => z_oj o (fun v => v = none ∧ ∃ R', z_Rr 20 140 49 [(0, .ref 148)] [] R none R' ∧ z_Rp b n S' R' ∧ z_XC S0 S' ∧ z_XR R0 R') (∃ x y R', z_Xd x y S0 S' ∧ z_Rr 20 140 49 [(0, .ref 148)] [] R none R' ∧ z_Td x y R'.2.2 ∧ z_XR R0 R')) := by
  intro q
  induction q with
  | zero =>
    intro i S R hi h
    obtain ⟨ep, j, t, τ, hJ, hD, -⟩ := h
    have := hD.1
    omega
  | succ q ih =>
    intro i S R hi h
    obtain ⟨ep, j, t, τ, hJ, hD, hTC, hTR, hB, hE, ⟨v6, v7, v24⟩, ⟨u26, u27, u52⟩, xc, xr⟩ := h
    have hr := hJ.2.2.2.2
    have h0 : R.2.2 41 11 = 0 := hJ.2.2.2.1
    have hW : S.2.2.2.2.1 = t.2.1 := hJ.2.1.2.2.2.1
    have hw : R.2.2 41 7 = z_wco t.2.1 := hJ.2.1.2.2.2.2.2.2.2.1
    have e9 : S.2.2.2.1 3 9 = nI t.1 := hJ.2.1.2.2.2.2.1
    have lj := hJ.len
    refine t47_36 (l := 330) (A := S.1) (E := S.2.1) (N := S.2.2.1) (V := S.2.2.2.1) (W := S.2.2.2.2.1) (c := S.2.2.2.2.2) (z_ifn (nI_nlt (a := 8) (b := i) (by have := hD.1; omega) (by decide)) ⟨by show S.2.2.2.2.1 < 37; rw [hW]; exact lj.2, ?_⟩)
    by_cases h20 : t.2.1 = 20
    · -- a declaration
      refine z_ifp (by rw [hW, h20]) ⟨hr.rm.1, ?_⟩
      have w300 : R.2.2 41 7 = 300 := by
        rw [hw, h20]
        rfl
      have refD : ∀ R1 R2, z_Rr 17 149 0 [(0, .ref 148)] [] R none R1 → z_Rr 20 140 49 [(0, .ref 148)] [] R1 none R2 → z_Rr 20 140 49 [(0, .ref 148)] [] R none R2 := fun R1 R2 a1 a2 => z_WR.get (fun Q hq => t140_49 (B := R.1) (M := R.2.1) (U := R.2.2) (z_ifp h0 (z_ifp w300 ⟨none, R1, a1.up (by decide), rfl, none, R2, a2, hq⟩)))
      obtain ⟨o, S1, k1, k2⟩ := j51 hJ (by omega) hD hTC hTR hE hB
      refine ⟨o, S1, k1.up (by decide), ?_⟩
      rcases o with v | e
      · obtain ⟨j', t', τ', ep', R1, rfl, J1, lj1, De1, TC1, TR1, inc1, Et1, xc1, xr1, ⟨df1, df2, df3⟩, run1⟩ := k2
        refine ⟨rfl, ?_⟩
        unfold p47_59
        rw [nI_1]
        refine (ih (i + 1) S1 R1 (by omega) ⟨ep', j', t', τ', J1, De1, TC1, TR1, ⟨by omega, by omega⟩, Et1, ⟨(df1 13 6 (by decide) (by decide) (by decide)).trans v6, (df1 13 7 (by decide) (by decide) (by decide)).trans v7, (df1 24 7 (by decide) (by decide) (by decide)).trans v24⟩, ⟨(df3 26 (by decide)).trans u26, (df3 27 (by decide)).trans u27, (df3 52 (by decide)).trans u52⟩, xc.tr xc1, xr.tr xr1⟩).im (fun o2 S2 h2 => ?_)
        rcases o2 with v2 | e2
        · obtain ⟨rfl, R2, a1, a2, a3, a4⟩ := h2
          exact ⟨rfl, R2, refD R1 R2 run1 a1, a2, a3, a4⟩
        · obtain ⟨rfl, x, y, R2, a1, a2, a3, a4⟩ := h2
          exact ⟨rfl, x, y, R2, a1, refD R1 R2 run1 a2, a3, a4⟩
      · obtain ⟨rfl, x, y, R1, a1, a2, a3, a4⟩ := k2
        obtain ⟨R2, g1, g2, g3⟩ := eD a3
        exact ⟨rfl, rfl, x, y, R2, a1.tr xc, refD R1 R2 a2 g1, g2, xr.tr (a4.tr g3)⟩
    -- the expression
    refine z_ifn (fun q => h20 (hW.symm.trans (Option.some.inj q))) ?_
    unfold p47_65
    rw [e9]
    refine ⟨hr.rm.1, ?_⟩
    obtain ⟨Ra, hRa⟩ : ∃ X, X = (R.1, R.2.1, z_v (z_v (z_v (z_v R.2.2 41 73 (-1)) 41 74 0) 41 75 (-1)) 41 53 0) := ⟨_, rfl⟩
    have ra : z_Rr 19 159 0 [(0, .ref 148), (1, .int (-1)), (2, .int 0)] [] R none Ra := by
      rw [hRa]
      exact r159
    have xa : z_XR R Ra := by
      rw [hRa]
      exact z_XR_U z_ak
    have refE : ∀ R2, (∀ Q : Option Value → z_RS → Prop, Q none R2 → z_Hq Q Ra) → z_Rr 20 140 49 [(0, .ref 148)] [] R none R2 := fun R2 a1 => z_WR.get (fun Q hq => t140_49 (B := R.1) (M := R.2.1) (U := R.2.2) (z_ifp h0 (z_ifn (by rw [hw]; exact z_wco_n (i := 20) lj.2 (by decide) h20) ⟨none, Ra, ra, rfl, a1 Q hq⟩)))
    have P0 : z_P b n i ep j t τ 0 0 0 0 S R := ⟨hJ, hD, ⟨hTC, hTR, hE⟩, ⟨by show 2 * τ.1.2 + 2 * 0 ≤ _; omega, by show 2 * τ.2.2 + 2 * 0 ≤ _; omega⟩, ⟨v6, fun _ _ _ => Nat.zero_le _⟩, ⟨v7, u26, by decide⟩, u27, v24⟩
    have Pa0 : z_P b n i ep j t τ 0 0 0 0 S Ra := by
      rw [hRa]
      exact P0.ref (fun _ _ => rfl) (fun q hq => by show z_v (z_v (z_v (z_v R.2.2 41 73 (-1)) 41 74 0) 41 75 (-1)) 41 53 0 41 q = _; rw [z_vn (by omega), z_vn (by omega), z_vn (by omega), z_vn (by omega)])
    have qa : z_Aq 0 Ra := by
      rw [hRa]
      exact z_Aq_i (R := R) ⟨u52, by decide, ⟨0, by decide, u26⟩, fun q hq => absurd hq (by omega)⟩ (Or.inl rfl) (fun _ => rfl) ⟨0, by decide, by decide, rfl⟩
    obtain ⟨o5, S5, f1, f2⟩ := jIh (b := b) (n := n) (me := i) (ep := ep) 50 0 rfl S Ra j t τ 0 0 0 0 Pa0 qa ⟨by omega, by omega, by omega⟩
    refine ⟨o5, S5, f1, ?_⟩
    rcases o5 with v5 | e5
    case inr =>
      obtain ⟨rfl, x, y, g1, g2⟩ := f2
      obtain ⟨v', R2, a1, ⟨hv', a2⟩, a3⟩ := g2 (fun v R' => v = none ∧ z_Td x y R'.2.2 ∧ z_XR Ra R') (fun R' a c => ⟨rfl, a, c⟩) |> fun h : z_Hq _ Ra => (show ∃ v' R2, z_Rr 20 140 79 [(0, .ref 148)] [] Ra v' R2 ∧ (v' = none ∧ z_Td x y R2.2.2) ∧ z_XR Ra R2 from by
        obtain ⟨v', R2, h1, h2, h3, h4⟩ := h
        exact ⟨v', R2, h1, ⟨h2, h3⟩, h4⟩)
      subst hv'
      exact ⟨rfl, rfl, x, y, R2, g1.tr xc, refE R2 (fun Q hq => ⟨none, R2, a1, hq⟩), a2, xr.tr (xa.tr a3)⟩
    obtain ⟨rfl, R5, j5, t5, τ5, s5, nn5, kk5, f5, m5, P5, Z5, ⟨M5, E5, A5⟩, C5, ⟨b80, -, -, -⟩, te5, fc5, fr5, ⟨l1, l2, l3, l4, l5⟩, ref5⟩ := f2
    have lj5 := P5.1.len
    refine ⟨rfl, ?_⟩
    have h05 : R5.2.2 41 11 = 0 := P5.1.2.2.2.1
    have hW5 : S5.2.2.2.2.1 = t5.2.1 := P5.1.2.1.2.2.2.1
    have hw5 : R5.2.2 41 7 = z_wco t5.2.1 := P5.1.2.1.2.2.2.2.2.2.2.1
    have e85 : R5.2.2 41 8 = nI t5.1 := P5.1.2.1.2.2.2.2.2.2.1
    have e95 : S5.2.2.2.1 3 9 = nI t5.1 := P5.1.2.1.2.2.2.2.1
    have u73 : Ra.2.2 41 73 = -1 := by
      rw [hRa]
      rfl
    have xA : z_XR R0 R5 := xr.tr (xa.tr fr5.1)
    have xcA : z_XC S0 S5 := xc.tr fc5.1
    obtain ⟨R6, hR6⟩ : ∃ X, X = (R5.1, R5.2.1, z_v (z_v (z_v R5.2.2 41 52 (nI 0)) 41 28 (nI m5)) 41 53 4) := ⟨_, rfl⟩
    have x56 : z_XR R5 R6 := by
      rw [hR6]
      exact z_XR_U (fun k' j' q => by rw [z_vn (by omega), z_vn (by omega), z_vn (by omega)])
    have refC : ∀ R7, (R5.2.2 41 7 = 0 → R7 = R6) → (¬ R5.2.2 41 7 = 0 → z_Rr 18 151 0 [(0, .ref 148)] [] R6 none R7) → (∀ Q : Option Value → z_RS → Prop, Q none R7 → z_Hq Q R7) → z_Rr 20 140 49 [(0, .ref 148)] [] R none R7 := by
      intro R7 a1 a2 a3
      refine refE R7 (fun Q hq => ref5 Q ?_)
      refine t140_79 (B := R5.1) (M := R5.2.1) (U := R5.2.2) (z_ifp h05 (z_ifn (by rw [M5]; decide) ?_))
      unfold p140_94
      refine z_ifn (by rw [M5]; decide) (z_ifn (by rw [M5]; decide) (z_ifn (by rw [M5]; decide) (t178_0 ?_)))
      have e1 : R5.2.2 41 52 - 1 = nI 0 := by
        rw [Z5.1]
        exact nI_pred 0
      unfold p178_0
      rw [e1, nI_clamp (by omega), b80, u73]
      refine ⟨z_inI (by omega) (by decide), z_ifp (by decide) (z_ifp rfl ?_)⟩
      have q54 : z_v R5.2.2 41 52 (nI 0) 41 54 = nI m5 := E5
      unfold p178_45
      rw [q54]
      by_cases e0 : R5.2.2 41 7 = 0
      · have e7 := a1 e0
        subst e7
        refine z_ifp e0 ?_
        show none = none ∧ z_Hq Q _
        refine ⟨rfl, ?_⟩
        have := a3 Q hq
        rw [hR6] at this
        exact this
      · refine z_ifn e0 ⟨none, R7, ?_, rfl, rfl, a3 Q hq⟩
        have := a2 e0
        rw [hR6] at this
        exact this
    have cv5 : z_cv 37 (.ref S5.2.2.2.2.1) := by
      show S5.2.2.2.2.1 < 37
      rw [hW5]
      exact lj5.2
    refine ⟨cv5, ?_⟩
    by_cases c0 : t5.2.1 = 0
    · refine z_ifp (by rw [hW5, c0]) ⟨P5.1.2.2.2.2.rm.1, ?_⟩
      obtain ⟨S7, z1, P7, z3, z4, -, -⟩ := Pa (o := 27) (a1 := 0) (a2 := 0) (f := nI t.1) P5 (by omega)
      refine ⟨.inl (some (.int (nI s5))), S7, z1.up (by decide), nI s5, rfl, rfl, ?_⟩
      have w0 : R5.2.2 41 7 = 0 := by
        rw [hw5, c0]
        rfl
      have h06 : R6.2.2 41 11 = 0 := by
        rw [hR6]
        exact h05
      have P8 : z_P b n i ep j5 t5 τ5 (s5 + 1) nn5 kk5 0 S7 R6 := by
        rw [hR6]
        exact P7.ref (fun _ _ => rfl) (fun q hq => by show z_v (z_v (z_v R5.2.2 41 52 (nI 0)) 41 28 (nI m5)) 41 53 4 41 q = _; rw [z_vn (by omega), z_vn (by omega), z_vn (by omega)])
      have T5 := P5.2.2.1
      have x6 : z_XR R0 R6 := xA.tr x56
      refine ⟨R6, refC R6 (fun _ => rfl) (fun e => absurd w0 e) (fun Q hq => t140_79 (B := R6.1) (M := R6.2.1) (U := R6.2.2) (z_ifp h06 (z_ifp (by rw [hR6]; rfl) hq))), ⟨i, ep, j5, t5, τ5, s5, nn5, kk5, f5, m5, nI t.1, P8, ?_, z4.1, by rw [hR6]; rfl, ((x6.2.2.2 h06).2).trans h0u, by omega, by omega, z4.2.1⟩, xcA.tr z3.1, x6⟩
      exact C5.mv (S' := S7) (R' := R6) (f' := f5) (u' := ((0, nn5), (0, kk5))) (Nat.le_refl _) z3.cs (z_Nr.Be (by rw [hR6])) T5.1.1 T5.2.1.1 z_Te.rf ⟨⟨Nat.le_refl _, Nat.le_refl _⟩, ⟨Nat.le_refl _, Nat.le_refl _⟩⟩
    · refine z_ifn (fun q => c0 (hW5.symm.trans (Option.some.inj q))) ⟨P5.1.2.2.2.2.rm.1, ?_⟩
      obtain ⟨S7, a1, a2⟩ := c52 (S := S5) (l := 328) P5.1.2.2.2.2 P5.1.w
      have w0 : ¬ R5.2.2 41 7 = 0 := by
        rw [hw5]
        exact z_wco_n (i := 0) lj5.2 (by decide) c0
      have n5 : ¬ R6.2.2 41 7 = 5 := by
        have e : R6.2.2 41 7 = R5.2.2 41 7 := by
          rw [hR6]
          rfl
        rw [e, hw5]
        exact fun q => P5.1.2.2.1 ((z_wco_5 _ lj5.2).mp q)
      have h06 : R6.2.2 41 11 = 0 := by
        rw [hR6]
        exact h05
      have e86 : R6.2.2 41 8 = nI t5.1 := by
        rw [hR6]
        exact e85
      have td : z_Td 1 (nI t5.1) (z_UF R6.2.2 1 (R6.2.2 41 8)) := by
        rw [e86]
        exact z_Td_F (by decide)
      refine ⟨.inr 10, S7, a1, rfl, rfl, 1, nI t5.1, (R6.1, R6.2.1, z_UF R6.2.2 1 (R6.2.2 41 8)), ?_, refC _ (fun e => absurd e w0) (fun _ => f151 (l := 17) h06 n5) (fun Q hq => eHt td hq), td, xA.tr (x56.tr (z_Lw_F (by decide)).xR)⟩
      rw [← e95]
      exact a2.tr xcA
/-- both read the whole text -/
theorem j47 (hT : z_Jt b n S.2.1 S.1 R.1 R.2.2) (h36 : S.2.2.2.1 3 6 = nI (z_ts b n).length) (hr : z_Rk S.2.2.1 S.2.2.2.2.2) : ∃ o S', z_Cr 331 47 0 [(0, .ref 131)] [] S o S' ∧ z_oj o (fun v => v = none ∧ ∃ R', z_Rr 20 140 0 [(0, .ref 148)] [] R none R' ∧ z_Rp b n S' R' ∧ z_XC S S' ∧ z_Xq R R') (∃ x y R', z_Xd x y S S' ∧ z_Rr 20 140 0 [(0, .ref 148)] [] R none R' ∧ z_Td x y R'.2.2 ∧ z_Xq R R') := by
  obtain ⟨R0, hR0⟩ : ∃ X, X = (R.1, R.2.1, (z_v (z_v (z_v (z_v (z_v (z_v (z_v (z_v (z_v R.2.2 41 8 (0)) 41 9 (0)) 41 11 (0)) 41 12 ((-1))) 41 26 (0)) 41 27 (0)) 41 19 (0)) 41 13 (3)) 41 52 (0))) := ⟨_, rfl⟩
  have xq0 : z_Xq R R0 := by
    rw [hR0]
    exact ⟨fun _ _ => rfl, rfl, fun k j q => by
      show (z_v (z_v (z_v (z_v (z_v (z_v (z_v (z_v (z_v R.2.2 41 8 (0)) 41 9 (0)) 41 11 (0)) 41 12 ((-1))) 41 26 (0)) 41 27 (0)) 41 19 (0)) 41 13 (3)) 41 52 (0)) k j = _
      rw [z_vn (by omega), z_vn (by omega), z_vn (by omega), z_vn (by omega), z_vn (by omega), z_vn (by omega), z_vn (by omega), z_vn (by omega), z_vn (by omega)]⟩
  have ref0 : ∀ R1 R2, z_Rr 14 141 0 [(0, .ref 148)] [] R0 none R1 → z_Rr 20 140 49 [(0, .ref 148)] [] R1 none R2 → z_Rr 20 140 0 [(0, .ref 148)] [] R none R2 := by
    intro R1 R2 a1 a2
    refine z_WR.get (fun Q hq => t140_0 (B := R.1) (M := R.2.1) (U := R.2.2) ?_)
    unfold p140_0
    rw [← hR0]
    exact ⟨none, R1, a1.up (by decide), rfl, none, R2, a2, hq⟩
  obtain ⟨S1, hS1⟩ : ∃ X : z_CS, X = (S.1, S.2.1, S.2.2.1, (z_v (z_v (z_v (z_v (z_v S.2.2.2.1 13 6 (0)) 13 7 (0)) 13 8 (2)) 13 9 (0)) 13 10 (0)), S.2.2.2.2.1, S.2.2.2.2.2) := ⟨_, rfl⟩
  obtain ⟨S2, hS2⟩ : ∃ X : z_CS, X = ((z_u S1.1 12 ((2, 1) :: (1, 1) :: (0, 1) :: S1.1 12)), S1.2.1, S1.2.2.1, (z_v S1.2.2.2.1 8 4 (3)), S1.2.2.2.2.1, S1.2.2.2.2.2) := ⟨_, rfl⟩
  obtain ⟨S3, hS3⟩ : ∃ X : z_CS, X = (S2.1, S2.2.1, S2.2.2.1, (z_v (z_v S2.2.2.2.1 20 3 (0)) 24 7 (0)), S2.2.2.2.2.1, S2.2.2.2.2.2) := ⟨_, rfl⟩
  have c1 : z_Cr 330 8 0 [(0, .ref 120)] [] S (.inl none) S1 := z_WC.get (fun Q hq => t8_0 (l := 329) (A := S.1) (E := S.2.1) (N := S.2.2.1) (V := S.2.2.2.1) (W := S.2.2.2.2.1) (c := S.2.2.2.2.2) (by rw [hS1] at hq; exact hq))
  have N12 : 64 ≤ S.2.2.1 12 := (hr.1 12 rfl).1
  have N12' : S.2.2.1 12 < 2 ^ 31 := by
    have := (hr.1 12 rfl).2
    have := z_mxl_b 12
    omega
  have eN1 : S1.2.2.1 = S.2.2.1 := by rw [hS1]
  have c2 : z_Cr 330 6 0 [(0, .ref 115)] [] S1 (.inl none) S2 := z_WC.get (fun Q hq => t6_0 (l := 329) (A := S1.1) (E := S1.2.1) (N := S1.2.2.1) (V := S1.2.2.2.1) (W := S1.2.2.2.2.1) (c := S1.2.2.2.2.2) (by
    rw [hS2] at hq
    rw [eN1] at hq
    unfold p6_0
    rw [eN1]
    exact ⟨z_inI (n := 0) (by omega) N12', z_inI (n := 1) (by omega) N12', z_inI (n := 2) (by omega) N12', hq⟩))
  have A3 : S3.1 = z_u S.1 12 ((2, 1) :: (1, 1) :: (0, 1) :: S.1 12) := by rw [hS3, hS2, hS1]
  have E3 : S3.2.1 = S.2.1 := by rw [hS3, hS2, hS1]
  have N3 : S3.2.2.1 = S.2.2.1 := by rw [hS3, hS2, hS1]
  have K3 : S3.2.2.2.2.2 = S.2.2.2.2.2 := by rw [hS3, hS2, hS1]
  have V3 : S3.2.2.2.1 = z_v (z_v (z_v (z_v (z_v (z_v (z_v (z_v S.2.2.2.1 13 6 (0)) 13 7 (0)) 13 8 (2)) 13 9 (0)) 13 10 (0)) 8 4 3) 20 3 0) 24 7 0 := by rw [hS3, hS2, hS1]
  have hr3 : z_Rk S3.2.2.1 S3.2.2.2.2.2 := by
    rw [N3, K3]
    exact hr
  have xc3 : z_XC S S3 := by
    refine ⟨fun k q => ?_, E3, fun k _ => by rw [N3], fun k j q => ?_, by rw [N3, K3]; exact z_Gw.rf⟩
    · rw [A3]
      exact z_rdA_u rfl q
    · rw [V3]
      rw [z_rdV_v rfl q, z_rdV_v rfl q, z_rdV_v rfl q, z_rdV_v rfl q, z_rdV_v rfl q, z_rdV_v rfl q, z_rdV_v rfl q, z_rdV_v rfl q]
  have hT3 : z_Jt b n S3.2.1 S3.1 R0.1 R0.2.2 := by
    obtain ⟨q1, q2, q3, q4, q5, q6⟩ := hT
    refine ⟨q1, q2, ?_, ?_, ?_, ?_⟩
    · rw [E3, A3, z_un (by decide), z_un (by decide)]
      exact q3
    · rw [hR0]
      exact q4
    · rw [hR0]
      exact q5
    · rw [hR0]
      exact q6
  obtain ⟨t', R1, a1, a2, a3⟩ := jfirst (S := S3) (R := R0) hT3 (by rw [V3]; exact h36) (by rw [hR0]; rfl) (by rw [hR0]; rfl) (by rw [hR0]; rfl) hr3
  have go : z_WC 331 47 0 [(0, .ref 131)] [] S (fun o S' => z_oj o (fun v => v = none ∧ ∃ R', z_Rr 20 140 0 [(0, .ref 148)] [] R none R' ∧ z_Rp b n S' R' ∧ z_XC S S' ∧ z_Xq R R') (∃ x y R', z_Xd x y S S' ∧ z_Rr 20 140 0 [(0, .ref 148)] [] R none R' ∧ z_Td x y R'.2.2 ∧ z_Xq R R')) := by
    refine t47_0 (l := 330) (A := S.1) (E := S.2.1) (N := S.2.2.1) (V := S.2.2.2.1) (W := S.2.2.2.2.1) (c := S.2.2.2.2.2) ⟨hr.rm.1, .inl none, S1, c1, rfl, ?_⟩
    have hr1 : z_Rm ([], S1.2.2.2.2.2) := by
      rw [hS1]
      exact hr.rm.1
    refine ⟨hr1, .inl none, S2, c2, rfl, ?_⟩
    unfold p47_14
    rw [← hS3]
    have hr2 : z_Rm ([], S2.2.2.2.2.2) := by
      rw [hS2, hS1]
      exact hr.rm.1
    refine ⟨hr2, ?_⟩
    rcases a3 with ⟨S4, b1, b2, b3⟩ | ⟨S4, b1, b2, b3⟩
    · refine ⟨.inl none, S4, b1.up (by decide), rfl, ?_⟩
      have V4 : ∀ k j, ¬ (k = 3 ∧ 7 ≤ j ∧ j ≤ 10) → S4.2.2.2.1 k j = S3.2.2.2.1 k j := b2.2.2.2.1
      have U1 : ∀ j, 13 ≤ j → R1.2.2 41 j = R0.2.2 41 j := fun j hj => a2.2.2.1 41 j (by omega)
      have dl : z_Dl b n 0 S3 R0 S4 R1 := by
        refine ⟨fun _ => 0, 0, t', ((fun _ => (0, 0, 0), 3), (fun _ => (0, 0, 0), 3)), b3, ⟨by decide, ?_, ?_, fun i hi => absurd hi (by omega)⟩, ⟨z_Tw_0 _, ⟨by decide, fun i h1 h2 => absurd (show i < 3 from h2) (by omega)⟩, ?_, ?_, fun i hi => ?_, fun i h1 h2 => absurd (show i < 3 from h2) (by omega)⟩, ⟨z_Tw_0 _, by decide, ?_, fun i h1 h2 => absurd (show i < 3 from h2) (by omega)⟩, ⟨by decide, by decide⟩, fun i hi => absurd hi (by omega), ⟨?_, ?_, ?_⟩, ⟨?_, ?_, ?_⟩, b2.xc, a2.xR⟩
        · rw [V4 20 3 (by decide), V3]; rfl
        · rw [U1 19 (by decide), hR0]; rfl
        · rw [V4 8 4 (by decide), V3]; rfl
        · rw [b2.2.2.1, N3]
          have q9 := (hr.1 9 rfl).1
          have q10 := (hr.1 10 rfl).1
          have q11 := (hr.1 11 rfl).1
          have q12 := (hr.1 12 rfl).1
          exact ⟨Nat.le_trans (by decide) q9, Nat.le_trans (by decide) q10, Nat.le_trans (by decide) q11, Nat.le_trans (by decide) q12⟩
        · have hi : i < 3 := hi
          rw [b2.1, A3, z_uk, z_dt_lo hi]
          have : i = 0 ∨ i = 1 ∨ i = 2 := by omega
          rcases this with rfl | rfl | rfl <;> rfl
        · rw [U1 13 (by decide), hR0]; rfl
        · rw [V4 13 6 (by decide), V3]; rfl
        · rw [V4 13 7 (by decide), V3]; rfl
        · rw [V4 24 7 (by decide), V3]; rfl
        · rw [U1 26 (by decide), hR0]; rfl
        · rw [U1 27 (by decide), hR0]; rfl
        · rw [U1 52 (by decide), hR0]; rfl
      refine (jdecl (S0 := S3) (R0 := R0) (by rw [hR0]; rfl) 9 0 S4 R1 rfl dl).im (fun o S' ho => ?_)
      rcases o with v | e
      · obtain ⟨rfl, R2, d1, d2, d3, d4⟩ := ho
        exact ⟨rfl, R2, ref0 R1 R2 a1 d1, d2, xc3.tr d3, d4.xq xq0⟩
      · obtain ⟨rfl, x, y, R2, d1, d2, d3, d4⟩ := ho
        exact ⟨rfl, x, y, R2, d1.tr xc3, ref0 R1 R2 a1 d2, d3, d4.xq xq0⟩
    · obtain ⟨R2, d1, d2, d3⟩ := eD b3.q
      exact ⟨.inr 10, S4, b1.up (by decide), rfl, rfl, 2, nI t'.1, R2, b2.tr xc3, ref0 R1 R2 a1 d1, d2, (a2.xR.tr d3).xq xq0⟩
  obtain ⟨o, S', g1, g2⟩ := go
  exact ⟨o, S', g1, g2⟩
end ZZH
