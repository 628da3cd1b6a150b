/-! Reading programs, both together: a node of two parts. -/
section ZY9
variable {b : Nat → Nat} {n me : Nat} {ep : Nat → Nat} {j : Nat} {t : Nat × Nat × Int32} {τ : z_TT} {s nn kk w d : Nat} {S : z_CS} {R : z_RS}
theorem Pno {kd a1 a2 a3 a4 : Int32} (h : z_P b n me ep j t τ s nn kk w S R) (hz : z_Zd d R) : (∃ S' R', nn < 600 ∧ z_Cr 14 65 0 [(0, .ref 131)] [] S (.inl none) S' ∧ z_Rr 15 172 0 [(0, .ref 148), (1, .int kd), (2, .int a1), (3, .int a2), (4, .int a3), (5, .int a4)] [] R (some (.int (nI nn))) R' ∧ z_P b n me ep j t τ s (nn + 1) kk w S' R' ∧ z_Zd d R' ∧ S'.1 = S.1 ∧ (z_fn 0 (R'.1 57) nn = kd ∧ z_fn 0 (R'.1 58) nn = a1 ∧ z_fn 0 (R'.1 61) nn = a2 ∧ z_fn 0 (R'.1 59) nn = a3 ∧ z_fn 0 (R'.1 62) nn = a4) ∧ (∀ i, ¬ i = 26 → R'.2.2 41 i = R.2.2 41 i) ∧ z_FC s w S S' ∧ z_FR nn kk 50 R R' ∧ (∀ k, 80 ≤ k → k ≤ 97 → R'.1 k = R.1 k)) ∨ (∃ S' R', z_Cr 14 65 0 [(0, .ref 131)] [] S (.inr 10) S' ∧ z_Xd 4 (nI t.1) S S' ∧ z_Rr 15 172 0 [(0, .ref 148), (1, .int kd), (2, .int a1), (3, .int a2), (4, .int a3), (5, .int a4)] [] R (some (.int 0)) R' ∧ z_Td 4 (nI t.1) R'.2.2 ∧ z_Lw R R') := by
  rcases Pk (k := kd) h with ⟨S', R1, c1, c2, P1, c4, c5, c6, c7, c8⟩ | ⟨S', R1, c1, c2, c3, c4, c5⟩
  case inr =>
    exact Or.inr ⟨S', R1, c1, c2, z_WR.get (fun Q hq => t172_0 (B := R.1) (M := R.2.1) (U := R.2.2) ⟨_, R1, c3, _, rfl, z_ifn c4.1 hq⟩), c4, c5⟩
  have n600 : nn < 600 := by
    have := P1.2.2.2.2.2.1.2.2
    omega
  obtain ⟨zi, zc⟩ := z_o6_in n600
  have h0 : R1.2.2 41 11 = 0 := P1.1.2.2.2.1
  obtain ⟨R2, hR2⟩ : ∃ X, X = (z_u (z_u (z_u (z_u R1.1 58 ((nn, a1) :: R1.1 58)) 61 ((nn, a2) :: R1.1 61)) 59 ((nn, a3) :: R1.1 59)) 62 ((nn, a4) :: R1.1 62), R1.2.1, R1.2.2) := ⟨_, rfl⟩
  have B2 : R2.1 = z_u (z_u (z_u (z_u R1.1 58 ((nn, a1) :: R1.1 58)) 61 ((nn, a2) :: R1.1 61)) 59 ((nn, a3) :: R1.1 59)) 62 ((nn, a4) :: R1.1 62) := by rw [hR2]
  have U2 : R2.2 = R1.2 := by rw [hR2]
  have oth : ∀ k, ¬ (58 ≤ k ∧ k ≤ 62) → R2.1 k = R1.1 k := fun k hk => by rw [B2, z_un (by omega), z_un (by omega), z_un (by omega), z_un (by omega)]
  have oti : ∀ k i, i ≠ nn → z_fn 0 (R2.1 k) i = z_fn 0 (R1.1 k) i := by
    intro k i hi
    rw [B2]
    by_cases e1 : k = 62
    · subst e1
      rw [z_uk, z_fcn hi]
    rw [z_un e1]
    by_cases e2 : k = 59
    · subst e2
      rw [z_uk, z_fcn hi]
    rw [z_un e2]
    by_cases e3 : k = 61
    · subst e3
      rw [z_uk, z_fcn hi]
    rw [z_un e3]
    by_cases e4 : k = 58
    · subst e4
      rw [z_uk, z_fcn hi]
    rw [z_un e4]
  have x12 : z_XR R1 R2 := by
    rw [hR2]
    exact z_XR_B (fun q r => by rw [z_un (by omega), z_un (by omega), z_un (by omega), z_un (by omega)])
  have P2 : z_P b n me ep j t τ s (nn + 1) kk w S' R2 := P1.ref (fun q r => oth q (by omega)) (fun i _ => by rw [U2])
  have Z1 : z_Zd d R1 := by
    refine ⟨(c6 52 (by decide)).trans hz.1, hz.2.1, ⟨nn + 1, by omega, P1.2.2.2.2.2.1.2.1⟩, fun i hi => ?_⟩
    rw [c5, z_un (by decide), z_un (by decide), z_un (by decide), z_un (by decide), z_un (by decide), z_un (by decide)]
    exact hz.2.2.2 i hi
  have Z2 : z_Zd d R2 := Z1.cg (oth 80 (by decide)) (oth 81 (by decide)) (oth 95 (by decide)) (by rw [U2]) (by rw [U2])
  refine Or.inl ⟨S', R2, n600, c1, z_WR.get (fun Q hq => t172_0 (B := R.1) (M := R.2.1) (U := R.2.2) ⟨_, R1, c2, _, rfl, z_ifp (by rw [h0]; decide) ?_⟩), P2, Z2, c4, ⟨?_, ?_, ?_, ?_, ?_⟩, fun i hi => by rw [U2]; exact c6 i hi, c7, c8.tr ⟨x12, fun q a i c => oti q i (by omega), fun q a b' i c => by rw [oth q (by omega)], fun q a b' i c => by rw [oth q (by omega)]⟩ (Nat.le_refl _) (Nat.le_refl _) (Nat.le_refl _), fun k a c => ?_⟩
  · unfold p172_16
    rw [zc, ← hR2]
    exact ⟨zi, zi, zi, zi, hq⟩
  · rw [oth 57 (by decide), c5, z_un (by decide), z_uk, z_fcs]
  · rw [B2, z_un (by decide), z_un (by decide), z_un (by decide), z_uk, z_fcs]
  · rw [B2, z_un (by decide), z_un (by decide), z_uk, z_fcs]
  · rw [B2, z_un (by decide), z_uk, z_fcs]
  · rw [B2, z_uk, z_fcs]
  · rw [oth k (by omega), c5, z_un (by omega), z_un (by omega)]
/-- a further operand of a call -/
theorem r171b {v p a1 a2 : Int32} {m : Nat} {R' : z_RS} (hd : d < 50) (h0 : R.2.2 41 11 = 0) (h95 : z_fn 0 (R.1 95) d = -1) (h93 : z_fn 0 (R.1 93) d = a1) (h94 : z_fn 0 (R.1 94) d = a2) (ha : ¬ a1 < 0) (hc : z_Rr 15 172 0 [(0, .ref 148), (1, .int 10), (2, .int a1), (3, .int a2), (4, .int v), (5, .int p)] [] (R.1, R.2.1, z_v R.2.2 41 53 2) (some (.int (nI m))) R') : z_Rr 16 171 0 [(0, .ref 148), (1, .int (nI d)), (2, .int v), (3, .int p)] [] R none (z_u R'.1 93 ((d, nI m) :: R'.1 93), R'.2.1, R'.2.2) := by
  obtain ⟨zi, zc⟩ := z_i50 (d := d + 1) (i := d) (by omega) (Nat.lt_succ_self d)
  refine z_WR.get (fun Q hq => t171_0 (B := R.1) (M := R.2.1) (U := R.2.2) (z_ifp (by rw [h0]; decide) ?_))
  unfold p171_8
  rw [zc, h95]
  refine ⟨zi, z_ifp (by decide) ?_⟩
  unfold p171_63
  rw [zc, h93]
  refine ⟨zi, z_ifn ha ?_⟩
  unfold p171_72
  rw [zc, h93, h94]
  refine ⟨zi, zi, _, R', hc, nI m, rfl, ?_⟩
  unfold p171_97
  rw [zc]
  exact ⟨zi, hq⟩
end ZY9
