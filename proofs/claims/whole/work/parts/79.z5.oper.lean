/-! Reading programs, both together: operators. -/
theorem z_Td.x {x y : Int32} {R R' : z_RS} (h : z_Td x y R.2.2) (hx : z_XR R R') (hq : z_Qd x y R'.2.2) : z_Td x y R'.2.2 := by
  rcases hq with q | ⟨-, q, -⟩
  · exact q
  · exact absurd (hx.2.2.2 q).1 h.n0
section ZZ5
variable {b : Nat → Nat} {n me : Nat} {ep : Nat → Nat} {j j0 : Nat} {t : Nat × Nat × Int32} {τ0 : z_TT} {d i k s0 nn0 kk0 w0 r m p p0 l : Nat} {S S0 : z_CS} {R R0 : z_RS} {G : (Option Value → z_RS → Prop) → Prop}
/-- may an operator stand here -/
theorem c78 (h : z_Hr b n me ep d j0 τ0 s0 nn0 kk0 w0 S0 R0 p0 3 j t i m p S R) (hw : w0 ≤ 3 * d) : ∃ v, z_Cr (l + 2) 78 0 [(0, .ref 131), (1, .int (nI w0))] [] S (.inl (some (.int v))) S ∧ ((v = 0 ∧ (z_opr t.2.1 = -1 ∨ (z_rnk (z_opr t.2.1) = 0 ∧ ¬ z_fn 0 (R.1 85) d < 0))) ∨ (v = 1 ∧ ¬ z_opr t.2.1 = -1 ∧ (z_rnk (z_opr t.2.1) = 0 → z_fn 0 (R.1 85) d = -1))) := by
  obtain ⟨τ, s, nn, kk, f, s3, q3, hp, hz, hC, ⟨i2, s2, q2, ⟨i1, s1, q1, ⟨i0, si0, qi0, ⟨e1, e2, e3⟩, k0⟩, k1⟩, k2⟩, -⟩ := h
  subst e1
  have hv : S.2.2.2.1 24 7 = nI i := hp.2.2.2.2.2.2.2
  have hr := hp.1.2.2.2.2
  have hW : S.2.2.2.2.1 = t.2.1 := hp.1.2.1.2.2.2.1
  have lj := hp.1.len
  have d50 := hz.2.1
  have l0 := k0.le (S := S) (R := R)
  have l1 := k1.le (S := S) (R := R)
  have l2 := k2.le (S := S) (R := R)
  have F : (z_fn 0 (R.1 85) d = -1 ∧ (i = i0 ∨ (i0 < i ∧ ¬ z_rnk (z_fn 0 (S.1 25) i0) = 0))) ∨ (¬ z_fn 0 (R.1 85) d < 0 ∧ i0 < i ∧ z_rnk (z_fn 0 (S.1 25) i0) = 0) := by
    rcases k0 with ⟨a1, a2, a2', a3⟩ | ⟨a1, o, m1, p1, a2, a3, a4, a5, -⟩
    · subst a1
      refine Or.inl ⟨a3, ?_⟩
      rcases k1 with ⟨b1, b2, b2', b3⟩ | ⟨b1, o, m1, p1, b2, b3, -⟩
      · subst b1
        rcases k2 with ⟨c1, c2, c2', c3⟩ | ⟨c1, o, m1, p1, c2, c3, -⟩
        · exact Or.inl c1
        · refine Or.inr ⟨by omega, ?_⟩
          rw [c3, c2.2.2]
          decide
      · refine Or.inr ⟨by omega, ?_⟩
        rw [b3, b2.2.2]
        decide
    · refine Or.inr ⟨?_, by omega, by rw [a3, a2.2.2]; rfl⟩
      have a5 : z_fn 0 (R.1 85) d = nI (o - 4) := a5.resolve_left (by decide)
      rw [a5]
      exact nI_pos (by omega)
  have get : ∀ v, (∀ Q : z_V → z_CS → Prop, Q (.inl (some (.int v))) S → p78_4 (l + 1) S.1 S.2.1 S.2.2.1 S.2.2.2.1 S.2.2.2.2.1 S.2.2.2.2.2 (nI i0) (z_opr t.2.1) Q) → z_Cr (l + 2) 78 0 [(0, .ref 131), (1, .int (nI i0))] [] S (.inl (some (.int v))) S := fun v h => z_WC.get (fun Q hq => t78_0 (A := S.1) (E := S.2.1) (N := S.2.2.1) (V := S.2.2.2.1) (W := S.2.2.2.2.1) (c := S.2.2.2.2.2) ⟨hr.rm.1, _, S, c79 hW lj.2 hr, _, rfl, h Q hq⟩)
  by_cases ho : z_opr t.2.1 = -1
  · exact ⟨0, get 0 (fun Q hq => z_ifp ho hq), Or.inl ⟨rfl, Or.inl ho⟩⟩
  rcases F with ⟨f1, f2⟩ | ⟨f1, f2, f3⟩
  · refine ⟨1, get 1 (fun Q hq => z_ifn ho ?_), Or.inr ⟨rfl, ho, fun _ => f1⟩⟩
    have y1 : p78_36 (l + 1) S.1 S.2.1 S.2.2.1 S.2.2.2.1 S.2.2.2.2.1 S.2.2.2.2.2 (nI i0) (z_opr t.2.1) Q := by
      unfold p78_36 p78_37
      exact z_ifp rfl ⟨Or.inr rfl, hq⟩
    unfold p78_12
    rw [hv]
    rcases f2 with f2 | ⟨f2, f3⟩
    · exact z_ifp (nI_le (by omega) (by omega)) y1
    · refine z_ifn (nI_ge (by omega) (by omega)) ?_
      unfold p78_20
      rw [nI_clamp (by omega)]
      exact ⟨z_inI (by omega) (by decide), hr.rm.1, _, S, c80, _, rfl, z_ifn f3 y1⟩
  · have pre : ∀ v (Q : z_V → z_CS → Prop), p78_42 (l + 1) S.1 S.2.1 S.2.2.1 S.2.2.2.1 S.2.2.2.2.1 S.2.2.2.2.2 (nI i0) (z_opr t.2.1) v Q → v = 1 → p78_4 (l + 1) S.1 S.2.1 S.2.2.1 S.2.2.2.1 S.2.2.2.2.1 S.2.2.2.2.2 (nI i0) (z_opr t.2.1) Q := by
      intro v Q h hv1
      subst hv1
      have y2 : p78_32 (l + 1) S.1 S.2.1 S.2.2.1 S.2.2.2.1 S.2.2.2.2.1 S.2.2.2.2.2 (nI i0) (z_opr t.2.1) Q := by
        unfold p78_32 p78_37
        exact z_ifn (by decide) h
      refine z_ifn ho ?_
      unfold p78_12
      rw [hv]
      refine z_ifn (nI_ge (by omega) (by omega)) ?_
      unfold p78_20
      rw [nI_clamp (by omega)]
      exact ⟨z_inI (by omega) (by decide), hr.rm.1, _, S, c80, _, rfl, z_ifp f3 y2⟩
    by_cases hk : z_rnk (z_opr t.2.1) = 0
    · refine ⟨0, get 0 (fun Q hq => pre 1 Q ⟨hr.rm.1, _, S, c80, _, rfl, z_ifp hk ⟨Or.inl rfl, hq⟩⟩ rfl), Or.inl ⟨rfl, Or.inr ⟨hk, f1⟩⟩⟩
    · exact ⟨1, get 1 (fun Q hq => pre 1 Q ⟨hr.rm.1, _, S, c80, _, rfl, z_ifn hk ⟨Or.inr rfl, hq⟩⟩ rfl), Or.inr ⟨rfl, ho, fun q => absurd q hk⟩⟩
/-- those that bind as tightly as * are settled -/
theorem sT2 (h : z_Hr b n me ep d j0 τ0 s0 nn0 kk0 w0 S0 R0 p0 3 j t i m p S R) (hw : w0 ≤ 3 * d) (hs0 : s0 + w0 ≤ 3 * j0) (h93 : z_fn 0 (R.1 93) d = nI m) (h94 : z_fn 0 (R.1 94) d = nI p) :
    (∃ i' m' p' S' R', z_Cr (l + 15) 81 0 [(0, .ref 131), (1, .int (nI w0)), (2, .int 2), (3, .int (nI p))] [] S (.inl (some (.int (nI p')))) S' ∧ z_Rr 16 174 0 [(0, .ref 148), (1, .int (nI d))] [] R none R' ∧ z_Hr b n me ep d j0 τ0 s0 nn0 kk0 w0 S0 R0 p0 2 j t i' m' p' S' R' ∧ (z_fn 0 (R'.1 91) d = nI m' ∧ z_fn 0 (R'.1 92) d = nI p' ∧ z_fn 0 (R'.1 93) d = -1 ∧ z_fn 0 (R'.1 96) d = 0)) ∨
    (∃ S' R', z_Cr (l + 15) 81 0 [(0, .ref 131), (1, .int (nI w0)), (2, .int 2), (3, .int (nI p))] [] S (.inr 10) S' ∧ z_Xd 4 (nI t.1) S0 S' ∧ z_Rr 16 174 0 [(0, .ref 148), (1, .int (nI d))] [] R none R' ∧ z_Td 4 (nI t.1) R'.2.2 ∧ z_XR R0 R') := by
  rcases jE2 (l := l) (rk := 2) (x3 := nI p) h hw hs0 (by decide) h93 h94 with ⟨i', m', p', S', R', c1, c2, c3, c4⟩ | ⟨S', R', c1, c2, c3, c4, c5, c6⟩
  · exact Or.inl ⟨i', m', p', S', R', z_WC.get (fun Q hq => t81_0 (A := S.1) (E := S.2.1) (N := S.2.2.1) (V := S.2.2.2.1) (W := S.2.2.2.2.1) (c := S.2.2.2.2.2) (c1 Q (c81x (r := 2) c3 (by decide) hw hq))), c2, c3, c4⟩
  · exact Or.inr ⟨S', R', z_WC.get (fun Q hq => t81_0 (A := S.1) (E := S.2.1) (N := S.2.2.1) (V := S.2.2.2.1) (W := S.2.2.2.2.1) (c := S.2.2.2.2.2) ⟨_, S', c1, hq⟩), c2, c3, c5, c6⟩
/-- + -/
theorem sT1 (h : z_Hr b n me ep d j0 τ0 s0 nn0 kk0 w0 S0 R0 p0 3 j t i m p S R) (hw : w0 ≤ 3 * d) (hs0 : s0 + w0 ≤ 3 * j0) (h93 : z_fn 0 (R.1 93) d = nI m) (h94 : z_fn 0 (R.1 94) d = nI p) :
    (∃ i' m' p' S' R', z_Cr (l + 15) 81 0 [(0, .ref 131), (1, .int (nI w0)), (2, .int 1), (3, .int (nI p))] [] S (.inl (some (.int (nI p')))) S' ∧ z_Rr 17 176 0 [(0, .ref 148), (1, .int (nI d))] [] R none R' ∧ z_Hr b n me ep d j0 τ0 s0 nn0 kk0 w0 S0 R0 p0 1 j t i' m' p' S' R' ∧ (z_fn 0 (R'.1 89) d = nI m' ∧ z_fn 0 (R'.1 90) d = nI p' ∧ z_fn 0 (R'.1 91) d = -1 ∧ z_fn 0 (R'.1 93) d = -1 ∧ z_fn 0 (R'.1 96) d = 0)) ∨
    (∃ S' R', z_Cr (l + 15) 81 0 [(0, .ref 131), (1, .int (nI w0)), (2, .int 1), (3, .int (nI p))] [] S (.inr 10) S' ∧ z_Xd 4 (nI t.1) S0 S' ∧ z_Rr 17 176 0 [(0, .ref 148), (1, .int (nI d))] [] R none R' ∧ z_Td 4 (nI t.1) R'.2.2 ∧ z_XR R0 R') := by
  have get : ∀ (Q : z_V → z_CS → Prop), z_WC (l + 15) 81 3 [(0, .ref 131), (1, .int (nI w0)), (2, .int 1), (3, .int (nI p)), (4, .int (nI p))] [] S Q → z_WC (l + 15) 81 0 [(0, .ref 131), (1, .int (nI w0)), (2, .int 1), (3, .int (nI p))] [] S Q := fun Q hq => t81_0 (A := S.1) (E := S.2.1) (N := S.2.2.1) (V := S.2.2.2.1) (W := S.2.2.2.2.1) (c := S.2.2.2.2.2) hq
  rcases jE2 (l := l) (rk := 1) (x3 := nI p) h hw hs0 (by decide) h93 h94 with ⟨i', m', p', S', R', c1, c2, c3, c4⟩ | ⟨S', R', c1, c2, c3, c4, c5, c6⟩
  · rcases jE1 (l := l) (rk := 1) (x3 := nI p) c3 hw hs0 (by decide) c4.1 c4.2.1 c4.2.2.1 c4.2.2.2 with ⟨i2, m2, p2, S2, R2, g1, g2, g3, g4⟩ | ⟨S2, R2, g1, g2, g3, g4, g5, g6⟩
    · exact Or.inl ⟨i2, m2, p2, S2, R2, z_WC.get (fun Q hq => get Q (c1 Q (g1 Q (c81x (r := 1) g3 (by decide) hw hq)))), z_WR.get (fun Q hq => t176_0 (B := R.1) (M := R.2.1) (U := R.2.2) ⟨none, R', c2, rfl, g2 Q hq⟩), g3, g4⟩
    · exact Or.inr ⟨S2, R2, z_WC.get (fun Q hq => get Q (c1 Q ⟨_, S2, g1, hq⟩)), g2, z_WR.get (fun Q hq => t176_0 (B := R.1) (M := R.2.1) (U := R.2.2) ⟨none, R', c2, rfl, g3 Q hq⟩), g5, g6⟩
  · obtain ⟨R2, g1, g2, g3⟩ := g176 c4
    exact Or.inr ⟨S', R2, z_WC.get (fun Q hq => get Q ⟨_, S', c1, hq⟩), c2, z_WR.get (fun Q hq => t176_0 (B := R.1) (M := R.2.1) (U := R.2.2) ⟨none, R', c3, rfl, g1 Q hq⟩), c5.x g3 g2.1, c6.tr g3⟩
/-- all of them -/
theorem sT0 (h : z_Hr b n me ep d j0 τ0 s0 nn0 kk0 w0 S0 R0 p0 3 j t i m p S R) (hw : w0 ≤ 3 * d) (hs0 : s0 + w0 ≤ 3 * j0) (h93 : z_fn 0 (R.1 93) d = nI m) (h94 : z_fn 0 (R.1 94) d = nI p) :
    (∃ i' m' p' S' R', z_Cr (l + 15) 81 0 [(0, .ref 131), (1, .int (nI w0)), (2, .int 0), (3, .int (nI p))] [] S (.inl (some (.int (nI p')))) S' ∧ z_Rr 18 177 0 [(0, .ref 148), (1, .int (nI d))] [] R none R' ∧ z_Hr b n me ep d j0 τ0 s0 nn0 kk0 w0 S0 R0 p0 0 j t i' m' p' S' R' ∧ (z_fn 0 (R'.1 86) d = nI m' ∧ z_fn 0 (R'.1 87) d = nI p' ∧ z_fn 0 (R'.1 88) d = -1 ∧ z_fn 0 (R'.1 91) d = -1 ∧ z_fn 0 (R'.1 93) d = -1 ∧ z_fn 0 (R'.1 96) d = 0)) ∨
    (∃ S' R', z_Cr (l + 15) 81 0 [(0, .ref 131), (1, .int (nI w0)), (2, .int 0), (3, .int (nI p))] [] S (.inr 10) S' ∧ z_Xd 4 (nI t.1) S0 S' ∧ z_Rr 18 177 0 [(0, .ref 148), (1, .int (nI d))] [] R none R' ∧ z_Td 4 (nI t.1) R'.2.2 ∧ z_XR R0 R') := by
  have get : ∀ (Q : z_V → z_CS → Prop), z_WC (l + 15) 81 3 [(0, .ref 131), (1, .int (nI w0)), (2, .int 0), (3, .int (nI p)), (4, .int (nI p))] [] S Q → z_WC (l + 15) 81 0 [(0, .ref 131), (1, .int (nI w0)), (2, .int 0), (3, .int (nI p))] [] S Q := fun Q hq => t81_0 (A := S.1) (E := S.2.1) (N := S.2.2.1) (V := S.2.2.2.1) (W := S.2.2.2.2.1) (c := S.2.2.2.2.2) hq
  have rget : ∀ R1 R2, z_Rr 17 176 0 [(0, .ref 148), (1, .int (nI d))] [] R none R1 → (∀ Q : Option Value → z_RS → Prop, Q none R2 → p177_5 17 R1.1 R1.2.1 R1.2.2 (nI d) Q) → z_Rr 18 177 0 [(0, .ref 148), (1, .int (nI d))] [] R none R2 := fun R1 R2 a1 a2 => z_WR.get (fun Q hq => t177_0 (B := R.1) (M := R.2.1) (U := R.2.2) ⟨none, R1, a1, rfl, a2 Q hq⟩)
  have r6 : ∀ R1 R2, z_Rr 16 174 0 [(0, .ref 148), (1, .int (nI d))] [] R none R1 → (∀ Q : Option Value → z_RS → Prop, Q none R2 → p176_5 16 R1.1 R1.2.1 R1.2.2 (nI d) Q) → z_Rr 17 176 0 [(0, .ref 148), (1, .int (nI d))] [] R none R2 := fun R1 R2 a1 a2 => z_WR.get (fun Q hq => t176_0 (B := R.1) (M := R.2.1) (U := R.2.2) ⟨none, R1, a1, rfl, a2 Q hq⟩)
  rcases jE2 (l := l) (rk := 0) (x3 := nI p) h hw hs0 (by decide) h93 h94 with ⟨i', m', p', S', R', c1, c2, c3, c4⟩ | ⟨S', R', c1, c2, c3, c4, c5, c6⟩
  · rcases jE1 (l := l) (rk := 0) (x3 := nI p) c3 hw hs0 (by decide) c4.1 c4.2.1 c4.2.2.1 c4.2.2.2 with ⟨i2, m2, p2, S2, R2, g1, g2, g3, g4⟩ | ⟨S2, R2, g1, g2, g3, g4, g5, g6⟩
    · rcases jE0 (l := l) (rk := 0) (x3 := nI p) g3 hw hs0 (by decide) g4.1 g4.2.1 g4.2.2.1 g4.2.2.2.1 g4.2.2.2.2 with ⟨i3, m3, p3, S3, R3, k1, k2, k3, k4⟩ | ⟨S3, R3, k1, k2, k3, k4, k5, k6⟩
      · exact Or.inl ⟨i3, m3, p3, S3, R3, z_WC.get (fun Q hq => get Q (c1 Q (g1 Q (k1 Q (c81x (r := 0) k3 (by decide) hw hq))))), rget R2 R3 (r6 R' R2 c2 g2) k2, k3, k4⟩
      · exact Or.inr ⟨S3, R3, z_WC.get (fun Q hq => get Q (c1 Q (g1 Q ⟨_, S3, k1, hq⟩))), k2, rget R2 R3 (r6 R' R2 c2 g2) k3, k5, k6⟩
    · obtain ⟨R3, k1, k2, k3⟩ := g177 g4 g5
      exact Or.inr ⟨S2, R3, z_WC.get (fun Q hq => get Q (c1 Q ⟨_, S2, g1, hq⟩)), g2, rget R2 R3 (r6 R' R2 c2 g3) k1, k2, g6.tr k3⟩
  · obtain ⟨R2, g1, g2, g3⟩ := g176 c4
    obtain ⟨R3, k1, k2, k3⟩ := g177 g2 (c5.x g3 g2.1)
    exact Or.inr ⟨S', R3, z_WC.get (fun Q hq => get Q ⟨_, S', c1, hq⟩), c2, rget R2 R3 (r6 R' R2 c3 g1) k1, k2, c6.tr (g3.tr k3)⟩
end ZZ5
