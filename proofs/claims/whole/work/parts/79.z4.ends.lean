/-! Reading programs, both together: operators read with their operands, rank by rank. -/
section ZZ4
variable {b : Nat → Nat} {n me : Nat} {ep : Nat → Nat} {j j0 : Nat} {t : Nat × Nat × Int32} {τ0 : z_TT} {d i s0 nn0 kk0 w0 r m p p0 l : Nat} {S S0 : z_CS} {R R0 : z_RS} {rk x3 x y : Int32}
theorem z_kcb (q : Nat) : 85 ≤ z_kc q ∧ z_kc q ≤ 85 + 3 * q := by
  unfold z_kc
  omega
theorem z_ncb (q : Nat) : 85 ≤ z_nc q ∧ z_nc q ≤ 86 + 3 * q := by
  unfold z_nc
  split <;> omega
theorem z_pcb (q : Nat) : 85 ≤ z_pc q ∧ z_pc q ≤ 87 + 3 * q := by
  unfold z_pc
  split <;> omega
theorem z_Hr.put {k : Nat} {v : Int32} {L : List (Nat × Int32)} (h : z_Hr b n me ep d j0 τ0 s0 nn0 kk0 w0 S0 R0 p0 r j t i m p S R) (hk : 85 + 3 * r ≤ k ∧ k ≤ 96 ∧ ¬ k = 95) (hL : L = R.1 k) : z_Hr b n me ep d j0 τ0 s0 nn0 kk0 w0 S0 R0 p0 r j t i m p S (z_u R.1 k ((d, v) :: L), R.2.1, R.2.2) := by
  subst hL
  refine h.upd (R' := (z_u R.1 k ((d, v) :: R.1 k), R.2.1, R.2.2)) (fun q hq => z_un (by omega)) (z_un (by omega)) (fun q c hc => ?_) (fun q hq => ?_) rfl (fun _ _ _ => rfl)
  · show z_fn 0 (z_u R.1 k ((d, v) :: R.1 k) q) c = _
    by_cases e : q = k
    · subst e
      rw [z_uk, z_fcn hc]
    · rw [z_un e]
  · have a1 := z_kcb q
    have a2 := z_ncb q
    have a3 := z_pcb q
    refine ⟨?_, ?_, ?_⟩
    · show z_fn 0 (z_u R.1 k ((d, v) :: R.1 k) (z_kc q)) d = _
      rw [z_un (by omega)]
    · show z_fn 0 (z_u R.1 k ((d, v) :: R.1 k) (z_nc q)) d = _
      rw [z_un (by omega)]
    · show z_fn 0 (z_u R.1 k ((d, v) :: R.1 k) (z_pc q)) d = _
      rw [z_un (by omega)]
theorem z_Hr.d50 (h : z_Hr b n me ep d j0 τ0 s0 nn0 kk0 w0 S0 R0 p0 r j t i m p S R) : d < 50 ∧ R.2.2 41 11 = 0 := by
  obtain ⟨τ, s, nn, kk, f, s3, q3, hp, hz, -⟩ := h
  exact ⟨by have := hz.2.1; omega, hp.1.2.2.2.1⟩
/-- * -/
theorem jE2 (h : z_Hr b n me ep d j0 τ0 s0 nn0 kk0 w0 S0 R0 p0 3 j t i m p S R) (hw : w0 ≤ 3 * d) (hs0 : s0 + w0 ≤ 3 * j0) (hrk : ¬ nI 2 < rk) (h93 : z_fn 0 (R.1 93) d = nI m) (h94 : z_fn 0 (R.1 94) d = nI p) :
    (∃ i' m' p' S' R', (∀ Q, z_WC (l + 15) 81 3 [(0, .ref 131), (1, .int (nI w0)), (2, .int rk), (3, .int x3), (4, .int (nI p'))] [] S' Q → z_WC (l + 15) 81 3 [(0, .ref 131), (1, .int (nI w0)), (2, .int rk), (3, .int x3), (4, .int (nI p))] [] S Q) ∧ z_Rr 16 174 0 [(0, .ref 148), (1, .int (nI d))] [] R none R' ∧ z_Hr b n me ep d j0 τ0 s0 nn0 kk0 w0 S0 R0 p0 2 j t i' m' p' S' R' ∧ (z_fn 0 (R'.1 91) d = nI m' ∧ z_fn 0 (R'.1 92) d = nI p' ∧ z_fn 0 (R'.1 93) d = -1 ∧ z_fn 0 (R'.1 96) d = 0)) ∨
    (∃ S' R', z_Cr (l + 15) 81 3 [(0, .ref 131), (1, .int (nI w0)), (2, .int rk), (3, .int x3), (4, .int (nI p))] [] S (.inr 10) S' ∧ z_Xd 4 (nI t.1) S0 S' ∧ z_Rr 16 174 0 [(0, .ref 148), (1, .int (nI d))] [] R none R' ∧ z_Dz 4 (nI t.1) (d + 1) R' ∧ z_Td 4 (nI t.1) R'.2.2 ∧ z_XR R0 R') := by
  obtain ⟨zi, zc⟩ := z_i50 (d := d + 1) (i := d) (by have := h.d50.1; omega) (Nat.lt_succ_self d)
  rcases jst (l := l) (rk := rk) (x3 := x3) (x4 := nI p) h (by decide) hw hs0 hrk with ⟨e3, hh⟩ | ⟨o, m1, p1, g2, m16, g5, g6, g7, m6, ⟨i', m', S', R', m6', c1, c2, c3, c4, c5⟩ | ⟨S', R', c1, c2, c3, c4, c5, c6⟩⟩
  · have e3 : z_fn 0 (R.1 91) d = -1 := e3
    left
    have q1 := hh.put (k := 91) (v := nI m) (L := R.1 91) (by decide) rfl
    have q2 := q1.put (k := 92) (v := nI p) (L := R.1 92) (by decide) rfl
    have q3 := q2.put (k := 93) (v := -1) (L := R.1 93) (by decide) rfl
    have q4 := q3.put (k := 96) (v := z_nar .boolean 0) (L := R.1 96) (by decide) rfl
    refine ⟨i, m, p, S, _, fun Q q => q, z_WR.get (fun Q hq => t174_0 (B := R.1) (M := R.2.1) (U := R.2.2) ?_), q4, ?_, ?_, ?_, ?_⟩
    · unfold p174_0
      rw [zc, e3]
      refine ⟨zi, z_ifp (by decide) ?_⟩
      unfold p174_48
      rw [zc, h93, h94]
      refine ⟨zi, zi, zi, zi, ?_⟩
      unfold p174_72
      rw [zc]
      exact ⟨zi, zi, hq⟩
    · exact z_fcs
    · exact z_fcs
    · exact z_fcs
    · exact z_fcs.trans z_nb0
  · have g6 : z_fn 0 (R.1 91) d = nI m1 := g6
    have g7 : z_fn 0 (R.1 92) d = nI p1 := g7
    have ho : o = 11 := by
      have hh : ∀ o, o < 14 → 9 ≤ o → z_rnk (nI o) = nI 2 → o = 11 := by decide +kernel
      exact hh o (by omega) g2.1 g2.2.2
    subst ho
    left
    have q1 := c3.put (k := 91) (v := nI m') (L := R'.1 91) (by decide) rfl
    have q3 := q1.put (k := 93) (v := -1) (L := R'.1 93) (by decide) rfl
    have q4 := q3.put (k := 96) (v := z_nar .boolean 0) (L := R'.1 96) (by decide) rfl
    refine ⟨i', m', p1, S', _, c1, z_WR.get (fun Q hq => t174_0 (B := R.1) (M := R.2.1) (U := R.2.2) ?_), q4, ?_, ?_, ?_, ?_⟩
    · unfold p174_0
      rw [zc, g6]
      refine ⟨zi, z_ifn (nI_pos (by omega)) ?_⟩
      unfold p174_9
      rw [zc, g6, g7, h93, h94]
      refine ⟨zi, zi, zi, zi, _, R', c2, _, rfl, ?_⟩
      unfold p174_44
      rw [zc]
      refine ⟨zi, ?_⟩
      unfold p174_72
      rw [zc]
      exact ⟨zi, zi, hq⟩
    · exact z_fcs
    · exact (congrArg (fun L => z_fn 0 L d) (c4 92 (by decide) (by decide))).trans g7
    · exact z_fcs
    · exact z_fcs.trans z_nb0
  · have g6 : z_fn 0 (R.1 91) d = nI m1 := g6
    have g7 : z_fn 0 (R.1 92) d = nI p1 := g7
    have ho : o = 11 := by
      have hh : ∀ o, o < 14 → 9 ≤ o → z_rnk (nI o) = nI 2 → o = 11 := by decide +kernel
      exact hh o (by omega) g2.1 g2.2.2
    subst ho
    refine Or.inr ⟨S', (z_u (z_u (z_u R'.1 91 ((d, 0) :: R'.1 91)) 93 ((d, -1) :: R'.1 93)) 96 ((d, z_nar .boolean 0) :: R'.1 96), R'.2.1, R'.2.2), c1, c2, z_WR.get (fun Q hq => t174_0 (B := R.1) (M := R.2.1) (U := R.2.2) ?_), ⟨c4.1, c4.2.B rfl rfl rfl⟩, c5, c6.tr (z_XR_B (fun q r => by rw [z_un (by omega), z_un (by omega), z_un (by omega)]))⟩
    unfold p174_0
    rw [zc, g6]
    refine ⟨zi, z_ifn (nI_pos (by omega)) ?_⟩
    unfold p174_9
    rw [zc, g6, g7, h93, h94]
    refine ⟨zi, zi, zi, zi, _, R', c3, _, rfl, ?_⟩
    unfold p174_44
    rw [zc]
    refine ⟨zi, ?_⟩
    unfold p174_72
    rw [zc]
    exact ⟨zi, zi, hq⟩
/-- the reference, once the class has ended: what is left of endTerm -/
theorem g176 (h : z_Dz x y (d + 1) R) : ∃ R', (∀ Q : Option Value → z_RS → Prop, Q none R' → p176_5 16 R.1 R.2.1 R.2.2 (nI d) Q) ∧ z_Dz x y (d + 1) R' ∧ z_XR R R' := by
  obtain ⟨zi, zc⟩ := z_i50 (i := d) h.2.2.1 (Nat.lt_succ_self d)
  by_cases ht : z_fn 0 (R.1 88) d < 0
  · refine ⟨(z_u (z_u (z_u R.1 89 ((d, z_fn 0 (R.1 91) d) :: R.1 89)) 90 ((d, z_fn 0 (R.1 92) d) :: R.1 90)) 91 ((d, -1) :: R.1 91), R.2.1, R.2.2), fun Q hq => ?_, ⟨h.1, h.2.B rfl rfl rfl⟩, z_XR_B (fun q r => by rw [z_un (by omega), z_un (by omega), z_un (by omega)])⟩
    unfold p176_5
    rw [zc]
    refine ⟨zi, z_ifp ht ?_⟩
    unfold p176_57
    rw [zc]
    refine ⟨zi, zi, zi, zi, ?_⟩
    unfold p176_81
    rw [zc]
    exact ⟨zi, hq⟩
  · obtain ⟨m, R2, hm, b1, b2, b3, b4⟩ := e172 (k := z_fn 0 (R.1 88) d) (a1 := z_fn 0 (R.1 89) d) (a2 := z_fn 0 (R.1 90) d) (a3 := z_fn 0 (R.1 91) d) (a4 := z_fn 0 (R.1 92) d) h
    refine ⟨(z_u (z_u R2.1 89 ((d, nI m) :: R2.1 89)) 91 ((d, -1) :: R2.1 91), R2.2.1, R2.2.2), fun Q hq => ?_, ⟨b2.1, b2.2.B rfl rfl rfl⟩, b3.tr (z_XR_B (fun q r => by rw [z_un (by omega), z_un (by omega)]))⟩
    unfold p176_5
    rw [zc]
    refine ⟨zi, z_ifn ht ?_⟩
    unfold p176_14
    rw [zc]
    refine ⟨zi, zi, zi, zi, zi, _, R2, b1.up (by decide), _, rfl, ?_⟩
    unfold p176_53
    rw [zc]
    refine ⟨zi, ?_⟩
    unfold p176_81
    rw [zc]
    exact ⟨zi, hq⟩
/-- what is left of endSum, where the fault is told -/
theorem g177 (h : z_Dz x y (d + 1) R) (ht : z_Td x y R.2.2) : ∃ R', (∀ Q : Option Value → z_RS → Prop, Q none R' → p177_5 17 R.1 R.2.1 R.2.2 (nI d) Q) ∧ z_Td x y R'.2.2 ∧ z_XR R R' := by
  obtain ⟨zi, zc⟩ := z_i50 (i := d) h.2.2.1 (Nat.lt_succ_self d)
  have end97 : ∀ (R2 : z_RS) (Q : Option Value → z_RS → Prop), Q none (z_u R2.1 88 ((d, -1) :: R2.1 88), R2.2.1, R2.2.2) → p177_97 17 R2.1 R2.2.1 R2.2.2 (nI d) Q := by
    intro R2 Q hq
    unfold p177_97
    rw [zc]
    exact ⟨zi, hq⟩
  by_cases hc : 0 ≤ z_fn 0 (R.1 85) d
  · refine ⟨(z_u R.1 88 ((d, -1) :: R.1 88), R.2.1, R.2.2), fun Q hq => z_ifn ht.n0 ?_, ht, z_XR_B (fun q r => z_un (by omega))⟩
    unfold p177_64
    rw [zc]
    exact ⟨zi, z_ifp hc (end97 R Q hq)⟩
  · refine ⟨(z_u (z_u (z_u R.1 86 ((d, z_fn 0 (R.1 89) d) :: R.1 86)) 87 ((d, z_fn 0 (R.1 90) d) :: R.1 87)) 88 ((d, -1) :: R.1 88), R.2.1, R.2.2), fun Q hq => z_ifn ht.n0 ?_, ht, z_XR_B (fun q r => by rw [z_un (by omega), z_un (by omega), z_un (by omega)])⟩
    unfold p177_64
    rw [zc]
    refine ⟨zi, z_ifn hc ?_⟩
    unfold p177_73
    rw [zc]
    exact ⟨zi, zi, zi, zi, end97 (z_u (z_u R.1 86 ((d, z_fn 0 (R.1 89) d) :: R.1 86)) 87 ((d, z_fn 0 (R.1 90) d) :: R.1 87), R.2.1, R.2.2) Q hq⟩
/-- + and - -/
theorem jE1 (h : z_Hr b n me ep d j0 τ0 s0 nn0 kk0 w0 S0 R0 p0 2 j t i m p S R) (hw : w0 ≤ 3 * d) (hs0 : s0 + w0 ≤ 3 * j0) (hrk : ¬ nI 1 < rk) (h91 : z_fn 0 (R.1 91) d = nI m) (h92 : z_fn 0 (R.1 92) d = nI p) (h93 : z_fn 0 (R.1 93) d = -1) (h96 : z_fn 0 (R.1 96) d = 0) :
    (∃ i' m' p' S' R', (∀ Q, z_WC (l + 15) 81 3 [(0, .ref 131), (1, .int (nI w0)), (2, .int rk), (3, .int x3), (4, .int (nI p'))] [] S' Q → z_WC (l + 15) 81 3 [(0, .ref 131), (1, .int (nI w0)), (2, .int rk), (3, .int x3), (4, .int (nI p))] [] S Q) ∧ (∀ Q : Option Value → z_RS → Prop, Q none R' → p176_5 16 R.1 R.2.1 R.2.2 (nI d) Q) ∧ z_Hr b n me ep d j0 τ0 s0 nn0 kk0 w0 S0 R0 p0 1 j t i' m' p' S' R' ∧ (z_fn 0 (R'.1 89) d = nI m' ∧ z_fn 0 (R'.1 90) d = nI p' ∧ z_fn 0 (R'.1 91) d = -1 ∧ z_fn 0 (R'.1 93) d = -1 ∧ z_fn 0 (R'.1 96) d = 0)) ∨
    (∃ S' R', z_Cr (l + 15) 81 3 [(0, .ref 131), (1, .int (nI w0)), (2, .int rk), (3, .int x3), (4, .int (nI p))] [] S (.inr 10) S' ∧ z_Xd 4 (nI t.1) S0 S' ∧ (∀ Q : Option Value → z_RS → Prop, Q none R' → p176_5 16 R.1 R.2.1 R.2.2 (nI d) Q) ∧ z_Dz 4 (nI t.1) (d + 1) R' ∧ z_Td 4 (nI t.1) R'.2.2 ∧ z_XR R0 R') := by
  obtain ⟨zi, zc⟩ := z_i50 (d := d + 1) (i := d) (by have := h.d50.1; omega) (Nat.lt_succ_self d)
  rcases jst (l := l) (rk := rk) (x3 := x3) (x4 := nI p) h (by decide) hw hs0 hrk with ⟨e3, hh⟩ | ⟨o, m1, p1, g2, m16, g5, g6, g7, m6, ⟨i', m', S', R', m6', c1, c2, c3, c4, c5⟩ | ⟨S', R', c1, c2, c3, c4, c5, c6⟩⟩
  · have e3 : z_fn 0 (R.1 88) d = -1 := e3
    left
    have q1 := hh.put (k := 89) (v := nI m) (L := R.1 89) (by decide) rfl
    have q2 := q1.put (k := 90) (v := nI p) (L := R.1 90) (by decide) rfl
    have q3 := q2.put (k := 91) (v := -1) (L := R.1 91) (by decide) rfl
    refine ⟨i, m, p, S, _, fun Q q => q, fun Q hq => ?_, q3, ?_, ?_, ?_, ?_, ?_⟩
    · unfold p176_5
      rw [zc, e3]
      refine ⟨zi, z_ifp (by decide) ?_⟩
      unfold p176_57
      rw [zc, h91, h92]
      refine ⟨zi, zi, zi, zi, ?_⟩
      unfold p176_81
      rw [zc]
      exact ⟨zi, hq⟩
    · exact z_fcs
    · exact z_fcs
    · exact z_fcs
    · exact h93
    · exact h96
  · have g5 : z_fn 0 (R.1 88) d = nI (o - 4) := g5.resolve_left (by decide)
    have g6 : z_fn 0 (R.1 89) d = nI m1 := g6
    have g7 : z_fn 0 (R.1 90) d = nI p1 := g7
    left
    have q1 := c3.put (k := 89) (v := nI m') (L := R'.1 89) (by decide) rfl
    have q3 := q1.put (k := 91) (v := -1) (L := R'.1 91) (by decide) rfl
    refine ⟨i', m', p1, S', _, c1, fun Q hq => ?_, q3, ?_, ?_, ?_, ?_, ?_⟩
    · unfold p176_5
      rw [zc, g5]
      refine ⟨zi, z_ifn (nI_pos (by omega)) ?_⟩
      unfold p176_14
      rw [zc, g5, g6, g7, h91, h92]
      refine ⟨zi, zi, zi, zi, zi, _, R', c2.up (by decide), _, rfl, ?_⟩
      unfold p176_53
      rw [zc]
      refine ⟨zi, ?_⟩
      unfold p176_81
      rw [zc]
      exact ⟨zi, hq⟩
    · exact z_fcs
    · exact (congrArg (fun L => z_fn 0 L d) (c4 90 (by decide) (by decide))).trans g7
    · exact z_fcs
    · exact (congrArg (fun L => z_fn 0 L d) (c4 93 (by decide) (by decide))).trans h93
    · exact (congrArg (fun L => z_fn 0 L d) (c4 96 (by decide) (by decide))).trans h96
  · have g5 : z_fn 0 (R.1 88) d = nI (o - 4) := g5.resolve_left (by decide)
    have g6 : z_fn 0 (R.1 89) d = nI m1 := g6
    have g7 : z_fn 0 (R.1 90) d = nI p1 := g7
    refine Or.inr ⟨S', (z_u (z_u R'.1 89 ((d, 0) :: R'.1 89)) 91 ((d, -1) :: R'.1 91), R'.2.1, R'.2.2), c1, c2, fun Q hq => ?_, ⟨c4.1, c4.2.B rfl rfl rfl⟩, c5, c6.tr (z_XR_B (fun q r => by rw [z_un (by omega), z_un (by omega)]))⟩
    unfold p176_5
    rw [zc, g5]
    refine ⟨zi, z_ifn (nI_pos (by omega)) ?_⟩
    unfold p176_14
    rw [zc, g5, g6, g7, h91, h92]
    refine ⟨zi, zi, zi, zi, zi, _, R', c3.up (by decide), _, rfl, ?_⟩
    unfold p176_53
    rw [zc]
    refine ⟨zi, ?_⟩
    unfold p176_81
    rw [zc]
    exact ⟨zi, hq⟩
/-- < and = -/
theorem jE0 (h : z_Hr b n me ep d j0 τ0 s0 nn0 kk0 w0 S0 R0 p0 1 j t i m p S R) (hw : w0 ≤ 3 * d) (hs0 : s0 + w0 ≤ 3 * j0) (hrk : ¬ nI 0 < rk) (h89 : z_fn 0 (R.1 89) d = nI m) (h90 : z_fn 0 (R.1 90) d = nI p) (h91 : z_fn 0 (R.1 91) d = -1) (h93 : z_fn 0 (R.1 93) d = -1) (h96 : z_fn 0 (R.1 96) d = 0) :
    (∃ i' m' p' S' R', (∀ Q, z_WC (l + 15) 81 3 [(0, .ref 131), (1, .int (nI w0)), (2, .int rk), (3, .int x3), (4, .int (nI p'))] [] S' Q → z_WC (l + 15) 81 3 [(0, .ref 131), (1, .int (nI w0)), (2, .int rk), (3, .int x3), (4, .int (nI p))] [] S Q) ∧ (∀ Q : Option Value → z_RS → Prop, Q none R' → p177_5 17 R.1 R.2.1 R.2.2 (nI d) Q) ∧ z_Hr b n me ep d j0 τ0 s0 nn0 kk0 w0 S0 R0 p0 0 j t i' m' p' S' R' ∧ (z_fn 0 (R'.1 86) d = nI m' ∧ z_fn 0 (R'.1 87) d = nI p' ∧ z_fn 0 (R'.1 88) d = -1 ∧ z_fn 0 (R'.1 91) d = -1 ∧ z_fn 0 (R'.1 93) d = -1 ∧ z_fn 0 (R'.1 96) d = 0)) ∨
    (∃ S' R', z_Cr (l + 15) 81 3 [(0, .ref 131), (1, .int (nI w0)), (2, .int rk), (3, .int x3), (4, .int (nI p))] [] S (.inr 10) S' ∧ z_Xd 4 (nI t.1) S0 S' ∧ (∀ Q : Option Value → z_RS → Prop, Q none R' → p177_5 17 R.1 R.2.1 R.2.2 (nI d) Q) ∧ z_Dz 4 (nI t.1) (d + 1) R' ∧ z_Td 4 (nI t.1) R'.2.2 ∧ z_XR R0 R') := by
  obtain ⟨zi, zc⟩ := z_i50 (d := d + 1) (i := d) (by have := h.d50.1; omega) (Nat.lt_succ_self d)
  have h0 := h.d50.2
  rcases jst (l := l) (rk := rk) (x3 := x3) (x4 := nI p) h (by decide) hw hs0 hrk with ⟨e3, hh⟩ | ⟨o, m1, p1, g2, m16, g5, g6, g7, m6, ⟨i', m', S', R', m6', c1, c2, c3, c4, c5⟩ | ⟨S', R', c1, c2, c3, c4, c5, c6⟩⟩
  · have e3 : z_fn 0 (R.1 85) d = -1 := e3
    left
    have q1 := hh.put (k := 86) (v := nI m) (L := R.1 86) (by decide) rfl
    have q2 := q1.put (k := 87) (v := nI p) (L := R.1 87) (by decide) rfl
    have q3 := q2.put (k := 88) (v := -1) (L := R.1 88) (by decide) rfl
    refine ⟨i, m, p, S, _, fun Q q => q, fun Q hq => z_ifp h0 ?_, q3, ?_, ?_, ?_, ?_, ?_, ?_⟩
    · unfold p177_12
      rw [zc, e3]
      refine ⟨zi, z_ifp (by decide) ?_⟩
      unfold p177_64
      rw [zc, e3]
      refine ⟨zi, z_ifn (by decide) ?_⟩
      unfold p177_73
      rw [zc, h89, h90]
      refine ⟨zi, zi, zi, zi, ?_⟩
      unfold p177_97
      rw [zc]
      exact ⟨zi, hq⟩
    · exact z_fcs
    · exact z_fcs
    · exact z_fcs
    · exact h91
    · exact h93
    · exact h96
  · have g5 : z_fn 0 (R.1 85) d = nI (o - 4) := g5.resolve_left (by decide)
    have g6 : z_fn 0 (R.1 86) d = nI m1 := g6
    have g7 : z_fn 0 (R.1 87) d = nI p1 := g7
    left
    have q1 := c3.put (k := 86) (v := nI m') (L := R'.1 86) (by decide) rfl
    have q3 := q1.put (k := 88) (v := -1) (L := R'.1 88) (by decide) rfl
    refine ⟨i', m', p1, S', _, c1, fun Q hq => z_ifp h0 ?_, q3, ?_, ?_, ?_, ?_, ?_, ?_⟩
    · unfold p177_12
      rw [zc, g5]
      refine ⟨zi, z_ifn (nI_pos (by omega)) ?_⟩
      unfold p177_21
      rw [zc, g5, g6, g7, h89, h90]
      refine ⟨zi, zi, zi, zi, zi, _, R', c2.up (by decide), _, rfl, ?_⟩
      unfold p177_60
      rw [zc]
      refine ⟨zi, ?_⟩
      unfold p177_97
      rw [zc]
      exact ⟨zi, hq⟩
    · exact z_fcs
    · exact (congrArg (fun L => z_fn 0 L d) (c4 87 (by decide) (by decide))).trans g7
    · exact z_fcs
    · exact (congrArg (fun L => z_fn 0 L d) (c4 91 (by decide) (by decide))).trans h91
    · exact (congrArg (fun L => z_fn 0 L d) (c4 93 (by decide) (by decide))).trans h93
    · exact (congrArg (fun L => z_fn 0 L d) (c4 96 (by decide) (by decide))).trans h96
  · have g5 : z_fn 0 (R.1 85) d = nI (o - 4) := g5.resolve_left (by decide)
    have g6 : z_fn 0 (R.1 86) d = nI m1 := g6
    have g7 : z_fn 0 (R.1 87) d = nI p1 := g7
    refine Or.inr ⟨S', (z_u (z_u R'.1 86 ((d, 0) :: R'.1 86)) 88 ((d, -1) :: R'.1 88), R'.2.1, R'.2.2), c1, c2, fun Q hq => z_ifp h0 ?_, ⟨c4.1, c4.2.B rfl rfl rfl⟩, c5, c6.tr (z_XR_B (fun q r => by rw [z_un (by omega), z_un (by omega)]))⟩
    unfold p177_12
    rw [zc, g5]
    refine ⟨zi, z_ifn (nI_pos (by omega)) ?_⟩
    unfold p177_21
    rw [zc, g5, g6, g7, h89, h90]
    refine ⟨zi, zi, zi, zi, zi, _, R', c3.up (by decide), _, rfl, ?_⟩
    unfold p177_60
    rw [zc]
    refine ⟨zi, ?_⟩
    unfold p177_97
    rw [zc]
    exact ⟨zi, hq⟩
/-- the class has done with those of rank r and above -/
theorem c81x {Q : z_V → z_CS → Prop} (h : z_Hr b n me ep d j0 τ0 s0 nn0 kk0 w0 S0 R0 p0 r j t i m p S R) (hr3 : r ≤ 3) (hw : w0 ≤ 3 * d) (hq : Q (.inl (some (.int (nI p)))) S) : z_WC (l + 15) 81 3 [(0, .ref 131), (1, .int (nI w0)), (2, .int (nI r)), (3, .int x3), (4, .int (nI p))] [] S Q := by
  obtain ⟨τ, s, nn, kk, f, s3, q3, hp, hz, hC, hS, -⟩ := h
  have hv : S.2.2.2.1 24 7 = nI i := hp.2.2.2.2.2.2.2
  have hr := hp.1.2.2.2.2
  have d50 := hz.2.1
  have le := z_Sks.le (S := S) (R := R) r i s3 q3 hS
  refine t81_3 (A := S.1) (E := S.2.1) (N := S.2.2.1) (V := S.2.2.2.1) (W := S.2.2.2.2.1) (c := S.2.2.2.2.2) ?_
  unfold p81_3
  rw [hv]
  rcases z_Sks.top (S := S) (R := R) r i s3 q3 hr3 hS with e | ⟨e, q, q1, q2⟩
  · exact z_ifp (nI_le (by omega) (by omega)) hq
  · refine z_ifn (nI_ge (by omega) (by omega)) ?_
    have e1 : nI i - 1 = nI (i - 1) := by rw [show (1 : Int32) = nI 1 from rfl, pk_sub (by omega)]
    unfold p81_11
    rw [hv, e1, nI_clamp (by omega)]
    refine ⟨z_inI (by omega) (by decide), hr.rm.1, _, S, c80, _, rfl, z_ifp ?_ hq⟩
    rw [q2]
    exact nI_lt q1 (by omega)
end ZZ4
