/-! Reading programs, both together: an expression begins; keywords and names. -/
/-- the reference's loop -/
def z_Hq (Q : Option Value → z_RS → Prop) (R : z_RS) : Prop := z_WR 20 140 79 [(0, .ref 148)] [] R Q
/-- what reading an expression comes to -/
def z_Eo (b : Nat → Nat) (n me : Nat) (ep : Nat → Nat) (d j : Nat) (t : Nat × Nat × Int32) (τ : z_TT) (s nn kk w : Nat) (S : z_CS) (R : z_RS) (o : z_V) (S' : z_CS) : Prop :=
  z_oj o (fun v => v = none ∧ ∃ (R' : z_RS) (j' : Nat) (t' : Nat × Nat × Int32) (τ' : z_TT) (s' nn' kk' f m : Nat), z_P b n me ep j' t' τ' s' nn' kk' w S' R' ∧ z_Zd (d + 1) R' ∧ (R'.2.2 41 53 = 3 ∧ R'.2.2 41 54 = nI m ∧ R'.2.2 41 55 = nI t.1) ∧ z_Cp b n me τ' S'.1 R'.1 ((nn, nn'), (kk, kk')) f (z_wx d) m s s' (nI t.1) ∧ (z_fn 0 (R'.1 80) d = R.2.2 41 73 ∧ z_fn 0 (R'.1 81) d = R.2.2 41 74 ∧ z_fn 0 (R'.1 83) d = R.2.2 41 75 ∧ z_fn 0 (R'.1 82) d = nI t.1) ∧ z_Te τ τ' ∧ z_FC s w S S' ∧ z_FR nn kk d R R' ∧ (j < j' ∧ s' + 3 * j ≤ s + 3 * j' ∧ 5 * kk' + j ≤ 5 * kk + j' ∧ nn ≤ nn' ∧ kk ≤ kk') ∧ ∀ Q, z_Hq Q R' → z_Hq Q R) (∃ x y, z_Xd x y S S' ∧ ∀ Q, (∀ R', z_Td x y R'.2.2 → z_XR R R' → Q none R') → z_Hq Q R)
/-- an expression is asked for, at depth d -/
def z_Aq (d : Nat) (R : z_RS) : Prop := z_Zd d R ∧ R.2.2 41 53 = 0 ∧ z_o6 (R.2.2 41 73) ∧ (d = 0 → R.2.2 41 73 = -1) ∧ ∃ w, w < 304 ∧ ¬ w = 3 ∧ R.2.2 41 74 = nI w
/-- an expression has begun, at depth d -/
def z_Bg (d : Nat) (R Rb : z_RS) : Prop := (z_fn 0 (Rb.1 80) d = R.2.2 41 73 ∧ z_fn 0 (Rb.1 81) d = R.2.2 41 74 ∧ z_fn 0 (Rb.1 83) d = R.2.2 41 75 ∧ z_fn 0 (Rb.1 82) d = R.2.2 41 8) ∧ (z_fn 0 (Rb.1 85) d = -1 ∧ z_fn 0 (Rb.1 88) d = -1 ∧ z_fn 0 (Rb.1 91) d = -1 ∧ z_fn 0 (Rb.1 93) d = -1 ∧ z_fn 0 (Rb.1 95) d = -1 ∧ z_fn 0 (Rb.1 96) d = 0) ∧ (∀ k, ¬ (80 ≤ k ∧ k ≤ 96) → Rb.1 k = R.1 k) ∧ (∀ k, 80 ≤ k → k ≤ 96 → ∀ i, i ≠ d → z_fn 0 (Rb.1 k) i = z_fn 0 (R.1 k) i) ∧ Rb.2.1 = R.2.1 ∧ Rb.2.2 41 52 = nI (d + 1) ∧ Rb.2.2 41 53 = 1 ∧ ∀ k i, ¬ (k = 41 ∧ (i = 52 ∨ i = 53)) → Rb.2.2 k i = R.2.2 k i
theorem r160 {d : Nat} {R : z_RS} (hd : d < 50) (h0 : R.2.2 41 11 = 0) (h5 : ¬ R.2.2 41 7 = 5) (h52 : R.2.2 41 52 = nI d) : ∃ Rb, z_Bg d R Rb ∧ ∀ Q, p160_150 18 Rb.1 Rb.2.1 Rb.2.2 (nI d) Q → z_WR 19 160 0 [(0, .ref 148)] [] R Q := by
  obtain ⟨B, M, U⟩ := R
  have h0 : U 41 11 = 0 := h0
  have h5 : ¬ U 41 7 = 5 := h5
  have h52 : U 41 52 = nI d := h52
  have zi : z_in (nI d) 50 = true := z_inI (by omega) (by decide)
  have zc : (nI d).toNatClampNeg = d := nI_clamp (by omega)
  refine ⟨((z_u (z_u (z_u (z_u (z_u (z_u (z_u (z_u (z_u (z_u (z_u B 80 ((d, U 41 73) :: B 80)) 81 ((d, U 41 74) :: B 81)) 83 ((d, U 41 75) :: B 83)) 82 ((d, U 41 8) :: B 82)) 84 ((d, -1) :: B 84)) 85 ((d, -1) :: B 85)) 88 ((d, -1) :: B 88)) 91 ((d, -1) :: B 91)) 93 ((d, -1) :: B 93)) 95 ((d, -1) :: B 95)) 96 ((d, z_nar .boolean 0) :: B 96)), M, (z_v (z_v U 41 52 (nI (d + 1))) 41 53 1)), ⟨⟨?_, ?_, ?_, ?_⟩, ⟨?_, ?_, ?_, ?_, ?_, ?_⟩, ?_, ?_, rfl, rfl, rfl, ?_⟩, ?_⟩
  · show z_fn 0 ((d, U 41 73) :: B 80) d = U 41 73
    rw [z_fcs]
  · show z_fn 0 ((d, U 41 74) :: B 81) d = U 41 74
    rw [z_fcs]
  · show z_fn 0 ((d, U 41 75) :: B 83) d = U 41 75
    rw [z_fcs]
  · show z_fn 0 ((d, U 41 8) :: B 82) d = U 41 8
    rw [z_fcs]
  · show z_fn 0 ((d, -1) :: B 85) d = -1
    rw [z_fcs]
  · show z_fn 0 ((d, -1) :: B 88) d = -1
    rw [z_fcs]
  · show z_fn 0 ((d, -1) :: B 91) d = -1
    rw [z_fcs]
  · show z_fn 0 ((d, -1) :: B 93) d = -1
    rw [z_fcs]
  · show z_fn 0 ((d, -1) :: B 95) d = -1
    rw [z_fcs]
  · show z_fn 0 ((d, z_nar .boolean 0) :: B 96) d = 0
    rw [z_fcs]
    exact z_nb0
  · intro k hk
    show (z_u (z_u (z_u (z_u (z_u (z_u (z_u (z_u (z_u (z_u (z_u B 80 ((d, U 41 73) :: B 80)) 81 ((d, U 41 74) :: B 81)) 83 ((d, U 41 75) :: B 83)) 82 ((d, U 41 8) :: B 82)) 84 ((d, -1) :: B 84)) 85 ((d, -1) :: B 85)) 88 ((d, -1) :: B 88)) 91 ((d, -1) :: B 91)) 93 ((d, -1) :: B 93)) 95 ((d, -1) :: B 95)) 96 ((d, z_nar .boolean 0) :: B 96)) k = B k
    rw [z_un (by omega), z_un (by omega), z_un (by omega), z_un (by omega), z_un (by omega), z_un (by omega), z_un (by omega), z_un (by omega), z_un (by omega), z_un (by omega), z_un (by omega)]
  · intro k a b i hi
    have : k = 80 ∨ k = 81 ∨ k = 82 ∨ k = 83 ∨ k = 84 ∨ k = 85 ∨ k = 86 ∨ k = 87 ∨ k = 88 ∨ k = 89 ∨ k = 90 ∨ k = 91 ∨ k = 92 ∨ k = 93 ∨ k = 94 ∨ k = 95 ∨ k = 96 := by omega
    show z_fn 0 ((z_u (z_u (z_u (z_u (z_u (z_u (z_u (z_u (z_u (z_u (z_u B 80 ((d, U 41 73) :: B 80)) 81 ((d, U 41 74) :: B 81)) 83 ((d, U 41 75) :: B 83)) 82 ((d, U 41 8) :: B 82)) 84 ((d, -1) :: B 84)) 85 ((d, -1) :: B 85)) 88 ((d, -1) :: B 88)) 91 ((d, -1) :: B 91)) 93 ((d, -1) :: B 93)) 95 ((d, -1) :: B 95)) 96 ((d, z_nar .boolean 0) :: B 96)) k) i = z_fn 0 (B k) i
    rcases this with rfl | rfl | rfl | rfl | rfl | rfl | rfl | rfl | rfl | rfl | rfl | rfl | rfl | rfl | rfl | rfl | rfl
    · show z_fn 0 ((d, U 41 73) :: B 80) i = z_fn 0 (B 80) i
      rw [z_fcn hi]
    · show z_fn 0 ((d, U 41 74) :: B 81) i = z_fn 0 (B 81) i
      rw [z_fcn hi]
    · show z_fn 0 ((d, U 41 8) :: B 82) i = z_fn 0 (B 82) i
      rw [z_fcn hi]
    · show z_fn 0 ((d, U 41 75) :: B 83) i = z_fn 0 (B 83) i
      rw [z_fcn hi]
    · show z_fn 0 ((d, -1) :: B 84) i = z_fn 0 (B 84) i
      rw [z_fcn hi]
    · show z_fn 0 ((d, -1) :: B 85) i = z_fn 0 (B 85) i
      rw [z_fcn hi]
    · rfl
    · rfl
    · show z_fn 0 ((d, -1) :: B 88) i = z_fn 0 (B 88) i
      rw [z_fcn hi]
    · rfl
    · rfl
    · show z_fn 0 ((d, -1) :: B 91) i = z_fn 0 (B 91) i
      rw [z_fcn hi]
    · rfl
    · show z_fn 0 ((d, -1) :: B 93) i = z_fn 0 (B 93) i
      rw [z_fcn hi]
    · rfl
    · show z_fn 0 ((d, -1) :: B 95) i = z_fn 0 (B 95) i
      rw [z_fcn hi]
    · show z_fn 0 ((d, z_nar .boolean 0) :: B 96) i = z_fn 0 (B 96) i
      rw [z_fcn hi]
  · intro k i hki
    show (z_v (z_v U 41 52 (nI (d + 1))) 41 53 1) k i = U k i
    rw [z_vn (by omega), z_vn (by omega)]
  · intro Q hq
    refine t160_0 (z_ifn h5 ?_)
    unfold p160_15
    refine z_ifn (by rw [h52]; exact fun q => absurd ((nI_eq (a := d) (b := 50) (by omega) (by omega)).mp q) (by omega)) ?_
    unfold p160_33
    refine z_ifp (by rw [h0]; decide) ?_
    unfold p160_41
    rw [h52, zc]
    refine ⟨zi, zi, ?_⟩
    unfold p160_66
    rw [zc]
    refine ⟨zi, zi, ?_⟩
    unfold p160_86
    rw [zc]
    refine ⟨zi, zi, zi, ?_⟩
    unfold p160_107
    rw [zc]
    refine ⟨zi, zi, zi, ?_⟩
    unfold p160_128
    rw [zc, h52, nI_1]
    exact ⟨zi, hq⟩
theorem z_Bg.zd {d : Nat} {R Rb : z_RS} (h : z_Bg d R Rb) (hq : z_Aq d R) (hd : d < 50) : z_Zd (d + 1) Rb := by
  obtain ⟨⟨a1, a2, a3, a4⟩, ⟨-, -, -, -, b5, -⟩, c1, c2, c3, c4, c5, c6⟩ := h
  obtain ⟨⟨q1, q2, q3, q4⟩, q5, q6, q7, q8⟩ := hq
  refine ⟨c4, by omega, ?_, fun i hi => ?_⟩
  · rw [c6 41 26 (by omega)]
    exact q3
  · by_cases e : i = d
    · subst e
      rw [a1, a2, b5]
      exact ⟨⟨q6, Or.inl rfl⟩, q8, q7⟩
    · rw [c2 80 (by decide) (by decide) i e, c2 81 (by decide) (by decide) i e, c2 95 (by decide) (by decide) i e]
      exact q4 i (by omega)
theorem z_Bg.fr {d nn kk : Nat} {R Rb : z_RS} (h : z_Bg d R Rb) : z_FR nn kk d R Rb := by
  obtain ⟨-, -, c1, c2, c3, c4, c5, c6⟩ := h
  exact ⟨⟨fun k q => c1 k (by omega), c3, fun k i q => c6 k i (fun r => q ⟨r.1, by omega, by omega⟩), fun e => ⟨(c6 41 11 (by omega)).symm.trans e, c6 41 12 (by omega)⟩⟩, fun k a i _ => by rw [c1 k (by omega)], fun k a b i _ => by rw [c1 k (by omega)], fun k a b i q => c2 k a b i (by omega)⟩
section ZX6
variable {b : Nat → Nat} {n me : Nat} {ep : Nat → Nat} {j : Nat} {t : Nat × Nat × Int32} {τ : z_TT} {s nn kk w d : Nat} {S : z_CS} {R Rb : z_RS}
theorem z_Bg.p (h : z_Bg d R Rb) (hp : z_P b n me ep j t τ s nn kk w S R) : z_P b n me ep j t τ s nn kk w S Rb := hp.ref (fun k q => h.2.2.1 k (by omega)) (fun i q => h.2.2.2.2.2.2.2 41 i (by omega))
/-- an expression's keyword, which is a node -/
theorem Pf {k : Int32} (h : z_P b n me ep j t τ s nn kk w S R) (ht : ¬ t.2.1 = 0) (hz : z_Zd (d + 1) R) : (∃ t' S' R', nn < 600 ∧ z_Cr 16 64 0 [(0, .ref 131)] [] S (.inl (some (.int (nI t.1)))) S' ∧ z_Rr 16 162 0 [(0, .ref 148), (1, .int (nI d)), (2, .int k)] [] R (some (.int (nI nn))) R' ∧ z_P b n me ep (j + 1) t' τ s (nn + 1) kk w S' R' ∧ z_FC s w S S' ∧ z_FR nn kk d R R' ∧ S'.1 = S.1 ∧ R'.1 = z_u (z_u (z_u R.1 57 ((nn, k) :: R.1 57)) 60 ((nn, -1) :: R.1 60)) 84 ((d, nI nn) :: R.1 84) ∧ (∀ i, 28 ≤ i → R'.2.2 41 i = R.2.2 41 i) ∧ z_Zd (d + 1) R') ∨ (∃ x y S' R' m, m < 600 ∧ z_Cr 16 64 0 [(0, .ref 131)] [] S (.inr 10) S' ∧ z_Xd x y S S' ∧ z_Rr 16 162 0 [(0, .ref 148), (1, .int (nI d)), (2, .int k)] [] R (some (.int (nI m))) R' ∧ z_Dz x y (d + 1) R' ∧ z_XR R R') := by
  have d50 := hz.2.1
  have zi : z_in (nI d) 50 = true := z_inI (by omega) (by decide)
  have zc : (nI d).toNatClampNeg = d := nI_clamp (by omega)
  have hr := h.1.2.2.2.2
  have e9 : S.2.2.2.1 3 9 = nI t.1 := h.1.2.1.2.2.2.2.1
  obtain ⟨t1, R1, n1, n2, n3, n4⟩ := jn h.1 ht
  -- the reference, behind the word
  have ref : ∀ m R2, z_Rr 14 163 0 [(0, .ref 148), (1, .int k)] [] R1 (some (.int (nI m))) R2 → z_Rr 16 162 0 [(0, .ref 148), (1, .int (nI d)), (2, .int k)] [] R (some (.int (nI m))) (z_u R2.1 84 ((d, nI m) :: R2.1 84), R2.2.1, R2.2.2) := by
    intro m R2 g1
    refine z_WR.get (fun Q hq => t162_0 (B := R.1) (M := R.2.1) (U := R.2.2) ⟨none, R1, n1.up (by decide), rfl, _, R2, g1.up (by decide), _, rfl, ?_⟩)
    unfold p162_14
    rw [zc, z_fcs]
    exact ⟨zi, zi, hq⟩
  rcases n4 with ⟨nb, S1, m1, m2, m3⟩ | ⟨nb, S1, m1, m2, m3⟩
  · have h1 := h.kw m3 m2 n2 (by omega)
    have hz1 : z_Zd (d + 1) R1 := hz.lw n2
    have hr1 := m3.2.2.2.2
    rcases Pk (k := k) h1 with ⟨S2, R2, a1, a2, a3, a4, a5, a6, a7, a8⟩ | ⟨S2, R2, a1, a2, a3, a4, a5⟩
    · have n600 : nn < 600 := by
        have := a3.2.2.2.2.2.1.2.2
        omega
      refine Or.inl ⟨t1, S2, (z_u R2.1 84 ((d, nI nn) :: R2.1 84), R2.2.1, R2.2.2), n600, ?_, ref nn R2 a2, a3.ref (fun q r => z_un (by omega)) (fun _ _ => rfl), m2.fc.tr a7 (Nat.le_refl _) (Nat.le_refl _), ?_, a4.trans m2.1, ?_, fun i hi => (a6 i (by omega)).trans (n2.2.2.1 41 i (by omega)), ?_⟩
      · have : z_WC 16 64 0 [(0, .ref 131)] [] S (fun o S' => o = .inl (some (.int (nI t.1))) ∧ S' = S2) := by
          refine t64_0 (A := S.1) (E := S.2.1) (N := S.2.2.1) (V := S.2.2.2.1) (W := S.2.2.2.2.1) (c := S.2.2.2.2.2) ?_
          unfold p64_0
          rw [e9]
          exact ⟨hr.rm.1, .inl none, S1, m1.up (by decide), rfl, hr1.rm.1, .inl none, S2, a1.up (by decide), rfl, rfl, rfl⟩
        obtain ⟨o, S3, q1, q2, q3⟩ := this
        rw [q2, q3] at q1
        exact q1
      · refine ((n2.fr (nn := nn) (kk := kk) (d := d)).tr a8 (Nat.le_refl _) (Nat.le_refl _) (by omega)).tr (z_FR.put (R := R2) (k := 84) (i := d) (v := nI nn) (nn := nn) (kk := kk) (d := d) (by decide) (by omega) (by omega) (fun _ => Nat.le_refl _)) (Nat.le_refl _) (Nat.le_refl _) (Nat.le_refl _)
      · show z_u R2.1 84 ((d, nI nn) :: R2.1 84) = _
        rw [a5, n2.1]
        rfl
      · have q1 : z_Zd (d + 1) R2 := by
          refine ⟨(a6 52 (by decide)).trans hz1.1, hz1.2.1, ⟨nn + 1, by omega, a3.2.2.2.2.2.1.2.1⟩, fun i hi => ?_⟩
          rw [a5, z_un (by decide), z_un (by decide), z_un (by decide), z_un (by decide), z_un (by decide), z_un (by decide)]
          exact hz1.2.2.2 i hi
        exact q1.B rfl rfl rfl
    · refine Or.inr ⟨4, nI t1.1, S2, (z_u R2.1 84 ((d, nI 0) :: R2.1 84), R2.2.1, R2.2.2), 0, by decide, ?_, a2.tr m2.xc, ref 0 R2 a3, ⟨a4.q, (hz1.lw a5).B rfl rfl rfl⟩, (n2.tr a5).xR.tr (z_XR_B (fun q r => z_un (by omega)))⟩
      have : z_WC 16 64 0 [(0, .ref 131)] [] S (fun o S' => o = .inr 10 ∧ S' = S2) := by
        refine t64_0 (A := S.1) (E := S.2.1) (N := S.2.2.1) (V := S.2.2.2.1) (W := S.2.2.2.2.1) (c := S.2.2.2.2.2) ?_
        unfold p64_0
        exact ⟨hr.rm.1, .inl none, S1, m1.up (by decide), rfl, hr1.rm.1, .inr 10, S2, a1.up (by decide), rfl, rfl, rfl⟩
      obtain ⟨o, S3, q1, q2, q3⟩ := this
      rw [q2, q3] at q1
      exact q1
  · have hz1 : z_Zd (d + 1) R1 := hz.lw n2
    obtain ⟨m, R2, m6, g1, g2, g3, g4⟩ := e163 (k := k) (x := 2) (y := nI t1.1) (d := d + 1) (R := R1) ⟨m3.q, hz1⟩
    refine Or.inr ⟨2, nI t1.1, S1, (z_u R2.1 84 ((d, nI m) :: R2.1 84), R2.2.1, R2.2.2), m, m6, ?_, m2, ref m R2 g1, ⟨g2.1, g2.2.B rfl rfl rfl⟩, n2.xR.tr (g3.tr (z_XR_B (fun q r => z_un (by omega))))⟩
    have : z_WC 16 64 0 [(0, .ref 131)] [] S (fun o S' => o = .inr 10 ∧ S' = S1) := by
      refine t64_0 (A := S.1) (E := S.2.1) (N := S.2.2.1) (V := S.2.2.2.1) (W := S.2.2.2.2.1) (c := S.2.2.2.2.2) ?_
      unfold p64_0
      exact ⟨hr.rm.1, .inr 10, S1, m1.up (by decide), rfl, rfl, rfl⟩
    obtain ⟨o, S3, q1, q2, q3⟩ := this
    rw [q2, q3] at q1
    exact q1
/-- a name of node m -/
theorem Pm {m : Nat} (h : z_P b n me ep j t τ s nn kk w S R) (hm : m < 600) (hz : z_Zd d R) : (∃ t' S' R', t.2.1 = 2 ∧ z_Cr 16 66 0 [(0, .ref 131)] [] S (.inl (some (.int t.2.2))) S' ∧ z_Rr 16 164 0 [(0, .ref 148), (1, .int (nI m))] [] R none R' ∧ z_P b n me ep (j + 1) t' τ s nn kk w S' R' ∧ z_Kw S S' ∧ R'.1 = z_u (z_u R.1 64 ((m, nI t.1) :: R.1 64)) 65 ((m, nI (z_ll b n t.1)) :: R.1 65) ∧ R'.2.1 = R.2.1 ∧ (∀ i, 13 ≤ i → R'.2.2 41 i = R.2.2 41 i) ∧ z_XR R R' ∧ z_Zd d R' ∧ z_Nm b n (nI t.1) t.2.2 (nI (z_ll b n t.1))) ∨ (∃ x y S' R', z_Cr 16 66 0 [(0, .ref 131)] [] S (.inr 10) S' ∧ z_Xd x y S S' ∧ z_Rr 16 164 0 [(0, .ref 148), (1, .int (nI m))] [] R none R' ∧ z_Dz x y d R' ∧ z_XR R R') := by
  obtain ⟨zi, zc⟩ := z_o6_in hm
  have hr := h.1.2.2.2.2
  have h0 : R.2.2 41 11 = 0 := h.1.2.2.2.1
  have e8 : R.2.2 41 8 = nI t.1 := h.1.2.1.2.2.2.2.2.2.1
  have e9 : R.2.2 41 9 = nI (z_ll b n t.1) := h.1.2.1.2.2.2.2.2.2.2.2.1
  have e10 : S.2.2.2.1 3 10 = t.2.2 := h.1.2.1.2.2.2.2.2.1
  have hp : z_P b n me ep j t τ s nn kk w S (z_u (z_u R.1 64 ((m, nI t.1) :: R.1 64)) 65 ((m, nI (z_ll b n t.1)) :: R.1 65), R.2.1, R.2.2) := h.ref (fun q r => by show z_u (z_u R.1 64 ((m, nI t.1) :: R.1 64)) 65 ((m, nI (z_ll b n t.1)) :: R.1 65) q = R.1 q; rw [z_un (by omega), z_un (by omega)]) (fun _ _ => rfl)
  have hz' : z_Zd d (z_u (z_u R.1 64 ((m, nI t.1) :: R.1 64)) 65 ((m, nI (z_ll b n t.1)) :: R.1 65), R.2.1, R.2.2) := hz.B rfl rfl rfl
  have hx : z_XR R (z_u (z_u R.1 64 ((m, nI t.1) :: R.1 64)) 65 ((m, nI (z_ll b n t.1)) :: R.1 65), R.2.1, R.2.2) := z_XR_B (fun q r => by rw [z_un (by omega), z_un (by omega)])
  have ref : ∀ R2, z_Rr 14 154 0 [(0, .ref 148), (1, .int 1)] [] (z_u (z_u R.1 64 ((m, nI t.1) :: R.1 64)) 65 ((m, nI (z_ll b n t.1)) :: R.1 65), R.2.1, R.2.2) none R2 → z_Rr 16 164 0 [(0, .ref 148), (1, .int (nI m))] [] R none R2 := by
    intro R2 g1
    refine z_WR.get (fun Q hq => t164_0 (B := R.1) (M := R.2.1) (U := R.2.2) (z_ifp (by rw [h0]; decide) ?_))
    unfold p164_8
    rw [zc, e8, e9]
    exact ⟨zi, zi, none, R2, g1.up (by decide), rfl, hq⟩
  rcases jx hp.1 2 (by decide) (by decide) (by decide) with ⟨t', S', R', a0, a1, a2, a3, a4, a5⟩ | ⟨x, y, S', R', a1, a2, a3, a4, a5⟩
  · refine Or.inl ⟨t', S', R', a0, ?_, ref R' a2, hp.kw a5 a3 a4 (by omega), a3, a4.1, a4.2.1, fun i hi => a4.2.2.1 41 i (by omega), hx.tr a4.xR, hz'.lw a4, ⟨j, t, h.1.2.1.1, a0, rfl, rfl, rfl⟩⟩
    have : z_WC 16 66 0 [(0, .ref 131)] [] S (fun o S2 => o = .inl (some (.int t.2.2)) ∧ S2 = S') := by
      refine t66_0 (A := S.1) (E := S.2.1) (N := S.2.2.1) (V := S.2.2.2.1) (W := S.2.2.2.2.1) (c := S.2.2.2.2.2) ?_
      unfold p66_0
      rw [e10]
      exact ⟨hr.rm.1, .inl none, S', a1.up (by decide), rfl, rfl, rfl⟩
    obtain ⟨o, S3, q1, q2, q3⟩ := this
    rw [q2, q3] at q1
    exact q1
  · refine Or.inr ⟨x, y, S', R', ?_, a3, ref R' a2, ⟨a5, hz'.lw a4⟩, hx.tr a4.xR⟩
    have : z_WC 16 66 0 [(0, .ref 131)] [] S (fun o S2 => o = .inr 10 ∧ S2 = S') := by
      refine t66_0 (A := S.1) (E := S.2.1) (N := S.2.2.1) (V := S.2.2.2.1) (W := S.2.2.2.2.1) (c := S.2.2.2.2.2) ?_
      unfold p66_0
      exact ⟨hr.rm.1, .inr 10, S', a1.up (by decide), rfl, rfl, rfl⟩
    obtain ⟨o, S3, q1, q2, q3⟩ := this
    rw [q2, q3] at q1
    exact q1
/-- a name of node m -/
theorem Po {m : Nat} (h : z_P b n me ep j t τ s nn kk w S R) (hm : m < 600) (hz : z_Zd d R) : (∃ t' S' R', t.2.1 = 2 ∧ z_Cr 16 66 0 [(0, .ref 131)] [] S (.inl (some (.int t.2.2))) S' ∧ z_Rr 16 166 0 [(0, .ref 148), (1, .int (nI m))] [] R none R' ∧ z_P b n me ep (j + 1) t' τ s nn kk w S' R' ∧ z_Kw S S' ∧ R'.1 = z_u (z_u R.1 66 ((m, nI t.1) :: R.1 66)) 67 ((m, nI (z_ll b n t.1)) :: R.1 67) ∧ R'.2.1 = R.2.1 ∧ (∀ i, 13 ≤ i → R'.2.2 41 i = R.2.2 41 i) ∧ z_XR R R' ∧ z_Zd d R' ∧ z_Nm b n (nI t.1) t.2.2 (nI (z_ll b n t.1))) ∨ (∃ x y S' R', z_Cr 16 66 0 [(0, .ref 131)] [] S (.inr 10) S' ∧ z_Xd x y S S' ∧ z_Rr 16 166 0 [(0, .ref 148), (1, .int (nI m))] [] R none R' ∧ z_Dz x y d R' ∧ z_XR R R') := by
  obtain ⟨zi, zc⟩ := z_o6_in hm
  have hr := h.1.2.2.2.2
  have h0 : R.2.2 41 11 = 0 := h.1.2.2.2.1
  have e8 : R.2.2 41 8 = nI t.1 := h.1.2.1.2.2.2.2.2.2.1
  have e9 : R.2.2 41 9 = nI (z_ll b n t.1) := h.1.2.1.2.2.2.2.2.2.2.2.1
  have e10 : S.2.2.2.1 3 10 = t.2.2 := h.1.2.1.2.2.2.2.2.1
  have hp : z_P b n me ep j t τ s nn kk w S (z_u (z_u R.1 66 ((m, nI t.1) :: R.1 66)) 67 ((m, nI (z_ll b n t.1)) :: R.1 67), R.2.1, R.2.2) := h.ref (fun q r => by show z_u (z_u R.1 66 ((m, nI t.1) :: R.1 66)) 67 ((m, nI (z_ll b n t.1)) :: R.1 67) q = R.1 q; rw [z_un (by omega), z_un (by omega)]) (fun _ _ => rfl)
  have hz' : z_Zd d (z_u (z_u R.1 66 ((m, nI t.1) :: R.1 66)) 67 ((m, nI (z_ll b n t.1)) :: R.1 67), R.2.1, R.2.2) := hz.B rfl rfl rfl
  have hx : z_XR R (z_u (z_u R.1 66 ((m, nI t.1) :: R.1 66)) 67 ((m, nI (z_ll b n t.1)) :: R.1 67), R.2.1, R.2.2) := z_XR_B (fun q r => by rw [z_un (by omega), z_un (by omega)])
  have ref : ∀ R2, z_Rr 14 154 0 [(0, .ref 148), (1, .int 1)] [] (z_u (z_u R.1 66 ((m, nI t.1) :: R.1 66)) 67 ((m, nI (z_ll b n t.1)) :: R.1 67), R.2.1, R.2.2) none R2 → z_Rr 16 166 0 [(0, .ref 148), (1, .int (nI m))] [] R none R2 := by
    intro R2 g1
    refine z_WR.get (fun Q hq => t166_0 (B := R.1) (M := R.2.1) (U := R.2.2) (z_ifp (by rw [h0]; decide) ?_))
    unfold p166_8
    rw [zc, e8, e9]
    exact ⟨zi, zi, none, R2, g1.up (by decide), rfl, hq⟩
  rcases jx hp.1 2 (by decide) (by decide) (by decide) with ⟨t', S', R', a0, a1, a2, a3, a4, a5⟩ | ⟨x, y, S', R', a1, a2, a3, a4, a5⟩
  · refine Or.inl ⟨t', S', R', a0, ?_, ref R' a2, hp.kw a5 a3 a4 (by omega), a3, a4.1, a4.2.1, fun i hi => a4.2.2.1 41 i (by omega), hx.tr a4.xR, hz'.lw a4, ⟨j, t, h.1.2.1.1, a0, rfl, rfl, rfl⟩⟩
    have : z_WC 16 66 0 [(0, .ref 131)] [] S (fun o S2 => o = .inl (some (.int t.2.2)) ∧ S2 = S') := by
      refine t66_0 (A := S.1) (E := S.2.1) (N := S.2.2.1) (V := S.2.2.2.1) (W := S.2.2.2.2.1) (c := S.2.2.2.2.2) ?_
      unfold p66_0
      rw [e10]
      exact ⟨hr.rm.1, .inl none, S', a1.up (by decide), rfl, rfl, rfl⟩
    obtain ⟨o, S3, q1, q2, q3⟩ := this
    rw [q2, q3] at q1
    exact q1
  · refine Or.inr ⟨x, y, S', R', ?_, a3, ref R' a2, ⟨a5, hz'.lw a4⟩, hx.tr a4.xR⟩
    have : z_WC 16 66 0 [(0, .ref 131)] [] S (fun o S2 => o = .inr 10 ∧ S2 = S') := by
      refine t66_0 (A := S.1) (E := S.2.1) (N := S.2.2.1) (V := S.2.2.2.1) (W := S.2.2.2.2.1) (c := S.2.2.2.2.2) ?_
      unfold p66_0
      exact ⟨hr.rm.1, .inr 10, S', a1.up (by decide), rfl, rfl, rfl⟩
    obtain ⟨o, S3, q1, q2, q3⟩ := this
    rw [q2, q3] at q1
    exact q1
end ZX6
