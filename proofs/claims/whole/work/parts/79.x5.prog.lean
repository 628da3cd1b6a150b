/-! Reading programs, both together: where both stand; nodes counted, instructions added, names. -/
/-- how many of the instructions below s make a type when they are checked -/
def z_cf (L : List (Nat × Int32)) : Nat → Nat
  | 0 => 0
  | s + 1 => z_cf L s + (if z_fn 0 L s = 17 ∨ z_fn 0 L s = 19 ∨ z_fn 0 L s = 24 then 1 else 0)
theorem z_cf_e {L L' : List (Nat × Int32)} : ∀ s, (∀ i, i < s → z_fn 0 L' i = z_fn 0 L i) → z_cf L' s = z_cf L s := by
  intro s
  induction s with
  | zero => intro _; rfl
  | succ s ih =>
    intro h
    show z_cf L' s + _ = z_cf L s + _
    rw [ih (fun i hi => h i (by omega)), h s (Nat.lt_succ_self s)]
theorem z_cf_s {L : List (Nat × Int32)} {s : Nat} : z_cf L (s + 1) ≤ z_cf L s + 1 ∧ z_cf L s ≤ z_cf L (s + 1) := by
  have e : z_cf L (s + 1) = z_cf L s + (if z_fn 0 L s = 17 ∨ z_fn 0 L s = 19 ∨ z_fn 0 L s = 24 then 1 else 0) := rfl
  rw [e]
  split <;> omega
/-- both read a program: word j (t), types τ, s instructions, nn nodes, kk clauses, w operators that wait -/
def z_P (b : Nat → Nat) (n me : Nat) (ep : Nat → Nat) (j : Nat) (t : Nat × Nat × Int32) (τ : z_TT) (s nn kk w : Nat) (S : z_CS) (R : z_RS) : Prop :=
  z_J b n j t S R ∧ z_De b n me ep S.1 R.1 S.2.2.2.1 R.2.2 ∧ (z_TyC S.1 S.2.2.1 S.2.2.2.1 τ.1.1 τ.1.2 ∧ z_TyR R.1 R.2.2 τ.2.1 τ.2.2 ∧ z_Et τ me S.1 R.1) ∧ (2 * τ.1.2 + 2 * z_cf (S.1 14) s ≤ 6 + j ∧ 2 * τ.2.2 + 2 * z_cf (S.1 14) s ≤ 6 + j) ∧ (S.2.2.2.1 13 6 = nI s ∧ ∀ k, 14 ≤ k → k ≤ 19 → s ≤ S.2.2.1 k) ∧ (S.2.2.2.1 13 7 = nI nn ∧ R.2.2 41 26 = nI nn ∧ nn ≤ 600) ∧ R.2.2 41 27 = nI kk ∧ S.2.2.2.1 24 7 = nI w
/-- of the class: instructions below s and operators below w are as they were -/
def z_FC (s w : Nat) (S S' : z_CS) : Prop := z_XC S S' ∧ (∀ k, 14 ≤ k → k ≤ 19 → ∀ i, i < s → z_fn 0 (S'.1 k) i = z_fn 0 (S.1 k) i) ∧ (∀ k, 25 ≤ k → k ≤ 26 → ∀ i, i < w → z_fn 0 (S'.1 k) i = z_fn 0 (S.1 k) i)
/-- of the reference: nodes below nn, clauses below kk and open expressions below d are as they were -/
def z_FR (nn kk d : Nat) (R R' : z_RS) : Prop := z_XR R R' ∧ (∀ k, (57 ≤ k ∧ k ≤ 70) ∨ k = 97 → ∀ i, i < nn → z_fn 0 (R'.1 k) i = z_fn 0 (R.1 k) i) ∧ (∀ k, 71 ≤ k → k ≤ 79 → ∀ i, i < kk → z_fn 0 (R'.1 k) i = z_fn 0 (R.1 k) i) ∧ (∀ k, 80 ≤ k → k ≤ 96 → ∀ i, i < d → z_fn 0 (R'.1 k) i = z_fn 0 (R.1 k) i)
section ZPF
variable {s w nn kk d s' w' nn' kk' d' : Nat} {S S' S'' : z_CS} {R R' R'' : z_RS}
theorem z_FC.rf : z_FC s w S S := ⟨z_XC.rf, fun _ _ _ _ _ => rfl, fun _ _ _ _ _ => rfl⟩
theorem z_FC.tr (h : z_FC s w S S') (h' : z_FC s' w' S' S'') (hs : s ≤ s') (hw : w ≤ w') : z_FC s w S S'' := ⟨h.1.tr h'.1, fun k a b i c => (h'.2.1 k a b i (by omega)).trans (h.2.1 k a b i c), fun k a b i c => (h'.2.2 k a b i (by omega)).trans (h.2.2 k a b i c)⟩
theorem z_XT.fc (h : z_XT S S') : z_FC s w S S' := ⟨h.xc, fun k a b i _ => by rw [h.1 k (by omega)], fun k a b i _ => by rw [h.1 k (by omega)]⟩
theorem z_Kw.fc (h : z_Kw S S') : z_FC s w S S' := h.xt.fc
theorem z_FR.rf : z_FR nn kk d R R := ⟨z_XR.rf, fun _ _ _ _ => rfl, fun _ _ _ _ _ => rfl, fun _ _ _ _ _ => rfl⟩
theorem z_FR.tr (h : z_FR nn kk d R R') (h' : z_FR nn' kk' d' R' R'') (h1 : nn ≤ nn') (h2 : kk ≤ kk') (h3 : d ≤ d') : z_FR nn kk d R R'' := ⟨h.1.tr h'.1, fun k a i c => (h'.2.1 k a i (by omega)).trans (h.2.1 k a i c), fun k a b i c => (h'.2.2.1 k a b i (by omega)).trans (h.2.2.1 k a b i c), fun k a b i c => (h'.2.2.2 k a b i (by omega)).trans (h.2.2.2 k a b i c)⟩
theorem z_Xr.fr (h : z_Xr R R') : z_FR nn kk d R R' := ⟨h.xR, fun k a i _ => by rw [h.1 k (by omega) (by omega)], fun k a b i _ => by rw [h.1 k (by omega) (by omega)], fun k a b i _ => by rw [h.1 k (by omega) (by omega)]⟩
theorem z_Lw.fr (h : z_Lw R R') : z_FR nn kk d R R' := h.xr.fr
theorem z_FR.U {U' : Nat → Nat → Int32} (h2 : ∀ k j, ¬ (k = 41 ∧ 13 ≤ j ∧ j ≤ 75) → U' k j = R.2.2 k j) : z_FR nn kk d R (R.1, R.2.1, U') := ⟨z_XR_U h2, fun _ _ _ _ => rfl, fun _ _ _ _ _ => rfl, fun _ _ _ _ _ => rfl⟩
/-- one entry of a table, behind what is kept -/
theorem z_FR.put {k i : Nat} {v : Int32} (hk : 57 ≤ k ∧ k ≤ 97) (h1 : (k ≤ 70 ∨ k = 97) → nn ≤ i) (h2 : 71 ≤ k ∧ k ≤ 79 → kk ≤ i) (h3 : 80 ≤ k ∧ k ≤ 96 → d ≤ i) : z_FR nn kk d R (z_u R.1 k ((i, v) :: R.1 k), R.2.1, R.2.2) := by
  have go : ∀ q r, (q = k → r ≠ i) → z_fn 0 (z_u R.1 k ((i, v) :: R.1 k) q) r = z_fn 0 (R.1 q) r := by
    intro q r hq
    by_cases e : q = k
    · subst e
      rw [z_uk, z_fcn (hq rfl)]
    · rw [z_un e]
  exact ⟨z_XR_B (fun q r => z_un (by omega)), fun q a r c => go q r (fun e => by subst e; have := h1 (by omega); omega), fun q a b r c => go q r (fun e => by subst e; have := h2 (by omega); omega), fun q a b r c => go q r (fun e => by subst e; have := h3 (by omega); omega)⟩
end ZPF
section ZPP
variable {b : Nat → Nat} {n me : Nat} {ep : Nat → Nat} {j j' : Nat} {t t' : Nat × Nat × Int32} {τ τ' : z_TT} {s nn kk w d : Nat} {S S' : z_CS} {R R' : z_RS}
theorem z_Et.cg {A A' B B' : Nat → List (Nat × Int32)} (h : z_Et τ me A B) (h1 : A' 22 = A 22) (h2 : A' 23 = A 23) (h3 : B' 53 = B 53) (h4 : B' 54 = B 54) : z_Et τ me A' B' := by
  unfold z_Et at h ⊢
  rw [h1, h2, h3, h4]
  exact h
theorem z_Et.x {A B : Nat → List (Nat × Int32)} (h : z_Et τ me A B) (hc : z_Tw τ.1.1 τ.1.2) (hr : z_Tw τ.2.1 τ.2.2) (hx : z_Te τ τ') : z_Et τ' me A B := fun i hi => ⟨(h i hi).1.x hc hr hx, (h i hi).2.x hc hr hx⟩
theorem z_P.kw (h : z_P b n me ep j t τ s nn kk w S R) (hJ : z_J b n j' t' S' R') (hk : z_Kw S S') (hl : z_Lw R R') (hj : j ≤ j') : z_P b n me ep j' t' τ s nn kk w S' R' := by
  obtain ⟨-, h2, ⟨h3, h4, h5⟩, h6, ⟨h7, h8⟩, ⟨h9, h10, h11⟩, h12, h13⟩ := h
  refine ⟨hJ, h2.x hk.xt hl.xr, ⟨h3.kw hk, h4.lw hl, h5.cg (by rw [hk.1]) (by rw [hk.1]) (by rw [hl.1]) (by rw [hl.1])⟩, ⟨by rw [hk.1]; omega, by rw [hk.1]; omega⟩, ⟨(hk.2.2.2.1 13 6 (by decide)).trans h7, by rw [hk.2.2.1]; exact h8⟩, ⟨(hk.2.2.2.1 13 7 (by decide)).trans h9, (hl.2.2.1 41 26 (by decide)).trans h10, h11⟩, (hl.2.2.1 41 27 (by decide)).trans h12, (hk.2.2.2.1 24 7 (by decide)).trans h13⟩
theorem z_P.xt (h : z_P b n me ep j t τ s nn kk w S R) (hJ : z_J b n j' t' S' R') (hx : z_XT S S') (hl : z_Xr R R') (he : z_Te τ τ') (hc : z_TyC S'.1 S'.2.2.1 S'.2.2.2.1 τ'.1.1 τ'.1.2) (hr : z_TyR R'.1 R'.2.2 τ'.2.1 τ'.2.2) (hi : 2 * τ'.1.2 + j ≤ 2 * τ.1.2 + j' ∧ 2 * τ'.2.2 + j ≤ 2 * τ.2.2 + j') : z_P b n me ep j' t' τ' s nn kk w S' R' := by
  obtain ⟨-, h2, ⟨h3, h4, h5⟩, h6, ⟨h7, h8⟩, ⟨h9, h10, h11⟩, h12, h13⟩ := h
  refine ⟨hJ, h2.x hx hl, ⟨hc, hr, (h5.x h3.1 h4.1 he).cg (hx.1 22 (by decide)) (hx.1 23 (by decide)) (hl.1 53 (by decide) (by decide)) (hl.1 54 (by decide) (by decide))⟩, ⟨by rw [hx.1 14 (by decide)]; omega, by rw [hx.1 14 (by decide)]; omega⟩, ⟨(hx.2.2.2.1 13 6 (by decide) (by decide)).trans h7, fun k a b => by rw [hx.2.2.1 k (by omega)]; exact h8 k a b⟩, ⟨(hx.2.2.2.1 13 7 (by decide) (by decide)).trans h9, (hl.2.2.1 41 26 (by decide)).trans h10, h11⟩, (hl.2.2.1 41 27 (by decide)).trans h12, (hx.2.2.2.1 24 7 (by decide) (by decide)).trans h13⟩
/-- the reference writes what is none of the class's business -/
theorem z_P.ref (h : z_P b n me ep j t τ s nn kk w S R) (hB : ∀ k, k ≤ 54 → R'.1 k = R.1 k) (hU : ∀ i, i ≤ 27 → R'.2.2 41 i = R.2.2 41 i) : z_P b n me ep j t τ s nn kk w S R' := by
  obtain ⟨h1, h2, ⟨h3, h4, h5⟩, h6, h7, ⟨h9, h10, h11⟩, h12, h13⟩ := h
  exact ⟨h1.cg rfl rfl rfl (fun _ => rfl) rfl (hB 44 (by decide)) (hB 45 (by decide)) (fun i _ _ => hU i (by omega)) h1.2.2.2.2, h2.cg rfl (hB 51 (by decide)) (hB 52 (by decide)) rfl (hU 19 (by decide)), ⟨h3, h4.cg (hB 46 (by decide)) (hB 47 (by decide)) (hB 48 (by decide)) (hU 13 (by decide)), h5.cg rfl rfl (hB 53 (by decide)) (hB 54 (by decide))⟩, h6, h7, ⟨h9, (hU 26 (by decide)).trans h10, h11⟩, (hU 27 (by decide)).trans h12, h13⟩
/-- the class writes into its instructions, or what waits -/
theorem z_P.cls {A' : Nat → List (Nat × Int32)} (h : z_P b n me ep j t τ s nn kk w S R) (hA : ∀ k, ¬ (15 ≤ k ∧ k ≤ 19) → ¬ (25 ≤ k ∧ k ≤ 26) → A' k = S.1 k) : z_P b n me ep j t τ s nn kk w (A', S.2.1, S.2.2.1, S.2.2.2.1, S.2.2.2.2.1, S.2.2.2.2.2) R := by
  obtain ⟨h1, h2, ⟨h3, h4, h5⟩, h6, h7, h8, h12, h13⟩ := h
  exact ⟨h1.cg rfl (hA 6 (by decide) (by decide)) (hA 7 (by decide) (by decide)) (fun _ => rfl) rfl rfl rfl (fun _ _ _ => rfl) h1.2.2.2.2, h2.cg (hA 21 (by decide) (by decide)) rfl rfl rfl rfl, ⟨h3.cg (fun k a b => hA k (by omega) (by omega)) (fun _ _ _ => rfl) rfl, h4, h5.cg (hA 22 (by decide) (by decide)) (hA 23 (by decide) (by decide)) rfl rfl⟩, by show 2 * τ.1.2 + 2 * z_cf (A' 14) s ≤ 6 + j ∧ 2 * τ.2.2 + 2 * z_cf (A' 14) s ≤ 6 + j; rw [hA 14 (by decide) (by decide)]; exact h6, h7, h8, h12, h13⟩
/-- a node is counted by both -/
theorem Pk {k : Int32} (h : z_P b n me ep j t τ s nn kk w S R) : (∃ S' R', z_Cr 14 65 0 [(0, .ref 131)] [] S (.inl none) S' ∧ z_Rr 14 163 0 [(0, .ref 148), (1, .int k)] [] R (some (.int (nI nn))) R' ∧ z_P b n me ep j t τ s (nn + 1) kk w S' R' ∧ S'.1 = S.1 ∧ R'.1 = z_u (z_u R.1 57 ((nn, k) :: R.1 57)) 60 ((nn, -1) :: R.1 60) ∧ (∀ i, ¬ i = 26 → R'.2.2 41 i = R.2.2 41 i) ∧ z_FC s w S S' ∧ z_FR nn kk 50 R R') ∨ (∃ S' R', z_Cr 14 65 0 [(0, .ref 131)] [] S (.inr 10) S' ∧ z_Xd 4 (nI t.1) S S' ∧ z_Rr 14 163 0 [(0, .ref 148), (1, .int k)] [] R (some (.int 0)) R' ∧ z_Td 4 (nI t.1) R'.2.2 ∧ z_Lw R R') := by
  obtain ⟨A, E, N, V, W, c⟩ := S
  obtain ⟨B, M, U⟩ := R
  obtain ⟨h1, h2, h3, h6, h7, ⟨h9, h10, h11⟩, h12, h13⟩ := id h
  have h0 : U 41 11 = 0 := h1.2.2.2.1
  have h9 : V 13 7 = nI nn := h9
  have h10 : U 41 26 = nI nn := h10
  have h12 : U 41 27 = nI kk := h12
  have hr := h1.2.2.2.2
  have e9 : V 3 9 = nI t.1 := h1.2.1.2.2.2.2.1
  have e8 : U 41 8 = nI t.1 := h1.2.1.2.2.2.2.2.2.1
  have hw : U 41 7 = z_wco t.2.1 := h1.2.1.2.2.2.2.2.2.2.1
  have n5 : ¬ U 41 7 = 5 := by
    rw [hw]
    exact fun q => h1.2.2.1 ((z_wco_5 _ h1.len.2).mp q)
  by_cases hn : nn = 600
  · right
    obtain ⟨S', a1, a2⟩ := c50 (S := (A, E, N, z_v V 13 7 (nI (nn + 1)), W, c)) (k := 4) (p := V 3 9) (l := 13) hr h1.w
    refine ⟨S', (B, M, z_UF U 4 (U 41 8)), ?_, ?_, z_WR.get (fun Q hq => t163_0 ?_), ?_, z_Lw_F (R := (B, M, U)) (by decide)⟩
    · have : z_WC 14 65 0 [(0, .ref 131)] [] (A, E, N, V, W, c) (fun o S2 => o = .inr 10 ∧ S2 = S') := by
        refine t65_0 ?_
        unfold p65_0
        rw [h9, nI_1]
        refine z_ifn (nI_ge (b := nn + 1) (a := 600) (by omega) (by omega)) ?_
        exact ⟨hr.rm.1, .inr 10, S', a1, rfl, rfl, rfl⟩
      obtain ⟨o, S2, q1, q2, q3⟩ := this
      rw [q2, q3] at q1
      exact q1
    · rw [← e9]
      exact a2.tr (z_XC_AV (S := (A, E, N, V, W, c)) (fun _ _ => rfl) (fun q r u => z_rdV_v rfl u))
    · unfold p163_0
      refine z_ifp h0 (z_ifp (by rw [h10, hn]; rfl) (z_ifn n5 ⟨none, _, f150 (R := (B, M, U)) h0, rfl, ?_⟩))
      unfold p163_46
      exact z_ifn (show ¬ (4 : Int32) ≤ 0 by decide) hq
    · rw [← e8]
      exact z_Td_F (by decide)
  · left
    have zi : z_in (nI nn) 600 = true := z_inI (by omega) (by decide)
    have zc : (nI nn).toNatClampNeg = nn := nI_clamp (by omega)
    have fr : z_FR nn kk 50 (B, M, U) (z_u (z_u B 57 ((nn, k) :: B 57)) 60 ((nn, -1) :: B 60), M, z_v U 41 26 (nI (nn + 1))) := by
      have f1 : z_FR nn kk 50 (B, M, U) (z_u B 57 ((nn, k) :: B 57), M, U) := z_FR.put (R := (B, M, U)) (by decide) (fun _ => Nat.le_refl _) (by omega) (by omega)
      have f2 : z_FR nn kk 50 (z_u B 57 ((nn, k) :: B 57), M, U) (z_u (z_u B 57 ((nn, k) :: B 57)) 60 ((nn, -1) :: z_u B 57 ((nn, k) :: B 57) 60), M, U) := z_FR.put (R := (z_u B 57 ((nn, k) :: B 57), M, U)) (by decide) (fun _ => Nat.le_refl _) (by omega) (by omega)
      rw [z_un (by decide)] at f2
      exact (f1.tr f2 (Nat.le_refl _) (Nat.le_refl _) (Nat.le_refl _)).tr (z_FR.U (R := (z_u (z_u B 57 ((nn, k) :: B 57)) 60 ((nn, -1) :: B 60), M, U)) (fun q r u => z_vn (by omega))) (Nat.le_refl _) (Nat.le_refl _) (Nat.le_refl _)
    refine ⟨(A, E, N, z_v V 13 7 (nI (nn + 1)), W, c), (z_u (z_u B 57 ((nn, k) :: B 57)) 60 ((nn, -1) :: B 60), M, z_v U 41 26 (nI (nn + 1))), ?_, z_WR.get (fun Q hq => t163_0 ?_), ?_, rfl, rfl, fun i hi => by show z_v U 41 26 (nI (nn + 1)) 41 i = U 41 i; rw [z_vn (fun q => hi q.2)], ⟨z_XC_AV (S := (A, E, N, V, W, c)) (fun _ _ => rfl) (fun q r u => z_rdV_v rfl u), fun _ _ _ _ _ => rfl, fun _ _ _ _ _ => rfl⟩, fr⟩
    · have : z_WC 14 65 0 [(0, .ref 131)] [] (A, E, N, V, W, c) (fun o S2 => o = .inl none ∧ S2 = (A, E, N, z_v V 13 7 (nI (nn + 1)), W, c)) := by
        refine t65_0 ?_
        unfold p65_0
        rw [h9, nI_1]
        exact z_ifp (nI_le (b := 600) (by omega) (by omega)) ⟨rfl, rfl⟩
      obtain ⟨o, S2, q1, q2, q3⟩ := this
      rw [q2, q3] at q1
      exact q1
    · unfold p163_0
      refine z_ifp h0 (z_ifn (by rw [h10]; exact fun q => hn ((nI_eq (a := nn) (b := 600) (by omega) (by omega)).mp q)) (z_ifp (by rw [h0]; decide) ?_))
      unfold p163_55
      rw [h10, nI_1, nI_pred, zc]
      exact ⟨zi, zi, hq⟩
    · have g1 : z_P b n me ep j t τ s nn kk w (A, E, N, V, W, c) (z_u (z_u B 57 ((nn, k) :: B 57)) 60 ((nn, -1) :: B 60), M, U) := h.ref (fun q r => by show z_u (z_u B 57 ((nn, k) :: B 57)) 60 ((nn, -1) :: B 60) q = B q; rw [z_un (by omega), z_un (by omega)]) (fun _ _ => rfl)
      obtain ⟨k1, k2, ⟨k3, k4, k5⟩, k6, k7, -, k12, k13⟩ := g1
      exact ⟨k1.cg rfl rfl rfl (fun i => rfl) rfl rfl rfl (fun i a c => by show z_v U 41 26 (nI (nn + 1)) 41 i = U 41 i; rw [z_vn (by omega)]) hr, k2.cg rfl rfl rfl rfl rfl, ⟨k3.cg (fun _ _ _ => rfl) (fun _ _ _ => rfl) rfl, k4.cg rfl rfl rfl rfl, k5⟩, k6, k7, ⟨rfl, rfl, by omega⟩, k12, k13⟩
/-- what an instruction holds -/
def z_Is (A : Nat → List (Nat × Int32)) (i : Nat) (o a1 a2 a3 a4 f : Int32) : Prop := z_fn 0 (A 14) i = o ∧ z_fn 0 (A 15) i = a1 ∧ z_fn 0 (A 16) i = a2 ∧ z_fn 0 (A 17) i = a3 ∧ z_fn 0 (A 18) i = a4 ∧ z_fn 0 (A 19) i = f
/-- the class adds an instruction -/
theorem Pa {o a1 a2 f : Int32} (h : z_P b n me ep j t τ s nn kk w S R) (hs : s ≤ 8000) (ho : (o = 17 ∨ o = 19 ∨ o = 24) → 2 * τ.1.2 + 2 * z_cf (S.1 14) s + 2 ≤ 6 + j ∧ 2 * τ.2.2 + 2 * z_cf (S.1 14) s + 2 ≤ 6 + j := by intro h; exact absurd h (by decide)) : ∃ S', z_Cr 14 67 0 [(0, .ref 120), (1, .int o), (2, .int a1), (3, .int a2), (4, .int f)] [] S (.inl (some (.int (nI s)))) S' ∧ z_P b n me ep j t τ (s + 1) nn kk w S' R ∧ z_FC s w S S' ∧ z_Is S'.1 s o a1 a2 0 0 f ∧ S'.1 25 = S.1 25 ∧ S'.1 26 = S.1 26 := by
  obtain ⟨A, E, N, V, W, c⟩ := S
  obtain ⟨h1, h2, ⟨h3, h4, h5⟩, h6, ⟨h7, h8⟩, h9, h12, h13⟩ := id h
  have h7 : V 13 6 = nI s := h7
  have hr : z_Rk N c := h1.2.2.2.2
  have hW : W < 107 := by
    have q : W = t.2.1 := h1.2.1.2.2.2.1
    have := h1.len.2
    omega
  have hn : V 13 6 + 1 = nI (s + 1) := by rw [h7, nI_1]
  have cs : (V 13 6).toNatClampNeg = s := by rw [h7]; exact nI_clamp (by omega)
  have h8 : ∀ k, 14 ≤ k → k ≤ 19 → s ≤ N k := h8
  have : z_WC 14 67 0 [(0, .ref 120), (1, .int o), (2, .int a1), (3, .int a2), (4, .int f)] [] (A, E, N, V, W, c) (fun v S' => v = .inl (some (.int (nI s))) ∧ z_P b n me ep j t τ (s + 1) nn kk w S' R ∧ z_FC s w (A, E, N, V, W, c) S' ∧ z_Is S'.1 s o a1 a2 0 0 f ∧ S'.1 25 = A 25 ∧ S'.1 26 = A 26) := by
    refine t67_0 ?_
    refine ⟨hW, z_Gr_i (m := s + 1) rfl hn hr (by show 2 * (s + 1) ≤ 16384; omega) (fun A1 N1 c1 p1 q1 d1 e1 r1 g1 => ?_)⟩
    refine ⟨hW, z_Gr_i (m := s + 1) rfl hn r1 (by show 2 * (s + 1) ≤ 16384; omega) (fun A2 N2 c2 p2 q2 d2 e2 r2 g2 => ?_)⟩
    refine ⟨hW, z_Gr_i (m := s + 1) rfl hn r2 (by show 2 * (s + 1) ≤ 16384; omega) (fun A3 N3 c3 p3 q3 d3 e3 r3 g3 => ?_)⟩
    refine ⟨hW, z_Gr_i (m := s + 1) rfl hn r3 (by show 2 * (s + 1) ≤ 16384; omega) (fun A4 N4 c4 p4 q4 d4 e4 r4 g4 => ?_)⟩
    refine ⟨hW, z_Gr_i (m := s + 1) rfl hn r4 (by show 2 * (s + 1) ≤ 16384; omega) (fun A5 N5 c5 p5 q5 d5 e5 r5 g5 => ?_)⟩
    refine ⟨hW, z_Gr_i (m := s + 1) rfl hn r5 (by show 2 * (s + 1) ≤ 16384; omega) (fun A6 N6 c6 p6 q6 d6 e6 r6 g6 => ?_)⟩
    have nb6 : ∀ k, z_gk k = true → N6 k < 2 ^ 31 := fun k hk => by
      have := (r6.1 k hk).2
      have := z_mxl_b k
      omega
    have k14 : s + 1 ≤ N6 14 := by rw [d6 14 (by decide), d5 14 (by decide), d4 14 (by decide), d3 14 (by decide), d2 14 (by decide)]; exact e1
    have k15 : s + 1 ≤ N6 15 := by rw [d6 15 (by decide), d5 15 (by decide), d4 15 (by decide), d3 15 (by decide)]; exact e2
    have k16 : s + 1 ≤ N6 16 := by rw [d6 16 (by decide), d5 16 (by decide), d4 16 (by decide)]; exact e3
    have k17 : s + 1 ≤ N6 17 := by rw [d6 17 (by decide), d5 17 (by decide)]; exact e4
    have k18 : s + 1 ≤ N6 18 := by rw [d6 18 (by decide)]; exact e5
    have f14 : ∀ i, i < s → z_fn 0 (A6 14) i = z_fn 0 (A 14) i := fun i hi => by rw [p6 14 (by decide), p5 14 (by decide), p4 14 (by decide), p3 14 (by decide), p2 14 (by decide), q1 i (by have := h8 14 (by decide) (by decide); omega)]
    have f15 : ∀ i, i < s → z_fn 0 (A6 15) i = z_fn 0 (A 15) i := fun i hi => by rw [p6 15 (by decide), p5 15 (by decide), p4 15 (by decide), p3 15 (by decide), q2 i (by rw [d1 15 (by decide)]; have := h8 15 (by decide) (by decide); omega), p1 15 (by decide)]
    have f16 : ∀ i, i < s → z_fn 0 (A6 16) i = z_fn 0 (A 16) i := fun i hi => by rw [p6 16 (by decide), p5 16 (by decide), p4 16 (by decide), q3 i (by rw [d2 16 (by decide), d1 16 (by decide)]; have := h8 16 (by decide) (by decide); omega), p2 16 (by decide), p1 16 (by decide)]
    have f17 : ∀ i, i < s → z_fn 0 (A6 17) i = z_fn 0 (A 17) i := fun i hi => by rw [p6 17 (by decide), p5 17 (by decide), q4 i (by rw [d3 17 (by decide), d2 17 (by decide), d1 17 (by decide)]; have := h8 17 (by decide) (by decide); omega), p3 17 (by decide), p2 17 (by decide), p1 17 (by decide)]
    have f18 : ∀ i, i < s → z_fn 0 (A6 18) i = z_fn 0 (A 18) i := fun i hi => by rw [p6 18 (by decide), q5 i (by rw [d4 18 (by decide), d3 18 (by decide), d2 18 (by decide), d1 18 (by decide)]; have := h8 18 (by decide) (by decide); omega), p4 18 (by decide), p3 18 (by decide), p2 18 (by decide), p1 18 (by decide)]
    have f19 : ∀ i, i < s → z_fn 0 (A6 19) i = z_fn 0 (A 19) i := fun i hi => by rw [q6 i (by rw [d5 19 (by decide), d4 19 (by decide), d3 19 (by decide), d2 19 (by decide), d1 19 (by decide)]; have := h8 19 (by decide) (by decide); omega), p5 19 (by decide), p4 19 (by decide), p3 19 (by decide), p2 19 (by decide), p1 19 (by decide)]
    have pA : ∀ k, ¬ (14 ≤ k ∧ k ≤ 19) → A6 k = A k := fun k hk => by rw [p6 k (by omega), p5 k (by omega), p4 k (by omega), p3 k (by omega), p2 k (by omega), p1 k (by omega)]
    have pN : ∀ k, ¬ (14 ≤ k ∧ k ≤ 19) → N6 k = N k := fun k hk => by rw [d6 k (by omega), d5 k (by omega), d4 k (by omega), d3 k (by omega), d2 k (by omega), d1 k (by omega)]
    have gw := g1.tr (g2.tr (g3.tr (g4.tr (g5.tr g6))))
    unfold p67_102
    rw [cs, show V 13 6 + 1 - 1 = nI s by rw [h7, nI_1, nI_pred]]
    obtain ⟨A7, hA7⟩ : ∃ X, X = z_u (z_u (z_u (z_u (z_u (z_u A6 14 ((s, o) :: A6 14)) 15 ((s, a1) :: A6 15)) 16 ((s, a2) :: A6 16)) 17 ((s, 0) :: A6 17)) 18 ((s, 0) :: A6 18)) 19 ((s, f) :: A6 19) := ⟨_, rfl⟩
    obtain ⟨V7, hV7⟩ : ∃ X, X = z_v V 13 6 (V 13 6 + 1) := ⟨_, rfl⟩
    rw [← hA7, ← hV7]
    have a7 : ∀ k, ¬ (14 ≤ k ∧ k ≤ 19) → A7 k = A k := fun k hk => by rw [hA7, z_un (by omega), z_un (by omega), z_un (by omega), z_un (by omega), z_un (by omega), z_un (by omega), pA k hk]
    have a14 : A7 14 = (s, o) :: A6 14 := by rw [hA7, z_un (by decide), z_un (by decide), z_un (by decide), z_un (by decide), z_un (by decide), z_uk]
    have a15 : A7 15 = (s, a1) :: A6 15 := by rw [hA7, z_un (by decide), z_un (by decide), z_un (by decide), z_un (by decide), z_uk]
    have a16 : A7 16 = (s, a2) :: A6 16 := by rw [hA7, z_un (by decide), z_un (by decide), z_un (by decide), z_uk]
    have a17 : A7 17 = (s, 0) :: A6 17 := by rw [hA7, z_un (by decide), z_un (by decide), z_uk]
    have a18 : A7 18 = (s, 0) :: A6 18 := by rw [hA7, z_un (by decide), z_uk]
    have a19 : A7 19 = (s, f) :: A6 19 := by rw [hA7, z_uk]
    have v7 : ∀ k i, ¬ (k = 13 ∧ i = 6) → V7 k i = V k i := fun k i q => by rw [hV7, z_vn q]
    have v76 : V7 13 6 = nI (s + 1) := by rw [hV7, z_vk, hn]
    have kn : ∀ k, 14 ≤ k → k ≤ 19 → s + 1 ≤ N6 k := by
      intro k a b
      have : k = 14 ∨ k = 15 ∨ k = 16 ∨ k = 17 ∨ k = 18 ∨ k = 19 := by omega
      rcases this with rfl | rfl | rfl | rfl | rfl | rfl
      · exact k14
      · exact k15
      · exact k16
      · exact k17
      · exact k18
      · exact e6
    have fs : ∀ k, 14 ≤ k → k ≤ 19 → ∀ i, i < s → z_fn 0 (A7 k) i = z_fn 0 (A k) i := by
      intro k a b i hi
      have hne : i ≠ s := by omega
      have : k = 14 ∨ k = 15 ∨ k = 16 ∨ k = 17 ∨ k = 18 ∨ k = 19 := by omega
      rcases this with rfl | rfl | rfl | rfl | rfl | rfl
      · rw [a14, z_fcn hne, f14 i hi]
      · rw [a15, z_fcn hne, f15 i hi]
      · rw [a16, z_fcn hne, f16 i hi]
      · rw [a17, z_fcn hne, f17 i hi]
      · rw [a18, z_fcn hne, f18 i hi]
      · rw [a19, z_fcn hne, f19 i hi]
    have cf7 : 2 * τ.1.2 + 2 * z_cf (A7 14) (s + 1) ≤ 6 + j ∧ 2 * τ.2.2 + 2 * z_cf (A7 14) (s + 1) ≤ 6 + j := by
      have h6 : 2 * τ.1.2 + 2 * z_cf (A 14) s ≤ 6 + j ∧ 2 * τ.2.2 + 2 * z_cf (A 14) s ≤ 6 + j := h6
      have e1 : z_cf (A7 14) (s + 1) = z_cf (A7 14) s + (if z_fn 0 (A7 14) s = 17 ∨ z_fn 0 (A7 14) s = 19 ∨ z_fn 0 (A7 14) s = 24 then 1 else 0) := rfl
      rw [e1, z_cf_e s (fs 14 (by decide) (by decide)), a14, z_fcs]
      by_cases hoo : o = 17 ∨ o = 19 ∨ o = 24
      · rw [if_pos hoo]
        have q : 2 * τ.1.2 + 2 * z_cf (A 14) s + 2 ≤ 6 + j ∧ 2 * τ.2.2 + 2 * z_cf (A 14) s + 2 ≤ 6 + j := ho hoo
        omega
      · rw [if_neg hoo]
        exact h6
    have rdA : ∀ k, z_rdA k = false → ¬ (14 ≤ k ∧ k ≤ 19) := by
      intro k hk q
      have : k = 14 ∨ k = 15 ∨ k = 16 ∨ k = 17 ∨ k = 18 ∨ k = 19 := by omega
      rcases this with rfl | rfl | rfl | rfl | rfl | rfl <;> cases hk
    have rdV : ∀ k i, z_rdV k i = false → ¬ (k = 13 ∧ i = 6) := by
      rintro k i hk ⟨rfl, rfl⟩
      cases hk
    refine ⟨by rw [h7]; exact z_inI (by omega) (nb6 14 rfl), by rw [h7]; exact z_inI (by omega) (nb6 15 rfl), by rw [h7]; exact z_inI (by omega) (nb6 16 rfl), by rw [h7]; exact z_inI (by omega) (nb6 17 rfl), by rw [h7]; exact z_inI (by omega) (nb6 18 rfl), by rw [h7]; exact z_inI (by omega) (nb6 19 rfl), rfl, ?_, ⟨⟨fun k hk => a7 k (rdA k hk), rfl, fun k hk => pN k hk.2, fun k i hk => v7 k i (rdV k i hk), gw⟩, fs, fun k a b i _ => ?_⟩, ⟨?_, ?_, ?_, ?_, ?_, ?_⟩, a7 25 (by decide), a7 26 (by decide)⟩
    · exact ⟨h1.cg rfl (a7 6 (by decide)) (a7 7 (by decide)) (fun i => v7 3 i (by omega)) rfl rfl rfl (fun _ _ _ => rfl) r6, h2.cg (a7 21 (by decide)) rfl rfl (v7 20 3 (by decide)) rfl, ⟨h3.cg (fun k a b => a7 k (by omega)) (fun k a b => pN k (by omega)) (v7 8 4 (by decide)), h4, h5.cg (a7 22 (by decide)) (a7 23 (by decide)) rfl rfl⟩, cf7, ⟨v76, kn⟩, ⟨(v7 13 7 (by decide)).trans h9.1, h9.2⟩, h12, (v7 24 7 (by decide)).trans h13⟩
    · show z_fn 0 (A7 k) i = z_fn 0 (A k) i
      rw [a7 k (by omega)]
    · show z_fn 0 (A7 14) s = o
      rw [a14, z_fcs]
    · show z_fn 0 (A7 15) s = a1
      rw [a15, z_fcs]
    · show z_fn 0 (A7 16) s = a2
      rw [a16, z_fcs]
    · show z_fn 0 (A7 17) s = 0
      rw [a17, z_fcs]
    · show z_fn 0 (A7 18) s = 0
      rw [a18, z_fcs]
    · show z_fn 0 (A7 19) s = f
      rw [a19, z_fcs]
  obtain ⟨v, S', q1, q2, q3⟩ := this
  rw [q2] at q1
  exact ⟨S', q1, q3⟩
end ZPP
