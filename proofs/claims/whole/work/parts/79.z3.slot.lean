/-! Reading programs, both together: operators that wait. -/
/-- the reference's cells of an operator of rank r: its kind, its left operand, where that stands -/
def z_kc (r : Nat) : Nat := 85 + 3 * r
def z_nc (r : Nat) : Nat := if r = 2 then 91 else 86 + 3 * r
def z_pc (r : Nat) : Nat := if r = 2 then 92 else 87 + 3 * r
section ZSL
variable (b : Nat → Nat) (n me : Nat) (τ : z_TT) (A B : Nat → List (Nat × Int32)) (u : z_Bd) (f d : Nat)
/-- an operator of rank r waits, or none: the class's i-th, its left operand from s to s' -/
def z_Sk (r i s q i' s' q' : Nat) : Prop := (i' = i ∧ s' = s ∧ q' = q ∧ z_fn 0 (B (z_kc r)) d = -1) ∨ (i' = i + 1 ∧ ∃ o m p, (9 ≤ o ∧ o ≤ 13 ∧ z_rnk (nI o) = nI r) ∧ z_fn 0 (A 25) i = nI o ∧ z_fn 0 (A 26) i = nI p ∧ (r = 2 ∨ z_fn 0 (B (z_kc r)) d = nI (o - 4)) ∧ z_fn 0 (B (z_nc r)) d = nI m ∧ z_fn 0 (B (z_pc r)) d = nI p ∧ z_Cp b n me τ A B ((q, q'), u.2) f (z_wx d - r) m s s' (nI p))
/-- those of ranks below r -/
def z_Sks : Nat → Nat → Nat → Nat → Nat → Nat → Nat → Prop
  | 0, i0, s0, q0, i, s, q => i = i0 ∧ s = s0 ∧ q = q0
  | r + 1, i0, s0, q0, i, s, q => ∃ i1 s1 q1, z_Sks r i0 s0 q0 i1 s1 q1 ∧ z_Sk b n me τ A B u f d r i1 s1 q1 i s q
end ZSL
/-- an operand m at p is in hand; operators of ranks below r wait -/
def z_Hr (b : Nat → Nat) (n me : Nat) (ep : Nat → Nat) (d j0 : Nat) (τ0 : z_TT) (s0 nn0 kk0 w0 : Nat) (S0 : z_CS) (R0 : z_RS) (p0 r j : Nat) (t : Nat × Nat × Int32) (i m p : Nat) (S : z_CS) (R : z_RS) : Prop :=
  ∃ (τ : z_TT) (s nn kk f s3 q3 : Nat), z_P b n me ep j t τ s nn kk i S R ∧ z_Zd (d + 1) R ∧ z_Cp b n me τ S.1 R.1 ((q3, nn), (kk0, kk)) f (z_wx d - r) m s3 s (nI p) ∧ z_Sks b n me τ S.1 R.1 ((nn0, nn), (kk0, kk)) f d r w0 s0 nn0 i s3 q3 ∧ z_FR nn0 kk0 d R0 R ∧ (∀ k, 80 ≤ k → k ≤ 84 → z_fn 0 (R.1 k) d = z_fn 0 (R0.1 k) d) ∧ z_fn 0 (R.1 95) d = -1 ∧ z_Te τ0 τ ∧ z_FC s0 w0 S0 S ∧ (j0 < j ∧ s + i + 2 + 3 * j0 ≤ s0 + w0 + 3 * j ∧ 5 * kk + j0 ≤ 5 * kk0 + j ∧ nn0 < nn ∧ kk0 ≤ kk ∧ s0 < s) ∧ ((i = w0 → nI p = nI p0) ∧ (w0 < i → z_fn 0 (S.1 26) w0 = nI p0))
section ZZ3
variable {b : Nat → Nat} {n me : Nat} {ep : Nat → Nat} {j j0 : Nat} {t : Nat × Nat × Int32} {τ τ' τ0 : z_TT} {s nn kk w d k f f' i i' s' q q' q0 s0 nn0 kk0 w0 r m p p0 l : Nat} {S S' S0 : z_CS} {R R' R0 : z_RS} {u u' : z_Bd}
theorem z_Sk.mv (h : z_Sk b n me τ S.1 R.1 u f d r i s q i' s' q') (hq : u.1.1 ≤ q ∧ q' ≤ u.1.2) (hf : f ≤ f') (hS : z_Cs s s' S S') (hA : i < i' → z_fn 0 (S'.1 25) i = z_fn 0 (S.1 25) i ∧ z_fn 0 (S'.1 26) i = z_fn 0 (S.1 26) i) (hN : z_Nr u R R') (hd : z_fn 0 (R'.1 (z_kc r)) d = z_fn 0 (R.1 (z_kc r)) d ∧ z_fn 0 (R'.1 (z_nc r)) d = z_fn 0 (R.1 (z_nc r)) d ∧ z_fn 0 (R'.1 (z_pc r)) d = z_fn 0 (R.1 (z_pc r)) d) (hc : z_Tw τ.1.1 τ.1.2) (hr : z_Tw τ.2.1 τ.2.2) (ht : z_Te τ τ') (hu : (u'.1.1 ≤ u.1.1 ∧ u.1.2 ≤ u'.1.2) ∧ (u'.2.1 ≤ u.2.1 ∧ u.2.2 ≤ u'.2.2)) : z_Sk b n me τ' S'.1 R'.1 u' f' d r i s q i' s' q' := by
  obtain ⟨d1, d2, d3⟩ := hd
  rcases h with ⟨h1, h2, h2', h3⟩ | ⟨h1, o, m, p, h2, h3, h4, h5, h6, h7, h8⟩
  · exact Or.inl ⟨h1, h2, h2', d1.trans h3⟩
  · obtain ⟨a1, a2⟩ := hA (by omega)
    refine Or.inr ⟨h1, o, m, p, h2, a1.trans h3, a2.trans h4, ?_, d2.trans h6, d3.trans h7, h8.mv (S' := S') (R' := R') (f' := f') (u' := ((q, q'), u'.2)) hf hS ⟨fun k a c x e1 e2 => hN.1 k a c x (Nat.le_trans hq.1 e1) (Nat.lt_of_lt_of_le e2 hq.2), hN.2⟩ hc hr ht ⟨⟨Nat.le_refl _, Nat.le_refl _⟩, hu.2⟩⟩
    rw [d1]
    exact h5
theorem z_Sk.le (h : z_Sk b n me τ S.1 R.1 u f d r i s q i' s' q') : i ≤ i' ∧ i' ≤ i + 1 ∧ s ≤ s' ∧ q ≤ q' := by
  rcases h with ⟨h1, h2, h2', h3⟩ | ⟨h1, o, m, p, h2, h3, h4, h5, h6, h7, h8⟩
  · omega
  · have a1 := h8.lt.1
    have a2 : m < q' := h8.lt.2.1
    have a3 : q ≤ m := h8.lt.2.2
    omega
theorem z_Sks.le : ∀ (r i s q : Nat), z_Sks b n me τ S.1 R.1 u f d r w0 s0 q0 i s q → w0 ≤ i ∧ i ≤ w0 + r ∧ s0 ≤ s ∧ q0 ≤ q := by
  intro r
  induction r with
  | zero =>
    intro i s q h
    obtain ⟨h1, h2, h3⟩ := h
    omega
  | succ r ih =>
    intro i s q h
    obtain ⟨i1, s1, q1, h1, h2⟩ := h
    have a := ih i1 s1 q1 h1
    have c := h2.le
    omega
theorem z_Sks.mv (hu1 : u.1.1 ≤ q0) (hf : f ≤ f') (hN : z_Nr u R R') (hc : z_Tw τ.1.1 τ.1.2) (hr : z_Tw τ.2.1 τ.2.2) (ht : z_Te τ τ') (hu : (u'.1.1 ≤ u.1.1 ∧ u.1.2 ≤ u'.1.2) ∧ (u'.2.1 ≤ u.2.1 ∧ u.2.2 ≤ u'.2.2)) : ∀ (r i s q : Nat), q ≤ u.1.2 → z_Sks b n me τ S.1 R.1 u f d r w0 s0 q0 i s q → z_Cs s0 s S S' → (∀ q, q < i → z_fn 0 (S'.1 25) q = z_fn 0 (S.1 25) q ∧ z_fn 0 (S'.1 26) q = z_fn 0 (S.1 26) q) → (∀ q, q < r → z_fn 0 (R'.1 (z_kc q)) d = z_fn 0 (R.1 (z_kc q)) d ∧ z_fn 0 (R'.1 (z_nc q)) d = z_fn 0 (R.1 (z_nc q)) d ∧ z_fn 0 (R'.1 (z_pc q)) d = z_fn 0 (R.1 (z_pc q)) d) → z_Sks b n me τ' S'.1 R'.1 u' f' d r w0 s0 q0 i s q := by
  intro r
  induction r with
  | zero => intro i s q _ h _ _ _; exact h
  | succ r ih =>
    intro i s q hq h hS hA hd
    obtain ⟨i1, s1, q1, h1, h2⟩ := h
    have a := z_Sks.le r i1 s1 q1 h1
    have c := h2.le
    exact ⟨i1, s1, q1, ih i1 s1 q1 (by omega) h1 (fun k a1 a2 q a3 a4 => hS k a1 a2 q a3 (by omega)) (fun q hq => hA q (by omega)) (fun q hq => hd q (by omega)), h2.mv ⟨by omega, hq⟩ hf (fun k a1 a2 q a3 a4 => hS k a1 a2 q (by omega) a4) (fun hl => hA i1 hl) hN (hd r (Nat.lt_succ_self r)) hc hr ht hu⟩
/-- the class looks at the last operator that waits -/
theorem z_Sks.top : ∀ (r i s q : Nat), r ≤ 3 → z_Sks b n me τ S.1 R.1 u f d r w0 s0 q0 i s q → i = w0 ∨ (w0 < i ∧ ∃ q, q < r ∧ z_rnk (z_fn 0 (S.1 25) (i - 1)) = nI q) := by
  intro r
  induction r with
  | zero =>
    intro i s q _ h
    exact Or.inl h.1
  | succ r ih =>
    intro i s q hr h
    obtain ⟨i1, s1, q1, h1, h2⟩ := h
    have a := z_Sks.le r i1 s1 q1 h1
    rcases h2 with ⟨e1, e2, e2', e3⟩ | ⟨e1, o, m, p, g2, g3, g4⟩
    · rw [e1]
      rcases ih i1 s1 q1 (by omega) h1 with q | ⟨q, v, v1, v2⟩
      · exact Or.inl q
      · exact Or.inr ⟨q, v, by omega, v2⟩
    · refine Or.inr ⟨by omega, r, Nat.lt_succ_self r, ?_⟩
      rw [e1, Nat.add_sub_cancel, g3]
      exact g2.2.2
/-- how many wait is another number -/
theorem z_P.wt {w' : Nat} (h : z_P b n me ep j t τ s nn kk w S R) : z_P b n me ep j t τ s nn kk w' (S.1, S.2.1, S.2.2.1, z_v S.2.2.2.1 24 7 (nI w'), S.2.2.2.2.1, S.2.2.2.2.2) R := by
  obtain ⟨k1, k2, ⟨k3, k4, k5⟩, k6, k7, k8, k12, k13⟩ := h
  exact ⟨k1.cg rfl rfl rfl (fun i => rfl) rfl rfl rfl (fun i a c => rfl) k1.2.2.2.2, k2.cg rfl rfl rfl rfl rfl, ⟨k3.cg (fun _ _ _ => rfl) (fun _ _ _ => rfl) rfl, k4, k5⟩, k6, k7, k8, k12, rfl⟩
/-- one operator, its operands read -/
theorem jmg {o m1 m2 p1 p2 : Nat} {rk x3 x4 : Int32} (hp : z_P b n me ep j t τ s nn kk (i + 1) S R) (hz : z_Zd d R) (hs : s ≤ 8000) (hi : i < 150) (hw0 : w0 ≤ i) (hoo : 9 ≤ o ∧ o ≤ 13) (h25 : z_fn 0 (S.1 25) i = nI o) (h26 : z_fn 0 (S.1 26) i = nI p1) (hrk : ¬ z_rnk (nI o) < rk) :
    (∃ S' R', nn < 600 ∧ (∀ Q, z_WC (l + 15) 81 3 [(0, .ref 131), (1, .int (nI w0)), (2, .int rk), (3, .int x3), (4, .int (nI p1))] [] S' Q → z_WC (l + 15) 81 3 [(0, .ref 131), (1, .int (nI w0)), (2, .int rk), (3, .int x3), (4, .int x4)] [] S Q) ∧ z_Rr 15 172 0 [(0, .ref 148), (1, .int (nI (o - 4))), (2, .int (nI m1)), (3, .int (nI p1)), (4, .int (nI m2)), (5, .int (nI p2))] [] R (some (.int (nI nn))) R' ∧ z_P b n me ep j t τ (s + 1) (nn + 1) kk i S' R' ∧ z_Zd d R' ∧ (z_fn 0 (R'.1 57) nn = nI (o - 4) ∧ z_fn 0 (R'.1 58) nn = nI m1 ∧ z_fn 0 (R'.1 61) nn = nI p1 ∧ z_fn 0 (R'.1 59) nn = nI m2 ∧ z_fn 0 (R'.1 62) nn = nI p2) ∧ z_fn 0 (S'.1 14) s = nI o ∧ z_fn 0 (S'.1 19) s = nI p1 ∧ z_FC s (i + 1) S S' ∧ S'.1 25 = S.1 25 ∧ S'.1 26 = S.1 26 ∧ z_FR nn kk 50 R R' ∧ (∀ k, 80 ≤ k → k ≤ 97 → R'.1 k = R.1 k) ∧ (∀ i, ¬ i = 26 → R'.2.2 41 i = R.2.2 41 i)) ∨
    (∃ S' R', z_Cr (l + 15) 81 3 [(0, .ref 131), (1, .int (nI w0)), (2, .int rk), (3, .int x3), (4, .int x4)] [] S (.inr 10) S' ∧ z_Xd 4 (nI t.1) S S' ∧ z_Rr 15 172 0 [(0, .ref 148), (1, .int (nI (o - 4))), (2, .int (nI m1)), (3, .int (nI p1)), (4, .int (nI m2)), (5, .int (nI p2))] [] R (some (.int 0)) R' ∧ z_Td 4 (nI t.1) R'.2.2 ∧ z_Lw R R') := by
  have hr := hp.1.2.2.2.2
  have hv : S.2.2.2.1 24 7 = nI (i + 1) := hp.2.2.2.2.2.2.2
  have hP := hp.wt (w' := i)
  obtain ⟨S1, a1, P1, a3, a4, a5, a6⟩ := Pa (o := nI o) (a1 := 0) (a2 := 0) (f := nI p1) hP hs (fun h => by
    exfalso
    have no : ∀ k, 14 ≤ k → k < 100 → ¬ nI o = nI k := fun k a b h => by
      have := (nI_eq (by omega) (by omega)).mp h
      omega
    rcases h with h | h | h
    · exact no 17 (by decide) (by decide) h
    · exact no 19 (by decide) (by decide) h
    · exact no 24 (by decide) (by decide) h)
  have x01 : z_XC S (S.1, S.2.1, S.2.2.1, z_v S.2.2.2.1 24 7 (nI i), S.2.2.2.2.1, S.2.2.2.2.2) := z_XC_AV (fun _ _ => rfl) (fun q r u => z_rdV_v rfl u)
  have f01 : z_FC s (i + 1) S S1 := ⟨x01.tr a3.1, fun k a c q e => a3.2.1 k a c q e, fun k a c q e => by
    have : k = 25 ∨ k = 26 := by omega
    rcases this with rfl | rfl
    · rw [a5]
    · rw [a6]⟩
  have e1 : nI (i + 1) - 1 = nI i := nI_pred i
  have zi : z_in (nI i) 150 = true := z_inI hi (by decide)
  have zc : (nI i).toNatClampNeg = i := nI_clamp (by omega)
  -- the class comes to its count
  have cls : ∀ Q : z_V → z_CS → Prop, z_WC (l + 14) 65 0 [(0, .ref 131)] [] S1 (z_cx Q (fun x S2 => x = none ∧ z_WC (l + 15) 81 3 [(0, .ref 131), (1, .int (nI w0)), (2, .int rk), (3, .int x3), (4, .int (nI p1))] [] S2 Q)) → z_WC (l + 15) 81 3 [(0, .ref 131), (1, .int (nI w0)), (2, .int rk), (3, .int x3), (4, .int x4)] [] S Q := by
    intro Q h
    refine t81_3 (A := S.1) (E := S.2.1) (N := S.2.2.1) (V := S.2.2.2.1) (W := S.2.2.2.2.1) (c := S.2.2.2.2.2) ?_
    unfold p81_3
    rw [hv]
    refine z_ifn (nI_ge (b := i + 1) (a := w0) (by omega) (by omega)) ?_
    unfold p81_11
    rw [hv, e1, zc, h25]
    refine ⟨zi, hr.rm.1, _, S, c80, _, rfl, z_ifn hrk ?_⟩
    unfold p81_29
    rw [hv, e1, zc, h25, h26]
    exact ⟨zi, zi, hr.rm.1, _, S1, a1.up (by omega), _, rfl, P1.1.2.2.2.2.rm.1, h⟩
  rcases Pno (kd := nI (o - 4)) (a1 := nI m1) (a2 := nI p1) (a3 := nI m2) (a4 := nI p2) P1 hz with ⟨S2, R2, n600, c1, c2, P2, Z2, c5, c6, c7, c8, c9, c10⟩ | ⟨S2, R2, c1, c2, c3, c4, c5⟩
  · refine Or.inl ⟨S2, R2, n600, fun Q h => cls Q ⟨.inl none, S2, c1.up (by omega), rfl, h⟩, c2, P2, Z2, c6, by rw [c5]; exact a4.1, by rw [c5]; exact a4.2.2.2.2.2, ?_, by rw [c5, a5], by rw [c5, a6], c9, c10, c7⟩
    exact ⟨f01.1.tr c8.1, fun k a c q e => by rw [c5]; exact f01.2.1 k a c q e, fun k a c q e => by rw [c5]; exact f01.2.2 k a c q e⟩
  · exact Or.inr ⟨S2, R2, z_WC.get (fun Q hq => cls Q ⟨.inr 10, S2, c1.up (by omega), rfl, hq⟩), c2.tr f01.1, c3, c4, c5⟩
/-- the reference writes cells that tell nothing of what waits -/
theorem z_Hr.upd (h : z_Hr b n me ep d j0 τ0 s0 nn0 kk0 w0 S0 R0 p0 r j t i m p S R) (h1 : ∀ k, ¬ (85 ≤ k ∧ k ≤ 96) → R'.1 k = R.1 k) (h95 : R'.1 95 = R.1 95) (h2 : ∀ k q, q ≠ d → z_fn 0 (R'.1 k) q = z_fn 0 (R.1 k) q) (h3 : ∀ q, q < r → z_fn 0 (R'.1 (z_kc q)) d = z_fn 0 (R.1 (z_kc q)) d ∧ z_fn 0 (R'.1 (z_nc q)) d = z_fn 0 (R.1 (z_nc q)) d ∧ z_fn 0 (R'.1 (z_pc q)) d = z_fn 0 (R.1 (z_pc q)) d) (h4 : R'.2.1 = R.2.1) (h5 : ∀ k q, ¬ (k = 41 ∧ 53 ≤ q ∧ q ≤ 55) → R'.2.2 k q = R.2.2 k q) : z_Hr b n me ep d j0 τ0 s0 nn0 kk0 w0 S0 R0 p0 r j t i m p S R' := by
  obtain ⟨τ, s, nn, kk, f, s3, q3, hp, hz, hC, hS, hf, h80, g95, hte, hfc, hb, hl⟩ := h
  have cl3 := hC.lt
  have ql := z_Sks.le (S := S) (R := R) r i s3 q3 hS
  have q3n : q3 ≤ nn := by
    have e1 : m < nn := cl3.2.1
    have e2 : q3 ≤ m := cl3.2.2
    omega
  have nr : z_Nr ((nn0, nn), (kk0, kk)) R R' := z_Nr.B (fun k a c => h1 k (by omega))
  have T := hp.2.2.1
  have xr : z_XR R R' := ⟨fun k q => h1 k (by omega), h4, fun k q c => h5 k q (fun e => c ⟨e.1, by omega, by omega⟩), fun e => ⟨(h5 41 11 (by omega)).symm.trans e, h5 41 12 (by omega)⟩⟩
  refine ⟨τ, s, nn, kk, f, s3, q3, hp.ref (fun k q => h1 k (by omega)) (fun q a => h5 41 q (by omega)), hz.cg (h1 80 (by decide)) (h1 81 (by decide)) h95 (h5 41 52 (by decide)) (h5 41 26 (by decide)), hC.mv (S' := S) (R' := R') (f' := f) (u' := ((q3, nn), (kk0, kk))) (Nat.le_refl _) z_Cs.rf ⟨fun k a c x e1 e2 => nr.1 k a c x (Nat.le_trans ql.2.2.2 e1) e2, nr.2⟩ T.1.1 T.2.1.1 z_Te.rf ⟨⟨Nat.le_refl _, Nat.le_refl _⟩, ⟨Nat.le_refl _, Nat.le_refl _⟩⟩, z_Sks.mv (S := S) (R := R) (S' := S) (R' := R') (u' := ((nn0, nn), (kk0, kk))) (f' := f) (Nat.le_refl _) (Nat.le_refl _) nr T.1.1 T.2.1.1 z_Te.rf ⟨⟨Nat.le_refl _, Nat.le_refl _⟩, ⟨Nat.le_refl _, Nat.le_refl _⟩⟩ r i s3 q3 q3n hS z_Cs.rf (fun _ _ => ⟨rfl, rfl⟩) h3, hf.tr (⟨xr, fun k a q c => by rw [h1 k (by omega)], fun k a c q e => by rw [h1 k (by omega)], fun k a c q e => h2 k q (by omega)⟩ : z_FR nn0 kk0 d R R') (Nat.le_refl _) (Nat.le_refl _) (Nat.le_refl _), fun k a c => by rw [h1 k (by omega)]; exact h80 k a c, by rw [h95]; exact g95, hte, hfc, hb, hl⟩
/-- the operators of rank r are read with their operands -/
theorem jst {rk x3 x4 : Int32} (h : z_Hr b n me ep d j0 τ0 s0 nn0 kk0 w0 S0 R0 p0 (r + 1) j t i m p S R) (hr2 : r ≤ 2) (hw : w0 ≤ 3 * d) (hs0 : s0 + w0 ≤ 3 * j0) (hrk : ¬ nI r < rk) :
    (z_fn 0 (R.1 (z_kc r)) d = -1 ∧ z_Hr b n me ep d j0 τ0 s0 nn0 kk0 w0 S0 R0 p0 r j t i m p S R) ∨
    (∃ o m1 p1, (9 ≤ o ∧ o ≤ 13 ∧ z_rnk (nI o) = nI r) ∧ m1 < 600 ∧ (r = 2 ∨ z_fn 0 (R.1 (z_kc r)) d = nI (o - 4)) ∧ z_fn 0 (R.1 (z_nc r)) d = nI m1 ∧ z_fn 0 (R.1 (z_pc r)) d = nI p1 ∧ m < 600 ∧
      ((∃ i' m' S' R', m' < 600 ∧ (∀ Q, z_WC (l + 15) 81 3 [(0, .ref 131), (1, .int (nI w0)), (2, .int rk), (3, .int x3), (4, .int (nI p1))] [] S' Q → z_WC (l + 15) 81 3 [(0, .ref 131), (1, .int (nI w0)), (2, .int rk), (3, .int x3), (4, .int x4)] [] S Q) ∧ z_Rr 15 172 0 [(0, .ref 148), (1, .int (nI (o - 4))), (2, .int (nI m1)), (3, .int (nI p1)), (4, .int (nI m)), (5, .int (nI p))] [] R (some (.int (nI m'))) R' ∧ z_Hr b n me ep d j0 τ0 s0 nn0 kk0 w0 S0 R0 p0 r j t i' m' p1 S' R' ∧ (∀ k, 80 ≤ k → k ≤ 97 → R'.1 k = R.1 k) ∧ (∀ i, ¬ i = 26 → R'.2.2 41 i = R.2.2 41 i)) ∨
       (∃ S' R', z_Cr (l + 15) 81 3 [(0, .ref 131), (1, .int (nI w0)), (2, .int rk), (3, .int x3), (4, .int x4)] [] S (.inr 10) S' ∧ z_Xd 4 (nI t.1) S0 S' ∧ z_Rr 15 172 0 [(0, .ref 148), (1, .int (nI (o - 4))), (2, .int (nI m1)), (3, .int (nI p1)), (4, .int (nI m)), (5, .int (nI p))] [] R (some (.int 0)) R' ∧ z_Dz 4 (nI t.1) (d + 1) R' ∧ z_Td 4 (nI t.1) R'.2.2 ∧ z_XR R0 R'))) := by
  obtain ⟨τ, s, nn, kk, f, s3, q3, hp, hz, hC, ⟨i1, s1, q1, hS, hk⟩, hf, h80, g95, hte, hfc, ⟨b1, b2, b3, b4, b5, b6⟩, hl⟩ := id h
  have lj := hp.1.len.1
  have T := hp.2.2.1
  have cl := hC.lt
  have n6 := hp.2.2.2.2.2.1.2.2
  have m6 : m < 600 := by
    have : m < nn := cl.2.1
    omega
  have q3m : q3 ≤ m := cl.2.2
  have mnn : m < nn := cl.2.1
  rcases hk with ⟨e1, e2, e2', e3⟩ | ⟨e1, o, m1, p1, g2, g3, g4, g5, g6, g7, g8⟩
  · refine Or.inl ⟨e3, τ, s, nn, kk, f, s3, q3, hp, hz, hC.wk (z_wr (Nat.lt_of_succ_le hz.2.1) (by omega) (Nat.le_succ r)), ?_, hf, h80, g95, hte, hfc, ⟨b1, b2, b3, b4, b5, b6⟩, hl⟩
    rw [e1, e2, e2']
    exact hS
  · have cg := g8.lt
    have m16 : m1 < 600 := by
      have : m1 < q3 := cg.2.1
      omega
    have le1 := z_Sks.le (S := S) (R := R) r i1 s1 q1 hS
    have q1m : q1 ≤ m1 := cg.2.2
    have m1q : m1 < q3 := cg.2.1
    have d50 := hz.2.1
    subst e1
    refine Or.inr ⟨o, m1, p1, g2, m16, g5, g6, g7, m6, ?_⟩
    rcases jmg (l := l) (m1 := m1) (m2 := m) (p2 := p) (x3 := x3) (x4 := x4) (w0 := w0) (rk := rk) hp hz (by omega) (by omega) le1.1 ⟨g2.1, g2.2.1⟩ g3 g4 (by rw [g2.2.2]; exact hrk) with ⟨S', R', n600, c1, c2, P2, Z2, ⟨k57, k58, k61, k59, k62⟩, o1, o2, fc1, q25, q26, fr1, c10, c7⟩ | ⟨S', R', c1, c2, c3, c4, c5⟩
    · left
      have nr : z_Nr ((nn0, nn), (kk0, kk)) R R' := fr1.nr (u := ((nn0, nn), (kk0, kk))) (Nat.le_refl _) (Nat.le_refl _)
      have cs : z_Cs s0 s S S' := fc1.cs
      refine ⟨i1, nn, S', R', n600, c1, c2, ⟨τ, s + 1, nn + 1, kk, f + 1, s1, q1, P2, Z2, ⟨⟨(show q1 ≤ nn by omega), Nat.lt_succ_self _, Nat.lt_succ_of_lt (Nat.lt_trans cg.1 cl.1)⟩, o2, ?_⟩, ?_, ?_, fun k a c => by rw [c10 k a (by omega)]; exact h80 k a c, by rw [c10 95 (by decide) (by decide)]; exact g95, hte, ?_, ⟨b1, by omega, b3, by omega, b5, by omega⟩, fun e => ?_, fun e => ?_⟩, c10, c7⟩
      · refine Or.inr (Or.inr (Or.inr (Or.inr (Or.inr (Or.inr (Or.inr (Or.inr (Or.inr (Or.inl ⟨o - 4, by omega, by omega, k57, m1, m, s3, ((q1, q3), (kk0, kk)), ((q3, nn), (kk0, kk)), ⟨z_S1i (Nat.le_refl _) (by omega) (Nat.le_refl _) (Nat.le_refl _) (Or.inr (by omega)), z_S1i (by omega) (Nat.le_succ _) (Nat.le_refl _) (Nat.le_refl _) (Or.inr (Nat.le_refl _)), Nat.le_refl _⟩, k58, k59, cg.1, cl.1, ?_, ?_, ?_⟩)))))))))
        · rw [k61]
          exact ⟨z_wle.z, g8.mv (S' := S') (R' := R') (f' := f) (u' := ((q1, q3), (kk0, kk))) (Nat.le_refl _) (fun k a c q e1 e2 => cs k a c q (by omega) (by omega)) ⟨fun k a c x e1 e2 => nr.1 k a c x (Nat.le_trans le1.2.2.2 e1) (Nat.lt_of_lt_of_le e2 (by show q3 ≤ nn; omega)), nr.2⟩ T.1.1 T.2.1.1 z_Te.rf ⟨⟨Nat.le_refl _, Nat.le_refl _⟩, ⟨Nat.le_refl _, Nat.le_refl _⟩⟩⟩
        · rw [k62]
          exact ⟨z_wb (Nat.lt_of_succ_le d50) (Nat.le_succ_of_le hr2), hC.mv (S' := S') (R' := R') (f' := f) (u' := ((q3, nn), (kk0, kk))) (Nat.le_refl _) (fun k a c q e1 e2 => cs k a c q (by omega) (by omega)) ⟨fun k a c x e1 e2 => nr.1 k a c x (Nat.le_trans (by show nn0 ≤ q3; omega) e1) e2, nr.2⟩ T.1.1 T.2.1.1 z_Te.rf ⟨⟨Nat.le_refl _, Nat.le_refl _⟩, ⟨Nat.le_refl _, Nat.le_refl _⟩⟩⟩
        · show z_fn 0 (S'.1 14) s = nI (o - 4 + 4)
          rw [o1, Nat.sub_add_cancel (by omega)]
      · exact z_Sks.mv (S := S) (R := R) (S' := S') (R' := R') (u' := ((nn0, nn + 1), (kk0, kk))) (f' := f + 1) (Nat.le_refl _) (Nat.le_succ _) nr T.1.1 T.2.1.1 z_Te.rf ⟨⟨Nat.le_refl _, Nat.le_succ _⟩, ⟨Nat.le_refl _, Nat.le_refl _⟩⟩ r i1 s1 q1 (by show q1 ≤ nn; omega) hS (fun k a c q e1 e2 => cs k a c q e1 (by omega)) (fun q _ => ⟨by rw [q25], by rw [q26]⟩) (fun q hq => by
          have a1 : 80 ≤ z_kc q ∧ z_kc q ≤ 97 := by unfold z_kc; omega
          have a2 : 80 ≤ z_nc q ∧ z_nc q ≤ 97 := by unfold z_nc; split <;> omega
          have a3 : 80 ≤ z_pc q ∧ z_pc q ≤ 97 := by unfold z_pc; split <;> omega
          exact ⟨by rw [c10 _ a1.1 a1.2], by rw [c10 _ a2.1 a2.2], by rw [c10 _ a3.1 a3.2]⟩)
      · exact hf.tr fr1 (Nat.le_of_lt b4) b5 (by omega)
      · exact hfc.tr fc1 (Nat.le_of_lt b6) (by omega)
      · rw [← g4, e]
        exact hl.2 (by omega)
      · rw [q26]
        exact hl.2 (by omega)
    · exact Or.inr ⟨S', R', c1, c2.tr hfc.1, c3, ⟨c4.q, hz.lw c5⟩, c4, hf.1.tr c5.xR⟩
end ZZ3
