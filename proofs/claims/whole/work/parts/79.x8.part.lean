/-! Reading programs, both together: parts of an expression, in the reference. -/
/-- these nodes and clauses are as they were -/
def z_Nr (u : z_Bd) (R R' : z_RS) : Prop := (∀ k, 57 ≤ k → k ≤ 70 → ∀ i, u.1.1 ≤ i → i < u.1.2 → z_fn 0 (R'.1 k) i = z_fn 0 (R.1 k) i) ∧ (∀ k, 71 ≤ k → k ≤ 79 → ∀ i, u.2.1 ≤ i → i < u.2.2 → z_fn 0 (R'.1 k) i = z_fn 0 (R.1 k) i)
/-- these instructions are as they were -/
def z_Cs (s e : Nat) (S S' : z_CS) : Prop := ∀ k, 14 ≤ k → k ≤ 19 → ∀ i, s ≤ i → i < e → z_fn 0 (S'.1 k) i = z_fn 0 (S.1 k) i
section ZX8
variable {u : z_Bd} {nn kk d s e w : Nat} {S S' S'' : z_CS} {R R' R'' : z_RS}
theorem z_Nr.rf : z_Nr u R R := ⟨fun _ _ _ _ _ _ => rfl, fun _ _ _ _ _ _ => rfl⟩
theorem z_Nr.tr (h : z_Nr u R R') (h' : z_Nr u R' R'') : z_Nr u R R'' := ⟨fun k a b i c e => (h'.1 k a b i c e).trans (h.1 k a b i c e), fun k a b i c e => (h'.2 k a b i c e).trans (h.2 k a b i c e)⟩
theorem z_FR.nr (h : z_FR nn kk d R R') (h1 : u.1.2 ≤ nn) (h2 : u.2.2 ≤ kk) : z_Nr u R R' := ⟨fun k a b i _ e => h.2.1 k (Or.inl ⟨a, b⟩) i (by omega), fun k a b i _ e => h.2.2.1 k a b i (by omega)⟩
theorem z_Nr.B (h : ∀ k, 57 ≤ k → k ≤ 79 → R'.1 k = R.1 k) : z_Nr u R R' := ⟨fun k a b i _ _ => by rw [h k a (by omega)], fun k a b i _ _ => by rw [h k (by omega) b]⟩
theorem z_Lw.nr (h : z_Lw R R') : z_Nr u R R' := z_Nr.B (fun k _ _ => by rw [h.1])
theorem z_Xr.nr (h : z_Xr R R') : z_Nr u R R' := z_Nr.B (fun k a b => h.1 k (by omega) (by omega))
/-- two entries of node i -/
theorem z_Nr.p2 {k1 k2 i : Nat} {v1 v2 : Int32} (hB : R'.1 = z_u (z_u R.1 k1 ((i, v1) :: R.1 k1)) k2 ((i, v2) :: R.1 k2)) (h1 : 57 ≤ k1 ∧ k1 ≤ 70) (h2 : 57 ≤ k2 ∧ k2 ≤ 70) (hi : i < u.1.1 ∨ u.1.2 ≤ i) : z_Nr u R R' := by
  refine ⟨fun k a b q c e => ?_, fun k a b q c e => ?_⟩
  · rw [hB]
    have hne : q ≠ i := by omega
    by_cases e2 : k = k2
    · subst e2
      rw [z_uk, z_fcn hne]
    · rw [z_un e2]
      by_cases e1 : k = k1
      · subst e1
        rw [z_uk, z_fcn hne]
      · rw [z_un e1]
  · rw [hB, z_un (by omega), z_un (by omega)]
theorem z_FR.p2 {k1 k2 i : Nat} {v1 v2 : Int32} (hx : z_XR R R') (hB : R'.1 = z_u (z_u R.1 k1 ((i, v1) :: R.1 k1)) k2 ((i, v2) :: R.1 k2)) (h1 : 57 ≤ k1 ∧ k1 ≤ 70) (h2 : 57 ≤ k2 ∧ k2 ≤ 70) (hi : nn ≤ i) : z_FR nn kk d R R' := by
  refine ⟨hx, fun k a q c => ?_, fun k a b q c => ?_, fun k a b q c => ?_⟩
  · rw [hB]
    have hne : q ≠ i := by omega
    by_cases e2 : k = k2
    · subst e2
      rw [z_uk, z_fcn hne]
    · rw [z_un e2]
      by_cases e1 : k = k1
      · subst e1
        rw [z_uk, z_fcn hne]
      · rw [z_un e1]
  · rw [hB, z_un (by omega), z_un (by omega)]
  · rw [hB, z_un (by omega), z_un (by omega)]
theorem z_Cs.rf : z_Cs s e S S := fun _ _ _ _ _ _ => rfl
theorem z_Cs.tr (h : z_Cs s e S S') (h' : z_Cs s e S' S'') : z_Cs s e S S'' := fun k a b i c q => (h' k a b i c q).trans (h k a b i c q)
theorem z_FC.cs (h : z_FC e w S S') : z_Cs s e S S' := fun k a b i _ q => h.2.1 k a b i q
theorem z_FC.cs' {e' : Nat} (h : z_FC e' w S S') (he : e ≤ e') : z_Cs s e S S' := fun k a b i _ q => h.2.1 k a b i (by omega)
theorem z_Kw.cs (h : z_Kw S S') : z_Cs s e S S' := fun k a b i _ q => by rw [h.1]
theorem z_Fq.x {τ τ' : z_TT} {x y1 y2 q : Int32} (hc : z_Tw τ.1.1 τ.1.2) (hr : z_Tw τ.2.1 τ.2.2) (h : z_Te τ τ') (f : z_Fq τ x y1 y2 q) : z_Fq τ' x y1 y2 q := by
  obtain ⟨i, i1, i2, h1, h2, h3, h4, h5, h6, h7, h8⟩ := f
  refine ⟨i, i1, i2, h1, h2, Nat.lt_of_lt_of_le h3 h.1.1, h4, h5, Nat.lt_of_lt_of_le h6 h.2.1, Nat.lt_of_lt_of_le h7 h.2.1, ?_⟩
  rw [z_dt_e hc h.1.2 h3, z_dt_e hr h.2.2 h6, z_dt_e hr h.2.2 h7]
  exact h8
/-- what was read stays what it is -/
theorem z_Cp.mv {b : Nat → Nat} {n me : Nat} {τ τ' : z_TT} {u' : z_Bd} {f f' g g' m : Nat} {p : Int32} (h : z_Cp b n me τ S.1 R.1 u f g m s e p) (hf : f ≤ f') (hS : z_Cs s e S S') (hN : z_Nr u R R') (hc : z_Tw τ.1.1 τ.1.2) (hr : z_Tw τ.2.1 τ.2.2) (ht : z_Te τ τ') (hu : (u'.1.1 ≤ u.1.1 ∧ u.1.2 ≤ u'.1.2) ∧ (u'.2.1 ≤ u.2.1 ∧ u.2.2 ≤ u'.2.2)) (hg : z_wle g g' := by first | exact z_wle.rf | exact z_w0 | exact z_w4 | exact z_w3 | exact z_w31 | exact z_w32 | exact z_w43 | exact z_w431 | exact z_wr (by omega) (by omega) (by omega)) : z_Cp b n me τ' S'.1 R'.1 u' f' g' m s e p := by
  have hse : s < e ∧ z_fn 0 (S.1 19) (e - 1) = p := by
    cases f with
    | zero => exact h.elim
    | succ f => exact ⟨h.1.2.2, h.2.1⟩
  refine z_Cp.wk ?_ hg
  exact z_Cp.cg hu hN.1 hN.2 (fun x y q => q.x hc hr ht) (fun x y1 y2 q f => f.x hc hr ht) f g m s e p p f' hf (fun k a b i c q => hS k a (by omega) i c q) (fun i c q => hS 19 (by decide) (by decide) i c (by omega)) ((hS 19 (by decide) (by decide) (e - 1) (by omega) (by omega)).trans hse.2) h
/-- the reference closes an expression that is a part of node m -/
theorem rC {m q : Nat} (h0 : R.2.2 41 11 = 0) (h53 : R.2.2 41 53 = 3) (h52 : R.2.2 41 52 = nI (d + 1)) (hd : d < 50) (h80 : z_fn 0 (R.1 80) d = nI m) (hm : m < 600) (h81 : z_fn 0 (R.1 81) d = nI q) : ∀ Q, p179_0 17 R.1 R.2.1 (z_v R.2.2 41 52 (nI d)) (nI m) (nI q) (fun x R1 => x = none ∧ z_Hq Q R1) → z_Hq Q R := by
  intro Q h
  have zi : z_in (nI d) 50 = true := z_inI (by omega) (by decide)
  have zc : (nI d).toNatClampNeg = d := nI_clamp (by omega)
  have e1 : R.2.2 41 52 - 1 = nI d := by rw [h52]; exact nI_pred d
  refine t140_79 (B := R.1) (M := R.2.1) (U := R.2.2) (z_ifp h0 (z_ifn (by rw [h53]; decide) ?_))
  unfold p140_94
  refine z_ifn (by rw [h53]; decide) (z_ifn (by rw [h53]; decide) (z_ifn (by rw [h53]; decide) ?_))
  refine t178_0 ?_
  unfold p178_0
  rw [e1, zc, h80]
  refine ⟨zi, z_ifn (nI_pos (by omega)) ?_⟩
  unfold p178_26
  rw [zc, h81]
  refine ⟨zi, ?_⟩
  refine (t179_0 (l := 17) h).im (fun v R1 hv => ⟨hv.1, rfl, hv.2⟩)
/-- the reference asks for the next part -/
theorem r159 {l : Nat} {x y : Int32} : z_Rr (l + 1) 159 0 [(0, .ref 148), (1, .int x), (2, .int y)] [] R none (R.1, R.2.1, z_v (z_v (z_v (z_v R.2.2 41 73 x) 41 74 y) 41 75 (-1)) 41 53 0) := z_WR.get (fun Q hq => t159_0 (B := R.1) (M := R.2.1) (U := R.2.2) hq)
theorem z_ak {x y : Int32} : ∀ k j, ¬ (k = 41 ∧ 13 ≤ j ∧ j ≤ 75) → z_v (z_v (z_v (z_v R.2.2 41 73 x) 41 74 y) 41 75 (-1)) 41 53 0 k j = R.2.2 k j := by
  intro k j q
  rw [z_vn (by omega), z_vn (by omega), z_vn (by omega), z_vn (by omega)]
theorem z_Aq_i {x y : Int32} (hz : z_Zd d R) (hx : z_o6 x) (h0 : d = 0 → x = -1) (hy : ∃ w, w < 304 ∧ ¬ w = 3 ∧ y = nI w) : z_Aq d (R.1, R.2.1, z_v (z_v (z_v (z_v R.2.2 41 73 x) 41 74 y) 41 75 (-1)) 41 53 0) := ⟨hz.cg rfl rfl rfl rfl rfl, rfl, hx, h0, hy⟩
/-- the reference has the whole -/
theorem r180 {l : Nat} {x : Int32} (h52 : R.2.2 41 52 = nI (d + 1)) (hd : d < 50) : z_Rr (l + 1) 180 0 [(0, .ref 148), (1, .int x)] [] R none (R.1, R.2.1, z_v (z_v (z_v R.2.2 41 54 x) 41 55 (z_fn 0 (R.1 82) d)) 41 53 3) := by
  have e1 : R.2.2 41 52 - 1 = nI d := by rw [h52]; exact nI_pred d
  refine z_WR.get (fun Q hq => t180_0 (B := R.1) (M := R.2.1) (U := R.2.2) ?_)
  unfold p180_0
  rw [e1, nI_clamp (by omega)]
  exact ⟨z_inI (by omega) (by decide), hq⟩
theorem z_wk {x y : Int32} : ∀ k j, ¬ (k = 41 ∧ 13 ≤ j ∧ j ≤ 75) → z_v (z_v (z_v R.2.2 41 54 x) 41 55 y) 41 53 3 k j = R.2.2 k j := by
  intro k j q
  rw [z_vn (by omega), z_vn (by omega), z_vn (by omega)]
end ZX8
