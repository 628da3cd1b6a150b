/-! A piece of the stack taken up. -/
section YT
variable {b : Nat → Nat} {n : Nat} {τ : z_TT} {A1 B1 A2 : Nat → List (Nat × Int32)} {ce : Nat}
variable {rr rr' : Nat → Int32} {rd rd' : Nat} {fg fg' : List Nat} {B B' : Nat → List (Nat × Int32)} {vr vr' : z_F → Int32 → Int32 → Prop}
variable {mm mm' : Nat → Int32} {K0 K0' : y_K} {b0 T : Nat}
theorem y_Fr.dn {tp bs : Nat} {D : y_D} (hm : ∀ x, x < T → mm' x = mm (x + b0)) (hr : ∀ x, x < rd → ¬ x ∈ fg → rr' x = rr x ∧ ¬ x ∈ fg') (hrd : rd ≤ rd') (hb : b0 ≤ bs) (hT : tp ≤ T + b0) (h : y_Fr A1 A2 ce rr rd fg mm tp bs D) : y_Fr A1 A2 ce rr' rd' fg' mm' (tp - b0) (bs - b0) D := by
  obtain ⟨⟨h1, h1'⟩, h2, ⟨mk, h3, h4, h5⟩, h6, h7, h8⟩ := h
  refine ⟨⟨by omega, h1'⟩, ?_, ⟨mk, ?_, h4, h5⟩, by omega, fun k hk => (hr _ (by omega) (h7 k hk)).2, h8⟩
  · rw [hm _ (by omega), show bs - b0 + 2 + b0 = bs + 2 by omega]
    exact h2
  · rw [(hr D.1 (by omega) (h7 0 (Nat.zero_le _))).1]
    exact h3
theorem y_va.dn {tp bs N : Nat} {D : y_D} (hm : ∀ x, x < T → mm' x = mm (x + b0)) (hr : ∀ x, x < rd → ¬ x ∈ fg → rr' x = rr x ∧ ¬ x ∈ fg') (hb : b0 ≤ bs) (hT : tp ≤ T + b0) (h : y_Fr A1 A2 ce rr rd fg mm tp bs D) (hN : N ≤ D.2.1 + D.2.2.2.1) : ∀ k, k < N → y_va rr' mm' (bs - b0) D k = y_va rr mm bs D k := by
  obtain ⟨⟨h1, h1'⟩, h2, -, h6, h7, h8⟩ := h
  intro k hk
  unfold y_va
  by_cases e : D.2.1 ≤ k
  · rw [if_pos e, if_pos e, hm _ (by omega), show bs - b0 + 4 + (k - D.2.1) + b0 = bs + 4 + (k - D.2.1) by omega]
  · rw [if_neg e, if_neg e, (hr (D.1 + 1 + k) (by omega) (by rw [Nat.add_assoc]; exact h7 _ (by omega))).1]
theorem y_Nf.dn {w vv : Int32} {m f wt : Nat} {u : z_Bd} {s e : Nat} {Γ : List z_F} {tt : z_F} {tp0 tp p : Nat} {t : z_F} {tl0 tl : Nat} (hm : ∀ x, x < T → mm' x = mm (x + b0)) (hv : ∀ t x y, vr t x y → vr' t x y) (h2 : b0 ≤ tp0) (hT : tp ≤ T + b0) (h : y_Nf b n τ A1 B1 vr mm w vv m f wt u s e Γ tt tp0 tp p t tl0 tl) : y_Nf b n τ A1 B1 vr' mm' w vv m f wt u s e Γ tt (tp0 - b0) (tp - b0) p t tl0 tl := by
  have mt : tp0 < tp → mm' (tp0 - b0) = mm tp0 := fun q => by rw [hm _ (by omega), show tp0 - b0 + b0 = tp0 by omega]
  rcases h with ⟨h1, h2', h3, h4⟩ | ⟨h1, h2', h3, h4, h5⟩ | ⟨h1, h2', h3, h4⟩ | ⟨h1, h2', h3, h4⟩ | ⟨h1, h2', h3, h4⟩ | ⟨h1, h2', h3, x, y, g, t1, v1, v2, h4, h5, h6⟩ | ⟨h1, h2', h3, h4⟩
  · exact Or.inl ⟨h1, h2', by omega, h4⟩
  · exact Or.inr (Or.inl ⟨h1, h2', by omega, by rw [mt (by omega)]; exact h4, h5⟩)
  · exact Or.inr (Or.inr (Or.inl ⟨h1, h2', by omega, h4⟩))
  · exact Or.inr (Or.inr (Or.inr (Or.inl ⟨h1, h2', by omega, h4⟩)))
  · exact Or.inr (Or.inr (Or.inr (Or.inr (Or.inl ⟨h1, h2', by omega, h4⟩))))
  · exact Or.inr (Or.inr (Or.inr (Or.inr (Or.inr (Or.inl ⟨h1, h2', by omega, x, y, g, t1, v1, v2, h4, by rw [mt (by omega)]; exact hv _ _ _ h5, h6⟩)))))
  · exact Or.inr (Or.inr (Or.inr (Or.inr (Or.inr (Or.inr ⟨h1, h2', by omega, h4⟩)))))
theorem y_Hn.dn {D : y_D} {tp bs m s e f wt : Nat} {u : z_Bd} {Γ : List z_F} {tt : z_F} {cs : List Nat} {nm : Int32} {x y g h : Nat} {r : List (Nat × Nat)} {t1 : z_F} {v1 v2 : z_Bd} (hm : ∀ x, x < T → mm' x = mm (x + b0)) (hr : ∀ x, x < rd → ¬ x ∈ fg → rr' x = rr x ∧ ¬ x ∈ fg') (hv : ∀ t x y, vr t x y → vr' t x y) (hb0 : b0 ≤ bs) (hT : tp ≤ T + b0) (hf : y_Fr A1 A2 ce rr rd fg mm tp bs D) (hc : ∀ c, c ∈ cs → y_sB B B' c) (hn : y_Hn b n τ A1 B1 A2 ce rr B vr mm D bs m s e f wt u Γ tt cs nm x y g h r t1 v1 v2) : y_Hn b n τ A1 B1 A2 ce rr' B' vr' mm' D (bs - b0) m s e f wt u Γ tt cs nm x y g h r t1 v1 v2 := by
  obtain ⟨n1, ⟨n2, n3⟩, n4, n5, n6⟩ := hn
  have hb := hf.1.1
  refine ⟨n1, ⟨?_, n3⟩, n4, y_en.mo hv _ _ _ _ (y_va.dn hm hr hb0 hT hf (by rw [← n4.1]; omega)) hc n5, n6⟩
  rw [hm _ (by omega), show bs - b0 + 3 + b0 = bs + 3 by omega]
  exact n2
theorem y_sk.dn (hm : ∀ x, x < T → mm' x = mm (x + b0)) (hr : ∀ x, x < rd → ¬ x ∈ fg → rr' x = rr x ∧ ¬ x ∈ fg') (hrd : rd ≤ rd') (hv : ∀ t x y, vr t x y → vr' t x y)
    (hK : ∀ D tp bs p t en tl cv ph, tp ≤ T + b0 → K0 D tp bs p t en tl cv ph → b0 ≤ bs ∧ y_Fr A1 A2 ce rr rd fg mm tp bs D ∧ K0' D (tp - b0) (bs - b0) p t en tl cv ph) : ∀ (X : y_X) D tp bs p t en tl cv ph, tp ≤ T + b0 → (∀ e, e ∈ X → ∀ c, c ∈ e.2 → y_sB B B' c) → y_sk b n τ A1 B1 A2 ce rr rd fg B vr mm K0 X D tp bs p t en tl cv ph → b0 ≤ bs ∧ y_Fr A1 A2 ce rr rd fg mm tp bs D ∧ y_sk b n τ A1 B1 A2 ce rr' rd' fg' B' vr' mm' K0' X D (tp - b0) (bs - b0) p t en tl cv ph := by
  intro X
  induction X with
  | nil => intro D tp bs p t en tl cv ph hT _ h; exact hK D tp bs p t en tl cv ph hT h
  | cons x X ih =>
    intro D tp bs p t en tl cv ph hT hc h
    have hcX : ∀ e, e ∈ X → ∀ c, c ∈ e.2 → y_sB B B' c := fun e he => hc e (List.mem_cons_of_mem _ he)
    have hcx := hc x List.mem_cons_self
    have be : ∀ {t' : z_F}, bs + 4 ≤ T + b0 → y_Be A1 ce mm (y_sk b n τ A1 B1 A2 ce rr rd fg B vr mm K0 X) bs t' ph → b0 ≤ bs ∧ y_Be A1 ce mm' (y_sk b n τ A1 B1 A2 ce rr' rd' fg' B' vr' mm' K0' X) (bs - b0) t' ph := by
      intro t' hbT hb
      obtain ⟨bk, bl, D', k, p', en', tl', cv', ph', ⟨b1, b2, b3, b4, b5, b6⟩, b7, b8⟩ := hb
      obtain ⟨g1, -, f2⟩ := ih D' bs (bs - bl) p' t' en' tl' cv' ph' (by omega) hcX b8
      rw [show bs - bl - b0 = bs - b0 - bl by omega] at f2
      refine ⟨by omega, bk, bl, D', k, p', en', tl', cv', ph', ⟨?_, ?_, b3, by omega, b5, b6⟩, b7, f2⟩
      · rw [hm _ (by omega), show bs - b0 + b0 = bs by omega]
        exact b1
      · rw [hm _ (by omega), show bs - b0 + 1 + b0 = bs + 1 by omega]
        exact b2
    obtain ⟨m, x1, x2, x3, h | ⟨e1, e2, e3, hf, h⟩⟩ := h
    · obtain ⟨f, wt, u, s, e, Γ, tt, tp0, en0, tl0, cv0, q1, ⟨⟨s1, s2, s3, s4⟩, s5, ⟨u1, u2, u3, u4, u5⟩, s7, k, p', s8, s9⟩, q3, q4⟩ := h
      have tpl := q4.tp
      obtain ⟨g1, f1, f2⟩ := ih D tp0 bs p' tt en0 tl0 cv0 ph (by omega) hcX s9
      have hn := f1.nm s1 s2 (by omega)
      have fb := f1.1.1
      exact ⟨g1, f1.up tpl.1, m, x1, x2, x3, Or.inl ⟨f, wt, u, s, e, Γ, tt, tp0 - b0, en0, tl0, cv0, q1, ⟨⟨s1, s2, s3, s4⟩, y_en.mo hv _ _ _ _ (y_va.dn hm hr g1 (by omega) f1 hn) hcx s5, ⟨u1, u2, by omega, u4, u5⟩, s7, k, p', s8, f2⟩, q3, q4.dn hm hv (by omega) hT⟩⟩
    · have hb := hf.1.1
      rcases h with ⟨w1, ⟨w2, w3, w4, w5⟩, w6, w7⟩ | ⟨w1, s, e, f, wt, u, Γ, tt, y1, y2, g, h, r, v1, v2, w2, w3, w4⟩
      · obtain ⟨g1, g2⟩ := be (by omega) w7
        refine ⟨g1, hf, m, x1, x2, x3, Or.inr ⟨e1, e2, by omega, hf.dn hm hr hrd g1 hT, Or.inl ⟨w1, ⟨w2, w3, ?_, w5⟩, w6, g2⟩⟩⟩
        rw [hm _ (by omega), show bs - b0 + 3 + b0 = bs + 3 by omega]
        exact w4
      · obtain ⟨g1, g2⟩ := be (by omega) w4
        exact ⟨g1, hf, m, x1, x2, x3, Or.inr ⟨e1, e2, by omega, hf.dn hm hr hrd g1 hT, Or.inr ⟨w1, s, e, f, wt, u, Γ, tt, y1, y2, g, h, r, v1, v2, w2.dn hm hr hv g1 hT hf hcx, w3, g2⟩⟩⟩
end YT
/-- how many frames there are, counted in the rows -/
theorem y_ct_dp {R : z_RS} {off : Nat} : ∀ X : y_X, y_Px (y_do R) off X → y_ct R off X.length = y_dp X := by
  intro X
  induction X with
  | nil => intro _; rfl
  | cons x X ih =>
    intro h
    show y_ct R off X.length + (if z_fn 0 (R.1 111) (off + X.length) < 7 then 0 else 1) = y_dp X + (if x.1.1 < 7 then 0 else 1)
    rw [ih h.2, show z_fn 0 (R.1 111) (off + X.length) = x.1.1 from congrArg (fun q : y_E => q.1) h.1]
/-- the rows away behind entries put away -/
theorem y_ca_row {h aw : Nat} : ∀ (k : Nat) (R : z_RS), (∀ j, j < aw → y_aw (y_ca h aw k R) j = y_aw R j) ∧ ∀ j, j < k → y_aw (y_ca h aw k R) (aw + j) = y_do R (h + j) := by
  intro k R
  induction k with
  | zero => exact ⟨fun _ _ => rfl, fun j hj => absurd hj (Nat.not_lt_zero _)⟩
  | succ k ih =>
    obtain ⟨i1, i2⟩ := ih
    obtain ⟨C, hC⟩ : ∃ X, X = y_ca h aw k R := ⟨_, rfl⟩
    rw [← hC] at i1 i2
    have hS : y_ca h aw (k + 1) R = y_pa (aw + k) (y_do R (h + k)) C := by rw [hC]; rfl
    obtain ⟨z, hz⟩ : ∃ z, z = y_do R (h + k) := ⟨_, rfl⟩
    rw [← hz] at hS
    have hu : (y_pa (aw + k) z C).1 = z_u (z_u (z_u (z_u C.1 115 ((aw + k, z.1) :: C.1 115)) 116 ((aw + k, z.2.1) :: C.1 116)) 117 ((aw + k, z.2.2.1) :: C.1 117)) 118 ((aw + k, z.2.2.2) :: C.1 118) := rfl
    have e115 : (y_pa (aw + k) z C).1 115 = (aw + k, z.1) :: C.1 115 := by rw [hu, z_un (by decide), z_un (by decide), z_un (by decide), z_uk]
    have e116 : (y_pa (aw + k) z C).1 116 = (aw + k, z.2.1) :: C.1 116 := by rw [hu, z_un (by decide), z_un (by decide), z_uk]
    have e117 : (y_pa (aw + k) z C).1 117 = (aw + k, z.2.2.1) :: C.1 117 := by rw [hu, z_un (by decide), z_uk]
    have e118 : (y_pa (aw + k) z C).1 118 = (aw + k, z.2.2.2) :: C.1 118 := by rw [hu, z_uk]
    have e : ∀ j, j ≠ aw + k → y_aw (y_pa (aw + k) z C) j = y_aw C j := by
      intro j hj
      unfold y_aw
      rw [e115, e116, e117, e118, z_fcn hj, z_fcn hj, z_fcn hj, z_fcn hj]
    have es : y_aw (y_pa (aw + k) z C) (aw + k) = z := by
      unfold y_aw
      rw [e115, e116, e117, e118, z_fcs, z_fcs, z_fcs, z_fcs]
    rw [hS]
    refine ⟨fun j hj => (e j (by omega)).trans (i1 j hj), fun j hj => ?_⟩
    by_cases q : j = k
    · rw [q, es, hz]
    · exact (e (aw + j) (by omega)).trans (i2 j (by omega))
section YTG
variable {b : Nat → Nat} {n : Nat} {τ : z_TT} {A1 B1 A2 : Nat → List (Nat × Int32)} {ce : Nat} {R0 R : z_RS}
variable {rr : Nat → Int32} {rd : Nat} {fu : Int32} {th dp : Nat} {X2 : y_X} {cs0 cs' : List Nat} {al : Nat → Prop} {φ : Nat → Nat} {ψ : Nat → z_F} {F : Nat} {fg : List Nat} {fc : Nat → List Nat} {Y : Nat → y_X} {pd cp : Nat → Nat} {aw : Nat}
theorem y_iv_iv {j : Nat} {v w : Int32} {R : z_RS} : y_iv j v (y_iv j w R) = y_iv j v R := by
  show (R.1, R.2.1, z_v (z_v R.2.2 41 j w) 41 j v) = (R.1, R.2.1, z_v R.2.2 41 j v)
  rw [y_vv]
/-- the last that waits is dropped -/
theorem y_Gr.drop : ∀ (X1 : y_X) (R : z_RS), y_Gr b n τ A1 B1 A2 ce R0 rr rd fu th dp (X1 ++ X2) cs0 al φ ψ F fg fc Y pd cp aw R → y_Gr b n τ A1 B1 A2 ce R0 rr rd fu th dp X2 cs0 al φ ψ F fg fc Y pd cp aw (y_iv 96 (nI X2.length) R) := by
  intro X1
  induction X1 with
  | nil =>
    intro R h
    have e : y_iv 96 (nI X2.length) R = R := by
      show (R.1, R.2.1, z_v R.2.2 41 96 (nI X2.length)) = R
      rw [y_vs (show R.2.2 41 96 = nI X2.length from h.2.1.1)]
    rw [e]
    exact h
  | cons x X1 ih =>
    intro R h
    have h1 := ih _ (h.pop).1
    rw [y_iv_iv] at h1
    exact h1
/-- the rows of the state in which a clause begins -/
theorem y_pc_row {hi h cu m : Nat} (h97 : R.2.2 41 97 = nI aw) : ∃ R2 : z_RS, y_pc hi h F th cu aw dp m fu R = y_pt h (9, nI m, 0, -1) R2 ∧ (∀ q, q < 98 ∨ (101 < q ∧ q < 115) ∨ 125 < q → R2.1 q = R.1 q) ∧ (∀ q, 98 ≤ q → q ≤ 101 → R2.1 q = R.1 q) ∧ (∀ f, f < F → y_sF R.1 R2.1 f) ∧ R2.2.1 = R.2.1 ∧ (∀ a k, ¬ (a = 41 ∧ (k = 96 ∨ k = 97 ∨ k = 98 ∨ k = 99 ∨ k = 100 ∨ k = 114)) → R2.2.2 a k = R.2.2 a k) ∧ (R2.2.2 41 96 = nI h ∧ R2.2.2 41 97 = nI (aw + (hi - h)) ∧ R2.2.2 41 98 = fu + 1 ∧ R2.2.2 41 99 = nI (th + 1 + (cu + 1)) ∧ R2.2.2 41 100 = nI (dp - cu) ∧ R2.2.2 41 114 = nI (F + 1)) ∧ (z_fn 0 (R2.1 119) F = -1 ∧ z_fn 0 (R2.1 120) F = -1 ∧ z_fn 0 (R2.1 121) F = nI aw ∧ z_fn 0 (R2.1 122) F = nI (hi - h) ∧ z_fn 0 (R2.1 123) F = nI (cu + 1) ∧ z_fn 0 (R2.1 124) F = 0) ∧ (∀ j, j < aw → y_aw R2 j = y_aw R j) ∧ ∀ j, j < hi - h → y_aw R2 (aw + j) = y_do R (h + j) := by
  obtain ⟨N, hN⟩ : ∃ X, X = y_nf F th (-1) (-1) (y_cs hi fu R) := ⟨_, rfl⟩
  obtain ⟨r1, r2, r3, r4, r5, r6, r7, r8, r9⟩ := y_nf.rows (F := F) (th := th) (R := y_cs hi fu R) (nn := -1) (nm := -1)
  rw [← hN] at r1 r2 r3 r4 r5 r6 r7 r8 r9
  have cR : (y_cs hi fu R).1 = R.1 := rfl
  rw [cR] at r1 r2
  obtain ⟨P, hP⟩ : ∃ X, X = y_pf hi h F th cu aw fu R := ⟨_, rfl⟩
  have P1 : P.1 = z_u (z_u (z_u N.1 121 ((F, nI aw) :: R.1 121)) 122 ((F, nI (hi - h)) :: N.1 122)) 123 ((F, nI (cu + 1)) :: R.1 123) := by rw [hP, hN]; rfl
  have P2 : P.2.2 = z_v N.2.2 41 99 (nI (th + 1 + (cu + 1))) := by rw [hP, hN]; rfl
  have P3 : P.2.1 = R.2.1 := by rw [hP]; rfl
  obtain ⟨c1, c2, c3, c4⟩ := y_ca.o (h := h) (aw := aw) (hi - h) P
  obtain ⟨q1, q2⟩ := y_ca_row (h := h) (aw := aw) (hi - h) P
  obtain ⟨C, hC⟩ : ∃ X, X = y_ca h aw (hi - h) P := ⟨_, rfl⟩
  rw [← hC] at c1 c2 c3 c4 q1 q2
  have p97 : P.2.2 41 97 = nI aw := by
    rw [P2, z_vn (by decide), r3 41 97 (by decide)]
    exact (y_cs_n (by decide) (by decide)).trans h97
  have Pq : ∀ q, q < 119 ∨ 125 < q → P.1 q = R.1 q := fun q hq => by
    rw [P1, z_un (by omega), z_un (by omega), z_un (by omega), r1 q (by omega)]
  have Pr : ∀ q, (q = 119 ∨ q = 120 ∨ q = 124) → P.1 q = N.1 q := fun q hq => by
    rw [P1, z_un (by omega), z_un (by omega), z_un (by omega)]
  have P121 : P.1 121 = (F, nI aw) :: R.1 121 := by rw [P1, z_un (by decide), z_un (by decide), z_uk]
  have P122 : P.1 122 = (F, nI (hi - h)) :: N.1 122 := by rw [P1, z_un (by decide), z_uk]
  have P123 : P.1 123 = (F, nI (cu + 1)) :: R.1 123 := by rw [P1, z_uk]
  refine ⟨y_iv 100 (nI (dp - cu)) (y_iv 96 (nI h) C), by rw [hC, hP]; rfl, fun q hq => ?_, fun q a d => ?_, fun f hf q a d => ?_, c2.trans P3, fun a k hk => ?_, ⟨?_, ?_, ?_, ?_, ?_, ?_⟩, ⟨?_, ?_, ?_, ?_, ?_, ?_⟩, fun j hj => ?_, fun j hj => ?_⟩
  · show C.1 q = R.1 q
    rw [c1 q (by omega), Pq q (by omega)]
  · show C.1 q = R.1 q
    rw [c1 q (by omega), Pq q (by omega)]
  · show z_fn 0 (C.1 q) f = z_fn 0 (R.1 q) f
    rw [c1 q (by omega)]
    rcases (show q = 119 ∨ q = 120 ∨ q = 121 ∨ q = 122 ∨ q = 123 ∨ q = 124 by omega) with rfl | rfl | rfl | rfl | rfl | rfl
    · rw [Pr 119 (by decide)]
      exact r2 f hf 119 (by decide) (by decide)
    · rw [Pr 120 (by decide)]
      exact r2 f hf 120 (by decide) (by decide)
    · rw [P121, z_fcn (by omega)]
    · rw [P122, z_fcn (by omega)]
      exact r2 f hf 122 (by decide) (by decide)
    · rw [P123, z_fcn (by omega)]
    · rw [Pr 124 (by decide)]
      exact r2 f hf 124 (by decide) (by decide)
  · show z_v (z_v C.2.2 41 96 (nI h)) 41 100 (nI (dp - cu)) a k = _
    rw [z_vn (fun q => hk ⟨q.1, by omega⟩), z_vn (fun q => hk ⟨q.1, by omega⟩), c3 a k (fun q => hk ⟨q.1, by omega⟩), P2, z_vn (fun q => hk ⟨q.1, by omega⟩), r3 a k (fun q => hk ⟨q.1, by omega⟩)]
    show z_v (z_v R.2.2 41 96 (nI hi)) 41 98 (fu + 1) a k = _
    rw [z_vn (fun q => hk ⟨q.1, by omega⟩), z_vn (fun q => hk ⟨q.1, by omega⟩)]
  · exact (y_iv_n (by decide)).trans y_iv_k
  · exact ((y_iv_n (by decide)).trans (y_iv_n (by decide))).trans (c4 p97)
  · rw [y_iv_n (by decide), y_iv_n (by decide), c3 41 98 (by decide), P2, z_vn (by decide), r3 41 98 (by decide)]
    exact y_cs_98
  · rw [y_iv_n (by decide), y_iv_n (by decide), c3 41 99 (by decide), P2, z_vk]
  · exact y_iv_k
  · rw [y_iv_n (by decide), y_iv_n (by decide), c3 41 114 (by decide), P2, z_vn (by decide)]
    exact r5
  · show z_fn 0 (C.1 119) F = -1
    rw [c1 119 (by omega), Pr 119 (by decide)]
    exact r6
  · show z_fn 0 (C.1 120) F = -1
    rw [c1 120 (by omega), Pr 120 (by decide)]
    exact r7
  · show z_fn 0 (C.1 121) F = _
    rw [c1 121 (by omega), P121, z_fcs]
  · show z_fn 0 (C.1 122) F = _
    rw [c1 122 (by omega), P122, z_fcs]
  · show z_fn 0 (C.1 123) F = _
    rw [c1 123 (by omega), P123, z_fcs]
  · show z_fn 0 (C.1 124) F = 0
    rw [c1 124 (by omega), Pr 124 (by decide)]
    exact r9
  · show y_aw C j = y_aw R j
    rw [q1 j hj]
    unfold y_aw
    rw [Pq 115 (by omega), Pq 116 (by omega), Pq 117 (by omega), Pq 118 (by omega)]
  · show y_aw C (aw + j) = y_do R (h + j)
    rw [q2 j hj]
    unfold y_do
    rw [Pq 111 (by omega), Pq 112 (by omega), Pq 113 (by omega), Pq 114 (by omega)]
end YTG
