/-! What both hold stays when other things change. -/
section YM
variable {b : Nat → Nat} {n : Nat} {τ : z_TT} {A1 B1 A2 : Nat → List (Nat × Int32)} {ce : Nat}
variable {rr rr' : Nat → Int32} {rd rd' : Nat} {fg fg' : List Nat} {B B' : Nat → List (Nat × Int32)} {vr vr' : z_F → Int32 → Int32 → Prop}
variable {mm mm' : Nat → Int32} {K0 K0' : y_K} {o d T : Nat}
def y_sB (B B' : Nat → List (Nat × Int32)) (c : Nat) : Prop := ∀ q, 98 ≤ q → q ≤ 101 → z_fn 0 (B' q) c = z_fn 0 (B q) c
theorem y_en.mo {val val' : Nat → Int32} (hv : ∀ t x y, vr t x y → vr' t x y) : ∀ (cs : List Nat) (L : List Int32) (Γ : List z_F) (nm : Int32), (∀ k, k < L.length → val' k = val k) → (∀ c, c ∈ cs → y_sB B B' c) → y_en b n B vr val cs L Γ nm → y_en b n B' vr' val' cs L Γ nm := by
  intro cs
  induction cs with
  | nil =>
    intro L Γ nm _ _ h
    cases L with
    | nil =>
      cases Γ with
      | nil => exact h
      | cons => exact h.elim
    | cons => exact h.elim
  | cons c r ih =>
    intro L Γ nm hl hc h
    cases L with
    | nil => exact h.elim
    | cons x L =>
      cases Γ with
      | nil => exact h.elim
      | cons t Γ =>
        obtain ⟨h1, h2, h3, h4, h5⟩ := h
        have q := hc c List.mem_cons_self
        refine ⟨h1, h2, ?_, ?_, ?_⟩
        · rw [q 98 (by decide) (by decide), q 99 (by decide) (by decide)]
          exact h3
        · rw [q 100 (by decide) (by decide), hl L.length (Nat.lt_succ_self _)]
          exact hv _ _ _ h4
        · rw [q 101 (by decide) (by decide)]
          exact ih L Γ _ (fun k hk => hl k (Nat.lt_succ_of_lt hk)) (fun c hc' => hc c (List.mem_cons_of_mem _ hc')) h5
theorem y_en.len {val : Nat → Int32} : ∀ (cs : List Nat) (L : List Int32) (Γ : List z_F) (nm : Int32), y_en b n B vr val cs L Γ nm → cs.length = L.length ∧ Γ.length = L.length ∧ y_lk (y_nx B) nm cs := by
  intro cs
  induction cs with
  | nil =>
    intro L Γ nm h
    cases L with
    | nil =>
      cases Γ with
      | nil => exact ⟨rfl, rfl, h⟩
      | cons => exact h.elim
    | cons => exact h.elim
  | cons c r ih =>
    intro L Γ nm h
    cases L with
    | nil => exact h.elim
    | cons x L =>
      cases Γ with
      | nil => exact h.elim
      | cons t Γ =>
        obtain ⟨h1, h2, h3, h4, h5⟩ := h
        obtain ⟨i1, i2, i3⟩ := ih L Γ _ h5
        exact ⟨by rw [List.length_cons, List.length_cons, i1], by rw [List.length_cons, List.length_cons, i2], h1, h2, i3⟩
theorem y_Fr.mo {tp bs : Nat} {D : y_D} (hm : ∀ x, 2 ≤ x → x < T → mm' (x + o) = mm x) (hr : ∀ x, x < rd → ¬ x ∈ fg → rr' x = rr x ∧ ¬ x ∈ fg') (hrd : rd ≤ rd') (hT : tp ≤ T) (h : y_Fr A1 A2 ce rr rd fg mm tp bs D) : y_Fr A1 A2 ce rr' rd' fg' mm' (tp + o) (bs + o) D := by
  obtain ⟨⟨h1, h1'⟩, h2, ⟨mk, h3, h4, h5⟩, h6, h7, h8⟩ := h
  refine ⟨⟨by omega, h1'⟩, ?_, ⟨mk, ?_, h4, h5⟩, by omega, fun k hk => (hr _ (by omega) (h7 k hk)).2, h8⟩
  · rw [show bs + o + 2 = bs + 2 + o by omega, hm (bs + 2) (by omega) (by omega)]
    exact h2
  · rw [(hr D.1 (by omega) (h7 0 (Nat.zero_le _))).1]
    exact h3
theorem y_va.mo {tp bs N : Nat} {D : y_D} (hm : ∀ x, 2 ≤ x → x < T → mm' (x + o) = mm x) (hr : ∀ x, x < rd → ¬ x ∈ fg → rr' x = rr x ∧ ¬ x ∈ fg') (hT : tp ≤ T) (h : y_Fr A1 A2 ce rr rd fg mm tp bs D) (hN : N ≤ D.2.1 + D.2.2.2.1) : ∀ k, k < N → y_va rr' mm' (bs + o) D k = y_va rr mm bs D k := by
  obtain ⟨⟨h1, h1'⟩, h2, -, h6, h7, h8⟩ := h
  intro k hk
  unfold y_va
  by_cases e : D.2.1 ≤ k
  · rw [if_pos e, if_pos e, show bs + o + 4 + (k - D.2.1) = bs + 4 + (k - D.2.1) + o by omega, hm _ (by omega) (by omega)]
  · rw [if_neg e, if_neg e, (hr (D.1 + 1 + k) (by omega) (by rw [Nat.add_assoc]; exact h7 _ (by omega))).1]
theorem y_Fr.nm {tp bs s : Nat} {D : y_D} (h : y_Fr A1 A2 ce rr rd fg mm tp bs D) (h1 : (z_ctx A1 s).2 = D.2.1 :: D.2.2.1) (h2 : D.2.2.2.2.1 ≤ s) (h3 : s ≤ D.2.2.2.2.2) : (z_ctx A1 s).1.length ≤ D.2.1 + D.2.2.2.1 := h.2.2.2.2.2 s h2 h3 (by rw [h1, List.length_cons])
theorem y_Nf.mo {w vv : Int32} {m f wt : Nat} {u : z_Bd} {s e : Nat} {Γ : List z_F} {tt : z_F} {tp0 tp p : Nat} {t : z_F} {tl0 tl : Nat} (hm : ∀ x, 2 ≤ x → x < T → mm' (x + o) = mm x) (hv : ∀ t x y, vr t x y → vr' t x y) (h2 : 2 ≤ tp0) (hT : tp ≤ T) (h : y_Nf b n τ A1 B1 vr mm w vv m f wt u s e Γ tt tp0 tp p t tl0 tl) : y_Nf b n τ A1 B1 vr' mm' w vv m f wt u s e Γ tt (tp0 + o) (tp + o) p t tl0 tl := by
  rcases h with ⟨h1, h2', h3, h4⟩ | ⟨h1, h2', h3, h4, h5⟩ | ⟨h1, h2', h3, h4⟩ | ⟨h1, h2', h3, h4⟩ | ⟨h1, h2', h3, h4⟩ | ⟨h1, h2', h3, x, y, g, t1, v1, v2, h4, h5, h6⟩ | ⟨h1, h2', h3, h4⟩
  · exact Or.inl ⟨h1, h2', by omega, h4⟩
  · exact Or.inr (Or.inl ⟨h1, h2', by omega, by rw [hm tp0 h2 (by omega)]; exact h4, h5⟩)
  · exact Or.inr (Or.inr (Or.inl ⟨h1, h2', by omega, h4⟩))
  · exact Or.inr (Or.inr (Or.inr (Or.inl ⟨h1, h2', by omega, h4⟩)))
  · exact Or.inr (Or.inr (Or.inr (Or.inr (Or.inl ⟨h1, h2', by omega, h4⟩))))
  · exact Or.inr (Or.inr (Or.inr (Or.inr (Or.inr (Or.inl ⟨h1, h2', by omega, x, y, g, t1, v1, v2, h4, by rw [hm tp0 h2 (by omega)]; exact hv _ _ _ h5, h6⟩)))))
  · exact Or.inr (Or.inr (Or.inr (Or.inr (Or.inr (Or.inr ⟨h1, h2', by omega, h4⟩)))))
theorem y_Nf.tp {w vv : Int32} {m f wt : Nat} {u : z_Bd} {s e : Nat} {Γ : List z_F} {tt : z_F} {tp0 tp p : Nat} {t : z_F} {tl0 tl : Nat} (h : y_Nf b n τ A1 B1 vr mm w vv m f wt u s e Γ tt tp0 tp p t tl0 tl) : tp0 ≤ tp ∧ tp ≤ tp0 + 1 := by
  rcases h with ⟨-, -, h, -⟩ | ⟨-, -, h, -⟩ | ⟨-, -, h, -⟩ | ⟨-, -, h, -⟩ | ⟨-, -, h, -⟩ | ⟨-, -, h, -⟩ | ⟨-, -, h, -⟩ <;> omega
theorem y_Nf.w {w vv : Int32} {m f wt : Nat} {u : z_Bd} {s e : Nat} {Γ : List z_F} {tt : z_F} {tp0 tp p : Nat} {t : z_F} {tl0 tl : Nat} (h : y_Nf b n τ A1 B1 vr mm w vv m f wt u s e Γ tt tp0 tp p t tl0 tl) : w < 7 := by
  rcases h with ⟨h, -⟩ | ⟨h, -⟩ | ⟨h, -⟩ | ⟨h, -⟩ | ⟨h, -⟩ | ⟨h, -⟩ | ⟨h, -⟩ <;> rw [h] <;> decide
theorem y_Fr.up {tp tp' bs : Nat} {D : y_D} (h : y_Fr A1 A2 ce rr rd fg mm tp bs D) (ht : tp ≤ tp') : y_Fr A1 A2 ce rr rd fg mm tp' bs D := ⟨⟨Nat.le_trans h.1.1 ht, h.1.2⟩, h.2⟩
theorem y_Hn.mo {D : y_D} {tp bs m s e f wt : Nat} {u : z_Bd} {Γ : List z_F} {tt : z_F} {cs : List Nat} {nm : Int32} {x y g h : Nat} {r : List (Nat × Nat)} {t1 : z_F} {v1 v2 : z_Bd} (hm : ∀ x, 2 ≤ x → x < T → mm' (x + o) = mm x) (hr : ∀ x, x < rd → ¬ x ∈ fg → rr' x = rr x ∧ ¬ x ∈ fg') (hv : ∀ t x y, vr t x y → vr' t x y) (hT : tp ≤ T) (hf : y_Fr A1 A2 ce rr rd fg mm tp bs D) (hc : ∀ c, c ∈ cs → y_sB B B' c) (hn : y_Hn b n τ A1 B1 A2 ce rr B vr mm D bs m s e f wt u Γ tt cs nm x y g h r t1 v1 v2) : y_Hn b n τ A1 B1 A2 ce rr' B' vr' mm' D (bs + o) m s e f wt u Γ tt cs nm x y g h r t1 v1 v2 := by
  obtain ⟨n1, ⟨n2, n3⟩, n4, n5, n6⟩ := hn
  have hb := hf.1.1
  refine ⟨n1, ⟨?_, n3⟩, n4, y_en.mo hv _ _ _ _ (y_va.mo hm hr hT hf (by rw [← n4.1]; omega)) hc n5, n6⟩
  rw [show bs + o + 3 = bs + 3 + o by omega, hm (bs + 3) (by omega) (by omega)]
  exact n2
/-- everything that waits stays -/
theorem y_sk.mo (hm : ∀ x, 2 ≤ x → x < T → mm' (x + o) = mm x) (hr : ∀ x, x < rd → ¬ x ∈ fg → rr' x = rr x ∧ ¬ x ∈ fg') (hrd : rd ≤ rd') (hv : ∀ t x y, vr t x y → vr' t x y)
    (hK : ∀ D tp bs p t en tl cv ph, tp ≤ T → K0 D tp bs p t en tl cv ph → y_Fr A1 A2 ce rr rd fg mm tp bs D ∧ K0' D (tp + o) (bs + o) p t en tl cv (ph + d)) : ∀ (X : y_X) D tp bs p t en tl cv ph, tp ≤ T → (∀ e, e ∈ X → ∀ c, c ∈ e.2 → y_sB B B' c) → y_sk b n τ A1 B1 A2 ce rr rd fg B vr mm K0 X D tp bs p t en tl cv ph → y_Fr A1 A2 ce rr rd fg mm tp bs D ∧ y_sk b n τ A1 B1 A2 ce rr' rd' fg' B' vr' mm' K0' X D (tp + o) (bs + o) p t en tl cv (ph + d) := by
  intro X
  induction X with
  | nil => intro D tp bs p t en tl cv ph hT _ h; exact hK D tp bs p t en tl cv ph hT h
  | cons x X ih =>
    intro D tp bs p t en tl cv ph hT hc h
    have hcX : ∀ e, e ∈ X → ∀ c, c ∈ e.2 → y_sB B B' c := fun e he => hc e (List.mem_cons_of_mem _ he)
    have hcx := hc x List.mem_cons_self
    have be : ∀ {t' : z_F}, bs + 4 ≤ T → y_Be A1 ce mm (y_sk b n τ A1 B1 A2 ce rr rd fg B vr mm K0 X) bs t' ph → y_Be A1 ce mm' (y_sk b n τ A1 B1 A2 ce rr' rd' fg' B' vr' mm' K0' X) (bs + o) t' (ph + d) := by
      intro t' hbT hb
      obtain ⟨bk, bl, D', k, p', en', tl', cv', ph', ⟨b1, b2, b3, b4, b5, b6⟩, b7, b8⟩ := hb
      obtain ⟨-, f2⟩ := ih D' bs (bs - bl) p' t' en' tl' cv' ph' (by omega) hcX b8
      rw [show bs - bl + o = bs + o - bl by omega] at f2
      refine ⟨bk, bl, D', k, p', en', tl', cv', ph' + d, ⟨?_, ?_, b3, by omega, b5, by omega⟩, b7, f2⟩
      · rw [hm bs (by omega) (by omega)]
        exact b1
      · rw [show bs + o + 1 = bs + 1 + o by omega, hm (bs + 1) (by omega) (by omega)]
        exact b2
    obtain ⟨m, x1, x2, x3, h | ⟨e1, e2, e3, hf, h⟩⟩ := h
    · obtain ⟨f, wt, u, s, e, Γ, tt, tp0, en0, tl0, cv0, q1, ⟨⟨s1, s2, s3, s4⟩, s5, ⟨u1, u2, u3, u4, u5⟩, s7, k, p', s8, s9⟩, q3, q4⟩ := h
      have tpl := q4.tp
      obtain ⟨f1, f2⟩ := ih D tp0 bs p' tt en0 tl0 cv0 ph (by omega) hcX s9
      have hn := f1.nm s1 s2 (by omega)
      exact ⟨f1.up tpl.1, m, x1, x2, x3, Or.inl ⟨f, wt, u, s, e, Γ, tt, tp0 + o, en0, tl0, cv0, q1, ⟨⟨s1, s2, s3, s4⟩, y_en.mo hv _ _ _ _ (y_va.mo hm hr (by omega) f1 hn) hcx s5, ⟨u1, u2, by omega, u4, u5⟩, s7, k, p', s8, f2⟩, q3, q4.mo hm hv (by have := f1.1.1; omega) hT⟩⟩
    · have hb := hf.1.1
      refine ⟨hf, m, x1, x2, x3, Or.inr ⟨e1, e2, by omega, hf.mo hm hr hrd hT, ?_⟩⟩
      rcases h with ⟨w1, ⟨w2, w3, w4, w5⟩, w6, w7⟩ | ⟨w1, s, e, f, wt, u, Γ, tt, y1, y2, g, h, r, v1, v2, w2, w3, w4⟩
      · refine Or.inl ⟨w1, ⟨w2, w3, ?_, w5⟩, w6, be (by omega) w7⟩
        rw [show bs + o + 3 = bs + 3 + o by omega, hm (bs + 3) (by omega) (by omega)]
        exact w4
      · exact Or.inr ⟨w1, s, e, f, wt, u, Γ, tt, y1, y2, g, h, r, v1, v2, w2.mo hm hr hv hT hf hcx, w3, be (by omega) w4⟩
/-- for the two ends -/
theorem y_Kr.mo {tt0 : z_F} (hm : ∀ x, 2 ≤ x → x < T → mm' x = mm x) (hr : ∀ x, x < rd → ¬ x ∈ fg → rr' x = rr x ∧ ¬ x ∈ fg') (hrd : rd ≤ rd') : ∀ D tp bs p t en tl cv ph, tp ≤ T → y_Kr A1 A2 ce rr rd fg tt0 mm D tp bs p t en tl cv ph → y_Fr A1 A2 ce rr rd fg mm tp bs D ∧ y_Kr A1 A2 ce rr' rd' fg' tt0 mm' D (tp + 0) (bs + 0) p t en tl cv (ph + 0) := by
  intro D tp bs p t en tl cv ph hT h
  obtain ⟨h1, h2, h3, h4, h5, h6, h7, h8⟩ := h
  exact ⟨h8, h1, h2, h3, h4, h5, h6, h7, h8.mo (o := 0) hm hr hrd hT⟩
theorem y_Kh.mo {tt : z_F} {x : y_E × List Nat} (hm : ∀ x, 2 ≤ x → x < T → mm' x = mm x) (hr : ∀ x, x < rd → ¬ x ∈ fg → rr' x = rr x ∧ ¬ x ∈ fg') (hrd : rd ≤ rd') (hv : ∀ t x y, vr t x y → vr' t x y) (hc : ∀ c, c ∈ x.2 → y_sB B B' c) : ∀ D tp bs p t en tl cv ph, tp ≤ T → y_Kh b n τ A1 B1 A2 ce rr rd fg B vr tt x mm D tp bs p t en tl cv ph → y_Fr A1 A2 ce rr rd fg mm tp bs D ∧ y_Kh b n τ A1 B1 A2 ce rr' rd' fg' B' vr' tt x mm' D (tp + 0) (bs + 0) p t en tl cv (ph + 0) := by
  intro D tp bs p t en tl cv ph hT h
  obtain ⟨h1, h2, h3, h4, h5, h6, h7, m, h8, h9, s, e, f, wt, u, Γ, y1, y2, g, hh, r, v1, v2, w1, w2⟩ := h
  exact ⟨h7, h1, h2, h3, h4, h5, h6, h7.mo (o := 0) hm hr hrd hT, m, h8, h9, s, e, f, wt, u, Γ, y1, y2, g, hh, r, v1, v2, w1.mo (o := 0) hm hr hv hT h7 hc, w2⟩
/-- the chains of what waits -/
theorem y_sk.ch : ∀ (X : y_X) D tp bs p t en tl cv ph, y_sk b n τ A1 B1 A2 ce rr rd fg B vr mm K0 X D tp bs p t en tl cv ph → ∀ e, e ∈ X → y_lk (y_nx B) e.1.2.2.2 e.2 ∧ e.2.length ≤ 100 ∧ ∃ m, m < 600 ∧ e.1.2.1 = nI m := by
  intro X
  induction X with
  | nil => intro D tp bs p t en tl cv ph _ e he; cases he
  | cons x X ih =>
    intro D tp bs p t en tl cv ph h e he
    obtain ⟨m, x1, x2, x3, h | ⟨e1, e2, e3, hf, h⟩⟩ := h
    · obtain ⟨f, wt, u, s, e', Γ, tt, tp0, en0, tl0, cv0, q1, ⟨s1, s5, ⟨u1, u2, u3, u4, u5⟩, s7, k, p', s8, s9⟩, q3, q4⟩ := h
      cases he with
      | head =>
        obtain ⟨l1, l2, l3⟩ := y_en.len _ _ _ _ s5
        exact ⟨l3, by omega, m, x2, x1⟩
      | tail _ he => exact ih D tp0 bs p' tt en0 tl0 cv0 ph s9 e he
    · have tl : ∀ t', y_Be A1 ce mm (y_sk b n τ A1 B1 A2 ce rr rd fg B vr mm K0 X) bs t' ph → e ∈ X → y_lk (y_nx B) e.1.2.2.2 e.2 ∧ e.2.length ≤ 100 ∧ ∃ m, m < 600 ∧ e.1.2.1 = nI m := by
        intro t' hb he
        obtain ⟨bk, bl, D', k, p', en', tl', cv', ph', b1, b7, b8⟩ := hb
        exact ih D' bs (bs - bl) p' t' en' tl' cv' ph' b8 e he
      rcases h with ⟨w1, ⟨w2, w3, w4, w5⟩, w6, w7⟩ | ⟨w1, s, e', f, wt, u, Γ, tt, y1, y2, g, h, r, v1, v2, w2, w3, w4⟩
      · cases he with
        | head =>
          rw [w2, w3]
          exact ⟨rfl, Nat.zero_le _, m, x2, x1⟩
        | tail _ he => exact tl _ w7 he
      · cases he with
        | head =>
          obtain ⟨n1, n2, n4, n5, n6, n7⟩ := w2
          obtain ⟨l1, l2, l3⟩ := y_en.len _ _ _ _ n5
          exact ⟨l3, by have := n6.1; omega, m, x2, x1⟩
        | tail _ he => exact tl _ w4 he
/-- how much waits, how high the stack is, how many steps are below -/
theorem y_sk.bd (hK : ∀ D tp bs p t en tl cv ph, K0 D tp bs p t en tl cv ph → bs = 0 ∧ en = 0 ∧ tp = bs + 4 + D.2.2.2.1 ∧ D.2.2.2.1 ≤ 128 ∧ cv.length ≤ 100 ∧ K0 D tp bs p t en tl cv 0) : ∀ (X : y_X) D tp bs p t en tl cv ph, y_sk b n τ A1 B1 A2 ce rr rd fg B vr mm K0 X D tp bs p t en tl cv ph → X.length ≤ 326 * y_dp X + en ∧ en ≤ 325 ∧ bs ≤ 333 * y_dp X ∧ tp ≤ bs + 333 ∧ (bs + 4 + D.2.2.2.1 ≤ tp ∧ D.2.2.2.1 ≤ 128) ∧ cv.length ≤ 100 ∧ (∃ ph0, ph0 ≤ ph ∧ ph0 ≤ 4601 * y_dp X ∧ y_sk b n τ A1 B1 A2 ce rr rd fg B vr mm K0 X D tp bs p t en tl cv ph0) ∧ ∃ L : List Nat, L.length ≤ 100 * y_dp X ∧ ∀ e, e ∈ X → ∀ c, c ∈ e.2 → c ∈ cv ∨ c ∈ L := by
  intro X
  induction X with
  | nil =>
    intro D tp bs p t en tl cv ph h
    obtain ⟨k1, k2, k3, k4, k5, k6⟩ := hK D tp bs p t en tl cv ph h
    exact ⟨Nat.zero_le _, by omega, by omega, by omega, ⟨by omega, k4⟩, k5, ⟨0, Nat.zero_le _, Nat.zero_le _, k6⟩, [], Nat.le_refl _, fun e he => by cases he⟩
  | cons x X ih =>
    intro D tp bs p t en tl cv ph h
    have eL : (x :: X).length = X.length + 1 := rfl
    have eD : y_dp (x :: X) = y_dp X + (if x.1.1 < 7 then 0 else 1) := rfl
    obtain ⟨m, x1, x2, x3, h | ⟨e1, e2, e3, hf, h⟩⟩ := h
    · obtain ⟨f, wt, u, s, e', Γ, tt, tp0, en0, tl0, cv0, q1, ⟨s1, s5, ⟨u1, u2, u3, u4, u5⟩, s7, k, p', s8, s9⟩, q3, q4⟩ := h
      obtain ⟨i1, i2, i3, i4, ⟨i5, i5'⟩, i6, ⟨ph0, i7, i8, i9⟩, L, i10, i11⟩ := ih D tp0 bs p' tt en0 tl0 cv0 ph s9
      have tpl := q4.tp
      have lw : x.1.1 < 7 := q4.w
      rw [if_pos lw] at eD
      obtain ⟨l1, l2, l3⟩ := y_en.len _ _ _ _ s5
      rw [eL, eD]
      refine ⟨by omega, by omega, by omega, by omega, ⟨by omega, i5'⟩, by rw [x3]; omega, ⟨ph0, i7, by omega, m, x1, x2, x3, Or.inl ⟨f, wt, u, s, e', Γ, tt, tp0, en0, tl0, cv0, q1, ⟨s1, s5, ⟨u1, u2, u3, u4, u5⟩, s7, k, p', s8, i9⟩, q3, q4⟩⟩, L, by omega, fun e he c hc => ?_⟩
      cases he with
      | head => exact Or.inl (by rw [x3]; exact hc)
      | tail _ he =>
        rcases i11 e he c hc with q | q
        · exact Or.inl (by obtain ⟨l, hl⟩ := s7; rw [x3, hl]; exact List.mem_append_right _ q)
        · exact Or.inr q
    · have key : ∀ t', y_Be A1 ce mm (y_sk b n τ A1 B1 A2 ce rr rd fg B vr mm K0 X) bs t' ph → X.length ≤ 326 * y_dp X + 325 ∧ bs ≤ 333 * y_dp X + 333 ∧ (∃ ph0, ph0 ≤ ph ∧ ph0 ≤ 4601 * (y_dp X + 1) ∧ y_Be A1 ce mm (y_sk b n τ A1 B1 A2 ce rr rd fg B vr mm K0 X) bs t' ph0) ∧ ∃ L : List Nat, L.length ≤ 100 * (y_dp X + 1) ∧ ∀ e, e ∈ X → ∀ c, c ∈ e.2 → c ∈ L := by
        intro t' hb
        obtain ⟨bk, bl, D', k, p', en', tl', cv', ph', ⟨b1, b2, b3, b4, b5, b6⟩, b7, b8⟩ := hb
        obtain ⟨i1, i2, i3, i4, i5, i6, ⟨ph0, i7, i8, i9⟩, L, i10, i11⟩ := ih D' bs (bs - bl) p' t' en' tl' cv' ph' b8
        refine ⟨by omega, by omega, ⟨ph0 + (4601 - bk), by omega, by omega, bk, bl, D', k, p', en', tl', cv', ph0, ⟨b1, b2, b3, b4, b5, Nat.le_refl _⟩, b7, i9⟩, cv' ++ L, by rw [List.length_append]; omega, fun e he c hc => ?_⟩
        rw [List.mem_append]
        exact i11 e he c hc
      have hw : ¬ x.1.1 < 7 := by
        rcases h with ⟨w | w | w, -⟩ | ⟨w, -⟩ <;> rw [w] <;> decide
      rw [if_neg hw] at eD
      have f1 := hf.1
      rw [eL, eD]
      rcases h with ⟨w1, ⟨w2, w3, w4, w5⟩, w6, w7⟩ | ⟨w1, s, e', f, wt, u, Γ, tt, y1, y2, g, h, r, v1, v2, w2, w3, w4⟩
      · obtain ⟨k1, k2, ⟨ph0, k3, k4, k5⟩, L, k6, k7⟩ := key _ w7
        refine ⟨by omega, by omega, by omega, by omega, f1, by rw [x3, w3]; exact Nat.zero_le _, ⟨ph0, k3, k4, m, x1, x2, x3, Or.inr ⟨e1, e2, e3, hf, Or.inl ⟨w1, ⟨w2, w3, w4, w5⟩, w6, k5⟩⟩⟩, L, by omega, fun e he c hc => ?_⟩
        cases he with
        | head => exact Or.inl (by rw [x3]; exact hc)
        | tail _ he => exact Or.inr (k7 e he c hc)
      · obtain ⟨k1, k2, ⟨ph0, k3, k4, k5⟩, L, k6, k7⟩ := key _ w4
        have w2' := w2
        obtain ⟨n1, n2, n4, n5, n6, n7⟩ := w2'
        obtain ⟨l1, l2, l3⟩ := y_en.len _ _ _ _ n5
        refine ⟨by omega, by omega, by omega, by omega, f1, by rw [x3]; have := n6.1; omega, ⟨ph0, k3, k4, m, x1, x2, x3, Or.inr ⟨e1, e2, e3, hf, Or.inr ⟨w1, s, e', f, wt, u, Γ, tt, y1, y2, g, h, r, v1, v2, w2, w3, k5⟩⟩⟩, L, by omega, fun e he c hc => ?_⟩
        cases he with
        | head => exact Or.inl (by rw [x3]; exact hc)
        | tail _ he => exact Or.inr (k7 e he c hc)
end YM
