/-! Which handler has a clause for an effect: both find the same. -/
def y_cz (M : Nat) : Nat := ((List.range 8).filter (fun j => !M.testBit j)).length
theorem y_bit : ∀ M : Fin 256, ∀ e : Fin 8, ((nI M.val >>> (nI e.val &&& 31)) &&& 1) = 0 → (nI M.val ||| (1 <<< (nI e.val &&& 31))) = nI (M.val ||| (1 <<< e.val)) ∧ (M.val ||| (1 <<< e.val)) < 256 ∧ y_cz (M.val ||| (1 <<< e.val)) + 1 = y_cz M.val := by
  decide +kernel
theorem y_cz8 {M : Nat} : y_cz M ≤ 8 := by
  unfold y_cz
  exact Nat.le_trans (List.length_filter_le _ _) (by rw [List.length_range]; exact Nat.le_refl 8)
def y_pos : List (Nat × Nat) → Nat → List Nat
  | [], _ => []
  | (_, y) :: r, x => x :: y_pos r (y + 1)
section YO
variable {b : Nat → Nat} {n : Nat} {τ : z_TT} {A B : Nat → List (Nat × Int32)} {u : z_Bd} {m e ce : Nat} {P : Nat → z_Bd → Nat → Nat → Nat → List z_F → z_F → Prop} {Γ : List z_F} {t : z_F}
theorem y_pos_len : ∀ (r : List (Nat × Nat)) (x : Nat), (y_pos r x).length = r.length := by
  intro r
  induction r with
  | nil => intro x; rfl
  | cons a r ih =>
    intro x
    obtain ⟨i, y⟩ := a
    show (y_pos r (y + 1)).length + 1 = r.length + 1
    rw [ih]
theorem z_Cv.len : ∀ (r : List (Nat × Nat)) (M : Nat) (q : Int32) (l x : Nat), M < 256 → z_Cv b n 8 τ A B u m P e Γ t r (nI M) q l x → r.length ≤ y_cz M := by
  intro r
  induction r with
  | nil => intro M q l x _ _; exact Nat.zero_le _
  | cons a r ih =>
    intro M q l x hM h
    obtain ⟨i, y⟩ := a
    obtain ⟨ef, -, -, -, -, -, -, ⟨h1, -, h2, -⟩, -, h3⟩ := h
    obtain ⟨k1, k2, k3⟩ := y_bit ⟨M, hM⟩ ⟨ef, h1⟩ h2
    rw [k1] at h3
    have := ih _ _ _ _ k2 h3
    have k3 : y_cz (M ||| (1 <<< ef)) + 1 = y_cz M := k3
    have this : r.length ≤ y_cz (M ||| (1 <<< ef)) := this
    rw [List.length_cons]
    omega
/-- the clause found by both -/
def y_fo (A B : Nat → List (Nat × Int32)) (b : Nat → Nat) (n : Nat) (τ : z_TT) (u : z_Bd) (m e : Nat) (P : Nat → z_Bd → Nat → Nat → Nat → List z_F → z_F → Prop) (Γ : List z_F) (t : z_F) (E : Int32) (x0 x i : Nat) : Prop := ∃ (y ef g : Nat) (v : z_Bd), (i < 300 ∧ x0 ≤ x ∧ x < y ∧ y < e ∧ z_ctx A x = z_ctx A x0) ∧ z_fn 0 (A 14) x = 24 ∧ z_Nm b n (z_fn 0 (B 73) i) (z_fn 0 (A 15) x) (z_fn 0 (B 74) i) ∧ z_Nm b n (z_fn 0 (B 75) i) (z_fn 0 (A 18) x) (z_fn 0 (B 76) i) ∧ (ef < 8 ∧ E = nI ef ∧ g < 600 ∧ z_fn 0 (B 77) i = nI g ∧ z_S1 u m v ∧ P 4 v g (x + 1) y (z_fz (z_shx τ (z_fn 0 (A 23) ef)) t :: z_shx τ (z_fn 0 (A 22) ef) :: Γ) t) ∧ z_fn 0 (A 14) y = 25
theorem z_Cv.fo {E : Int32} (hP : ∀ c v g x y Γ t, P c v g x y Γ t → z_fl A x y) (hce : e < ce) : ∀ (r : List (Nat × Nat)) (k q : Int32) (l x : Nat), 0 < x → z_Cv b n 8 τ A B u m P e Γ t r k q l x → z_ccl ce (A 16) (y_pos r x) l ∧ y_cl B q (r.map Prod.fst) ∧ ((z_fe (A 17) E (y_pos r x) = 0 ∧ y_fd B E (r.map Prod.fst) = -1) ∨ ∃ x' i, z_fe (A 17) E (y_pos r x) = x' ∧ 0 < x' ∧ y_fd B E (r.map Prod.fst) = nI i ∧ y_fo A B b n τ u m e P Γ t E x x' i) := by
  intro r
  induction r with
  | nil =>
    intro k q l x _ h
    exact ⟨h.2.1, h.1, Or.inl ⟨rfl, rfl⟩⟩
  | cons a r ih =>
    intro k q l x hx h
    obtain ⟨i, y⟩ := a
    obtain ⟨ef, ⟨h1, h2, h3, h4⟩, h5, h7, h8, h9, h10, ⟨g1, g2, g3, g, g4, g5, v, g6, h14⟩, h15, h16⟩ := h
    obtain ⟨i1, i2, i3⟩ := ih _ _ _ _ (Nat.succ_pos y) h16
    refine ⟨⟨h5, ⟨hx, by omega⟩, i1⟩, ⟨h1, h2, i2⟩, ?_⟩
    show ((if z_fn 0 (A 17) x = E then x else z_fe (A 17) E (y_pos r (y + 1))) = 0 ∧ (if z_fn 0 (B 71) i = E then nI i else y_fd B E (r.map Prod.fst)) = -1) ∨ ∃ x' i', (if z_fn 0 (A 17) x = E then x else z_fe (A 17) E (y_pos r (y + 1))) = x' ∧ 0 < x' ∧ (if z_fn 0 (B 71) i = E then nI i else y_fd B E (r.map Prod.fst)) = nI i' ∧ _
    rw [h10]
    by_cases q : z_fn 0 (B 71) i = E
    · rw [if_pos q, if_pos q]
      exact Or.inr ⟨x, i, rfl, hx, rfl, y, ef, g, v, ⟨h2, Nat.le_refl _, h3, h4, rfl⟩, h7, h8, h9, ⟨g1, q.symm.trans g2, g4, g5, g6, h14⟩, h15⟩
    · rw [if_neg q, if_neg q]
      rcases i3 with i3 | ⟨x', i', j1, j2, j3, y', ef', g', v', ⟨k1, k2, k3, k4, k5⟩, k6⟩
      · exact Or.inl i3
      · have cx : z_ctx A (y + 1) = z_ctx A x := ((hP _ _ _ _ _ _ _ h14).w24 h7 h15).2.2
        exact Or.inr ⟨x', i', j1, j2, j3, y', ef', g', v', ⟨k1, by omega, k3, k4, k5.trans cx⟩, k6⟩
end YO
/-- exactly this state waits -/
def y_Ke (Dh : y_D) (th bh ph' : Nat) (tth : z_F) (cvh : List Nat) (phh : Nat) : y_K := fun D tp bs p t en tl cv ph => D = Dh ∧ tp = th ∧ bs = bh ∧ p = ph' ∧ t = tth ∧ en = 0 ∧ tl = 0 ∧ cv = cvh ∧ ph = phh
section YOF
variable {b : Nat → Nat} {n : Nat} {τ : z_TT} {A1 B1 A2 : Nat → List (Nat × Int32)} {ce : Nat} {S0 : z_CS} {rr : Nat → Int32} {rd : Nat} {fg : List Nat} {B : Nat → List (Nat × Int32)} {vr : z_F → Int32 → Int32 → Prop} {mm : Nat → Int32} {tt0 : z_F} {E : Int32}
/-- of an entry: it has no clause for E -/
def y_nh (B1 : Nat → List (Nat × Int32)) (E : Int32) (x : y_E × List Nat) : Prop := ¬ x.1.1 = 8 ∨ (x.1.1 = 8 ∧ ∃ nd r, x.1.2.1 = nI nd ∧ nd < 600 ∧ y_cl B1 (z_fn 0 (B1 60) nd) r ∧ y_fd B1 E r = -1)
/-- the handler found -/
def y_fh (b : Nat → Nat) (n : Nat) (τ : z_TT) (A1 B1 A2 : Nat → List (Nat × Int32)) (ce : Nat) (rr : Nat → Int32) (rd : Nat) (fg : List Nat) (B : Nat → List (Nat × Int32)) (vr : z_F → Int32 → Int32 → Prop) (mm : Nat → Int32) (K : y_K) (E : Int32) (hx : y_E × List Nat) (Dh : y_D) (bh gh : Nat) (th : z_F) (phh : Nat) : Prop := hx.1.1 = 8 ∧ y_Fr A1 A2 ce rr rd fg mm (bh + 4 + Dh.2.2.2.1) bh Dh ∧ ∃ (m s e f wt : Nat) (u : z_Bd) (Γ : List z_F) (tt : z_F) (y1 y2 h : Nat) (r : List (Nat × Nat)) (v1 v2 : z_Bd) (x' i : Nat), (hx.1.2.1 = nI m ∧ m < 600) ∧ y_Hn b n τ A1 B1 A2 ce rr B vr mm Dh bh m s e f wt u Γ tt hx.2 hx.1.2.2.2 y1 y2 gh h r th v1 v2 ∧ y_Be A1 ce mm K bh tt phh ∧ (z_ccl ce (A1 16) (y_pos r (h + 1)) s ∧ y_cl B1 (z_fn 0 (B1 60) m) (r.map Prod.fst) ∧ r.length ≤ 8) ∧ z_fe (A1 17) E (y_pos r (h + 1)) = x' ∧ 0 < x' ∧ y_fd B1 E (r.map Prod.fst) = nI i ∧ y_fo A1 B1 b n τ u m (e - 1) (y_P b n τ A1 B1 f wt) Γ tt E (h + 1) x' i
theorem y_find (h16 : S0.1 16 = A1 16) (h17 : S0.1 17 = A1 17) : ∀ (X : y_X) D tp bs p t en tl cv ph, y_sk b n τ A1 B1 A2 ce rr rd fg B vr mm (y_Kr A1 A2 ce rr rd fg tt0 mm) X D tp bs p t en tl cv ph → ∃ fb : Nat → Nat, z_Fb mm tp bs (y_dp X) fb ∧ (((∀ j, j < y_dp X → z_Hd ce S0 mm (fb j) E 0) ∧ ∀ x, x ∈ X → y_nh B1 E x) ∨ ∃ (X1 X2 : y_X) (hx : y_E × List Nat) (Dh : y_D) (gh : Nat) (th : z_F) (phh : Nat), X = X1 ++ hx :: X2 ∧ (∀ j, j < y_dp X1 → z_Hd ce S0 mm (fb j) E 0) ∧ (∀ x, x ∈ X1 → y_nh B1 E x) ∧ phh ≤ ph ∧ y_fh b n τ A1 B1 A2 ce rr rd fg B vr mm (y_sk b n τ A1 B1 A2 ce rr rd fg B vr mm (y_Kr A1 A2 ce rr rd fg tt0 mm) X2) E hx Dh (fb (y_dp X1)) gh th phh ∧ y_sk b n τ A1 B1 A2 ce rr rd fg B vr mm (y_Ke Dh (fb (y_dp X1) + 4 + Dh.2.2.2.1) (fb (y_dp X1)) gh th hx.2 phh) X1 D tp bs p t en tl cv ph) := by
  intro X
  induction X with
  | nil =>
    intro D tp bs p t en tl cv ph h
    obtain ⟨h1, h2, h3, h4, h5, h6, h7, h8⟩ := h
    exact ⟨fun _ => bs, ⟨rfl, fun j hj => absurd hj (Nat.not_lt_zero _), fun j _ => by have := h8.1.1; show bs + 4 ≤ tp; omega⟩, Or.inl ⟨fun j hj => absurd hj (Nat.not_lt_zero _), fun x hx => by cases hx⟩⟩
  | cons x X ih =>
    intro D tp bs p t en tl cv ph h
    have eD : y_dp (x :: X) = y_dp X + (if x.1.1 < 7 then 0 else 1) := rfl
    obtain ⟨m, x1, x2, x3, h | ⟨e1, e2, e3, hf, h⟩⟩ := h
    · obtain ⟨f, wt, u, s, e', Γ, tt, tp0, en0, tl0, cv0, q1, ⟨s1, s5, s6, s7, k, p', s8, s9⟩, q3, q4⟩ := h
      have tpl := q4.tp
      have lw : x.1.1 < 7 := q4.w
      rw [if_pos lw, Nat.add_zero] at eD
      have n8 : ¬ x.1.1 = 8 := fun q => by rw [q] at lw; exact absurd lw (by decide)
      obtain ⟨fb, ⟨b1, b2, b3⟩, hAB⟩ := ih D tp0 bs p' tt en0 tl0 cv0 ph s9
      rw [eD]
      refine ⟨fb, ⟨b1, b2, fun j hj => Nat.le_trans (b3 j hj) tpl.1⟩, ?_⟩
      rcases hAB with ⟨a1, a2⟩ | ⟨X1, X2, hx, Dh, gh, thh, phh, c1, c2, c3, c4, c5, c6⟩
      · exact Or.inl ⟨a1, fun y hy => by
          cases hy with
          | head => exact Or.inl n8
          | tail _ hy => exact a2 y hy⟩
      · have eX : y_dp (x :: X1) = y_dp X1 := by
          show y_dp X1 + (if x.1.1 < 7 then 0 else 1) = _
          rw [if_pos lw, Nat.add_zero]
        refine Or.inr ⟨x :: X1, X2, hx, Dh, gh, thh, phh, by rw [c1]; rfl, by rw [eX]; exact c2, fun y hy => by
          cases hy with
          | head => exact Or.inl n8
          | tail _ hy => exact c3 y hy, c4, by rw [eX]; exact c5, ?_⟩
        rw [eX]
        exact ⟨m, x1, x2, x3, Or.inl ⟨f, wt, u, s, e', Γ, tt, tp0, en0, tl0, cv0, q1, ⟨s1, s5, s6, s7, k, p', s8, c6⟩, q3, q4⟩⟩
    · have hw : ¬ x.1.1 < 7 := by
        rcases h with ⟨w | w | w, -⟩ | ⟨w, -⟩ <;> rw [w] <;> decide
      rw [if_neg hw] at eD
      have fr1 := hf.1.1
      -- the frame below
      have be : ∀ t', y_Be A1 ce mm (y_sk b n τ A1 B1 A2 ce rr rd fg B vr mm (y_Kr A1 A2 ce rr rd fg tt0 mm) X) bs t' ph → ∃ fb : Nat → Nat, z_Fb mm tp bs (y_dp X + 1) fb ∧ (((∀ j, j < y_dp X → z_Hd ce S0 mm (fb (j + 1)) E 0) ∧ ∀ x, x ∈ X → y_nh B1 E x) ∨ ∃ (X1 X2 : y_X) (hx : y_E × List Nat) (Dh : y_D) (gh : Nat) (th : z_F) (phh : Nat), X = X1 ++ hx :: X2 ∧ (∀ j, j < y_dp X1 → z_Hd ce S0 mm (fb (j + 1)) E 0) ∧ (∀ x, x ∈ X1 → y_nh B1 E x) ∧ phh ≤ ph ∧ y_fh b n τ A1 B1 A2 ce rr rd fg B vr mm (y_sk b n τ A1 B1 A2 ce rr rd fg B vr mm (y_Kr A1 A2 ce rr rd fg tt0 mm) X2) E hx Dh (fb (y_dp X1 + 1)) gh th phh ∧ y_Be A1 ce mm (y_sk b n τ A1 B1 A2 ce rr rd fg B vr mm (y_Ke Dh (fb (y_dp X1 + 1) + 4 + Dh.2.2.2.1) (fb (y_dp X1 + 1)) gh th hx.2 phh) X1) bs t' ph) := by
        intro t' hb
        obtain ⟨bk, bl, D', k, p', en', tl', cv', ph', ⟨b1, b2, b3, b4, b5, b6⟩, b7, b8⟩ := hb
        obtain ⟨fb, ⟨z1, z2, z3⟩, hAB⟩ := ih D' bs (bs - bl) p' t' en' tl' cv' ph' b8
        refine ⟨fun j => if j = 0 then bs else fb (j - 1), ⟨rfl, fun j hj => ?_, fun j hj => ?_⟩, ?_⟩
        · by_cases q : j = 0
          · subst q
            show mm (bs + 1) = nI (bs - fb 0) ∧ fb 0 ≤ bs
            rw [z1, show bs - (bs - bl) = bl by omega]
            exact ⟨b2, by omega⟩
          · obtain ⟨k, rfl⟩ : ∃ k, j = k + 1 := ⟨j - 1, by omega⟩
            exact z2 k (by omega)
        · by_cases q : j = 0
          · subst q
            show bs + 4 ≤ tp
            omega
          · obtain ⟨k, rfl⟩ : ∃ k, j = k + 1 := ⟨j - 1, by omega⟩
            have := z3 k (by omega)
            show fb k + 4 ≤ tp
            omega
        · rcases hAB with ⟨a1, a2⟩ | ⟨X1, X2, hx, Dh, gh, thh, phh, c1, c2, c3, c4, c5, c6⟩
          · exact Or.inl ⟨a1, a2⟩
          · exact Or.inr ⟨X1, X2, hx, Dh, gh, thh, phh, c1, c2, c3, by omega, c5, bk, bl, D', k, p', en', tl', cv', ph', ⟨b1, b2, b3, b4, b5, b6⟩, b7, c6⟩
      have z0 : ∀ {fb : Nat → Nat} {dq : Nat}, z_Fb mm tp bs dq fb → fb 0 = bs := fun h => h.1
      rw [eD]
      rcases h with ⟨w1, ⟨w2, w3, w4, w5⟩, w6, w7⟩ | ⟨w1, s, e', f, wt, u, Γ, tt, y1, y2, g, h, r, v1, v2, w2, w3, w4⟩
      · have n8 : ¬ x.1.1 = 8 := fun q => by rcases w1 with w | w | w <;> rw [w] at q <;> exact absurd q (by decide)
        obtain ⟨fb, hz, hAB⟩ := be t w7
        have hd0 : z_Hd ce S0 mm (fb 0) E 0 := Or.inl ⟨by rw [hz.1]; exact w4, rfl⟩
        refine ⟨fb, hz, ?_⟩
        rcases hAB with ⟨a1, a2⟩ | ⟨X1, X2, hx, Dh, gh, thh, phh, c1, c2, c3, c4, c5, c6⟩
        · refine Or.inl ⟨fun j hj => ?_, fun y hy => by
            cases hy with
            | head => exact Or.inl n8
            | tail _ hy => exact a2 y hy⟩
          cases j with
          | zero => exact hd0
          | succ j => exact a1 j (by omega)
        · have eX : y_dp (x :: X1) = y_dp X1 + 1 := by
            show y_dp X1 + (if x.1.1 < 7 then 0 else 1) = _
            rw [if_neg hw]
          refine Or.inr ⟨x :: X1, X2, hx, Dh, gh, thh, phh, by rw [c1]; rfl, ?_, fun y hy => by
            cases hy with
            | head => exact Or.inl n8
            | tail _ hy => exact c3 y hy, c4, by rw [eX]; exact c5, ?_⟩
          · rw [eX]
            intro j hj
            cases j with
            | zero => exact hd0
            | succ j => exact c2 j (by omega)
          · rw [eX]
            exact ⟨m, x1, x2, x3, Or.inr ⟨e1, e2, e3, hf, Or.inl ⟨w1, ⟨w2, w3, w4, w5⟩, w6, c6⟩⟩⟩
      · have hn := w2
        obtain ⟨hc, ⟨n1, n2, n3, n4⟩, n5, env, n9, n12⟩ := w2
        have hcv := hc.2.2.2.2.2.2.2.2.2.2.2.2.2.2
        obtain ⟨k8, k9, k10⟩ := id hc.2.2.2.2
        have hse : e' - 1 < ce := by omega
        obtain ⟨f1, f2, f3⟩ := z_Cv.fo (E := E) (ce := ce) (fun c v g x y Γ t q => q.fl) hse r 0 _ s (h + 1) (Nat.succ_pos h) hcv
        have l8 : r.length ≤ 8 := Nat.le_trans (z_Cv.len r 0 _ s (h + 1) (by decide) hcv) y_cz8
        obtain ⟨fb, hz, hAB⟩ := be tt w4
        refine ⟨fb, hz, ?_⟩
        rcases f3 with ⟨f4, f5⟩ | ⟨x', i, f4, f5, f6, f7⟩
        · have hd0 : z_Hd ce S0 mm (fb 0) E 0 := Or.inr ⟨s, y_pos r (h + 1), by rw [hz.1]; exact n1, by omega, by rw [h16]; exact f1, by rw [y_pos_len]; exact l8, by rw [h17]; exact f4.symm⟩
          have nh : y_nh B1 E x := Or.inr ⟨w1, m, _, x1, x2, f2, f5⟩
          rcases hAB with ⟨a1, a2⟩ | ⟨X1, X2, hx, Dh, gh, thh, phh, c1, c2, c3, c4, c5, c6⟩
          · refine Or.inl ⟨fun j hj => ?_, fun y hy => by
              cases hy with
              | head => exact nh
              | tail _ hy => exact a2 y hy⟩
            cases j with
            | zero => exact hd0
            | succ j => exact a1 j (by omega)
          · have eX : y_dp (x :: X1) = y_dp X1 + 1 := by
              show y_dp X1 + (if x.1.1 < 7 then 0 else 1) = _
              rw [if_neg hw]
            refine Or.inr ⟨x :: X1, X2, hx, Dh, gh, thh, phh, by rw [c1]; rfl, ?_, fun y hy => by
              cases hy with
              | head => exact nh
              | tail _ hy => exact c3 y hy, c4, by rw [eX]; exact c5, ?_⟩
            · rw [eX]
              intro j hj
              cases j with
              | zero => exact hd0
              | succ j => exact c2 j (by omega)
            · rw [eX]
              exact ⟨m, x1, x2, x3, Or.inr ⟨e1, e2, e3, hf, Or.inr ⟨w1, s, e', f, wt, u, Γ, tt, y1, y2, g, h, r, v1, v2, hn, w3, c6⟩⟩⟩
        · refine Or.inr ⟨[], X, x, D, p, t, ph, rfl, fun j hj => absurd hj (Nat.not_lt_zero _), fun y hy => (by cases hy), Nat.le_refl _, ?_, ?_⟩
          · show y_fh b n τ A1 B1 A2 ce rr rd fg B vr mm _ E x D (fb 0) p t ph
            rw [hz.1]
            exact ⟨w1, by rw [← e3]; exact hf, m, s, e', f, wt, u, Γ, tt, y1, y2, h, r, v1, v2, x', i, ⟨x1, x2⟩, by rw [w3]; exact hn, w4, ⟨f1, f2, l8⟩, f4, f5, f6, f7⟩
          · show D = D ∧ tp = fb 0 + 4 + D.2.2.2.1 ∧ bs = fb 0 ∧ p = p ∧ t = t ∧ en = 0 ∧ tl = 0 ∧ cv = x.2 ∧ ph = ph
            rw [hz.1]
            exact ⟨rfl, e3, rfl, rfl, rfl, e1, e2, x3, rfl⟩
end YOF
