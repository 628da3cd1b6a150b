/-! Functions and continuations as both hold them. -/
section YF
variable (b : Nat → Nat) (n : Nat) (τ : z_TT) (A1 B1 A2 : Nat → List (Nat × Int32)) (ce : Nat)
variable (rr : Nat → Int32) (rd : Nat) (fg : List Nat) (B : Nat → List (Nat × Int32)) (vr : z_F → Int32 → Int32 → Prop)
def y_c3 (f wt : Nat) (u : z_Bd) (m s e : Nat) (Γ : List z_F) (x : Nat) (ta tr : z_F) (v1 : z_Bd) : Prop := (x < 600 ∧ z_S1 u m v1) ∧ z_fn 0 (B1 58) m = nI x ∧ s + 1 < e - 1 ∧ z_fn 0 (A1 14) s = 17 ∧ z_Nm b n (z_fn 0 (B1 64) m) (z_fn 0 (A1 15) s) (z_fn 0 (B1 65) m) ∧ z_fn 0 (A1 17) s = nI (e - 1) ∧ y_P b n τ A1 B1 f wt 4 v1 x (s + 1) (e - 1) (ta :: Γ) tr ∧ z_fn 0 (A1 14) (e - 1) = 18
def y_c1 (f wt : Nat) (u : z_Bd) (m s e : Nat) (Γ : List z_F) (t : z_F) (x y g : Nat) (ta tr : z_F) (v1 v2 : z_Bd) : Prop := (x < 600 ∧ y < 600 ∧ z_S1 u m v1 ∧ z_S1 u m v2 ∧ v1.1.2 ≤ v2.1.1) ∧ z_fn 0 (B1 58) m = nI x ∧ z_fn 0 (B1 59) m = nI y ∧ s + 1 < g ∧ g + 2 < e - 1 ∧ z_fn 0 (A1 14) s = 19 ∧ z_Nm b n (z_fn 0 (B1 64) m) (z_fn 0 (A1 15) s) (z_fn 0 (B1 65) m) ∧ z_Nm b n (z_fn 0 (B1 66) m) (z_fn 0 (A1 18) s) (z_fn 0 (B1 67) m) ∧ y_P b n τ A1 B1 f wt 4 v1 x (s + 1) g (ta :: z_fz ta tr :: Γ) tr ∧ z_fn 0 (A1 17) s = nI g ∧ z_fn 0 (A1 14) g = 20 ∧ z_fn 0 (A1 14) (g + 1) = 4 ∧ z_Nm b n (z_fn 0 (B1 64) m) (z_fn 0 (A1 15) (g + 1)) (z_fn 0 (B1 65) m) ∧ y_P b n τ A1 B1 f wt 4 v2 y (g + 2) (e - 1) (z_fz ta tr :: Γ) t ∧ z_fn 0 (A1 14) (e - 1) = 5
/-- a record of N values, in which nothing is written any more -/
def y_rc (rc N : Nat) : Prop := rc + 1 + N ≤ rd ∧ ∀ k, k ≤ N → ¬ rc + k ∈ fg
/-- a closure: its record rc of the class, its number f of the reference -/
def y_Cf (rc f : Nat) (t : z_F) (cs : List Nat) : Prop := ∃ (m s e f' wt : Nat) (u : z_Bd) (Γ : List z_F) (ta tr : z_F) (x : Nat) (v1 : z_Bd), (m < 600 ∧ z_fn 0 (B 119) f = nI m ∧ u.1.1 ≤ m ∧ m < u.1.2) ∧ (rr rc = nI s ∧ s < e ∧ e < ce) ∧ y_rc rd fg rc (z_ctx A1 s).1.length ∧ t = z_fz ta tr ∧ (2 * (z_ctx A1 s).1.length + wt % 1000 ≤ 200 ∧ u.1.2 ≤ 600 ∧ wt / 1000 ≤ 50) ∧
  ((z_fn 0 (B1 57) m = 3 ∧ y_c3 b n τ A1 B1 f' wt u m s e Γ x ta tr v1 ∧ y_en b n B vr (fun k => rr (rc + 1 + k)) cs (z_ctx A1 s).1 Γ (z_fn 0 (B 120) f)) ∨
   (z_fn 0 (B1 57) m = 1 ∧ (∃ (t' : z_F) (y g : Nat) (v2 : z_Bd), y_c1 b n τ A1 B1 f' wt u m s e Γ t' x y g ta tr v1 v2) ∧ y_en b n B vr (fun k => if k = (z_ctx A1 s).1.length then nI rc else rr (rc + 1 + k)) cs (z_fn 0 (A1 15) s :: (z_ctx A1 s).1) (z_fz ta tr :: Γ) (z_fn 0 (B 120) f)))
/-- a continuation -/
def y_Ck (raw : Nat → y_E) (awt rc f : Nat) (t : z_F) (Y : y_X) (pd cp : Nat) : Prop := z_fn 0 (B 119) f = -1 ∧ z_fn 0 (B 120) f = -1 ∧ ∃ (pm : Nat) (ta an : z_F), (rr rc = nI pm ∧ pm + 1 < ce ∧ z_fn 0 (A1 14) pm = 16) ∧ (rc + 5 ≤ rd ∧ ¬ rc ∈ fg ∧ rc + 1 ∈ fg ∧ ¬ rc + 2 ∈ fg ∧ rr (rc + 2) = nI pd ∧ pd ≤ 1000) ∧ t = z_fz ta an ∧
  ((¬ z_fn 0 (B 124) f = 0 ∧ rr (rc + 1) = 1 ∧ z_fn 0 (B 122) f = 0 ∧ Y = []) ∨
   (z_fn 0 (B 124) f = 0 ∧ rr (rc + 1) = 0 ∧ ∃ (tf len aw : Nat), (rr (rc + 3) = nI tf ∧ rr (rc + 4) = nI len ∧ rc + 5 + len ≤ rd ∧ ∀ k, 2 ≤ k → k < 5 + len → ¬ rc + k ∈ fg) ∧ (z_fn 0 (B 121) f = nI aw ∧ z_fn 0 (B 122) f = nI Y.length ∧ z_fn 0 (B 123) f = nI pd ∧ aw + Y.length ≤ awt ∧ y_Px raw aw Y ∧ y_dp Y = pd) ∧
     ∃ (X : y_X) (x : y_E × List Nat) (D : y_D) (k p en tl : Nat) (cv : List Nat) (ph : Nat), Y = X ++ [x] ∧ y_Ad A1 ce k (pm + 1) p ∧ ph + 4601 ≤ cp ∧ y_sk b n τ A1 B1 A2 ce rr rd fg B vr (fun z => rr (rc + 5 + z)) (y_Kh b n τ A1 B1 A2 ce rr rd fg B vr an x (fun z => rr (rc + 5 + z))) X D len tf p ta en tl cv ph))
def y_Fn (raw : Nat → y_E) (awt rc f : Nat) (t : z_F) (cs : List Nat) (Y : y_X) (pd cp : Nat) : Prop := (y_Cf b n τ A1 B1 ce rr rd fg B vr rc f t cs ∧ Y = [] ∧ z_fn 0 (B 122) f = 0) ∨ (y_Ck b n τ A1 B1 A2 ce rr rd fg B vr raw awt rc f t Y pd cp ∧ cs = [])
end YF
section YFM
variable {b : Nat → Nat} {n : Nat} {τ : z_TT} {A1 B1 A2 : Nat → List (Nat × Int32)} {ce : Nat}
variable {rr rr' : Nat → Int32} {rd rd' : Nat} {fg fg' : List Nat} {B B' : Nat → List (Nat × Int32)} {vr vr' : z_F → Int32 → Int32 → Prop}
theorem y_rc.mo {rc N : Nat} (hr : ∀ x, x < rd → ¬ x ∈ fg → rr' x = rr x ∧ ¬ x ∈ fg') (hrd : rd ≤ rd') (h : y_rc rd fg rc N) : y_rc rd' fg' rc N ∧ ∀ k, k ≤ N → rr' (rc + k) = rr (rc + k) := by
  obtain ⟨h1, h2⟩ := h
  exact ⟨⟨by omega, fun k hk => (hr _ (by omega) (h2 k hk)).2⟩, fun k hk => (hr _ (by omega) (h2 k hk)).1⟩
theorem y_Cf.mo {rc f : Nat} {t : z_F} {cs : List Nat} (hr : ∀ x, x < rd → ¬ x ∈ fg → rr' x = rr x ∧ ¬ x ∈ fg') (hrd : rd ≤ rd') (hv : ∀ t x y, vr t x y → vr' t x y) (hc : ∀ c, c ∈ cs → y_sB B B' c) (h119 : z_fn 0 (B' 119) f = z_fn 0 (B 119) f) (h120 : z_fn 0 (B' 120) f = z_fn 0 (B 120) f) (h : y_Cf b n τ A1 B1 ce rr rd fg B vr rc f t cs) : y_Cf b n τ A1 B1 ce rr' rd' fg' B' vr' rc f t cs := by
  obtain ⟨m, s, e, f', wt, u, Γ, ta, tr, x, v1, ⟨a1, a2, a3⟩, ⟨b1, b2⟩, hrc, ht, hb, h⟩ := h
  obtain ⟨r1, r2⟩ := hrc.mo hr hrd
  refine ⟨m, s, e, f', wt, u, Γ, ta, tr, x, v1, ⟨a1, by rw [h119]; exact a2, a3⟩, ⟨by have := r2 0 (Nat.zero_le _); rw [Nat.add_zero] at this; rw [this]; exact b1, b2⟩, r1, ht, hb, ?_⟩
  rw [h120]
  rcases h with ⟨k1, k2, k3⟩ | ⟨k1, k2, k3⟩
  · refine Or.inl ⟨k1, k2, y_en.mo hv _ _ _ _ (fun k hk => ?_) hc k3⟩
    show rr' (rc + 1 + k) = rr (rc + 1 + k)
    rw [Nat.add_assoc, r2 (1 + k) (by omega)]
  · refine Or.inr ⟨k1, k2, y_en.mo hv _ _ _ _ (fun k hk => ?_) hc k3⟩
    show (if k = (z_ctx A1 s).1.length then nI rc else rr' (rc + 1 + k)) = (if k = (z_ctx A1 s).1.length then nI rc else rr (rc + 1 + k))
    rw [List.length_cons] at hk
    by_cases e : k = (z_ctx A1 s).1.length
    · rw [if_pos e, if_pos e]
    · rw [if_neg e, if_neg e, Nat.add_assoc, r2 (1 + k) (by omega)]
/-- the rows of function f are as they were -/
def y_sF (B B' : Nat → List (Nat × Int32)) (f : Nat) : Prop := ∀ q, 119 ≤ q → q ≤ 124 → z_fn 0 (B' q) f = z_fn 0 (B q) f
theorem y_Px.mo {raw raw' : Nat → y_E} {off : Nat} : ∀ (X : y_X), (∀ j, j < off + X.length → raw' j = raw j) → y_Px raw off X → y_Px raw' off X := by
  intro X
  induction X with
  | nil => intro _ _; trivial
  | cons x X ih =>
    intro h hp
    exact ⟨(h _ (Nat.lt_succ_self _)).trans hp.1, ih (fun j hj => h j (Nat.lt_succ_of_lt hj)) hp.2⟩
theorem y_Ck.mo {raw raw' : Nat → y_E} {awt awt' rc f : Nat} {t : z_F} {Y : y_X} {pd cp : Nat} (hr : ∀ x, x < rd → ¬ x ∈ fg → rr' x = rr x ∧ ¬ x ∈ fg') (hrd : rd ≤ rd') (hv : ∀ t x y, vr t x y → vr' t x y) (hc : ∀ e, e ∈ Y → ∀ c, c ∈ e.2 → y_sB B B' c) (hB : y_sF B B' f) (hw : ∀ j, j < awt → raw' j = raw j) (haw : awt ≤ awt') (h1 : rr' (rc + 1) = rr (rc + 1)) (hf : rc + 1 ∈ fg → rc + 1 ∈ fg') (h : y_Ck b n τ A1 B1 A2 ce rr rd fg B vr raw awt rc f t Y pd cp) : y_Ck b n τ A1 B1 A2 ce rr' rd' fg' B' vr' raw' awt' rc f t Y pd cp := by
  obtain ⟨a1, a2, pm, ta, an, ⟨c1, c2⟩, ⟨d1, d2, d3, d4, d5, d6⟩, ht, h⟩ := h
  refine ⟨by rw [hB 119 (by decide) (by decide)]; exact a1, by rw [hB 120 (by decide) (by decide)]; exact a2, pm, ta, an, ⟨by rw [(hr rc (by omega) d2).1]; exact c1, c2⟩, ⟨by omega, (hr rc (by omega) d2).2, hf d3, (hr _ (by omega) d4).2, by rw [(hr _ (by omega) d4).1]; exact d5, d6⟩, ht, ?_⟩
  rcases h with ⟨k1, k2, k3, k4⟩ | ⟨k1, k2, tf, len, aw, ⟨l1, l2, l3, l4⟩, ⟨m1, m2, m3, m4, m5, m6⟩, X, x, D, k, p, en, tl, cv, ph, n1, n2, n3, n4⟩
  · exact Or.inl ⟨by rw [hB 124 (by decide) (by decide)]; exact k1, by rw [h1]; exact k2, by rw [hB 122 (by decide) (by decide)]; exact k3, k4⟩
  · have mv : ∀ z, 2 ≤ z → z < len → rr' (rc + 5 + z) = rr (rc + 5 + z) := fun z _ hz => by
      have := (hr (rc + (5 + z)) (by omega) (l4 (5 + z) (by omega) (by omega))).1
      rw [← Nat.add_assoc] at this
      exact this
    refine Or.inr ⟨by rw [hB 124 (by decide) (by decide)]; exact k1, by rw [h1]; exact k2, tf, len, aw, ⟨?_, ?_, by omega, fun k q1 q2 => (hr _ (by omega) (l4 k q1 q2)).2⟩, ⟨by rw [hB 121 (by decide) (by decide)]; exact m1, by rw [hB 122 (by decide) (by decide)]; exact m2, by rw [hB 123 (by decide) (by decide)]; exact m3, by omega, m5.mo Y (fun j hj => hw j (by omega)), m6⟩, X, x, D, k, p, en, tl, cv, ph, n1, n2, n3, ?_⟩
    · rw [(hr _ (by omega) (l4 3 (by omega) (by omega))).1]
      exact l1
    · rw [(hr _ (by omega) (l4 4 (by omega) (by omega))).1]
      exact l2
    · have r := y_sk.mo (mm := fun z => rr (rc + 5 + z)) (mm' := fun z => rr' (rc + 5 + z)) (o := 0) (d := 0) (T := len) (B := B) (B' := B') (vr := vr) (vr' := vr') mv hr hrd hv (y_Kh.mo (B := B) (B' := B') (vr := vr) (vr' := vr') mv hr hrd hv (fun c hc' => hc x (by rw [n1]; exact List.mem_append_right _ List.mem_cons_self) c hc')) X D len tf p ta en tl cv ph (Nat.le_refl _) (fun e he => hc e (by rw [n1]; exact List.mem_append_left _ he)) n4
      exact r.2
theorem y_Fn.mo {raw raw' : Nat → y_E} {awt awt' rc f : Nat} {t : z_F} {cs : List Nat} {Y : y_X} {pd cp : Nat} (hr : ∀ x, x < rd → ¬ x ∈ fg → rr' x = rr x ∧ ¬ x ∈ fg') (hrd : rd ≤ rd') (hv : ∀ t x y, vr t x y → vr' t x y) (hc0 : ∀ c, c ∈ cs → y_sB B B' c) (hc : ∀ e, e ∈ Y → ∀ c, c ∈ e.2 → y_sB B B' c) (hB : y_sF B B' f) (hw : ∀ j, j < awt → raw' j = raw j) (haw : awt ≤ awt') (h1 : rc + 1 < rd → rc + 1 ∈ fg → rr' (rc + 1) = rr (rc + 1) ∧ rc + 1 ∈ fg') (h : y_Fn b n τ A1 B1 A2 ce rr rd fg B vr raw awt rc f t cs Y pd cp) : y_Fn b n τ A1 B1 A2 ce rr' rd' fg' B' vr' raw' awt' rc f t cs Y pd cp := by
  rcases h with ⟨h, h2, h3⟩ | ⟨h, h2⟩
  · exact Or.inl ⟨h.mo hr hrd hv hc0 (hB 119 (by decide) (by decide)) (hB 120 (by decide) (by decide)), h2, by rw [hB 122 (by decide) (by decide)]; exact h3⟩
  · have q := h
    obtain ⟨-, -, pm, ta, an, -, ⟨d1, d2, d3, -⟩, -⟩ := q
    have k := h1 (by omega) d3
    exact Or.inr ⟨h.mo hr hrd hv hc hB hw haw k.1 (fun _ => k.2), h2⟩
theorem y_sk.k0 {mm : Nat → Int32} {K0 : y_K} {Q : Prop} (hK : ∀ D tp bs p t en tl cv ph, K0 D tp bs p t en tl cv ph → Q) : ∀ (X : y_X) D tp bs p t en tl cv ph, y_sk b n τ A1 B1 A2 ce rr rd fg B vr mm K0 X D tp bs p t en tl cv ph → Q := by
  intro X
  induction X with
  | nil => intro D tp bs p t en tl cv ph h; exact hK D tp bs p t en tl cv ph h
  | cons x X ih =>
    intro D tp bs p t en tl cv ph h
    have be : ∀ t', y_Be A1 ce mm (y_sk b n τ A1 B1 A2 ce rr rd fg B vr mm K0 X) bs t' ph → Q := by
      intro t' hb
      obtain ⟨bk, bl, D', k, p', en', tl', cv', ph', b1, b7, b8⟩ := hb
      exact ih D' bs (bs - bl) p' t' en' tl' cv' ph' b8
    obtain ⟨m, x1, x2, x3, h | ⟨e1, e2, e3, hf, h⟩⟩ := h
    · obtain ⟨f, wt, u, s, e', Γ, tt, tp0, en0, tl0, cv0, q1, ⟨s1, s5, s6, s7, k, p', s8, s9⟩, q3, q4⟩ := h
      exact ih D tp0 bs p' tt en0 tl0 cv0 ph s9
    · rcases h with ⟨w1, w2, w6, w7⟩ | ⟨w1, s, e', f, wt, u, Γ, tt, y1, y2, g, h, r, v1, v2, w2, w3, w4⟩
      · exact be _ w7
      · exact be _ w4
theorem y_dp_app {X X' : y_X} : y_dp (X ++ X') = y_dp X + y_dp X' := by
  induction X with
  | nil =>
    show y_dp X' = 0 + y_dp X'
    omega
  | cons x X ih =>
    show y_dp (X ++ X') + _ = y_dp X + _ + y_dp X'
    rw [ih]
    omega
theorem y_Kh.bd {mm : Nat → Int32} {an : z_F} {x : y_E × List Nat} : ∀ D tp bs p t en tl cv ph, y_Kh b n τ A1 B1 A2 ce rr rd fg B vr an x mm D tp bs p t en tl cv ph → bs = 0 ∧ en = 0 ∧ tp = bs + 4 + D.2.2.2.1 ∧ D.2.2.2.1 ≤ 128 ∧ cv.length ≤ 100 ∧ y_Kh b n τ A1 B1 A2 ce rr rd fg B vr an x mm D tp bs p t en tl cv 0 := by
  intro D tp bs p t en tl cv ph h
  have h' := h
  obtain ⟨h1, h2, h3, h4, h5, h6, h7, m, h8, h9, s, e, f, wt, u, Γ, y1, y2, g, hh, r, v1, v2, w1, w2⟩ := h
  obtain ⟨n1, n2, n4, n5, n6, n7⟩ := w1
  obtain ⟨l1, l2, l3⟩ := y_en.len _ _ _ _ n5
  exact ⟨h1, h3, h6, h7.1.2, by rw [h5]; have := n6.1; omega, h'⟩
/-- the chains of a function; a list that has them all -/
theorem y_Fn.ch {raw : Nat → y_E} {awt rc f : Nat} {t : z_F} {cs : List Nat} {Y : y_X} {pd cp : Nat} (h : y_Fn b n τ A1 B1 A2 ce rr rd fg B vr raw awt rc f t cs Y pd cp) : y_lk (y_nx B) (z_fn 0 (B 120) f) cs ∧ (z_fn 0 (B 122) f = nI Y.length ∧ (Y ≠ [] → ∃ aw, z_fn 0 (B 121) f = nI aw ∧ aw + Y.length ≤ awt ∧ y_Px raw aw Y)) ∧ (∀ e, e ∈ Y → y_lk (y_nx B) e.1.2.2.2 e.2) ∧ ∃ L : List Nat, L.length ≤ 101 * (1 + pd) ∧ (∀ c, c ∈ cs → c ∈ L) ∧ ∀ e, e ∈ Y → ∀ c, c ∈ e.2 → c ∈ L := by
  rcases h with ⟨h, rfl, h3⟩ | ⟨h, rfl⟩
  · obtain ⟨m, s, e, f', wt, u, Γ, ta, tr, x, v1, ⟨a1, a2, a3⟩, ⟨b1, b2⟩, hrc, ht, hb, h⟩ := h
    have key : y_lk (y_nx B) (z_fn 0 (B 120) f) cs ∧ cs.length ≤ 101 := by
      rcases h with ⟨k1, k2, k3⟩ | ⟨k1, k2, k3⟩
      · obtain ⟨l1, l2, l3⟩ := y_en.len _ _ _ _ k3
        exact ⟨l3, by omega⟩
      · obtain ⟨l1, l2, l3⟩ := y_en.len _ _ _ _ k3
        rw [List.length_cons] at l1
        exact ⟨l3, by omega⟩
    exact ⟨key.1, ⟨h3, fun q => absurd rfl q⟩, fun e he => (by cases he), cs, by have := key.2; omega, fun c hc => hc, fun e he => (by cases he)⟩
  · obtain ⟨a1, a2, pm, ta, an, ⟨c1, c2⟩, ⟨d1, d2, d3, d4, d5, d6⟩, ht, h⟩ := h
    rcases h with ⟨k1, k2, k3, rfl⟩ | ⟨k1, k2, tf, len, aw, ⟨l1, l2, l3, l4⟩, ⟨m1, m2, m3, m4, m5, m6⟩, X, x, D, k, p, en, tl, cv, ph, rfl, n2, n3, n4⟩
    · exact ⟨a2, ⟨k3, fun q => absurd rfl q⟩, fun e he => (by cases he), [], Nat.zero_le _, fun c hc => hc, fun e he => (by cases he)⟩
    · obtain ⟨i1, i2, i3, i4, i5, i6, -, L, i10, i11⟩ := y_sk.bd y_Kh.bd X D len tf p ta en tl cv ph n4
      have ch := y_sk.ch X D len tf p ta en tl cv ph n4
      have kh : y_lk (y_nx B) x.1.2.2.2 x.2 ∧ x.2.length ≤ 100 ∧ x.1.1 = 8 := by
        have := y_sk.k0 (fun D tp bs p t en tl cv ph h => ?_) X D len tf p ta en tl cv ph n4 (Q := y_lk (y_nx B) x.1.2.2.2 x.2 ∧ x.2.length ≤ 100 ∧ x.1.1 = 8)
        · exact this
        · obtain ⟨h1, h2, h3, h4, h5, h6, h7, m, h8, h9, s, e, f, wt, u, Γ, y1, y2, g, hh, r, v1, v2, w1, w2⟩ := h
          obtain ⟨n1, n2, n4, n5, n6, n7⟩ := w1
          obtain ⟨l1, l2, l3⟩ := y_en.len _ _ _ _ n5
          exact ⟨l3, by have := n6.1; omega, h2⟩
      have dX : y_dp X + 1 = pd := by
        rw [← m6, y_dp_app]
        show y_dp X + 1 = y_dp X + (0 + (if x.1.1 < 7 then 0 else 1))
        rw [kh.2.2, if_neg (by decide)]
      refine ⟨a2, ⟨m2, fun _ => ⟨aw, m1, m4, m5⟩⟩, fun e he => ?_, cv ++ (x.2 ++ L), ?_, fun c hc => (by cases hc), fun e he c hc => ?_⟩
      · rcases List.mem_append.mp he with he | he
        · exact (ch e he).1
        · rw [List.mem_singleton] at he
          rw [he]
          exact kh.1
      · rw [List.length_append, List.length_append]
        have := kh.2.1
        omega
      · rcases List.mem_append.mp he with he | he
        · rcases i11 e he c hc with q | q
          · exact List.mem_append_left _ q
          · exact List.mem_append_right _ (List.mem_append_right _ q)
        · rw [List.mem_singleton] at he
          rw [he] at hc
          exact List.mem_append_right _ (List.mem_append_left _ hc)
end YFM
