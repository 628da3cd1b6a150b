/-! Programs as both sides hold them: the class's row of instructions, the reference's nodes. -/
/-- a name of the text: where it stands, the class's number of it, how wide it is -/
def z_Nm (b : Nat → Nat) (n : Nat) (q v w : Int32) : Prop := ∃ (i : Nat) (t : Nat × Nat × Int32), (z_ts b n)[i]? = some t ∧ t.2.1 = 2 ∧ q = nI t.1 ∧ w = nI (z_ll b n t.1) ∧ v = t.2.2
/-- the type of a function, of the class, and what it is made of, of the reference -/
def z_Fq (τ : z_TT) (x y1 y2 e : Int32) : Prop := ∃ i i1 i2, x = nI i ∧ 3 ≤ i ∧ i < τ.1.2 ∧ y1 = nI i1 ∧ y2 = nI i2 ∧ i1 < τ.2.2 ∧ i2 < τ.2.2 ∧ z_dt τ.1.1 i = (3 + e.toUInt32.toNat) :: (z_dt τ.2.1 i1 ++ z_dt τ.2.1 i2)
/-- which nodes and which clauses are spoken of -/
abbrev z_Bd : Type := (Nat × Nat) × (Nat × Nat)
section ZCP
variable (b : Nat → Nat) (n me : Nat) (τ : z_TT) (A B : Nat → List (Nat × Int32)) (u : z_Bd)
/-- the clauses of a handle, one behind the other -/
def z_Cc (P : Nat → Nat → Nat → Int32 → Prop) (e : Nat) : List (Nat × Nat) → Int32 → Nat → Nat → Prop
  | [], q, l, x => q = -1 ∧ z_fn 0 (A 16) l = 0 ∧ x = e
  | (i, y) :: r, q, l, x => (q = nI i ∧ u.2.1 ≤ i ∧ i < u.2.2 ∧ x < y ∧ y < e) ∧ z_fn 0 (A 16) l = nI x ∧ z_fn 0 (A 14) x = 24 ∧ z_Nm b n (z_fn 0 (B 73) i) (z_fn 0 (A 15) x) (z_fn 0 (B 74) i) ∧ z_Nm b n (z_fn 0 (B 75) i) (z_fn 0 (A 18) x) (z_fn 0 (B 76) i) ∧ z_fn 0 (A 17) x = z_fn 0 (B 71) i ∧ (∃ ef, ef < me ∧ z_fn 0 (B 71) i = nI ef) ∧ z_fn 0 (A 19) x = z_fn 0 (B 72) i ∧ (∃ g, z_fn 0 (B 77) i = nI g ∧ P g (x + 1) y (z_fn 0 (B 78) i)) ∧ z_fn 0 (A 14) y = 25 ∧ z_Cc P e r (z_fn 0 (B 79) i) x (y + 1)
/-- which nodes and clauses a part of node m has -/
def z_S1 (u : z_Bd) (m : Nat) (v : z_Bd) : Prop := (u.1.1 ≤ v.1.1 ∧ v.1.2 ≤ u.1.2) ∧ (u.2.1 ≤ v.2.1 ∧ v.2.2 ≤ u.2.2) ∧ ¬ (v.1.1 ≤ m ∧ m < v.1.2)
/-- one node: its instructions from s to e -/
def z_Cb (P : Nat → z_Bd → Nat → Nat → Nat → Int32 → Prop) (m s e : Nat) : Prop :=
  (z_fn 0 (B 57) m = 12 ∧ e = s + 1 ∧ z_fn 0 (A 14) s = 0 ∧ z_fn 0 (A 15) s = z_fn 0 (B 68) m ∧ z_fn 0 (A 16) s = 0) ∨
  (z_fn 0 (B 57) m = 13 ∧ e = s + 1 ∧ z_fn 0 (A 14) s = 0 ∧ z_fn 0 (A 15) s = z_fn 0 (B 68) m ∧ z_fn 0 (A 16) s = 1 ∧ (z_fn 0 (A 15) s = 0 ∨ z_fn 0 (A 15) s = 1)) ∨
  (z_fn 0 (B 57) m = 14 ∧ e = s + 1 ∧ z_fn 0 (A 14) s = 0 ∧ z_fn 0 (A 15) s = 0 ∧ z_fn 0 (A 16) s = 2) ∨
  (z_fn 0 (B 57) m = 15 ∧ e = s + 1 ∧ z_fn 0 (A 14) s = 1 ∧ z_Nm b n (z_fn 0 (B 64) m) (z_fn 0 (A 15) s) (z_fn 0 (B 65) m) ∧ z_fn 0 (A 16) s = z_fn 0 (B 64) m) ∨
  (z_fn 0 (B 57) m = 0 ∧ ∃ (x y g : Nat) (v1 v2 : z_Bd), (z_S1 u m v1 ∧ z_S1 u m v2 ∧ v1.1.2 ≤ v2.1.1) ∧ z_fn 0 (B 58) m = nI x ∧ z_fn 0 (B 59) m = nI y ∧ s < g ∧ g + 1 < e - 1 ∧ P 0 v1 x s g (z_fn 0 (B 61) m) ∧ z_fn 0 (A 14) g = 4 ∧ z_Nm b n (z_fn 0 (B 64) m) (z_fn 0 (A 15) g) (z_fn 0 (B 65) m) ∧ P 4 v2 y (g + 1) (e - 1) (z_fn 0 (B 62) m) ∧ z_fn 0 (A 14) (e - 1) = 5) ∨
  (z_fn 0 (B 57) m = 1 ∧ ∃ (x y g : Nat) (v1 v2 : z_Bd), (z_S1 u m v1 ∧ z_S1 u m v2 ∧ v1.1.2 ≤ v2.1.1) ∧ z_fn 0 (B 58) m = nI x ∧ z_fn 0 (B 59) m = nI y ∧ s + 1 < g ∧ g + 2 < e - 1 ∧ z_fn 0 (A 14) s = 19 ∧ z_Nm b n (z_fn 0 (B 64) m) (z_fn 0 (A 15) s) (z_fn 0 (B 65) m) ∧ z_Nm b n (z_fn 0 (B 66) m) (z_fn 0 (A 18) s) (z_fn 0 (B 67) m) ∧ z_Fq τ (z_fn 0 (A 16) s) (z_fn 0 (B 68) m) (z_fn 0 (B 69) m) (z_fn 0 (B 70) m) ∧ P 4 v1 x (s + 1) g (z_fn 0 (B 61) m) ∧ z_fn 0 (A 17) s = nI g ∧ z_fn 0 (A 14) g = 20 ∧ z_fn 0 (A 14) (g + 1) = 4 ∧ z_Nm b n (z_fn 0 (B 64) m) (z_fn 0 (A 15) (g + 1)) (z_fn 0 (B 65) m) ∧ P 4 v2 y (g + 2) (e - 1) (z_fn 0 (B 62) m) ∧ z_fn 0 (A 14) (e - 1) = 5) ∨
  (z_fn 0 (B 57) m = 2 ∧ ∃ (x y z g h : Nat) (v1 v2 v3 : z_Bd), (z_S1 u m v1 ∧ z_S1 u m v2 ∧ z_S1 u m v3 ∧ v1.1.2 ≤ v2.1.1 ∧ v2.1.2 ≤ v3.1.1 ∧ v1.1.2 ≤ v3.1.1) ∧ z_fn 0 (B 58) m = nI x ∧ z_fn 0 (B 59) m = nI y ∧ z_fn 0 (B 60) m = nI z ∧ s < g ∧ g + 1 < h ∧ h + 1 < e - 1 ∧ P 0 v1 x s g (z_fn 0 (B 61) m) ∧ z_fn 0 (A 14) g = 6 ∧ z_fn 0 (A 15) g = nI (h + 1) ∧ P 4 v2 y (g + 1) h (z_fn 0 (B 62) m) ∧ z_fn 0 (A 14) h = 7 ∧ z_fn 0 (A 15) h = nI (e - 1) ∧ P 4 v3 z (h + 1) (e - 1) (z_fn 0 (B 63) m) ∧ z_fn 0 (A 14) (e - 1) = 8) ∨
  (z_fn 0 (B 57) m = 3 ∧ ∃ (x : Nat) (v1 : z_Bd), z_S1 u m v1 ∧ z_fn 0 (B 58) m = nI x ∧ s + 1 < e - 1 ∧ z_fn 0 (A 14) s = 17 ∧ z_Nm b n (z_fn 0 (B 64) m) (z_fn 0 (A 15) s) (z_fn 0 (B 65) m) ∧ z_Tq τ (z_fn 0 (A 16) s) (z_fn 0 (B 68) m) ∧ z_fn 0 (A 17) s = nI (e - 1) ∧ P 4 v1 x (s + 1) (e - 1) (z_fn 0 (B 61) m) ∧ z_fn 0 (A 14) (e - 1) = 18) ∨
  (z_fn 0 (B 57) m = 4 ∧ ∃ (x y g h : Nat) (r : List (Nat × Nat)) (v1 v2 : z_Bd), (z_S1 u m v1 ∧ z_S1 u m v2 ∧ v1.1.2 ≤ v2.1.1) ∧ z_fn 0 (B 58) m = nI x ∧ z_fn 0 (B 59) m = nI y ∧ s + 1 < g ∧ g + 1 < h ∧ h < e - 1 ∧ z_fn 0 (A 14) s = 21 ∧ z_fn 0 (A 17) s = nI (e - 1) ∧ P 4 v1 x (s + 1) g (z_fn 0 (B 61) m) ∧ z_fn 0 (A 14) g = 22 ∧ z_Nm b n (z_fn 0 (B 64) m) (z_fn 0 (A 15) g) (z_fn 0 (B 65) m) ∧ z_fn 0 (A 16) g = z_fn 0 (B 70) m ∧ P 4 v2 y (g + 1) h (z_fn 0 (B 62) m) ∧ z_fn 0 (A 14) h = 23 ∧ z_fn 0 (A 14) (e - 1) = 26 ∧ z_Cc b n me A B u (fun g x y p => ∃ v : z_Bd, z_S1 u m v ∧ v1.1.2 ≤ v.1.1 ∧ P 4 v g x y p) (e - 1) r (z_fn 0 (B 60) m) s (h + 1)) ∨
  (∃ k : Nat, 5 ≤ k ∧ k ≤ 9 ∧ z_fn 0 (B 57) m = nI k ∧ ∃ (x y g : Nat) (v1 v2 : z_Bd), (z_S1 u m v1 ∧ z_S1 u m v2 ∧ v1.1.2 ≤ v2.1.1) ∧ z_fn 0 (B 58) m = nI x ∧ z_fn 0 (B 59) m = nI y ∧ s < g ∧ g < e - 1 ∧ P 0 v1 x s g (z_fn 0 (B 61) m) ∧ P 1 v2 y g (e - 1) (z_fn 0 (B 62) m) ∧ z_fn 0 (A 14) (e - 1) = nI (k + 4)) ∨
  (z_fn 0 (B 57) m = 10 ∧ ∃ (x y g : Nat) (v1 v2 : z_Bd), (z_S1 u m v1 ∧ z_S1 u m v2 ∧ v1.1.2 ≤ v2.1.1) ∧ z_fn 0 (B 58) m = nI x ∧ z_fn 0 (B 59) m = nI y ∧ s < g ∧ g + 1 < e - 1 ∧ P 0 v1 x s g (z_fn 0 (B 61) m) ∧ z_fn 0 (A 14) g = 14 ∧ P 1 v2 y (g + 1) (e - 1) (z_fn 0 (B 62) m) ∧ z_fn 0 (A 14) (e - 1) = 15) ∨
  (z_fn 0 (B 57) m = 11 ∧ ∃ (x ef : Nat) (v1 : z_Bd), z_S1 u m v1 ∧ ef < me ∧ z_fn 0 (B 58) m = nI x ∧ s < e - 1 ∧ P 1000 v1 x s (e - 1) (z_fn 0 (B 61) m) ∧ z_fn 0 (A 14) (e - 1) = 16 ∧ z_fn 0 (A 15) (e - 1) = nI ef ∧ z_fn 0 (B 68) m = nI ef)
end ZCP
section ZCP2
variable (b : Nat → Nat) (n me : Nat) (τ : z_TT) (A B : Nat → List (Nat × Int32))
/-- weights: what may be held (below 1000), and depth left, in one number -/
def z_wle (c w : Nat) : Prop := c % 1000 ≤ w % 1000 ∧ c / 1000 ≤ w / 1000
theorem z_wle.z {w : Nat} : z_wle 0 w := ⟨Nat.zero_le _, Nat.zero_le _⟩
theorem z_wle.rf {w : Nat} : z_wle w w := ⟨Nat.le_refl _, Nat.le_refl _⟩
theorem z_wle.tr {a b c : Nat} (h : z_wle a b) (h2 : z_wle b c) : z_wle a c := ⟨Nat.le_trans h.1 h2.1, Nat.le_trans h.2 h2.2⟩
theorem z_wle.le {a b : Nat} (h : z_wle a b) : a ≤ b := by
  obtain ⟨h1, h2⟩ := h
  omega
theorem z_wle.mod {c w : Nat} (h : z_wle c w) : (w - c) % 1000 = w % 1000 - c % 1000 ∧ (w - c) / 1000 = w / 1000 - c / 1000 := by
  obtain ⟨h1, h2⟩ := h
  constructor <;> omega
theorem z_wle.sub {c w w2 : Nat} (h : z_wle c w) (h2 : z_wle w w2) : z_wle (w - c) (w2 - c) := by
  have a := h.mod
  have b := (h.tr h2).mod
  obtain ⟨h3, h4⟩ := h2
  unfold z_wle
  rw [a.1, a.2, b.1, b.2]
  constructor <;> omega
/-- node m: its instructions from s to e, its place p; w: how much may still be held while it is checked -/
def z_Cp : z_Bd → Nat → Nat → Nat → Nat → Nat → Int32 → Prop
  | _, 0, _, _, _, _, _ => False
  | u, f + 1, w, m, s, e, p => (u.1.1 ≤ m ∧ m < u.1.2 ∧ s < e) ∧ z_fn 0 (A 19) (e - 1) = p ∧ z_Cb b n me τ A B u (fun c v g x y q => z_wle c w ∧ z_Cp v f (w - c) g x y q) m s e
end ZCP2
theorem z_S1i {m a c p q r s h k : Nat} (h1 : a ≤ p) (h2 : q ≤ c) (h3 : h ≤ r) (h4 : s ≤ k) (h5 : m < p ∨ q ≤ m) : z_S1 ((a, c), (h, k)) m ((p, q), (r, s)) := ⟨⟨h1, h2⟩, ⟨h3, h4⟩, fun e => by
  have e1 : p ≤ m := e.1
  have e2 : m < q := e.2
  omega⟩
theorem z_S1.w {u u' v : z_Bd} {m : Nat} (h : z_S1 u m v) (hu : (u'.1.1 ≤ u.1.1 ∧ u.1.2 ≤ u'.1.2) ∧ (u'.2.1 ≤ u.2.1 ∧ u.2.2 ≤ u'.2.2)) : z_S1 u' m v := ⟨⟨Nat.le_trans hu.1.1 h.1.1, Nat.le_trans h.1.2 hu.1.2⟩, ⟨Nat.le_trans hu.2.1 h.2.1.1, Nat.le_trans h.2.1.2 hu.2.2⟩, h.2.2⟩
section ZCQ
variable {b : Nat → Nat} {n me : Nat} {τ τ' : z_TT} {A A' B B' : Nat → List (Nat × Int32)} {u u' : z_Bd}
theorem z_Cc.cg {P P' : Nat → Nat → Nat → Int32 → Prop} {s e : Nat} (hA : ∀ k, 14 ≤ k → k ≤ 18 → ∀ i, s ≤ i → i < e → z_fn 0 (A' k) i = z_fn 0 (A k) i) (hF : ∀ i, s ≤ i → i < e → z_fn 0 (A' 19) i = z_fn 0 (A 19) i) (hK : ∀ k, 71 ≤ k → k ≤ 79 → ∀ i, u.2.1 ≤ i → i < u.2.2 → z_fn 0 (B' k) i = z_fn 0 (B k) i) (hu : u'.2.1 ≤ u.2.1 ∧ u.2.2 ≤ u'.2.2) (hP : ∀ g x y p, s ≤ x → y < e → P g x y p → P' g x y p) : ∀ (r : List (Nat × Nat)) (q : Int32) (l x : Nat), s ≤ l → l < e → s ≤ x → z_Cc b n me A B u P e r q l x → z_Cc b n me A' B' u' P' e r q l x := by
  intro r
  induction r with
  | nil =>
    intro q l x hl he hx h
    obtain ⟨h1, h2, h3⟩ := h
    exact ⟨h1, (hA 16 (by decide) (by decide) l hl he).trans h2, h3⟩
  | cons a r ih =>
    intro q l x hl he hx h
    obtain ⟨i, y⟩ := a
    obtain ⟨⟨h1, h2, h3, h4, h5⟩, h6, h7, h8, h9, h10, h11, h12, ⟨g, h13, h14⟩, h15, h16⟩ := h
    have k1 := fun k a b => hK k a b i h2 h3
    have a1 := fun k a b => hA k a b x hx (by omega)
    refine ⟨⟨h1, by omega, by omega, h4, h5⟩, (hA 16 (by decide) (by decide) l hl he).trans h6, (a1 14 (by decide) (by decide)).trans h7, ?_, ?_, ?_, ?_, ?_, ⟨g, (k1 77 (by decide) (by decide)).trans h13, ?_⟩, (hA 14 (by decide) (by decide) y (by omega) h5).trans h15, ?_⟩
    · rw [k1 73 (by decide) (by decide), k1 74 (by decide) (by decide), a1 15 (by decide) (by decide)]
      exact h8
    · rw [k1 75 (by decide) (by decide), k1 76 (by decide) (by decide), a1 18 (by decide) (by decide)]
      exact h9
    · rw [a1 17 (by decide) (by decide), k1 71 (by decide) (by decide)]
      exact h10
    · rw [k1 71 (by decide) (by decide)]
      exact h11
    · rw [hF x hx (by omega), k1 72 (by decide) (by decide)]
      exact h12
    · rw [k1 78 (by decide) (by decide)]
      exact hP g (x + 1) y _ (by omega) h5 h14
    · rw [k1 79 (by decide) (by decide)]
      exact ih _ x (y + 1) hx (by omega) (by omega) h16
/-- of other tables that tell the same of these nodes, clauses and instructions; of another place -/
theorem z_Cp.cg0 (hT : ∀ x y, z_Tq τ x y → z_Tq τ' x y) (hFq : ∀ x y1 y2 e, z_Fq τ x y1 y2 e → z_Fq τ' x y1 y2 e) : ∀ (f : Nat) (u u' : z_Bd) (w w' : Nat) (m s e : Nat) (p p' : Int32) (f' : Nat), z_wle w w' → f ≤ f' → ((u'.1.1 ≤ u.1.1 ∧ u.1.2 ≤ u'.1.2) ∧ (u'.2.1 ≤ u.2.1 ∧ u.2.2 ≤ u'.2.2)) → (∀ k, 57 ≤ k → k ≤ 70 → ∀ i, u.1.1 ≤ i → i < u.1.2 → z_fn 0 (B' k) i = z_fn 0 (B k) i) → (∀ k, 71 ≤ k → k ≤ 79 → ∀ i, u.2.1 ≤ i → i < u.2.2 → z_fn 0 (B' k) i = z_fn 0 (B k) i) → (∀ k, 14 ≤ k → k ≤ 18 → ∀ i, s ≤ i → i < e → z_fn 0 (A' k) i = z_fn 0 (A k) i) → (∀ i, s ≤ i → i + 1 < e → z_fn 0 (A' 19) i = z_fn 0 (A 19) i) → z_fn 0 (A' 19) (e - 1) = p' → z_Cp b n me τ A B u f w m s e p → z_Cp b n me τ' A' B' u' f' w' m s e p' := by
  intro f
  induction f with
  | zero =>
    intro u u' w w' m s e p p' f' _ _ _ _ _ _ _ _ h
    exact h.elim
  | succ f ih =>
    intro u u' w w' m s e p p' f' hw hf' hu hB hK hA hF hp h
    obtain ⟨f2, rfl⟩ : ∃ f2, f' = f2 + 1 := ⟨f' - 1, by omega⟩
    obtain ⟨⟨h1, h2, h3⟩, -, h5⟩ := h
    have hc : ∀ c v g x y q, z_S1 u m v → s ≤ x → y < e → (z_wle c w ∧ z_Cp b n me τ A B v f (w - c) g x y q) → (z_wle c w' ∧ z_Cp b n me τ' A' B' v f2 (w' - c) g x y q) := by
      intro c v g x y q hv hx hy hq
      obtain ⟨hcw, hq⟩ := hq
      refine ⟨hcw.tr hw, ?_⟩
      have hxy : x < y ∧ z_fn 0 (A 19) (y - 1) = q := by
        cases f with
        | zero => exact hq.elim
        | succ f => exact ⟨hq.1.2.2, hq.2.1⟩
      exact ih v v (w - c) (w' - c) g x y q q f2 (hcw.sub hw) (by omega) ⟨⟨Nat.le_refl _, Nat.le_refl _⟩, ⟨Nat.le_refl _, Nat.le_refl _⟩⟩ (fun k a b i c d => hB k a b i (Nat.le_trans hv.1.1 c) (Nat.lt_of_lt_of_le d hv.1.2)) (fun k a b i c d => hK k a b i (Nat.le_trans hv.2.1.1 c) (Nat.lt_of_lt_of_le d hv.2.1.2)) (fun k a b i c d => hA k a b i (by omega) (by omega)) (fun i c d => hF i (by omega) (by omega)) ((hF (y - 1) (by omega) (by omega)).trans hxy.2) hq
    have b1 := fun k a b => hB k a b m h1 h2
    have a14 := fun i (c : s ≤ i) (d : i < e) => hA 14 (by decide) (by decide) i c d
    have a15 := fun i (c : s ≤ i) (d : i < e) => hA 15 (by decide) (by decide) i c d
    have a16 := fun i (c : s ≤ i) (d : i < e) => hA 16 (by decide) (by decide) i c d
    have a17 := fun i (c : s ≤ i) (d : i < e) => hA 17 (by decide) (by decide) i c d
    have a18 := fun i (c : s ≤ i) (d : i < e) => hA 18 (by decide) (by decide) i c d
    refine ⟨⟨by omega, by omega, h3⟩, hp, ?_⟩
    unfold z_Cb at h5 ⊢
    rw [b1 57 (by decide) (by decide), b1 58 (by decide) (by decide), b1 59 (by decide) (by decide), b1 60 (by decide) (by decide), b1 61 (by decide) (by decide), b1 62 (by decide) (by decide), b1 63 (by decide) (by decide), b1 64 (by decide) (by decide), b1 65 (by decide) (by decide), b1 66 (by decide) (by decide), b1 67 (by decide) (by decide), b1 68 (by decide) (by decide), b1 69 (by decide) (by decide), b1 70 (by decide) (by decide), a14 s (by omega) h3, a15 s (by omega) h3, a16 s (by omega) h3, a17 s (by omega) h3, a18 s (by omega) h3, a14 (e - 1) (by omega) (by omega), a15 (e - 1) (by omega) (by omega)]
    rcases h5 with h | h | h | h | ⟨q0, x, y, g, v1, v2, ⟨w1, w2, w3⟩, q1, q2, q3, q4, q5, q6, q7, q8, q9⟩ | ⟨q0, x, y, g, v1, v2, ⟨w1, w2, w3⟩, q1, q2, q3, q4, q5, q6, q7, q8, q9, q10, q11, q12, q13, q14, q15⟩ | ⟨q0, x, y, z, g, h, v1, v2, v3, ⟨w1, w2, w3, w4⟩, q1, q2, q3, q4, q5, q6, q7, q8, q9, q10, q11, q12, q13, q14⟩ | ⟨q0, x, v1, w1, q1, q2, q3, q4, q5, q6, q7, q8⟩ | ⟨q0, x, y, g, h, r, v1, v2, ⟨w1, w2, w3⟩, q1, q2, q3, q4, q5, q6, q7, q8, q9, q10, q11, q12, q13, q14, q15⟩ | ⟨k, k1, k2, q0, x, y, g, v1, v2, ⟨w1, w2, w3⟩, q1, q2, q3, q4, q5, q6, q7⟩ | ⟨q0, x, y, g, v1, v2, ⟨w1, w2, w3⟩, q1, q2, q3, q4, q5, q6, q7, q8⟩ | ⟨q0, x, ef, v1, w1, q1, q2, q3, q4, q5, q6, q7⟩
    · exact Or.inl h
    · exact Or.inr (Or.inl h)
    · exact Or.inr (Or.inr (Or.inl h))
    · exact Or.inr (Or.inr (Or.inr (Or.inl h)))
    · refine Or.inr (Or.inr (Or.inr (Or.inr (Or.inl ⟨q0, x, y, g, v1, v2, ⟨w1.w hu, w2.w hu, w3⟩, q1, q2, q3, q4, hc _ _ _ _ _ _ w1 (by omega) (by omega) q5, ?_, ?_, hc _ _ _ _ _ _ w2 (by omega) (by omega) q8, q9⟩))))
      · rw [a14 g (by omega) (by omega)]; exact q6
      · rw [a15 g (by omega) (by omega)]; exact q7
    · refine Or.inr (Or.inr (Or.inr (Or.inr (Or.inr (Or.inl ⟨q0, x, y, g, v1, v2, ⟨w1.w hu, w2.w hu, w3⟩, q1, q2, q3, q4, q5, q6, q7, hFq _ _ _ _ q8, hc _ _ _ _ _ _ w1 (by omega) (by omega) q9, q10, ?_, ?_, ?_, hc _ _ _ _ _ _ w2 (by omega) (by omega) q14, q15⟩)))))
      · rw [a14 g (by omega) (by omega)]; exact q11
      · rw [a14 (g + 1) (by omega) (by omega)]; exact q12
      · rw [a15 (g + 1) (by omega) (by omega)]; exact q13
    · refine Or.inr (Or.inr (Or.inr (Or.inr (Or.inr (Or.inr (Or.inl ⟨q0, x, y, z, g, h, v1, v2, v3, ⟨w1.w hu, w2.w hu, w3.w hu, w4⟩, q1, q2, q3, q4, q5, q6, hc _ _ _ _ _ _ w1 (by omega) (by omega) q7, ?_, ?_, hc _ _ _ _ _ _ w2 (by omega) (by omega) q10, ?_, ?_, hc _ _ _ _ _ _ w3 (by omega) (by omega) q13, q14⟩))))))
      · rw [a14 g (by omega) (by omega)]; exact q8
      · rw [a15 g (by omega) (by omega)]; exact q9
      · rw [a14 h (by omega) (by omega)]; exact q11
      · rw [a15 h (by omega) (by omega)]; exact q12
    · exact Or.inr (Or.inr (Or.inr (Or.inr (Or.inr (Or.inr (Or.inr (Or.inl ⟨q0, x, v1, w1.w hu, q1, q2, q3, q4, hT _ _ q5, q6, hc _ _ _ _ _ _ w1 (by omega) (by omega) q7, q8⟩)))))))
    · refine Or.inr (Or.inr (Or.inr (Or.inr (Or.inr (Or.inr (Or.inr (Or.inr (Or.inl ⟨q0, x, y, g, h, r, v1, v2, ⟨w1.w hu, w2.w hu, w3⟩, q1, q2, q3, q4, q5, q6, q7, hc _ _ _ _ _ _ w1 (by omega) (by omega) q8, ?_, ?_, ?_, hc _ _ _ _ _ _ w2 (by omega) (by omega) q12, ?_, q14, z_Cc.cg (fun k a b i c d => hA k a b i c (by omega)) (fun i c d => hF i c (by omega)) hK hu.2 (fun g x y p c d w => ?_) r _ s (h + 1) (by omega) (by omega) (by omega) q15⟩))))))))
      · rw [a14 g (by omega) (by omega)]; exact q9
      · rw [a15 g (by omega) (by omega)]; exact q10
      · rw [a16 g (by omega) (by omega)]; exact q11
      · rw [a14 h (by omega) (by omega)]; exact q13
      · obtain ⟨v, r1, r2, r3⟩ := w
        exact ⟨v, r1.w hu, r2, hc _ v g x y p r1 c (by omega) r3⟩
    · exact Or.inr (Or.inr (Or.inr (Or.inr (Or.inr (Or.inr (Or.inr (Or.inr (Or.inr (Or.inl ⟨k, k1, k2, q0, x, y, g, v1, v2, ⟨w1.w hu, w2.w hu, w3⟩, q1, q2, q3, q4, hc _ _ _ _ _ _ w1 (by omega) (by omega) q5, hc _ _ _ _ _ _ w2 (by omega) (by omega) q6, q7⟩)))))))))
    · refine Or.inr (Or.inr (Or.inr (Or.inr (Or.inr (Or.inr (Or.inr (Or.inr (Or.inr (Or.inr (Or.inl ⟨q0, x, y, g, v1, v2, ⟨w1.w hu, w2.w hu, w3⟩, q1, q2, q3, q4, hc _ _ _ _ _ _ w1 (by omega) (by omega) q5, ?_, hc _ _ _ _ _ _ w2 (by omega) (by omega) q7, q8⟩))))))))))
      rw [a14 g (by omega) (by omega)]; exact q6
    · exact Or.inr (Or.inr (Or.inr (Or.inr (Or.inr (Or.inr (Or.inr (Or.inr (Or.inr (Or.inr (Or.inr ⟨q0, x, ef, v1, w1.w hu, q1, q2, q3, hc _ _ _ _ _ _ w1 (by omega) (by omega) q4, q5, q6, q7⟩))))))))))
theorem z_Cp.cg (hu : (u'.1.1 ≤ u.1.1 ∧ u.1.2 ≤ u'.1.2) ∧ (u'.2.1 ≤ u.2.1 ∧ u.2.2 ≤ u'.2.2)) (hB : ∀ k, 57 ≤ k → k ≤ 70 → ∀ i, u.1.1 ≤ i → i < u.1.2 → z_fn 0 (B' k) i = z_fn 0 (B k) i) (hK : ∀ k, 71 ≤ k → k ≤ 79 → ∀ i, u.2.1 ≤ i → i < u.2.2 → z_fn 0 (B' k) i = z_fn 0 (B k) i) (hT : ∀ x y, z_Tq τ x y → z_Tq τ' x y) (hFq : ∀ x y1 y2 e, z_Fq τ x y1 y2 e → z_Fq τ' x y1 y2 e) (f w m s e : Nat) (p p' : Int32) (f' : Nat) (hf : f ≤ f') (hA : ∀ k, 14 ≤ k → k ≤ 18 → ∀ i, s ≤ i → i < e → z_fn 0 (A' k) i = z_fn 0 (A k) i) (hF : ∀ i, s ≤ i → i + 1 < e → z_fn 0 (A' 19) i = z_fn 0 (A 19) i) (hp : z_fn 0 (A' 19) (e - 1) = p') (h : z_Cp b n me τ A B u f w m s e p) : z_Cp b n me τ' A' B' u' f' w m s e p' := z_Cp.cg0 hT hFq f u u' w w m s e p p' f' z_wle.rf hf hu hB hK hA hF hp h
theorem z_Cp.wk {f w w' m s e : Nat} {p : Int32} (h : z_Cp b n me τ A B u f w m s e p) (hw : z_wle w w') : z_Cp b n me τ A B u f w' m s e p := by
  have hp : z_fn 0 (A 19) (e - 1) = p := by
    cases f with
    | zero => exact h.elim
    | succ f => exact h.2.1
  exact z_Cp.cg0 (fun _ _ q => q) (fun _ _ _ _ q => q) f u u w w' m s e p p f hw (Nat.le_refl _) ⟨⟨Nat.le_refl _, Nat.le_refl _⟩, ⟨Nat.le_refl _, Nat.le_refl _⟩⟩ (fun _ _ _ _ _ _ => rfl) (fun _ _ _ _ _ _ => rfl) (fun _ _ _ _ _ _ => rfl) (fun _ _ _ => rfl) hp h
end ZCQ
/-- the weight of an expression at depth d -/
def z_wx (d : Nat) : Nat := if d = 0 then 50200 else z_wx (d - 1) - 1004
termination_by d
decreasing_by omega
theorem z_wxe (d : Nat) : z_wx d = 50200 - 1004 * d := by
  induction d with
  | zero =>
    rw [z_wx]
    rfl
  | succ d ih =>
    rw [z_wx, if_neg (Nat.succ_ne_zero d), Nat.add_sub_cancel, ih]
    omega
theorem z_w0 {d : Nat} : z_wle (z_wx (d + 1)) (z_wx d - 0) := by
  unfold z_wle
  simp only [z_wxe]
  omega
theorem z_w4 {d : Nat} : z_wle (z_wx (d + 1)) (z_wx d - 4) := by
  unfold z_wle
  simp only [z_wxe]
  omega
theorem z_w3 {d : Nat} : z_wle (z_wx (d + 1)) (z_wx d - 3) := by
  unfold z_wle
  simp only [z_wxe]
  omega
theorem z_w43 {d : Nat} : z_wle (z_wx d - 4) (z_wx d - 3) := by
  unfold z_wle
  simp only [z_wxe]
  omega
theorem z_w31 {d : Nat} : z_wle (z_wx (d + 1)) (z_wx d - 3 - 1) := by
  unfold z_wle
  simp only [z_wxe]
  omega
theorem z_w431 {d : Nat} : z_wle (z_wx d - 4) (z_wx d - 3 - 1) := by
  unfold z_wle
  simp only [z_wxe]
  omega
theorem z_w32 {d : Nat} : z_wle (z_wx (d + 1)) (z_wx d - 3 - 1000) := by
  unfold z_wle
  simp only [z_wxe]
  omega
theorem z_wa {d : Nat} (h : d < 50) : z_wle 4 (z_wx d) := by
  unfold z_wle
  simp only [z_wxe]
  omega
theorem z_wd2 {d : Nat} (h : d < 50) : z_wle 1000 (z_wx d - 3) := by
  unfold z_wle
  simp only [z_wxe]
  omega
theorem z_wb {d r : Nat} (h : d < 50) (hr : r ≤ 3) : z_wle 1 (z_wx d - r) := by
  unfold z_wle
  simp only [z_wxe]
  omega
theorem z_wr {d r r2 : Nat} (h : d < 50) (hr : r2 ≤ 4) (h2 : r ≤ r2) : z_wle (z_wx d - r2) (z_wx d - r) := by
  simp only [z_wxe]
  have e1 : 50200 - 1004 * d - r = 1000 * (50 - d) + (200 - 4 * d - r) := by omega
  have e2 : 50200 - 1004 * d - r2 = 1000 * (50 - d) + (200 - 4 * d - r2) := by omega
  have l1 : 200 - 4 * d - r < 1000 := by omega
  have l2 : 200 - 4 * d - r2 ≤ 200 - 4 * d - r := by omega
  rw [e1, e2]
  revert l1 l2
  generalize 50 - d = q
  generalize 200 - 4 * d - r = x
  generalize 200 - 4 * d - r2 = y
  intro l1 l2
  unfold z_wle
  omega
