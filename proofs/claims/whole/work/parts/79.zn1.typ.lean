/-! Types without their rows, as trees; a node as both hold it, with its type: what checking finds. -/
abbrev z_F : Type := Std.Format
def z_bz (t : Nat) : z_F := if t = 0 then .nil else if t = 1 then .line else .align false
def z_fz (a r : z_F) : z_F := .append a r
def z_sf (T : Nat → Nat × Nat × Int32) : Nat → Nat → z_F
  | 0, _ => .nil
  | k + 1, t => if t < 3 then z_bz t else z_fz (z_sf T k (T t).1) (z_sf T k (T t).2.1)
def z_sh (T : Nat → Nat × Nat × Int32) (t : Nat) : z_F := z_sf T (t + 1) t
theorem z_fz_inj {a r a' r' : z_F} (h : z_fz a r = z_fz a' r') : a = a' ∧ r = r' := Std.Format.append.inj h
theorem z_fz_bz {a r : z_F} {t : Nat} : ¬ z_fz a r = z_bz t := by
  unfold z_bz z_fz
  intro h
  split at h
  · cases h
  · split at h
    · cases h
    · cases h
section ZSH
variable {T T' : Nat → Nat × Nat × Int32} {m : Nat}
theorem z_sf_s {k t : Nat} : z_sf T (k + 1) t = if t < 3 then z_bz t else z_fz (z_sf T k (T t).1) (z_sf T k (T t).2.1) := rfl
theorem z_sf_k (h : z_Tw T m) : ∀ t, t < m → ∀ k k', t < k → t < k' → z_sf T k t = z_sf T k' t := by
  intro t
  induction t using Nat.strongRecOn with
  | ind t ih =>
    intro ht k k' hk hk'
    cases k with
    | zero => omega
    | succ k =>
      cases k' with
      | zero => omega
      | succ k' =>
        rw [z_sf_s, z_sf_s]
        by_cases h3 : t < 3
        · rw [if_pos h3, if_pos h3]
        · rw [if_neg h3, if_neg h3]
          obtain ⟨a1, a2, -⟩ := h.2 t (by omega) ht
          rw [ih _ a1 (by omega) k k' (by omega) (by omega), ih _ a2 (by omega) k k' (by omega) (by omega)]
theorem z_sh_lo {t : Nat} (h : t < 3) : z_sh T t = z_bz t := by
  unfold z_sh
  rw [z_sf_s, if_pos h]
theorem z_sh_s (h : z_Tw T m) {t : Nat} (h3 : 3 ≤ t) (ht : t < m) : z_sh T t = z_fz (z_sh T (T t).1) (z_sh T (T t).2.1) := by
  obtain ⟨a1, a2, -⟩ := h.2 t h3 ht
  unfold z_sh
  rw [z_sf_s, if_neg (by omega), z_sf_k h _ (by omega) t ((T t).1 + 1) a1 (by omega), z_sf_k h _ (by omega) t ((T t).2.1 + 1) a2 (by omega)]
theorem z_sf_e (h : z_Tw T m) (he : ∀ i, 3 ≤ i → i < m → T' i = T i) : ∀ k t, t < m → z_sf T' k t = z_sf T k t := by
  intro k
  induction k with
  | zero => intro t _; rfl
  | succ k ih =>
    intro t ht
    rw [z_sf_s, z_sf_s]
    by_cases h3 : t < 3
    · rw [if_pos h3, if_pos h3]
    · obtain ⟨a1, a2, -⟩ := h.2 t (by omega) ht
      rw [if_neg h3, if_neg h3, he t (by omega) ht, ih _ (by omega), ih _ (by omega)]
theorem z_sh_e (h : z_Tw T m) (he : ∀ i, 3 ≤ i → i < m → T' i = T i) {t : Nat} (ht : t < m) : z_sh T' t = z_sh T t := z_sf_e h he _ t ht
/-- what fits has the same form -/
theorem z_sh_ftt (h : z_Tw T m) : ∀ n a b, a + b ≤ n → a < m → b < m → z_ftt T a b → z_sh T a = z_sh T b := by
  intro n
  induction n using Nat.strongRecOn with
  | ind n ih =>
    intro a b hn ha hb hf
    by_cases ne : a = b
    · rw [ne]
    · by_cases lo : a < 3 ∨ b < 3
      · exact absurd hf (z_ftt_lo lo ne)
      · have a3 : 3 ≤ a := by omega
        have b3 : 3 ≤ b := by omega
        obtain ⟨a1, a2, -⟩ := h.2 a a3 ha
        obtain ⟨b1, b2, -⟩ := h.2 b b3 hb
        obtain ⟨-, f1, f2⟩ := (z_ftt_s h a3 b3 ha hb ne).mp hf
        rw [z_sh_s h a3 ha, z_sh_s h b3 hb, ih (n - 1) (by omega) (T b).1 (T a).1 (by omega) (by omega) (by omega) f1, ih (n - 1) (by omega) (T a).2.1 (T b).2.1 (by omega) (by omega) (by omega) f2]
end ZSH
/-- the form of a type of the class -/
def z_shx (τ : z_TT) (x : Int32) : z_F := z_sh τ.1.1 x.toNatClampNeg
theorem z_shx_n {τ : z_TT} {i : Nat} (h : i < 1500) : z_shx τ (nI i) = z_sh τ.1.1 i := by
  unfold z_shx
  rw [nI_clamp (by omega)]
theorem z_shx_lo {τ : z_TT} {t : Nat} (h : t < 3) : z_shx τ (nI t) = z_bz t := by
  rw [z_shx_n (by omega), z_sh_lo h]
theorem z_shx_e {D : Nat} {τ τ' : z_TT} {x y : Int32} (h1 : z_Tw τ.1.1 τ.1.2) (hm : τ.1.2 ≤ 1500) (he : z_Te τ τ') (q : z_Tqd D τ x y) : z_shx τ' x = z_shx τ x := by
  obtain ⟨i, i', rfl, -, l1, -⟩ := q
  rw [z_shx_n (by omega), z_shx_n (by omega)]
  exact z_sh_e h1 he.1.2 l1
/-- forms of the names' types, the last first -/
def z_gl (τ : z_TT) (a : List (Nat × Int32)) : Nat → List z_F
  | 0 => []
  | n + 1 => z_shx τ (z_fn 0 a n) :: z_gl τ a n
theorem z_gl_s {τ : z_TT} {a : List (Nat × Int32)} {n : Nat} : z_gl τ a (n + 1) = z_shx τ (z_fn 0 a n) :: z_gl τ a n := rfl
theorem z_gl_e {τ : z_TT} {a a' : List (Nat × Int32)} : ∀ n, (∀ j, j < n → z_fn 0 a' j = z_fn 0 a j) → z_gl τ a' n = z_gl τ a n := by
  intro n
  induction n with
  | zero => intro _; rfl
  | succ n ih =>
    intro h
    rw [z_gl_s, z_gl_s, h n (Nat.lt_succ_self n), ih (fun j hj => h j (Nat.lt_succ_of_lt hj))]
theorem z_gl_t {τ τ' : z_TT} {a : List (Nat × Int32)} {B : List (Nat × Int32)} {κ : Nat → Nat} (h1 : z_Tw τ.1.1 τ.1.2) (hm : τ.1.2 ≤ 1500) (he : z_Te τ τ') : ∀ n, (∀ j, j < n → z_Tqd 51 τ (z_fn 0 a j) (z_fn 0 B (κ j))) → z_gl τ' a n = z_gl τ a n := by
  intro n
  induction n with
  | zero => intro _; rfl
  | succ n ih =>
    intro h
    rw [z_gl_s, z_gl_s, z_shx_e h1 hm he (h n (Nat.lt_succ_self n)), ih (fun j hj => h j (Nat.lt_succ_of_lt hj))]
theorem z_gl_len {τ : z_TT} {a : List (Nat × Int32)} : ∀ n, (z_gl τ a n).length = n := by
  intro n
  induction n with
  | zero => rfl
  | succ n ih => rw [z_gl_s, List.length_cons, ih]
/-- the form of name k -/
def z_gi : List z_F → Nat → Option z_F
  | [], _ => none
  | x :: r, k => if r.length = k then some x else z_gi r k
theorem z_gi_gl {τ : z_TT} {a : List (Nat × Int32)} : ∀ n k, k < n → z_gi (z_gl τ a n) k = some (z_shx τ (z_fn 0 a k)) := by
  intro n
  induction n with
  | zero => intro k h; omega
  | succ n ih =>
    intro k h
    rw [z_gl_s]
    show (if (z_gl τ a n).length = k then some (z_shx τ (z_fn 0 a n)) else z_gi (z_gl τ a n) k) = _
    rw [z_gl_len]
    by_cases e : n = k
    · rw [if_pos e, e]
    · rw [if_neg e]
      exact ih k (by omega)
section ZCU
variable (b : Nat → Nat) (n me : Nat) (τ0 : z_TT) (A B : Nat → List (Nat × Int32))
/-- the clauses of a handle, with their types -/
def z_Cv (u : z_Bd) (m : Nat) (P : Nat → z_Bd → Nat → Nat → Nat → List z_F → z_F → Prop) (e : Nat) (Γ : List z_F) (t : z_F) : List (Nat × Nat) → Int32 → Int32 → Nat → Nat → Prop
  | [], _, q, l, x => q = -1 ∧ z_fn 0 (A 16) l = 0 ∧ x = e
  | (i, y) :: r, k, q, l, x => ∃ ef, (q = nI i ∧ i < 300 ∧ x < y ∧ y < e) ∧ z_fn 0 (A 16) l = nI x ∧ z_fn 0 (A 14) x = 24 ∧ z_Nm b n (z_fn 0 (B 73) i) (z_fn 0 (A 15) x) (z_fn 0 (B 74) i) ∧ z_Nm b n (z_fn 0 (B 75) i) (z_fn 0 (A 18) x) (z_fn 0 (B 76) i) ∧ z_fn 0 (A 17) x = z_fn 0 (B 71) i ∧ (ef < me ∧ z_fn 0 (B 71) i = nI ef ∧ ((k >>> (nI ef &&& 31)) &&& 1) = 0 ∧ ∃ g, g < 600 ∧ z_fn 0 (B 77) i = nI g ∧ ∃ v : z_Bd, z_S1 u m v ∧ P 4 v g (x + 1) y (z_fz (z_shx τ0 (z_fn 0 (A 23) ef)) t :: z_shx τ0 (z_fn 0 (A 22) ef) :: Γ) t) ∧ z_fn 0 (A 14) y = 25 ∧ z_Cv u m P e Γ t r (k ||| (1 <<< (nI ef &&& 31))) (z_fn 0 (B 79) i) x (y + 1)
/-- one node: its instructions from s to e, the forms of the names' types, the form of its type -/
def z_Cu (u : z_Bd) (P : Nat → z_Bd → Nat → Nat → Nat → List z_F → z_F → Prop) (m s e : Nat) (Γ : List z_F) (t : z_F) : Prop :=
  (z_fn 0 (B 57) m = 12 ∧ e = s + 1 ∧ z_fn 0 (A 14) s = 0 ∧ z_fn 0 (A 15) s = z_fn 0 (B 68) m ∧ t = z_bz 0) ∨
  (z_fn 0 (B 57) m = 13 ∧ e = s + 1 ∧ z_fn 0 (A 14) s = 0 ∧ z_fn 0 (A 15) s = z_fn 0 (B 68) m ∧ (z_fn 0 (A 15) s = 0 ∨ z_fn 0 (A 15) s = 1) ∧ t = z_bz 1) ∨
  (z_fn 0 (B 57) m = 14 ∧ e = s + 1 ∧ z_fn 0 (A 14) s = 0 ∧ z_fn 0 (A 15) s = 0 ∧ t = z_bz 2) ∨
  (z_fn 0 (B 57) m = 15 ∧ e = s + 1 ∧ z_fn 0 (A 14) s = 1 ∧ z_Nm b n (z_fn 0 (B 64) m) (z_fn 0 (A 15) s) (z_fn 0 (B 65) m) ∧ ∃ k, z_wl (z_fn 0 (A 15) s) (z_ctx A s).1 = some k ∧ z_gi Γ k = some t) ∨
  (z_fn 0 (B 57) m = 0 ∧ ∃ (x y g : Nat) (t1 : z_F) (v1 v2 : z_Bd), (x < 600 ∧ y < 600 ∧ z_S1 u m v1 ∧ z_S1 u m v2 ∧ v1.1.2 ≤ v2.1.1) ∧ z_fn 0 (B 58) m = nI x ∧ z_fn 0 (B 59) m = nI y ∧ s < g ∧ g + 1 < e - 1 ∧ P 0 v1 x s g Γ t1 ∧ z_fn 0 (A 14) g = 4 ∧ z_Nm b n (z_fn 0 (B 64) m) (z_fn 0 (A 15) g) (z_fn 0 (B 65) m) ∧ P 4 v2 y (g + 1) (e - 1) (t1 :: Γ) t ∧ z_fn 0 (A 14) (e - 1) = 5) ∨
  (z_fn 0 (B 57) m = 1 ∧ ∃ (x y g : Nat) (ta tr : z_F) (v1 v2 : z_Bd), (x < 600 ∧ y < 600 ∧ z_S1 u m v1 ∧ z_S1 u m v2 ∧ v1.1.2 ≤ v2.1.1) ∧ z_fn 0 (B 58) m = nI x ∧ z_fn 0 (B 59) m = nI y ∧ s + 1 < g ∧ g + 2 < e - 1 ∧ z_fn 0 (A 14) s = 19 ∧ z_Nm b n (z_fn 0 (B 64) m) (z_fn 0 (A 15) s) (z_fn 0 (B 65) m) ∧ z_Nm b n (z_fn 0 (B 66) m) (z_fn 0 (A 18) s) (z_fn 0 (B 67) m) ∧ P 4 v1 x (s + 1) g (ta :: z_fz ta tr :: Γ) tr ∧ z_fn 0 (A 17) s = nI g ∧ z_fn 0 (A 14) g = 20 ∧ z_fn 0 (A 14) (g + 1) = 4 ∧ z_Nm b n (z_fn 0 (B 64) m) (z_fn 0 (A 15) (g + 1)) (z_fn 0 (B 65) m) ∧ P 4 v2 y (g + 2) (e - 1) (z_fz ta tr :: Γ) t ∧ z_fn 0 (A 14) (e - 1) = 5) ∨
  (z_fn 0 (B 57) m = 2 ∧ ∃ (x y z g h : Nat) (v1 v2 v3 : z_Bd), (x < 600 ∧ y < 600 ∧ z < 600 ∧ z_S1 u m v1 ∧ z_S1 u m v2 ∧ z_S1 u m v3 ∧ v1.1.2 ≤ v2.1.1 ∧ v2.1.2 ≤ v3.1.1 ∧ v1.1.2 ≤ v3.1.1) ∧ z_fn 0 (B 58) m = nI x ∧ z_fn 0 (B 59) m = nI y ∧ z_fn 0 (B 60) m = nI z ∧ s < g ∧ g + 1 < h ∧ h + 1 < e - 1 ∧ P 0 v1 x s g Γ (z_bz 1) ∧ z_fn 0 (A 14) g = 6 ∧ z_fn 0 (A 15) g = nI (h + 1) ∧ P 4 v2 y (g + 1) h Γ t ∧ z_fn 0 (A 14) h = 7 ∧ z_fn 0 (A 15) h = nI (e - 1) ∧ P 4 v3 z (h + 1) (e - 1) Γ t ∧ z_fn 0 (A 14) (e - 1) = 8) ∨
  (z_fn 0 (B 57) m = 3 ∧ ∃ (x : Nat) (ta tr : z_F) (v1 : z_Bd), (x < 600 ∧ z_S1 u m v1) ∧ z_fn 0 (B 58) m = nI x ∧ s + 1 < e - 1 ∧ z_fn 0 (A 14) s = 17 ∧ z_Nm b n (z_fn 0 (B 64) m) (z_fn 0 (A 15) s) (z_fn 0 (B 65) m) ∧ z_fn 0 (A 17) s = nI (e - 1) ∧ P 4 v1 x (s + 1) (e - 1) (ta :: Γ) tr ∧ z_fn 0 (A 14) (e - 1) = 18 ∧ t = z_fz ta tr) ∨
  (z_fn 0 (B 57) m = 4 ∧ ∃ (x y g h : Nat) (r : List (Nat × Nat)) (t1 : z_F) (v1 v2 : z_Bd), (x < 600 ∧ y < 600 ∧ z_S1 u m v1 ∧ z_S1 u m v2 ∧ v1.1.2 ≤ v2.1.1) ∧ z_fn 0 (B 58) m = nI x ∧ z_fn 0 (B 59) m = nI y ∧ s + 1 < g ∧ g + 1 < h ∧ h < e - 1 ∧ z_fn 0 (A 14) s = 21 ∧ z_fn 0 (A 17) s = nI (e - 1) ∧ P 4 v1 x (s + 1) g Γ t1 ∧ z_fn 0 (A 14) g = 22 ∧ z_Nm b n (z_fn 0 (B 64) m) (z_fn 0 (A 15) g) (z_fn 0 (B 65) m) ∧ P 4 v2 y (g + 1) h (t1 :: Γ) t ∧ z_fn 0 (A 14) h = 23 ∧ z_fn 0 (A 14) (e - 1) = 26 ∧ z_Cv b n me τ0 A B u m P (e - 1) Γ t r 0 (z_fn 0 (B 60) m) s (h + 1)) ∨
  (∃ k : Nat, 5 ≤ k ∧ k ≤ 9 ∧ z_fn 0 (B 57) m = nI k ∧ ∃ (x y g : Nat) (v1 v2 : z_Bd), (x < 600 ∧ y < 600 ∧ z_S1 u m v1 ∧ z_S1 u m v2 ∧ v1.1.2 ≤ v2.1.1) ∧ z_fn 0 (B 58) m = nI x ∧ z_fn 0 (B 59) m = nI y ∧ s < g ∧ g < e - 1 ∧ P 0 v1 x s g Γ (z_bz 0) ∧ P 1 v2 y g (e - 1) Γ (z_bz 0) ∧ z_fn 0 (A 14) (e - 1) = nI (k + 4) ∧ t = (if k ≤ 7 then z_bz 0 else z_bz 1)) ∨
  (z_fn 0 (B 57) m = 10 ∧ ∃ (x y g : Nat) (t1 : z_F) (v1 v2 : z_Bd), (x < 600 ∧ y < 600 ∧ z_S1 u m v1 ∧ z_S1 u m v2 ∧ v1.1.2 ≤ v2.1.1) ∧ z_fn 0 (B 58) m = nI x ∧ z_fn 0 (B 59) m = nI y ∧ s < g ∧ g + 1 < e - 1 ∧ P 0 v1 x s g Γ (z_fz t1 t) ∧ z_fn 0 (A 14) g = 14 ∧ P 1 v2 y (g + 1) (e - 1) Γ t1 ∧ z_fn 0 (A 14) (e - 1) = 15) ∨
  (z_fn 0 (B 57) m = 11 ∧ ∃ (x ef : Nat) (v1 : z_Bd), (x < 600 ∧ z_S1 u m v1) ∧ ef < me ∧ z_fn 0 (B 58) m = nI x ∧ s < e - 1 ∧ P 1000 v1 x s (e - 1) Γ (z_shx τ0 (z_fn 0 (A 22) ef)) ∧ z_fn 0 (A 14) (e - 1) = 16 ∧ z_fn 0 (A 15) (e - 1) = nI ef ∧ z_fn 0 (B 68) m = nI ef ∧ t = z_shx τ0 (z_fn 0 (A 23) ef))
def z_Ct : Nat → Nat → z_Bd → Nat → Nat → Nat → List z_F → z_F → Prop
  | 0, _, _, _, _, _, _, _ => False
  | f + 1, w, u, m, s, e, Γ, t => (s < e ∧ u.1.1 ≤ m ∧ m < u.1.2) ∧ z_Cu b n me τ0 A B u (fun c v x s e Γ t => z_wle c w ∧ z_Ct f (w - c) v x s e Γ t) m s e Γ t
/-- with fuel enough -/
def z_Cw (w : Nat) (u : z_Bd) (m s e : Nat) (Γ : List z_F) (t : z_F) : Prop := ∀ f, e ≤ s + f → z_Ct b n me τ0 A B f w u m s e Γ t
end ZCU
theorem z_Cw.mk {b : Nat → Nat} {n me : Nat} {τ0 : z_TT} {A B : Nat → List (Nat × Int32)} {w m s e : Nat} {u : z_Bd} {Γ : List z_F} {t : z_F} (hs : s < e) (hu : u.1.1 ≤ m ∧ m < u.1.2) (h : ∀ f, e ≤ s + (f + 1) → z_Cu b n me τ0 A B u (fun c v x s e Γ t => z_wle c w ∧ z_Ct b n me τ0 A B f (w - c) v x s e Γ t) m s e Γ t) : z_Cw b n me τ0 A B w u m s e Γ t := by
  intro f hf
  cases f with
  | zero => omega
  | succ f => exact ⟨⟨hs, hu⟩, h f hf⟩
