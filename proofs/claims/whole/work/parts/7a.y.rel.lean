/-! Both machines side by side: what it means that they hold the same. -/
/-- a frame: its record, its floor, the floors below, its room, from where to where its instructions are -/
abbrev y_D : Type := Nat × Nat × List Nat × Nat × Nat × Nat
/-- what waits for a value: frame, height, base, position, form, entries, operations, cells, steps below -/
abbrev y_K : Type := y_D → Nat → Nat → Nat → z_F → Nat → Nat → List Nat → Nat → Prop
abbrev y_X : Type := List (y_E × List Nat)
/-- one value, as both hold it -/
def y_vr (φ : Nat → Nat) (ψ : Nat → z_F) (F : Nat) (t : z_F) (v v' : Int32) : Prop := (∃ k, k < 3 ∧ t = z_bz k ∧ v' = v ∧ (k = 1 → v = 0 ∨ v = 1)) ∨ ∃ f, f < F ∧ v' = nI f ∧ v = nI (φ f) ∧ ψ f = t ∧ ∃ a r, t = z_fz a r
/-- from the end of a node to where its value is waited for: FORGET, JOIN, HANDLE_END, SKIP -/
def y_Ad (A : Nat → List (Nat × Int32)) (ce : Nat) : Nat → Nat → Nat → Prop
  | 0, e, p => e = p
  | k + 1, e, p => e < ce ∧ (((∃ o, z_fn 0 (A 14) e = nI o ∧ (o = 5 ∨ o = 8 ∨ o = 26)) ∧ y_Ad A ce k (e + 1) p) ∨ (z_fn 0 (A 14) e = 7 ∧ ∃ g, e < g ∧ g < ce ∧ z_fn 0 (A 15) e = nI g ∧ y_Ad A ce k g p))
section YS
variable (b : Nat → Nat) (n : Nat) (τ : z_TT) (A1 B1 A2 : Nat → List (Nat × Int32)) (ce : Nat)
variable (rr : Nat → Int32) (rd : Nat) (fg : List Nat) (B : Nat → List (Nat × Int32)) (vr : z_F → Int32 → Int32 → Prop)
/-- the names: cells of the reference, values of the class -/
def y_en (val : Nat → Int32) : List Nat → List Int32 → List z_F → Int32 → Prop
  | [], [], [], x => x = -1
  | c :: r, v :: L, t :: Γ, x => x = nI c ∧ c < 200000 ∧ z_Nm b n (z_fn 0 (B 98) c) v (z_fn 0 (B 99) c) ∧ vr t (val L.length) (z_fn 0 (B 100) c) ∧ y_en val r L Γ (z_fn 0 (B 101) c)
  | _, _, _, _ => False
def y_va (mm : Nat → Int32) (bs : Nat) (D : y_D) (k : Nat) : Int32 := if D.2.1 ≤ k then mm (bs + 4 + (k - D.2.1)) else rr (D.1 + 1 + k)
/-- a frame of the class -/
def y_Fr (mm : Nat → Int32) (tp bs : Nat) (D : y_D) : Prop := (bs + 4 + D.2.2.2.1 ≤ tp ∧ D.2.2.2.1 ≤ 128) ∧ mm (bs + 2) = nI D.1 ∧ (∃ mk, rr D.1 = nI mk ∧ mk < ce ∧ z_fn 0 (A2 15) mk = nI D.2.1) ∧ D.1 + 1 + D.2.1 ≤ rd ∧ (∀ k, k ≤ D.2.1 → ¬ D.1 + k ∈ fg) ∧ ∀ j, D.2.2.2.2.1 ≤ j → j ≤ D.2.2.2.2.2 → (z_ctx A1 j).2.length = D.2.2.1.length + 1 → (z_ctx A1 j).1.length ≤ D.2.1 + D.2.2.2.1
/-- bounds of a node -/
def y_Bd (D : y_D) (tp bs s wt : Nat) (u : z_Bd) (en tl : Nat) : Prop := 2 * en + (u.1.2 - u.1.1) ≤ 600 + tl ∧ tl + wt / 1000 ≤ 50 ∧ tp + wt % 1000 ≤ bs + 4 + D.2.2.2.1 + 200 ∧ 2 * (z_ctx A1 s).1.length + wt % 1000 ≤ 200 ∧ u.1.2 ≤ 600
/-- a node from s to e is being worked at; what waits for it -/
def y_Bs (mm : Nat → Int32) (K : y_K) (D : y_D) (tp bs s e : Nat) (Γ : List z_F) (tt : z_F) (wt : Nat) (u : z_Bd) (cs : List Nat) (nm : Int32) (en tl : Nat) (cv : List Nat) (ph : Nat) : Prop :=
  ((z_ctx A1 s).2 = D.2.1 :: D.2.2.1 ∧ D.2.2.2.2.1 ≤ s ∧ e ≤ D.2.2.2.2.2 ∧ D.2.1 ≤ (z_ctx A1 s).1.length) ∧ y_en b n B vr (y_va rr mm bs D) cs (z_ctx A1 s).1 Γ nm ∧ y_Bd A1 D tp bs s wt u en tl ∧ (∃ l, cs = l ++ cv) ∧ ∃ k p, y_Ad A1 ce k e p ∧ K D tp bs p tt en tl cv ph
/-- the parts of nodes -/
def y_P (f wt : Nat) (c : Nat) (v : z_Bd) (x s e : Nat) (Γ : List z_F) (t : z_F) : Prop := z_wle c wt ∧ z_Ct b n 8 τ A1 B1 f (wt - c) v x s e Γ t
def y_c0 (f wt : Nat) (u : z_Bd) (m s e : Nat) (Γ : List z_F) (t : z_F) (x y g : Nat) (t1 : z_F) (v1 v2 : z_Bd) : Prop := (x < 600 ∧ y < 600 ∧ z_S1 u m v1 ∧ z_S1 u m v2 ∧ v1.1.2 ≤ v2.1.1) ∧ z_fn 0 (B1 58) m = nI x ∧ z_fn 0 (B1 59) m = nI y ∧ s < g ∧ g + 1 < e - 1 ∧ y_P b n τ A1 B1 f wt 0 v1 x s g Γ t1 ∧ z_fn 0 (A1 14) g = 4 ∧ z_Nm b n (z_fn 0 (B1 64) m) (z_fn 0 (A1 15) g) (z_fn 0 (B1 65) m) ∧ y_P b n τ A1 B1 f wt 4 v2 y (g + 1) (e - 1) (t1 :: Γ) t ∧ z_fn 0 (A1 14) (e - 1) = 5
def y_c2 (f wt : Nat) (u : z_Bd) (m s e : Nat) (Γ : List z_F) (t : z_F) (x y z g h : Nat) (v1 v2 v3 : z_Bd) : Prop := (x < 600 ∧ y < 600 ∧ z < 600 ∧ z_S1 u m v1 ∧ z_S1 u m v2 ∧ z_S1 u m v3 ∧ v1.1.2 ≤ v2.1.1 ∧ v2.1.2 ≤ v3.1.1 ∧ v1.1.2 ≤ v3.1.1) ∧ z_fn 0 (B1 58) m = nI x ∧ z_fn 0 (B1 59) m = nI y ∧ z_fn 0 (B1 60) m = nI z ∧ s < g ∧ g + 1 < h ∧ h + 1 < e - 1 ∧ y_P b n τ A1 B1 f wt 0 v1 x s g Γ (z_bz 1) ∧ z_fn 0 (A1 14) g = 6 ∧ z_fn 0 (A1 15) g = nI (h + 1) ∧ y_P b n τ A1 B1 f wt 4 v2 y (g + 1) h Γ t ∧ z_fn 0 (A1 14) h = 7 ∧ z_fn 0 (A1 15) h = nI (e - 1) ∧ y_P b n τ A1 B1 f wt 4 v3 z (h + 1) (e - 1) Γ t ∧ z_fn 0 (A1 14) (e - 1) = 8
def y_c4 (f wt : Nat) (u : z_Bd) (m s e : Nat) (Γ : List z_F) (t : z_F) (x y g h : Nat) (r : List (Nat × Nat)) (t1 : z_F) (v1 v2 : z_Bd) : Prop := (x < 600 ∧ y < 600 ∧ z_S1 u m v1 ∧ z_S1 u m v2 ∧ v1.1.2 ≤ v2.1.1) ∧ z_fn 0 (B1 58) m = nI x ∧ z_fn 0 (B1 59) m = nI y ∧ s + 1 < g ∧ g + 1 < h ∧ h < e - 1 ∧ z_fn 0 (A1 14) s = 21 ∧ z_fn 0 (A1 17) s = nI (e - 1) ∧ y_P b n τ A1 B1 f wt 4 v1 x (s + 1) g Γ t1 ∧ z_fn 0 (A1 14) g = 22 ∧ z_Nm b n (z_fn 0 (B1 64) m) (z_fn 0 (A1 15) g) (z_fn 0 (B1 65) m) ∧ y_P b n τ A1 B1 f wt 4 v2 y (g + 1) h (t1 :: Γ) t ∧ z_fn 0 (A1 14) h = 23 ∧ z_fn 0 (A1 14) (e - 1) = 26 ∧ z_Cv b n 8 τ A1 B1 u m (y_P b n τ A1 B1 f wt) (e - 1) Γ t r 0 (z_fn 0 (B1 60) m) s (h + 1)
def y_c5 (f wt : Nat) (u : z_Bd) (m s e : Nat) (Γ : List z_F) (t : z_F) (k x y g : Nat) (v1 v2 : z_Bd) : Prop := (5 ≤ k ∧ k ≤ 9 ∧ z_fn 0 (B1 57) m = nI k) ∧ (x < 600 ∧ y < 600 ∧ z_S1 u m v1 ∧ z_S1 u m v2 ∧ v1.1.2 ≤ v2.1.1) ∧ z_fn 0 (B1 58) m = nI x ∧ z_fn 0 (B1 59) m = nI y ∧ s < g ∧ g < e - 1 ∧ y_P b n τ A1 B1 f wt 0 v1 x s g Γ (z_bz 0) ∧ y_P b n τ A1 B1 f wt 1 v2 y g (e - 1) Γ (z_bz 0) ∧ z_fn 0 (A1 14) (e - 1) = nI (k + 4) ∧ t = (if k ≤ 7 then z_bz 0 else z_bz 1)
def y_c10 (f wt : Nat) (u : z_Bd) (m s e : Nat) (Γ : List z_F) (t : z_F) (x y g : Nat) (t1 : z_F) (v1 v2 : z_Bd) : Prop := (x < 600 ∧ y < 600 ∧ z_S1 u m v1 ∧ z_S1 u m v2 ∧ v1.1.2 ≤ v2.1.1) ∧ z_fn 0 (B1 58) m = nI x ∧ z_fn 0 (B1 59) m = nI y ∧ s < g ∧ g + 1 < e - 1 ∧ y_P b n τ A1 B1 f wt 0 v1 x s g Γ (z_fz t1 t) ∧ z_fn 0 (A1 14) g = 14 ∧ y_P b n τ A1 B1 f wt 1 v2 y (g + 1) (e - 1) Γ t1 ∧ z_fn 0 (A1 14) (e - 1) = 15
def y_c11 (f wt : Nat) (u : z_Bd) (m s e : Nat) (Γ : List z_F) (t : z_F) (x ef : Nat) (v1 : z_Bd) : Prop := (x < 600 ∧ z_S1 u m v1) ∧ ef < 8 ∧ z_fn 0 (B1 58) m = nI x ∧ s < e - 1 ∧ y_P b n τ A1 B1 f wt 1000 v1 x s (e - 1) Γ (z_shx τ (z_fn 0 (A1 22) ef)) ∧ z_fn 0 (A1 14) (e - 1) = 16 ∧ z_fn 0 (A1 15) (e - 1) = nI ef ∧ z_fn 0 (B1 68) m = nI ef ∧ t = z_shx τ (z_fn 0 (A1 23) ef)
/-- what waits inside a frame -/
def y_Nf (mm : Nat → Int32) (w vv : Int32) (m f wt : Nat) (u : z_Bd) (s e : Nat) (Γ : List z_F) (tt : z_F) (tp0 tp p : Nat) (t : z_F) (tl0 tl : Nat) : Prop :=
  (w = 0 ∧ tl = tl0 ∧ tp = tp0 ∧ ∃ (k x y g : Nat) (v1 v2 : z_Bd), y_c5 b n τ A1 B1 f wt u m s e Γ tt k x y g v1 v2 ∧ p = g ∧ t = z_bz 0) ∨
  (w = 1 ∧ tl = tl0 ∧ tp = tp0 + 1 ∧ vv = mm tp0 ∧ ∃ (k x y g : Nat) (v1 v2 : z_Bd), y_c5 b n τ A1 B1 f wt u m s e Γ tt k x y g v1 v2 ∧ p = e - 1 ∧ t = z_bz 0) ∨
  (w = 2 ∧ tl = tl0 ∧ tp = tp0 ∧ ∃ (x y z g h : Nat) (v1 v2 v3 : z_Bd), y_c2 b n τ A1 B1 f wt u m s e Γ tt x y z g h v1 v2 v3 ∧ p = g ∧ t = z_bz 1) ∨
  (w = 3 ∧ tl = tl0 ∧ tp = tp0 ∧ ∃ (x y g : Nat) (t1 : z_F) (v1 v2 : z_Bd), y_c0 b n τ A1 B1 f wt u m s e Γ tt x y g t1 v1 v2 ∧ p = g ∧ t = t1) ∨
  (w = 4 ∧ tl = tl0 ∧ tp = tp0 ∧ ∃ (x y g : Nat) (t1 : z_F) (v1 v2 : z_Bd), y_c10 b n τ A1 B1 f wt u m s e Γ tt x y g t1 v1 v2 ∧ p = g ∧ t = z_fz t1 tt) ∨
  (w = 5 ∧ tl = tl0 ∧ tp = tp0 + 1 ∧ ∃ (x y g : Nat) (t1 : z_F) (v1 v2 : z_Bd), y_c10 b n τ A1 B1 f wt u m s e Γ tt x y g t1 v1 v2 ∧ vr (z_fz t1 tt) (mm tp0) vv ∧ p = e - 1 ∧ t = t1) ∨
  (w = 6 ∧ tl = tl0 + 1 ∧ tp = tp0 ∧ ∃ (x ef : Nat) (v1 : z_Bd), y_c11 b n τ A1 B1 f wt u m s e Γ tt x ef v1 ∧ p = e - 1 ∧ t = z_shx τ (z_fn 0 (A1 22) ef))
/-- the frame below waits for a value of form t -/
def y_Be (mm : Nat → Int32) (K : y_K) (bs : Nat) (t : z_F) (ph : Nat) : Prop := ∃ (bk bl : Nat) (D' : y_D) (k p' en' tl' : Nat) (cv' : List Nat) (ph' : Nat), (mm bs = nI bk ∧ mm (bs + 1) = nI bl ∧ 4 ≤ bl ∧ bl ≤ bs ∧ bk < ce ∧ ph' + (4601 - bk) ≤ ph) ∧ y_Ad A1 ce k bk p' ∧ K D' bs (bs - bl) p' t en' tl' cv' ph'
/-- a handle whose body is at work -/
def y_Hn (mm : Nat → Int32) (D : y_D) (bs m s e f wt : Nat) (u : z_Bd) (Γ : List z_F) (tt : z_F) (cs : List Nat) (nm : Int32) (x y g h : Nat) (r : List (Nat × Nat)) (t1 : z_F) (v1 v2 : z_Bd) : Prop := y_c4 b n τ A1 B1 f wt u m s e Γ tt x y g h r t1 v1 v2 ∧ (mm (bs + 3) = nI s ∧ s < e ∧ e < ce ∧ z_fn 0 (A2 18) s = nI D.2.2.2.1) ∧ (D.2.1 = (z_ctx A1 s).1.length ∧ D.2.2.1 = (z_ctx A1 s).2 ∧ D.2.2.2.2.1 ≤ s + 1 ∧ e - 1 ≤ D.2.2.2.2.2) ∧ y_en b n B vr (y_va rr mm bs D) cs (z_ctx A1 s).1 Γ nm ∧ (2 * (z_ctx A1 s).1.length + wt % 1000 ≤ 200 ∧ u.1.2 ≤ 600 ∧ wt / 1000 ≤ 50) ∧ (z_fn 0 (B1 57) m = 4 ∧ u.1.1 ≤ m ∧ m < u.1.2)
/-- one entry -/
def y_st (mm : Nat → Int32) (K : y_K) (x : y_E × List Nat) : y_K := fun D tp bs p t en tl cv ph => ∃ m, x.1.2.1 = nI m ∧ m < 600 ∧ cv = x.2 ∧
  ((∃ (f wt : Nat) (u : z_Bd) (s e : Nat) (Γ : List z_F) (tt : z_F) (tp0 en0 tl0 : Nat) (cv0 : List Nat), (s < e ∧ u.1.1 ≤ m ∧ m < u.1.2 ∧ e < ce) ∧ y_Bs b n A1 ce rr B vr mm K D tp0 bs s e Γ tt wt u x.2 x.1.2.2.2 en0 tl0 cv0 ph ∧ en = en0 + 1 ∧ y_Nf b n τ A1 B1 vr mm x.1.1 x.1.2.2.1 m f wt u s e Γ tt tp0 tp p t tl0 tl) ∨
  (en = 0 ∧ tl = 0 ∧ tp = bs + 4 + D.2.2.2.1 ∧ y_Fr A1 A2 ce rr rd fg mm tp bs D ∧
    (((x.1.1 = 7 ∨ x.1.1 = 9 ∨ x.1.1 = 10) ∧ (x.1.2.2.2 = -1 ∧ x.2 = [] ∧ mm (bs + 3) = -1 ∧ p < ce) ∧ (∃ o, z_fn 0 (A1 14) p = nI o ∧ (o = 18 ∨ o = 20 ∨ o = 23 ∨ o = 25)) ∧ y_Be A1 ce mm K bs t ph) ∨
    (x.1.1 = 8 ∧ ∃ (s e f wt : Nat) (u : z_Bd) (Γ : List z_F) (tt : z_F) (y1 y2 g h : Nat) (r : List (Nat × Nat)) (v1 v2 : z_Bd), y_Hn b n τ A1 B1 A2 ce rr B vr mm D bs m s e f wt u Γ tt x.2 x.1.2.2.2 y1 y2 g h r t v1 v2 ∧ p = g ∧ y_Be A1 ce mm K bs tt ph))))
def y_sk (mm : Nat → Int32) (K0 : y_K) : y_X → y_K
  | [] => K0
  | x :: X => y_st b n τ A1 B1 A2 ce rr rd fg B vr mm (y_sk mm K0 X) x
/-- the end of the program waits -/
def y_Kr (tt0 : z_F) (mm : Nat → Int32) : y_K := fun D tp bs p t en tl cv _ => bs = 0 ∧ p + 1 = ce ∧ t = tt0 ∧ en = 0 ∧ tl = 0 ∧ cv = [] ∧ tp = bs + 4 + D.2.2.2.1 ∧ y_Fr A1 A2 ce rr rd fg mm tp bs D
/-- a handler waits, at the bottom of a continuation -/
def y_Kh (tt : z_F) (x : y_E × List Nat) (mm : Nat → Int32) : y_K := fun D tp bs p t en tl cv _ => bs = 0 ∧ x.1.1 = 8 ∧ en = 0 ∧ tl = 0 ∧ cv = x.2 ∧ tp = bs + 4 + D.2.2.2.1 ∧ y_Fr A1 A2 ce rr rd fg mm tp bs D ∧ ∃ m, x.1.2.1 = nI m ∧ m < 600 ∧ ∃ (s e f wt : Nat) (u : z_Bd) (Γ : List z_F) (y1 y2 g h : Nat) (r : List (Nat × Nat)) (v1 v2 : z_Bd), y_Hn b n τ A1 B1 A2 ce rr B vr mm D bs m s e f wt u Γ tt x.2 x.1.2.2.2 y1 y2 g h r t v1 v2 ∧ p = g
end YS
/-- how many entries have a frame -/
def y_dp : y_X → Nat
  | [] => 0
  | x :: X => y_dp X + (if x.1.1 < 7 then 0 else 1)
/-- rows hold these entries, from off on, the last on top -/
def y_Px (row : Nat → y_E) (off : Nat) : y_X → Prop
  | [] => True
  | x :: X => row (off + X.length) = x.1 ∧ y_Px row off X
def y_sm (g : Nat → Nat) : Nat → Nat
  | 0 => 0
  | k + 1 => y_sm g k + g k
