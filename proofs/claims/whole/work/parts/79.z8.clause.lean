/-! Reading programs: clauses one behind the other; what is left of a clause once the class has ended. -/
/-- where the last clause begins, or the handle -/
def z_lp : List (Nat × Nat) → Nat → Nat → Nat
  | [], l, _ => l
  | (_, y) :: r, _, x => z_lp r x (y + 1)
/-- the last clause -/
def z_li : List (Nat × Nat) → Option Nat
  | [] => none
  | (i, _) :: r => some ((z_li r).getD i)
/-- their numbers rise -/
def z_so : List (Nat × Nat) → Nat → Prop
  | [], _ => True
  | (i, _) :: r, lo => lo ≤ i ∧ z_so r (i + 1)
theorem z_so_li : ∀ (r : List (Nat × Nat)) (lo i : Nat), z_so r lo → z_li r = some i → lo ≤ i := by
  intro r
  induction r with
  | nil => intro lo i _ h; cases h
  | cons a r ih =>
    intro lo i h h2
    obtain ⟨i0, y0⟩ := a
    obtain ⟨h3, h4⟩ := h
    have h2 : some ((z_li r).getD i0) = some i := h2
    cases hr : z_li r with
    | none =>
      rw [hr] at h2
      have : i0 = i := Option.some.inj h2
      omega
    | some i' =>
      rw [hr] at h2
      have e : i' = i := Option.some.inj h2
      have := ih (i0 + 1) i' h4 hr
      omega
theorem z_so_app {k y1 : Nat} : ∀ (r : List (Nat × Nat)) (lo : Nat), z_so r lo → lo ≤ k → (∀ i, z_li r = some i → i < k) → z_so (r ++ [(k, y1)]) lo := by
  intro r
  induction r with
  | nil => intro lo _ h _; exact ⟨h, trivial⟩
  | cons a r ih =>
    intro lo h hk hl
    obtain ⟨i0, y0⟩ := a
    obtain ⟨h3, h4⟩ := h
    have i0k : i0 < k := by
      cases hr : z_li r with
      | none =>
        have : z_li ((i0, y0) :: r) = some i0 := by
          show some ((z_li r).getD i0) = some i0
          rw [hr]
          rfl
        exact hl i0 this
      | some i' =>
        have e : z_li ((i0, y0) :: r) = some i' := by
          show some ((z_li r).getD i0) = some i'
          rw [hr]
          rfl
        have a1 := hl i' e
        have a2 := z_so_li r (i0 + 1) i' h4 hr
        omega
    refine ⟨h3, ih (i0 + 1) h4 i0k (fun i hi => hl i ?_)⟩
    show some ((z_li r).getD i0) = some i
    rw [hi]
    rfl
theorem z_li_app {k y1 : Nat} : ∀ (r : List (Nat × Nat)), z_li (r ++ [(k, y1)]) = some k := by
  intro r
  induction r with
  | nil => rfl
  | cons a r ih =>
    obtain ⟨i0, y0⟩ := a
    show some ((z_li (r ++ [(k, y1)])).getD i0) = some k
    rw [ih]
    rfl
section ZZ8
variable {b : Nat → Nat} {n me : Nat} {A A' B B' : Nat → List (Nat × Int32)} {u u' : z_Bd}
theorem z_Cc.pos {P : Nat → Nat → Nat → Int32 → Prop} {e : Nat} : ∀ (r : List (Nat × Nat)) (q : Int32) (l x : Nat), l < x → z_Cc b n me A B u P e r q l x → (z_lp r l x = l ∨ x ≤ z_lp r l x) ∧ l ≤ z_lp r l x ∧ z_lp r l x < e ∧ x ≤ e := by
  intro r
  induction r with
  | nil =>
    intro q l x h hc
    have e1 : x = e := hc.2.2
    have e2 : z_lp [] l x = l := rfl
    omega
  | cons a r ih =>
    intro q l x h hc
    obtain ⟨i, y⟩ := a
    obtain ⟨⟨h1, h2, h3, h4, h5⟩, h6, h7, h8, h9, h10, h11, h12, h13, h15, h16⟩ := hc
    have a1 := ih _ x (y + 1) (by omega) h16
    have e2 : z_lp ((i, y) :: r) l x = z_lp r x (y + 1) := rfl
    omega
theorem z_Cc.lpa {P : Nat → Nat → Nat → Int32 → Prop} {e k y1 : Nat} : ∀ (r : List (Nat × Nat)) (q : Int32) (l x : Nat), z_Cc b n me A B u P e r q l x → z_lp (r ++ [(k, y1)]) l x = e := by
  intro r
  induction r with
  | nil => intro q l x hc; exact hc.2.2
  | cons a r ih =>
    intro q l x hc
    obtain ⟨i, y⟩ := a
    obtain ⟨-, h6, h7, h8, h9, h10, h11, h12, h13, h15, h16⟩ := hc
    exact ih _ x (y + 1) h16
theorem z_Cc.bd {P : Nat → Nat → Nat → Int32 → Prop} {e : Nat} : ∀ (r : List (Nat × Nat)) (q : Int32) (l x : Nat), z_Cc b n me A B u P e r q l x → ∀ c, c ∈ r → u.2.1 ≤ c.1 ∧ c.1 < u.2.2 := by
  intro r
  induction r with
  | nil => intro q l x _ c hc; cases hc
  | cons a r ih =>
    intro q l x hh c hc
    obtain ⟨i, y⟩ := a
    obtain ⟨⟨h1, h2, h3, h4, h5⟩, h6, h7, h8, h9, h10, h11, h12, h13, h15, h16⟩ := hh
    cases hc with
    | head => exact ⟨h2, h3⟩
    | tail _ hm => exact ih _ x (y + 1) h16 c hm
theorem z_Cc.app {P P' : Nat → Nat → Nat → Int32 → Prop} {s0 e e' k y1 lp : Nat} {li : Option Nat} (hA : ∀ kk, 14 ≤ kk → kk ≤ 19 → ∀ i, s0 ≤ i → i < e → ¬ (kk = 16 ∧ i = lp) → z_fn 0 (A' kk) i = z_fn 0 (A kk) i) (hL : z_fn 0 (A' 16) lp = nI e) (hK : ∀ kk, 71 ≤ kk → kk ≤ 79 → ∀ i, u.2.1 ≤ i → i < u.2.2 → ¬ (kk = 79 ∧ li = some i) → z_fn 0 (B' kk) i = z_fn 0 (B kk) i) (hLi : ∀ i, li = some i → z_fn 0 (B' 79) i = nI k) (hu : u'.2.1 ≤ u.2.1 ∧ u.2.2 ≤ u'.2.2) (hP : ∀ g x y p, s0 ≤ x → y < e → ¬ (x ≤ lp ∧ lp < y) → P g x y p → P' g x y p) (hk : u'.2.1 ≤ k ∧ k < u'.2.2 ∧ e < y1 ∧ e' = y1 + 1) (h1 : z_fn 0 (A' 14) e = 24) (h2 : z_Nm b n (z_fn 0 (B' 73) k) (z_fn 0 (A' 15) e) (z_fn 0 (B' 74) k)) (h3 : z_Nm b n (z_fn 0 (B' 75) k) (z_fn 0 (A' 18) e) (z_fn 0 (B' 76) k)) (h4 : z_fn 0 (A' 17) e = z_fn 0 (B' 71) k) (h5 : ∃ ef, ef < me ∧ z_fn 0 (B' 71) k = nI ef) (h6 : z_fn 0 (A' 19) e = z_fn 0 (B' 72) k) (h7 : ∃ g, z_fn 0 (B' 77) k = nI g ∧ P' g (e + 1) y1 (z_fn 0 (B' 78) k)) (h8 : z_fn 0 (A' 14) y1 = 25) (h9 : z_fn 0 (B' 79) k = -1) (h10 : z_fn 0 (A' 16) e = 0) : ∀ (r : List (Nat × Nat)) (lo : Nat) (q : Int32) (l x : Nat), s0 ≤ l → l < x → z_so r lo → z_lp r l x = lp → (¬ r = [] → z_li r = li) → z_Cc b n me A B u P e r q l x → z_Cc b n me A' B' u' P' e' (r ++ [(k, y1)]) (if r.isEmpty = true then nI k else q) l x := by
  intro r
  induction r with
  | nil =>
    intro lo q l x hl hx hso hlp hli hc
    obtain ⟨c1, c2, c3⟩ := hc
    subst c3
    have e1 : l = lp := hlp
    refine ⟨⟨rfl, hk.1, hk.2.1, hk.2.2.1, by omega⟩, by rw [e1]; exact hL, h1, h2, h3, h4, h5, h6, h7, h8, h9, h10, hk.2.2.2.symm⟩
  | cons a r ih =>
    intro lo q l x hl hx hso hlp hli hc
    obtain ⟨i, y⟩ := a
    obtain ⟨⟨c1, c2, c3, c4, c5⟩, c6, c7, c8, c9, c10, c11, c12, ⟨g, c13, c14⟩, c15, c16⟩ := hc
    have hlp : z_lp r x (y + 1) = lp := hlp
    have po := z_Cc.pos r _ x (y + 1) (by omega) c16
    rw [hlp] at po
    have hli2 : some ((z_li r).getD i) = li := hli (by intro e; cases e)
    have hso2 : z_so r (i + 1) := hso.2
    have nl : ∀ kk, 71 ≤ kk → kk ≤ 78 → z_fn 0 (B' kk) i = z_fn 0 (B kk) i := fun kk a1 a2 => hK kk a1 (by omega) i c2 c3 (by omega)
    have aL : ∀ kk, 14 ≤ kk → kk ≤ 19 → ¬ kk = 16 → z_fn 0 (A' kk) x = z_fn 0 (A kk) x := fun kk a1 a2 a3 => hA kk a1 a2 x (by omega) (by omega) (by omega)
    have e79 : z_fn 0 (B' 79) i = (if r.isEmpty = true then nI k else z_fn 0 (B 79) i) := by
      cases r with
      | nil =>
        refine (hLi i ?_).trans rfl
        rw [← hli2]
        rfl
      | cons a2 r2 =>
        refine (hK 79 (by decide) (by decide) i c2 c3 ?_).trans rfl
        rintro ⟨-, e⟩
        obtain ⟨i2, y2⟩ := a2
        rw [← hli2] at e
        have e2 : z_li ((i2, y2) :: r2) = some ((z_li r2).getD i2) := rfl
        have e3 := z_so_li _ (i + 1) _ hso2 e2
        rw [e2] at e
        have e4 : (z_li r2).getD i2 = i := Option.some.inj e
        omega
    have tail := ih (i + 1) (z_fn 0 (B 79) i) x (y + 1) (by omega) (by omega) hso2 hlp (by
      intro hne
      cases r with
      | nil => exact absurd rfl hne
      | cons a2 r2 =>
        rw [← hli2]
        obtain ⟨i2, y2⟩ := a2
        rfl) c16
    rw [← e79] at tail
    refine ⟨⟨c1, by omega, by omega, c4, by omega⟩, ?_, (aL 14 (by decide) (by decide) (by decide)).trans c7, ?_, ?_, ?_, ?_, ?_, ⟨g, (nl 77 (by decide) (by decide)).trans c13, ?_⟩, (hA 14 (by decide) (by decide) y (by omega) c5 (by omega)).trans c15, tail⟩
    · rw [hA 16 (by decide) (by decide) l hl (by omega) (by omega)]
      exact c6
    · rw [nl 73 (by decide) (by decide), nl 74 (by decide) (by decide), aL 15 (by decide) (by decide) (by decide)]
      exact c8
    · rw [nl 75 (by decide) (by decide), nl 76 (by decide) (by decide), aL 18 (by decide) (by decide) (by decide)]
      exact c9
    · rw [aL 17 (by decide) (by decide) (by decide), nl 71 (by decide) (by decide)]
      exact c10
    · rw [nl 71 (by decide) (by decide)]
      exact c11
    · rw [aL 19 (by decide) (by decide) (by decide), nl 72 (by decide) (by decide)]
      exact c12
    · rw [nl 78 (by decide) (by decide)]
      exact hP g (x + 1) y _ (by omega) c5 (by omega) c14
/-! The reference, once the class has ended in a clause. -/
variable {R : z_RS} {x y : Int32} {d m kk : Nat} {Q : Option Value → z_RS → Prop}
theorem g182_135 {x2 x3 : Int32} (hm : m < 600) (hk : kk < 300) (hl : 0 ≤ z_fn 0 (R.1 60) m → ∃ i, i < 300 ∧ z_fn 0 (R.1 97) m = nI i) (h : z_Dz x y d R) (hQ : ∀ R', z_Dz x y d R' → z_XR R R' → R'.2.2 41 53 = 0 → Q none R') : p182_135 16 R.1 R.2.1 R.2.2 (nI m) x2 x3 (nI kk) Q := by
  obtain ⟨zi, zc⟩ := z_o6_in hm
  have ki : z_in (nI kk) 300 = true := z_inI hk (by decide)
  have kc : (nI kk).toNatClampNeg = kk := nI_clamp (by omega)
  have fin : ∀ B', (∀ k, k ≤ 54 → B' k = R.1 k) → B' 80 = R.1 80 → B' 81 = R.1 81 → B' 95 = R.1 95 → p182_176 16 B' R.2.1 R.2.2 (nI m) x2 x3 (nI kk) Q := by
    intro B' b0 b1 b2 b3
    unfold p182_176
    rw [zc]
    have h' : z_Dz x y d (z_u B' 97 ((m, nI kk) :: B' 97), R.2.1, R.2.2) := ⟨h.1, h.2.B (by rw [z_un (by decide), b1]) (by rw [z_un (by decide), b2]) (by rw [z_un (by decide), b3])⟩
    have hx : z_XR R (z_u B' 97 ((m, nI kk) :: B' 97), R.2.1, R.2.2) := z_XR_B (fun q r => by rw [z_un (by omega), b0 q (by omega)])
    obtain ⟨R', a1, a2, a3, a4⟩ := e159 (l := 15) (u := nI m) (v := 4 + nI kk) h'
    exact ⟨zi, none, R', a1, rfl, hQ R' a2 (hx.tr a3) a4⟩
  unfold p182_135
  rw [kc, zc]
  refine ⟨ki, zi, ?_⟩
  by_cases h0 : 0 ≤ z_fn 0 (R.1 60) m
  · refine z_ifp h0 ?_
    obtain ⟨i, i3, i97⟩ := hl h0
    unfold p182_163
    rw [zc]
    have e97 : z_fn 0 (z_u R.1 79 ((kk, -1) :: R.1 79) 97) m = nI i := by
      rw [z_un (by decide)]
      exact i97
    rw [e97]
    exact ⟨zi, z_inI i3 (by decide), fin _ (fun k q => by rw [z_un (by omega), z_un (by omega)]) rfl rfl rfl⟩
  · refine z_ifn h0 ?_
    unfold p182_152
    rw [zc]
    exact ⟨zi, fin _ (fun k q => by rw [z_un (by omega), z_un (by omega)]) rfl rfl rfl⟩
theorem g182_130 {x2 x3 : Int32} (hm : m < 600) (hk : kk < 300) (hl : 0 ≤ z_fn 0 (R.1 60) m → ∃ i, i < 300 ∧ z_fn 0 (R.1 97) m = nI i) (h : z_Dz x y d R) (hQ : ∀ R', z_Dz x y d R' → z_XR R R' → R'.2.2 41 53 = 0 → Q none R') : p182_130 16 R.1 R.2.1 R.2.2 (nI m) x2 x3 (nI kk) Q := by
  obtain ⟨R', a1, a2, a3⟩ := d154 (x := 4) h.1 (by decide)
  exact ⟨none, R', a1.up (by decide), rfl, g182_135 (R := R') hm hk (by rw [a2.1]; exact hl) ⟨a3.q, h.2.lw a2⟩ (fun R2 b1 b2 b3 => hQ R2 b1 (a2.xR.tr b2) b3)⟩
theorem g182_103 {x2 x3 : Int32} (hm : m < 600) (hk : kk < 300) (hl : 0 ≤ z_fn 0 (R.1 60) m → ∃ i, i < 300 ∧ z_fn 0 (R.1 97) m = nI i) (h : z_Dz x y d R) (hQ : ∀ R', z_Dz x y d R' → z_XR R R' → R'.2.2 41 53 = 0 → Q none R') : p182_103 16 R.1 R.2.1 R.2.2 (nI m) x2 x3 (nI kk) Q := by
  have ki : z_in (nI kk) 300 = true := z_inI hk (by decide)
  have kc : (nI kk).toNatClampNeg = kk := nI_clamp (by omega)
  unfold p182_103
  rw [kc]
  have hx : z_XR R (z_u (z_u R.1 75 ((kk, R.2.2 41 8) :: R.1 75)) 76 ((kk, R.2.2 41 9) :: R.1 76), R.2.1, R.2.2) := z_XR_B (fun q r => by rw [z_un (by omega), z_un (by omega)])
  obtain ⟨R', a1, a2, a3⟩ := d154 (R := (z_u (z_u R.1 75 ((kk, R.2.2 41 8) :: R.1 75)) 76 ((kk, R.2.2 41 9) :: R.1 76), R.2.1, R.2.2)) (x := 1) h.1 (by decide)
  have z1 : z_Zd d (z_u (z_u R.1 75 ((kk, R.2.2 41 8) :: R.1 75)) 76 ((kk, R.2.2 41 9) :: R.1 76), R.2.1, R.2.2) := h.2.B rfl rfl rfl
  refine ⟨ki, ki, none, R', a1.up (by decide), rfl, g182_130 (R := R') hm hk ?_ ⟨a3.q, z1.lw a2⟩ (fun R2 b1 b2 b3 => hQ R2 b1 (hx.tr (a2.xR.tr b2)) b3)⟩
  rw [a2.1]
  exact hl
theorem g182_44 {x2 x3 : Int32} (hm : m < 600) (hk : kk < 300) (h27 : R.2.2 41 27 = nI kk) (hl : 0 ≤ z_fn 0 (R.1 60) m → ∃ i, i < 300 ∧ z_fn 0 (R.1 97) m = nI i) (h : z_Dz x y d R) (hQ : ∀ R', z_Dz x y d R' → z_XR R R' → R'.2.2 41 53 = 0 → Q none R') : p182_44 16 R.1 R.2.1 R.2.2 (nI m) x2 x3 Q := by
  have ki : z_in (nI kk) 300 = true := z_inI hk (by decide)
  have kc : (nI kk).toNatClampNeg = kk := nI_clamp (by omega)
  unfold p182_44
  rw [h27, kc]
  obtain ⟨R1, hR1⟩ : ∃ X, X = ((z_u (z_u (z_u (z_u R.1 71 ((kk, x3) :: R.1 71)) 72 ((kk, x2) :: R.1 72)) 73 ((kk, R.2.2 41 8) :: R.1 73)) 74 ((kk, R.2.2 41 9) :: R.1 74)), R.2.1, (z_v R.2.2 41 27 (nI kk + 1))) := ⟨_, rfl⟩
  rw [← hR1]
  have hx : z_XR R R1 := by
    rw [hR1]
    exact (z_XR_B (R := R) (B' := z_u (z_u (z_u (z_u R.1 71 ((kk, x3) :: R.1 71)) 72 ((kk, x2) :: R.1 72)) 73 ((kk, R.2.2 41 8) :: R.1 73)) 74 ((kk, R.2.2 41 9) :: R.1 74)) (fun q r => by rw [z_un (by omega), z_un (by omega), z_un (by omega), z_un (by omega)])).tr (z_XR_U (R := (z_u (z_u (z_u (z_u R.1 71 ((kk, x3) :: R.1 71)) 72 ((kk, x2) :: R.1 72)) 73 ((kk, R.2.2 41 8) :: R.1 73)) 74 ((kk, R.2.2 41 9) :: R.1 74), R.2.1, R.2.2)) (fun k' j' q => z_vn (by omega)))
  have q1 : z_Qd x y R1.2.2 := by
    rw [hR1]
    exact h.1.U rfl rfl rfl rfl
  have z1 : z_Zd d R1 := by
    rw [hR1]
    exact h.2.cg rfl rfl rfl rfl rfl
  obtain ⟨R', a1, a2, a3⟩ := d154 (R := R1) (x := 1) q1 (by decide)
  refine ⟨ki, ki, ki, ki, none, R', a1.up (by decide), rfl, g182_103 (R := R') hm hk ?_ ⟨a3.q, z1.lw a2⟩ (fun R2 b1 b2 b3 => hQ R2 b1 (hx.tr (a2.xR.tr b2)) b3)⟩
  rw [a2.1, hR1]
  exact hl
theorem g182_35 {x2 v : Int32} (hm : m < 600) (hk : kk < 300) (h27 : R.2.2 41 27 = nI kk) (hl : 0 ≤ z_fn 0 (R.1 60) m → ∃ i, i < 300 ∧ z_fn 0 (R.1 97) m = nI i) (h : z_Dz x y d R) (hQ : ∀ R', z_Dz x y d R' → z_XR R R' → (z_Td x y R'.2.2 ∨ R'.2.2 41 53 = 0) → Q none R') : p182_35 16 R.1 R.2.1 R.2.2 (nI m) x2 v Q := by
  rcases id h.1 with ht | ⟨hx, h0, h5, h8⟩
  · exact z_ifn ht.1 (hQ R h z_XR.rf (Or.inl ht))
  · exact z_ifp (by rw [h0]; decide) (g182_44 hm hk h27 hl h (fun R' a1 a2 a3 => hQ R' a1 a2 (Or.inr a3)))
/-! and in what stands ahead of them -/
theorem g181_34 (hm : m < 600) (h : z_Dz x y d R) (hQ : ∀ R', z_Dz x y d R' → z_XR R R' → R'.2.2 41 53 = 0 → Q none R') : p181_34 16 R.1 R.2.1 R.2.2 (nI m) Q := by
  obtain ⟨R', a1, a2, a3, a4⟩ := e159 (l := 15) (u := nI m) (v := 1) h
  exact ⟨none, R', a1, rfl, hQ R' a2 a3 a4⟩
theorem g181_29 (hm : m < 600) (h : z_Dz x y d R) (hQ : ∀ R', z_Dz x y d R' → z_XR R R' → R'.2.2 41 53 = 0 → Q none R') : p181_29 16 R.1 R.2.1 R.2.2 (nI m) Q := by
  obtain ⟨R', a1, a2, -, a4⟩ := e154 (k := 4) h (by decide)
  exact ⟨none, R', a1.up (by decide), rfl, g181_34 (R := R') hm a2 (fun R2 b1 b2 b3 => hQ R2 b1 (a4.tr b2) b3)⟩
theorem g181_24 (hm : m < 600) (h : z_Dz x y d R) (hQ : ∀ R', z_Dz x y d R' → z_XR R R' → R'.2.2 41 53 = 0 → Q none R') : p181_24 16 R.1 R.2.1 R.2.2 (nI m) Q := by
  obtain ⟨R', a1, a2, a3⟩ := e164 hm h
  exact ⟨none, R', a1.up (by decide), rfl, g181_29 (R := R') hm a2 (fun R2 b1 b2 b3 => hQ R2 b1 (a3.tr b2) b3)⟩
theorem g181_16 {v : Int32} (hm : m < 600) (h : z_Dz x y d R) (hQ : ∀ R', z_Dz x y d R' → z_XR R R' → R'.2.2 41 53 = 0 → Q none R') : p181_16 16 R.1 R.2.1 R.2.2 (nI m) v (nI m) Q := by
  obtain ⟨zi, zc⟩ := z_o6_in hm
  have h' : z_Dz x y d (z_u R.1 70 ((m, v) :: R.1 70), R.2.1, R.2.2) := ⟨h.1, h.2.B rfl rfl rfl⟩
  have hx : z_XR R (z_u R.1 70 ((m, v) :: R.1 70), R.2.1, R.2.2) := z_XR_B (fun q r => z_un (by omega))
  unfold p181_16
  rw [zc]
  refine ⟨zi, ?_⟩
  obtain ⟨R', a1, a2, -, a4⟩ := e154 (k := 310) h' (by decide)
  exact ⟨none, R', a1.up (by decide), rfl, g181_24 (R := R') hm a2 (fun R2 b1 b2 b3 => hQ R2 b1 (hx.tr (a4.tr b2)) b3)⟩
theorem g181_7 (hm : m < 600) (h : z_Dz x y d R) (hQ : ∀ R', z_Dz x y d R' → z_XR R R' → R'.2.2 41 53 = 0 → Q none R') : p181_7 16 R.1 R.2.1 R.2.2 (nI m) Q := by
  obtain ⟨v', R', a1, a2, a3⟩ := e156 h
  exact ⟨_, R', a1.up (by decide), v', rfl, g181_16 (R := R') hm a2 (fun R2 b1 b2 b3 => hQ R2 b1 (a3.tr b2) b3)⟩
end ZZ8
