/-! The reference's machine: its smallest steps; its cells. -/
/-- a chain of cells -/
def y_lk (nx : Nat → Int32) : Int32 → List Nat → Prop
  | x, [] => x = -1
  | x, c :: r => x = nI c ∧ c < 200000 ∧ y_lk nx (nx c) r
theorem y_lk.det {nx : Nat → Int32} : ∀ {x : Int32} {a b : List Nat}, y_lk nx x a → y_lk nx x b → a = b := by
  intro x a
  induction a generalizing x with
  | nil =>
    intro b h h'
    cases b with
    | nil => rfl
    | cons c r =>
      have h : x = -1 := h
      rw [h'.1] at h
      exact absurd (show nI c < 0 by rw [h]; decide) (nI_pos (by have := h'.2.1; omega))
  | cons c r ih =>
    intro b h h'
    cases b with
    | nil =>
      have h' : x = -1 := h'
      rw [h.1] at h'
      exact absurd (show nI c < 0 by rw [h']; decide) (nI_pos (by have := h.2.1; omega))
    | cons d q =>
      obtain ⟨e, l1, k1⟩ := h
      obtain ⟨e', l2, k2⟩ := h'
      have cd : c = d := (nI_eq (by omega) (by omega)).mp (e.symm.trans e')
      subst cd
      rw [ih k1 k2]
theorem y_lk.e {nx nx' : Nat → Int32} : ∀ {x : Int32} {a : List Nat}, y_lk nx x a → (∀ c, c ∈ a → nx' c = nx c) → y_lk nx' x a := by
  intro x a
  induction a generalizing x with
  | nil => intro h _; exact h
  | cons c r ih =>
    intro h e
    refine ⟨h.1, h.2.1, ?_⟩
    rw [e c List.mem_cons_self]
    exact ih h.2.2 (fun d hd => e d (List.mem_cons_of_mem _ hd))
theorem y_lk.lt {nx : Nat → Int32} : ∀ {x : Int32} {a : List Nat}, y_lk nx x a → ∀ c, c ∈ a → c < 200000 := by
  intro x a
  induction a generalizing x with
  | nil => intro _ c hc; cases hc
  | cons d r ih =>
    intro h c hc
    cases hc with
    | head => exact h.2.1
    | tail _ hc => exact ih h.2.2 c hc
/-- which cells are marked -/
def y_mk (B : Nat → List (Nat × Int32)) (c : Nat) : Prop := c < 200000 ∧ ¬ z_fn 0 (B 125) c = 0
def y_nx (B : Nat → List (Nat × Int32)) (c : Nat) : Int32 := z_fn 0 (B 101) c
/-- what is marked is closed, but for x -/
def y_Mx (B : Nat → List (Nat × Int32)) (x : Int32) : Prop := ∀ c, y_mk B c → y_nx B c = -1 ∨ y_nx B c = x ∨ ∃ d, d < 200000 ∧ y_nx B c = nI d ∧ y_mk B d
theorem y_Mx.all {B : Nat → List (Nat × Int32)} (h : y_Mx B (-1)) : ∀ {x : Int32} {a : List Nat}, y_lk (y_nx B) x a → (∀ c, c < 200000 → x = nI c → y_mk B c) → ∀ c, c ∈ a → y_mk B c := by
  intro x a
  induction a generalizing x with
  | nil => intro _ _ c hc; cases hc
  | cons d r ih =>
    intro hk hm c hc
    have md := hm d hk.2.1 hk.1
    cases hc with
    | head => exact md
    | tail _ hc =>
      refine ih hk.2.2 (fun c' l e => ?_) c hc
      rcases h d md with q | q | ⟨d', l', q, m'⟩
      · exact absurd (show nI c' < 0 by rw [← e, q]; decide) (nI_pos (by omega))
      · exact absurd (show nI c' < 0 by rw [← e, q]; decide) (nI_pos (by omega))
      · have : c' = d' := (nI_eq (by omega) (by omega)).mp (e.symm.trans q)
        rw [this]
        exact m'
section ZRL
variable {l : Nat} {R : z_RS} {Q : Option Value → z_RS → Prop}
/-- cells are marked from x on -/
theorem r213 {x : Int32} {a : List Nat} (hm : y_Mx R.1 (-1)) (hk : y_lk (y_nx R.1) x a) (k : ∀ L, (∀ c, y_mk R.1 c → y_mk (z_u R.1 125 L) c) → (∀ c, c ∈ a → y_mk (z_u R.1 125 L) c) → (∀ c, y_mk (z_u R.1 125 L) c → y_mk R.1 c ∨ c ∈ a) → y_Mx (z_u R.1 125 L) (-1) → Q none (z_u R.1 125 L, R.2.1, R.2.2)) : z_WR (l + 1) 213 0 [(0, .ref 148), (1, .int x)] [] R Q := by
  obtain ⟨B, M, U⟩ := R
  have loop : ∀ (x1 : Int32) (a : List Nat) (x : Int32) (L : List (Nat × Int32)), y_Mx (z_u B 125 L) x → y_lk (y_nx B) x a → (∀ L', (∀ c, y_mk (z_u B 125 L) c → y_mk (z_u B 125 L') c) → (∀ c, c ∈ a → y_mk (z_u B 125 L') c) → (∀ c, y_mk (z_u B 125 L') c → y_mk (z_u B 125 L) c ∨ c ∈ a) → y_Mx (z_u B 125 L') (-1) → Q none (z_u B 125 L', M, U)) → z_WR (l + 1) 213 2 [(0, .ref 148), (1, .int x1), (2, .int x)] [] (z_u B 125 L, M, U) Q := by
    intro x1 a
    induction a with
    | nil =>
      intro x L hm hk k
      have hk : x = -1 := hk
      subst hk
      refine t213_2 ?_
      unfold p213_2
      rw [if_pos (by decide)]
      exact k L (fun _ q => q) (fun c hc => by cases hc) (fun c q => Or.inl q) hm
    | cons c r ih =>
      intro x L hm hk k
      obtain ⟨rfl, lc, hk'⟩ := hk
      have ci : (nI c).toNatClampNeg = c := nI_clamp (by omega)
      have zi : z_in (nI c) 200000 = true := z_inI lc (by decide)
      refine t213_2 ?_
      unfold p213_2
      rw [if_neg (nI_pos (by omega))]
      unfold p213_6
      rw [ci]
      refine ⟨zi, ?_⟩
      by_cases e0 : z_fn 0 (z_u B 125 L 125) c = 0
      · rw [if_pos e0]
        unfold p213_15
        rw [ci]
        refine ⟨zi, zi, ?_⟩
        have eu : z_u (z_u B 125 L) 125 ((c, z_nar .boolean 1) :: z_u B 125 L 125) = z_u B 125 ((c, 1) :: L) := by
          funext q
          by_cases eq : q = 125
          · subst eq
            rw [z_uk, z_uk, z_uk]
            rfl
          · rw [z_un eq, z_un eq, z_un eq]
        have e101 : z_fn 0 (z_u B 125 L 101) c = y_nx B c := by
          rw [z_un (by decide)]
          rfl
        rw [eu, e101]
        have nx1 : ∀ d, y_nx (z_u B 125 ((c, 1) :: L)) d = y_nx (z_u B 125 L) d := fun d => by
          unfold y_nx
          rw [z_un (by decide), z_un (by decide)]
        have nxB : ∀ d, y_nx (z_u B 125 L) d = y_nx B d := fun d => by
          unfold y_nx
          rw [z_un (by decide)]
        have mc : y_mk (z_u B 125 ((c, 1) :: L)) c := by
          refine ⟨lc, ?_⟩
          rw [z_uk, z_fcs]
          decide
        have mo : ∀ d, d ≠ c → (y_mk (z_u B 125 ((c, 1) :: L)) d ↔ y_mk (z_u B 125 L) d) := fun d hd => by
          unfold y_mk
          rw [z_uk, z_uk, z_fcn hd]
        have mi : ∀ d, y_mk (z_u B 125 L) d → y_mk (z_u B 125 ((c, 1) :: L)) d := fun d q => by
          by_cases hd : d = c
          · rw [hd]; exact mc
          · exact (mo d hd).mpr q
        refine ih (y_nx B c) ((c, 1) :: L) (fun d md => ?_) hk' (fun L' k1 k2 k3 k4 => k L' (fun d q => k1 d (mi d q)) (fun d hd => ?_) (fun d q => ?_) k4)
        · rw [nx1]
          by_cases hd : d = c
          · rw [hd, nxB]
            exact Or.inr (Or.inl rfl)
          · rcases hm d ((mo d hd).mp md) with q | q | ⟨d', l', q, m'⟩
            · exact Or.inl q
            · exact Or.inr (Or.inr ⟨c, lc, q, mc⟩)
            · exact Or.inr (Or.inr ⟨d', l', q, mi d' m'⟩)
        · cases hd with
          | head => exact k1 c mc
          | tail _ hd => exact k2 d hd
        · rcases k3 d q with q | q
          · by_cases hd : d = c
            · rw [hd]; exact Or.inr List.mem_cons_self
            · exact Or.inl ((mo d hd).mp q)
          · exact Or.inr (List.mem_cons_of_mem _ q)
      · rw [if_neg e0]
        have mc : y_mk (z_u B 125 L) c := ⟨lc, e0⟩
        have hm' : y_Mx (z_u B 125 L) (-1) := by
          intro d md
          rcases hm d md with q | q | q
          · exact Or.inl q
          · exact Or.inr (Or.inr ⟨c, lc, q, mc⟩)
          · exact Or.inr (Or.inr q)
        have nxB : y_nx (z_u B 125 L) = y_nx B := by
          funext d
          unfold y_nx
          rw [z_un (by decide)]
        refine k L (fun _ q => q) (hm'.all (x := nI c) (a := c :: r) ⟨rfl, lc, by rw [nxB]; exact hk'⟩ (fun d ld e => ?_)) (fun c q => Or.inl q) hm'
        have : c = d := (nI_eq (by omega) (by omega)).mp e
        rw [← this]
        exact mc
  have eB : z_u B 125 (B 125) = B := by
    funext q
    by_cases eq : q = 125
    · subst eq
      rw [z_uk]
    · rw [z_un eq]
  refine t213_0 ?_
  unfold p213_0
  have r := loop x a x (B 125) (by
    rw [eB]
    intro c mc
    rcases hm c mc with q | q | q
    · exact Or.inl q
    · exact Or.inl q
    · exact Or.inr (Or.inr q)) hk
  rw [eB] at r
  exact r k
/-- the chain from x, with P -/
def y_ch (B : Nat → List (Nat × Int32)) (P : Nat → Prop) (x : Int32) : Prop := ∃ a, y_lk (y_nx B) x a ∧ ∀ c, c ∈ a → P c
theorem y_ch.im {B : Nat → List (Nat × Int32)} {P P' : Nat → Prop} {x : Int32} (h : y_ch B P x) (k : ∀ c, P c → P' c) : y_ch B P' x := by
  obtain ⟨a, h1, h2⟩ := h
  exact ⟨a, h1, fun c hc => k c (h2 c hc)⟩
theorem y_uu {α : Type} {A : Nat → α} {k : Nat} {x y : α} : z_u (z_u A k x) k y = z_u A k y := by
  funext q
  by_cases e : q = k
  · rw [e, z_uk, z_uk]
  · rw [z_un e, z_un e, z_un e]
theorem y_us {α : Type} {A : Nat → α} {k : Nat} : z_u A k (A k) = A := by
  funext q
  by_cases e : q = k
  · rw [e, z_uk]
  · rw [z_un e]
theorem y_uc {α : Type} {A : Nat → α} {k j : Nat} {x y : α} (h : k ≠ j) : z_u (z_u A k x) j y = z_u (z_u A j y) k x := by
  funext q
  by_cases e : q = k
  · rw [e, z_uk, z_un h, z_uk]
  · by_cases e' : q = j
    · rw [e', z_uk, z_un (fun q => h q.symm), z_uk]
    · rw [z_un e', z_un e, z_un e, z_un e']
theorem y_vv {α : Type} {V : Nat → Nat → α} {k j : Nat} {x y : α} : z_v (z_v V k j x) k j y = z_v V k j y := by
  funext a b
  by_cases e : a = k ∧ b = j
  · rw [e.1, e.2, z_vk, z_vk]
  · rw [z_vn e, z_vn e, z_vn e]
theorem y_vs {α : Type} {V : Nat → Nat → α} {k j : Nat} {x : α} (h : V k j = x) : z_v V k j x = V := by
  funext a b
  by_cases e : a = k ∧ b = j
  · rw [e.1, e.2, z_vk, h]
  · rw [z_vn e]
def y_Ml (B : Nat → List (Nat × Int32)) (Lv : Nat → Prop) (L : List (Nat × Int32)) : Prop := y_Mx (z_u B 125 L) (-1) ∧ ∀ c, y_mk (z_u B 125 L) c → Lv c
def y_mo (B : Nat → List (Nat × Int32)) (L L' : List (Nat × Int32)) : Prop := ∀ c, y_mk (z_u B 125 L) c → y_mk (z_u B 125 L') c
theorem y_mo.rf {B : Nat → List (Nat × Int32)} {L : List (Nat × Int32)} : y_mo B L L := fun _ q => q
theorem y_mo.tr {B : Nat → List (Nat × Int32)} {L L' L'' : List (Nat × Int32)} (h : y_mo B L L') (h' : y_mo B L' L'') : y_mo B L L'' := fun c q => h' c (h c q)
theorem r213x {B : Nat → List (Nat × Int32)} {M : Nat → List (Nat × Int64)} {U : Nat → Nat → Int32} {Lv : Nat → Prop} {L : List (Nat × Int32)} {x : Int32} (hm : y_Ml B Lv L) (hk : y_ch B Lv x) (k : ∀ L', y_Ml B Lv L' → y_mo B L L' → y_ch B (y_mk (z_u B 125 L')) x → Q none (z_u B 125 L', M, U)) : z_WR (l + 1) 213 0 [(0, .ref 148), (1, .int x)] [] (z_u B 125 L, M, U) Q := by
  obtain ⟨a, h1, h2⟩ := hk
  have nxB : y_nx (z_u B 125 L) = y_nx B := by
    funext d
    unfold y_nx
    rw [z_un (by decide)]
  refine r213 (a := a) hm.1 (by rw [show (z_u B 125 L, M, U).1 = z_u B 125 L from rfl, nxB]; exact h1) (fun L' k1 k2 k3 k4 => ?_)
  have k1 : ∀ c, y_mk (z_u B 125 L) c → y_mk (z_u (z_u B 125 L) 125 L') c := k1
  have k2 : ∀ c, c ∈ a → y_mk (z_u (z_u B 125 L) 125 L') c := k2
  have k3 : ∀ c, y_mk (z_u (z_u B 125 L) 125 L') c → y_mk (z_u B 125 L) c ∨ c ∈ a := k3
  have k4 : y_Mx (z_u (z_u B 125 L) 125 L') (-1) := k4
  show Q none (z_u (z_u B 125 L) 125 L', M, U)
  rw [y_uu] at k1 k2 k3 k4 ⊢
  exact k L' ⟨k4, fun c q => (k3 c q).elim (hm.2 c) (h2 c)⟩ k1 ⟨a, h1, k2⟩
/-- where chains begin -/
def y_Ro (R : z_RS) (x : Int32) (hi F : Nat) (P : Nat → Prop) : Prop := y_ch R.1 P x ∧ y_ch R.1 P (R.2.2 41 103) ∧ (∀ j, j < hi → y_ch R.1 P (z_fn 0 (R.1 114) j)) ∧ (∀ f, f < F → y_ch R.1 P (z_fn 0 (R.1 120) f)) ∧ ∀ f, f < F → ∃ m, m ≤ 340000 ∧ z_fn 0 (R.1 122) f = nI m ∧ ∀ j, j < m → ∃ q, q < 340000 ∧ z_fn 0 (R.1 121) f + nI j = nI q ∧ y_ch R.1 P (z_fn 0 (R.1 118) q)
theorem r212 {x1 x : Int32} {hi F : Nat} {Lv : Nat → Prop} (h96 : R.2.2 41 96 = nI hi) (hh : hi ≤ 140000) (h114 : R.2.2 41 114 = nI F) (hF : F ≤ 1000) (h122 : R.2.2 41 122 = -1) (hr : y_Ro R x hi F Lv) (hv : ∀ P, y_Ro R x hi F P → ∀ c, Lv c → P c)
    (k : ∀ L L1 fr fl, y_lk (z_fn 0 L1) fr fl → fl.Nodup → (∀ c, c ∈ fl ↔ c < 200000 ∧ ¬ Lv c) → (∀ c, Lv c → z_fn 0 L1 c = z_fn 0 (R.1 101) c) → Q none (z_u (z_u R.1 125 L) 101 L1, R.2.1, z_v R.2.2 41 122 fr)) : z_WR (l + 2) 212 0 [(0, .ref 148), (1, .int x1), (2, .int x)] [] R Q := by
  obtain ⟨B, M, U⟩ := R
  have h96 : U 41 96 = nI hi := h96
  have h114 : U 41 114 = nI F := h114
  have h122 : U 41 122 = -1 := h122
  obtain ⟨c1, c2, c3, c4, c5⟩ := hr
  have c1 : y_ch B Lv x := c1
  have c2 : y_ch B Lv (U 41 103) := c2
  have c3 : ∀ j, j < hi → y_ch B Lv (z_fn 0 (B 114) j) := c3
  have c4 : ∀ f, f < F → y_ch B Lv (z_fn 0 (B 120) f) := c4
  have c5 : ∀ f, f < F → ∃ m, m ≤ 340000 ∧ z_fn 0 (B 122) f = nI m ∧ ∀ j, j < m → ∃ q, q < 340000 ∧ z_fn 0 (B 121) f + nI j = nI q ∧ y_ch B Lv (z_fn 0 (B 118) q) := c5
  have uB : ∀ (L : List (Nat × Int32)) q, q ≠ 125 → z_u B 125 L q = B q := fun L q h => z_un h
  -- the free list is made
  have l4 : ∀ (L : List (Nat × Int32)), (∀ c, y_mk (z_u B 125 L) c ↔ Lv c) → (∀ c, Lv c → c < 200000) → ∀ j, j ≤ 200000 → ∀ L1 fr fl, y_lk (z_fn 0 L1) fr fl → fl.Nodup → (∀ c, c ∈ fl ↔ j ≤ c ∧ c < 200000 ∧ ¬ Lv c) → (∀ c, Lv c ∨ c < j → z_fn 0 L1 c = z_fn 0 (B 101) c) → z_WR (l + 2) 212 128 [(0, .ref 148), (1, .int x1), (2, .int x), (3, .int (z_ko id j))] [] (z_u (z_u B 125 L) 101 L1, M, z_v U 41 122 fr) Q := by
    intro L hL hlt j
    induction j with
    | zero =>
      intro _ L1 fr fl q1 q2 q3 q4
      refine t212_128 ?_
      unfold p212_128
      rw [if_pos (show z_ko id 0 < 0 from (by decide : (-1 : Int32) < 0))]
      exact k L L1 fr fl q1 q2 (fun c => ⟨fun h => ((q3 c).mp h).2, fun h => (q3 c).mpr ⟨Nat.zero_le _, h⟩⟩) (fun c h => q4 c (Or.inl h))
    | succ j ih =>
      intro hj L1 fr fl q1 q2 q3 q4
      have cj : (nI j).toNatClampNeg = j := nI_clamp (by omega)
      have zi : z_in (nI j) 200000 = true := z_inI (by omega) (by decide)
      have ed : nI j + Int32.ofInt (-1) = z_ko id j := by
        cases j with
        | zero => decide
        | succ j => exact z_nIm1
      refine t212_128 ?_
      unfold p212_128
      rw [show z_ko id (j + 1) = nI j from rfl, if_neg (nI_pos (by omega))]
      unfold p212_132
      rw [cj]
      refine ⟨zi, ?_⟩
      rw [z_un (by decide), z_uk]
      by_cases e0 : z_fn 0 L j = 0
      · rw [if_pos e0]
        have nl : ¬ Lv j := fun h => by
          have := ((hL j).mpr h).2
          rw [z_uk] at this
          exact this e0
        unfold p212_144 p212_159
        rw [cj, ed, z_vk, z_uk, y_uu, y_vv]
        refine ⟨zi, ih (by omega) ((j, fr) :: L1) (nI j) (j :: fl) ⟨rfl, by omega, ?_⟩ ?_ (fun c => ?_) (fun c h => ?_)⟩
        · show y_lk (z_fn 0 ((j, fr) :: L1)) (z_fn 0 ((j, fr) :: L1) j) fl
          rw [z_fcs]
          refine q1.e (fun c hc => ?_)
          have := (q3 c).mp hc
          rw [z_fcn (by omega)]
        · refine List.nodup_cons.mpr ⟨fun h => ?_, q2⟩
          have := (q3 j).mp h
          omega
        · rw [List.mem_cons, q3]
          constructor
          · rintro (rfl | h)
            · exact ⟨Nat.le_refl _, by omega, nl⟩
            · exact ⟨by omega, h.2⟩
          · intro h
            by_cases e : c = j
            · exact Or.inl e
            · exact Or.inr ⟨by omega, h.2⟩
        · have hc : c ≠ j := by
            rintro rfl
            rcases h with h | h
            · exact nl h
            · omega
          rw [z_fcn hc]
          exact q4 c (h.imp id (fun h => by omega))
      · rw [if_neg e0]
        have nl : Lv j := (hL j).mp ⟨by omega, by rw [z_uk]; exact e0⟩
        unfold p212_141 p212_159
        rw [ed]
        refine ih (by omega) L1 fr fl q1 q2 (fun c => ?_) (fun c h => q4 c (h.imp id (fun h => by omega)))
        rw [q3]
        constructor
        · intro h
          exact ⟨by omega, h.2⟩
        · intro h
          refine ⟨?_, h.2⟩
          rcases Nat.lt_or_ge j c with h' | h'
          · exact h'
          · exact absurd (show Lv c by rw [show c = j by omega]; exact nl) h.2.2
  have l4' : ∀ (L : List (Nat × Int32)), y_Ml B Lv L → y_Ro (B, M, U) x hi F (y_mk (z_u B 125 L)) → z_WR (l + 2) 212 128 [(0, .ref 148), (1, .int x1), (2, .int x), (3, .int 199999)] [] (z_u B 125 L, M, U) Q := by
    intro L hm ho
    have hL : ∀ c, y_mk (z_u B 125 L) c ↔ Lv c := fun c => ⟨hm.2 c, hv _ ho c⟩
    have r := l4 L hL (fun c h => ((hL c).mpr h).1) 200000 (Nat.le_refl _) (B 101) (-1) [] rfl List.nodup_nil (fun c => ⟨fun h => (by cases h), fun h => (by omega)⟩) (fun _ _ => rfl)
    rw [y_vs h122, show B 101 = z_u B 125 L 101 from (uB L 101 (by decide)).symm, y_us] at r
    exact r
  -- what the functions hold
  have l3 : ∀ d f, f + d = F → ∀ (L : List (Nat × Int32)), y_Ml B Lv L → y_ch B (y_mk (z_u B 125 L)) x → y_ch B (y_mk (z_u B 125 L)) (U 41 103) → (∀ j, j < hi → y_ch B (y_mk (z_u B 125 L)) (z_fn 0 (B 114) j)) → (∀ g, g < f → y_ch B (y_mk (z_u B 125 L)) (z_fn 0 (B 120) g)) → (∀ g, g < f → ∃ m, m ≤ 340000 ∧ z_fn 0 (B 122) g = nI m ∧ ∀ j, j < m → ∃ q, q < 340000 ∧ z_fn 0 (B 121) g + nI j = nI q ∧ y_ch B (y_mk (z_u B 125 L)) (z_fn 0 (B 118) q)) → z_WR (l + 2) 212 62 [(0, .ref 148), (1, .int x1), (2, .int x), (3, .int (nI f))] [] (z_u B 125 L, M, U) Q := by
    intro d
    induction d with
    | zero =>
      intro f hf L hm k1 k2 k3 k4 k5
      have hf : f = F := hf
      subst hf
      refine t212_62 ?_
      unfold p212_62
      rw [h114, if_pos (nI_le (Nat.le_refl _) (by omega))]
      exact l4' L hm ⟨k1, k2, k3, k4, k5⟩
    | succ d ih =>
      intro f hf L hm k1 k2 k3 k4 k5
      have cf : (nI f).toNatClampNeg = f := nI_clamp (by omega)
      have zi : z_in (nI f) 1001 = true := z_inI (by omega) (by decide)
      refine t212_62 ?_
      unfold p212_62
      rw [h114, if_neg (nI_ge (by omega) (by omega))]
      unfold p212_70
      rw [cf, uB L 120 (by decide)]
      refine ⟨zi, r213x hm (c4 f (by omega)) (fun L' m1 m2 m3 => ⟨rfl, ?_⟩)⟩
      show z_WR (l + 2) 212 83 [(0, .ref 148), (1, .int x1), (2, .int x), (3, .int (nI f)), (4, .int (nI 0))] [] (z_u B 125 L', M, U) Q
      obtain ⟨m, hm4, e122, hq⟩ := c5 f (by omega)
      have inner : ∀ d' j, j + d' = m → ∀ (L : List (Nat × Int32)), y_Ml B Lv L → y_mo B L' L → (∀ i, i < j → ∃ q, q < 340000 ∧ z_fn 0 (B 121) f + nI i = nI q ∧ y_ch B (y_mk (z_u B 125 L)) (z_fn 0 (B 118) q)) → z_WR (l + 2) 212 83 [(0, .ref 148), (1, .int x1), (2, .int x), (3, .int (nI f)), (4, .int (nI j))] [] (z_u B 125 L, M, U) Q := by
        intro d'
        induction d' with
        | zero =>
          intro j hj L'' n1 n2 n3
          have hj : j = m := hj
          subst hj
          refine t212_83 ?_
          unfold p212_83
          rw [cf, uB L'' 122 (by decide), e122]
          refine ⟨zi, ?_⟩
          rw [if_pos (nI_le (Nat.le_refl _) (by omega))]
          unfold p212_118
          rw [show nI f + 1 = nI (f + 1) from z_nI2 (i := f) (k := 1)]
          have up := m2.tr n2
          refine ih (f + 1) (by omega) L'' n1 (k1.im up) (k2.im up) (fun j hj => (k3 j hj).im up) (fun g hg => ?_) (fun g hg => ?_)
          · by_cases e : g = f
            · rw [e]
              exact m3.im n2
            · exact (k4 g (by omega)).im up
          · by_cases e : g = f
            · rw [e]
              exact ⟨j, hm4, e122, n3⟩
            · obtain ⟨m', a1, a2, a3⟩ := k5 g (by omega)
              refine ⟨m', a1, a2, fun i hi => ?_⟩
              obtain ⟨q, b1, b2, b3⟩ := a3 i hi
              exact ⟨q, b1, b2, b3.im up⟩
        | succ d' ih' =>
          intro j hj L'' n1 n2 n3
          obtain ⟨q, b1, b2, b3⟩ := hq j (by omega)
          have cq : (nI q).toNatClampNeg = q := nI_clamp (by omega)
          refine t212_83 ?_
          unfold p212_83
          rw [cf, uB L'' 122 (by decide), e122]
          refine ⟨zi, ?_⟩
          rw [if_neg (nI_ge (by omega) (by omega))]
          unfold p212_94
          rw [cf, uB L'' 121 (by decide), uB L'' 118 (by decide), b2, cq]
          refine ⟨zi, z_inI b1 (by decide), r213x n1 b3 (fun L3 o1 o2 o3 => ⟨rfl, ?_⟩)⟩
          show z_WR (l + 2) 212 83 [(0, .ref 148), (1, .int x1), (2, .int x), (3, .int (nI f)), (4, .int (nI j + 1))] [] (z_u B 125 L3, M, U) Q
          rw [show nI j + 1 = nI (j + 1) from z_nI2 (i := j) (k := 1)]
          refine ih' (j + 1) (by omega) L3 o1 (n2.tr o2) (fun i hi => ?_)
          by_cases e : i = j
          · rw [e]
            exact ⟨q, b1, b2, o3⟩
          · obtain ⟨q', e1, e2, e3⟩ := n3 i (by omega)
            exact ⟨q', e1, e2, e3.im o2⟩
      exact inner m 0 (Nat.zero_add m) L' m1 y_mo.rf (fun i hi => absurd hi (Nat.not_lt_zero _))
  -- what waits
  have l2 : ∀ d j, j + d = hi → ∀ (L : List (Nat × Int32)), y_Ml B Lv L → y_ch B (y_mk (z_u B 125 L)) x → y_ch B (y_mk (z_u B 125 L)) (U 41 103) → (∀ i, i < j → y_ch B (y_mk (z_u B 125 L)) (z_fn 0 (B 114) i)) → z_WR (l + 2) 212 36 [(0, .ref 148), (1, .int x1), (2, .int x), (3, .int (nI j))] [] (z_u B 125 L, M, U) Q := by
    intro d
    induction d with
    | zero =>
      intro j hj L hm k1 k2 k3
      have hj : j = hi := hj
      subst hj
      refine t212_36 ?_
      unfold p212_36
      rw [h96, if_pos (nI_le (Nat.le_refl _) (by omega))]
      exact l3 F 0 (Nat.zero_add F) L hm k1 k2 k3 (fun g hg => absurd hg (Nat.not_lt_zero _)) (fun g hg => absurd hg (Nat.not_lt_zero _))
    | succ d ih =>
      intro j hj L hm k1 k2 k3
      have cj : (nI j).toNatClampNeg = j := nI_clamp (by omega)
      refine t212_36 ?_
      unfold p212_36
      rw [h96, if_neg (nI_ge (by omega) (by omega))]
      unfold p212_44
      rw [cj, uB L 114 (by decide)]
      refine ⟨z_inI (by omega) (by decide), r213x hm (c3 j (by omega)) (fun L' m1 m2 m3 => ⟨rfl, ?_⟩)⟩
      show z_WR (l + 2) 212 36 [(0, .ref 148), (1, .int x1), (2, .int x), (3, .int (nI j + 1))] [] (z_u B 125 L', M, U) Q
      rw [show nI j + 1 = nI (j + 1) from z_nI2 (i := j) (k := 1)]
      refine ih (j + 1) (by omega) L' m1 (k1.im m2) (k2.im m2) (fun i hi => ?_)
      by_cases e : i = j
      · rw [e]
        exact m3
      · exact (k3 i (by omega)).im m2
  -- no mark
  have l1 : ∀ d j, j + d = 200000 → ∀ (L : List (Nat × Int32)), (∀ c, c < j → z_fn 0 L c = 0) → z_WR (l + 2) 212 2 [(0, .ref 148), (1, .int x1), (2, .int x), (3, .int (nI j))] [] (z_u B 125 L, M, U) Q := by
    intro d
    induction d with
    | zero =>
      intro j hj L hc
      have hj : j = 200000 := hj
      subst hj
      have nm : ∀ c, ¬ y_mk (z_u B 125 L) c := fun c h => by
        have := h.2
        rw [z_uk] at this
        exact this (hc c h.1)
      have m0 : y_Ml B Lv L := ⟨fun c h => absurd h (nm c), fun c h => absurd h (nm c)⟩
      refine t212_2 ?_
      unfold p212_2
      rw [if_pos (show (200000 : Int32) ≤ nI 200000 by decide)]
      unfold p212_21
      refine r213x m0 c1 (fun L1 m1 m2 m3 => ⟨rfl, ?_⟩)
      show p212_26 (l + 1) (z_u B 125 L1) M U x1 x _ Q
      unfold p212_26
      refine r213x m1 c2 (fun L2 n1 n2 n3 => ⟨rfl, ?_⟩)
      exact l2 hi 0 (Nat.zero_add hi) L2 n1 (m3.im n2) n3 (fun i hi => absurd hi (Nat.not_lt_zero _))
    | succ d ih =>
      intro j hj L hc
      have cj : (nI j).toNatClampNeg = j := nI_clamp (by omega)
      refine t212_2 ?_
      unfold p212_2
      rw [if_neg (show ¬ (200000 : Int32) ≤ nI j from nI_ge (b := 200000) (by omega) (by decide))]
      unfold p212_8
      rw [cj, z_uk, y_uu, show nI j + 1 = nI (j + 1) from z_nI2 (i := j) (k := 1)]
      refine ⟨z_inI (by omega) (by decide), ih (j + 1) (by omega) ((j, z_nar .boolean 0) :: L) (fun c h => ?_)⟩
      by_cases e : c = j
      · rw [e, z_fcs]
        rfl
      · rw [z_fcn e]
        exact hc c (by omega)
  refine t212_0 ?_
  unfold p212_0
  have r := l1 200000 0 (Nat.zero_add _) (B 125) (fun c h => absurd h (Nat.not_lt_zero _))
  rw [y_us] at r
  exact r
end ZRL
/-- the cells in use: below cc, not free -/
def y_Fi (R : z_RS) (cc : Nat) (fl : List Nat) : Prop := R.2.2 41 77 = nI cc ∧ cc ≤ 200000 ∧ y_lk (y_nx R.1) (R.2.2 41 122) fl ∧ fl.Nodup ∧ ∀ c, c ∈ fl → c < cc
/-- a name bound: in cell j -/
def y_Nd (x1 x2 x3 x4 : Int32) (Lv : Nat → Prop) (R R' : z_RS) (j : Nat) : Prop := j < 200000 ∧ (z_fn 0 (R'.1 98) j = x1 ∧ z_fn 0 (R'.1 99) j = x2 ∧ z_fn 0 (R'.1 100) j = x3 ∧ z_fn 0 (R'.1 101) j = x4) ∧ (∀ q, q < 98 ∨ (101 < q ∧ q ≠ 125) → R'.1 q = R.1 q) ∧ R'.2.1 = R.2.1 ∧ (∀ a b, ¬ (a = 41 ∧ (b = 77 ∨ b = 122)) → R'.2.2 a b = R.2.2 a b) ∧ (∀ c, Lv c → c ≠ j ∧ ∀ q, 98 ≤ q → q ≤ 101 → z_fn 0 (R'.1 q) c = z_fn 0 (R.1 q) c) ∧ ∃ cc fl, y_Fi R' cc fl ∧ ∀ c, Lv c ∨ c = j → c < cc ∧ ¬ c ∈ fl
theorem y_pig {L : List Nat} {n : Nat} (h : ∀ c, c < n → c ∈ L) : n ≤ L.length := by
  have ex : ∀ c : Nat, ∃ i : Nat, c < n → L[i]? = some c := by
    intro c
    by_cases hc : c < n
    · obtain ⟨i, hi⟩ := List.getElem?_of_mem (h c hc)
      exact ⟨i, fun _ => hi⟩
    · exact ⟨0, fun q => absurd q hc⟩
  refine z_pig L.length n (fun c => Classical.choose (ex c)) (fun c hc => ?_) (fun i j hi hj e => ?_)
  · exact (List.getElem?_eq_some_iff.mp (Classical.choose_spec (ex c) hc)).1
  · have a := Classical.choose_spec (ex i) hi
    have b := Classical.choose_spec (ex j) hj
    have e : Classical.choose (ex i) = Classical.choose (ex j) := e
    rw [e] at a
    exact Option.some.inj (a.symm.trans b)
section ZRN
variable {l : Nat} {R : z_RS} {Q : Option Value → z_RS → Prop}
theorem r211a {x1 x2 x3 x4 : Int32} {Lv : Nat → Prop} {R1 : z_RS} {cc c : Nat} {fl : List Nat} (h1 : ∀ q, q < 101 ∨ (101 < q ∧ q ≠ 125) → R1.1 q = R.1 q) (h2 : R1.2.1 = R.2.1) (h3 : ∀ a b, ¬ (a = 41 ∧ (b = 77 ∨ b = 122)) → R1.2.2 a b = R.2.2 a b) (h4 : ∀ d, Lv d → z_fn 0 (R1.1 101) d = z_fn 0 (R.1 101) d) (hf : y_Fi R1 cc (c :: fl)) (ha : ∀ d, Lv d → d < cc ∧ ¬ d ∈ c :: fl) (k : ∀ R' j, y_Nd x1 x2 x3 x4 Lv R R' j → Q (some (.int (nI j))) R') : p211_23 l R1.1 R1.2.1 R1.2.2 x1 x2 x3 x4 Q := by
  obtain ⟨B, M, U⟩ := R1
  obtain ⟨f1, f2, ⟨f3, f4, f5⟩, f6, f7⟩ := hf
  have f3 : U 41 122 = nI c := f3
  have cj : (nI c).toNatClampNeg = c := nI_clamp (by omega)
  have zi : z_in (nI c) 200000 = true := z_inI f4 (by decide)
  obtain ⟨g1, g2⟩ := List.nodup_cons.mp f6
  show p211_23 l B M U x1 x2 x3 x4 Q
  unfold p211_23
  rw [f3, if_pos (nI_pos' (by omega))]
  unfold p211_44
  rw [cj]
  have eL : ∀ d q, d ≠ c → z_fn 0 (z_u (z_u (z_u (z_u B 98 ((c, x1) :: B 98)) 99 ((c, x2) :: B 99)) 100 ((c, x3) :: B 100)) 101 ((c, x4) :: B 101) q) d = z_fn 0 (B q) d := by
    intro d q hd
    by_cases e : q = 101
    · rw [e, z_uk, z_fcn hd]
    · rw [z_un e]
      by_cases e : q = 100
      · rw [e, z_uk, z_fcn hd]
      · rw [z_un e]
        by_cases e : q = 99
        · rw [e, z_uk, z_fcn hd]
        · rw [z_un e]
          by_cases e : q = 98
          · rw [e, z_uk, z_fcn hd]
          · rw [z_un e]
  have eO : ∀ q, q < 98 ∨ 101 < q → z_u (z_u (z_u (z_u B 98 ((c, x1) :: B 98)) 99 ((c, x2) :: B 99)) 100 ((c, x3) :: B 100)) 101 ((c, x4) :: B 101) q = B q := by
    intro q hq
    rw [z_un (by omega), z_un (by omega), z_un (by omega), z_un (by omega)]
  have e98 : z_fn 0 (z_u (z_u (z_u (z_u B 98 ((c, x1) :: B 98)) 99 ((c, x2) :: B 99)) 100 ((c, x3) :: B 100)) 101 ((c, x4) :: B 101) 98) c = x1 := by
    rw [z_un (by decide), z_un (by decide), z_un (by decide), z_uk, z_fcs]
  have e99 : z_fn 0 (z_u (z_u (z_u (z_u B 98 ((c, x1) :: B 98)) 99 ((c, x2) :: B 99)) 100 ((c, x3) :: B 100)) 101 ((c, x4) :: B 101) 99) c = x2 := by
    rw [z_un (by decide), z_un (by decide), z_uk, z_fcs]
  have e100 : z_fn 0 (z_u (z_u (z_u (z_u B 98 ((c, x1) :: B 98)) 99 ((c, x2) :: B 99)) 100 ((c, x3) :: B 100)) 101 ((c, x4) :: B 101) 100) c = x3 := by
    rw [z_un (by decide), z_uk, z_fcs]
  have e101 : z_fn 0 (z_u (z_u (z_u (z_u B 98 ((c, x1) :: B 98)) 99 ((c, x2) :: B 99)) 100 ((c, x3) :: B 100)) 101 ((c, x4) :: B 101) 101) c = x4 := by
    rw [z_uk, z_fcs]
  obtain ⟨B', hB'⟩ : ∃ X, X = z_u (z_u (z_u (z_u B 98 ((c, x1) :: B 98)) 99 ((c, x2) :: B 99)) 100 ((c, x3) :: B 100)) 101 ((c, x4) :: B 101) := ⟨_, rfl⟩
  rw [← hB'] at eL eO e98 e99 e100 e101 ⊢
  refine ⟨zi, zi, zi, zi, zi, k _ c ⟨f4, ⟨e98, e99, e100, e101⟩, fun q hq => ?_, h2, fun a b hab => ?_, fun d hd => ?_, cc, fl, ⟨?_, f2, ?_, g2, fun d hd => f7 d (List.mem_cons_of_mem _ hd)⟩, fun d hd => ?_⟩⟩
  · exact (eO q (by omega)).trans (h1 q (by omega))
  · show z_v U 41 122 _ a b = _
    rw [z_vn (fun q => hab ⟨q.1, Or.inr q.2⟩)]
    exact h3 a b hab
  · have dn : d ≠ c := fun e => (ha d hd).2 (by rw [e]; exact List.mem_cons_self)
    refine ⟨dn, fun q a b => (eL d q dn).trans ?_⟩
    by_cases e : q = 101
    · rw [e]
      exact h4 d hd
    · exact congrArg (fun L => z_fn 0 L d) (h1 q (by omega))
  · show z_v U 41 122 (z_fn 0 (B 101) c) 41 77 = nI cc
    rw [z_vn (by decide)]
    exact f1
  · show y_lk (y_nx B') (z_v U 41 122 (z_fn 0 (B 101) c) 41 122) fl
    rw [z_vk]
    exact f5.e (fun d hd => eL d 101 (fun e => g1 (by rw [← e]; exact hd)))
  · rcases hd with hd | rfl
    · exact ⟨(ha d hd).1, fun q => (ha d hd).2 (List.mem_cons_of_mem _ q)⟩
    · exact ⟨f7 d List.mem_cons_self, g1⟩
/-- a name is bound, and there is always a cell for it -/
theorem r211 {x1 x2 x3 x4 : Int32} {hi F cc : Nat} {fl : List Nat} {Lv : Nat → Prop} (h96 : R.2.2 41 96 = nI hi) (hh : hi ≤ 140000) (h114 : R.2.2 41 114 = nI F) (hF : F ≤ 1000) (hr : y_Ro R x4 hi F Lv) (hv : ∀ P, y_Ro R x4 hi F P → ∀ c, Lv c → P c) (hf : y_Fi R cc fl) (ha : ∀ c, Lv c → c < cc ∧ ¬ c ∈ fl) (hs : ∃ L : List Nat, L.length < 200000 ∧ ∀ c, Lv c → c ∈ L) (k : ∀ R' j, y_Nd x1 x2 x3 x4 Lv R R' j → Q (some (.int (nI j))) R') : z_WR (l + 3) 211 0 [(0, .ref 148), (1, .int x1), (2, .int x2), (3, .int x3), (4, .int x4)] [] R Q := by
  obtain ⟨B, M, U⟩ := R
  cases fl with
  | cons c fl =>
    refine t211_0 ?_
    unfold p211_0
    have f3 : U 41 122 = nI c := hf.2.2.1.1
    have l3 := hf.2.2.1.2.1
    rw [if_pos (show (0 : Int32) ≤ U 41 122 by rw [f3]; exact nI_pos' (by omega))]
    exact r211a (R := (B, M, U)) (R1 := (B, M, U)) (fun _ _ => rfl) rfl (fun _ _ _ => rfl) (fun _ _ => rfl) hf ha k
  | nil =>
    have f1 : U 41 77 = nI cc := hf.1
    have f2 := hf.2.1
    have f3 : U 41 122 = -1 := hf.2.2.1
    refine t211_0 ?_
    unfold p211_0
    rw [if_neg (show ¬ (0 : Int32) ≤ U 41 122 by rw [f3]; decide)]
    unfold p211_7
    by_cases e : cc = 200000
    · rw [if_pos (show U 41 77 = 200000 by rw [f1, e]; rfl)]
      unfold p211_16
      refine r212 (x1 := x3) h96 hh h114 hF f3 hr hv (fun L L1 fr fl q1 q2 q3 q4 => ⟨rfl, ?_⟩)
      cases fl with
      | nil =>
        obtain ⟨L, hl, hL⟩ := hs
        have := y_pig (L := L) (n := 200000) (fun c hc => hL c (Classical.byContradiction (fun q => by
          have := (q3 c).mpr ⟨hc, q⟩
          cases this)))
        omega
      | cons c fl =>
        refine r211a (R := (B, M, U)) (cc := cc) (c := c) (fl := fl) (fun q hq => ?_) rfl (fun a b hab => ?_) (fun d hd => ?_) ⟨?_, f2, ?_, q2, fun d hd => by rw [e]; exact ((q3 d).mp hd).1⟩ (fun d hd => ⟨(ha d hd).1, fun q => ((q3 d).mp q).2 hd⟩) k
        · show z_u (z_u B 125 L) 101 L1 q = B q
          rw [z_un (by omega), z_un (by omega)]
        · show z_v U 41 122 fr a b = U a b
          rw [z_vn (fun q => hab ⟨q.1, Or.inr q.2⟩)]
        · show z_fn 0 (z_u (z_u B 125 L) 101 L1 101) d = _
          rw [z_uk]
          exact q4 d hd
        · show z_v U 41 122 fr 41 77 = _
          rw [z_vn (by decide)]
          exact f1
        · show y_lk (y_nx (z_u (z_u B 125 L) 101 L1)) (z_v U 41 122 fr 41 122) (c :: fl)
          rw [z_vk, show y_nx (z_u (z_u B 125 L) 101 L1) = z_fn 0 L1 by funext d; unfold y_nx; rw [z_uk]]
          exact q1
    · have cl : cc < 200000 := by omega
      have cj : (nI cc).toNatClampNeg = cc := nI_clamp (by omega)
      have zi : z_in (nI cc) 200000 = true := z_inI cl (by decide)
      rw [if_neg (show ¬ U 41 77 = 200000 by rw [f1]; exact fun q => e ((nI_eq (a := cc) (b := 200000) (by omega) (by decide)).mp q))]
      unfold p211_23
      rw [if_neg (show ¬ (0 : Int32) ≤ U 41 122 by rw [f3]; decide)]
      unfold p211_34
      refine t186_0 ?_
      unfold p186_0
      rw [f1, cj, show nI cc + 1 = nI (cc + 1) from z_nI2 (i := cc) (k := 1)]
      refine ⟨zi, zi, zi, zi, nI cc, rfl, ?_⟩
      unfold p211_43
      have eL : ∀ d q, d ≠ cc → z_fn 0 (z_u (z_u (z_u (z_u B 98 ((cc, x1) :: B 98)) 99 ((cc, x2) :: B 99)) 100 ((cc, x3) :: B 100)) 101 ((cc, x4) :: B 101) q) d = z_fn 0 (B q) d := by
        intro d q hd
        by_cases e : q = 101
        · rw [e, z_uk, z_fcn hd]
        · rw [z_un e]
          by_cases e : q = 100
          · rw [e, z_uk, z_fcn hd]
          · rw [z_un e]
            by_cases e : q = 99
            · rw [e, z_uk, z_fcn hd]
            · rw [z_un e]
              by_cases e : q = 98
              · rw [e, z_uk, z_fcn hd]
              · rw [z_un e]
      refine k _ cc ⟨cl, ⟨?_, ?_, ?_, ?_⟩, fun q hq => ?_, rfl, fun a b hab => ?_, fun d hd => ?_, cc + 1, [], ⟨?_, cl, ?_, List.nodup_nil, fun d hd => by cases hd⟩, fun d hd => ⟨?_, fun q => by cases q⟩⟩
      · show z_fn 0 (z_u (z_u (z_u (z_u B 98 ((cc, x1) :: B 98)) 99 ((cc, x2) :: B 99)) 100 ((cc, x3) :: B 100)) 101 ((cc, x4) :: B 101) 98) cc = x1
        rw [z_un (by decide), z_un (by decide), z_un (by decide), z_uk, z_fcs]
      · show z_fn 0 (z_u (z_u (z_u (z_u B 98 ((cc, x1) :: B 98)) 99 ((cc, x2) :: B 99)) 100 ((cc, x3) :: B 100)) 101 ((cc, x4) :: B 101) 99) cc = x2
        rw [z_un (by decide), z_un (by decide), z_uk, z_fcs]
      · show z_fn 0 (z_u (z_u (z_u (z_u B 98 ((cc, x1) :: B 98)) 99 ((cc, x2) :: B 99)) 100 ((cc, x3) :: B 100)) 101 ((cc, x4) :: B 101) 100) cc = x3
        rw [z_un (by decide), z_uk, z_fcs]
      · show z_fn 0 (z_u (z_u (z_u (z_u B 98 ((cc, x1) :: B 98)) 99 ((cc, x2) :: B 99)) 100 ((cc, x3) :: B 100)) 101 ((cc, x4) :: B 101) 101) cc = x4
        rw [z_uk, z_fcs]
      · show z_u (z_u (z_u (z_u B 98 ((cc, x1) :: B 98)) 99 ((cc, x2) :: B 99)) 100 ((cc, x3) :: B 100)) 101 ((cc, x4) :: B 101) q = B q
        rw [z_un (by omega), z_un (by omega), z_un (by omega), z_un (by omega)]
      · show z_v U 41 77 (nI (cc + 1)) a b = U a b
        rw [z_vn (fun q => hab ⟨q.1, Or.inl q.2⟩)]
      · have dn : d ≠ cc := by
          have := (ha d hd).1
          omega
        exact ⟨dn, fun q _ _ => eL d q dn⟩
      · show z_v U 41 77 (nI (cc + 1)) 41 77 = nI (cc + 1)
        rw [z_vk]
      · show z_v U 41 77 (nI (cc + 1)) 41 122 = -1
        rw [z_vn (by decide)]
        exact f3
      · rcases hd with hd | rfl
        · have := (ha d hd).1
          omega
        · exact Nat.lt_succ_self _
end ZRN
