/-! Checking: what both hold while they check, and what stays. -/
/-- names in scope (the last first) and floors (the innermost first), behind an instruction -/
def z_cs (o a d : Int32) (x : List Int32 × List Nat) : List Int32 × List Nat :=
  if o = 4 then (a :: x.1, x.2) else if o = 5 then (x.1.tail, x.2) else if o = 17 then (a :: x.1, x.1.length :: x.2) else if o = 18 then (x.1.tail, x.2.tail) else if o = 19 then (d :: a :: x.1, x.1.length :: x.2) else if o = 20 then (x.1.tail.tail, x.2.tail) else if o = 21 then (x.1, x.1.length :: x.2) else if o = 22 then (a :: x.1, x.2) else if o = 23 then (x.1.tail, x.2) else if o = 24 then (d :: a :: x.1, x.2) else if o = 25 then (x.1.tail.tail, x.2) else if o = 26 then (x.1, x.2.tail) else x
/-- names and floors ahead of instruction i -/
def z_ctx (A : Nat → List (Nat × Int32)) : Nat → List Int32 × List Nat
  | 0 => ([], [0])
  | i + 1 => z_cs (z_fn 0 (A 14) i) (z_fn 0 (A 15) i) (z_fn 0 (A 18) i) (z_ctx A i)
theorem z_ctx_s {A : Nat → List (Nat × Int32)} {i : Nat} {o : Int32} (h : z_fn 0 (A 14) i = o) : z_ctx A (i + 1) = z_cs o (z_fn 0 (A 15) i) (z_fn 0 (A 18) i) (z_ctx A i) := by
  rw [← h]
  rfl
/-- a row holds the names; the floors -/
def z_Na (a : List (Nat × Int32)) : List Int32 → Prop
  | [] => True
  | v :: r => z_fn 0 a r.length = v ∧ z_Na a r
def z_Nf (a : List (Nat × Int32)) : List Nat → Prop
  | [] => True
  | x :: r => z_fn 0 a r.length = nI x ∧ z_Nf a r
/-- which name is v, the last such -/
def z_wl (v : Int32) : List Int32 → Option Nat
  | [] => none
  | x :: r => if x = v then some r.length else z_wl v r
theorem z_Na.wh {a : List (Nat × Int32)} {v : Int32} : ∀ r, z_Na a r → z_wh a v r.length = z_wl v r := by
  intro r
  induction r with
  | nil => intro _; rfl
  | cons x r ih =>
    intro h
    have e : z_wl v (x :: r) = if x = v then some r.length else z_wl v r := rfl
    rw [e, List.length_cons, z_wh_s, h.1, ih h.2]
theorem z_Na.e {a a' : List (Nat × Int32)} : ∀ r, (∀ j, j < r.length → z_fn 0 a' j = z_fn 0 a j) → z_Na a r → z_Na a' r := by
  intro r
  induction r with
  | nil => intro _ _; trivial
  | cons x r ih =>
    intro h q
    exact ⟨(h r.length (Nat.lt_succ_self _)).trans q.1, ih (fun j hj => h j (Nat.lt_succ_of_lt hj)) q.2⟩
theorem z_Nf.e {a a' : List (Nat × Int32)} : ∀ r, (∀ j, j < r.length → z_fn 0 a' j = z_fn 0 a j) → z_Nf a r → z_Nf a' r := by
  intro r
  induction r with
  | nil => intro _ _; trivial
  | cons x r ih =>
    intro h q
    exact ⟨(h r.length (Nat.lt_succ_self _)).trans q.1, ih (fun j hj => h j (Nat.lt_succ_of_lt hj)) q.2⟩
/-- what checking may write, of the class -/
def z_XK (S S' : z_CS) : Prop := (∀ k, ¬ (9 ≤ k ∧ k ≤ 12) → ¬ (k = 14 ∨ k = 15 ∨ k = 18) → ¬ (28 ≤ k ∧ k ≤ 37) → S'.1 k = S.1 k) ∧ S'.2.1 = S.2.1 ∧ (∀ k, ¬ (9 ≤ k ∧ k ≤ 12) → S'.2.2.1 k = S.2.2.1 k) ∧ (∀ k j, ¬ (k = 8 ∧ j = 4) → ¬ k = 27 → S'.2.2.2.1 k j = S.2.2.2.1 k j) ∧ S'.2.2.2.2.1 = S.2.2.2.2.1 ∧ z_Gw S.2.2.1 S'.2.2.1 S.2.2.2.2.2 S'.2.2.2.2.2
theorem z_XK.rf {S : z_CS} : z_XK S S := ⟨fun _ _ _ _ => rfl, rfl, fun _ _ => rfl, fun _ _ _ _ => rfl, rfl, z_Gw.rf⟩
theorem z_XK.tr {S S' S'' : z_CS} (h : z_XK S S') (h' : z_XK S' S'') : z_XK S S'' := ⟨fun k a b c => (h'.1 k a b c).trans (h.1 k a b c), h'.2.1.trans h.2.1, fun k a => (h'.2.2.1 k a).trans (h.2.2.1 k a), fun k j a b => (h'.2.2.2.1 k j a b).trans (h.2.2.2.1 k j a b), h'.2.2.2.2.1.trans h.2.2.2.2.1, h.2.2.2.2.2.tr h'.2.2.2.2.2⟩
/-- the class has refused while it checked -/
def z_Yd (x y : Int32) (S S' : z_CS) : Prop := ∃ S1, z_XK S S1 ∧ z_Rk S1.2.2.1 S1.2.2.2.2.2 ∧ S'.1 = S1.1 ∧ S'.2.1 = S1.2.1 ∧ S'.2.2.1 = S1.2.2.1 ∧ S'.2.2.2.1 = z_Vf S1.2.2.2.1 x y ∧ S'.2.2.2.2.2 = (S1.2.2.2.2.2.1 + 1, S1.2.2.2.2.2.2 + 6) ∧ S'.2.2.2.2.1 = S1.2.2.2.2.1
theorem z_Yd.of {x y : Int32} {S0 S S' : z_CS} (h : z_XK S0 S) (h' : z_Yd x y S S') : z_Yd x y S0 S' := by
  obtain ⟨S1, h1, h2⟩ := h'
  exact ⟨S1, h.tr h1, h2⟩
theorem k50 {l : Nat} {S : z_CS} {k p : Int32} (hr : z_Rk S.2.2.1 S.2.2.2.2.2) : ∃ S', z_Cr l 50 0 [(0, .ref 109), (1, .int k), (2, .int p)] [] S (.inr 10) S' ∧ z_Yd k p S S' := by
  obtain ⟨A, E, N, V, W, c⟩ := S
  obtain ⟨rm, r1, r2⟩ := hr.rm
  exact ⟨(A, E, N, z_Vf V k p, W, (c.1 + 1, c.2 + 6)), fun L xs fv f w g hg hl => b50_0 (by have := hl.1; omega) (by have := hl.2; omega) r1 r2, (A, E, N, V, W, c), z_XK.rf, hr, rfl, rfl, rfl, rfl, rfl, rfl⟩
/-- what checking may write, of the reference -/
def z_XU (R R' : z_RS) : Prop := (∀ k, ¬ (46 ≤ k ∧ k ≤ 49) → ¬ (98 ≤ k ∧ k ≤ 109) → R'.1 k = R.1 k) ∧ (∀ k, k ≠ 50 → R'.2.1 k = R.2.1 k) ∧ ∀ k j, ¬ (k = 41 ∧ (j = 11 ∨ j = 12 ∨ j = 13 ∨ j = 77 ∨ j = 82)) → R'.2.2 k j = R.2.2 k j
theorem z_XU.rf {R : z_RS} : z_XU R R := ⟨fun _ _ _ => rfl, fun _ _ => rfl, fun _ _ _ => rfl⟩
theorem z_XU.tr {R R' R'' : z_RS} (h : z_XU R R') (h' : z_XU R' R'') : z_XU R R'' := ⟨fun k a b => (h'.1 k a b).trans (h.1 k a b), fun k a => (h'.2.1 k a).trans (h.2.1 k a), fun k j a => (h'.2.2 k j a).trans (h.2.2 k j a)⟩
/-- the class ahead of instruction i, with names and floors x: H held, region ρ, mo names at most in it -/
def z_KCx (S0 : z_CS) (i : Nat) (x : List Int32 × List Nat) (T : Nat → Nat × Nat × Int32) (mT H ρ mo : Nat) (S : z_CS) : Prop :=
  z_TyC S.1 S.2.2.1 S.2.2.2.1 T mT ∧ z_Rk S.2.2.1 S.2.2.2.2.2 ∧ z_XK S0 S ∧
  (∀ k, k = 14 ∨ k = 15 ∨ k = 18 → ∀ j, i ≤ j → z_fn 0 (S.1 k) j = z_fn 0 (S0.1 k) j) ∧
  (S.2.2.2.1 27 7 = nI H ∧ S.2.2.2.1 27 10 = nI x.1.length ∧ S.2.2.2.1 27 16 = nI ρ) ∧
  z_Na (S.1 31) x.1 ∧ (x.2.length = ρ + 1 ∧ z_Nf (S.1 34) x.2 ∧ ∀ y, y ∈ x.2 → y ≤ x.1.length) ∧
  (z_fn 0 (S.1 35) ρ = nI mo ∧ x.1.length ≤ mo ∧ mo ≤ 128)
def z_KC (S0 : z_CS) (i : Nat) (T : Nat → Nat × Nat × Int32) (mT H ρ mo : Nat) (S : z_CS) : Prop := z_KCx S0 i (z_ctx S0.1 i) T mT H ρ mo S
/-- the reference: cc cells, P piled -/
def z_KR (R0 : z_RS) (T : Nat → Nat × Nat × Int32) (mT cc P : Nat) (R : z_RS) : Prop := z_TyR R.1 R.2.2 T mT ∧ z_XU R0 R ∧ R.2.2 41 77 = nI cc ∧ R.2.2 41 82 = nI P ∧ (R.2.2 41 11 = 0 ∧ R.2.2 41 12 = R0.2.2 41 12)
/-- of the class: what instructions s to e leave as it was -/
def z_Fk (s e H ρ N : Nat) (S S' : z_CS) : Prop :=
  (∀ k, 28 ≤ k → k ≤ 30 → ∀ j, j < H → z_fn 0 (S'.1 k) j = z_fn 0 (S.1 k) j) ∧ (∀ k, 31 ≤ k → k ≤ 32 → ∀ j, j < N → z_fn 0 (S'.1 k) j = z_fn 0 (S.1 k) j) ∧
  (∀ k, k = 33 ∨ k = 34 ∨ k = 36 ∨ k = 37 → ∀ j, j ≤ ρ → z_fn 0 (S'.1 k) j = z_fn 0 (S.1 k) j) ∧ (∀ j, j < ρ → z_fn 0 (S'.1 35) j = z_fn 0 (S.1 35) j) ∧
  ∀ k, k = 14 ∨ k = 15 ∨ k = 18 → ∀ j, ¬ (s ≤ j ∧ j < e) → z_fn 0 (S'.1 k) j = z_fn 0 (S.1 k) j
/-- of the reference: what checking nodes of u leaves as it was -/
def z_Fl (u : z_Bd) (cc P : Nat) (R R' : z_RS) : Prop :=
  (∀ k, 98 ≤ k → k ≤ 101 → ∀ j, j < cc → z_fn 0 (R'.1 k) j = z_fn 0 (R.1 k) j) ∧ (∀ k, 102 ≤ k → k ≤ 105 → ∀ j, j < P → z_fn 0 (R'.1 k) j = z_fn 0 (R.1 k) j) ∧
  ∀ k, 106 ≤ k → k ≤ 109 → ∀ j, ¬ (u.1.1 ≤ j ∧ j < u.1.2) → z_fn 0 (R'.1 k) j = z_fn 0 (R.1 k) j
section ZFK
variable {s e s' e' H ρ N H' ρ' N' : Nat} {S S' S'' : z_CS} {u u' : z_Bd} {cc P cc' P' : Nat} {R R' R'' : z_RS}
theorem z_Fk.rf : z_Fk s e H ρ N S S := ⟨fun _ _ _ _ _ => rfl, fun _ _ _ _ _ => rfl, fun _ _ _ _ => rfl, fun _ _ => rfl, fun _ _ _ _ => rfl⟩
theorem z_Fk.wk (h : z_Fk s' e' H' ρ' N' S S') (h1 : H ≤ H') (h2 : ρ ≤ ρ') (h3 : N ≤ N') (h4 : s ≤ s') (h5 : e' ≤ e) : z_Fk s e H ρ N S S' := ⟨fun k a b j c => h.1 k a b j (by omega), fun k a b j c => h.2.1 k a b j (by omega), fun k a j c => h.2.2.1 k a j (by omega), fun j c => h.2.2.2.1 j (by omega), fun k a j c => h.2.2.2.2 k a j (by omega)⟩
theorem z_Fk.tr (h : z_Fk s e H ρ N S S') (h' : z_Fk s e H ρ N S' S'') : z_Fk s e H ρ N S S'' := ⟨fun k a b j c => (h'.1 k a b j c).trans (h.1 k a b j c), fun k a b j c => (h'.2.1 k a b j c).trans (h.2.1 k a b j c), fun k a j c => (h'.2.2.1 k a j c).trans (h.2.2.1 k a j c), fun j c => (h'.2.2.2.1 j c).trans (h.2.2.2.1 j c), fun k a j c => (h'.2.2.2.2 k a j c).trans (h.2.2.2.2 k a j c)⟩
theorem z_Fl.rf : z_Fl u cc P R R := ⟨fun _ _ _ _ _ => rfl, fun _ _ _ _ _ => rfl, fun _ _ _ _ _ => rfl⟩
theorem z_Fl.wk (h : z_Fl u' cc' P' R R') (h1 : cc ≤ cc') (h2 : P ≤ P') (h3 : u.1.1 ≤ u'.1.1 ∧ u'.1.2 ≤ u.1.2) : z_Fl u cc P R R' := ⟨fun k a b j c => h.1 k a b j (by omega), fun k a b j c => h.2.1 k a b j (by omega), fun k a b j c => h.2.2 k a b j (by omega)⟩
theorem z_Fl.tr (h : z_Fl u cc P R R') (h' : z_Fl u cc P R' R'') : z_Fl u cc P R R'' := ⟨fun k a b j c => (h'.1 k a b j c).trans (h.1 k a b j c), fun k a b j c => (h'.2.1 k a b j c).trans (h.2.1 k a b j c), fun k a b j c => (h'.2.2 k a b j c).trans (h.2.2 k a b j c)⟩
end ZFK
/-- both check on: the class at instruction i, the reference with its pile -/
def z_JG (Φ : z_V → z_CS → z_RS → Prop) (i : Nat) (S : z_CS) (R : z_RS) : Prop := z_WC 64 82 31 [(0, .ref 134), (1, .int (nI i))] [] S (fun o S' => z_WR 10 183 19 [(0, .ref 148)] [] R (fun v R' => v = none ∧ Φ o S' R'))
section ZJG
variable {Φ : z_V → z_CS → z_RS → Prop} {i i' : Nat} {S S' : z_CS} {R R' : z_RS}
theorem z_JG.cl (h : z_JG Φ i' S' R) (k : ∀ Q, z_WC 64 82 31 [(0, .ref 134), (1, .int (nI i'))] [] S' Q → z_WC 64 82 31 [(0, .ref 134), (1, .int (nI i))] [] S Q) : z_JG Φ i S R := k _ h
theorem z_JG.re (h : z_JG Φ i S R') (k : ∀ Q, z_WR 10 183 19 [(0, .ref 148)] [] R' Q → z_WR 10 183 19 [(0, .ref 148)] [] R Q) : z_JG Φ i S R := z_WC.im h (fun o S1 q => k _ q)
theorem z_JG.dd (hc : z_Cr 64 82 31 [(0, .ref 134), (1, .int (nI i))] [] S (.inr 10) S') (hr : z_WR 10 183 19 [(0, .ref 148)] [] R (fun v R' => v = none ∧ Φ (.inr 10) S' R')) : z_JG Φ i S R := ⟨_, S', hc, hr⟩
end ZJG
/-- what instruction i is when it has been checked -/
def z_ag (A A' : Nat → List (Nat × Int32)) (i : Nat) : Prop :=
  (¬ z_fn 0 (A 14) i = 1 → z_fn 0 (A' 14) i = z_fn 0 (A 14) i) ∧
  (z_fn 0 (A 14) i = 1 → ∃ k, z_wl (z_fn 0 (A 15) i) (z_ctx A i).1 = some k ∧ (((z_ctx A i).2.headD 0 ≤ k ∧ z_fn 0 (A' 14) i = 2 ∧ z_fn 0 (A' 15) i = nI (k - (z_ctx A i).2.headD 0)) ∨ (k < (z_ctx A i).2.headD 0 ∧ z_fn 0 (A' 14) i = 3 ∧ z_fn 0 (A' 15) i = nI k))) ∧
  (z_fn 0 (A 14) i = 4 → z_fn 0 (A' 15) i = nI ((z_ctx A i).1.length - (z_ctx A i).2.headD 0)) ∧
  (z_fn 0 (A 14) i = 17 ∨ z_fn 0 (A 14) i = 19 ∨ z_fn 0 (A 14) i = 21 → z_fn 0 (A' 15) i = nI (z_ctx A i).1.length ∧ ∃ g rm, z_fn 0 (A 17) i = nI g ∧ z_fn 0 (A' 18) i = nI rm ∧ rm ≤ 128 ∧ ∀ j, i < j → j ≤ g → (z_ctx A j).2.length = (z_ctx A i).2.length + 1 → (z_ctx A j).1.length ≤ (z_ctx A i).1.length + rm) ∧
  (¬ (z_fn 0 (A 14) i = 1 ∨ z_fn 0 (A 14) i = 4 ∨ z_fn 0 (A 14) i = 17 ∨ z_fn 0 (A 14) i = 19 ∨ z_fn 0 (A 14) i = 21) → z_fn 0 (A' 15) i = z_fn 0 (A 15) i) ∧
  (¬ (z_fn 0 (A 14) i = 17 ∨ z_fn 0 (A 14) i = 19 ∨ z_fn 0 (A 14) i = 21) → z_fn 0 (A' 18) i = z_fn 0 (A 18) i)
/-- of an instruction that checking leaves as it was -/
theorem z_ag.sm {A A' : Nat → List (Nat × Int32)} {i : Nat} (h : ¬ (z_fn 0 (A 14) i = 1 ∨ z_fn 0 (A 14) i = 4 ∨ z_fn 0 (A 14) i = 17 ∨ z_fn 0 (A 14) i = 19 ∨ z_fn 0 (A 14) i = 21)) (e : ∀ k, k = 14 ∨ k = 15 ∨ k = 18 → z_fn 0 (A' k) i = z_fn 0 (A k) i) : z_ag A A' i := by
  refine ⟨fun _ => e 14 (by decide), fun q => absurd (Or.inl q) h, fun q => absurd (Or.inr (Or.inl q)) h, fun q => absurd ?_ h, fun _ => e 15 (by decide), fun _ => e 18 (by decide)⟩
  exact Or.inr (Or.inr q)
/-- it stays so while its row stays -/
theorem z_ag.e {A A' A'' : Nat → List (Nat × Int32)} {i : Nat} (h : z_ag A A' i) (e : ∀ k, k = 14 ∨ k = 15 ∨ k = 18 → z_fn 0 (A'' k) i = z_fn 0 (A' k) i) : z_ag A A'' i := by
  unfold z_ag at h ⊢
  rw [e 14 (by decide), e 15 (by decide), e 18 (by decide)]
  exact h
