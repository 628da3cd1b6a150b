/-! What both machines hold, all of it but what waits in the class. -/
section YG
variable (b : Nat → Nat) (n : Nat) (τ : z_TT) (A1 B1 A2 : Nat → List (Nat × Int32)) (ce : Nat) (R0 : z_RS)
def y_GF (rr : Nat → Int32) (rd : Nat) (φ : Nat → Nat) (ψ : Nat → z_F) (F : Nat) (fg : List Nat) (fc : Nat → List Nat) (Y : Nat → y_X) (pd cp : Nat → Nat) (aw : Nat) (R : z_RS) : Prop := (∀ f, f < F → y_Fn b n τ A1 B1 A2 ce rr rd fg R.1 (y_vr φ ψ F) (y_aw R) aw (φ f) f (ψ f) (fc f) (Y f) (pd f) (cp f)) ∧ (∀ f f', f < f' → f' < F → φ f < φ f') ∧ (∀ f, f < F → φ f < rd) ∧ (∀ x, x ∈ fg → x < rd)
/-- cells in use -/
def y_GA (X : y_X) (cs0 : List Nat) (al : Nat → Prop) (F : Nat) (fc : Nat → List Nat) (Y : Nat → y_X) (R : z_RS) : Prop := (∃ cc fl, y_Fi R cc fl ∧ ∀ c, al c → c < cc ∧ ¬ c ∈ fl) ∧ (∀ c, c ∈ cs0 → al c) ∧ (∀ e, e ∈ X → ∀ c, c ∈ e.2 → al c) ∧ ∀ f, f < F → (∀ c, c ∈ fc f → al c) ∧ ∀ e, e ∈ Y f → ∀ c, c ∈ e.2 → al c
/-- the chains -/
def y_GX (X : y_X) (cs0 : List Nat) (R : z_RS) : Prop := y_Px (y_do R) 0 X ∧ (y_lk (y_nx R.1) (R.2.2 41 103) cs0 ∧ cs0.length ≤ 102) ∧ (∀ e, e ∈ X → y_lk (y_nx R.1) e.1.2.2.2 e.2) ∧ ∃ L : List Nat, L.length ≤ 40200 ∧ ∀ e, e ∈ X → ∀ c, c ∈ e.2 → c ∈ L
def y_GI (fu : Int32) (th dp hi aw F : Nat) (R : z_RS) : Prop := R.2.2 41 96 = nI hi ∧ R.2.2 41 97 = nI aw ∧ R.2.2 41 98 = fu ∧ R.2.2 41 99 = nI th ∧ R.2.2 41 100 = nI dp ∧ R.2.2 41 114 = nI F ∧ R.2.2 41 94 = 1
def y_GN (rd th dp hi aw F : Nat) (pd cp : Nat → Nat) : Prop := th ≤ 1000 ∧ dp ≤ 400 ∧ aw ≤ 326 * th ∧ rd ≤ 2 + 340 * th ∧ hi ≤ 140000 ∧ y_sm (fun f => 1 + pd f) F ≤ th ∧ y_sm cp F ≤ 4601 * th
def y_Gr (rr : Nat → Int32) (rd : Nat) (fu : Int32) (th dp : Nat) (X : y_X) (cs0 : List Nat) (al : Nat → Prop) (φ : Nat → Nat) (ψ : Nat → z_F) (F : Nat) (fg : List Nat) (fc : Nat → List Nat) (Y : Nat → y_X) (pd cp : Nat → Nat) (aw : Nat) (R : z_RS) : Prop :=
  y_Rf R0 R ∧ y_GI fu th dp X.length aw F R ∧ y_GN rd th dp X.length aw F pd cp ∧ y_GF b n τ A1 B1 A2 ce rr rd φ ψ F fg fc Y pd cp aw R ∧ y_GX X cs0 R ∧ y_GA X cs0 al F fc Y R
end YG
def y_Lv (cs0 cs' : List Nat) (X : y_X) (F : Nat) (fc : Nat → List Nat) (Y : Nat → y_X) (c : Nat) : Prop := c ∈ cs0 ∨ c ∈ cs' ∨ (∃ e, e ∈ X ∧ c ∈ e.2) ∨ ∃ f, f < F ∧ (c ∈ fc f ∨ ∃ e, e ∈ Y f ∧ c ∈ e.2)
theorem y_Px.get {row : Nat → y_E} {off : Nat} : ∀ (X : y_X), y_Px row off X → ∀ j, j < X.length → ∃ e, e ∈ X ∧ row (off + j) = e.1 := by
  intro X
  induction X with
  | nil => intro _ j hj; exact absurd hj (Nat.not_lt_zero _)
  | cons x X ih =>
    intro h j hj
    rw [List.length_cons] at hj
    by_cases e : j = X.length
    · exact ⟨x, List.mem_cons_self, by rw [e]; exact h.1⟩
    · obtain ⟨e', h1, h2⟩ := ih h.2 j (by omega)
      exact ⟨e', List.mem_cons_of_mem _ h1, h2⟩
theorem y_Px.has {row : Nat → y_E} {off : Nat} : ∀ (X : y_X), y_Px row off X → ∀ e, e ∈ X → ∃ j, j < X.length ∧ row (off + j) = e.1 := by
  intro X
  induction X with
  | nil => intro _ e he; cases he
  | cons x X ih =>
    intro h e he
    cases he with
    | head => exact ⟨X.length, Nat.lt_succ_self _, h.1⟩
    | tail _ he =>
      obtain ⟨j, h1, h2⟩ := ih h.2 e he
      exact ⟨j, Nat.lt_succ_of_lt h1, h2⟩
theorem y_sm_le {g : Nat → Nat} {F f : Nat} (h : f < F) : g f ≤ y_sm g F := by
  induction F with
  | zero => exact absurd h (Nat.not_lt_zero _)
  | succ F ih =>
    show g f ≤ y_sm g F + g F
    by_cases e : f = F
    · rw [e]
      omega
    · have := ih (by omega)
      omega
theorem y_sm_cg {g g' : Nat → Nat} : ∀ F, (∀ f, f < F → g' f = g f) → y_sm g' F = y_sm g F := by
  intro F
  induction F with
  | zero => intro _; rfl
  | succ F ih =>
    intro h
    show y_sm g' F + g' F = y_sm g F + g F
    rw [ih (fun f hf => h f (Nat.lt_succ_of_lt hf)), h F (Nat.lt_succ_self _)]
theorem y_sm_ge {F : Nat} {g : Nat → Nat} (h : ∀ f, 1 ≤ g f) : F ≤ y_sm g F := by
  induction F with
  | zero => exact Nat.zero_le _
  | succ F ih =>
    show F + 1 ≤ y_sm g F + g F
    have := h F
    omega
/-- a list with all that each of F lists has -/
theorem y_all {P : Nat → Nat → Prop} {g : Nat → Nat} : ∀ F, (∀ f, f < F → ∃ L : List Nat, L.length ≤ 101 * g f ∧ ∀ c, P f c → c ∈ L) → ∃ L : List Nat, L.length ≤ 101 * y_sm g F ∧ ∀ f, f < F → ∀ c, P f c → c ∈ L := by
  intro F
  induction F with
  | zero => intro _; exact ⟨[], Nat.zero_le _, fun f hf => absurd hf (Nat.not_lt_zero _)⟩
  | succ F ih =>
    intro h
    obtain ⟨L1, l1, k1⟩ := ih (fun f hf => h f (Nat.lt_succ_of_lt hf))
    obtain ⟨L2, l2, k2⟩ := h F (Nat.lt_succ_self _)
    refine ⟨L1 ++ L2, ?_, fun f hf c hc => ?_⟩
    · rw [List.length_append]
      show L1.length + L2.length ≤ 101 * (y_sm g F + g F)
      rw [Nat.mul_add]
      omega
    · by_cases e : f = F
      · rw [e] at hc
        exact List.mem_append_right _ (k2 c hc)
      · exact List.mem_append_left _ (k1 f (by omega) c hc)
section YGM
variable {b : Nat → Nat} {n : Nat} {τ : z_TT} {A1 B1 A2 : Nat → List (Nat × Int32)} {ce : Nat} {R0 R : z_RS}
variable {rr : Nat → Int32} {rd : Nat} {fu : Int32} {th dp : Nat} {X : y_X} {cs0 cs' : List Nat} {al : Nat → Prop} {φ : Nat → Nat} {ψ : Nat → z_F} {F : Nat} {fg : List Nat} {fc : Nat → List Nat} {Y : Nat → y_X} {pd cp : Nat → Nat} {aw : Nat}
theorem y_Gr.F1 (h : y_Gr b n τ A1 B1 A2 ce R0 rr rd fu th dp X cs0 al φ ψ F fg fc Y pd cp aw R) : F ≤ th := by
  have h1 : F ≤ y_sm (fun f => 1 + pd f) F := y_sm_ge (fun f => Nat.le_add_right 1 _)
  have h2 := h.2.2.1.2.2.2.2.2.1
  omega
/-- there is room for a name -/
theorem y_Gr.as {x4 : Int32} (h : y_Gr b n τ A1 B1 A2 ce R0 rr rd fu th dp X cs0 al φ ψ F fg fc Y pd cp aw R) (hx : y_lk (y_nx R.1) x4 cs') (hl : cs'.length ≤ 102) (ha : ∀ c, c ∈ cs' → al c) : y_As x4 X.length F (y_Lv cs0 cs' X F fc Y) R := by
  have hF := h.F1
  obtain ⟨-, ⟨i1, -, -, -, -, i6, -⟩, ⟨n1, n2, n3, n4, n5, n6, n7⟩, ⟨f1, f2, f3, f4⟩, ⟨x1, ⟨x2, x3⟩, x5, LX, x6, x7⟩, ⟨⟨cc, fl, a1, a2⟩, a3, a4, a5⟩⟩ := h
  have hpc : ∀ f, f < F → ∃ m, m ≤ 340000 ∧ z_fn 0 (R.1 122) f = nI m ∧ m = (Y f).length ∧ ∀ j, j < m → ∃ q, q < 340000 ∧ z_fn 0 (R.1 121) f + nI j = nI q ∧ ∃ e, e ∈ Y f ∧ z_fn 0 (R.1 118) q = e.1.2.2.2 := by
    intro f hf
    obtain ⟨-, ⟨k1, k2⟩, k3, -⟩ := (f1 f hf).ch
    by_cases e : Y f = []
    · rw [e] at k1
      exact ⟨0, by omega, k1, by rw [e]; rfl, fun j hj => absurd hj (Nat.not_lt_zero _)⟩
    · obtain ⟨w, w1, w2, w3⟩ := k2 e
      refine ⟨(Y f).length, by omega, k1, rfl, fun j hj => ⟨w + j, by omega, by rw [w1, z_nI2], ?_⟩⟩
      obtain ⟨e', q1, q2⟩ := w3.get (Y f) j hj
      exact ⟨e', q1, congrArg (fun p : y_E => p.2.2.2) q2⟩
  refine ⟨i1, n5, i6, by omega, ⟨⟨cs', hx, fun c hc => Or.inr (Or.inl hc)⟩, ⟨cs0, x2, fun c hc => Or.inl hc⟩, fun j hj => ?_, fun f hf => ?_, fun f hf => ?_⟩, fun P hP c hc => ?_, ⟨cc, fl, a1, fun c hc => a2 c ?_⟩, ?_⟩
  · obtain ⟨e, e1, e2⟩ := x1.get X j hj
    rw [Nat.zero_add] at e2
    have e3 : z_fn 0 (R.1 114) j = e.1.2.2.2 := congrArg (fun p : y_E => p.2.2.2) e2
    rw [e3]
    exact ⟨e.2, x5 e e1, fun c hc => Or.inr (Or.inr (Or.inl ⟨e, e1, hc⟩))⟩
  · obtain ⟨k0, -⟩ := (f1 f hf).ch
    exact ⟨fc f, k0, fun c hc => Or.inr (Or.inr (Or.inr ⟨f, hf, Or.inl hc⟩))⟩
  · obtain ⟨m, m1, m2, m3, m4⟩ := hpc f hf
    obtain ⟨-, -, k3, -⟩ := (f1 f hf).ch
    refine ⟨m, m1, m2, fun j hj => ?_⟩
    obtain ⟨q, q1, q2, e, e1, e2⟩ := m4 j hj
    refine ⟨q, q1, q2, ?_⟩
    rw [e2]
    exact ⟨e.2, k3 e e1, fun c hc => Or.inr (Or.inr (Or.inr ⟨f, hf, Or.inr ⟨e, e1, hc⟩⟩))⟩
  · obtain ⟨p1, p2, p3, p4, p5⟩ := hP
    rcases hc with hc | hc | ⟨e, he, hc⟩ | ⟨f, hf, hc | ⟨e, he, hc⟩⟩
    · obtain ⟨a, k1, k2⟩ := p2
      rw [k1.det x2] at k2
      exact k2 c hc
    · obtain ⟨a, k1, k2⟩ := p1
      rw [k1.det hx] at k2
      exact k2 c hc
    · obtain ⟨j, j1, j2⟩ := x1.has X e he
      rw [Nat.zero_add] at j2
      have e3 : z_fn 0 (R.1 114) j = e.1.2.2.2 := congrArg (fun p : y_E => p.2.2.2) j2
      obtain ⟨a, k1, k2⟩ := p3 j j1
      rw [e3] at k1
      rw [k1.det (x5 e he)] at k2
      exact k2 c hc
    · obtain ⟨k0, -⟩ := (f1 f hf).ch
      obtain ⟨a, k1, k2⟩ := p4 f hf
      rw [k1.det k0] at k2
      exact k2 c hc
    · obtain ⟨-, ⟨k4, k5⟩, k3, -⟩ := (f1 f hf).ch
      obtain ⟨w, w1, w2, w3⟩ := k5 (fun q => by rw [q] at he; cases he)
      obtain ⟨j, j1, j2⟩ := w3.has (Y f) e he
      obtain ⟨m, m1, m2, m3⟩ := p5 f hf
      have em : (Y f).length = m := (nI_eq (by omega) (by omega)).mp (k4.symm.trans m2)
      obtain ⟨q, q1, q2, a, k1, k2⟩ := m3 j (by omega)
      rw [w1, z_nI2] at q2
      have eq : w + j = q := (nI_eq (by omega) (by omega)).mp q2
      have e3 : z_fn 0 (R.1 118) (w + j) = e.1.2.2.2 := congrArg (fun p : y_E => p.2.2.2) j2
      rw [← eq, e3] at k1
      rw [k1.det (k3 e he)] at k2
      exact k2 c hc
  · rcases hc with hc | hc | ⟨e, he, hc⟩ | ⟨f, hf, hc | ⟨e, he, hc⟩⟩
    · exact a3 c hc
    · exact ha c hc
    · exact a4 e he c hc
    · exact (a5 f hf).1 c hc
    · exact (a5 f hf).2 e he c hc
  · obtain ⟨L, l1, l2⟩ := y_all (P := fun f c => c ∈ fc f ∨ ∃ e, e ∈ Y f ∧ c ∈ e.2) (g := fun f => 1 + pd f) F (fun f hf => by
      obtain ⟨-, -, -, L, l1, l2, l3⟩ := (f1 f hf).ch
      exact ⟨L, l1, fun c hc => hc.elim (l2 c) (fun ⟨e, he, q⟩ => l3 e he c q)⟩)
    refine ⟨cs0 ++ (cs' ++ (LX ++ L)), ?_, fun c hc => ?_⟩
    · rw [List.length_append, List.length_append, List.length_append]
      omega
    · rcases hc with hc | hc | ⟨e, he, hc⟩ | ⟨f, hf, hc⟩
      · exact List.mem_append_left _ hc
      · exact List.mem_append_right _ (List.mem_append_left _ hc)
      · exact List.mem_append_right _ (List.mem_append_right _ (List.mem_append_left _ (x7 e he c hc)))
      · exact List.mem_append_right _ (List.mem_append_right _ (List.mem_append_right _ (l2 f hf c hc)))
theorem y_lk.sB {B B' : Nat → List (Nat × Int32)} {x : Int32} {a : List Nat} (h : y_lk (y_nx B) x a) (hc : ∀ c, c ∈ a → y_sB B B' c) : y_lk (y_nx B') x a := h.e (fun c q => hc c q 101 (by decide) (by decide))
/-- functions stay when only cells, what waits, and new records come -/
theorem y_GF.mo {rr' : Nat → Int32} {rd' : Nat} {R' : z_RS} (h : y_GF b n τ A1 B1 A2 ce rr rd φ ψ F fg fc Y pd cp aw R) (hr : ∀ x, x < rd → rr' x = rr x) (hrd : rd ≤ rd') (hB : ∀ q, 115 ≤ q → q ≤ 124 → R'.1 q = R.1 q) (hc : ∀ f, f < F → (∀ c, c ∈ fc f → y_sB R.1 R'.1 c) ∧ ∀ e, e ∈ Y f → ∀ c, c ∈ e.2 → y_sB R.1 R'.1 c) : y_GF b n τ A1 B1 A2 ce rr' rd' φ ψ F fg fc Y pd cp aw R' := by
  obtain ⟨h1, h2, h3, h4⟩ := h
  refine ⟨fun f hf => (h1 f hf).mo (fun x hx hg => ⟨hr x hx, hg⟩) hrd (fun _ _ _ q => q) (hc f hf).1 (hc f hf).2 (fun q a c => by rw [hB q (by omega) c]) (fun j _ => ?_) (Nat.le_refl _) (fun q1 q2 => ⟨hr _ q1, q2⟩), h2, fun f hf => Nat.lt_of_lt_of_le (h3 f hf) hrd, fun x hx => Nat.lt_of_lt_of_le (h4 x hx) hrd⟩
  unfold y_aw
  rw [hB 115 (by decide) (by decide), hB 116 (by decide) (by decide), hB 117 (by decide) (by decide), hB 118 (by decide) (by decide)]
theorem y_sB.rf {B : Nat → List (Nat × Int32)} {c : Nat} : y_sB B B c := fun _ _ _ => rfl
theorem y_sB.of {B B' : Nat → List (Nat × Int32)} {c : Nat} (h : ∀ q, 98 ≤ q → q ≤ 101 → B' q = B q) : y_sB B B' c := fun q a b => by rw [h q a b]
/-- the class's records grow -/
theorem y_Gr.grw {rr' : Nat → Int32} {rd' : Nat} (h : y_Gr b n τ A1 B1 A2 ce R0 rr rd fu th dp X cs0 al φ ψ F fg fc Y pd cp aw R) (hr : ∀ x, x < rd → rr' x = rr x) (hrd : rd ≤ rd') (hb : rd' ≤ 2 + 340 * th) : y_Gr b n τ A1 B1 A2 ce R0 rr' rd' fu th dp X cs0 al φ ψ F fg fc Y pd cp aw R := by
  obtain ⟨h1, h2, ⟨n1, n2, n3, n4, n5⟩, h4, h5⟩ := h
  exact ⟨h1, h2, ⟨n1, n2, n3, hb, n5⟩, h4.mo hr hrd (fun _ _ _ => rfl) (fun f hf => ⟨fun c _ => y_sB.rf, fun e _ c _ => y_sB.rf⟩), h5⟩
/-- a name has been bound -/
theorem y_Gr.nd {R' : z_RS} {x1 x2 x3 x4 : Int32} {j : Nat} (h : y_Gr b n τ A1 B1 A2 ce R0 rr rd fu th dp X cs0 al φ ψ F fg fc Y pd cp aw R) (hn : y_Nd x1 x2 x3 x4 (y_Lv cs0 cs' X F fc Y) R R' j) : y_Gr b n τ A1 B1 A2 ce R0 rr rd fu th dp X cs0 (fun c => y_Lv cs0 cs' X F fc Y c ∨ c = j) φ ψ F fg fc Y pd cp aw R' ∧ ∀ c, y_Lv cs0 cs' X F fc Y c → y_sB R.1 R'.1 c := by
  obtain ⟨n1, n2, n3, n4, n5, n6, cc, fl, n7, n8⟩ := hn
  have sB : ∀ c, y_Lv cs0 cs' X F fc Y c → y_sB R.1 R'.1 c := fun c hc q a b => (n6 c hc).2 q a b
  obtain ⟨⟨r1, r2, r3⟩, ⟨i1, i2, i3, i4, i5, i6, i7⟩, h3, h4, ⟨x1, ⟨x2, x3⟩, x5, x6⟩, ⟨a1, a3, a4, a5⟩⟩ := h
  refine ⟨⟨⟨fun k hk => (n3 k (by omega)).trans (r1 k hk), n4.trans r2, fun a c hac => (n5 a c (fun q => hac ⟨q.1, by omega⟩)).trans (r3 a c hac)⟩, ⟨by rw [n5 41 96 (by decide)]; exact i1, by rw [n5 41 97 (by decide)]; exact i2, by rw [n5 41 98 (by decide)]; exact i3, by rw [n5 41 99 (by decide)]; exact i4, by rw [n5 41 100 (by decide)]; exact i5, by rw [n5 41 114 (by decide)]; exact i6, by rw [n5 41 94 (by decide)]; exact i7⟩, h3, h4.mo (fun _ _ => rfl) (Nat.le_refl _) (fun q a c => n3 q (by omega)) (fun f hf => ⟨fun c hc => sB c (Or.inr (Or.inr (Or.inr ⟨f, hf, Or.inl hc⟩))), fun e he c hc => sB c (Or.inr (Or.inr (Or.inr ⟨f, hf, Or.inr ⟨e, he, hc⟩⟩)))⟩), ⟨x1.mo X (fun k hk => ?_), ⟨?_, x3⟩, fun e he => (x5 e he).sB (fun c hc => sB c (Or.inr (Or.inr (Or.inl ⟨e, he, hc⟩)))), x6⟩, ⟨⟨cc, fl, n7, n8⟩, fun c hc => Or.inl (Or.inl hc), fun e he c hc => Or.inl (Or.inr (Or.inr (Or.inl ⟨e, he, hc⟩))), fun f hf => ⟨fun c hc => Or.inl (Or.inr (Or.inr (Or.inr ⟨f, hf, Or.inl hc⟩))), fun e he c hc => Or.inl (Or.inr (Or.inr (Or.inr ⟨f, hf, Or.inr ⟨e, he, hc⟩⟩)))⟩⟩⟩, sB⟩
  · unfold y_do
    rw [n3 111 (by omega), n3 112 (by omega), n3 113 (by omega), n3 114 (by omega)]
  · rw [n5 41 103 (by decide)]
    exact x2.sB (fun c hc => sB c (Or.inl hc))
/-- a node is begun -/
theorem y_Gr.wk {m nm : Int32} (h : y_Gr b n τ A1 B1 A2 ce R0 rr rd fu th dp X cs0 al φ ψ F fg fc Y pd cp aw R) (hx : y_lk (y_nx R.1) nm cs') (hl : cs'.length ≤ 102) (ha : ∀ c, c ∈ cs' → al c) : y_Gr b n τ A1 B1 A2 ce R0 rr rd fu th dp X cs' al φ ψ F fg fc Y pd cp aw (y_wk m nm R) := by
  obtain ⟨⟨r1, r2, r3⟩, ⟨i1, i2, i3, i4, i5, i6, i7⟩, h3, h4, ⟨x1, -, x5, x6⟩, ⟨⟨cc, fl, ⟨a1, a2, a6, a7⟩, a8⟩, a3, a4, a5⟩⟩ := h
  have uo : ∀ a k, ¬ (a = 41 ∧ (k = 102 ∨ k = 103 ∨ k = 105)) → (y_wk m nm R).2.2 a k = R.2.2 a k := by
    intro a k hk
    show z_v (z_v (z_v R.2.2 41 102 m) 41 103 nm) 41 105 0 a k = _
    rw [z_vn (fun e => hk ⟨e.1, by omega⟩), z_vn (fun e => hk ⟨e.1, by omega⟩), z_vn (fun e => hk ⟨e.1, by omega⟩)]
  have u103 : (y_wk m nm R).2.2 41 103 = nm := by
    show z_v (z_v (z_v R.2.2 41 102 m) 41 103 nm) 41 105 0 41 103 = _
    rw [z_vn (by decide), z_vk]
  refine ⟨⟨r1, r2, fun a k hk => (uo a k (fun q => hk ⟨q.1, by omega⟩)).trans (r3 a k hk)⟩, ⟨by rw [uo 41 96 (by decide)]; exact i1, by rw [uo 41 97 (by decide)]; exact i2, by rw [uo 41 98 (by decide)]; exact i3, by rw [uo 41 99 (by decide)]; exact i4, by rw [uo 41 100 (by decide)]; exact i5, by rw [uo 41 114 (by decide)]; exact i6, by rw [uo 41 94 (by decide)]; exact i7⟩, h3, h4, ⟨x1, ⟨by rw [u103]; exact hx, hl⟩, x5, x6⟩, ⟨⟨cc, fl, ⟨by rw [uo 41 77 (by decide)]; exact a1, a2, by rw [uo 41 122 (by decide)]; exact a6, a7⟩, a8⟩, ha, a4, a5⟩⟩
/-- a value comes -/
theorem y_Gr.gv {v : Int32} (h : y_Gr b n τ A1 B1 A2 ce R0 rr rd fu th dp X cs0 al φ ψ F fg fc Y pd cp aw R) : y_Gr b n τ A1 B1 A2 ce R0 rr rd fu th dp X cs0 al φ ψ F fg fc Y pd cp aw (y_gv v R) := by
  obtain ⟨⟨r1, r2, r3⟩, ⟨i1, i2, i3, i4, i5, i6, i7⟩, h3, h4, ⟨x1, ⟨x2, x3⟩, x5, x6⟩, ⟨⟨cc, fl, ⟨a1, a2, a6, a7⟩, a8⟩, a3, a4, a5⟩⟩ := h
  have uo : ∀ a k, ¬ (a = 41 ∧ (k = 104 ∨ k = 105)) → (y_gv v R).2.2 a k = R.2.2 a k := by
    intro a k hk
    show z_v (z_v R.2.2 41 104 v) 41 105 1 a k = _
    rw [z_vn (fun e => hk ⟨e.1, by omega⟩), z_vn (fun e => hk ⟨e.1, by omega⟩)]
  exact ⟨⟨r1, r2, fun a k hk => (uo a k (fun q => hk ⟨q.1, by omega⟩)).trans (r3 a k hk)⟩, ⟨by rw [uo 41 96 (by decide)]; exact i1, by rw [uo 41 97 (by decide)]; exact i2, by rw [uo 41 98 (by decide)]; exact i3, by rw [uo 41 99 (by decide)]; exact i4, by rw [uo 41 100 (by decide)]; exact i5, by rw [uo 41 114 (by decide)]; exact i6, by rw [uo 41 94 (by decide)]; exact i7⟩, h3, h4, ⟨x1, ⟨by rw [uo 41 103 (by decide)]; exact x2, x3⟩, x5, x6⟩, ⟨⟨cc, fl, ⟨by rw [uo 41 77 (by decide)]; exact a1, a2, by rw [uo 41 122 (by decide)]; exact a6, a7⟩, a8⟩, a3, a4, a5⟩⟩
/-- one more waits -/
theorem y_Gr.pt {x : y_E × List Nat} (h : y_Gr b n τ A1 B1 A2 ce R0 rr rd fu th dp X cs0 al φ ψ F fg fc Y pd cp aw R) (hx : y_lk (y_nx R.1) x.1.2.2.2 x.2) (ha : ∀ c, c ∈ x.2 → al c) (hl : X.length < 140000) (hL : ∃ L : List Nat, L.length ≤ 40200 ∧ ∀ e, e ∈ x :: X → ∀ c, c ∈ e.2 → c ∈ L) : y_Gr b n τ A1 B1 A2 ce R0 rr rd fu th dp (x :: X) cs0 al φ ψ F fg fc Y pd cp aw (y_pt X.length x.1 R) := by
  obtain ⟨⟨r1, r2, r3⟩, ⟨i1, i2, i3, i4, i5, i6, i7⟩, ⟨n1, n2, n3, n4, n5, n6⟩, h4, ⟨x1, ⟨x2, x3⟩, x5, x6⟩, ⟨⟨cc, fl, ⟨a1, a2, a6, a7⟩, a8⟩, a3, a4, a5⟩⟩ := h
  have uo : ∀ a k, ¬ (a = 41 ∧ k = 96) → (y_pt X.length x.1 R).2.2 a k = R.2.2 a k := by
    intro a k hk
    show z_v R.2.2 41 96 (nI (X.length + 1)) a k = _
    rw [z_vn hk]
  have bo : ∀ q, ¬ (111 ≤ q ∧ q ≤ 114) → (y_pt X.length x.1 R).1 q = R.1 q := by
    intro q hq
    show z_u (z_u (z_u (z_u R.1 111 ((X.length, x.1.1) :: R.1 111)) 112 ((X.length, x.1.2.1) :: R.1 112)) 113 ((X.length, x.1.2.2.1) :: R.1 113)) 114 ((X.length, x.1.2.2.2) :: R.1 114) q = R.1 q
    rw [z_un (by omega), z_un (by omega), z_un (by omega), z_un (by omega)]
  have e111 : (y_pt X.length x.1 R).1 111 = (X.length, x.1.1) :: R.1 111 := by
    show z_u (z_u (z_u (z_u R.1 111 ((X.length, x.1.1) :: R.1 111)) 112 ((X.length, x.1.2.1) :: R.1 112)) 113 ((X.length, x.1.2.2.1) :: R.1 113)) 114 ((X.length, x.1.2.2.2) :: R.1 114) 111 = _
    rw [z_un (by decide), z_un (by decide), z_un (by decide), z_uk]
  have e112 : (y_pt X.length x.1 R).1 112 = (X.length, x.1.2.1) :: R.1 112 := by
    show z_u (z_u (z_u (z_u R.1 111 ((X.length, x.1.1) :: R.1 111)) 112 ((X.length, x.1.2.1) :: R.1 112)) 113 ((X.length, x.1.2.2.1) :: R.1 113)) 114 ((X.length, x.1.2.2.2) :: R.1 114) 112 = _
    rw [z_un (by decide), z_un (by decide), z_uk]
  have e113 : (y_pt X.length x.1 R).1 113 = (X.length, x.1.2.2.1) :: R.1 113 := by
    show z_u (z_u (z_u (z_u R.1 111 ((X.length, x.1.1) :: R.1 111)) 112 ((X.length, x.1.2.1) :: R.1 112)) 113 ((X.length, x.1.2.2.1) :: R.1 113)) 114 ((X.length, x.1.2.2.2) :: R.1 114) 113 = _
    rw [z_un (by decide), z_uk]
  have e114 : (y_pt X.length x.1 R).1 114 = (X.length, x.1.2.2.2) :: R.1 114 := by
    show z_u (z_u (z_u (z_u R.1 111 ((X.length, x.1.1) :: R.1 111)) 112 ((X.length, x.1.2.1) :: R.1 112)) 113 ((X.length, x.1.2.2.1) :: R.1 113)) 114 ((X.length, x.1.2.2.2) :: R.1 114) 114 = _
    rw [z_uk]
  have nx : y_nx (y_pt X.length x.1 R).1 = y_nx R.1 := by
    funext d
    unfold y_nx
    rw [bo 101 (by omega)]
  have sB : ∀ c, y_sB R.1 (y_pt X.length x.1 R).1 c := fun c => y_sB.of (fun q a d => bo q (by omega))
  refine ⟨⟨fun k hk => (bo k (by omega)).trans (r1 k hk), r2, fun a k hk => (uo a k (fun q => hk ⟨q.1, by omega⟩)).trans (r3 a k hk)⟩, ⟨y_pt_k, by rw [uo 41 97 (by decide)]; exact i2, by rw [uo 41 98 (by decide)]; exact i3, by rw [uo 41 99 (by decide)]; exact i4, by rw [uo 41 100 (by decide)]; exact i5, by rw [uo 41 114 (by decide)]; exact i6, by rw [uo 41 94 (by decide)]; exact i7⟩, ⟨n1, n2, n3, n4, hl, n6⟩, h4.mo (fun _ _ => rfl) (Nat.le_refl _) (fun q a c => bo q (by omega)) (fun f hf => ⟨fun c _ => sB c, fun e _ c _ => sB c⟩), ⟨⟨?_, x1.mo X (fun k hk => ?_)⟩, ⟨by rw [nx, uo 41 103 (by decide)]; exact x2, x3⟩, fun e he => ?_, hL⟩, ⟨⟨cc, fl, ⟨by rw [uo 41 77 (by decide)]; exact a1, a2, by rw [nx, uo 41 122 (by decide)]; exact a6, a7⟩, a8⟩, a3, fun e he => ?_, a5⟩⟩
  · unfold y_do
    rw [e111, e112, e113, e114, Nat.zero_add, z_fcs, z_fcs, z_fcs, z_fcs]
  · unfold y_do
    rw [e111, e112, e113, e114, z_fcn (by omega), z_fcn (by omega), z_fcn (by omega), z_fcn (by omega)]
  · rw [nx]
    cases he with
    | head => exact hx
    | tail _ he => exact x5 e he
  · cases he with
    | head => exact ha
    | tail _ he => exact a4 e he
/-- what waits on top is taken -/
theorem y_Gr.pop {x : y_E × List Nat} (h : y_Gr b n τ A1 B1 A2 ce R0 rr rd fu th dp (x :: X) cs0 al φ ψ F fg fc Y pd cp aw R) : y_Gr b n τ A1 B1 A2 ce R0 rr rd fu th dp X cs0 al φ ψ F fg fc Y pd cp aw (y_iv 96 (nI X.length) R) ∧ y_do R X.length = x.1 ∧ y_lk (y_nx R.1) x.1.2.2.2 x.2 ∧ (∀ c, c ∈ x.2 → al c) ∧ R.2.2 41 96 = nI (X.length + 1) ∧ X.length < 140000 := by
  obtain ⟨⟨r1, r2, r3⟩, ⟨i1, i2, i3, i4, i5, i6, i7⟩, ⟨n1, n2, n3, n4, n5, n6⟩, h4, ⟨x1, ⟨x2, x3⟩, x5, L, x6, x7⟩, ⟨⟨cc, fl, ⟨a1, a2, a6, a7⟩, a8⟩, a3, a4, a5⟩⟩ := h
  have n5 : X.length + 1 ≤ 140000 := n5
  have uo : ∀ a k, ¬ (a = 41 ∧ k = 96) → (y_iv 96 (nI X.length) R).2.2 a k = R.2.2 a k := by
    intro a k hk
    show z_v R.2.2 41 96 (nI X.length) a k = _
    rw [z_vn hk]
  refine ⟨⟨⟨r1, r2, fun a k hk => (uo a k (fun q => hk ⟨q.1, by omega⟩)).trans (r3 a k hk)⟩, ⟨y_iv_k, by rw [uo 41 97 (by decide)]; exact i2, by rw [uo 41 98 (by decide)]; exact i3, by rw [uo 41 99 (by decide)]; exact i4, by rw [uo 41 100 (by decide)]; exact i5, by rw [uo 41 114 (by decide)]; exact i6, by rw [uo 41 94 (by decide)]; exact i7⟩, ⟨n1, n2, n3, n4, by omega, n6⟩, h4, ⟨x1.2, ⟨by rw [uo 41 103 (by decide)]; exact x2, x3⟩, fun e he => x5 e (List.mem_cons_of_mem _ he), L, x6, fun e he => x7 e (List.mem_cons_of_mem _ he)⟩, ⟨⟨cc, fl, ⟨by rw [uo 41 77 (by decide)]; exact a1, a2, by rw [uo 41 122 (by decide)]; exact a6, a7⟩, a8⟩, a3, fun e he => a4 e (List.mem_cons_of_mem _ he), a5⟩⟩, ?_, x5 x List.mem_cons_self, a4 x List.mem_cons_self, i1, n5⟩
  have := x1.1
  rw [Nat.zero_add] at this
  exact this
/-- fuel, things, depth -/
theorem y_Gr.iv {fu' : Int32} {th' dp' : Nat} {U' : Nat → Nat → Int32} (h : y_Gr b n τ A1 B1 A2 ce R0 rr rd fu th dp X cs0 al φ ψ F fg fc Y pd cp aw R) (uo : ∀ a k, ¬ (a = 41 ∧ (k = 98 ∨ k = 99 ∨ k = 100)) → U' a k = R.2.2 a k) (h1 : U' 41 98 = fu') (h2 : U' 41 99 = nI th') (h3 : U' 41 100 = nI dp') (ht : th ≤ th') (ht2 : th' ≤ 1000) (hd : dp' ≤ 400) : y_Gr b n τ A1 B1 A2 ce R0 rr rd fu' th' dp' X cs0 al φ ψ F fg fc Y pd cp aw (R.1, R.2.1, U') := by
  obtain ⟨⟨r1, r2, r3⟩, ⟨i1, i2, i3, i4, i5, i6, i7⟩, ⟨n1, n2, n3, n4, n5, n6, n7⟩, h4, ⟨x1, ⟨x2, x3⟩, x5, x6⟩, ⟨⟨cc, fl, ⟨a1, a2, a6, a7⟩, a8⟩, a3, a4, a5⟩⟩ := h
  exact ⟨⟨r1, r2, fun a k hk => (uo a k (fun q => hk ⟨q.1, by omega⟩)).trans (r3 a k hk)⟩, ⟨(uo 41 96 (by decide)).trans i1, (uo 41 97 (by decide)).trans i2, h1, h2, h3, (uo 41 114 (by decide)).trans i6, (uo 41 94 (by decide)).trans i7⟩, ⟨ht2, hd, by omega, by omega, n5, by omega, by omega⟩, h4, ⟨x1, ⟨by show y_lk (y_nx R.1) (U' 41 103) cs0; rw [uo 41 103 (by decide)]; exact x2, x3⟩, x5, x6⟩, ⟨⟨cc, fl, ⟨(uo 41 77 (by decide)).trans a1, a2, by show y_lk (y_nx R.1) (U' 41 122) fl; rw [uo 41 122 (by decide)]; exact a6, a7⟩, a8⟩, a3, a4, a5⟩⟩
end YGM
