/-! Both run together: a function made. -/
def y_up {α : Type} (g : Nat → α) (F : Nat) (a : α) (x : Nat) : α := if x = F then a else g x
theorem y_up_s {α : Type} {g : Nat → α} {F : Nat} {a : α} : y_up g F a F = a := if_pos rfl
theorem y_up_n {α : Type} {g : Nat → α} {F x : Nat} {a : α} (h : x ≠ F) : y_up g F a x = g x := if_neg h
theorem y_vr.up {φ : Nat → Nat} {ψ : Nat → z_F} {F rc : Nat} {t0 : z_F} : ∀ t x y, y_vr φ ψ F t x y → y_vr (y_up φ F rc) (y_up ψ F t0) (F + 1) t x y := by
  intro t x y h
  rcases h with h | ⟨f, h1, h2, h3, h4, h5⟩
  · exact Or.inl h
  · exact Or.inr ⟨f, by omega, h2, by rw [y_up_n (by omega)]; exact h3, by rw [y_up_n (by omega)]; exact h4, h5⟩
section YH
variable {b : Nat → Nat} {n : Nat} {τ : z_TT} {A1 B1 A2 : Nat → List (Nat × Int32)} {ce : Nat} {R0 R : z_RS}
variable {rr : Nat → Int32} {rd : Nat} {fu : Int32} {th dp : Nat} {X : y_X} {cs0 cs' : List Nat} {al : Nat → Prop} {φ : Nat → Nat} {ψ : Nat → z_F} {F : Nat} {fg : List Nat} {fc : Nat → List Nat} {Y : Nat → y_X} {pd cp : Nat → Nat} {aw : Nat}
/-- one more function -/
theorem y_Gr.add {R' : z_RS} {rr' : Nat → Int32} {rd' th' aw' pd1 cp1 : Nat} {fg' : List Nat} {t0 : z_F} {cs1 : List Nat} {Y1 : y_X} {al' : Nat → Prop} (h : y_Gr b n τ A1 B1 A2 ce R0 rr rd fu th dp X cs0 al φ ψ F fg fc Y pd cp aw R)
    (b1 : ∀ q, q < 98 ∨ (101 < q ∧ q < 115) ∨ 125 < q → R'.1 q = R.1 q) (b2 : ∀ f, f < F → y_sF R.1 R'.1 f) (hM : R'.2.1 = R.2.1) (uo : ∀ a k, ¬ (a = 41 ∧ (k = 77 ∨ k = 97 ∨ k = 99 ∨ k = 114 ∨ k = 122)) → R'.2.2 a k = R.2.2 a k) (u97 : R'.2.2 41 97 = nI aw') (u99 : R'.2.2 41 99 = nI th') (u114 : R'.2.2 41 114 = nI (F + 1))
    (sB : ∀ c, y_Lv cs0 [] X F fc Y c → y_sB R.1 R'.1 c) (fi : ∃ cc fl, y_Fi R' cc fl ∧ ∀ c, al' c → c < cc ∧ ¬ c ∈ fl) (hal : ∀ c, y_Lv cs0 [] X F fc Y c → al' c) (hal1 : (∀ c, c ∈ cs1 → al' c) ∧ ∀ e, e ∈ Y1 → ∀ c, c ∈ e.2 → al' c)
    (hr : ∀ x, x < rd → rr' x = rr x) (hrd : rd < rd') (hg1 : ∀ x, x ∈ fg → x ∈ fg') (hg2 : ∀ x, x < rd → x ∈ fg' → x ∈ fg) (hg3 : ∀ x, x ∈ fg' → x < rd') (hw : ∀ j, j < aw → y_aw R' j = y_aw R j) (haw : aw ≤ aw') (hb : rd' ≤ 2 + 340 * th' ∧ th + 1 + pd1 ≤ th' ∧ th' ≤ 1000 ∧ aw' ≤ 326 * th' ∧ cp1 ≤ 4601 * (1 + pd1))
    (hfn : y_Fn b n τ A1 B1 A2 ce rr' rd' fg' R'.1 (y_vr (y_up φ F rd) (y_up ψ F t0) (F + 1)) (y_aw R') aw' rd F t0 cs1 Y1 pd1 cp1) : y_Gr b n τ A1 B1 A2 ce R0 rr' rd' fu th' dp X cs0 al' (y_up φ F rd) (y_up ψ F t0) (F + 1) fg' (y_up fc F cs1) (y_up Y F Y1) (y_up pd F pd1) (y_up cp F cp1) aw' R' := by
  obtain ⟨⟨r1, r2, r3⟩, ⟨i1, i2, i3, i4, i5, i6, i7⟩, ⟨n1, n2, n3, n4, n5, n6, n7⟩, ⟨f1, f2, f3, f4⟩, ⟨x1, ⟨x2, x3⟩, x5, x6⟩, ⟨a1, a3, a4, a5⟩⟩ := h
  have sm1 : y_sm (fun f => 1 + y_up pd F pd1 f) (F + 1) = y_sm (fun f => 1 + pd f) F + (1 + pd1) := by
    show y_sm (fun f => 1 + y_up pd F pd1 f) F + (1 + y_up pd F pd1 F) = _
    rw [y_up_s, y_sm_cg (g := fun f => 1 + pd f) F (fun f hf => by
      show 1 + y_up pd F pd1 f = 1 + pd f
      rw [y_up_n (by omega)])]
  have sm2 : y_sm (y_up cp F cp1) (F + 1) = y_sm cp F + cp1 := by
    show y_sm (y_up cp F cp1) F + y_up cp F cp1 F = _
    rw [y_up_s, y_sm_cg (g := cp) F (fun f hf => y_up_n (by omega))]
  refine ⟨⟨fun k hk => (b1 k (by omega)).trans (r1 k hk), hM.trans r2, fun a k hk => (uo a k (fun q => hk ⟨q.1, by omega⟩)).trans (r3 a k hk)⟩, ⟨by rw [uo 41 96 (by decide)]; exact i1, u97, by rw [uo 41 98 (by decide)]; exact i3, u99, by rw [uo 41 100 (by decide)]; exact i5, u114, by rw [uo 41 94 (by decide)]; exact i7⟩, ⟨hb.2.2.1, n2, hb.2.2.2.1, hb.1, n5, by omega, by omega⟩, ⟨fun f hf => ?_, fun f f' h1 h2 => ?_, fun f hf => ?_, hg3⟩, ⟨x1.mo X (fun k hk => ?_), ⟨?_, x3⟩, fun e he => (x5 e he).sB (fun c hc => sB c (Or.inr (Or.inr (Or.inl ⟨e, he, hc⟩)))), x6⟩, ⟨fi, fun c hc => hal c (Or.inl hc), fun e he c hc => hal c (Or.inr (Or.inr (Or.inl ⟨e, he, hc⟩))), fun f hf => ?_⟩⟩
  · by_cases e : f = F
    · subst e
      rw [y_up_s, y_up_s, y_up_s, y_up_s, y_up_s, y_up_s]
      exact hfn
    · have hf : f < F := by omega
      rw [y_up_n e, y_up_n e, y_up_n e, y_up_n e, y_up_n e, y_up_n e]
      exact (f1 f hf).mo (fun x hx hg => ⟨hr x hx, fun q => hg (hg2 x hx q)⟩) (Nat.le_of_lt hrd) y_vr.up (fun c hc => sB c (Or.inr (Or.inr (Or.inr ⟨f, hf, Or.inl hc⟩)))) (fun e he c hc => sB c (Or.inr (Or.inr (Or.inr ⟨f, hf, Or.inr ⟨e, he, hc⟩⟩)))) (b2 f hf) hw haw (fun q1 q2 => ⟨hr _ q1, hg1 _ q2⟩)
  · by_cases e : f' = F
    · rw [e, y_up_s, y_up_n (by omega)]
      exact f3 f (by omega)
    · rw [y_up_n e, y_up_n (by omega)]
      exact f2 f f' h1 (by omega)
  · by_cases e : f = F
    · rw [e, y_up_s]
      exact hrd
    · rw [y_up_n e]
      have := f3 f (by omega)
      omega
  · unfold y_do
    rw [b1 111 (by omega), b1 112 (by omega), b1 113 (by omega), b1 114 (by omega)]
  · rw [uo 41 103 (by decide)]
    exact x2.sB (fun c hc => sB c (Or.inl hc))
  · by_cases e : f = F
    · rw [e, y_up_s, y_up_s]
      exact hal1
    · rw [y_up_n e, y_up_n e]
      exact ⟨fun c hc => hal c (Or.inr (Or.inr (Or.inr ⟨f, by omega, Or.inl hc⟩))), fun e' he c hc => hal c (Or.inr (Or.inr (Or.inr ⟨f, by omega, Or.inr ⟨e', he, hc⟩⟩)))⟩
/-- rows of the state behind a new function -/
theorem y_nf.rows {nn nm : Int32} : (∀ q, ¬ (119 ≤ q ∧ q ≤ 124) → (y_nf F th nn nm R).1 q = R.1 q) ∧ (∀ f, f < F → y_sF R.1 (y_nf F th nn nm R).1 f) ∧ (∀ a k, ¬ (a = 41 ∧ (k = 99 ∨ k = 114)) → (y_nf F th nn nm R).2.2 a k = R.2.2 a k) ∧ (y_nf F th nn nm R).2.2 41 99 = nI (th + 1) ∧ (y_nf F th nn nm R).2.2 41 114 = nI (F + 1) ∧ z_fn 0 ((y_nf F th nn nm R).1 119) F = nn ∧ z_fn 0 ((y_nf F th nn nm R).1 120) F = nm ∧ z_fn 0 ((y_nf F th nn nm R).1 122) F = 0 ∧ z_fn 0 ((y_nf F th nn nm R).1 124) F = 0 := by
  have hu : (y_nf F th nn nm R).1 = z_u (z_u (z_u (z_u R.1 119 ((F, nn) :: R.1 119)) 120 ((F, nm) :: R.1 120)) 122 ((F, 0) :: R.1 122)) 124 ((F, 0) :: R.1 124) := rfl
  have hv : (y_nf F th nn nm R).2.2 = z_v (z_v R.2.2 41 114 (nI (F + 1))) 41 99 (nI (th + 1)) := rfl
  rw [hu, hv]
  refine ⟨fun q hq => ?_, fun f hf q a c => ?_, fun a k hk => ?_, ?_, ?_, ?_, ?_, ?_, ?_⟩
  · rw [z_un (by omega), z_un (by omega), z_un (by omega), z_un (by omega)]
  · have fn : f ≠ F := by omega
    by_cases e : q = 124
    · rw [e, z_uk, z_fcn fn]
    · rw [z_un e]
      by_cases e : q = 122
      · rw [e, z_uk, z_fcn fn]
      · rw [z_un e]
        by_cases e : q = 120
        · rw [e, z_uk, z_fcn fn]
        · rw [z_un e]
          by_cases e : q = 119
          · rw [e, z_uk, z_fcn fn]
          · rw [z_un e]
  · rw [z_vn (fun e => hk ⟨e.1, by omega⟩), z_vn (fun e => hk ⟨e.1, by omega⟩)]
  · rw [z_vk]
  · rw [z_vn (by decide), z_vk]
  · rw [z_un (by decide), z_un (by decide), z_un (by decide), z_uk, z_fcs]
  · rw [z_un (by decide), z_un (by decide), z_uk, z_fcs]
  · rw [z_un (by decide), z_uk, z_fcs]
  · rw [z_uk, z_fcs]
/-- there is room for a name, when one more function has none -/
theorem y_As.nf {x4 nn : Int32} {hi : Nat} {Lv : Nat → Prop} (h : y_As x4 hi F Lv R) (hF : F < 1000) : y_As x4 hi (F + 1) Lv (y_nf F th nn (-1) R) := by
  obtain ⟨r1, r2, r3, r4, r5, r6, r7, r8, r9⟩ := y_nf.rows (F := F) (th := th) (R := R) (nn := nn) (nm := -1)
  obtain ⟨h1, h2, h3, h4, h5, h6, ⟨cc, fl, ⟨a1, a2, a3, a4⟩, a5⟩, h8⟩ := h
  have nx : y_nx (y_nf F th nn (-1) R).1 = y_nx R.1 := by
    funext d
    unfold y_nx
    rw [r1 101 (by omega)]
  have ch : ∀ P x, y_ch (y_nf F th nn (-1) R).1 P x ↔ y_ch R.1 P x := by
    intro P x
    unfold y_ch
    rw [nx]
  refine ⟨by rw [r3 41 96 (by decide)]; exact h1, h2, r5, by omega, ?_, fun P hP => h6 P ?_, ⟨cc, fl, ⟨by rw [r3 41 77 (by decide)]; exact a1, a2, by rw [nx, r3 41 122 (by decide)]; exact a3, a4⟩, a5⟩, h8⟩
  · obtain ⟨p1, p2, p3, p4, p5⟩ := h5
    refine ⟨(ch _ _).mpr p1, by rw [r3 41 103 (by decide)]; exact (ch _ _).mpr p2, fun j hj => by rw [r1 114 (by omega)]; exact (ch _ _).mpr (p3 j hj), fun f hf => ?_, fun f hf => ?_⟩
    · by_cases e : f = F
      · rw [e, r7]
        exact (ch _ _).mpr ⟨[], rfl, fun c hc => by cases hc⟩
      · rw [r2 f (by omega) 120 (by decide) (by decide)]
        exact (ch _ _).mpr (p4 f (by omega))
    · by_cases e : f = F
      · rw [e]
        exact ⟨0, Nat.zero_le _, r8, fun j hj => absurd hj (Nat.not_lt_zero _)⟩
      · obtain ⟨m, m1, m2, m3⟩ := p5 f (by omega)
        refine ⟨m, m1, by rw [r2 f (by omega) 122 (by decide) (by decide)]; exact m2, fun j hj => ?_⟩
        obtain ⟨q, q1, q2, q3⟩ := m3 j hj
        exact ⟨q, q1, by rw [r2 f (by omega) 121 (by decide) (by decide)]; exact q2, by rw [r1 118 (by omega)]; exact (ch _ _).mpr q3⟩
  · obtain ⟨p1, p2, p3, p4, p5⟩ := hP
    rw [r3 41 103 (by decide)] at p2
    refine ⟨(ch _ _).mp p1, (ch _ _).mp p2, fun j hj => ?_, fun f hf => ?_, fun f hf => ?_⟩
    · have := (ch _ _).mp (p3 j hj)
      rw [r1 114 (by omega)] at this
      exact this
    · have := (ch _ _).mp (p4 f (by omega))
      rw [r2 f hf 120 (by decide) (by decide)] at this
      exact this
    · obtain ⟨m, m1, m2, m3⟩ := p5 f (by omega)
      rw [r2 f hf 122 (by decide) (by decide)] at m2
      refine ⟨m, m1, m2, fun j hj => ?_⟩
      obtain ⟨q, q1, q2, q3⟩ := m3 j hj
      rw [r2 f hf 121 (by decide) (by decide)] at q2
      rw [r1 118 (by omega)] at q3
      exact ⟨q, q1, q2, (ch _ _).mp q3⟩
/-- what closeOver makes: the values of all names -/
theorem z_Rc.va {mm rr rr' : Nat → Int32} {rd pc bs cnt : Nat} {D : y_D} (h : z_Rc mm rr rr' rd pc D.1 D.2.1 cnt bs) (hc : D.2.1 ≤ cnt) : ∀ k, k < cnt → rr' (rd + 1 + k) = y_va rr mm bs D k := by
  intro k hk
  unfold y_va
  by_cases e : D.2.1 ≤ k
  · rw [if_pos e]
    have := h.2.2 (k - D.2.1) (by omega)
    rw [show rd + 1 + D.2.1 + (k - D.2.1) = rd + 1 + k by omega] at this
    exact this
  · rw [if_neg e]
    exact h.2.1 k (by omega)
end YH
