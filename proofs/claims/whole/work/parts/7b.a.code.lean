/-! Of the code: names and floors inside a node; what its instructions are when it is run. -/
section YC
variable {A : Nat → List (Nat × Int32)} {b : Nat → Nat} {n me : Nat} {τ : z_TT} {B : Nat → List (Nat × Int32)}
theorem z_Cv.fl {u : z_Bd} {m e : Nat} {P : Nat → z_Bd → Nat → Nat → Nat → List z_F → z_F → Prop} {Γ : List z_F} {t : z_F} (hP : ∀ c v g x y Γ t, P c v g x y Γ t → z_fl A x y) : ∀ (r : List (Nat × Nat)) (k q : Int32) (l x : Nat), z_Cv b n me τ A B u m P e Γ t r k q l x → z_fl A x e := by
  intro r
  induction r with
  | nil =>
    intro k q l x h
    rw [h.2.2]
    exact z_fl.rf
  | cons a r ih =>
    intro k q l x h
    obtain ⟨i, y⟩ := a
    obtain ⟨ef, -, -, h7, -, -, -, ⟨-, -, -, g, -, -, v, -, h14⟩, h15, h16⟩ := h
    exact ((hP _ _ _ _ _ _ _ h14).w24 h7 h15).tr (ih _ _ _ _ h16)
theorem z_Ct.fl : ∀ (f : Nat) (u : z_Bd) (w m s e : Nat) (Γ : List z_F) (t : z_F), z_Ct b n me τ A B f w u m s e Γ t → z_fl A s e := by
  intro f
  induction f with
  | zero => intro u w m s e Γ t h; exact h.elim
  | succ f ih =>
    intro u w m s e Γ t h
    obtain ⟨⟨hse, -⟩, hb⟩ := h
    have ih' : ∀ {c : Nat} {v : z_Bd} {g x y : Nat} {Γ : List z_F} {t : z_F}, (z_wle c w ∧ z_Ct b n me τ A B f (w - c) v g x y Γ t) → z_fl A x y := fun h => ih _ _ _ _ _ _ _ h.2
    obtain ⟨d, rfl⟩ : ∃ d, e = d + 1 := ⟨e - 1, by omega⟩
    rcases hb with ⟨-, e1, o, -⟩ | ⟨-, e1, o, -⟩ | ⟨-, e1, o, -⟩ | ⟨-, e1, o, -⟩ | ⟨-, x, y, g, t1, v1, v2, -, -, -, a1, a2, c1, o1, -, c2, o2⟩ | ⟨-, x, y, g, ta, tr, v1, v2, -, -, -, a1, a2, o1, -, -, c1, -, o2, o3, -, c2, o4⟩ | ⟨-, x, y, z, g, h, v1, v2, v3, -, -, -, -, a1, a2, a3, c1, o1, -, c2, o2, -, c3, o3⟩ | ⟨-, x, ta, tr, v1, -, -, a1, o1, -, -, c1, o2, -⟩ | ⟨-, x, y, g, h, r, t1, v1, v2, -, -, -, a1, a2, a3, o1, -, c1, o2, -, c2, o3, o4, c3⟩ | ⟨k, k1, k2, -, x, y, g, v1, v2, -, -, -, a1, a2, c1, c2, o1, -⟩ | ⟨-, x, y, g, t1, v1, v2, -, -, -, a1, a2, c1, o1, c2, o2⟩ | ⟨-, x, ef, v1, -, -, -, a1, c1, o1, -⟩
    · have e1 : d = s := by omega
      rw [e1]
      exact z_fl.one (z_ctx_id (o := 0) o (Or.inl (by decide)))
    · have e1 : d = s := by omega
      rw [e1]
      exact z_fl.one (z_ctx_id (o := 0) o (Or.inl (by decide)))
    · have e1 : d = s := by omega
      rw [e1]
      exact z_fl.one (z_ctx_id (o := 0) o (Or.inl (by decide)))
    · have e1 : d = s := by omega
      rw [e1]
      exact z_fl.one (z_ctx_id (o := 1) o (Or.inl (by decide)))
    · exact (ih' c1).tr ((ih' c2).w4 o1 o2)
    · exact ((ih' c1).w19 o1 o2).tr ((ih' c2).w4 o3 o4)
    · exact (((ih' c1).tr (z_fl.one (z_ctx_id (o := 6) o1 (by omega)))).tr ((ih' c2).tr (z_fl.one (z_ctx_id (o := 7) o2 (by omega))))).tr ((ih' c3).tr (z_fl.one (z_ctx_id (o := 8) o3 (by omega))))
    · exact (ih' c1).w17 o1 o2
    · have k1 := (ih' c1).tr ((ih' c2).w22 o2 o3)
      have k2 := z_Cv.fl (A := A) (fun c v g x y Γ t q => ih' q) r _ _ _ _ c3
      exact (k1.tr k2).w21 o1 o4
    · exact ((ih' c1).tr (ih' c2)).tr (z_fl.one (z_ctx_id (o := k + 4) o1 (by omega)))
    · exact (((ih' c1).tr (z_fl.one (z_ctx_id (o := 14) o1 (by omega)))).tr (ih' c2)).tr (z_fl.one (z_ctx_id (o := 15) o2 (by omega)))
    · exact (ih' c1).tr (z_fl.one (z_ctx_id (o := 16) o1 (by omega)))
theorem y_P.fl {A1 B1 : Nat → List (Nat × Int32)} {f wt c : Nat} {v : z_Bd} {x s e : Nat} {Γ : List z_F} {t : z_F} (h : y_P b n τ A1 B1 f wt c v x s e Γ t) : z_fl A1 s e := z_Ct.fl _ _ _ _ _ _ _ _ h.2
theorem z_Ct.rg {f w : Nat} {u : z_Bd} {m s e : Nat} {Γ : List z_F} {t : z_F} (h : z_Ct b n me τ A B f w u m s e Γ t) : s < e ∧ u.1.1 ≤ m ∧ m < u.1.2 := by
  cases f with
  | zero => exact h.elim
  | succ f => exact h.1
end YC
/-- the code: as it was read, and as it is run -/
def y_Cd (A1 A2 : Nat → List (Nat × Int32)) (ce : Nat) : Prop := 1 ≤ ce ∧ ce ≤ 4601 ∧ (∀ j, j + 1 < ce → z_ag A1 A2 j) ∧ (∀ k, k = 16 ∨ k = 17 → A2 k = A1 k) ∧ z_fn 0 (A1 14) (ce - 1) = 27 ∧ ∀ k, k = 14 ∨ k = 15 → z_fn 0 (A2 k) (ce - 1) = z_fn 0 (A1 k) (ce - 1)
theorem y_Cd.op {A1 A2 : Nat → List (Nat × Int32)} {ce j o : Nat} (h : y_Cd A1 A2 ce) (hj : j < ce) (ho : z_fn 0 (A1 14) j = nI o) (h1 : o ≠ 1) (h2 : o < 100) : z_fn 0 (A2 14) j = nI o := by
  by_cases e : j + 1 < ce
  · rw [(h.2.2.1 j e).1 (by rw [ho]; exact fun q => h1 ((nI_eq (b := 1) (by omega) (by decide)).mp q)), ho]
  · rw [show j = ce - 1 by omega, h.2.2.2.2.2 14 (Or.inl rfl), ← show j = ce - 1 by omega, ho]
theorem y_Cd.a15 {A1 A2 : Nat → List (Nat × Int32)} {ce j o : Nat} (h : y_Cd A1 A2 ce) (hj : j < ce) (ho : z_fn 0 (A1 14) j = nI o) (h1 : o = 0 ∨ (4 < o ∧ o < 17)) : z_fn 0 (A2 15) j = z_fn 0 (A1 15) j := by
  by_cases e : j + 1 < ce
  · refine (h.2.2.1 j e).2.2.2.2.1 ?_
    rw [ho]
    have q : ∀ k, k < 100 → o ≠ k → ¬ nI o = nI k := fun k hk ne e => ne ((nI_eq (by omega) (by omega)).mp e)
    rintro (e | e | e | e | e)
    · exact q 1 (by decide) (by omega) e
    · exact q 4 (by decide) (by omega) e
    · exact q 17 (by decide) (by omega) e
    · exact q 19 (by decide) (by omega) e
    · exact q 21 (by decide) (by omega) e
  · rw [show j = ce - 1 by omega, h.2.2.2.2.2 15 (Or.inr rfl)]
