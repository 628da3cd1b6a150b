/-! Reading as the law calls it: what lies behind the cells; isProgram, read, and the law's read. -/
/-- what is no longer used: exceptions, of which nothing is kept -/
def z_Gn (g : List z_E) : Prop := ∀ (k ci : Nat) (fs : List Value), g[k]? = some (.inr (ci, fs)) → fs = []
def z_aV (p : Nat → Prop) : List Value → Prop
  | [] => True
  | .ref a :: r => p a ∧ z_aV p r
  | _ :: r => z_aV p r
def z_aE (p : Nat → Prop) : List z_E → Prop
  | [] => True
  | .inl _ :: r => z_aE p r
  | .inr (_, fs) :: r => z_aV p fs ∧ z_aE p r
theorem z_aV.at {p : Nat → Prop} : ∀ (l : List Value), z_aV p l → ∀ a, .ref a ∈ l → p a := by
  intro l
  induction l with
  | nil => intro _ a h; cases h
  | cons v r ih =>
    intro h a ha
    rcases List.mem_cons.mp ha with e | e
    · subst e
      exact h.1
    · cases v with
      | ref b => exact ih h.2 a e
      | _ => exact ih h a e
theorem z_aE.at {p : Nat → Prop} : ∀ (l : List z_E), z_aE p l → ∀ (k ci : Nat) (fs : List Value), l[k]? = some (Sum.inr (ci, fs)) → z_aV p fs := by
  intro l
  induction l with
  | nil => intro _ k ci fs h; cases h
  | cons e r ih =>
    intro h k ci fs hk
    cases k with
    | zero =>
      have e1 : e = .inr (ci, fs) := Option.some.inj hk
      subst e1
      exact h.1
    | succ k =>
      cases e with
      | inl x => exact ih h k ci fs hk
      | inr x => exact ih h.2 k ci fs hk
theorem z_aE.app {p : Nat → Prop} : ∀ (l r : List z_E), z_aE p l → z_aE p r → z_aE p (l ++ r) := by
  intro l
  induction l with
  | nil => intro r _ h; exact h
  | cons e l ih =>
    intro r h h'
    cases e with
    | inl x => exact ih r h h'
    | inr x => exact ⟨h.1, ih r h.2 h'⟩
theorem z_Gn.a {p : Nat → Prop} : ∀ g : List z_E, z_Gn g → z_aE p g := by
  intro g
  induction g with
  | nil => intro _; trivial
  | cons e g ih =>
    intro h
    have h' : z_Gn g := fun k ci fs hk => h (k + 1) ci fs hk
    cases e with
    | inl x => exact ih h'
    | inr x =>
      have e1 : x.2 = [] := h 0 x.1 x.2 rfl
      refine ⟨?_, ih h'⟩
      rw [e1]
      trivial
theorem z_Gn.snoc {g : List z_E} (h : z_Gn g) (ci : Nat) : z_Gn (g ++ [.inr (ci, [])]) := by
  intro k c fs hk
  by_cases q : k < g.length
  · rw [List.getElem?_append_left q] at hk
    exact h k c fs hk
  · rw [List.getElem?_append_right (Nat.le_of_not_lt q)] at hk
    cases hd : k - g.length with
    | zero =>
      rw [hd] at hk
      have e := Option.some.inj hk
      have e2 := (Prod.mk.inj (Sum.inr.inj e)).2
      exact e2.symm
    | succ j =>
      rw [hd] at hk
      cases hk
set_option maxRecDepth 10000 in
theorem z_aC {A : Nat → List (Nat × Int32)} {E : List (Nat × Option Nat)} {N : Nat → Nat} {V : Nat → Nat → Int32} {W n : Nat} (h : 148 ≤ n) (hW : W < n) : z_aE (fun a => a < n) (hC A E N V W) := by
  simp only [hC, z_aE, z_aV, and_true, true_and]
  omega
set_option maxRecDepth 10000 in
theorem z_aR {B : Nat → List (Nat × Int32)} {M : Nat → List (Nat × Int64)} {U : Nat → Nat → Int32} {n : Nat} (h : 234 ≤ n) : z_aE (fun a => a < n) (hR B M U) := by
  simp only [hR, z_aE, z_aV, and_true, true_and]
  omega
set_option maxRecDepth 10000 in
theorem z_aR2 {B : Nat → List (Nat × Int32)} {M : Nat → List (Nat × Int64)} {U : Nat → Nat → Int32} : z_aE (fun a => 148 ≤ a) (hR B M U) := by
  simp only [hR, z_aE, z_aV, and_true, true_and]
  omega
theorem z_GokR {B : Nat → List (Nat × Int32)} {M : Nat → List (Nat × Int64)} {U : Nat → Nat → Int32} {g : List z_E} (h : z_Gn g) : z_Gok (hR B M U ++ g) := by
  intro j ci fs hj q a hq
  exact z_aV.at fs (z_aE.at _ (z_aE.app _ _ z_aR2 (z_Gn.a g h)) j ci fs hj) a (List.mem_of_getElem? hq)
theorem z_cdH {A : Nat → List (Nat × Int32)} {E : List (Nat × Option Nat)} {N : Nat → Nat} {V : Nat → Nat → Int32} {W : Nat} {B : Nat → List (Nat × Int32)} {M : Nat → List (Nat × Int64)} {U : Nat → Nat → Int32} {g : List z_E} (hW : W < 107) (h : z_Gn g) : z_cd (hC A E N V W ++ (hR B M U ++ g)) := by
  intro k ci fs hk v hv
  have ln : 234 ≤ 107 + (hC A E N V W ++ (hR B M U ++ g)).length := by
    rw [List.length_append, List.length_append]
    have e1 : (hC A E N V W).length = 41 := rfl
    have e2 : (hR B M U).length = 86 := rfl
    omega
  cases v with
  | ref a => exact z_aV.at fs (z_aE.at _ (z_aE.app _ _ (z_aC (by omega) (by omega)) (z_aE.app _ _ (z_aR ln) (z_Gn.a g h))) k ci fs hk) a hv
  | _ => trivial
section ZAG
variable {L : Nat} {xs : Nat → Int32} {fv : Value} {f w : Nat} {c : Nat × Nat} {A : Nat → List (Nat × Int32)} {E : List (Nat × Option Nat)} {N : Nat → Nat} {V : Nat → Nat → Int32} {W : Nat} {g : List z_E} {B : Nat → List (Nat × Int32)} {M : Nat → List (Nat × Int64)} {U : Nat → Nat → Int32} {A1 : Nat → List (Nat × Int32)} {E1 : List (Nat × Option Nat)} {N1 : Nat → Nat} {V1 : Nat → Nat → Int32} {W1 : Nat} {c1 : Nat × Nat} {o : z_V} {T' : z_Y}
set_option maxRecDepth 10000 in
theorem e46_0 (hRm : z_Rm (hC A E N V W ++ g, c)) (hf : 1 ≤ f) (hw : 19 + z_pg.2.1 47 ≤ w) (hc : z_Ln L xs fv (f - 1) (w - (19 + z_pg.2.1 47)) 47 0 [(0, .ref 131)] [] (hC A E N V W ++ g, c) (.inl none) (hC A1 E1 N1 V1 W1 ++ g, c1)) (kk : z_Ln L xs fv f w 46 7 [(0, .ref 107)] [] (hC A1 E1 N1 V1 W1 ++ g, c1) o T') : z_Ln L xs fv f w 46 0 [(0, .ref 107)] [] (hC A E N V W ++ g, c) o T' :=
  b46_0 (z_Ln.call (s := 0) (mj := 47) (as := [.ref 131]) (rr := []) (v := none) (T1 := (hC A1 E1 N1 V1 W1 ++ g, c1)) rfl rfl ⟨⟨hf, hw⟩, (by decide : (0 : Nat) ≤ 8), (by decide +kernel : (1 : Nat) ≤ z_pg.2.1 47)⟩ hRm hc ⟨trivial, (z_sm0C 0 (by decide) rfl rfl), trivial⟩ kk)
set_option maxRecDepth 10000 in
theorem e46_7 (hRm : z_Rm (hC A E N V W ++ g, c)) (hf : 1 ≤ f) (hw : 19 + z_pg.2.1 82 ≤ w) (hc : z_Ln L xs fv (f - 1) (w - (19 + z_pg.2.1 82)) 82 0 [(0, .ref 134)] [] (hC A E N V W ++ g, c) (.inl none) (hC A1 E1 N1 V1 W1 ++ g, c1)) : z_Ln L xs fv f w 46 7 [(0, .ref 107)] [] (hC A E N V W ++ g, c) (.inl (some (.int 1))) (hC A1 E1 N1 V1 W1 ++ g, c1) :=
  b46_7 (z_Ln.call (s := 0) (mj := 82) (as := [.ref 134]) (rr := []) (v := none) (T1 := (hC A1 E1 N1 V1 W1 ++ g, c1)) rfl rfl ⟨⟨hf, hw⟩, (by decide : (0 : Nat) ≤ 8), (by decide +kernel : (1 : Nat) ≤ z_pg.2.1 82)⟩ hRm hc ⟨trivial, (z_sm0C 0 (by decide) rfl rfl), trivial⟩ (b46_14 (b46_20 (z_Ln.ret rfl (z_retB (Or.inr rfl))))))
set_option maxRecDepth 10000 in
theorem e46_0x (hRm : z_Rm (hC A E N V W ++ g, c)) (hf : 1 ≤ f) (hw : 19 + z_pg.2.1 47 ≤ w) (hcd : z_cd (hC A1 E1 N1 V1 W1 ++ g)) (hc : z_Ln L xs fv (f - 1) (w - (19 + z_pg.2.1 47)) 47 0 [(0, .ref 131)] [] (hC A E N V W ++ g, c) (.inr 10) (hC A1 E1 N1 V1 W1 ++ g, c1)) : z_Ln L xs fv f w 46 0 [(0, .ref 107)] [] (hC A E N V W ++ g, c) (.inl (some (.int 0))) (hC A1 E1 N1 V1 W1 ++ (g ++ [.inr (10, [])]), c1) := by
  refine b46_0 (z_Ln.caught (s := 0) (mj := 47) (as := [.ref 131]) (rr := []) (ci := 10) (hp := 17) (T1 := (hC A1 E1 N1 V1 W1 ++ g, c1)) rfl rfl ⟨⟨hf, hw⟩, (by decide : (0 : Nat) ≤ 8), (by decide +kernel : (1 : Nat) ≤ z_pg.2.1 47)⟩ hRm hc rfl ⟨(z_sm0C 0 (by decide) rfl rfl), trivial⟩ hcd ?_)
  show z_Ln L xs fv f w 46 17 [(0, .ref 107)] [.ref (107 + (hC A1 E1 N1 V1 W1 ++ g).length)] ((hC A1 E1 N1 V1 W1 ++ g) ++ [.inr (10, [])], c1) _ _
  rw [List.append_assoc]
  exact b46_17 (z_Ln.ret rfl (z_retB (Or.inl rfl)))
set_option maxRecDepth 10000 in
theorem e46_7x (hRm : z_Rm (hC A E N V W ++ g, c)) (hf : 1 ≤ f) (hw : 19 + z_pg.2.1 82 ≤ w) (hcd : z_cd (hC A1 E1 N1 V1 W1 ++ g)) (hc : z_Ln L xs fv (f - 1) (w - (19 + z_pg.2.1 82)) 82 0 [(0, .ref 134)] [] (hC A E N V W ++ g, c) (.inr 10) (hC A1 E1 N1 V1 W1 ++ g, c1)) : z_Ln L xs fv f w 46 7 [(0, .ref 107)] [] (hC A E N V W ++ g, c) (.inl (some (.int 0))) (hC A1 E1 N1 V1 W1 ++ (g ++ [.inr (10, [])]), c1) := by
  refine b46_7 (z_Ln.caught (s := 0) (mj := 82) (as := [.ref 134]) (rr := []) (ci := 10) (hp := 17) (T1 := (hC A1 E1 N1 V1 W1 ++ g, c1)) rfl rfl ⟨⟨hf, hw⟩, (by decide : (0 : Nat) ≤ 8), (by decide +kernel : (1 : Nat) ≤ z_pg.2.1 82)⟩ hRm hc rfl ⟨(z_sm0C 0 (by decide) rfl rfl), trivial⟩ hcd ?_)
  show z_Ln L xs fv f w 46 17 [(0, .ref 107)] [.ref (107 + (hC A1 E1 N1 V1 W1 ++ g).length)] ((hC A1 E1 N1 V1 W1 ++ g) ++ [.inr (10, [])], c1) _ _
  rw [List.append_assoc]
  exact b46_17 (z_Ln.ret rfl (z_retB (Or.inl rfl)))
end ZAG
