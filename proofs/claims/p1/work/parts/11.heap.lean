/-! The plain machine's heap: cells as a list; an array by the number of its type and its contents, an object by the number of its class and its fields. -/
/-- an array's contents: what was written, the latest first; the rest is 0 or null -/
abbrev z_C : Type := List (Nat × Int32) ⊕ List (Nat × Int64) ⊕ List (Nat × Option Nat)
/-- an array: the number of its type, its length, its contents; an object: the number of its class, its fields -/
abbrev z_E : Type := (Nat × Nat × z_C) ⊕ (Nat × List Value)
def z_fn {α : Type} (d : α) (l : List (Nat × α)) (j : Nat) : α := match l with
  | [] => d
  | q :: r => if j = q.1 then q.2 else z_fn d r j
theorem z_fn_nil {α : Type} (d : α) : z_fn d [] = fun _ => d := by
  funext j
  rfl
theorem z_fn_upd (l : List (Nat × Int32)) (k : Nat) (x : Int32) : z_fn 0 ((k, x) :: l) = upd (z_fn 0 l) k x := by
  funext j
  rfl
theorem z_fn_updL (l : List (Nat × Int64)) (k : Nat) (x : Int64) : z_fn 0 ((k, x) :: l) = vp_updL (z_fn 0 l) k x := by
  funext j
  rfl
/-- the cells that the program made, and how many slots they have in all -/
abbrev z_S : Type := List z_E × Nat
abbrev z_U : Type := Nat × List (Nat × Value) × List Value × z_S
def z_trA (ad : Nat → Nat) (a : Nat × z_C) : vp_A := (a.1, match a.2 with
  | .inl l => .inl (z_fn 0 l)
  | .inr (.inl l) => .inr (.inl (z_fn 0 l))
  | .inr (.inr l) => .inr (.inr (.inr (.inr (fun i => (z_fn none l i).map ad)))))
def z_trE (ad : Nat → Nat) (dA : Nat → ClassId) (e : z_E) : va_E := match e with
  | .inl a => .inl (dA a.1, z_trA ad a.2)
  | .inr o => .inr (o.1, o.2.map (z_tr ad))
def z_W (ad : Nat → Nat) (dA : Nat → ClassId) (K : Nat) (h : List z_E) : va_W := h.mapIdx (fun i e => (ad (K + i), z_trE ad dA e))
theorem z_W_get {ad : Nat → Nat} {dA : Nat → ClassId} {K : Nat} {h : List z_E} {i : Nat} {e : z_E} (he : h[i]? = some e) : (z_W ad dA K h)[i]? = some (ad (K + i), z_trE ad dA e) := by
  unfold z_W
  rw [List.getElem?_mapIdx, he]
  rfl
theorem z_W_inv {ad : Nat → Nat} {dA : Nat → ClassId} {K : Nat} {h : List z_E} {i : Nat} {q : Nat × va_E} (hq : (z_W ad dA K h)[i]? = some q) : ∃ e, h[i]? = some e ∧ q = (ad (K + i), z_trE ad dA e) := by
  unfold z_W at hq
  rw [List.getElem?_mapIdx] at hq
  cases he : h[i]? with
  | none => rw [he] at hq; cases hq
  | some e => rw [he] at hq; exact ⟨e, rfl, (Option.some.inj hq).symm⟩
theorem z_W_set {ad : Nat → Nat} {dA : Nat → ClassId} {K : Nat} {h : List z_E} {i : Nat} (e : z_E) : (z_W ad dA K h).set i (ad (K + i), z_trE ad dA e) = z_W ad dA K (h.set i e) := by
  apply List.ext_getElem?
  intro j
  unfold z_W
  rw [List.getElem?_mapIdx, List.getElem?_set, List.getElem?_set, List.getElem?_mapIdx, List.length_mapIdx]
  by_cases hij : i = j
  · subst hij
    by_cases hl : i < h.length
    · simp [hl]
    · simp [hl]
  · simp [hij]
theorem z_W_app {ad : Nat → Nat} {dA : Nat → ClassId} {K : Nat} {h : List z_E} (e : z_E) : z_W ad dA K (h ++ [e]) = z_W ad dA K h ++ [(ad (K + h.length), z_trE ad dA e)] := by
  unfold z_W
  rw [List.mapIdx_concat]
abbrev z_A (sz : Nat) : Nat → Prop := fun q => sz ≤ q
theorem z_D {ad : Nat → Nat} {dA : Nat → ClassId} {K sz : Nat} (had : ∀ i, ad (K + i) = sz + i) (h : List z_E) : va_D (z_A sz) (z_W ad dA K h) := by
  refine ⟨fun i j x y hx hy hxy => ?_, fun k q hq => ?_⟩
  · obtain ⟨e1, -, rfl⟩ := z_W_inv hx
    obtain ⟨e2, -, rfl⟩ := z_W_inv hy
    have h1 := had i
    have h2 := had j
    simp only at hxy
    omega
  · obtain ⟨e1, -, rfl⟩ := z_W_inv hq
    show sz ≤ ad (K + k)
    rw [had k]
    omega
def z_tys (dA : Nat → ClassId) (tyl : List FieldType) : List (ClassId × FieldType) := tyl.mapIdx (fun t ty => (dA t, ty))
theorem z_tys_get {dA : Nat → ClassId} {tyl : List FieldType} {t : Nat} {ty : FieldType} (h : tyl[t]? = some ty) : (z_tys dA tyl)[t]? = some (dA t, ty) := by
  unfold z_tys
  rw [List.getElem?_mapIdx, h]
  rfl
/-- the classes whose objects are made, with their fields, as the words have them -/
def z_Cl (cl : List vw_C) (fty : Nat → Nat → FieldType) (Ts : List Cond) : Prop := ∀ (ci : Nat) (C : String) (T : u_T) (N : Nat), cl[ci]? = some (C, T, N) → (∀ w ∈ u_ws C T N, w ∈ Ts) ∧ (∀ k, k < N → parseFieldDescriptor (T k).2.2.1 = some (fty ci k)) ∧ (∀ a, a < N → ∀ b, b < N → a ≠ b → (T a).2.1 ≠ (T b).2.1)
def z_fit (ty : FieldType) (v : Value) : Bool := decide (narrow ty v = v) && fits ty v
theorem z_fit_i {ad : Nat → Nat} {ty : FieldType} {v : Value} (h : z_fit ty v = true) : narrow ty (z_tr ad v) = z_tr ad v ∧ fits ty (z_tr ad v) = true := by
  simp only [z_fit, Bool.and_eq_true, decide_eq_true_eq] at h
  cases v with
  | ref i =>
    refine ⟨?_, ?_⟩
    · cases ty <;> rfl
    · cases ty <;> first | rfl | exact h.2
  | _ => exact h
def z_in (i : Int32) (n : Nat) : Bool := decide (¬ i < 0) && decide (i.toNatClampNeg < n)
theorem z_in_i {i : Int32} {n : Nat} (h : z_in i n = true) : vp_in i n := by
  simp only [z_in, Bool.and_eq_true, decide_eq_true_eq] at h
  exact fun q => q.elim h.1 (fun q => by omega)
theorem z_tr_def (ad : Nat → Nat) (ty : FieldType) : z_tr ad (defaultValue ty) = defaultValue ty := by cases ty <;> rfl
/-- fields as they are born -/
def z_born (fty : Nat → FieldType) (N : Nat) : List Value := (List.range N).map (fun k => defaultValue (fty k))
theorem z_born_V (ad : Nat → Nat) (fty : Nat → FieldType) (N : Nat) : ∀ j, j < N → defaultValue (fty j) = vp_V ((z_born fty N).map (z_tr ad)) j := by
  intro j hj
  simp [vp_V, z_born, List.getD, hj, z_tr_def]
def z_zero (ty : FieldType) (n : Nat) : Option (Nat × z_C) := match ty with
  | .int => some (n, .inl [])
  | .byte => some (n, .inl [])
  | .boolean => some (n, .inl [])
  | .long => some (n, .inr (.inl []))
  | _ => none
theorem z_zero_i {ty : FieldType} {n : Nat} {a : Nat × z_C} (h : z_zero ty n = some a) (ad : Nat → Nat) (cA : ClassId) : vp_cell cA (z_trA ad a) = arrV cA n (fun _ => defaultValue ty) := by
  cases ty <;> simp [z_zero] at h <;> subst h <;> rfl
/-! The instructions that touch the heap. -/
def z_gf (K ci k len pc : Nat) (lv : List (Nat × Value)) (st : List Value) (S : z_S) : Option z_U := match st with
  | .ref a :: r => match S.1[a - K]? with
    | some (.inr o) => match o.2[k]? with
      | some v => if len = 3 ∧ K ≤ a ∧ o.1 = ci then some (pc + 3, lv, v :: r, S) else none
      | none => none
    | _ => none
  | _ => none
theorem z_gf_i {K ci k len pc : Nat} {lv lv' : List (Nat × Value)} {st st' : List Value} {S S' : z_S} {pc' : Nat} (h : z_gf K ci k len pc lv st S = some (pc', lv', st', S')) : ∃ a r fs v, st = .ref a :: r ∧ S.1[a - K]? = some (.inr (ci, fs)) ∧ fs[k]? = some v ∧ len = 3 ∧ K ≤ a ∧ pc' = pc + 3 ∧ lv' = lv ∧ st' = v :: r ∧ S' = S := by
  unfold z_gf at h
  split at h
  · split at h
    · split at h
      · split at h
        · rename_i a r x o h1 x2 v h2 hc
          obtain ⟨c1, c2, c3⟩ := hc
          cases h
          refine ⟨_, _, o.2, _, rfl, ?_, h2, c1, c2, rfl, rfl, rfl, rfl⟩
          rw [h1, ← c3]
        · cases h
      · cases h
    · cases h
  · cases h
def z_pf (K ci k : Nat) (ty : FieldType) (len pc : Nat) (lv : List (Nat × Value)) (st : List Value) (S : z_S) : Option z_U := match st with
  | v :: .ref a :: r => match S.1[a - K]? with
    | some (.inr o) => if (len = 3 ∧ K ≤ a ∧ o.1 = ci) ∧ k < o.2.length ∧ z_fit ty v = true then some (pc + 3, lv, r, (S.1.set (a - K) (.inr (ci, o.2.set k v)), S.2)) else none
    | _ => none
  | _ => none
theorem z_pf_i {K ci k : Nat} {ty : FieldType} {len pc : Nat} {lv lv' : List (Nat × Value)} {st st' : List Value} {S S' : z_S} {pc' : Nat} (h : z_pf K ci k ty len pc lv st S = some (pc', lv', st', S')) : ∃ v a r fs, st = v :: .ref a :: r ∧ S.1[a - K]? = some (.inr (ci, fs)) ∧ k < fs.length ∧ z_fit ty v = true ∧ len = 3 ∧ K ≤ a ∧ pc' = pc + 3 ∧ lv' = lv ∧ st' = r ∧ S' = (S.1.set (a - K) (.inr (ci, fs.set k v)), S.2) := by
  unfold z_pf at h
  split at h
  · split at h
    · split at h
      · rename_i v a r x o h1 hc
        obtain ⟨⟨c1, c2, c3⟩, c4, c5⟩ := hc
        cases h
        exact ⟨_, _, _, o.2, rfl, by rw [h1, ← c3], c4, c5, c1, c2, rfl, rfl, rfl, rfl⟩
      · cases h
    · cases h
  · cases h
def z_nw (K cm sm ci N : Nat) (fty : Nat → FieldType) (len pc : Nat) (lv : List (Nat × Value)) (st : List Value) (S : z_S) : Option z_U :=
  if len = 3 ∧ S.1.length + 1 ≤ cm ∧ S.2 + N ≤ sm then some (pc + 3, lv, .ref (K + S.1.length) :: st, (S.1 ++ [.inr (ci, z_born fty N)], S.2 + N)) else none
def z_na (K cm sm t : Nat) (ty : FieldType) (len pc : Nat) (lv : List (Nat × Value)) (st : List Value) (S : z_S) : Option z_U := match st with
  | .int n :: r => match z_zero ty n.toNatClampNeg with
    | some a => if (len = 2 ∧ ¬ n < 0 ∧ n.toNatClampNeg * componentBytes ty ≤ 536870912) ∧ S.1.length + 1 ≤ cm ∧ S.2 + n.toNatClampNeg ≤ sm then some (pc + 2, lv, .ref (K + S.1.length) :: r, (S.1 ++ [.inl (t, a)], S.2 + n.toNatClampNeg)) else none
    | none => none
  | _ => none
def z_nq (K cm sm t : Nat) (len pc : Nat) (lv : List (Nat × Value)) (st : List Value) (S : z_S) : Option z_U := match st with
  | .int n :: r => if (len = 3 ∧ ¬ n < 0 ∧ n.toNatClampNeg * 4 ≤ 536870912) ∧ S.1.length + 1 ≤ cm ∧ S.2 + n.toNatClampNeg ≤ sm then some (pc + 3, lv, .ref (K + S.1.length) :: r, (S.1 ++ [.inl (t, n.toNatClampNeg, .inr (.inr []))], S.2 + n.toNatClampNeg)) else none
  | _ => none
/-- the array at a place -/
def z_ar (K : Nat) (S : z_S) (a : Nat) : Option (Nat × Nat × z_C) := if K ≤ a then (match S.1[a - K]? with
  | some (.inl x) => some x
  | _ => none) else none
theorem z_ar_i {K : Nat} {S : z_S} {a : Nat} {x : Nat × Nat × z_C} (h : z_ar K S a = some x) : K ≤ a ∧ S.1[a - K]? = some (.inl x) := by
  unfold z_ar at h
  split at h
  · split at h
    · cases h
      exact ⟨by assumption, by assumption⟩
    · cases h
  · cases h
def z_ial (K : Nat) (tyl : List FieldType) (ty : FieldType) (len pc : Nat) (lv : List (Nat × Value)) (st : List Value) (S : z_S) : Option z_U := match st with
  | .int i :: .ref a :: r => match z_ar K S a with
    | some (t, n, .inl f) => if len = 1 ∧ tyl[t]? = some ty ∧ z_in i n = true then some (pc + 1, lv, .int (z_fn 0 f i.toNatClampNeg) :: r, S) else none
    | _ => none
  | _ => none
theorem z_ial_i {K : Nat} {tyl : List FieldType} {ty : FieldType} {len pc : Nat} {lv lv' : List (Nat × Value)} {st st' : List Value} {S S' : z_S} {pc' : Nat} (h : z_ial K tyl ty len pc lv st S = some (pc', lv', st', S')) : ∃ i a r t n f, st = .int i :: .ref a :: r ∧ (K ≤ a ∧ S.1[a - K]? = some (.inl (t, n, .inl f))) ∧ (len = 1 ∧ tyl[t]? = some ty ∧ z_in i n = true) ∧ pc' = pc + 1 ∧ lv' = lv ∧ st' = .int (z_fn 0 f i.toNatClampNeg) :: r ∧ S' = S := by
  unfold z_ial at h
  split at h
  · split at h
    · split at h
      · cases h
        exact ⟨_, _, _, _, _, _, rfl, z_ar_i (by assumption), by assumption, rfl, rfl, rfl, rfl⟩
      · cases h
    · cases h
  · cases h
def z_lal (K : Nat) (tyl : List FieldType) (len pc : Nat) (lv : List (Nat × Value)) (st : List Value) (S : z_S) : Option z_U := match st with
  | .int i :: .ref a :: r => match z_ar K S a with
    | some (t, n, .inr (.inl f)) => if len = 1 ∧ tyl[t]? = some .long ∧ z_in i n = true then some (pc + 1, lv, .long (z_fn 0 f i.toNatClampNeg) :: r, S) else none
    | _ => none
  | _ => none
theorem z_lal_i {K : Nat} {tyl : List FieldType} {len pc : Nat} {lv lv' : List (Nat × Value)} {st st' : List Value} {S S' : z_S} {pc' : Nat} (h : z_lal K tyl len pc lv st S = some (pc', lv', st', S')) : ∃ i a r t n f, st = .int i :: .ref a :: r ∧ (K ≤ a ∧ S.1[a - K]? = some (.inl (t, n, .inr (.inl f)))) ∧ (len = 1 ∧ tyl[t]? = some .long ∧ z_in i n = true) ∧ pc' = pc + 1 ∧ lv' = lv ∧ st' = .long (z_fn 0 f i.toNatClampNeg) :: r ∧ S' = S := by
  unfold z_lal at h
  split at h
  · split at h
    · split at h
      · cases h
        exact ⟨_, _, _, _, _, _, rfl, z_ar_i (by assumption), by assumption, rfl, rfl, rfl, rfl⟩
      · cases h
    · cases h
  · cases h
def z_oV (r : Option Nat) : Value := match r with
  | some i => .ref i
  | none => .null
theorem z_oV_tr (ad : Nat → Nat) (r : Option Nat) : z_tr ad (z_oV r) = va_rf (r.map ad) := by cases r <;> rfl
def z_aal (K : Nat) (tyl : List FieldType) (len pc : Nat) (lv : List (Nat × Value)) (st : List Value) (S : z_S) : Option z_U := match st with
  | .int i :: .ref a :: r => match z_ar K S a with
    | some (t, n, .inr (.inr f)) => match tyl[t]? with
      | some (.object _) => if len = 1 ∧ z_in i n = true then some (pc + 1, lv, z_oV (z_fn none f i.toNatClampNeg) :: r, S) else none
      | _ => none
    | _ => none
  | _ => none
theorem z_aal_i {K : Nat} {tyl : List FieldType} {len pc : Nat} {lv lv' : List (Nat × Value)} {st st' : List Value} {S S' : z_S} {pc' : Nat} (h : z_aal K tyl len pc lv st S = some (pc', lv', st', S')) : ∃ i a r t n f C, st = .int i :: .ref a :: r ∧ (K ≤ a ∧ S.1[a - K]? = some (.inl (t, n, .inr (.inr f)))) ∧ tyl[t]? = some (.object C) ∧ (len = 1 ∧ z_in i n = true) ∧ pc' = pc + 1 ∧ lv' = lv ∧ st' = z_oV (z_fn none f i.toNatClampNeg) :: r ∧ S' = S := by
  unfold z_aal at h
  split at h
  · split at h
    · split at h
      · split at h
        · cases h
          exact ⟨_, _, _, _, _, _, _, rfl, z_ar_i (by assumption), by assumption, by assumption, rfl, rfl, rfl, rfl⟩
        · cases h
      · cases h
    · cases h
  · cases h
def z_nar (ty : FieldType) (x : Int32) : Int32 := match ty with
  | .int => x
  | ty => vp_nar ty x
/-- iastore, and with narrowing bastore -/
def z_ias (K : Nat) (tyl : List FieldType) (ty : FieldType) (len pc : Nat) (lv : List (Nat × Value)) (st : List Value) (S : z_S) : Option z_U := match st with
  | .int x :: .int i :: .ref a :: r => match z_ar K S a with
    | some (t, n, .inl f) => if len = 1 ∧ tyl[t]? = some ty ∧ z_in i n = true then some (pc + 1, lv, r, (S.1.set (a - K) (.inl (t, n, .inl ((i.toNatClampNeg, z_nar ty x) :: f))), S.2)) else none
    | _ => none
  | _ => none
theorem z_ias_i {K : Nat} {tyl : List FieldType} {ty : FieldType} {len pc : Nat} {lv lv' : List (Nat × Value)} {st st' : List Value} {S S' : z_S} {pc' : Nat} (h : z_ias K tyl ty len pc lv st S = some (pc', lv', st', S')) : ∃ x i a r t n f, st = .int x :: .int i :: .ref a :: r ∧ (K ≤ a ∧ S.1[a - K]? = some (.inl (t, n, .inl f))) ∧ (len = 1 ∧ tyl[t]? = some ty ∧ z_in i n = true) ∧ pc' = pc + 1 ∧ lv' = lv ∧ st' = r ∧ S' = (S.1.set (a - K) (.inl (t, n, .inl ((i.toNatClampNeg, z_nar ty x) :: f))), S.2) := by
  unfold z_ias at h
  split at h
  · split at h
    · split at h
      · cases h
        exact ⟨_, _, _, _, _, _, _, rfl, z_ar_i (by assumption), by assumption, rfl, rfl, rfl, rfl⟩
      · cases h
    · cases h
  · cases h
def z_las (K : Nat) (tyl : List FieldType) (len pc : Nat) (lv : List (Nat × Value)) (st : List Value) (S : z_S) : Option z_U := match st with
  | .long x :: .int i :: .ref a :: r => match z_ar K S a with
    | some (t, n, .inr (.inl f)) => if len = 1 ∧ tyl[t]? = some .long ∧ z_in i n = true then some (pc + 1, lv, r, (S.1.set (a - K) (.inl (t, n, .inr (.inl ((i.toNatClampNeg, x) :: f)))), S.2)) else none
    | _ => none
  | _ => none
theorem z_las_i {K : Nat} {tyl : List FieldType} {len pc : Nat} {lv lv' : List (Nat × Value)} {st st' : List Value} {S S' : z_S} {pc' : Nat} (h : z_las K tyl len pc lv st S = some (pc', lv', st', S')) : ∃ x i a r t n f, st = .long x :: .int i :: .ref a :: r ∧ (K ≤ a ∧ S.1[a - K]? = some (.inl (t, n, .inr (.inl f)))) ∧ (len = 1 ∧ tyl[t]? = some .long ∧ z_in i n = true) ∧ pc' = pc + 1 ∧ lv' = lv ∧ st' = r ∧ S' = (S.1.set (a - K) (.inl (t, n, .inr (.inl ((i.toNatClampNeg, x) :: f)))), S.2) := by
  unfold z_las at h
  split at h
  · split at h
    · split at h
      · cases h
        exact ⟨_, _, _, _, _, _, _, rfl, z_ar_i (by assumption), by assumption, rfl, rfl, rfl, rfl⟩
      · cases h
    · cases h
  · cases h
def z_aln (K : Nat) (tyl : List FieldType) (len pc : Nat) (lv : List (Nat × Value)) (st : List Value) (S : z_S) : Option z_U := match st with
  | .ref a :: r => match z_ar K S a with
    | some x => if len = 1 ∧ x.1 < tyl.length then some (pc + 1, lv, .int (Int32.ofNat x.2.1) :: r, S) else none
    | none => none
  | _ => none
theorem z_aln_i {K : Nat} {tyl : List FieldType} {len pc : Nat} {lv lv' : List (Nat × Value)} {st st' : List Value} {S S' : z_S} {pc' : Nat} (h : z_aln K tyl len pc lv st S = some (pc', lv', st', S')) : ∃ a r x, st = .ref a :: r ∧ (K ≤ a ∧ S.1[a - K]? = some (.inl x)) ∧ (len = 1 ∧ x.1 < tyl.length) ∧ pc' = pc + 1 ∧ lv' = lv ∧ st' = .int (Int32.ofNat x.2.1) :: r ∧ S' = S := by
  unfold z_aln at h
  split at h
  · split at h
    · split at h
      · cases h
        exact ⟨_, _, _, rfl, z_ar_i (by assumption), by assumption, rfl, rfl, rfl, rfl⟩
      · cases h
    · cases h
  · cases h
theorem z_nw_i {K cm sm ci N : Nat} {fty : Nat → FieldType} {len pc : Nat} {lv lv' : List (Nat × Value)} {st st' : List Value} {S S' : z_S} {pc' : Nat} (h : z_nw K cm sm ci N fty len pc lv st S = some (pc', lv', st', S')) : (len = 3 ∧ S.1.length + 1 ≤ cm ∧ S.2 + N ≤ sm) ∧ pc' = pc + 3 ∧ lv' = lv ∧ st' = .ref (K + S.1.length) :: st ∧ S' = (S.1 ++ [.inr (ci, z_born fty N)], S.2 + N) := by
  unfold z_nw at h
  split at h
  · cases h
    exact ⟨by assumption, rfl, rfl, rfl, rfl⟩
  · cases h
theorem z_na_i {K cm sm t : Nat} {ty : FieldType} {len pc : Nat} {lv lv' : List (Nat × Value)} {st st' : List Value} {S S' : z_S} {pc' : Nat} (h : z_na K cm sm t ty len pc lv st S = some (pc', lv', st', S')) : ∃ n r a, st = .int n :: r ∧ z_zero ty n.toNatClampNeg = some a ∧ ((len = 2 ∧ ¬ n < 0 ∧ n.toNatClampNeg * componentBytes ty ≤ 536870912) ∧ S.1.length + 1 ≤ cm ∧ S.2 + n.toNatClampNeg ≤ sm) ∧ pc' = pc + 2 ∧ lv' = lv ∧ st' = .ref (K + S.1.length) :: r ∧ S' = (S.1 ++ [.inl (t, a)], S.2 + n.toNatClampNeg) := by
  unfold z_na at h
  split at h
  · split at h
    · split at h
      · cases h
        exact ⟨_, _, _, rfl, by assumption, by assumption, rfl, rfl, rfl, rfl⟩
      · cases h
    · cases h
  · cases h
theorem z_nq_i {K cm sm t : Nat} {len pc : Nat} {lv lv' : List (Nat × Value)} {st st' : List Value} {S S' : z_S} {pc' : Nat} (h : z_nq K cm sm t len pc lv st S = some (pc', lv', st', S')) : ∃ n r, st = .int n :: r ∧ ((len = 3 ∧ ¬ n < 0 ∧ n.toNatClampNeg * 4 ≤ 536870912) ∧ S.1.length + 1 ≤ cm ∧ S.2 + n.toNatClampNeg ≤ sm) ∧ pc' = pc + 3 ∧ lv' = lv ∧ st' = .ref (K + S.1.length) :: r ∧ S' = (S.1 ++ [.inl (t, n.toNatClampNeg, .inr (.inr []))], S.2 + n.toNatClampNeg) := by
  unfold z_nq at h
  split at h
  · split at h
    · cases h
      exact ⟨_, _, rfl, by assumption, rfl, rfl, rfl, rfl⟩
    · cases h
  · cases h
section ZHP
variable {p : Program} {l : Launch} {e : Env} {R : Room} {s : State} {m : MethodId} {args : Array Value} {below : List Frame} {meth : Method} {c : Code} {H : Heap} {locs : List Loc} {cells slots : Nat} {Q : State → Prop}
variable {cc : ByteArray} {ls : Array Slot} {ad : Nat → Nat} {dA : Nat → ClassId} {D : va_G} {cl : List vw_C} {tyl : List FieldType} {fty : Nat → Nat → FieldType} {Ts : List Cond} {K sz : Nat} {pc : Nat}
theorem z_bk {K a : Nat} (h : K ≤ a) : K + (a - K) = a := by omega
/-- what stands in the heap where the machine stands: no more than was made -/
theorem z_pin {g : JFrame} {N : Nat} (hN : s.heap.size + cells ≤ N) (k : H.size ≤ N → W p l e R s m args below meth c H locs cells slots Q g) : W p l e R s m args below meth c H locs cells slots Q g := fun T hT X => k (by
  have h := X.heapSize
  rw [hT] at h
  omega) T hT X
theorem z_getf (hx : p.tables.exec = Jvm.exec) (hb : c.code = cc) {own : String} {index : Nat} (hts : ∀ w ∈ Ts, w.before args s = true) (hown : s.vm.findClass own = some m.cls) (hcl : z_Cl cl fty Ts) (hK : va_K D cl (z_tys dA tyl) s) {h : List z_E} (hP : va_P D cl (z_W ad dA K h) H)
    {ci k : Nat} {C : String} {T : u_T} {N : Nat} (hc : cl[ci]? = some (C, T, N)) (hk : k < N) (hlink : Cond.fieldLink own index (T k).1 (T k).2.1 (T k).2.2.1 ∈ Ts) {a : Nat} {fs : List Value} {v : Value} {r : List Value} (hKa : K ≤ a) (he : h[a - K]? = some (.inr (ci, fs))) (hv : fs[k]? = some v) (hdg : decode cc pc = .ok (.getfield index, 3))
    (kk : W p l e R s m args below meth c H locs cells slots Q (F0 m (pc + 3) ls ((v :: r).map (z_tr ad)))) : W p l e R s m args below meth c H locs cells slots Q (F0 m pc ls ((Value.ref a :: r).map (z_tr ad))) := by
  have h1 := z_W_get (ad := ad) (dA := dA) (K := K) he
  rw [z_bk hKa] at h1
  exact va_get hx hb hts (hcl ci C T N hc).1 hown hK hP (a - K) h1 hc k hk (hts _ hlink) (fun x q => q) (v := z_tr ad v) (by rw [List.getElem?_map, hv]; rfl) hdg kk
theorem z_putf (had : ∀ i, ad (K + i) = sz + i) (hx : p.tables.exec = Jvm.exec) (hb : c.code = cc) {own : String} {index : Nat} (hts : ∀ w ∈ Ts, w.before args s = true) (hown : s.vm.findClass own = some m.cls) (hcl : z_Cl cl fty Ts) (hK : va_K D cl (z_tys dA tyl) s) {h : List z_E} (hP : va_P D cl (z_W ad dA K h) H) (hS : va_S (z_A sz) s.heap H locs)
    {ci k : Nat} {C : String} {T : u_T} {N : Nat} (hc : cl[ci]? = some (C, T, N)) (hk : k < N) (hlink : Cond.fieldLink own index (T k).1 (T k).2.1 (T k).2.2.1 ∈ Ts) (hfin : (T k).2.2.2 = true → meth.name = "<init>" ∧ (T k).1 = own) {a : Nat} {fs : List Value} {v : Value} {r : List Value} (hKa : K ≤ a) (he : h[a - K]? = some (.inr (ci, fs))) (hl : k < fs.length) (hf : z_fit (fty ci k) v = true) (hdg : decode cc pc = .ok (.putfield index, 3))
    (kk : ∀ (H1 : Heap) (locs1 : List Loc), va_P D cl (z_W ad dA K (h.set (a - K) (.inr (ci, fs.set k v)))) H1 → va_S (z_A sz) s.heap H1 locs1 → W p l e R s m args below meth c H1 locs1 cells slots Q (F0 m (pc + 3) ls (r.map (z_tr ad)))) : W p l e R s m args below meth c H locs cells slots Q (F0 m pc ls ((v :: Value.ref a :: r).map (z_tr ad))) := by
  have h1 := z_W_get (ad := ad) (dA := dA) (K := K) he
  obtain ⟨hin, hty, hnm⟩ := hcl ci C T N hc
  obtain ⟨f1, f2⟩ := z_fit_i (ad := ad) hf
  have h2 := z_W_set (ad := ad) (dA := dA) (K := K) (h := h) (i := a - K) (.inr (ci, fs.set k v))
  have h3 : z_trE ad dA (.inr (ci, fs.set k v)) = .inr (ci, (fs.map (z_tr ad)).set k (z_tr ad v)) := by
    show Sum.inr (ci, (fs.set k v).map (z_tr ad)) = _
    rw [List.map_set]
  rw [z_bk hKa] at h1 h2
  rw [h3] at h2
  rw [← h2] at kk
  by_cases hq : (T k).2.2.2 = true
  · obtain ⟨hm, ho⟩ := hfin hq
    exact va_putF hx hb hts hin (fty ci) hty hnm hown hK hP (z_D had h) hS (a - K) h1 hc k hk (hts _ hlink) (fun x q => q) hq hm ho (hty k hk) f1 f2 (by rw [List.length_map]; exact hl) hdg (fun H1 locs1 hp _ hs => kk H1 locs1 hp hs)
  · exact va_put hx hb hts hin (fty ci) hty hnm hown hK hP (z_D had h) hS (a - K) h1 hc k hk (hts _ hlink) (fun x q => q) (by simpa using hq) (hty k hk) f1 f2 (by rw [List.length_map]; exact hl) hdg (fun H1 locs1 hp _ hs => kk H1 locs1 hp hs)
/-- the place of a cell just made -/
theorem z_place (had : ∀ i, ad (K + i) = sz + i) {h : List z_E} {q : Nat} {x : va_E} {H1 : Heap} (hP : va_P D cl (z_W ad dA K h ++ [(q, x)]) H1) (hD : va_D (z_A sz) (z_W ad dA K h ++ [(q, x)])) (hz : H1.size ≤ sz + h.length + 1) : q = ad (K + h.length) := by
  have hw : (z_W ad dA K h).length = h.length := by unfold z_W; rw [List.length_mapIdx]
  have hq : (z_W ad dA K h ++ [(q, x)])[h.length]? = some (q, x) := by
    rw [List.getElem?_append_right (by omega), hw, Nat.sub_self]
    rfl
  have h1 : q < H1.size := (hP _ _ hq).lt
  have h2 : sz ≤ q := hD.2 _ _ hq
  rw [had]
  rcases Nat.lt_or_ge q (sz + h.length) with h3 | h3
  · exfalso
    have hl : q - sz < h.length := by omega
    obtain ⟨y, hy⟩ : ∃ y, h[q - sz]? = some y := ⟨_, List.getElem?_eq_getElem hl⟩
    have h4 := z_W_get (ad := ad) (dA := dA) (K := K) hy
    have h5 : (z_W ad dA K h ++ [(q, x)])[q - sz]? = some (ad (K + (q - sz)), z_trE ad dA y) := by
      rw [List.getElem?_append_left (by omega)]
      exact h4
    have h6 := hD.1 _ _ _ _ h5 hq (by show ad (K + (q - sz)) = q; rw [had]; omega)
    omega
  · omega
theorem z_new (had : ∀ i, ad (K + i) = sz + i) (hx : p.tables.exec = Jvm.exec) (hb : c.code = cc) {own : String} {index : Nat} (hts : ∀ w ∈ Ts, w.before args s = true) (hown : s.vm.findClass own = some m.cls) (hcl : z_Cl cl fty Ts) (hK : va_K D cl (z_tys dA tyl) s) {h : List z_E} (hP : va_P D cl (z_W ad dA K h) H) (hS : va_S (z_A sz) s.heap H locs) (hA : sz ≤ s.heap.size)
    {ci : Nat} {C : String} {T : u_T} {N : Nat} (hc : cl[ci]? = some (C, T, N)) (hlink : Cond.classLink own index C ∈ Ts) (hins : Cond.instantiable C N ∈ Ts) (hini : Cond.initialized C ∈ Ts) (hcells : cells + 1 ≤ R.cells) (hslots : slots + N ≤ R.slots) (hn : s.heap.size + cells ≤ sz + h.length) (hdg : decode cc pc = .ok (.new index, 3)) {r : List Value}
    (kk : ∀ (H1 : Heap), va_P D cl (z_W ad dA K (h ++ [.inr (ci, z_born (fty ci) N)])) H1 → va_S (z_A sz) s.heap H1 locs → W p l e R s m args below meth c H1 locs (cells + 1) (slots + N) Q (F0 m (pc + 3) ls ((Value.ref (K + h.length) :: r).map (z_tr ad)))) : W p l e R s m args below meth c H locs cells slots Q (F0 m pc ls (r.map (z_tr ad))) := by
  obtain ⟨hin, hty, hnm⟩ := hcl ci C T N hc
  refine va_new hx hb hts hin (fty ci) hty hown (hts _ hlink) (hts _ hins) (hts _ hini) hK hP (z_D had h) hS (fun q hq => Nat.le_trans hA hq) hc (z_born_V ad (fty ci) N) hcells hslots hdg (fun q H1 hp hd hs => ?_)
  refine z_pin (N := sz + h.length + 1) (by omega) (fun hz => ?_)
  have hq := z_place had hp hd hz
  subst hq
  refine kk H1 ?_ hs
  rw [z_W_app]
  exact hp
theorem z_newa (had : ∀ i, ad (K + i) = sz + i) (hx : p.tables.exec = Jvm.exec) (hb : c.code = cc) (hts : ∀ w ∈ Ts, w.before args s = true) (hK : va_K D cl (z_tys dA tyl) s) {h : List z_E} (hP : va_P D cl (z_W ad dA K h) H) (hS : va_S (z_A sz) s.heap H locs) (hA : sz ≤ s.heap.size)
    {atype : ArrayType} {t : Nat} {ty : FieldType} (hty : newarray.typeOf atype = ty) (ht : tyl[t]? = some ty) (hw : Cond.arrayClass ty ∈ Ts) {n : Int32} {a : Nat × z_C} (ha : z_zero ty n.toNatClampNeg = some a) (hn0 : ¬ n < 0) (hbytes : n.toNatClampNeg * componentBytes ty ≤ 536870912) (hcells : cells + 1 ≤ R.cells) (hslots : slots + n.toNatClampNeg ≤ R.slots) (hn : s.heap.size + cells ≤ sz + h.length) (hdg : decode cc pc = .ok (.newarray atype, 2)) {r : List Value}
    (kk : ∀ (H1 : Heap), va_P D cl (z_W ad dA K (h ++ [.inl (t, a)])) H1 → va_S (z_A sz) s.heap H1 locs → W p l e R s m args below meth c H1 locs (cells + 1) (slots + n.toNatClampNeg) Q (F0 m (pc + 2) ls ((Value.ref (K + h.length) :: r).map (z_tr ad)))) : W p l e R s m args below meth c H locs cells slots Q (F0 m pc ls ((Value.int n :: r).map (z_tr ad))) := by
  refine va_newa hx hb (by rw [hty]; exact hts _ hw) hty hK hP (z_D had h) hS (fun q hq => Nat.le_trans hA hq) (a0 := z_trA ad a) (fun cA => z_zero_i ha ad cA) hn0 rfl hbytes hcells hslots hdg (fun q cA H1 hk hp hd hs => ?_)
  refine z_pin (N := sz + h.length + 1) (by omega) (fun hz => ?_)
  have hq := z_place had hp hd hz
  subst hq
  have hlen : (z_tys dA tyl).length = tyl.length := by unfold z_tys; rw [List.length_mapIdx]
  have h1 := (hk.2 tyl.length (cA, ty) (by rw [List.getElem?_append_right (by omega), hlen, Nat.sub_self]; rfl)).2
  have h2 := (hK.2 t (dA t, ty) (z_tys_get ht)).2
  have hcA : cA = dA t := by
    cases ty <;> simp [z_zero] at ha <;> exact Option.some.inj (h1.symm.trans h2)
  subst hcA
  refine kk H1 ?_ hs
  rw [z_W_app]
  exact hp
theorem z_newq (had : ∀ i, ad (K + i) = sz + i) (hx : p.tables.exec = Jvm.exec) (hb : c.code = cc) {own C : String} {index : Nat} (hts : ∀ w ∈ Ts, w.before args s = true) (hown : s.vm.findClass own = some m.cls) (hlink : Cond.classLink own index C ∈ Ts) (hover : va_AO C s) (hK : va_K D cl (z_tys dA tyl) s) {h : List z_E} (hP : va_P D cl (z_W ad dA K h) H) (hS : va_S (z_A sz) s.heap H locs) (hA : sz ≤ s.heap.size)
    {t : Nat} (ht : tyl[t]? = some (.object C)) {n : Int32} (hn0 : ¬ n < 0) (hbytes : n.toNatClampNeg * 4 ≤ 536870912) (hcells : cells + 1 ≤ R.cells) (hslots : slots + n.toNatClampNeg ≤ R.slots) (hn : s.heap.size + cells ≤ sz + h.length) (hdg : decode cc pc = .ok (.anewarray index, 3)) {r : List Value}
    (kk : ∀ (H1 : Heap), va_P D cl (z_W ad dA K (h ++ [.inl (t, n.toNatClampNeg, .inr (.inr []))])) H1 → va_S (z_A sz) s.heap H1 locs → W p l e R s m args below meth c H1 locs (cells + 1) (slots + n.toNatClampNeg) Q (F0 m (pc + 3) ls ((Value.ref (K + h.length) :: r).map (z_tr ad)))) : W p l e R s m args below meth c H locs cells slots Q (F0 m pc ls ((Value.int n :: r).map (z_tr ad))) := by
  refine va_newq hx hb hown (hts _ hlink) hover hK hP (z_D had h) hS (fun q hq => Nat.le_trans hA hq) hn0 rfl hbytes hcells hslots hdg (fun q cA H1 hk hp hd hs => ?_)
  refine z_pin (N := sz + h.length + 1) (by omega) (fun hz => ?_)
  have hq := z_place had hp hd hz
  subst hq
  have hlen : (z_tys dA tyl).length = tyl.length := by unfold z_tys; rw [List.length_mapIdx]
  obtain ⟨k1, c1, a1, a2, a3, a4⟩ := (hk.2 tyl.length (cA, .object C) (by rw [List.getElem?_append_right (by omega), hlen, Nat.sub_self]; rfl)).2
  obtain ⟨k2, c2, b1, b2, b3, b4⟩ := (hK.2 t (dA t, .object C) (z_tys_get ht)).2
  have hcA : cA = dA t := Option.some.inj (a4.symm.trans b4)
  subst hcA
  refine kk H1 ?_ hs
  rw [z_W_app]
  exact hp
theorem z_iald (hx : p.tables.exec = Jvm.exec) (hb : c.code = cc) (hK : va_K D cl (z_tys dA tyl) s) {h : List z_E} (hP : va_P D cl (z_W ad dA K h) H) {t a n : Nat} {f : List (Nat × Int32)} (hKa : K ≤ a) (he : h[a - K]? = some (.inl (t, n, .inl f))) (ht : tyl[t]? = some .int) {i : Int32} (hin : z_in i n = true) (hdg : decode cc pc = .ok (.iaload, 1)) {r : List Value}
    (kk : W p l e R s m args below meth c H locs cells slots Q (F0 m (pc + 1) ls ((Value.int (z_fn 0 f i.toNatClampNeg) :: r).map (z_tr ad)))) : W p l e R s m args below meth c H locs cells slots Q (F0 m pc ls ((Value.int i :: .ref a :: r).map (z_tr ad))) := by
  have h1 := z_W_get (ad := ad) (dA := dA) (K := K) he
  rw [z_bk hKa] at h1
  exact va_iald hx hb hK hP (a - K) t h1 (z_tys_get ht) (z_in_i hin) hdg kk
theorem z_bald (hx : p.tables.exec = Jvm.exec) (hb : c.code = cc) (hK : va_K D cl (z_tys dA tyl) s) {h : List z_E} (hP : va_P D cl (z_W ad dA K h) H) {t a n : Nat} {f : List (Nat × Int32)} (hKa : K ≤ a) (he : h[a - K]? = some (.inl (t, n, .inl f))) (ht : tyl[t]? = some .byte) {i : Int32} (hin : z_in i n = true) (hdg : decode cc pc = .ok (.baload, 1)) {r : List Value}
    (kk : W p l e R s m args below meth c H locs cells slots Q (F0 m (pc + 1) ls ((Value.int (z_fn 0 f i.toNatClampNeg) :: r).map (z_tr ad)))) : W p l e R s m args below meth c H locs cells slots Q (F0 m pc ls ((Value.int i :: .ref a :: r).map (z_tr ad))) := by
  have h1 := z_W_get (ad := ad) (dA := dA) (K := K) he
  rw [z_bk hKa] at h1
  exact va_bald hx hb hK hP (a - K) t h1 (z_tys_get ht) (z_in_i hin) hdg kk
theorem z_zald (hx : p.tables.exec = Jvm.exec) (hb : c.code = cc) (hK : va_K D cl (z_tys dA tyl) s) {h : List z_E} (hP : va_P D cl (z_W ad dA K h) H) {t a n : Nat} {f : List (Nat × Int32)} (hKa : K ≤ a) (he : h[a - K]? = some (.inl (t, n, .inl f))) (ht : tyl[t]? = some .boolean) {i : Int32} (hin : z_in i n = true) (hdg : decode cc pc = .ok (.baload, 1)) {r : List Value}
    (kk : W p l e R s m args below meth c H locs cells slots Q (F0 m (pc + 1) ls ((Value.int (z_fn 0 f i.toNatClampNeg) :: r).map (z_tr ad)))) : W p l e R s m args below meth c H locs cells slots Q (F0 m pc ls ((Value.int i :: .ref a :: r).map (z_tr ad))) := by
  have h1 := z_W_get (ad := ad) (dA := dA) (K := K) he
  rw [z_bk hKa] at h1
  exact va_zald hx hb hK hP (a - K) t h1 (z_tys_get ht) (z_in_i hin) hdg kk
theorem z_lald (hx : p.tables.exec = Jvm.exec) (hb : c.code = cc) (hK : va_K D cl (z_tys dA tyl) s) {h : List z_E} (hP : va_P D cl (z_W ad dA K h) H) {t a n : Nat} {f : List (Nat × Int64)} (hKa : K ≤ a) (he : h[a - K]? = some (.inl (t, n, .inr (.inl f)))) (ht : tyl[t]? = some .long) {i : Int32} (hin : z_in i n = true) (hdg : decode cc pc = .ok (.laload, 1)) {r : List Value}
    (kk : W p l e R s m args below meth c H locs cells slots Q (F0 m (pc + 1) ls ((Value.long (z_fn 0 f i.toNatClampNeg) :: r).map (z_tr ad)))) : W p l e R s m args below meth c H locs cells slots Q (F0 m pc ls ((Value.int i :: .ref a :: r).map (z_tr ad))) := by
  have h1 := z_W_get (ad := ad) (dA := dA) (K := K) he
  rw [z_bk hKa] at h1
  exact va_lald hx hb hK hP (a - K) t h1 (z_tys_get ht) (z_in_i hin) hdg kk
theorem z_aald (hx : p.tables.exec = Jvm.exec) (hb : c.code = cc) (hK : va_K D cl (z_tys dA tyl) s) {h : List z_E} (hP : va_P D cl (z_W ad dA K h) H) {t a n : Nat} {C : String} {f : List (Nat × Option Nat)} (hKa : K ≤ a) (he : h[a - K]? = some (.inl (t, n, .inr (.inr f)))) (ht : tyl[t]? = some (.object C)) {i : Int32} (hin : z_in i n = true) (hdg : decode cc pc = .ok (.aaload, 1)) {r : List Value}
    (kk : W p l e R s m args below meth c H locs cells slots Q (F0 m (pc + 1) ls ((z_oV (z_fn none f i.toNatClampNeg) :: r).map (z_tr ad)))) : W p l e R s m args below meth c H locs cells slots Q (F0 m pc ls ((Value.int i :: .ref a :: r).map (z_tr ad))) := by
  have h1 := z_W_get (ad := ad) (dA := dA) (K := K) he
  rw [z_bk hKa] at h1
  refine va_aldq hx hb hK hP (a - K) t h1 (z_tys_get ht) (z_in_i hin) hdg ?_
  have h2 := z_oV_tr ad (z_fn none f i.toNatClampNeg)
  rw [← h2]
  exact kk
theorem z_iast (had : ∀ i, ad (K + i) = sz + i) (hx : p.tables.exec = Jvm.exec) (hb : c.code = cc) (hK : va_K D cl (z_tys dA tyl) s) {h : List z_E} (hP : va_P D cl (z_W ad dA K h) H) (hS : va_S (z_A sz) s.heap H locs) {t a n : Nat} {f : List (Nat × Int32)} (hKa : K ≤ a) (he : h[a - K]? = some (.inl (t, n, .inl f))) (ht : tyl[t]? = some .int) {i x : Int32} (hin : z_in i n = true) (hdg : decode cc pc = .ok (.iastore, 1)) {r : List Value}
    (kk : ∀ (H1 : Heap) (locs1 : List Loc), va_P D cl (z_W ad dA K (h.set (a - K) (.inl (t, n, .inl ((i.toNatClampNeg, x) :: f))))) H1 → va_S (z_A sz) s.heap H1 locs1 → W p l e R s m args below meth c H1 locs1 cells slots Q (F0 m (pc + 1) ls (r.map (z_tr ad)))) : W p l e R s m args below meth c H locs cells slots Q (F0 m pc ls ((Value.int x :: .int i :: .ref a :: r).map (z_tr ad))) := by
  have h1 := z_W_get (ad := ad) (dA := dA) (K := K) he
  have h2 := z_W_set (ad := ad) (dA := dA) (K := K) (h := h) (i := a - K) (.inl (t, n, .inl ((i.toNatClampNeg, x) :: f)))
  rw [z_bk hKa] at h1 h2
  have h3 : z_trE ad dA (.inl (t, n, .inl ((i.toNatClampNeg, x) :: f))) = .inl (dA t, n, .inl (upd (z_fn 0 f) i.toNatClampNeg x)) := by
    show Sum.inl (dA t, n, Sum.inl (z_fn 0 _)) = _
    rw [z_fn_upd]
  rw [h3] at h2
  rw [← h2] at kk
  exact va_iast hx hb hK hP (z_D had h) hS (a - K) t h1 (z_tys_get ht) (z_in_i hin) hdg (fun H1 locs1 hp _ hs => kk H1 locs1 hp hs)
theorem z_bast (had : ∀ i, ad (K + i) = sz + i) (hx : p.tables.exec = Jvm.exec) (hb : c.code = cc) (hK : va_K D cl (z_tys dA tyl) s) {h : List z_E} (hP : va_P D cl (z_W ad dA K h) H) (hS : va_S (z_A sz) s.heap H locs) {t a n : Nat} {f : List (Nat × Int32)} (hKa : K ≤ a) (he : h[a - K]? = some (.inl (t, n, .inl f))) (ht : tyl[t]? = some .byte) {i x : Int32} (hin : z_in i n = true) (hdg : decode cc pc = .ok (.bastore, 1)) {r : List Value}
    (kk : ∀ (H1 : Heap) (locs1 : List Loc), va_P D cl (z_W ad dA K (h.set (a - K) (.inl (t, n, .inl ((i.toNatClampNeg, (vp_nar .byte x)) :: f))))) H1 → va_S (z_A sz) s.heap H1 locs1 → W p l e R s m args below meth c H1 locs1 cells slots Q (F0 m (pc + 1) ls (r.map (z_tr ad)))) : W p l e R s m args below meth c H locs cells slots Q (F0 m pc ls ((Value.int x :: .int i :: .ref a :: r).map (z_tr ad))) := by
  have h1 := z_W_get (ad := ad) (dA := dA) (K := K) he
  have h2 := z_W_set (ad := ad) (dA := dA) (K := K) (h := h) (i := a - K) (.inl (t, n, .inl ((i.toNatClampNeg, (vp_nar .byte x)) :: f)))
  rw [z_bk hKa] at h1 h2
  have h3 : z_trE ad dA (.inl (t, n, .inl ((i.toNatClampNeg, (vp_nar .byte x)) :: f))) = .inl (dA t, n, .inl (upd (z_fn 0 f) i.toNatClampNeg (vp_nar .byte x))) := by
    show Sum.inl (dA t, n, Sum.inl (z_fn 0 _)) = _
    rw [z_fn_upd]
  rw [h3] at h2
  rw [← h2] at kk
  exact va_bast hx hb hK hP (z_D had h) hS (a - K) t h1 (z_tys_get ht) (z_in_i hin) hdg (fun H1 locs1 hp _ hs => kk H1 locs1 hp hs)
theorem z_zast (had : ∀ i, ad (K + i) = sz + i) (hx : p.tables.exec = Jvm.exec) (hb : c.code = cc) (hK : va_K D cl (z_tys dA tyl) s) {h : List z_E} (hP : va_P D cl (z_W ad dA K h) H) (hS : va_S (z_A sz) s.heap H locs) {t a n : Nat} {f : List (Nat × Int32)} (hKa : K ≤ a) (he : h[a - K]? = some (.inl (t, n, .inl f))) (ht : tyl[t]? = some .boolean) {i x : Int32} (hin : z_in i n = true) (hdg : decode cc pc = .ok (.bastore, 1)) {r : List Value}
    (kk : ∀ (H1 : Heap) (locs1 : List Loc), va_P D cl (z_W ad dA K (h.set (a - K) (.inl (t, n, .inl ((i.toNatClampNeg, (vp_nar .boolean x)) :: f))))) H1 → va_S (z_A sz) s.heap H1 locs1 → W p l e R s m args below meth c H1 locs1 cells slots Q (F0 m (pc + 1) ls (r.map (z_tr ad)))) : W p l e R s m args below meth c H locs cells slots Q (F0 m pc ls ((Value.int x :: .int i :: .ref a :: r).map (z_tr ad))) := by
  have h1 := z_W_get (ad := ad) (dA := dA) (K := K) he
  have h2 := z_W_set (ad := ad) (dA := dA) (K := K) (h := h) (i := a - K) (.inl (t, n, .inl ((i.toNatClampNeg, (vp_nar .boolean x)) :: f)))
  rw [z_bk hKa] at h1 h2
  have h3 : z_trE ad dA (.inl (t, n, .inl ((i.toNatClampNeg, (vp_nar .boolean x)) :: f))) = .inl (dA t, n, .inl (upd (z_fn 0 f) i.toNatClampNeg (vp_nar .boolean x))) := by
    show Sum.inl (dA t, n, Sum.inl (z_fn 0 _)) = _
    rw [z_fn_upd]
  rw [h3] at h2
  rw [← h2] at kk
  exact va_zast hx hb hK hP (z_D had h) hS (a - K) t h1 (z_tys_get ht) (z_in_i hin) hdg (fun H1 locs1 hp _ hs => kk H1 locs1 hp hs)
theorem z_last (had : ∀ i, ad (K + i) = sz + i) (hx : p.tables.exec = Jvm.exec) (hb : c.code = cc) (hK : va_K D cl (z_tys dA tyl) s) {h : List z_E} (hP : va_P D cl (z_W ad dA K h) H) (hS : va_S (z_A sz) s.heap H locs) {t a n : Nat} {f : List (Nat × Int64)} (hKa : K ≤ a) (he : h[a - K]? = some (.inl (t, n, .inr (.inl f)))) (ht : tyl[t]? = some .long) {i : Int32} {x : Int64} (hin : z_in i n = true) (hdg : decode cc pc = .ok (.lastore, 1)) {r : List Value}
    (kk : ∀ (H1 : Heap) (locs1 : List Loc), va_P D cl (z_W ad dA K (h.set (a - K) (.inl (t, n, .inr (.inl ((i.toNatClampNeg, x) :: f)))))) H1 → va_S (z_A sz) s.heap H1 locs1 → W p l e R s m args below meth c H1 locs1 cells slots Q (F0 m (pc + 1) ls (r.map (z_tr ad)))) : W p l e R s m args below meth c H locs cells slots Q (F0 m pc ls ((Value.long x :: .int i :: .ref a :: r).map (z_tr ad))) := by
  have h1 := z_W_get (ad := ad) (dA := dA) (K := K) he
  have h2 := z_W_set (ad := ad) (dA := dA) (K := K) (h := h) (i := a - K) (.inl (t, n, .inr (.inl ((i.toNatClampNeg, x) :: f))))
  rw [z_bk hKa] at h1 h2
  have h3 : z_trE ad dA (.inl (t, n, .inr (.inl ((i.toNatClampNeg, x) :: f)))) = .inl (dA t, n, .inr (.inl (vp_updL (z_fn 0 f) i.toNatClampNeg x))) := by
    show Sum.inl (dA t, n, Sum.inr (Sum.inl (z_fn 0 _))) = _
    rw [z_fn_updL]
  rw [h3] at h2
  rw [← h2] at kk
  exact va_last hx hb hK hP (z_D had h) hS (a - K) t h1 (z_tys_get ht) (z_in_i hin) hdg (fun H1 locs1 hp _ hs => kk H1 locs1 hp hs)
theorem z_alen (hx : p.tables.exec = Jvm.exec) (hb : c.code = cc) (hK : va_K D cl (z_tys dA tyl) s) {h : List z_E} (hP : va_P D cl (z_W ad dA K h) H) {a : Nat} {x : Nat × Nat × z_C} (hKa : K ≤ a) (he : h[a - K]? = some (.inl x)) (ht : x.1 < tyl.length) (hdg : decode cc pc = .ok (.arraylength, 1)) {r : List Value}
    (kk : W p l e R s m args below meth c H locs cells slots Q (F0 m (pc + 1) ls ((Value.int (Int32.ofNat x.2.1) :: r).map (z_tr ad)))) : W p l e R s m args below meth c H locs cells slots Q (F0 m pc ls ((Value.ref a :: r).map (z_tr ad))) := by
  have h1 := z_W_get (ad := ad) (dA := dA) (K := K) he
  rw [z_bk hKa] at h1
  exact va_alen hx hb hK hP (a - K) x.1 h1 (z_tys_get (List.getElem?_eq_getElem ht)) rfl hdg kk
theorem z_asg (vm : Vm) (c : ClassId) : vm.assignable c c = true := by
  have h : ∀ n, vm.assignableAux (n + 1) c c = true := by
    intro n
    unfold Vm.assignableAux
    rw [beq_self_eq_true, Bool.true_or]
  exact h 255
/-- a constant is stored in an array of references -/
theorem z_aastF (had : ∀ i, ad (K + i) = sz + i) (hx : p.tables.exec = Jvm.exec) (hb : c.code = cc) (hK : va_K D cl (z_tys dA tyl) s) {h : List z_E} (hP : va_P D cl (z_W ad dA K h) H) (hS : va_S (z_A sz) s.heap H locs) {t a n v : Nat} {C : String} {f : List (Nat × Option Nat)} (hKa : K ≤ a) (he : h[a - K]? = some (.inl (t, n, .inr (.inr f)))) (ht : tyl[t]? = some (.object C)) (hv : va_O C (ad v) (z_A sz) s s.heap) (hat : ∃ (cC : ClassId) (kC : Class), s.vm.findClass C = some cC ∧ s.vm.classes[cC]? = some kC) {i : Int32} (hin : z_in i n = true) (hdg : decode cc pc = .ok (.aastore, 1)) {r : List Value}
    (kk : ∀ (H1 : Heap) (locs1 : List Loc), va_P D cl (z_W ad dA K (h.set (a - K) (.inl (t, n, .inr (.inr ((i.toNatClampNeg, some v) :: f)))))) H1 → va_S (z_A sz) s.heap H1 locs1 → W p l e R s m args below meth c H1 locs1 cells slots Q (F0 m (pc + 1) ls (r.map (z_tr ad)))) : W p l e R s m args below meth c H locs cells slots Q (F0 m pc ls ((Value.ref v :: .int i :: .ref a :: r).map (z_tr ad))) := by
  have h1 := z_W_get (ad := ad) (dA := dA) (K := K) he
  have h2 := z_W_set (ad := ad) (dA := dA) (K := K) (h := h) (i := a - K) (.inl (t, n, .inr (.inr ((i.toNatClampNeg, some v) :: f))))
  rw [z_bk hKa] at h1 h2
  have hi := z_in_i hin
  have hlt : i.toNatClampNeg < n := Nat.not_le.mp fun q => hi (Or.inr q)
  have h0 : ¬ i < 0 := fun q => hi (Or.inl q)
  obtain ⟨cellV, g1, g2, g3, g4⟩ := hv.kept hS.2.1
  obtain ⟨cC, kC, hfc, hkC⟩ := hat
  have hcell : cellV.cls = cC := Option.some.inj (g3.symm.trans hfc)
  obtain ⟨kA, comp, k1, k2, k3, -⟩ := (hK.2 t _ (z_tys_get ht)).2
  have hcomp : comp = cC := Option.some.inj (k3.symm.trans hfc)
  subst hcomp
  have hD := z_D (dA := dA) had h
  refine W.aast hx hb (hP (a - K) _ h1) (fun q h => by cases h) (fun h => by cases h) k1 k2 rfl hkC ⟨h0, by show _ < (arrV _ _ _).slots.size; rw [arrV_size]; exact hlt⟩ g1 (fun q h => by rw [h] at g2; cases g2) (by rw [hcell]; exact hkC) (by rw [hcell]; exact z_asg s.vm comp) rfl rfl hdg fun H1 e z oq => ?_
  refine kk H1 _ ?_ (hS.put z oq (hD.2 (a - K) _ h1))
  rw [← h2]
  refine hP.set hD h1 ?_ oq
  show H1[ad a]? = some (vp_cell _ _)
  rw [e]
  show some ((vp_cell (dA t) (n, .inr (.inr (.inr (.inr (fun j => (z_fn none f j).map ad)))))).setSlot i.toNatClampNeg (.ref (ad v))) = some (vp_cell (dA t) (n, .inr (.inr (.inr (.inr (fun j => (z_fn none ((i.toNatClampNeg, some v) :: f) j).map ad))))))
  rw [vp_cell_q, vp_cell_q, arrV_store]
  congr 2
  funext q
  by_cases hq : q = i.toNatClampNeg
  · subst hq
    simp [updV, z_fn, va_rf]
  · simp [updV, z_fn, hq]
end ZHP
