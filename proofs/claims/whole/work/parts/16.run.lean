/-! Whole methods of the plain machine: it runs, calls, returns, throws; and that the machine follows it. -/
/-- how a method ends: with an answer, or with the place of what it threw -/
abbrev z_O : Type := Option Value ⊕ Nat
def z_oc (ad : Nat → Nat) (o : z_O) : Outcome := match o with
  | .inl v => .returned (v.map (z_tr ad))
  | .inr a => .threw (ad a)
def z_tk (n : Nat) (st : List Value) : Option (List Value × List Value) := if n ≤ st.length then some ((st.take n).reverse, st.drop n) else none
theorem z_tk_i {n : Nat} {st as r : List Value} (h : z_tk n st = some (as, r)) : st = as.reverse ++ r ∧ as.length = n := by
  unfold z_tk at h
  split at h
  · cases h
    refine ⟨by rw [List.reverse_reverse, List.take_append_drop], ?_⟩
    rw [List.length_reverse, List.length_take]
    omega
  · cases h
/-- which handler takes an exception of class ci at pc: none that can be told, none, or one -/
def z_fh (nc : Nat → Nat → Bool) (pc ci : Nat) (hs : List (Nat × Nat × Nat × Nat)) (xs : List Nat) : Option (Option Nat) := match hs, xs with
  | [], _ => some none
  | q :: r, x :: ys => if q.1 ≤ pc ∧ pc < q.2.1 then (if x = ci then some (some q.2.2.1) else if nc ci x = true then (match z_fh nc pc ci r ys with
    | some (some h) => some (some h)
    | _ => none) else none) else z_fh nc pc ci r ys
  | _ :: _, [] => none
/-- a program: its instructions; of each method the locals, the answer's type, the handlers, the classes that they take, the receiver's class -/
abbrev z_Q : Type := (Nat → Nat → Option (Instr × Nat × List Nat)) × (Nat → Nat) × (Nat → Option FieldType) × (Nat → List (Nat × Nat × Nat × Nat)) × (Nat → List Nat) × (Nat → Nat)
def z_cls (K : Nat) (S : z_S) (a : Nat) : Option Nat := if K ≤ a then (match S.1[a - K]? with
  | some (.inr o) => some o.1
  | _ => none) else none
def z_wt (st : List Value) : Nat := (st.map fun v => v.category).sum
def z_ret (rt : Option FieldType) (i : Instr) (len : Nat) (st : List Value) : Option (Option Value) := match i with
  | .return_ => match rt, st with
    | none, [] => if len = 1 then some none else none
    | _, _ => none
  | .ireturn => match rt, st with
    | some ty, [.int v] => if len = 1 ∧ narrow ty (.int v) = .int v then some (some (.int v)) else none
    | _, _ => none
  | .areturn => match rt, st with
    | some (.object _), [.ref a] => if len = 1 then some (some (.ref a)) else none
    | some (.array _), [.ref a] => if len = 1 then some (some (.ref a)) else none
    | some (.object _), [.null] => if len = 1 then some (some .null) else none
    | some (.array _), [.null] => if len = 1 then some (some .null) else none
    | _, _ => none
  | _ => none
/-- where an invocation goes: the method, its arguments with the receiver, what stays on the stack -/
def z_inv (G : z_G) (P : z_Q) (i : Instr) (aux : List Nat) (st : List Value) (S : z_S) : Option (Nat × List Value × List Value) := match i, aux with
  | .invokestatic _, [0, mj, na, _] => match z_tk na st with
    | some (as, r) => some (mj, as, r)
    | none => none
  | .invokespecial _, [0, mj, na, _] => match z_tk na st with
    | some (as, .ref b :: r) => some (mj, .ref b :: as, r)
    | _ => none
  | .invokevirtual _, [0, mj, na, _] => match z_tk na st with
    | some (as, .ref b :: r) => if z_cls G.1.1 S b = some (P.2.2.2.2.2 mj) then some (mj, .ref b :: as, r) else none
    | _ => none
  | .invokevirtual _, [7, mj, na, _] => match z_tk na st with
    | some (as, .ref b :: r) => if (G.2.2.2.2.2.2.2.1 b 99).isSome = true then some (mj, .ref b :: as, r) else none
    | _ => none
  | _, _ => none
/-- what has no code of its own here -/
abbrev z_B : Type := Instr → Nat → List Nat → List (Nat × Value) → List Value → z_S → Option (List Value × z_S)
def z_ev (G : z_G) (P : z_Q) (B : z_B) (n : Nat) (f w mi pc : Nat) (lv : List (Nat × Value)) (st : List Value) (S : z_S) : Option (z_O × z_S) := match n with
  | 0 => none
  | n + 1 => match P.1 mi pc with
    | none => none
    | some (i, len, aux) => match z_ret (P.2.2.1 mi) i len st with
      | some v => some (.inl v, S)
      | none => match z_inv G P i aux st S with
        | some (mj, as, r) =>
          if (len = 3 ∧ 1 ≤ f ∧ 19 + P.2.1 mj ≤ w) ∧ (z_wt r ≤ 8 ∧ z_wt as ≤ P.2.1 mj) ∧ S.1.length ≤ G.1.2.2.1 ∧ S.2 ≤ G.1.2.2.2 then
            match z_ev G P B n (f - 1) (w - (19 + P.2.1 mj)) mj 0 (lv_args 0 as) [] S with
            | some (.inl v, S') => if S.1.length ≤ S'.1.length ∧ S.2 ≤ S'.2 then z_ev G P B n f w mi (pc + 3) lv (v.toList ++ r) S' else none
            | some (.inr a, S') => if S.1.length ≤ S'.1.length ∧ S.2 ≤ S'.2 then (match z_cls G.1.1 S' a with
              | some ci => match z_fh G.2.2.2.2.2.2.2.2 pc ci (P.2.2.2.1 mi) (P.2.2.2.2.1 mi) with
                | some none => some (.inr a, S')
                | some (some hp) => z_ev G P B n f w mi hp lv [.ref a] S'
                | none => none
              | none => none) else none
            | none => none
          else none
        | none => match i, aux with
          | .invokespecial _, [1, _] => match st with
            | .ref _ :: r => if len = 3 ∧ 1 ≤ f ∧ 20 ≤ w ∧ z_wt r ≤ 8 then z_ev G P B n f w mi (pc + 3) lv r S else none
            | _ => none
          | .new _, [9, ci, q] => if len = 3 ∧ 6 ≤ f ∧ 150 ≤ w ∧ z_wt st ≤ 8 ∧ S.1.length + 1 ≤ G.1.2.2.1 ∧ S.2 + 6 ≤ G.1.2.2.2 ∧ z_fh G.2.2.2.2.2.2.2.2 pc ci (P.2.2.2.1 mi) (P.2.2.2.2.1 mi) = some none then some (.inr (G.1.1 + S.1.length), (S.1 ++ [.inr (ci, [])], S.2 + 6)) else none
          | _, _ => match B i len aux lv st S with
            | some (st', S') => if S'.1.length = S.1.length ∧ S'.2 = S.2 ∧ 1 ≤ f ∧ 60 ≤ w then z_ev G P B n f w mi (pc + len) lv st' S' else none
            | none => match z_step G (P.2.1 mi) i len aux pc lv st S with
              | some (pc', lv', st', S') => z_ev G P B n f w mi pc' lv' st' S'
              | none => none
theorem z_args_tr (ad : Nat → Nat) : ∀ (vs : List Value) (k : Nat), lv_args k (vs.map (z_tr ad)) = z_trL ad (lv_args k vs) := by
  intro vs
  induction vs with
  | nil => intro k; rfl
  | cons v r ih =>
    intro k
    simp only [List.map_cons, lv_args, z_trL, z_tr_cat, List.map_cons]
    rw [ih]
    rfl
theorem z_sl_len (ad : Nat → Nat) (vs : List Value) : (lg_sl (vs.map (z_tr ad))).length = z_wt vs := by
  induction vs with
  | nil => rfl
  | cons v r ih =>
    have h1 : lg_sl ((v :: r).map (z_tr ad)) = (if (z_tr ad v).category = 2 then [Slot.val (z_tr ad v), .second] else [Slot.val (z_tr ad v)]) ++ lg_sl (r.map (z_tr ad)) := rfl
    have h2 : z_wt (v :: r) = v.category + z_wt r := rfl
    rw [h1, h2, List.length_append, ih, z_tr_cat]
    rcases lv_cat v with h | h <;> simp [h]
theorem z_wt_tr (ad : Nat → Nat) (vs : List Value) : ((vs.map (z_tr ad)).map fun v => v.category).sum = z_wt vs := by
  unfold z_wt
  rw [List.map_map]
  congr 1
  apply List.map_congr_left
  intro v _
  exact z_tr_cat ad v
