/-! A plain machine for the bytecode of this claim: values whose references are small numbers, locals as a list, a heap as a list. This part: the instructions that touch the frame alone. -/
def z_tr (ad : Nat → Nat) (v : Value) : Value := match v with
  | .ref i => .ref (ad i)
  | v => v
theorem z_tr_cat (ad : Nat → Nat) (v : Value) : (z_tr ad v).category = v.category := by cases v <;> rfl
def z_trL (ad : Nat → Nat) (lv : List (Nat × Value)) : List (Nat × Value) := lv.map (fun q => (q.1, z_tr ad q.2))
def z_lk (lv : List (Nat × Value)) (k : Nat) : Option Value := match lv with
  | [] => none
  | q :: r => if q.1 = k then some q.2 else z_lk r k
theorem z_lk_mem {lv : List (Nat × Value)} {k : Nat} {v : Value} (h : z_lk lv k = some v) : (k, v) ∈ lv := by
  induction lv with
  | nil => simp [z_lk] at h
  | cons q r ih =>
    unfold z_lk at h
    by_cases hq : q.1 = k
    · rw [if_pos hq] at h
      cases h
      rw [← hq]
      exact List.mem_cons_self
    · rw [if_neg hq] at h
      exact List.mem_cons_of_mem _ (ih h)
theorem z_lk_at {ad : Nat → Nat} {ls : Array Slot} {nL : Nat} {lv : List (Nat × Value)} (hl : lv_has ls nL (z_trL ad lv)) {k : Nat} {v : Value} (h : z_lk lv k = some v) : ls[k]? = some (.val (z_tr ad v)) :=
  hl.2.2 (k, z_tr ad v) (List.mem_map.mpr ⟨(k, v), z_lk_mem h, rfl⟩)
def z_st1 (lv : List (Nat × Value)) (i : Nat) (v : Value) : List (Nat × Value) := (i, v) :: lv.filter (fun q => !(q.1 == i) && !(q.1 + 1 == i && q.2.category == 2))
def z_st2 (lv : List (Nat × Value)) (i : Nat) (v : Value) : List (Nat × Value) := (i, v) :: lv.filter (fun q => !(q.1 == i) && (!(q.1 == i + 1) && !(q.1 + 1 == i && q.2.category == 2)))
theorem z_st1_tr (ad : Nat → Nat) (lv : List (Nat × Value)) (i : Nat) (v : Value) : (i, z_tr ad v) :: (z_trL ad lv).filter (fun q => !(q.1 == i) && !(q.1 + 1 == i && q.2.category == 2)) = z_trL ad (z_st1 lv i v) := by
  simp [z_trL, z_st1, List.filter_map, Function.comp_def, z_tr_cat]
theorem z_st2_tr (ad : Nat → Nat) (lv : List (Nat × Value)) (i : Nat) (v : Value) : (i, z_tr ad v) :: (z_trL ad lv).filter (fun q => !(q.1 == i) && (!(q.1 == i + 1) && !(q.1 + 1 == i && q.2.category == 2))) = z_trL ad (z_st2 lv i v) := by
  simp [z_trL, z_st2, List.filter_map, Function.comp_def, z_tr_cat]
abbrev z_T : Type := Nat × List (Nat × Value) × List Value
/-- one value pushed -/
def z_p0 (n len pc : Nat) (lv : List (Nat × Value)) (st : List Value) (v : Value) : Option z_T := if len = n then some (pc + n, lv, v :: st) else none
theorem z_p0_i {n len pc : Nat} {lv lv' : List (Nat × Value)} {st st' : List Value} {v : Value} {pc' : Nat} (h : z_p0 n len pc lv st v = some (pc', lv', st')) : len = n ∧ pc' = pc + n ∧ lv' = lv ∧ st' = v :: st := by
  unfold z_p0 at h
  split at h
  · cases h
    exact ⟨by assumption, rfl, rfl, rfl⟩
  · cases h
def z_ldI (n k len pc : Nat) (lv : List (Nat × Value)) (st : List Value) : Option z_T := match z_lk lv k with
  | some (.int x) => z_p0 n len pc lv st (.int x)
  | _ => none
theorem z_ldI_i {n k len pc : Nat} {lv lv' : List (Nat × Value)} {st st' : List Value} {pc' : Nat} (h : z_ldI n k len pc lv st = some (pc', lv', st')) : ∃ x, z_lk lv k = some (.int x) ∧ len = n ∧ pc' = pc + n ∧ lv' = lv ∧ st' = .int x :: st := by
  unfold z_ldI at h
  split at h
  · obtain ⟨a, b, c, d⟩ := z_p0_i h
    exact ⟨_, by assumption, a, b, c, d⟩
  · cases h
def z_ldL (n k len pc : Nat) (lv : List (Nat × Value)) (st : List Value) : Option z_T := match z_lk lv k with
  | some (.long x) => z_p0 n len pc lv st (.long x)
  | _ => none
theorem z_ldL_i {n k len pc : Nat} {lv lv' : List (Nat × Value)} {st st' : List Value} {pc' : Nat} (h : z_ldL n k len pc lv st = some (pc', lv', st')) : ∃ x, z_lk lv k = some (.long x) ∧ len = n ∧ pc' = pc + n ∧ lv' = lv ∧ st' = .long x :: st := by
  unfold z_ldL at h
  split at h
  · obtain ⟨a, b, c, d⟩ := z_p0_i h
    exact ⟨_, by assumption, a, b, c, d⟩
  · cases h
def z_ldA (n k len pc : Nat) (lv : List (Nat × Value)) (st : List Value) : Option z_T := match z_lk lv k with
  | some (.ref x) => z_p0 n len pc lv st (.ref x)
  | some .null => z_p0 n len pc lv st .null
  | _ => none
theorem z_ldA_i {n k len pc : Nat} {lv lv' : List (Nat × Value)} {st st' : List Value} {pc' : Nat} (h : z_ldA n k len pc lv st = some (pc', lv', st')) : (∃ x, z_lk lv k = some (.ref x) ∧ len = n ∧ pc' = pc + n ∧ lv' = lv ∧ st' = .ref x :: st) ∨ (z_lk lv k = some .null ∧ len = n ∧ pc' = pc + n ∧ lv' = lv ∧ st' = .null :: st) := by
  unfold z_ldA at h
  split at h
  · obtain ⟨a, b, c, d⟩ := z_p0_i h
    exact Or.inl ⟨_, by assumption, a, b, c, d⟩
  · obtain ⟨a, b, c, d⟩ := z_p0_i h
    exact Or.inr ⟨by assumption, a, b, c, d⟩
  · cases h
def z_sI (nL n k len pc : Nat) (lv : List (Nat × Value)) (st : List Value) : Option z_T := match st with
  | .int x :: r => if len = n ∧ k < nL then some (pc + n, z_st1 lv k (.int x), r) else none
  | _ => none
theorem z_sI_i {nL n k len pc : Nat} {lv lv' : List (Nat × Value)} {st st' : List Value} {pc' : Nat} (h : z_sI nL n k len pc lv st = some (pc', lv', st')) : ∃ x r, st = .int x :: r ∧ len = n ∧ k < nL ∧ pc' = pc + n ∧ lv' = z_st1 lv k (.int x) ∧ st' = r := by
  unfold z_sI at h
  split at h
  · split at h
    · rename_i hc
      cases h
      exact ⟨_, _, rfl, hc.1, hc.2, rfl, rfl, rfl⟩
    · cases h
  · cases h
def z_sL (nL n k len pc : Nat) (lv : List (Nat × Value)) (st : List Value) : Option z_T := match st with
  | .long x :: r => if len = n ∧ k + 1 < nL then some (pc + n, z_st2 lv k (.long x), r) else none
  | _ => none
theorem z_sL_i {nL n k len pc : Nat} {lv lv' : List (Nat × Value)} {st st' : List Value} {pc' : Nat} (h : z_sL nL n k len pc lv st = some (pc', lv', st')) : ∃ x r, st = .long x :: r ∧ len = n ∧ k + 1 < nL ∧ pc' = pc + n ∧ lv' = z_st2 lv k (.long x) ∧ st' = r := by
  unfold z_sL at h
  split at h
  · split at h
    · rename_i hc
      cases h
      exact ⟨_, _, rfl, hc.1, hc.2, rfl, rfl, rfl⟩
    · cases h
  · cases h
def z_sA (nL n k len pc : Nat) (lv : List (Nat × Value)) (st : List Value) : Option z_T := match st with
  | .ref x :: r => if len = n ∧ k < nL then some (pc + n, z_st1 lv k (.ref x), r) else none
  | .null :: r => if len = n ∧ k < nL then some (pc + n, z_st1 lv k .null, r) else none
  | _ => none
theorem z_sA_i {nL n k len pc : Nat} {lv lv' : List (Nat × Value)} {st st' : List Value} {pc' : Nat} (h : z_sA nL n k len pc lv st = some (pc', lv', st')) : (∃ x r, st = .ref x :: r ∧ len = n ∧ k < nL ∧ pc' = pc + n ∧ lv' = z_st1 lv k (.ref x) ∧ st' = r) ∨ (∃ r, st = .null :: r ∧ len = n ∧ k < nL ∧ pc' = pc + n ∧ lv' = z_st1 lv k .null ∧ st' = r) := by
  unfold z_sA at h
  split at h
  · split at h
    · rename_i hc
      cases h
      exact Or.inl ⟨_, _, rfl, hc.1, hc.2, rfl, rfl, rfl⟩
    · cases h
  · split at h
    · rename_i hc
      cases h
      exact Or.inr ⟨_, rfl, hc.1, hc.2, rfl, rfl, rfl⟩
    · cases h
  · cases h
def z_inc (nL k : Nat) (n : Int) (len pc : Nat) (lv : List (Nat × Value)) (st : List Value) : Option z_T := match z_lk lv k with
  | some (.int x) => if len = 3 ∧ k < nL then some (pc + 3, z_st1 lv k (.int (x + Int32.ofInt n)), st) else none
  | _ => none
theorem z_inc_i {nL k : Nat} {n : Int} {len pc : Nat} {lv lv' : List (Nat × Value)} {st st' : List Value} {pc' : Nat} (h : z_inc nL k n len pc lv st = some (pc', lv', st')) : ∃ x, z_lk lv k = some (.int x) ∧ len = 3 ∧ k < nL ∧ pc' = pc + 3 ∧ lv' = z_st1 lv k (.int (x + Int32.ofInt n)) ∧ st' = st := by
  unfold z_inc at h
  split at h
  · split at h
    · rename_i hc
      cases h
      exact ⟨_, by assumption, hc.1, hc.2, rfl, rfl, rfl⟩
    · cases h
  · cases h

def z_b2 (f : Int32 → Int32 → Int32) (len pc : Nat) (lv : List (Nat × Value)) (st : List Value) : Option z_T := match st with
  | .int y :: .int x :: r => if len = 1 then some (pc + 1, lv, .int (f x y) :: r) else none
  | _ => none
theorem z_b2_i {f : Int32 → Int32 → Int32} {len pc : Nat} {lv lv' : List (Nat × Value)} {st st' : List Value} {pc' : Nat} (h : z_b2 f len pc lv st = some (pc', lv', st')) : ∃ x y r, st = .int y :: .int x :: r ∧ (len = 1) ∧ pc' = pc + 1 ∧ lv' = lv ∧ st' = .int (f x y) :: r := by
  unfold z_b2 at h
  split at h
  · split at h
    · cases h
      exact ⟨_, _, _, rfl, by assumption, rfl, rfl, rfl⟩
    · cases h
  · cases h

def z_b2d (f : Int32 → Int32 → Int32) (len pc : Nat) (lv : List (Nat × Value)) (st : List Value) : Option z_T := match st with
  | .int y :: .int x :: r => if len = 1 ∧ ¬ y = 0 then some (pc + 1, lv, .int (f x y) :: r) else none
  | _ => none
theorem z_b2d_i {f : Int32 → Int32 → Int32} {len pc : Nat} {lv lv' : List (Nat × Value)} {st st' : List Value} {pc' : Nat} (h : z_b2d f len pc lv st = some (pc', lv', st')) : ∃ x y r, st = .int y :: .int x :: r ∧ (len = 1 ∧ ¬ y = 0) ∧ pc' = pc + 1 ∧ lv' = lv ∧ st' = .int (f x y) :: r := by
  unfold z_b2d at h
  split at h
  · split at h
    · cases h
      exact ⟨_, _, _, rfl, by assumption, rfl, rfl, rfl⟩
    · cases h
  · cases h

def z_l2 (f : Int64 → Int64 → Int64) (len pc : Nat) (lv : List (Nat × Value)) (st : List Value) : Option z_T := match st with
  | .long y :: .long x :: r => if len = 1 then some (pc + 1, lv, .long (f x y) :: r) else none
  | _ => none
theorem z_l2_i {f : Int64 → Int64 → Int64} {len pc : Nat} {lv lv' : List (Nat × Value)} {st st' : List Value} {pc' : Nat} (h : z_l2 f len pc lv st = some (pc', lv', st')) : ∃ x y r, st = .long y :: .long x :: r ∧ (len = 1) ∧ pc' = pc + 1 ∧ lv' = lv ∧ st' = .long (f x y) :: r := by
  unfold z_l2 at h
  split at h
  · split at h
    · cases h
      exact ⟨_, _, _, rfl, by assumption, rfl, rfl, rfl⟩
    · cases h
  · cases h

def z_lc (f : Int64 → Int64 → Int32) (len pc : Nat) (lv : List (Nat × Value)) (st : List Value) : Option z_T := match st with
  | .long y :: .long x :: r => if len = 1 then some (pc + 1, lv, .int (f x y) :: r) else none
  | _ => none
theorem z_lc_i {f : Int64 → Int64 → Int32} {len pc : Nat} {lv lv' : List (Nat × Value)} {st st' : List Value} {pc' : Nat} (h : z_lc f len pc lv st = some (pc', lv', st')) : ∃ x y r, st = .long y :: .long x :: r ∧ (len = 1) ∧ pc' = pc + 1 ∧ lv' = lv ∧ st' = .int (f x y) :: r := by
  unfold z_lc at h
  split at h
  · split at h
    · cases h
      exact ⟨_, _, _, rfl, by assumption, rfl, rfl, rfl⟩
    · cases h
  · cases h

def z_uII (f : Int32 → Int32) (len pc : Nat) (lv : List (Nat × Value)) (st : List Value) : Option z_T := match st with
  | .int x :: r => if len = 1 then some (pc + 1, lv, .int (f x) :: r) else none
  | _ => none
theorem z_uII_i {f : Int32 → Int32} {len pc : Nat} {lv lv' : List (Nat × Value)} {st st' : List Value} {pc' : Nat} (h : z_uII f len pc lv st = some (pc', lv', st')) : ∃ x r, st = .int x :: r ∧ len = 1 ∧ pc' = pc + 1 ∧ lv' = lv ∧ st' = .int (f x) :: r := by
  unfold z_uII at h
  split at h
  · split at h
    · cases h
      exact ⟨_, _, rfl, by assumption, rfl, rfl, rfl⟩
    · cases h
  · cases h

def z_uIL (f : Int32 → Int64) (len pc : Nat) (lv : List (Nat × Value)) (st : List Value) : Option z_T := match st with
  | .int x :: r => if len = 1 then some (pc + 1, lv, .long (f x) :: r) else none
  | _ => none
theorem z_uIL_i {f : Int32 → Int64} {len pc : Nat} {lv lv' : List (Nat × Value)} {st st' : List Value} {pc' : Nat} (h : z_uIL f len pc lv st = some (pc', lv', st')) : ∃ x r, st = .int x :: r ∧ len = 1 ∧ pc' = pc + 1 ∧ lv' = lv ∧ st' = .long (f x) :: r := by
  unfold z_uIL at h
  split at h
  · split at h
    · cases h
      exact ⟨_, _, rfl, by assumption, rfl, rfl, rfl⟩
    · cases h
  · cases h

def z_uLI (f : Int64 → Int32) (len pc : Nat) (lv : List (Nat × Value)) (st : List Value) : Option z_T := match st with
  | .long x :: r => if len = 1 then some (pc + 1, lv, .int (f x) :: r) else none
  | _ => none
theorem z_uLI_i {f : Int64 → Int32} {len pc : Nat} {lv lv' : List (Nat × Value)} {st st' : List Value} {pc' : Nat} (h : z_uLI f len pc lv st = some (pc', lv', st')) : ∃ x r, st = .long x :: r ∧ len = 1 ∧ pc' = pc + 1 ∧ lv' = lv ∧ st' = .int (f x) :: r := by
  unfold z_uLI at h
  split at h
  · split at h
    · cases h
      exact ⟨_, _, rfl, by assumption, rfl, rfl, rfl⟩
    · cases h
  · cases h

def z_lsh (f : Int64 → Int32 → Int64) (len pc : Nat) (lv : List (Nat × Value)) (st : List Value) : Option z_T := match st with
  | .int y :: .long x :: r => if len = 1 then some (pc + 1, lv, .long (f x y) :: r) else none
  | _ => none
theorem z_lsh_i {f : Int64 → Int32 → Int64} {len pc : Nat} {lv lv' : List (Nat × Value)} {st st' : List Value} {pc' : Nat} (h : z_lsh f len pc lv st = some (pc', lv', st')) : ∃ x y r, st = .int y :: .long x :: r ∧ len = 1 ∧ pc' = pc + 1 ∧ lv' = lv ∧ st' = .long (f x y) :: r := by
  unfold z_lsh at h
  split at h
  · split at h
    · cases h
      exact ⟨_, _, _, rfl, by assumption, rfl, rfl, rfl⟩
    · cases h
  · cases h
/-- stack shuffles -/
def z_dup (len pc : Nat) (lv : List (Nat × Value)) (st : List Value) : Option z_T := match st with
  | a :: r => if len = 1 ∧ a.category = 1 then some (pc + 1, lv, a :: a :: r) else none
  | _ => none
theorem z_dup_i {len pc : Nat} {lv lv' : List (Nat × Value)} {st st' : List Value} {pc' : Nat} (h : z_dup len pc lv st = some (pc', lv', st')) : ∃ a r, st = a :: r ∧ (len = 1 ∧ a.category = 1) ∧ pc' = pc + 1 ∧ lv' = lv ∧ st' = a :: a :: r := by
  unfold z_dup at h
  split at h
  · split at h
    · cases h
      exact ⟨_, _, rfl, by assumption, rfl, rfl, rfl⟩
    · cases h
  · cases h
def z_pop (len pc : Nat) (lv : List (Nat × Value)) (st : List Value) : Option z_T := match st with
  | a :: r => if len = 1 ∧ a.category = 1 then some (pc + 1, lv, r) else none
  | _ => none
theorem z_pop_i {len pc : Nat} {lv lv' : List (Nat × Value)} {st st' : List Value} {pc' : Nat} (h : z_pop len pc lv st = some (pc', lv', st')) : ∃ a r, st = a :: r ∧ (len = 1 ∧ a.category = 1) ∧ pc' = pc + 1 ∧ lv' = lv ∧ st' = r := by
  unfold z_pop at h
  split at h
  · split at h
    · cases h
      exact ⟨_, _, rfl, by assumption, rfl, rfl, rfl⟩
    · cases h
  · cases h
def z_dx1 (len pc : Nat) (lv : List (Nat × Value)) (st : List Value) : Option z_T := match st with
  | a :: b :: r => if len = 1 ∧ a.category = 1 ∧ b.category = 1 then some (pc + 1, lv, a :: b :: a :: r) else none
  | _ => none
theorem z_dx1_i {len pc : Nat} {lv lv' : List (Nat × Value)} {st st' : List Value} {pc' : Nat} (h : z_dx1 len pc lv st = some (pc', lv', st')) : ∃ a b r, st = a :: b :: r ∧ (len = 1 ∧ a.category = 1 ∧ b.category = 1) ∧ pc' = pc + 1 ∧ lv' = lv ∧ st' = a :: b :: a :: r := by
  unfold z_dx1 at h
  split at h
  · split at h
    · cases h
      exact ⟨_, _, _, rfl, by assumption, rfl, rfl, rfl⟩
    · cases h
  · cases h
def z_dx2 (len pc : Nat) (lv : List (Nat × Value)) (st : List Value) : Option z_T := match st with
  | a :: b :: d :: r => if len = 1 ∧ a.category = 1 ∧ b.category = 1 ∧ d.category = 1 then some (pc + 1, lv, a :: b :: d :: a :: r) else none
  | _ => none
theorem z_dx2_i {len pc : Nat} {lv lv' : List (Nat × Value)} {st st' : List Value} {pc' : Nat} (h : z_dx2 len pc lv st = some (pc', lv', st')) : ∃ a b d r, st = a :: b :: d :: r ∧ (len = 1 ∧ a.category = 1 ∧ b.category = 1 ∧ d.category = 1) ∧ pc' = pc + 1 ∧ lv' = lv ∧ st' = a :: b :: d :: a :: r := by
  unfold z_dx2 at h
  split at h
  · split at h
    · cases h
      exact ⟨_, _, _, _, rfl, by assumption, rfl, rfl, rfl⟩
    · cases h
  · cases h
def z_d2 (len pc : Nat) (lv : List (Nat × Value)) (st : List Value) : Option z_T := match st with
  | a :: b :: r => if len = 1 ∧ a.category = 1 ∧ b.category = 1 then some (pc + 1, lv, a :: b :: a :: b :: r) else none
  | _ => none
theorem z_d2_i {len pc : Nat} {lv lv' : List (Nat × Value)} {st st' : List Value} {pc' : Nat} (h : z_d2 len pc lv st = some (pc', lv', st')) : ∃ a b r, st = a :: b :: r ∧ (len = 1 ∧ a.category = 1 ∧ b.category = 1) ∧ pc' = pc + 1 ∧ lv' = lv ∧ st' = a :: b :: a :: b :: r := by
  unfold z_d2 at h
  split at h
  · split at h
    · cases h
      exact ⟨_, _, _, rfl, by assumption, rfl, rfl, rfl⟩
    · cases h
  · cases h
/-- branches: the target stands in aux -/
def z_if (f : Int32 → Bool) (aux : List Nat) (len pc : Nat) (lv : List (Nat × Value)) (st : List Value) : Option z_T := match aux, st with
  | [t], .int x :: r => if len = 3 then some (if f x then t else pc + 3, lv, r) else none
  | _, _ => none
theorem z_if_i {f : Int32 → Bool} {aux : List Nat} {len pc : Nat} {lv lv' : List (Nat × Value)} {st st' : List Value} {pc' : Nat} (h : z_if f aux len pc lv st = some (pc', lv', st')) : ∃ t x r, aux = [t] ∧ st = .int x :: r ∧ len = 3 ∧ pc' = (if f x then t else pc + 3) ∧ lv' = lv ∧ st' = r := by
  unfold z_if at h
  split at h
  · split at h
    · cases h
      exact ⟨_, _, _, rfl, rfl, by assumption, rfl, rfl, rfl⟩
    · cases h
  · cases h
def z_ic (f : Int32 → Int32 → Bool) (aux : List Nat) (len pc : Nat) (lv : List (Nat × Value)) (st : List Value) : Option z_T := match aux, st with
  | [t], .int y :: .int x :: r => if len = 3 then some (if f x y then t else pc + 3, lv, r) else none
  | _, _ => none
theorem z_ic_i {f : Int32 → Int32 → Bool} {aux : List Nat} {len pc : Nat} {lv lv' : List (Nat × Value)} {st st' : List Value} {pc' : Nat} (h : z_ic f aux len pc lv st = some (pc', lv', st')) : ∃ t x y r, aux = [t] ∧ st = .int y :: .int x :: r ∧ len = 3 ∧ pc' = (if f x y then t else pc + 3) ∧ lv' = lv ∧ st' = r := by
  unfold z_ic at h
  split at h
  · split at h
    · cases h
      exact ⟨_, _, _, _, rfl, rfl, by assumption, rfl, rfl, rfl⟩
    · cases h
  · cases h
def z_rO (v : Value) : Option (Option Nat) := match v with
  | .ref i => some (some i)
  | .null => some none
  | _ => none
theorem z_rO_i {ad : Nat → Nat} {v : Value} {r : Option Nat} (h : z_rO v = some r) : z_tr ad v = va_rf (r.map ad) := by
  cases v <;> simp [z_rO] at h <;> subst h <;> rfl
/-- references that may be compared: the constants below nW, and what the program made -/
def z_cb (K nW : Nat) (r : Option Nat) : Bool := match r with
  | some i => decide (i < nW) || decide (K ≤ i)
  | none => true
def z_ac (K nW : Nat) (eq : Bool) (aux : List Nat) (len pc : Nat) (lv : List (Nat × Value)) (st : List Value) : Option z_T := match aux, st with
  | [t], vy :: vx :: r => match z_rO vy, z_rO vx with
    | some ry, some rx => if len = 3 ∧ z_cb K nW ry = true ∧ z_cb K nW rx = true then some (if (decide (rx = ry)) = eq then t else pc + 3, lv, r) else none
    | _, _ => none
  | _, _ => none
theorem z_ac_i {K nW : Nat} {eq : Bool} {aux : List Nat} {len pc : Nat} {lv lv' : List (Nat × Value)} {st st' : List Value} {pc' : Nat} (h : z_ac K nW eq aux len pc lv st = some (pc', lv', st')) : ∃ t vx vy rx ry r, aux = [t] ∧ st = vy :: vx :: r ∧ z_rO vy = some ry ∧ z_rO vx = some rx ∧ (len = 3 ∧ z_cb K nW ry = true ∧ z_cb K nW rx = true) ∧ pc' = (if (decide (rx = ry)) = eq then t else pc + 3) ∧ lv' = lv ∧ st' = r := by
  unfold z_ac at h
  split at h
  · split at h
    · split at h
      · cases h
        exact ⟨_, _, _, _, _, _, rfl, rfl, by assumption, by assumption, by assumption, rfl, rfl, rfl⟩
      · cases h
    · cases h
  · cases h
theorem z_cb_inj {K nW sz : Nat} {ad : Nat → Nat} (had : ∀ i, ad (K + i) = sz + i) (hlo : ∀ i, i < nW → ad i < sz) (hinj : ∀ i j, i < nW → j < nW → ad i = ad j → i = j) {rx ry : Option Nat} (hx : z_cb K nW rx = true) (hy : z_cb K nW ry = true) : rx.map ad = ry.map ad ↔ rx = ry := by
  constructor
  · intro h
    cases rx with
    | none => cases ry with
      | none => rfl
      | some j => cases h
    | some i => cases ry with
      | none => cases h
      | some j =>
        have e : ad i = ad j := Option.some.inj h
        simp only [z_cb, Bool.or_eq_true, decide_eq_true_eq] at hx hy
        rcases hx with hx | hx <;> rcases hy with hy | hy
        · rw [hinj i j hx hy e]
        · have h1 := hlo i hx
          have h2 := had (j - K)
          rw [show K + (j - K) = j by omega] at h2
          omega
        · have h1 := hlo j hy
          have h2 := had (i - K)
          rw [show K + (i - K) = i by omega] at h2
          omega
        · have h1 := had (i - K)
          have h2 := had (j - K)
          rw [show K + (i - K) = i by omega] at h1
          rw [show K + (j - K) = j by omega] at h2
          have : i = j := by omega
          rw [this]
  · intro h
    rw [h]
def z_tab (lo hi : Int) (aux : List Nat) (pc : Nat) (lv : List (Nat × Value)) (st : List Value) : Option z_T := match aux, st with
  | d :: ts, .int x :: r => if x.toInt < lo ∨ hi < x.toInt then some (d, lv, r) else match ts[(x.toInt - lo).toNat]? with
    | some t => some (t, lv, r)
    | none => none
  | _, _ => none
/-- what the program's text must say of targets -/
def z_okF (i : Instr) (aux : List Nat) (pc : Nat) : Bool := match i, aux with
  | .ifCond _ off, [t] => decide ((pc : Int) + off = (t : Int))
  | .if_icmp _ off, [t] => decide ((pc : Int) + off = (t : Int))
  | .if_acmp _ off, [t] => decide ((pc : Int) + off = (t : Int))
  | .ifnull off, [t] => decide ((pc : Int) + off = (t : Int))
  | .ifnonnull off, [t] => decide ((pc : Int) + off = (t : Int))
  | .goto off, [t] => decide ((pc : Int) + off = (t : Int))
  | .tableswitch d _ _ offs, t :: ts => decide ((pc : Int) + d = (t : Int)) && decide (offs.toList.map (fun o => (pc : Int) + o) = ts.map (fun (u : Nat) => (u : Int)))
  | _, _ => true
def z_goto (aux : List Nat) (len : Nat) (lv : List (Nat × Value)) (st : List Value) : Option z_T := match aux with
  | [t] => if len = 3 then some (t, lv, st) else none
  | _ => none
theorem z_goto_i {aux : List Nat} {len : Nat} {lv lv' : List (Nat × Value)} {st st' : List Value} {pc' : Nat} (h : z_goto aux len lv st = some (pc', lv', st')) : ∃ t, aux = [t] ∧ len = 3 ∧ pc' = t ∧ lv' = lv ∧ st' = st := by
  unfold z_goto at h
  split at h
  · split at h
    · cases h
      exact ⟨_, rfl, by assumption, rfl, rfl, rfl⟩
    · cases h
  · cases h
def z_nul (isn : Bool) (aux : List Nat) (len pc : Nat) (lv : List (Nat × Value)) (st : List Value) : Option z_T := match aux, st with
  | [t], .ref _ :: r => if len = 3 then some (if isn then pc + 3 else t, lv, r) else none
  | [t], .null :: r => if len = 3 then some (if isn then t else pc + 3, lv, r) else none
  | _, _ => none

def z_f0 (c : ClassFile.Cond) (x : Int32) : Bool := match c with
  | .eq => decide (x = 0)
  | .ne => decide (¬ x = 0)
  | .lt => decide (x < 0)
  | .ge => decide (0 ≤ x)
  | .gt => decide (0 < x)
  | .le => decide (x ≤ 0)
def z_f2 (c : ClassFile.Cond) (x y : Int32) : Bool := match c with
  | .eq => decide (x = y)
  | .ne => decide (¬ x = y)
  | .lt => decide (x < y)
  | .ge => decide (y ≤ x)
  | .gt => decide (y < x)
  | .le => decide (x ≤ y)

def z_fr (K nW nL : Nat) (i : Instr) (len : Nat) (aux : List Nat) (pc : Nat) (lv : List (Nat × Value)) (st : List Value) : Option z_T := match i with
  | .iconst n => z_p0 1 len pc lv st (.int (Int32.ofInt n))
  | .bipush n => z_p0 2 len pc lv st (.int (Int8.ofInt n).toInt32)
  | .sipush n => z_p0 3 len pc lv st (.int (Int16.ofInt n).toInt32)
  | .lconst n => z_p0 1 len pc lv st (.long (Int64.ofNat (n : Nat)))
  | .aconst_null => z_p0 1 len pc lv st .null
  | .iload_n k => z_ldI 1 (k : Nat) len pc lv st
  | .iload k => z_ldI 2 k len pc lv st
  | .lload_n k => z_ldL 1 (k : Nat) len pc lv st
  | .lload k => z_ldL 2 k len pc lv st
  | .aload_n k => z_ldA 1 (k : Nat) len pc lv st
  | .aload k => z_ldA 2 k len pc lv st
  | .istore_n k => z_sI nL 1 (k : Nat) len pc lv st
  | .istore k => z_sI nL 2 k len pc lv st
  | .lstore_n k => z_sL nL 1 (k : Nat) len pc lv st
  | .lstore k => z_sL nL 2 k len pc lv st
  | .astore_n k => z_sA nL 1 (k : Nat) len pc lv st
  | .astore k => z_sA nL 2 k len pc lv st
  | .iinc k n => z_inc nL k n len pc lv st
  | .iadd => z_b2 (fun x y => x + y) len pc lv st
  | .isub => z_b2 (fun x y => x - y) len pc lv st
  | .imul => z_b2 (fun x y => x * y) len pc lv st
  | .iand => z_b2 (fun x y => x &&& y) len pc lv st
  | .ior => z_b2 (fun x y => x ||| y) len pc lv st
  | .ixor => z_b2 (fun x y => x ^^^ y) len pc lv st
  | .ishl => z_b2 (fun x y => x <<< (y &&& 31)) len pc lv st
  | .ishr => z_b2 (fun x y => x >>> (y &&& 31)) len pc lv st
  | .iushr => z_b2 (fun x y => (x.toUInt32 >>> (y.toUInt32 &&& Int32.toUInt32 31)).toInt32) len pc lv st
  | .idiv => z_b2d (fun x y => x / y) len pc lv st
  | .irem => z_b2d (fun x y => x - x / y * y) len pc lv st
  | .ineg => z_uII (fun x => -x) len pc lv st
  | .ladd => z_l2 (fun x y => x + y) len pc lv st
  | .lsub => z_l2 (fun x y => x - y) len pc lv st
  | .land => z_l2 (fun x y => x &&& y) len pc lv st
  | .lor => z_l2 (fun x y => x ||| y) len pc lv st
  | .lcmp => z_lc lg_cmp len pc lv st
  | .lshl => z_lsh (fun x y => x <<< (y.toInt64 &&& 63)) len pc lv st
  | .lshr => z_lsh (fun x y => x >>> (y.toInt64 &&& 63)) len pc lv st
  | .i2l => z_uIL (fun x => x.toInt64) len pc lv st
  | .i2b => z_uII (fun x => x.toInt8.toInt32) len pc lv st
  | .i2c => z_uII (fun x => (x.toUInt32 % 65536).toInt32) len pc lv st
  | .l2i => z_uLI (fun x => x.toInt32) len pc lv st
  | .dup => z_dup len pc lv st
  | .pop => z_pop len pc lv st
  | .dup_x1 => z_dx1 len pc lv st
  | .dup_x2 => z_dx2 len pc lv st
  | .dup2 => z_d2 len pc lv st
  | .ifCond cd off => z_if (z_f0 cd) aux len pc lv st
  | .if_icmp cd off => z_ic (z_f2 cd) aux len pc lv st
  | .if_acmp cd off => z_ac K nW (match cd with | .eq => true | .ne => false) aux len pc lv st
  | .goto off => z_goto aux len lv st
  | .ifnull off => z_nul true aux len pc lv st
  | .ifnonnull off => z_nul false aux len pc lv st
  | .tableswitch d lo hi offs => z_tab lo hi aux pc lv st
  | _ => none
section ZFR
variable {p : Program} {l : Launch} {e : Env} {R : Room} {s : State} {m : MethodId} {args : Array Value} {below : List Frame} {meth : Method} {c : Code} {H : Heap} {locs : List Loc} {cells slots : Nat} {Q : State → Prop}
variable {cc : ByteArray} {ls : Array Slot} {ad : Nat → Nat}
set_option maxHeartbeats 4000000 in
set_option maxRecDepth 20000 in
theorem z_fr_ok {K nW sz nL : Nat} (had : ∀ i, ad (K + i) = sz + i) (hlo : ∀ i, i < nW → ad i < sz) (hinj : ∀ i j, i < nW → j < nW → ad i = ad j → i = j)
    (hx : p.tables.exec = Jvm.exec) (hb : c.code = cc) {i : Instr} {len : Nat} {aux : List Nat} {pc pc' : Nat} {lv lv' : List (Nat × Value)} {st st' : List Value} (hdg : decode cc pc = .ok (i, len)) (hok : z_okF i aux pc = true)
    (hl : lv_has ls nL (z_trL ad lv)) (h : z_fr K nW nL i len aux pc lv st = some (pc', lv', st'))
    (kk : ∀ ls' : Array Slot, lv_has ls' nL (z_trL ad lv') → W p l e R s m args below meth c H locs cells slots Q (F0 m pc' ls' (st'.map (z_tr ad)))) : W p l e R s m args below meth c H locs cells slots Q (F0 m pc ls (st.map (z_tr ad))) := by
  cases i with
  | iconst n =>
    simp only [z_fr] at h
    obtain ⟨rfl, rfl, rfl, rfl⟩ := z_p0_i h
    exact lv_iconst hx hb hdg rfl (kk ls hl)
  | bipush n =>
    simp only [z_fr] at h
    obtain ⟨rfl, rfl, rfl, rfl⟩ := z_p0_i h
    exact lv_bipush hx hb hdg rfl (kk ls hl)
  | sipush n =>
    simp only [z_fr] at h
    obtain ⟨rfl, rfl, rfl, rfl⟩ := z_p0_i h
    exact lv_sipush hx hb hdg rfl (kk ls hl)
  | lconst n =>
    simp only [z_fr] at h
    obtain ⟨rfl, rfl, rfl, rfl⟩ := z_p0_i h
    exact lv_lconst hx hb hdg rfl (kk ls hl)
  | aconst_null =>
    simp only [z_fr] at h
    obtain ⟨rfl, rfl, rfl, rfl⟩ := z_p0_i h
    exact lv_null hx hb hdg (kk ls hl)
  | iload_n k =>
    simp only [z_fr] at h
    obtain ⟨x, hk, rfl, rfl, rfl, rfl⟩ := z_ldI_i h
    exact lv_iload_n hx hb hdg rfl (z_lk_at hl hk) (kk ls hl)
  | iload k =>
    simp only [z_fr] at h
    obtain ⟨x, hk, rfl, rfl, rfl, rfl⟩ := z_ldI_i h
    exact lv_iload hx hb hdg (z_lk_at hl hk) (kk ls hl)
  | lload_n k =>
    simp only [z_fr] at h
    obtain ⟨x, hk, rfl, rfl, rfl, rfl⟩ := z_ldL_i h
    exact lv_lload_n hx hb hdg rfl (z_lk_at hl hk) (kk ls hl)
  | lload k =>
    simp only [z_fr] at h
    obtain ⟨x, hk, rfl, rfl, rfl, rfl⟩ := z_ldL_i h
    exact lv_lload hx hb hdg (z_lk_at hl hk) (kk ls hl)
  | aload_n k =>
    simp only [z_fr] at h
    rcases z_ldA_i h with ⟨x, hk, rfl, rfl, rfl, rfl⟩ | ⟨hk, rfl, rfl, rfl, rfl⟩
    · exact lv_aload_n hx hb hdg rfl (z_lk_at hl hk) (kk ls hl)
    · exact lv_aload_nN hx hb hdg rfl (z_lk_at hl hk) (kk ls hl)
  | aload k =>
    simp only [z_fr] at h
    rcases z_ldA_i h with ⟨x, hk, rfl, rfl, rfl, rfl⟩ | ⟨hk, rfl, rfl, rfl, rfl⟩
    · exact lv_aload hx hb hdg (z_lk_at hl hk) (kk ls hl)
    · exact lv_aloadN hx hb hdg (z_lk_at hl hk) (kk ls hl)
  | istore_n k =>
    simp only [z_fr] at h
    obtain ⟨x, r, rfl, rfl, hn, rfl, rfl, rfl⟩ := z_sI_i h
    exact lv_istore_n hx hb hdg rfl hl hn (z_st1_tr ad lv _ (.int x)) (fun ls' hl' => kk ls' hl')
  | istore k =>
    simp only [z_fr] at h
    obtain ⟨x, r, rfl, rfl, hn, rfl, rfl, rfl⟩ := z_sI_i h
    exact lv_istore hx hb hdg hl hn (z_st1_tr ad lv _ (.int x)) (fun ls' hl' => kk ls' hl')
  | lstore_n k =>
    simp only [z_fr] at h
    obtain ⟨x, r, rfl, rfl, hn, rfl, rfl, rfl⟩ := z_sL_i h
    exact lv_lstore_n hx hb hdg rfl hl hn (z_st2_tr ad lv _ (.long x)) (fun ls' hl' => kk ls' hl')
  | lstore k =>
    simp only [z_fr] at h
    obtain ⟨x, r, rfl, rfl, hn, rfl, rfl, rfl⟩ := z_sL_i h
    exact lv_lstore hx hb hdg hl hn (z_st2_tr ad lv _ (.long x)) (fun ls' hl' => kk ls' hl')
  | astore_n k =>
    simp only [z_fr] at h
    rcases z_sA_i h with ⟨x, r, rfl, rfl, hn, rfl, rfl, rfl⟩ | ⟨r, rfl, rfl, hn, rfl, rfl, rfl⟩
    · exact lv_astore_n hx hb hdg rfl hl hn (z_st1_tr ad lv _ (.ref x)) (fun ls' hl' => kk ls' hl')
    · exact lv_astore_nN hx hb hdg rfl hl hn (z_st1_tr ad lv _ .null) (fun ls' hl' => kk ls' hl')
  | astore k =>
    simp only [z_fr] at h
    rcases z_sA_i h with ⟨x, r, rfl, rfl, hn, rfl, rfl, rfl⟩ | ⟨r, rfl, rfl, hn, rfl, rfl, rfl⟩
    · exact lv_astore hx hb hdg hl hn (z_st1_tr ad lv _ (.ref x)) (fun ls' hl' => kk ls' hl')
    · exact lv_astoreN hx hb hdg hl hn (z_st1_tr ad lv _ .null) (fun ls' hl' => kk ls' hl')
  | iinc k n =>
    simp only [z_fr] at h
    obtain ⟨x, hk, rfl, hn, rfl, rfl, rfl⟩ := z_inc_i h
    obtain ⟨j, hj⟩ := List.getElem?_of_mem (List.mem_map.mpr ⟨(k, Value.int x), z_lk_mem hk, rfl⟩ : (k, z_tr ad (.int x)) ∈ z_trL ad lv)
    exact lv_iinc hx hb hdg hl hj rfl hn (z_st1_tr ad lv _ (.int (x + Int32.ofInt n))) (fun ls' hl' => kk ls' hl')
  | iadd =>
    simp only [z_fr] at h
    obtain ⟨x, y, r, rfl, rfl, rfl, rfl, rfl⟩ := z_b2_i h
    exact lv_iadd hx hb hdg (kk ls hl)
  | isub =>
    simp only [z_fr] at h
    obtain ⟨x, y, r, rfl, rfl, rfl, rfl, rfl⟩ := z_b2_i h
    exact lv_isub hx hb hdg (kk ls hl)
  | imul =>
    simp only [z_fr] at h
    obtain ⟨x, y, r, rfl, rfl, rfl, rfl, rfl⟩ := z_b2_i h
    exact lv_imul hx hb hdg (kk ls hl)
  | iand =>
    simp only [z_fr] at h
    obtain ⟨x, y, r, rfl, rfl, rfl, rfl, rfl⟩ := z_b2_i h
    exact lv_iand hx hb hdg (kk ls hl)
  | ior =>
    simp only [z_fr] at h
    obtain ⟨x, y, r, rfl, rfl, rfl, rfl, rfl⟩ := z_b2_i h
    exact lv_ior hx hb hdg (kk ls hl)
  | ixor =>
    simp only [z_fr] at h
    obtain ⟨x, y, r, rfl, rfl, rfl, rfl, rfl⟩ := z_b2_i h
    exact lv_ixor hx hb hdg (kk ls hl)
  | ishl =>
    simp only [z_fr] at h
    obtain ⟨x, y, r, rfl, rfl, rfl, rfl, rfl⟩ := z_b2_i h
    exact lv_ishl hx hb hdg (kk ls hl)
  | ishr =>
    simp only [z_fr] at h
    obtain ⟨x, y, r, rfl, rfl, rfl, rfl, rfl⟩ := z_b2_i h
    exact lv_ishr hx hb hdg (kk ls hl)
  | iushr =>
    simp only [z_fr] at h
    obtain ⟨x, y, r, rfl, rfl, rfl, rfl, rfl⟩ := z_b2_i h
    exact lv_iushr hx hb hdg rfl (kk ls hl)
  | idiv =>
    simp only [z_fr] at h
    obtain ⟨x, y, r, rfl, ⟨rfl, hne⟩, rfl, rfl, rfl⟩ := z_b2d_i h
    exact lv_idiv hx hb hdg hne (kk ls hl)
  | irem =>
    simp only [z_fr] at h
    obtain ⟨x, y, r, rfl, ⟨rfl, hne⟩, rfl, rfl, rfl⟩ := z_b2d_i h
    exact lv_irem hx hb hdg hne (kk ls hl)
  | ineg =>
    simp only [z_fr] at h
    obtain ⟨x, r, rfl, rfl, rfl, rfl, rfl⟩ := z_uII_i h
    exact lv_ineg hx hb hdg (kk ls hl)
  | ladd =>
    simp only [z_fr] at h
    obtain ⟨x, y, r, rfl, rfl, rfl, rfl, rfl⟩ := z_l2_i h
    exact lv_ladd hx hb hdg (kk ls hl)
  | lsub =>
    simp only [z_fr] at h
    obtain ⟨x, y, r, rfl, rfl, rfl, rfl, rfl⟩ := z_l2_i h
    exact lv_lsub hx hb hdg (kk ls hl)
  | land =>
    simp only [z_fr] at h
    obtain ⟨x, y, r, rfl, rfl, rfl, rfl, rfl⟩ := z_l2_i h
    exact lv_land hx hb hdg (kk ls hl)
  | lor =>
    simp only [z_fr] at h
    obtain ⟨x, y, r, rfl, rfl, rfl, rfl, rfl⟩ := z_l2_i h
    exact lv_lor hx hb hdg (kk ls hl)
  | lcmp =>
    simp only [z_fr] at h
    obtain ⟨x, y, r, rfl, rfl, rfl, rfl, rfl⟩ := z_lc_i h
    exact W.lcmp hx hb hdg (kk ls hl)
  | lshl =>
    simp only [z_fr] at h
    obtain ⟨x, y, r, rfl, rfl, rfl, rfl, rfl⟩ := z_lsh_i h
    exact lv_lshl hx hb hdg rfl (kk ls hl)
  | lshr =>
    simp only [z_fr] at h
    obtain ⟨x, y, r, rfl, rfl, rfl, rfl, rfl⟩ := z_lsh_i h
    exact lv_lshr hx hb hdg rfl (kk ls hl)
  | i2l =>
    simp only [z_fr] at h
    obtain ⟨x, r, rfl, rfl, rfl, rfl, rfl⟩ := z_uIL_i h
    exact lv_i2l hx hb hdg rfl (kk ls hl)
  | i2b =>
    simp only [z_fr] at h
    obtain ⟨x, r, rfl, rfl, rfl, rfl, rfl⟩ := z_uII_i h
    exact lv_i2b hx hb hdg rfl (kk ls hl)
  | i2c =>
    simp only [z_fr] at h
    obtain ⟨x, r, rfl, rfl, rfl, rfl, rfl⟩ := z_uII_i h
    exact lv_i2c hx hb hdg rfl (kk ls hl)
  | l2i =>
    simp only [z_fr] at h
    obtain ⟨x, r, rfl, rfl, rfl, rfl, rfl⟩ := z_uLI_i h
    exact lv_l2i hx hb hdg rfl (kk ls hl)
  | dup =>
    simp only [z_fr] at h
    obtain ⟨a, r, rfl, ⟨rfl, ha⟩, rfl, rfl, rfl⟩ := z_dup_i h
    exact lv_dup hx hb hdg ((z_tr_cat ad a).trans ha) (kk ls hl)
  | pop =>
    simp only [z_fr] at h
    obtain ⟨a, r, rfl, ⟨rfl, ha⟩, rfl, rfl, rfl⟩ := z_pop_i h
    exact lv_pop hx hb hdg ((z_tr_cat ad a).trans ha) (kk ls hl)
  | dup_x1 =>
    simp only [z_fr] at h
    obtain ⟨a, b, r, rfl, ⟨rfl, ha, hb2⟩, rfl, rfl, rfl⟩ := z_dx1_i h
    exact lv_dup_x1 hx hb hdg ((z_tr_cat ad a).trans ha) ((z_tr_cat ad b).trans hb2) (kk ls hl)
  | dup_x2 =>
    simp only [z_fr] at h
    obtain ⟨a, b, d, r, rfl, ⟨rfl, ha, hb2, hd2⟩, rfl, rfl, rfl⟩ := z_dx2_i h
    exact lv_dup_x2 hx hb hdg ((z_tr_cat ad a).trans ha) ((z_tr_cat ad b).trans hb2) ((z_tr_cat ad d).trans hd2) (kk ls hl)
  | dup2 =>
    simp only [z_fr] at h
    obtain ⟨a, b, r, rfl, ⟨rfl, ha, hb2⟩, rfl, rfl, rfl⟩ := z_d2_i h
    exact lv_dup2_11 hx hb hdg ((z_tr_cat ad a).trans ha) ((z_tr_cat ad b).trans hb2) (kk ls hl)
  | ifCond cd off =>
    simp only [z_fr] at h
    obtain ⟨t, x, r, rfl, rfl, rfl, rfl, rfl, rfl⟩ := z_if_i h
    have ht : (pc : Int) + off = (t : Int) := by simpa [z_okF] using hok
    cases cd with
    | eq => exact lv_if_eq hx hb hdg ht (fun q => by have z := kk ls hl; rwa [if_pos (show z_f0 .eq x = true from decide_eq_true q)] at z) (fun q => by have z := kk ls hl; rwa [if_neg (show ¬ z_f0 .eq x = true from by rw [show z_f0 .eq x = decide (x = 0) from rfl]; exact fun z => q (of_decide_eq_true z))] at z)
    | ne => exact lv_if_ne hx hb hdg ht (fun q => by have z := kk ls hl; rwa [if_pos (show z_f0 .ne x = true from decide_eq_true q)] at z) (fun q => by have z := kk ls hl; rwa [if_neg (show ¬ z_f0 .ne x = true from by rw [show z_f0 .ne x = decide (¬ x = 0) from rfl]; exact fun z => (of_decide_eq_true z) q)] at z)
    | lt => exact lv_if_lt hx hb hdg ht (fun q => by have z := kk ls hl; rwa [if_pos (show z_f0 .lt x = true from decide_eq_true q)] at z) (fun q => by have z := kk ls hl; rwa [if_neg (show ¬ z_f0 .lt x = true from by rw [show z_f0 .lt x = decide (x < 0) from rfl]; exact fun z => q (of_decide_eq_true z))] at z)
    | ge => exact lv_if_ge hx hb hdg ht (fun q => by have z := kk ls hl; rwa [if_pos (show z_f0 .ge x = true from decide_eq_true q)] at z) (fun q => by have z := kk ls hl; rwa [if_neg (show ¬ z_f0 .ge x = true from by rw [show z_f0 .ge x = decide (0 ≤ x) from rfl]; exact fun z => q (of_decide_eq_true z))] at z)
    | gt => exact lv_if_gt hx hb hdg ht (fun q => by have z := kk ls hl; rwa [if_pos (show z_f0 .gt x = true from decide_eq_true q)] at z) (fun q => by have z := kk ls hl; rwa [if_neg (show ¬ z_f0 .gt x = true from by rw [show z_f0 .gt x = decide (0 < x) from rfl]; exact fun z => q (of_decide_eq_true z))] at z)
    | le => exact lv_if_le hx hb hdg ht (fun q => by have z := kk ls hl; rwa [if_pos (show z_f0 .le x = true from decide_eq_true q)] at z) (fun q => by have z := kk ls hl; rwa [if_neg (show ¬ z_f0 .le x = true from by rw [show z_f0 .le x = decide (x ≤ 0) from rfl]; exact fun z => q (of_decide_eq_true z))] at z)
  | if_icmp cd off =>
    simp only [z_fr] at h
    obtain ⟨t, x, y, r, rfl, rfl, rfl, rfl, rfl, rfl⟩ := z_ic_i h
    have ht : (pc : Int) + off = (t : Int) := by simpa [z_okF] using hok
    cases cd with
    | eq => exact lv_icmp_eq hx hb hdg ht (fun q => by have z := kk ls hl; rwa [if_pos (show z_f2 .eq x y = true from decide_eq_true q)] at z) (fun q => by have z := kk ls hl; rwa [if_neg (show ¬ z_f2 .eq x y = true from by rw [show z_f2 .eq x y = decide (x = y) from rfl]; exact fun z => q (of_decide_eq_true z))] at z)
    | ne => exact lv_icmp_ne hx hb hdg ht (fun q => by have z := kk ls hl; rwa [if_pos (show z_f2 .ne x y = true from decide_eq_true q)] at z) (fun q => by have z := kk ls hl; rwa [if_neg (show ¬ z_f2 .ne x y = true from by rw [show z_f2 .ne x y = decide (¬ x = y) from rfl]; exact fun z => (of_decide_eq_true z) q)] at z)
    | lt => exact lv_icmp_lt hx hb hdg ht (fun q => by have z := kk ls hl; rwa [if_pos (show z_f2 .lt x y = true from decide_eq_true q)] at z) (fun q => by have z := kk ls hl; rwa [if_neg (show ¬ z_f2 .lt x y = true from by rw [show z_f2 .lt x y = decide (x < y) from rfl]; exact fun z => q (of_decide_eq_true z))] at z)
    | ge => exact lv_icmp_ge hx hb hdg ht (fun q => by have z := kk ls hl; rwa [if_pos (show z_f2 .ge x y = true from decide_eq_true q)] at z) (fun q => by have z := kk ls hl; rwa [if_neg (show ¬ z_f2 .ge x y = true from by rw [show z_f2 .ge x y = decide (y ≤ x) from rfl]; exact fun z => q (of_decide_eq_true z))] at z)
    | gt => exact lv_icmp_gt hx hb hdg ht (fun q => by have z := kk ls hl; rwa [if_pos (show z_f2 .gt x y = true from decide_eq_true q)] at z) (fun q => by have z := kk ls hl; rwa [if_neg (show ¬ z_f2 .gt x y = true from by rw [show z_f2 .gt x y = decide (y < x) from rfl]; exact fun z => q (of_decide_eq_true z))] at z)
    | le => exact lv_icmp_le hx hb hdg ht (fun q => by have z := kk ls hl; rwa [if_pos (show z_f2 .le x y = true from decide_eq_true q)] at z) (fun q => by have z := kk ls hl; rwa [if_neg (show ¬ z_f2 .le x y = true from by rw [show z_f2 .le x y = decide (x ≤ y) from rfl]; exact fun z => q (of_decide_eq_true z))] at z)
  | if_acmp cd off =>
    simp only [z_fr] at h
    obtain ⟨t, vx, vy, rx, ry, r, rfl, rfl, hy, hxx, ⟨rfl, cy, cx⟩, rfl, rfl, rfl⟩ := z_ac_i h
    have ht : (pc : Int) + off = (t : Int) := by simpa [z_okF] using hok
    have hI := z_cb_inj had hlo hinj cx cy
    show W p l e R s m args below meth c H locs cells slots Q (F0 m pc ls (z_tr ad vy :: z_tr ad vx :: st'.map (z_tr ad)))
    rw [z_rO_i (ad := ad) hy, z_rO_i (ad := ad) hxx]
    cases cd with
    | eq => exact lv_acmp_eq hx hb hdg ht (fun q => by have z := kk ls hl; rwa [if_pos (by simp [hI.mp q])] at z) (fun q => by have z := kk ls hl; rwa [if_neg (by simp; exact fun e => q (hI.mpr e))] at z)
    | ne => exact lv_acmp_ne hx hb hdg ht (fun q => by have z := kk ls hl; rwa [if_pos (by simp; exact fun e => q (hI.mpr e))] at z) (fun q => by have z := kk ls hl; rwa [if_neg (by simp [hI.mp q])] at z)
  | goto off =>
    simp only [z_fr] at h
    obtain ⟨t, rfl, rfl, rfl, rfl, rfl⟩ := z_goto_i h
    have ht : (pc : Int) + off = (pc' : Int) := by simpa [z_okF] using hok
    exact lv_goto hx hb hdg ht (kk ls hl)
  | ifnull off =>
    simp only [z_fr] at h
    unfold z_nul at h
    split at h
    · rename_i t a r
      have ht : (pc : Int) + off = (t : Int) := by simpa [z_okF] using hok
      by_cases hc : len = 3
      · rw [if_pos hc] at h
        subst hc
        cases h
        exact lv_ifnull hx hb hdg (kk ls hl)
      · rw [if_neg hc] at h
        cases h
    · rename_i t r
      have ht : (pc : Int) + off = (t : Int) := by simpa [z_okF] using hok
      by_cases hc : len = 3
      · rw [if_pos hc] at h
        subst hc
        cases h
        exact lv_ifnullN hx hb hdg ht (kk ls hl)
      · rw [if_neg hc] at h
        cases h
    · cases h
  | ifnonnull off =>
    simp only [z_fr] at h
    unfold z_nul at h
    split at h
    · rename_i t a r
      have ht : (pc : Int) + off = (t : Int) := by simpa [z_okF] using hok
      by_cases hc : len = 3
      · rw [if_pos hc] at h
        subst hc
        cases h
        exact lv_ifnonnull hx hb hdg ht (kk ls hl)
      · rw [if_neg hc] at h
        cases h
    · rename_i t r
      have ht : (pc : Int) + off = (t : Int) := by simpa [z_okF] using hok
      by_cases hc : len = 3
      · rw [if_pos hc] at h
        subst hc
        cases h
        exact lv_ifnonnullN hx hb hdg (kk ls hl)
      · rw [if_neg hc] at h
        cases h
    · cases h
  | tableswitch d lo hi offs =>
    simp only [z_fr] at h
    unfold z_tab at h
    split at h
    · rename_i t ts x r
      simp only [z_okF, Bool.and_eq_true, decide_eq_true_eq] at hok
      by_cases hc : x.toInt < lo ∨ hi < x.toInt
      · rw [if_pos hc] at h
        cases h
        exact lv_tableOut hx hb hdg hc hok.1 (kk ls hl)
      · rw [if_neg hc] at h
        split at h
        · rename_i t2 h2
          cases h
          have h3 : (offs.toList.map (fun o => (pc : Int) + o))[(x.toInt - lo).toNat]? = some (pc' : Int) := by
            rw [hok.2, List.getElem?_map, h2]
            rfl
          rw [List.getElem?_map] at h3
          cases h4 : offs.toList[(x.toInt - lo).toNat]? with
          | none => rw [h4] at h3; cases h3
          | some o =>
            rw [h4] at h3
            exact lv_tableIn hx hb hdg (fun q => hc (Or.inl q)) (fun q => hc (Or.inr q)) (by rw [← Array.getElem?_toList]; exact h4) (Option.some.inj h3) (kk ls hl)
        · cases h
    · cases h
  | _ => simp [z_fr] at h
end ZFR
