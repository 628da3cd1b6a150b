/-! The program's text as lists of rows, and a program that checks them. -/
abbrev z_R : Type := Nat × Instr × Nat × List Nat
def z_look (rs : List z_R) (pc : Nat) : Option (Instr × Nat × List Nat) := match rs with
  | [] => none
  | q :: r => if q.1 = pc then some q.2 else z_look r pc
theorem z_look_mem {rs : List z_R} {pc : Nat} {x : Instr × Nat × List Nat} (h : z_look rs pc = some x) : (pc, x) ∈ rs := by
  induction rs with
  | nil => simp [z_look] at h
  | cons q r ih =>
    unfold z_look at h
    by_cases hq : q.1 = pc
    · rw [if_pos hq] at h
      cases h
      rw [← hq]
      exact List.mem_cons_self
    · rw [if_neg hq] at h
      exact List.mem_cons_of_mem _ (ih h)
def z_chkH (own : String) (ini : Bool) (cl : List vw_C) (tyl : List FieldType) (stl : List (String × String × String × Value)) (Ts : List Cond) (i : Instr) (aux : List Nat) : Bool := match i, aux with
  | .getfield idx, [ci, k, pl] => match cl[ci]? with
    | some q => decide (k < q.2.2) && decide (Ts[pl]? = some (Cond.fieldLink own idx (q.2.1 k).1 (q.2.1 k).2.1 (q.2.1 k).2.2.1))
    | none => false
  | .putfield idx, [ci, k, pl] => match cl[ci]? with
    | some q => decide (k < q.2.2) && (decide (Ts[pl]? = some (Cond.fieldLink own idx (q.2.1 k).1 (q.2.1 k).2.1 (q.2.1 k).2.2.1)) && (!(q.2.1 k).2.2.2 || (ini && decide ((q.2.1 k).1 = own))))
    | none => false
  | .new idx, [ci, pl] => match cl[ci]? with
    | some q => decide (Ts[pl]? = some (Cond.classLink own idx q.1)) && (decide (Cond.instantiable q.1 q.2.2 ∈ Ts) && decide (Cond.initialized q.1 ∈ Ts))
    | none => false
  | .newarray at_, [t] => decide (tyl[t]? = some (newarray.typeOf at_)) && decide (Cond.arrayClass (newarray.typeOf at_) ∈ Ts)
  | .anewarray idx, [t, pl] => match tyl[t]? with
    | some (.object C) => decide (Ts[pl]? = some (Cond.classLink own idx C))
    | _ => false
  | .getstatic idx, [j, pl] => match stl[j]? with
    | some q => decide (Ts[pl]? = some (Cond.fieldLink own idx q.1 q.2.1 q.2.2.1))
    | none => false
  | .ldc idx, [n, pl] => decide (Ts[pl]? = some (Jvm.Cond.constant own idx (Int32.ofNat n)))
  | .ldc_w idx, [n, pl] => decide (Ts[pl]? = some (Jvm.Cond.constant own idx (Int32.ofNat n)))
  | .ldc2_w idx, [n, pl] => decide (Ts[pl]? = some (Jvm.Cond.constantLong own idx (Int64.ofNat n)))
  | _, _ => true
theorem z_chkH_ok {own : String} {ini : Bool} {cl : List vw_C} {tyl : List FieldType} {stl : List (String × String × String × Value)} {Ts : List Cond} {i : Instr} {aux : List Nat} (h : z_chkH own ini cl tyl stl Ts i aux = true) : z_okH own ini cl tyl stl Ts i aux := by
  unfold z_okH
  split
  · rename_i idx ci k pl
    simp only [z_chkH] at h
    split at h
    · rename_i q hq
      simp only [Bool.and_eq_true, decide_eq_true_eq] at h
      exact ⟨q.1, q.2.1, q.2.2, hq, h.1, List.mem_of_getElem? h.2⟩
    · cases h
  · rename_i idx ci k pl
    simp only [z_chkH] at h
    split at h
    · rename_i q hq
      simp only [Bool.and_eq_true, decide_eq_true_eq, Bool.or_eq_true, Bool.not_eq_true'] at h
      refine ⟨q.1, q.2.1, q.2.2, hq, h.1, List.mem_of_getElem? h.2.1, fun hf => ?_⟩
      rcases h.2.2 with h1 | h1
      · rw [h1] at hf; cases hf
      · exact h1
    · cases h
  · rename_i idx ci pl
    simp only [z_chkH] at h
    split at h
    · rename_i q hq
      simp only [Bool.and_eq_true, decide_eq_true_eq] at h
      exact ⟨q.1, q.2.1, q.2.2, hq, List.mem_of_getElem? h.1, h.2.1, h.2.2⟩
    · cases h
  · rename_i at_ t
    simp only [z_chkH, Bool.and_eq_true, decide_eq_true_eq] at h
    exact h
  · rename_i idx t pl
    simp only [z_chkH] at h
    split at h
    · rename_i C hC
      simp only [decide_eq_true_eq] at h
      exact ⟨C, hC, List.mem_of_getElem? h⟩
    · cases h
  · rename_i idx j pl
    simp only [z_chkH] at h
    split at h
    · rename_i q hq
      simp only [decide_eq_true_eq] at h
      exact ⟨q.1, q.2.1, q.2.2.1, q.2.2.2, hq, List.mem_of_getElem? h⟩
    · cases h
  · simp only [z_chkH, decide_eq_true_eq] at h
    exact List.mem_of_getElem? h
  · simp only [z_chkH, decide_eq_true_eq] at h
    exact List.mem_of_getElem? h
  · simp only [z_chkH, decide_eq_true_eq] at h
    exact List.mem_of_getElem? h
  · trivial
/-- of a method: arity and kind (0 static, 1 a constructor, 2 by the receiver's class, 3 of a String) -/
abbrev z_K : Type := (Nat → Nat) × (Nat → Nat)
/-- a link of a static call: by access, or within the nest -/
def z_chkL (Ts : List Cond) (own : String) (idx : Nat) (y : MethodName) (pl : Nat) : Bool := match Ts[pl]? with
  | some (.methodLink a i x) => decide (a = own) && (decide (i = idx) && decide (x = y))
  | some (.methodLinkNest a i x _) => decide (a = own) && (decide (i = idx) && decide (x = y))
  | _ => false
theorem z_chkL_ok {Ts : List Cond} {own : String} {idx : Nat} {y : MethodName} {pl : Nat} (h : z_chkL Ts own idx y pl = true) : Cond.methodLink own idx y ∈ Ts ∨ ∃ host, Cond.methodLinkNest own idx y host ∈ Ts := by
  unfold z_chkL at h
  split at h
  · rename_i a i x hq
    simp only [Bool.and_eq_true, decide_eq_true_eq] at h
    obtain ⟨rfl, rfl, rfl⟩ := h
    exact Or.inl (List.mem_of_getElem? hq)
  · rename_i a i x k hq
    simp only [Bool.and_eq_true, decide_eq_true_eq] at h
    obtain ⟨rfl, rfl, rfl⟩ := h
    exact Or.inr ⟨k, List.mem_of_getElem? hq⟩
  · cases h
def z_chkC (my : Nat → MethodName) (A : z_K) (M : Nat) (Ts : List Cond) (own : String) (i : Instr) (aux : List Nat) : Bool := match i, aux with
  | .invokestatic idx, [0, mj, na, pl] => z_chkL Ts own idx (my mj) pl && (decide (A.1 mj = na) && (decide (A.2 mj = 0) && decide (mj < M)))
  | .invokespecial idx, [0, mj, na, pl] => decide (Ts[pl]? = some (Cond.methodLink own idx (my mj))) && (decide (A.1 mj = na) && (decide (A.2 mj = 1) && decide (mj < M)))
  | .invokevirtual idx, [0, mj, na, pl] => decide (Ts[pl]? = some (Cond.methodLink own idx (my mj))) && (decide (A.1 mj = na) && (decide (A.2 mj = 2) && decide (mj < M)))
  | .invokevirtual idx, [7, mj, na, pl] => decide (Ts[pl]? = some (Cond.methodLink own idx (my mj))) && (decide (A.1 mj = na) && (decide (A.2 mj = 3) && decide (mj < M)))
  | .invokespecial idx, [1, pl] => decide (Ts[pl]? = some (Cond.methodLink own idx Lib.objectInit))
  | _, _ => true
def z_chkM (my : Nat → MethodName) (mb : Nat → ByteArray) (P : z_Q) (A : z_K) (cl : List vw_C) (Ts : List Cond) (mi : Nat) : Bool :=
  (plainName (my mi).cls && (decide ((my mi).cls ≠ "java/lang/invoke/MethodHandle" ∧ (my mi).cls ≠ "java/lang/invoke/VarHandle") && (decide (Cond.initialized (my mi).cls ∈ Ts) && (decide ((parseMethodDescriptor (my mi).desc).map (fun d => d.parameters.length) = some (A.1 mi)) &&
  (match A.2 mi with
  | 0 => decide (Cond.static (my mi) ∈ Ts)
  | 1 => decide (Cond.instanceMethod (my mi) ∈ Ts) && (decide ((my mi).name = "<init>") && (decide (P.2.2.2.1 mi = []) && decide (P.2.2.1 mi = none)))
  | 3 => decide (Cond.instanceMethod (my mi) ∈ Ts) && decide (Cond.selects "java/lang/String" (my mi) (my mi) ∈ Ts)
  | _ => decide (Cond.instanceMethod (my mi) ∈ Ts) && (match cl[P.2.2.2.2.2 mi]? with
    | some q => decide (Cond.selects q.1 (my mi) (my mi) ∈ Ts)
    | none => false))))))
def z_chkX (my : Nat → MethodName) (P : z_Q) (cl : List vw_C) (Ts : List Cond) (mi : Nat) : Bool := ((P.2.2.2.1 mi).zip (P.2.2.2.2.1 mi)).all (fun z => decide (z.1.2.2.2 ≠ 0) && (match cl[z.2]? with
  | some q => decide (Cond.classLink (my mi).cls z.1.2.2.2 q.1 ∈ Ts)
  | none => false))
theorem z_chkX_ok {my : Nat → MethodName} {P : z_Q} {cl : List vw_C} {Ts : List Cond} {mi : Nat} (h : z_chkX my P cl Ts mi = true) : z_okX my P cl Ts mi := by
  intro k q x hq hx
  have hm : (q, x) ∈ (P.2.2.2.1 mi).zip (P.2.2.2.2.1 mi) := List.mem_of_getElem? (i := k) (by rw [List.getElem?_zip_eq_some]; exact ⟨hq, hx⟩)
  have h1 := List.all_eq_true.mp h _ hm
  simp only [Bool.and_eq_true, decide_eq_true_eq] at h1
  refine ⟨h1.1, ?_⟩
  have h2 := h1.2
  split at h2
  · rename_i r hr
    simp only [decide_eq_true_eq] at h2
    exact ⟨r.1, r.2.1, r.2.2, hr, h2⟩
  · cases h2
def z_chkR (my : Nat → MethodName) (mb : Nat → ByteArray) (A : z_K) (M : Nat) (cl : List vw_C) (tyl : List FieldType) (stl : List (String × String × String × Value)) (Ts : List Cond) (mi : Nat) (r : z_R) : Bool :=
  decide (decode (mb mi) r.1 = .ok (r.2.1, r.2.2.1)) && (z_okF r.2.1 r.2.2.2 r.1 && (z_chkH (my mi).cls (decide ((my mi).name = "<init>")) cl tyl stl Ts r.2.1 r.2.2.2 && z_chkC my A M Ts (my mi).cls r.2.1 r.2.2.2))
theorem z_okP_of {my : Nat → MethodName} {mb : Nat → ByteArray} {P : z_Q} {A : z_K} {M : Nat} {cl : List vw_C} {tyl : List FieldType} {stl : List (String × String × String × Value)} {Ts : List Cond} {rows : Nat → List z_R} (hP : ∀ mi pc, P.1 mi pc = z_look (rows mi) pc)
    (hr : ∀ mi, (rows mi).all (z_chkR my mb A M cl tyl stl Ts mi) = true) (hcw : ∀ mi, 0 < mi → mi < M → z_cw (my mi) (mb mi) (P.2.1 mi) (P.2.2.1 mi) (P.2.2.2.1 mi) ∈ Ts) (hm : ∀ mi, 0 < mi → mi < M → z_chkM my mb P A cl Ts mi = true) (h0 : ∀ mi, mi < M → z_chkX my P cl Ts mi = true) (hz : ∀ (mi pc : Nat) (i : Instr) (len na pl : Nat), P.1 mi pc = some (i, len, [0, 0, na, pl]) → False) (hz7 : ∀ (mi pc : Nat) (i : Instr) (len na pl : Nat), P.1 mi pc = some (i, len, [7, 0, na, pl]) → False)
    (hob : Cond.instanceMethod Lib.objectInit ∈ Ts ∧ Cond.code Lib.objectInit ⟨#[0xb1]⟩ 1 none ∈ Ts) : z_okP my mb P cl tyl stl Ts := by
  have hM : ∀ mj, 0 < mj → mj < M → z_okM my mb P cl Ts mj := by
    intro mj h1 h2
    have h3 := hm mj h1 h2
    simp only [z_chkM, Bool.and_eq_true, decide_eq_true_eq] at h3
    exact ⟨hcw mj h1 h2, h3.1, h3.2.1, h3.2.2.1, z_chkX_ok (h0 mj h2)⟩
  have hA : ∀ mj, 0 < mj → mj < M → (parseMethodDescriptor (my mj).desc).map (fun d => d.parameters.length) = some (A.1 mj) := by
    intro mj h1 h2
    have h3 := hm mj h1 h2
    simp only [z_chkM, Bool.and_eq_true, decide_eq_true_eq] at h3
    exact h3.2.2.2.1
  intro mi pc i len aux h
  have h1 := List.all_eq_true.mp (hr mi) _ (z_look_mem ((hP mi pc).symm.trans h))
  simp only [z_chkR, Bool.and_eq_true, decide_eq_true_eq] at h1
  obtain ⟨h2, h3, h4, h5⟩ := h1
  have hpos : ∀ {mj na pl : Nat}, aux = [0, mj, na, pl] → 0 < mj := by
    intro mj na pl he
    rcases Nat.eq_zero_or_pos mj with h6 | h6
    · subst h6
      subst he
      exact (hz mi pc i len na pl h).elim
    · exact h6
  have hpos7 : ∀ {mj na pl : Nat}, aux = [7, mj, na, pl] → 0 < mj := by
    intro mj na pl he
    rcases Nat.eq_zero_or_pos mj with h6 | h6
    · subst h6
      subst he
      exact (hz7 mi pc i len na pl h).elim
    · exact h6
  refine ⟨h2, h3, z_chkH_ok h4, ?_, ?_⟩
  · unfold z_okC
    split
    · rename_i idx mj na pl
      simp only [z_chkC, Bool.and_eq_true, decide_eq_true_eq] at h5
      obtain ⟨a1, a2, a3, a4⟩ := h5
      have h7 := hm mj (hpos rfl) a4
      simp only [z_chkM, Bool.and_eq_true, a3, decide_eq_true_eq] at h7
      exact ⟨z_chkL_ok a1, h7.2.2.2.2, by rw [← a2]; exact hA mj (hpos rfl) a4⟩
    · rename_i idx mj na pl
      simp only [z_chkC, Bool.and_eq_true, decide_eq_true_eq] at h5
      obtain ⟨a1, a2, a3, a4⟩ := h5
      have h7 := hm mj (hpos rfl) a4
      simp only [z_chkM, Bool.and_eq_true, a3, decide_eq_true_eq] at h7
      exact ⟨List.mem_of_getElem? a1, h7.2.2.2.2.1, h7.2.2.2.2.2.1, h7.2.2.2.2.2.2.1, h7.2.2.2.2.2.2.2, by rw [← a2]; exact hA mj (hpos rfl) a4⟩
    · rename_i idx mj na pl
      simp only [z_chkC, Bool.and_eq_true, decide_eq_true_eq] at h5
      obtain ⟨a1, a2, a3, a4⟩ := h5
      have h7 := hm mj (hpos rfl) a4
      simp only [z_chkM, Bool.and_eq_true, a3, decide_eq_true_eq] at h7
      refine ⟨List.mem_of_getElem? a1, h7.2.2.2.2.1, ?_, by rw [← a2]; exact hA mj (hpos rfl) a4⟩
      have h8 := h7.2.2.2.2.2
      split at h8
      · rename_i q hq
        simp only [decide_eq_true_eq] at h8
        exact ⟨q.1, q.2.1, q.2.2, hq, h8⟩
      · cases h8
    · rename_i idx mj na pl
      simp only [z_chkC, Bool.and_eq_true, decide_eq_true_eq] at h5
      obtain ⟨a1, a2, a3, a4⟩ := h5
      have h7 := hm mj (hpos7 rfl) a4
      simp only [z_chkM, Bool.and_eq_true, a3, decide_eq_true_eq] at h7
      exact ⟨List.mem_of_getElem? a1, h7.2.2.2.2.1, h7.2.2.2.2.2, by rw [← a2]; exact hA mj (hpos7 rfl) a4⟩
    · simp only [z_chkC, decide_eq_true_eq] at h5
      exact ⟨List.mem_of_getElem? h5, hob.1, hob.2⟩
    · trivial
  · intro mj hc
    unfold z_callee_of at hc
    split at hc
    · cases hc
      simp only [z_chkC, Bool.and_eq_true, decide_eq_true_eq] at h5
      exact hM mj (hpos rfl) h5.2.2.2
    · cases hc
      simp only [z_chkC, Bool.and_eq_true, decide_eq_true_eq] at h5
      exact hM mj (hpos rfl) h5.2.2.2
    · cases hc
      simp only [z_chkC, Bool.and_eq_true, decide_eq_true_eq] at h5
      exact hM mj (hpos rfl) h5.2.2.2
    · cases hc
      simp only [z_chkC, Bool.and_eq_true, decide_eq_true_eq] at h5
      exact hM mj (hpos7 rfl) h5.2.2.2
    · cases hc
/-- of the statics the text asks the names alone -/
theorem z_okH_st {own : String} {ini : Bool} {cl : List vw_C} {tyl : List FieldType} {stl stl' : List (String × String × String × Value)} {Ts : List Cond} {i : Instr} {aux : List Nat} (hs : ∀ (j : Nat) (C n d : String) (v : Value), stl[j]? = some (C, n, d, v) → ∃ v', stl'[j]? = some (C, n, d, v')) (h : z_okH own ini cl tyl stl Ts i aux) : z_okH own ini cl tyl stl' Ts i aux := by
  unfold z_okH at h ⊢
  split at h
  case h_6 =>
    obtain ⟨C, n, d, v, h1, h2⟩ := h
    obtain ⟨v', h3⟩ := hs _ C n d v h1
    exact ⟨C, n, d, v', h3, h2⟩
  all_goals exact h
theorem z_okP_st {my : Nat → MethodName} {mb : Nat → ByteArray} {P : z_Q} {cl : List vw_C} {tyl : List FieldType} {stl stl' : List (String × String × String × Value)} {Ts : List Cond} (hs : ∀ (j : Nat) (C n d : String) (v : Value), stl[j]? = some (C, n, d, v) → ∃ v', stl'[j]? = some (C, n, d, v')) (h : z_okP my mb P cl tyl stl Ts) : z_okP my mb P cl tyl stl' Ts := by
  intro mi pc i len aux hi
  obtain ⟨h1, h2, h3, h4, h5⟩ := h mi pc i len aux hi
  exact ⟨h1, h2, z_okH_st hs h3, h4, h5⟩
