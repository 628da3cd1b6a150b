/-! How what is known of the start stays known: statics, constants, frozen arrays. -/
/-- a later state: warmer tables, and below sz nothing has changed -/
def z_Lt (sz : Nat) (U V : State) : Prop := U.WarmedH V.vm ∧ U.heap.size ≤ V.heap.size ∧ ∀ q, q < U.heap.size → ¬ z_A sz q → V.heap[q]? = U.heap[q]?
theorem z_Wd_mv {G : z_G} {sz : Nat} {D : va_G} {cl : List vw_C} {dA : Nat → ClassId} {ad : Nat → Nat} {stl : List (String × String × String × Value)} {cW : String} {U V : State} (h : z_Lt sz U V) (hw : z_Wd G sz D cl dA ad stl cW U) : z_Wd G sz D cl dA ad stl cW V := by
  obtain ⟨hW, hsz, hk⟩ := h
  obtain ⟨h1, h2, h3, h4, h5, h6, cC, kC, h7, h8⟩ := hw
  have hv := hW.alike
  obtain ⟨k', hk', -⟩ := hv.2.2 _ _ h8
  refine ⟨va_K.moved hv h1, fun j C n d v q => ((h2 j C n d v q).kept hk).moved hv, fun t C q => (h3 t C q).moved hv, Nat.le_trans h4 hsz, fun a q hq => ((h5 a q hq).kept hk).moved hv, fun v q => ((h6 v q).kept hk).moved hv, cC, k', by rw [hv.findClass]; exact h7, hk'⟩
/-- the two statics of Throwable -/
def z_Un (sz : Nat) (O f d : String) (U : State) : Prop := (Cond.laysStatic O f d).before #[] U = true ∧ va_Zq O f d (z_A sz) U U.heap
theorem z_Un_lays {sz : Nat} {O f d : String} {U : State} (h : z_Un sz O f d U) (args : Array Value) : (Cond.laysStatic O f d).before args U = true := h.1
theorem z_Un_isRef {sz : Nat} {O f d : String} {U : State} (h : z_Un sz O f d U) (args : Array Value) : (Cond.isRef (.static O f d)).before args U = true := by
  have key : ∀ v : Value, v.isRef = true → va_Z O f d v (z_A sz) U U.heap → (Cond.isRef (.static O f d)).before args U = true := by
    intro v hv hz
    obtain ⟨cf, kf, fi, fd, a, cell, h1, h2, h3, h4, h5, h6, h7, -⟩ := hz
    have he : (Term.static O f d).eval args U none [] U = some v := by
      simp [Term.eval, State.fieldNamed?, h1, h2, h4, h5, h6, h7]
    cases v <;> simp_all [Cond.before, Cond.holds, Cond.value, Value.isRef]
  rcases h.2 with hz | ⟨t, hz⟩
  · exact key _ rfl hz
  · exact key _ rfl hz
theorem z_Un_mv {sz : Nat} {O f d : String} {U V : State} (h : z_Lt sz U V) (hu : z_Un sz O f d U) : z_Un sz O f d V := by
  obtain ⟨hW, hsz, hk⟩ := h
  have hv := hW.alike
  have hz : va_Zq O f d (z_A sz) V V.heap := (hu.2.kept hk).moved hv
  refine ⟨?_, hz⟩
  have hl : (Cond.laysStatic O f d).before #[] (U.setVm V.vm) = true := Cond.before_shiftedFace (State.Shifted.of_warmed hW) _ rfl hu.1
  obtain ⟨c, k, i, fd, a, cell, a1, a2, a3, a4, a5, a6, a7, a8, a9⟩ := Cond.laysStatic_spec hl
  have b1 : V.vm.findClass O = some c := a1
  have b2 : V.fieldFound? O f d = some (c, k, i, fd) := a2
  have b5 : V.heap[a]? = some cell := by
    have hA : ¬ z_A sz a := by
      have : ∀ v : Value, va_Z O f d v (z_A sz) V V.heap → ¬ z_A sz a := by
        intro v hz
        obtain ⟨cf, kf, fi, fd2, a', cell', h1, h2, h3, h4, h5, h6, h7, h8⟩ := hz
        have e := b2.symm.trans h1
        simp only [Option.some.injEq, Prod.mk.injEq] at e
        obtain ⟨-, e2, -, -⟩ := e
        rw [← e2, a4] at h4
        rw [Option.some.inj h4]
        exact h8
      rcases hz with hz | ⟨t, hz⟩
      · exact this _ hz
      · exact this _ hz
    have a5' : U.heap[a]? = some cell := a5
    rw [hk a (Array.getElem?_eq_some_iff.mp a5').1 hA]
    exact a5'
  simp [Cond.before, Cond.holds, Cond.value, b1, b2, a4, b5, a3, a6, a7, a8, a9]
/-- words that need no heap -/
theorem z_onT {c : Cond} (hf : c.keepsFace = true) (ht : c.onTables = true) {U V : State} (hW : U.WarmedH V.vm) {args args' : Array Value} (h : c.before args U = true) : c.before args' V = true := by
  have h1 : c.before args (U.setVm V.vm) = true := Cond.before_shiftedFace (State.Shifted.of_warmed hW) _ hf h
  exact va_tabs ht (rfl : (U.setVm V.vm).vm = V.vm) h1
/-- all that a throw asks of the tables -/
def z_isT (c : Cond) : Bool := c.onTables || (match c with
  | .isRef (.static O f _) => decide (O = "java/lang/Throwable") && (decide (f = "UNASSIGNED_STACK") || decide (f = "SUPPRESSED_SENTINEL"))
  | .laysStatic O f _ => decide (O = "java/lang/Throwable") && (decide (f = "UNASSIGNED_STACK") || decide (f = "SUPPRESSED_SENTINEL"))
  | _ => false)
