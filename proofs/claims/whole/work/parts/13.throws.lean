/-! A method that throws, and one that catches. -/
section ZTHR
variable {p : Program} {l : Launch} {e : Env} {R : Room} {s : State} {m : MethodId} {args : Array Value} {below : List Frame} {meth : Method} {c : Code} {T : State} {H : Heap} {locs : List Loc} {cells slots : Nat} {Q : State → Prop}
/-- out of the method -/
theorem z_leave (X : Stand p l e R s m args below meth c T locs cells slots) (hlocks : meth.locks = false) {x : Nat} {pc : Nat} {ls : Array Slot} {st : List Value} (hout : ∀ q ∈ c.exceptionTable.toList, covers q pc = false) {Qc : Array Value → State → Outcome → State → Prop} {free : Addr → Prop}
    (hq : ∀ t : State, t.heap = T.heap → s.WarmedH t.vm → Qc args s (.threw x) t) (hf : ∀ q ∈ locs, free q.base) : ∃ t2, Steps p.tables e below ((T.setTop (F0 m pc ls st)).pushFrame (.throwing x)) t2 ∧ z_MQ below Qc args s cells slots free t2 := by
  obtain ⟨h1, h2, h3, h4, h5⟩ := X.leaveThrown x (g := F0 m pc ls st) rfl rfl rfl hout hlocks
  exact ⟨_, h1, .threw x, h2, h3, hq _ rfl h4, locs, ⟨h4, h5⟩, hf⟩
/-- the search comes to a row whose class has its entry open or filled -/
theorem z_find {Qh : Handler → Pre} {E : CtlPost} {d : Bool} {acts : List Action} {u : State} {f : JFrame} {a : Addr} {x : ExceptionTableEntry} {cT : ClassId} {cell : Cell} (hx : covers x f.pc = true) (h0 : x.catchType ≠ 0) (hl : u.vm.ClassLinks e.platform f.method.cls x.catchType cT) (hcell : u.heap[a]? = some cell) (hobj : ∀ k, cell.vm ≠ .statics k)
    (hk : ∃ k, u.vm.classes[cell.cls]? = some k) (hc : ∃ k, u.vm.classes[cT]? = some k) (b : Bool) (hfit : u.vm.assignable cell.cls cT = b) (t : List ExceptionTableEntry) :
    wp (findHandler.go f a (x :: t)) Qh E e d acts u ↔ if b = true then Qh (.found x.handlerPc) d acts (u.setVm (u.vm.noted f.method.cls x.catchType (.cls cT))) else wp (findHandler.go f a t) Qh E e d acts (u.setVm (u.vm.noted f.method.cls x.catchType (.cls cT))) := by
  obtain ⟨ha, ht⟩ := (resolveClass_links e.toSetting hl).op (op := VmOp.resolveClass f.method.cls x.catchType) rfl
  have hal : u.vm.Alike (u.vm.noted f.method.cls x.catchType (.cls cT)) := (Vm.Alike.refl u.vm).noted _ _ _
  obtain ⟨k1, hk1⟩ := hk
  obtain ⟨k2, hk2⟩ := hc
  obtain ⟨k3, hk3, -⟩ := hal.2.2 _ _ hk1
  obtain ⟨k4, hk4, -⟩ := hal.2.2 _ _ hk2
  have hf2 : (u.vm.noted f.method.cls x.catchType (.cls cT)).assignable cell.cls cT = b := by rw [hal.assignable]; exact hfit
  simp only [covers] at hx
  cases b <;> simp [findHandler.go, hx, h0, ha, ht, hcell, hobj, hk3, hk4, hf2, VmOp.dirties, VmOp.acts]
/-- a row that is passed over: it doesn't hold the pc, or its class doesn't take the exception -/
def z_pass (own : String) (args : Array Value) (s : State) (cc : ClassId) (pc : Nat) (y : ExceptionTableEntry) : Prop := covers y pc = false ∨ (y.catchType ≠ 0 ∧ ∃ (nm : String) (cY : ClassId), (Cond.classLink own y.catchType nm).before args s = true ∧ s.vm.findClass nm = some cY ∧ s.vm.assignable cc cY = false)
theorem z_search (X : Stand p l e R s m args below meth c T locs cells slots) {x : Nat} {pc : Nat} {ls : Array Slot} {st : List Value} {own name : String} (hown : s.vm.findClass own = some m.cls) {rest : List ExceptionTableEntry} {q : ExceptionTableEntry} (hx : covers q pc = true) (h0 : q.catchType ≠ 0)
    (hlink : (Cond.classLink own q.catchType name).before args s = true) {cT : ClassId} {cell : Cell} (hcT : s.vm.findClass name = some cT) (hobj : cell.vm.isStatics = false) (hfit : s.vm.assignable cell.cls cT = true) :
    ∀ (pre : List ExceptionTableEntry) (u : State), s.WarmedH u.vm → u.heap[x]? = some cell → (∀ y ∈ pre, z_pass own args s cell.cls pc y) →
    ∃ v', s.WarmedH v' ∧ ∀ (Qh : Handler → Pre) (E : CtlPost) (d : Bool) (acts : List Action), wp (findHandler.go (F0 m pc ls st) x (pre ++ q :: rest)) Qh E e d acts u ↔ Qh (.found q.handlerPc) d acts (u.setVm v') := by
  have hpl : e.platform.magicAccessors = ({} : Platform).magicAccessors := by rw [X.admits.platform]
  obtain ⟨c', hc', hcl⟩ := Cond.classLink_spec hown hlink e.platform hpl
  cases hcT.symm.trans hc'
  obtain ⟨dk, _, _, kt, hd, _, _, _, _, hkt, _, hopen⟩ := id hcl.here
  intro pre
  induction pre with
  | nil =>
    intro u hW hcell _
    have hal := hW.alike
    obtain ⟨kt', hkt', -⟩ := hal.2.2 _ _ hkt
    have hfit' : u.vm.assignable cell.cls cT = true := by rw [hal.assignable]; exact hfit
    refine ⟨u.vm.noted m.cls q.catchType (.cls cT), hW.noted hd hopen (State.rightAt_cls hcl), fun Qh E d acts => ?_⟩
    rw [List.nil_append, z_find (e := e) (u := u) (f := F0 m pc ls st) hx h0 (hW.classLinks hcl) hcell (VmData.ne_statics_of hobj) (Vm.classAt_of_assignable hfit' ⟨kt', hkt'⟩) ⟨kt', hkt'⟩ true hfit' rest, if_pos rfl]
  | cons y ys ih =>
    intro u hW hcell hsk
    have hsk' : ∀ z ∈ ys, z_pass own args s cell.cls pc z := fun z hz => hsk z (List.mem_cons_of_mem _ hz)
    by_cases hcov : covers y pc = false
    · obtain ⟨v', hv, hh⟩ := ih u hW hcell hsk'
      refine ⟨v', hv, fun Qh E d acts => ?_⟩
      rw [List.cons_append, W.findHandler_go_skip hcov]
      exact hh Qh E d acts
    · rcases hsk y List.mem_cons_self with hn | ⟨y0, nm, cY, hl2, hf2, hnf⟩
      · exact absurd hn hcov
      · have hcov' : covers y pc = true := by
          cases hq : covers y pc with
          | true => rfl
          | false => exact absurd hq hcov
        obtain ⟨c2, hc2, hcl2⟩ := Cond.classLink_spec hown hl2 e.platform hpl
        cases hf2.symm.trans hc2
        obtain ⟨dk2, _, _, kt2, hd2, _, _, _, _, hkt2, _, hopen2⟩ := id hcl2.here
        have hW2 : s.WarmedH (u.vm.noted m.cls y.catchType (.cls cY)) := hW.noted hd2 hopen2 (State.rightAt_cls hcl2)
        have hal := hW.alike
        obtain ⟨kt', hkt', -⟩ := hal.2.2 _ _ hkt
        obtain ⟨kt3, hkt3, -⟩ := hal.2.2 _ _ hkt2
        have hfit' : u.vm.assignable cell.cls cT = true := by rw [hal.assignable]; exact hfit
        have hnf' : u.vm.assignable cell.cls cY = false := by rw [hal.assignable]; exact hnf
        obtain ⟨v', hv, hh⟩ := ih (u.setVm (u.vm.noted m.cls y.catchType (.cls cY))) hW2 hcell hsk'
        refine ⟨v', hv, fun Qh E d acts => ?_⟩
        rw [List.cons_append, z_find (e := e) (u := u) (f := F0 m pc ls st) hcov' y0 (hW.classLinks hcl2) hcell (VmData.ne_statics_of hobj) (Vm.classAt_of_assignable hfit' ⟨kt', hkt'⟩) ⟨kt3, hkt3⟩ false hnf' (ys ++ q :: rest), if_neg (by decide)]
        exact hh Qh E d acts
/-- into a handler of the method's own: the rows ahead of it don't hold the pc -/
theorem z_caught (X : Stand p l e R s m args below meth c T locs cells slots) {x : Nat} {pc : Nat} {ls : Array Slot} {st : List Value} {own name : String} (hown : s.vm.findClass own = some m.cls) {pre rest : List ExceptionTableEntry} {q : ExceptionTableEntry} (hsplit : c.exceptionTable.toList = pre ++ q :: rest)  (hx : covers q pc = true) (h0 : q.catchType ≠ 0)
    (hlink : (Cond.classLink own q.catchType name).before args s = true) {cT : ClassId} {cell : Cell} (hcT : s.vm.findClass name = some cT) (hcell : T.heap[x]? = some cell) (hobj : cell.vm.isStatics = false) (hfit : s.vm.assignable cell.cls cT = true) (hskip : ∀ y ∈ pre, z_pass own args s cell.cls pc y) :
    ∃ vm', Stand p l e R s m args below meth c (T.setVm vm') locs cells slots ∧ ∀ tg, Steps p.tables e below ((T.setVm vm').setTop (F0 m q.handlerPc ls [.ref x])) tg → Steps p.tables e below ((T.setTop (F0 m pc ls st)).pushFrame (.throwing x)) tg := by
  obtain ⟨v', hv, hh⟩ := z_search (ls := ls) (st := st) (rest := rest) X hown hx h0 hlink hcT hobj hfit pre ((T.setTop (F0 m pc ls st)).pushFrame (.throwing x)) (by rw [Stand.throwing_vm T _ x]; exact X.warmed) (by rw [Stand.throwing_heap T _ x]; exact hcell) hskip
  refine ⟨v', X.noted hv, fun tg hrest => ?_⟩
  obtain ⟨hgo, hw⟩ := At.throwing (g := F0 m pc ls st) X.here x
  refine Steps.head hgo hw ?_
  generalize hu : (T.setTop (F0 m pc ls st)).pushFrame (.throwing x) = u at *
  have huv : u.vm = T.vm := by rw [← hu]; exact Stand.throwing_vm T _ x
  have huh : u.heap = T.heap := by rw [← hu]; exact Stand.throwing_heap T _ x
  have hfind : ∀ (Qh : Handler → Pre) (E : CtlPost) (d : Bool) (acts : List Action), wp (findHandler (F0 m pc ls st) x) Qh E e d acts u ↔ Qh (.found q.handlerPc) d acts (u.setVm v') := by
    intro Qh E d acts
    rw [W.findHandler_eq (meth := meth) (code := c) (by rw [huv]; exact X.method') X.code, hsplit]
    exact hh Qh E d acts
  have hstep : (stepThrowing e u x (.java (F0 m pc ls st) :: below)).1 = (u.setVm v').setFrames (.java (F0 m q.handlerPc ls [.ref x]) :: below) := by
    simp only [stepThrowing, searchFrame, vmDo]
    generalize hr : Sem.go _ e false [] u = res
    obtain ⟨as, rfl, -⟩ := Sem.eq_ok_of hr (a := Handler.found q.handlerPc) (s' := u.setVm v') (acts' := []) (by simp [hfind _ _ _ _])
    rfl
  have hfrs : u.frames = .throwing x :: .java (F0 m pc ls st) :: below := by
    rw [← hu, frames_entered X.here.top, X.tail]
  obtain ⟨g₀, hfr⟩ := X.frames_eq
  rw [stepThread_throwing hfrs, hstep, ← hu]
  have hfr' : (T.setVm v').frames = .java g₀ :: below := hfr
  rw [State.setTop_of_frames _ hfr'] at hrest
  have e1 : (((T.setTop (F0 m pc ls st)).pushFrame (.throwing x)).setVm v').setFrames (.java (F0 m q.handlerPc ls [.ref x]) :: below) = (T.setVm v').setFrames (.java (F0 m q.handlerPc ls [.ref x]) :: below) := by
    have e2 : ((T.setTop (F0 m pc ls st)).pushFrame (.throwing x)).setVm v' = (T.setVm v').setFrames (.throwing x :: .java (F0 m pc ls st) :: below) := by
      rw [State.pushFrame, State.frames_setTop _ hfr, State.setTop_of_frames _ hfr, State.setFrames_setFrames]
      rfl
    rw [e2, State.setFrames_setFrames]
  rw [e1]
  exact hrest
end ZTHR
