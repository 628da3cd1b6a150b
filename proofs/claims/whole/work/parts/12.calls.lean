/-! Contracts of methods that return or throw, and calls of them. -/
/-- behind a method, however it ended: warmer tables; written places L; at most k cells of n slots are new -/
def z_End (first t : State) (L : List Loc) (k n : Nat) : Prop := first.WarmedH t.vm ∧ first.sameButNew ({ t with vm := first.vm } : State) L k n
def z_Met (l : Launch) (y : MethodName) (ws : List Cond) (rm : Room) (Pc : Array Value → State → Prop) (Qc : Array Value → State → Outcome → State → Prop) (k n : Nat) (free : Addr → Prop) : Prop :=
  MetFree l y (headSpec ws rm) Pc (fun _ _ _ _ _ => True) (fun a st o t => Qc a st o t ∧ ∃ L, z_End st t L k n ∧ ∀ q ∈ L, free q.base)
def z_MQ (below : List Frame) (Qc : Array Value → State → Outcome → State → Prop) (a : Array Value) (s : State) (k n : Nat) (free : Addr → Prop) : State → Prop := fun t =>
  ∃ o, t.status = .running ∧ Ended t below o ∧ Qc a s o t ∧ ∃ L, z_End s t L k n ∧ ∀ q ∈ L, free q.base
/-- a method's code word: with or without a table of handlers -/
def z_cw (y : MethodName) (cc : ByteArray) (maxL : Nat) (ret : Option FieldType) (hh : List (Nat × Nat × Nat × Nat)) : Cond := match hh with
  | [] => .code y cc maxL ret
  | hh => .codeWith y cc maxL ret hh
theorem z_cw_spec {y : MethodName} {cc : ByteArray} {maxL : Nat} {ret : Option FieldType} {hh : List (Nat × Nat × Nat × Nat)} {args : Array Value} {s : State} (h : (z_cw y cc maxL ret hh).before args s = true) :
    ∃ m meth c, s.methodNamed? y = some m ∧ s.vm.method? m = some meth ∧ meth.code = some c ∧ c.code = cc ∧ c.maxLocals = maxL ∧ c.exceptionTable.toList = tableOf hh ∧ meth.sig.returnType = ret ∧ meth.locks = false ∧ parseMethodDescriptor y.desc = some meth.sig := by
  cases hh with
  | nil =>
    obtain ⟨m, hn⟩ := Cond.code_named h
    obtain ⟨meth, c, h1, h2, h3, h4, h5, h6, h7, h8⟩ := Cond.code_spec hn h
    refine ⟨m, meth, c, hn, h1, h2, h3, h4, ?_, h5, h6, h8⟩
    have : c.exceptionTable = #[] := by simpa using h7
    rw [this]
    rfl
  | cons q r =>
    obtain ⟨m, meth, c, hn, h1, h2, h3, h4, h5, h6, h7, h8⟩ := Cond.codeWith_spec h
    exact ⟨m, meth, c, hn, h1, h2, h3, h4, by rw [← h5, table_eq], h6, h7, h8⟩
theorem z_ofW {l : Launch} {y : MethodName} {ws : List Cond} {rm : Room} {Pc : Array Value → State → Prop} {Qc : Array Value → State → Outcome → State → Prop} {k n : Nat} {free : Addr → Prop} {cc : ByteArray} {maxL : Nat} {ret : Option FieldType} {hh : List (Nat × Nat × Nat × Nat)}
    (hy : plainName y.cls = true) (hw : z_cw y cc maxL ret hh ∈ ws)
    (body : ∀ p e s m args below meth c s₁, BodyLoose p l y (headSpec ws rm) cc maxL ret e s m args below meth c s₁ → c.maxLocals = maxL → c.exceptionTable.toList = tableOf hh → Pc args s →
      W p l e rm s m args below meth c s.heap [] 0 0 (z_MQ below Qc args s k n free) (entryFrame m args maxL)) : z_Met l y ws rm Pc Qc k n free := by
  refine MetFree.of_bodyS (code := cc) (maxLocals := maxL) (ret := ret) hy ?_ ?_
  · intro args s m h hn
    obtain ⟨m', meth, c, hn', h1, h2, h3, h4, -, h6, h7, -⟩ := z_cw_spec (atoms_spec (ws := ws) h _ hw)
    cases hn.symm.trans hn'
    exact ⟨meth, c, h1, h2, h3, h4, h6, h7⟩
  · intro p e s m args below meth c s₁ B hml hP _
    obtain ⟨m', meth', c', hn', h1, h2, -, -, h5, -⟩ := z_cw_spec (atoms_spec (ws := ws) B.pre _ hw)
    cases B.named.symm.trans hn'
    cases B.method.symm.trans h1
    have X₀ : Stand p l e rm s m args below meth c s₁ [] 0 0 := Stand.of_body B
    cases X₀.code.symm.trans h2
    have hh0 : s₁.heap = s.heap := by rw [B.state]; rfl
    obtain ⟨t, a1, o, b1, b2, b3⟩ := body p e s m args below meth c s₁ B hml h5 hP s₁ hh0 X₀
    exact ⟨t, o, a1, b1, b2, b3⟩
section ZCALL
variable {p : Program} {l : Launch} {e : Env} {R : Room} {s : State} {m : MethodId} {args : Array Value} {below : List Frame} {meth : Method} {c : Code} {T : State} {H : Heap} {locs : List Loc} {cells slots : Nat} {Q : State → Prop}
/-- where the machine comes to behind a callee that ended with o -/
def z_Aft (e : Env) (p : Program) (below : List Frame) (u T' : State) (g : JFrame) (len : Nat) (o : Outcome) : Prop := match o with
  | .returned v => Steps p.tables e below u (T'.setTop { g with pc := g.pc + len, stack := v.toList ++ g.stack })
  | .threw x => Steps p.tables e below u ((T'.setTop g).pushFrame (.throwing x))
set_option maxHeartbeats 1000000 in
theorem z_callee (X : Stand p l e R s m args below meth c T locs cells slots) {y : MethodName} {ws : List Cond} {rm : Room} {Pc : Array Value → State → Prop} {Qc : Array Value → State → Outcome → State → Prop} {k n : Nat} {free : Addr → Prop} (hM : z_Met l y ws rm Pc Qc k n free) (hbl : FrameBlind Pc)
    {maxL : Nat} (hfr : rm.frames + 1 ≤ R.frames) (hlo : 8 + (maxL + 11) + rm.locals ≤ R.locals) (hce : cells + rm.cells ≤ R.cells) (hsl : slots + rm.slots ≤ R.slots)
    {g : JFrame} (hg : g.method = m) (hsize : g.locals.size = c.maxLocals) {ig : Instr} {len : Nat} (hdg : decode c.code g.pc = .ok (ig, len)) (hW : 2 * g.monitorRoom + (g.stack.map fun v => v.category).sum ≤ 8)
    {mk : MethodId} (hn : T.methodNamed? y = some mk) {methY : Method} {cY : Code} (hmY : T.vm.method? mk = some methY) (hcY : methY.code = some cY) (hlY : cY.maxLocals = maxL) {a : Array Value} (hws : ∀ w ∈ ws, w.before a T = true) (hini : (Cond.initialized y.cls).before a T = true) (hPc : Pc a T) :
    ∃ (o : Outcome) (t T' : State) (L : List Loc), Stand p l e R s m args below meth c T' (locs ++ L) (cells + k) (slots + n) ∧ (∀ q ∈ L, free q.base) ∧ T'.heap = t.heap ∧ T'.vm = t.vm ∧ Qc a (T.calling g mk a) o t ∧ z_Aft e p below (doInvoke e (T.setTop g) [] mk a).1 T' g len o := by
  obtain ⟨kY, hkY, -⟩ := className_of_methodNamed hn
  have hinitY : kY.init = .initialized := Cond.initialized_spec (findClass_of_methodNamed hn) hkY hini
  have hat : At T g.method c below := by rw [hg]; exact X.here
  have happ : (headSpec ws rm).appliesLoose y e.platform (T.calling g mk a) = true :=
    Spec.appliesLoose_calling (g := g) hat hdg hn hkY hinitY
      (X.room_calling (g := g) (R' := (headSpec ws rm).room) hsize hmY hcY hfr (by rw [hlY]; show _ + _ + rm.locals ≤ _; omega) hce hsl) (atoms_intro hws)
  obtain ⟨mid, hmid⟩ := hat.above
  have hfrs : (T.setTop g).frames = (.java g :: mid) ++ below := by rw [State.frames_setTop' g hat.top, hmid]; rfl
  obtain ⟨o, s₂, hsteps, -, hend, hq0⟩ := Steps.callFree hM p X.admits X.cas X.clock (acts := []) hfrs happ (hbl _ _ _ _ hPc) trivial
  have hq1 : Qc a (T.calling g mk a) o s₂ ∧ ∃ L, z_End (T.calling g mk a) s₂ L k n ∧ ∀ q ∈ L, free q.base := hq0
  obtain ⟨hq, L, hfe, hL⟩ := hq1
  rw [State.frames_setTop' g hat.top] at hend
  obtain ⟨hW₂, e2, q2, q3, q4, q5, q6⟩ := id hfe
  have hW' : T.WarmedH s₂.vm := hW₂
  have e3 : s₂ = ({ (T.calling g mk a).setFrames s₂.frames with heap := s₂.heap, slotsUsed := s₂.slotsUsed } : State).setVm s₂.vm := by
    have h0 : s₂ = ({ s₂ with vm := (T.calling g mk a).vm } : State).setVm s₂.vm := rfl
    rw [e2] at h0
    exact h0
  obtain ⟨g₀, hg0⟩ := Option.isSome_iff_exists.mp hat.top
  obtain ⟨r, hr⟩ := State.topJava?_eq_some.mp hg0
  generalize hTe : (({ T with heap := s₂.heap, slotsUsed := s₂.slotsUsed } : State).setVm s₂.vm) = T'
  have hr' : T'.frames = .java g₀ :: r := by rw [← hTe]; exact hr
  have hsame : T.sameButNew ({ T with heap := s₂.heap, slotsUsed := s₂.slotsUsed } : State) L k n := by
    refine ⟨?_, q2, q3, q4, q5, q6⟩
    obtain ⟨t, ht, -⟩ := State.frames_cons hr
    show ({ T with heap := s₂.heap, slotsUsed := s₂.slotsUsed } : State) = { T.setFrames T.frames with heap := s₂.heap, slotsUsed := s₂.slotsUsed }
    rw [State.setFrames_self ht]
  have X' : Stand p l e R s m args below meth c T' (locs ++ L) (cells + k) (slots + n) := by
    rw [← hTe]
    subst hg
    exact ⟨X.admits, X.cas, X.clock, X.frames, X.room, X.hears, X.method, X.code, (X.here.setHeapUsed s₂.heap s₂.slotsUsed).setVm hW'.alike, X.tail, State.WarmedH.trans X.warmed hW', X.limits, X.bytes, X.same.trans (hsame.setVm s.vm)⟩
  have e4 : s₂ = T'.setFrames s₂.frames := by
    refine e3.trans ?_
    rw [State.calling_eq hat.top, State.setFrames_setFrames, ← hTe]
    rfl
  refine ⟨o, s₂, T', L, X', hL, by rw [← hTe]; rfl, by rw [← hTe]; rfl, hq, ?_⟩
  cases o with
  | returned v =>
    obtain ⟨c₂, i₂, len₂, hc₂, hd₂, hf₂⟩ := hend
    have hcc : c₂ = c := by
      have h1 : s₂.code? g.method = T.code? g.method := by
        rw [State.code?_eq, State.code?_eq, hW'.alike.method?]
      exact Option.some.inj (hc₂.symm.trans (h1.trans hat.code))
    subst hcc
    have hlen : len₂ = len := by rw [hdg] at hd₂; cases hd₂; rfl
    subst hlen
    have hs₂ : s₂ = T'.setTop { g with pc := g.pc + len₂, stack := v.toList ++ g.stack } := by
      refine e4.trans ?_
      rw [hf₂, State.setTop_of_frames _ hr', hr]
      rfl
    show Steps p.tables e below _ (T'.setTop _)
    rw [← hs₂]
    exact hsteps
  | threw x =>
    have hf₂ : s₂.frames = .throwing x :: .java g :: T.frames.tail := hend
    have hs₂ : s₂ = (T'.setTop g).pushFrame (.throwing x) := by
      refine e4.trans ?_
      rw [hf₂, State.pushFrame, State.frames_setTop _ hr', State.setTop_of_frames _ hr', State.setFrames_setFrames, hr]
      rfl
    show Steps p.tables e below _ ((T'.setTop g).pushFrame _)
    rw [← hs₂]
    exact hsteps
/-- the three invocations up to the callee's entry -/
def z_Go (p : Program) (l : Launch) (e : Env) (R : Room) (s : State) (m : MethodId) (args : Array Value) (below : List Frame) (meth : Method) (c : Code) (H : Heap) (locs : List Loc) (cells slots : Nat) (y : MethodName) (g : JFrame) (rest : List Value) (a : Array Value) : Prop :=
  ∀ T : State, T.heap = H → Stand p l e R s m args below meth c T locs cells slots → ∃ (mk : MethodId) (vm₁ : Vm), s.methodNamed? y = some mk ∧ Stand p l e R s m args below meth c (T.setVm vm₁) locs cells slots ∧
    ∀ tg, Steps p.tables e below (doInvoke e ((T.setVm vm₁).setTop { g with stack := rest }) [] mk a).1 tg → Steps p.tables e below (T.setTop g) tg
/-- what the callee's words must say -/
def z_Sig (s : State) (y : MethodName) : Prop := ∃ (mk : MethodId) (methM : Method), s.methodNamed? y = some mk ∧ s.vm.method? mk = some methM ∧ parseMethodDescriptor y.desc = some methM.sig
theorem z_goV (hexec : p.tables.exec = Jvm.exec) {own C : String} {index : Nat} {y : MethodName} (hown : s.vm.findClass own = some m.cls) (hlink : (Cond.methodLink own index y).before args s = true) (hinst : (Cond.instanceMethod y).before args s = true) (hsel : (Cond.selects C y y).before args s = true) (hsig : z_Sig s y) (hy : y.cls ≠ "java/lang/invoke/MethodHandle" ∧ y.cls ≠ "java/lang/invoke/VarHandle")
    {b : Addr} {cellB : Cell} (hcell : H[b]? = some cellB) (hobj : cellB.vm.isStatics = false) (hcls : s.vm.findClass C = some cellB.cls) {g : JFrame} (hg : g.method = m) {argsL rest : List Value} (hlen : ∀ sig, parseMethodDescriptor y.desc = some sig → argsL.length = sig.parameters.length) (hstack : g.stack = argsL.reverse ++ .ref b :: rest) (hdg : decode c.code g.pc = .ok (.invokevirtual index, 3)) :
    z_Go p l e R s m args below meth c H locs cells slots y g rest (Value.ref b :: argsL).toArray := by
  intro T hT X
  obtain ⟨mk, methM, hnamed, hmethM, hstM, habM⟩ := Cond.instanceMethod_spec hinst
  obtain ⟨mk', methM', hnamed', hmethM', hsigM⟩ := hsig
  cases hnamed.symm.trans hnamed'
  cases hmethM.symm.trans hmethM'
  obtain ⟨c2, r2, m2, q1, q2, q3, q4, kP, hkP, hkPi⟩ := Cond.selects_spec hsel
  cases hcls.symm.trans q1
  cases (State.methodFound?_of_named hnamed hy).symm.trans q2
  cases hnamed.symm.trans q3
  have hselP : selectMethod e.platform s.vm cellB.cls mk = .method mk := by rw [Launch.admits_selectMethod X.admits]; exact q4
  obtain ⟨vm₁, X₁, hstep₁⟩ := X.invokevirtual hexec hown hlink hnamed hmethM hstM hkP hkPi hy (a := b) (cell := cellB) (by rw [hT]; exact hcell)
    (fun z h => by rw [h] at hobj; cases hobj) hselP hmethM habM hkP hkPi (g := g) hg (argsL := argsL) (rest := rest) (hlen _ hsigM) hstack hdg
  exact ⟨mk, vm₁, hnamed, X₁, fun tg h => hstep₁ _ fun acts => by rw [doInvoke_state]; exact h⟩
theorem z_goS (hexec : p.tables.exec = Jvm.exec) {own : String} {index : Nat} {y : MethodName} (hown : s.vm.findClass own = some m.cls) (hlink : (Cond.methodLink own index y).before args s = true) (hstat : (Cond.static y).before args s = true) (hinit : (Cond.initialized y.cls).before args s = true) (hsig : z_Sig s y) (hy : y.cls ≠ "java/lang/invoke/MethodHandle" ∧ y.cls ≠ "java/lang/invoke/VarHandle")
    {g : JFrame} (hg : g.method = m) {argsL rest : List Value} (hlen : ∀ sig, parseMethodDescriptor y.desc = some sig → argsL.length = sig.parameters.length) (hstack : g.stack = argsL.reverse ++ rest) (hdg : decode c.code g.pc = .ok (.invokestatic index, 3)) :
    z_Go p l e R s m args below meth c H locs cells slots y g rest argsL.toArray := by
  intro T hT X
  obtain ⟨mk, methM, hnamed, hmethM, hsigM⟩ := hsig
  have hstatic : methM.isStatic = true := Cond.static_spec hnamed hmethM hstat
  obtain ⟨kP, hkP, -⟩ := className_of_methodNamed hnamed
  have hinitP : kP.init = .initialized := Cond.initialized_spec (findClass_of_methodNamed hnamed) hkP hinit
  obtain ⟨vm₁, X₁, hstep₁⟩ := X.invokestatic hexec hown hlink hnamed hmethM hstatic hkP hinitP hy (g := g) hg (argsL := argsL) (rest := rest) (hlen _ hsigM) hstack hdg
  exact ⟨mk, vm₁, hnamed, X₁, fun tg h => hstep₁ _ fun acts => by rw [doInvoke_state]; exact h⟩
theorem z_goN (hexec : p.tables.exec = Jvm.exec) {own host : String} {index : Nat} {y : MethodName} (hown : s.vm.findClass own = some m.cls) (hlink : (Cond.methodLinkNest own index y host).before args s = true) (hstat : (Cond.static y).before args s = true) (hinit : (Cond.initialized y.cls).before args s = true) (hsig : z_Sig s y) (hy : y.cls ≠ "java/lang/invoke/MethodHandle" ∧ y.cls ≠ "java/lang/invoke/VarHandle")
    {g : JFrame} (hg : g.method = m) {argsL rest : List Value} (hlen : ∀ sig, parseMethodDescriptor y.desc = some sig → argsL.length = sig.parameters.length) (hstack : g.stack = argsL.reverse ++ rest) (hdg : decode c.code g.pc = .ok (.invokestatic index, 3)) :
    z_Go p l e R s m args below meth c H locs cells slots y g rest argsL.toArray := by
  intro T hT X
  obtain ⟨mk, methM, hnamed, hmethM, hsigM⟩ := hsig
  have hstatic : methM.isStatic = true := Cond.static_spec hnamed hmethM hstat
  obtain ⟨kP, hkP, -⟩ := className_of_methodNamed hnamed
  have hinitP : kP.init = .initialized := Cond.initialized_spec (findClass_of_methodNamed hnamed) hkP hinit
  obtain ⟨vm₁, X₁, hstep₁⟩ := X.invokestaticNest hexec hown hlink hnamed hmethM hstatic hkP hinitP hy (g := g) hg (argsL := argsL) (rest := rest) (hlen _ hsigM) hstack hdg
  exact ⟨mk, vm₁, hnamed, X₁, fun tg h => hstep₁ _ fun acts => by rw [doInvoke_state]; exact h⟩
theorem z_goI (hexec : p.tables.exec = Jvm.exec) {own : String} {index : Nat} {y : MethodName} {bytes : ByteArray} {maxL : Nat} (hown : s.vm.findClass own = some m.cls) (hy1 : y.name = "<init>") (hlink : (Cond.methodLink own index y).before args s = true) (hinst : (Cond.instanceMethod y).before args s = true) (hcode : (Cond.code y bytes maxL none).before args s = true) (hy : y.cls ≠ "java/lang/invoke/MethodHandle" ∧ y.cls ≠ "java/lang/invoke/VarHandle")
    {b : Addr} {g : JFrame} (hg : g.method = m) {argsL rest : List Value} (hlen : ∀ sig, parseMethodDescriptor y.desc = some sig → argsL.length = sig.parameters.length) (hstack : g.stack = argsL.reverse ++ .ref b :: rest) (hdg : decode c.code g.pc = .ok (.invokespecial index, 3)) :
    z_Go p l e R s m args below meth c H locs cells slots y g rest (Value.ref b :: argsL).toArray := by
  intro T hT X
  subst hg
  have hpl : e.platform.magicAccessors = ({} : Platform).magicAccessors := by rw [X.admits.platform]
  obtain ⟨mk, methM, cM, kP, vm₁, hnamed, hmethM, hcodeM, -, hlocalsM, -, hkP, -, hW₁, hstep₁⟩ := Steps.initColdArgs (e := e) X.here hexec X.warmed hpl hown hy1 hy hlink hinst hcode (f := g) rfl hlen hstack hdg
  exact ⟨mk, vm₁, hnamed, X.noted hW₁, fun tg h => hstep₁ _ fun acts => by rw [doInvoke_state]; exact h⟩
/-- A CALL: the callee has returned, or thrown -/
theorem z_call {y : MethodName} {ws : List Cond} {rm : Room} {Pc : Array Value → State → Prop} {Qc : Array Value → State → Outcome → State → Prop} {k n : Nat} {free : Addr → Prop} {pc : Nat} {ls : Array Slot} {st0 rest : List Value} {a : Array Value}
    (hgo : z_Go p l e R s m args below meth c H locs cells slots y (F0 m pc ls st0) rest a) (hM : z_Met l y ws rm Pc Qc k n free) (hbl : FrameBlind Pc) {cc : ByteArray} {maxL : Nat} {ret : Option FieldType} {hh : List (Nat × Nat × Nat × Nat)} (hw : z_cw y cc maxL ret hh ∈ ws)
    (hfr : rm.frames + 1 ≤ R.frames) (hlo : 8 + (maxL + 11) + rm.locals ≤ R.locals) (hce : cells + rm.cells ≤ R.cells) (hsl : slots + rm.slots ≤ R.slots) (hls : ls.size = c.maxLocals) {ig : Instr} (hdg : decode c.code pc = .ok (ig, 3)) (hW : (rest.map fun v => v.category).sum ≤ 8)
    (hws : ∀ w ∈ ws, ∀ (a' : Array Value) (U : State), s.WarmedH U.vm → w.before a' U = true) (hini : ∀ (a' : Array Value) (U : State), s.WarmedH U.vm → (Cond.initialized y.cls).before a' U = true) (hPc : ∀ U : State, U.heap = H → s.WarmedH U.vm → Pc a U)
    (kk : ∀ (o : Outcome) (st t T' : State) (L : List Loc), st.heap = H → T'.heap = t.heap → T'.vm = t.vm → s.vm.Alike t.vm → Qc a st o t → (∀ q ∈ L, free q.base) → Stand p l e R s m args below meth c T' (locs ++ L) (cells + k) (slots + n) → ∃ t2, (∀ u, z_Aft e p below u T' (F0 m pc ls rest) 3 o → Steps p.tables e below u t2) ∧ Q t2) :
    W p l e R s m args below meth c H locs cells slots Q (F0 m pc ls st0) := by
  intro T hT X
  obtain ⟨mk, vm₁, hn, X₁, st⟩ := hgo T hT X
  have hn₁ : (T.setVm vm₁).methodNamed? y = some mk := X₁.named hn
  obtain ⟨mk', methY, cY, hn', h1, h2, -, h4, -⟩ := z_cw_spec (hws _ hw a (T.setVm vm₁) X₁.warmed)
  cases hn₁.symm.trans hn'
  obtain ⟨o, t, T', L, X', hL, e1, e2, hq, haft⟩ := z_callee X₁ hM hbl hfr hlo hce hsl (g := F0 m pc ls rest) rfl hls hdg (by show 2 * 0 + (rest.map fun v => v.category).sum ≤ 8; omega) hn₁ h1 h2 h4 (a := a) (fun w h => hws w h _ _ X₁.warmed) (hini _ _ X₁.warmed) (hPc _ hT X₁.warmed)
  obtain ⟨t2, k1, k2⟩ := kk o _ t T' L (show ((T.setVm vm₁).calling _ _ _).heap = H from hT) e1 e2 (by rw [← e2]; exact X'.warmed.alike) hq hL X'
  exact ⟨t2, st t2 (k1 _ haft), k2⟩
end ZCALL
