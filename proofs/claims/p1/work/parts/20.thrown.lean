/-! 'throw new X()' and 'throw new X(text)', out of the method. -/
theorem z_kept {s t : State} {k n : Nat} (h : s.sameButNew t [] k n) : ∀ q : Nat, q < s.heap.size → t.heap[q]? = s.heap[q]? := by
  intro q hq
  obtain ⟨c', h1, h2, h3, h4⟩ := h.2.2.2.2.2 q s.heap[q] (Array.getElem?_eq_getElem hq)
  have h5 : c'.slots = s.heap[q].slots := Array.ext_getElem? fun i => h4 i (by simp)
  rw [h1, Array.getElem?_eq_getElem hq, h2, h5]
theorem z_same {T t : State} {F : List Frame} {L : List Loc} {k n : Nat} (h : (T.setFrames F).sameButNew t L k n) : T.sameButNew t L k n := by
  obtain ⟨e, r⟩ := h
  rw [State.setFrames_setFrames] at e
  exact ⟨e, r⟩
section ZTHN
variable {p : Program} {l : Launch} {e : Env} {R : Room} {s : State} {m : MethodId} {args : Array Value} {below : List Frame} {meth : Method} {c : Code} {H : Heap} {locs : List Loc} {cells slots : Nat}
variable {ad : Nat → Nat} {dA : Nat → ClassId} {D : va_G} {cl : List vw_C} {sz : Nat} {cc : ByteArray} {ls : Array Slot} {pc : Nat} {st : List Value} {tys : List (ClassId × FieldType)}
/-- what a walk of the throw must come to, begun anew where the machine stands -/
def z_TQ (s' : State) (below : List Frame) (a : Nat) (cls : String) : State → Prop := fun t => t.status = .running ∧ Ended t below (.threw a) ∧ s'.WarmedH t.vm ∧ s'.sameButNew ({ t with vm := s'.vm } : State) [] 1 6 ∧ ∃ ce : Cell, t.heap[a]? = some ce ∧ s'.vm.findClass cls = some ce.cls ∧ ce.vm = .none
theorem z_thrown {K : Nat} (had : ∀ i, ad (K + i) = sz + i) {h : List z_E} (hP : va_P D cl (z_W ad dA K h) H) (hS : va_S (z_A sz) s.heap H locs) {n0 s0 : Nat} (hn0 : s.heap.size = sz + n0) (hce : cells + n0 = h.length) (hK : va_K D cl tys s) {ci : Nat} {cls : String} {T0 : u_T} (hc : cl[ci]? = some (cls, T0, 0)) (hrc : cells + 1 ≤ R.cells) (hrs : slots + 6 ≤ R.slots)
    (hk : ∀ s' : State, s'.heap = H → s.WarmedH s'.vm → W p l e { R with cells := R.cells - cells, slots := R.slots - slots } s' m args below meth c H [] 0 0 (z_TQ s' below H.size cls) (F0 m pc ls st)) :
    W p l e R s m args below meth c H locs cells slots (z_MQ below (z_Qc sz D cl ad dA K (.inr (K + h.length)) (h ++ [.inr (ci, [])])) args s (cells + 1) (slots + 6) (z_A sz)) (F0 m pc ls st) := by
  refine z_pin (N := sz + h.length) (by omega) (fun hle => ?_)
  have hge := z_size had hP hS hn0 (by omega)
  intro T hT X
  have X' := z_rebase X (by omega) (by omega)
  obtain ⟨t, h1, h2, h3, h4, h5, ce, h6, h7, h8⟩ := hk (T.setFrames (.invoking m args :: below)) hT X.warmed T hT X'
  have hsize : H.size = ad (K + h.length) := by rw [had]; omega
  have h9 : T.sameButNew ({ t with vm := T.vm } : State) [] 1 6 := z_same h5
  have hkp : ∀ q : Nat, q < H.size → t.heap[q]? = H[q]? := by
    intro q hq
    have := z_kept h9 q (by rw [hT]; exact hq)
    rw [← hT]
    exact this
  have hW : s.WarmedH t.vm := State.WarmedH.trans X.warmed h4
  have hcls : D.1 ci = ce.cls := by
    have q1 : s.vm.findClass cls = some (D.1 ci) := (hK.1 ci _ hc).2.1
    have q2 : (T.setFrames (.invoking m args :: below)).vm.findClass cls = s.vm.findClass cls := X.warmed.alike.findClass cls _
    rw [q2, q1] at h7
    exact Option.some.inj h7
  refine ⟨t, h1, .threw H.size, h2, h3, ⟨?_, ?_, ?_⟩, locs, ⟨hW, ?_⟩, hS.2.2⟩
  · rw [hsize]
    rfl
  · rw [z_W_app]
    refine va_P.app (hP.kept fun k q hq => hkp q.1 ((hP k q hq).lt)) (fun k q hq => ?_)
    have hz : k < 1 := (List.getElem?_eq_some_iff.mp hq).1
    rw [show k = 0 by omega] at hq
    cases hq
    refine ⟨_, hc, ce, ?_, hcls.symm, h8, fun j hj => absurd hj (Nat.not_lt_zero _)⟩
    show t.heap[ad (K + h.length)]? = some ce
    rw [← hsize]
    exact h6
  · refine ⟨?_, fun q hq hA => ?_⟩
    · have q1 := hS.1
      have q2 : H.size < t.heap.size := (Array.getElem?_eq_some_iff.mp h6).1
      omega
    · have q1 := hS.1
      rw [hkp q (by omega)]
      exact hS.2.1 q hq hA
  · have q1 := X.same.trans (h9.setVm s.vm)
    rw [List.append_nil] at q1
    exact q1
/-- new, dup, the constructor, athrow -/
theorem z_throw0 (hx : p.tables.exec = Jvm.exec) (hb : c.code = cc) (htr : e.platform.stackTraces = false) (hlk : meth.locks = false) (hls : ls.size = c.maxLocals) {own cls : String} {idx ic : Nat} {names : List String} (hfit : Bundle.fit cls = true) (hnm : ∀ n ∈ names, Bundle.fit n = true)
    (hown : s.vm.findClass own = some m.cls) (hlink : (Cond.classLink own idx cls).before args s = true) (hins : (Cond.instantiable cls 6).before args s = true) (hini : (Cond.initialized cls).before args s = true) (hat : ∀ a ∈ Bundle.ownAtoms0 own ic cls names, a.before args s = true)
    (hd0 : decode cc pc = .ok (.new idx, 3)) (hd3 : decode cc (pc + 3) = .ok (.dup, 1)) (hd4 : decode cc (pc + 4) = .ok (.invokespecial ic, 3)) (hd7 : decode cc (pc + 7) = .ok (.athrow, 1)) (hout : ∀ x ∈ c.exceptionTable.toList, covers x (pc + 7) = false)
    (hfr : names.length + 3 < R.frames) (hlo : (st.map fun v => v.category).sum + 1 + (13 * (names.length + 1) + 41) ≤ R.locals) (hrc : 1 ≤ R.cells) (hrs : 6 ≤ R.slots) (hH : s.heap = H) :
    W p l e R s m args below meth c H [] 0 0 (z_TQ s below H.size cls) (F0 m pc ls st) := by
  refine W.newc hx hb hown hlink hins hini rfl hd0 (by omega) (by omega) (fun cC kC q1 q2 q3 q4 => ?_)
  refine lv_dup (ls := ls) (rest := st) (va := .ref H.size) hx hb hd3 rfl ?_
  intro T hT X
  obtain ⟨U, a1, a2, a3, a4, a5, ce, a6, a7⟩ := X.ctorThrow0 hx htr hown hfit hnm hat (fun x hx => by cases hx) q1 q2 (a := H.size) (by rw [hT]; simp) (by rw [hH]; exact Nat.le_refl _) (g := F0 m (pc + 4) ls (.ref H.size :: .ref H.size :: st)) rfl hls rfl rfl (rest := st) rfl (by rw [hb]; exact hd4) (by rw [hb]; exact hd7) hout hfr (by
    show 2 * 0 + ((Value.ref H.size :: st).map fun v => v.category).sum + _ ≤ _
    have : ((Value.ref H.size :: st).map fun v => v.category).sum = 1 + (st.map fun v => v.category).sum := rfl
    omega) hlk
  exact ⟨U, a1, a2, a3, a4, a5, ce, a6, a7.cls, a7.vm⟩
/-- new, dup, ldc, the constructor, athrow -/
theorem z_throwS (hx : p.tables.exec = Jvm.exec) (hb : c.code = cc) (htr : e.platform.stackTraces = false) (hlk : meth.locks = false) (hls : ls.size = c.maxLocals) {own cls tx : String} {idx ic ix q : Nat} {names : List String} (hfit : Bundle.fit cls = true) (hnm : ∀ n ∈ names, Bundle.fit n = true)
    (hown : s.vm.findClass own = some m.cls) (hlink : (Cond.classLink own idx cls).before args s = true) (hins : (Cond.instantiable cls 6).before args s = true) (hini : (Cond.initialized cls).before args s = true) (hat : ∀ a ∈ Bundle.ownAtoms own ic cls names, a.before args s = true) (hZ : vk_R own ix tx q s)
    (hd0 : decode cc pc = .ok (.new idx, 3)) (hd3 : decode cc (pc + 3) = .ok (.dup, 1)) (hd4 : decode cc (pc + 4) = .ok (.ldc ix, 2)) (hd6 : decode cc (pc + 6) = .ok (.invokespecial ic, 3)) (hd9 : decode cc (pc + 9) = .ok (.athrow, 1)) (hout : ∀ x ∈ c.exceptionTable.toList, covers x (pc + 9) = false)
    (hfr : names.length + 3 < R.frames) (hlo : (st.map fun v => v.category).sum + 1 + (13 * (names.length + 1) + 42) ≤ R.locals) (hrc : 1 ≤ R.cells) (hrs : 6 ≤ R.slots) (hH : s.heap = H) :
    W p l e R s m args below meth c H [] 0 0 (z_TQ s below H.size cls) (F0 m pc ls st) := by
  refine W.newc hx hb hown hlink hins hini rfl hd0 (by omega) (by omega) (fun cC kC q1 q2 q3 q4 => ?_)
  refine lv_dup (ls := ls) (rest := st) (va := .ref H.size) hx hb hd3 rfl ?_
  refine va_ldcS hx hb hown hZ hd4 ?_
  intro T hT X
  obtain ⟨U, a1, a2, a3, a4, a5, ce, a6, a7⟩ := X.ctorThrowS hx htr hown hfit hnm hat (fun x hx => by cases hx) q1 q2 (a := H.size) (by rw [hT]; simp) (by rw [hH]; exact Nat.le_refl _) (msg := .ref q) rfl (g := F0 m (pc + 6) ls (.ref q :: .ref H.size :: .ref H.size :: st)) rfl hls rfl rfl (rest := st) rfl (by rw [hb]; exact hd6) (by rw [hb]; exact hd9) hout hfr (by
    show 2 * 0 + ((Value.ref H.size :: st).map fun v => v.category).sum + _ ≤ _
    have : ((Value.ref H.size :: st).map fun v => v.category).sum = 1 + (st.map fun v => v.category).sum := rfl
    omega) hlk
  exact ⟨U, a1, a2, a3, a4, a5, ce, a6, a7.cls, a7.vm⟩
end ZTHN
