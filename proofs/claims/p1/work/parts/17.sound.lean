/-! THE PLAIN MACHINE IS SOUND: what it computes, the machine does. -/
def z_Qc (sz : Nat) (D : va_G) (cl : List vw_C) (ad : Nat → Nat) (dA : Nat → ClassId) (K : Nat) (o : z_O) (h : List z_E) : Array Value → State → Outcome → State → Prop := fun _ st oc t => oc = z_oc ad o ∧ va_P D cl (z_W ad dA K h) t.heap ∧ va_F (z_A sz) st t
def z_Pc (sz : Nat) (D : va_G) (cl : List vw_C) (ad : Nat → Nat) (dA : Nat → ClassId) (K : Nat) (Wd : State → Prop) (as : List Value) (h : List z_E) : Array Value → State → Prop := fun a U => a = (as.map (z_tr ad)).toArray ∧ Wd U ∧ va_P D cl (z_W ad dA K h) U.heap ∧ U.heap.size = sz + h.length
/-- a method's own facts where it runs -/
def z_Cx (my : Nat → MethodName) (mb : Nat → ByteArray) (P : z_Q) (Ts : List Cond) (mi : Nat) (p : Program) (e : Env) (s : State) (m : MethodId) (args : Array Value) (meth : Method) (c : Code) : Prop :=
  p.tables.exec = Jvm.exec ∧ c.code = mb mi ∧ c.maxLocals = P.2.1 mi ∧ s.vm.findClass (my mi).cls = some m.cls ∧ (∀ w ∈ Ts, w.before args s = true) ∧ meth.sig.returnType = P.2.2.1 mi ∧ meth.locks = false ∧ meth.name = (my mi).name ∧ c.exceptionTable.toList = tableOf (P.2.2.2.1 mi) ∧ e.platform.stackTraces = false
/-- how a walk stands -/
def z_At (G : z_G) (P : z_Q) (sz : Nat) (D : va_G) (cl : List vw_C) (ad : Nat → Nat) (dA : Nat → ClassId) (R : Room) (s : State) (H : Heap) (locs : List Loc) (cells slots n0 s0 f w mi : Nat) (ls : Array Slot) (lv : List (Nat × Value)) (S : z_S) : Prop :=
  lv_has ls (P.2.1 mi) (z_trL ad lv) ∧ va_P D cl (z_W ad dA G.1.1 S.1) H ∧ va_S (z_A sz) s.heap H locs ∧ s.heap.size = sz + n0 ∧ cells + n0 = S.1.length ∧ slots + s0 = S.2 ∧ G.1.2.2.1 ≤ R.cells + n0 ∧ G.1.2.2.2 ≤ R.slots + s0 ∧ f ≤ R.frames ∧ w ≤ R.locals
theorem W.monoQ {p : Program} {l : Launch} {e : Env} {R : Room} {s : State} {m : MethodId} {args : Array Value} {below : List Frame} {meth : Method} {c : Code} {H : Heap} {locs : List Loc} {cells slots : Nat} {Q Q' : State → Prop} {g : JFrame} (h : ∀ t, Q t → Q' t) (k : W p l e R s m args below meth c H locs cells slots Q g) : W p l e R s m args below meth c H locs cells slots Q' g := by
  intro T hT X
  obtain ⟨t, a, b⟩ := k T hT X
  exact ⟨t, a, h t b⟩
theorem z_MQ.ofMQ {below : List Frame} {Qc : Array Value → State → Outcome → State → Prop} {a : Array Value} {s : State} {k n : Nat} {free : Addr → Prop} (t : State) (h : MQ below Qc a s k n free t) : z_MQ below Qc a s k n free t := by
  obtain ⟨o, h1, h2, h3, L, ⟨-, h4, h5⟩, h6⟩ := h
  exact ⟨o, h1, h2, h3, L, ⟨h4, h5⟩, h6⟩
section ZSO
variable {p : Program} {l : Launch} {e : Env} {R : Room} {s : State} {m : MethodId} {args : Array Value} {below : List Frame} {meth : Method} {c : Code} {H : Heap} {locs : List Loc} {cells slots : Nat}
variable {ad : Nat → Nat} {dA : Nat → ClassId} {D : va_G} {cl : List vw_C} {Ts : List Cond} {sz : Nat}
theorem z_size {K : Nat} (had : ∀ i, ad (K + i) = sz + i) {h : List z_E} (hP : va_P D cl (z_W ad dA K h) H) (hS : va_S (z_A sz) s.heap H locs) {n0 : Nat} (hn0 : s.heap.size = sz + n0) (hle : n0 ≤ h.length) : sz + h.length ≤ H.size := by
  rcases Nat.lt_or_ge n0 h.length with h1 | h1
  · have hl : h.length - 1 < h.length := by omega
    have h2 := z_W_get (ad := ad) (dA := dA) (K := K) (List.getElem?_eq_getElem hl)
    have h3 := (hP _ _ h2).lt
    simp only [had] at h3
    omega
  · have := hS.1
    omega
/-- a method returns -/
theorem z_ret_ok {G : z_G} {P : z_Q} {my : Nat → MethodName} {mb : Nat → ByteArray} {f w mi pc : Nat} {lv : List (Nat × Value)} {st : List Value} {S : z_S} {n0 s0 : Nat} {ls : Array Slot} {i : Instr} {len : Nat} {v : Option Value}
    (hcx : z_Cx my mb P Ts mi p e s m args meth c) (hat : z_At G P sz D cl ad dA R s H locs cells slots n0 s0 f w mi ls lv S) (hdg : decode (mb mi) pc = .ok (i, len)) (h : z_ret (P.2.2.1 mi) i len st = some v) :
    W p l e R s m args below meth c H locs cells slots (z_MQ below (z_Qc sz D cl ad dA G.1.1 (.inl v) S.1) args s (S.1.length - n0) (S.2 - s0) (z_A sz)) (F0 m pc ls (st.map (z_tr ad))) := by
  obtain ⟨hx, hb, hml, hown, hts, hr, hlk, hnm, htb, htr⟩ := hcx
  obtain ⟨hl, hP, hS, hn0, hce, hsl, hRc, hRs, hf, hw⟩ := hat
  have e1 : S.1.length - n0 = cells := by omega
  have e2 : S.2 - s0 = slots := by omega
  rw [e1, e2]
  have hq : ∀ (o : Option Value), o = v.map (z_tr ad) → ∀ t : State, t.heap = H → s.WarmedH t.vm → z_Qc sz D cl ad dA G.1.1 (.inl v) S.1 args s (.returned o) t := by
    intro o ho t ht _
    refine ⟨by rw [ho]; rfl, by rw [ht]; exact hP, hS.F ht⟩
  have hfr : ∀ q ∈ locs, z_A sz q.base := hS.2.2
  unfold z_ret at h
  split at h
  · split at h
    · rename_i hrt
      split at h
      · rename_i hlen
        subst hlen
        cases h
        exact W.monoQ z_MQ.ofMQ (W.vret hx hb (by rw [hr]; exact hrt) (hq none rfl) hfr hdg hlk)
      · cases h
    · cases h
  · split at h
    · rename_i ty x hrt
      split at h
      · rename_i hc
        obtain ⟨rfl, hn⟩ := hc
        cases h
        exact W.monoQ z_MQ.ofMQ (W.zret hx hb (by rw [hr]; exact hrt) hn (hq (some (.int x)) rfl) hfr hdg hlk)
      · cases h
    · cases h
  · split at h
    · rename_i C a hrt
      split at h
      · rename_i hlen
        subst hlen
        cases h
        exact W.monoQ z_MQ.ofMQ (W.aret hx hb (by rw [hr]; exact hrt) (Or.inl ⟨C, rfl⟩) (Or.inr ⟨ad a, rfl⟩) (hq (some (.ref (ad a))) rfl) hfr hdg hlk)
      · cases h
    · rename_i C a hrt
      split at h
      · rename_i hlen
        subst hlen
        cases h
        exact W.monoQ z_MQ.ofMQ (W.aret hx hb (by rw [hr]; exact hrt) (Or.inr ⟨C, rfl⟩) (Or.inr ⟨ad a, rfl⟩) (hq (some (.ref (ad a))) rfl) hfr hdg hlk)
      · cases h
    · rename_i C hrt
      split at h
      · rename_i hlen
        subst hlen
        cases h
        exact W.monoQ z_MQ.ofMQ (W.aret hx hb (by rw [hr]; exact hrt) (Or.inl ⟨C, rfl⟩) (Or.inl rfl) (hq (some .null) rfl) hfr hdg hlk)
      · cases h
    · rename_i C hrt
      split at h
      · rename_i hlen
        subst hlen
        cases h
        exact W.monoQ z_MQ.ofMQ (W.aret hx hb (by rw [hr]; exact hrt) (Or.inr ⟨C, rfl⟩) (Or.inl rfl) (hq (some .null) rfl) hfr hdg hlk)
      · cases h
    · cases h
  · cases h
end ZSO
