/-! The law out of one run of the plain machine. -/
def R_law : String := "FiberWorksLaw"
def lw_Q (_ : Array Value) (s : State) (o : Outcome) (t : State) : Prop := o = .returned (some (.int 1)) ∧ Framed s o t [] 601024 7293034
def lw_Z (below : List Frame) (a : Array Value) (s : State) : State → Prop := fun t => ∃ o, t.status = .running ∧ Ended t below o ∧ lw_Q a s o t
/-- what holds at the law's entry -/
def lw_At (p : Program) (e : Env) (s : State) (m : MethodId) (meth : Method) (c : Code) (b L : Nat) (xs : Nat → Int32) : Prop :=
  p.tables.exec = Jvm.exec ∧ c.code = code ∧ meth.sig.returnType = ret ∧ c.maxLocals = 7 ∧ s.vm.findClass R_law = some m.cls ∧ (∀ w ∈ lw_tbl, w.before #[Value.ref b] s = true) ∧ va_X b L xs s s.heap ∧ b < s.heap.size ∧ meth.locks = false ∧ (Jvm.Cond.and given_1 narrow_1).before #[Value.ref b] s = true ∧
  meth.name = (z_my 0).name ∧ c.exceptionTable.toList = [] ∧ e.platform.stackTraces = false
/-- what the plain machine must come to -/
def z_Run (L : Nat) (xs : Nat → Int32) : Prop := ∀ fv : Value, fv = .null ∨ fv = .ref 106 → ∃ (N : Nat) (S : z_S), z_ev (z_g L xs fv) z_pg (z_bj (z_g L xs fv)) N 2048 84000 0 0 (lv_args 0 [.ref 39]) [] ([], 0) = some (.inl (some (.int 1)), S) ∧ S.1.length ≤ 601024 ∧ S.2 ≤ 7293034
set_option maxHeartbeats 4000000 in
theorem z_law {p : Program} {e : Env} {s : State} {m : MethodId} {below : List Frame} {meth : Method} {c : Code} {l : Launch} (htr : ∀ e, l.admits e → e.platform.stackTraces = false) {b L : Nat} {xs : Nat → Int32} (C0 : lw_At p e s m meth c b L xs) (hR : z_Run L xs) :
    W p l e room_1 s m #[Value.ref b] below meth c s.heap [] 0 0 (lw_Z below #[Value.ref b] s) (entryFrame m ([Value.ref b] : List Value).toArray 7) := by
  obtain ⟨hx, hb, hr, hml, hown, hts, hX, hbl, hlk, hgv, hnm, htb, he⟩ := C0
  obtain ⟨fv, ad, D, dA, hfv, h39, had, hlo, hinj, hWo⟩ := z_world (xs := xs) hts hgv hX hbl
  obtain ⟨N, S', h, hc, hs⟩ := hR fv hfv
  have hzs : ∀ w ∈ z_ws, w.before #[Value.ref b] s = true := fun w hw => hts w (z_win w hw)
  have hy := z_hyp (l := l) htr (L := L) (xs := xs) (fv := fv) (D := D) (dA := dA) had hlo hinj
  have hl := lv_entry ([Value.ref b]) (n := 7) (Nat.le_of_ble_eq_true rfl)
  rw [lg_entry_eq]
  generalize (lg_sl ([Value.ref b]) ++ List.replicate (7 - (lg_sl ([Value.ref b])).length) Slot.unset).toArray = ls at hl ⊢
  have hl' : lv_has ls 7 (z_trL ad (lv_args 0 [.ref 39])) := by
    have e1 : z_trL ad (lv_args 0 [.ref 39]) = lv_args 0 [Value.ref b] := by
      rw [← z_args_tr]
      show lv_args 0 [.ref (ad 39)] = _
      rw [h39]
    rw [e1]
    exact hl
  have hcx : z_Cx z_my z_mb z_pg z_ws 0 p e s m #[Value.ref b] meth c := ⟨hx, hb, hml, hown, hzs, hr, hlk, hnm, htb, he⟩
  have hok : z_okX z_my z_pg z_cl z_ws 0 := by
    intro k q x hk
    have hk : ([] : List (Nat × Nat × Nat × Nat))[k]? = some q := hk
    cases hk
  have hat : z_At (z_g L xs fv) z_pg s.heap.size D z_cl ad dA room_1 s s.heap [] 0 0 0 0 2048 84000 0 ls (lv_args 0 [.ref 39]) ([], 0) :=
    ⟨hl', (fun k q hk => by cases hk), va_S.rf, rfl, rfl, rfl, (by show (601024 : Nat) ≤ 601024 + 0; omega), (by show (7293034 : Nat) ≤ 7293034 + 0; omega), (by show (2048 : Nat) ≤ 2048; omega), (by show (84000 : Nat) ≤ 84000; omega)⟩
  refine W.monoQ ?_ (z_walk hy N h hok hcx hWo hat)
  rintro t ⟨o, h1, h2, ⟨h3, -, -⟩, Lc, ⟨h4, h5⟩, h6⟩
  refine ⟨o, h1, h2, h3, ⟨_, h3⟩, h4, ?_⟩
  exact ((State.sameButNew.drop_fresh (L := []) h5 h6).mono (by omega) (by omega))
theorem z_Run_of {L : Nat} {xs : Nat → Int32} (h : ∀ fv : Value, fv = .null ∨ fv = .ref 106 → ∃ S : z_S, z_Rn L xs fv 2048 84000 0 0 (lv_args 0 [.ref 39]) [] ([], 0) (.inl (some (.int 1)), S) ∧ S.1.length ≤ 601024 ∧ S.2 ≤ 7293034) : z_Run L xs := by
  intro fv hfv
  obtain ⟨S, ⟨n, hn⟩, h1, h2⟩ := h fv hfv
  exact ⟨n, S, hn, h1, h2⟩
