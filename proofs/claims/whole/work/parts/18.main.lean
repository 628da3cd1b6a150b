/-! The walk by the plain machine's own course. -/
/-- a word that stays true as the tables grow warmer -/
def z_good (w : Cond) : Prop := ((w.onTables && w.keeps) = true ∨ ∃ ty, w = .arrayClass ty) ∨ ∃ a i x h, w = .methodLinkNest a i x h
theorem z_wat {args a' : Array Value} {s U : State} (hW : s.WarmedH U.vm) {w : Cond} (hc : z_good w) (h : w.before args s = true) : w.before a' U = true := by
  rcases hc with hc | ⟨a, i, x, k, rfl⟩
  · exact word_at hW hc h
  · exact va_tabs rfl (rfl : (s.setVm U.vm).vm = U.vm) (Cond.methodLinkNest_warmed hW h)
/-- what the program's text must say of calls -/
def z_okC (my : Nat → MethodName) (P : z_Q) (cl : List vw_C) (Ts : List Cond) (own : String) (i : Instr) (aux : List Nat) : Prop := match i, aux with
  | .invokestatic idx, [0, mj, na, _] => (Cond.methodLink own idx (my mj) ∈ Ts ∨ ∃ host, Cond.methodLinkNest own idx (my mj) host ∈ Ts) ∧ Cond.static (my mj) ∈ Ts ∧ (parseMethodDescriptor (my mj).desc).map (fun d => d.parameters.length) = some na
  | .invokespecial idx, [0, mj, na, _] => Cond.methodLink own idx (my mj) ∈ Ts ∧ Cond.instanceMethod (my mj) ∈ Ts ∧ (my mj).name = "<init>" ∧ P.2.2.2.1 mj = [] ∧ P.2.2.1 mj = none ∧ (parseMethodDescriptor (my mj).desc).map (fun d => d.parameters.length) = some na
  | .invokevirtual idx, [0, mj, na, _] => Cond.methodLink own idx (my mj) ∈ Ts ∧ Cond.instanceMethod (my mj) ∈ Ts ∧ (∃ (C : String) (T : u_T) (N : Nat), cl[P.2.2.2.2.2 mj]? = some (C, T, N) ∧ Cond.selects C (my mj) (my mj) ∈ Ts) ∧ (parseMethodDescriptor (my mj).desc).map (fun d => d.parameters.length) = some na
  | .invokevirtual idx, [7, mj, na, _] => Cond.methodLink own idx (my mj) ∈ Ts ∧ Cond.instanceMethod (my mj) ∈ Ts ∧ Cond.selects "java/lang/String" (my mj) (my mj) ∈ Ts ∧ (parseMethodDescriptor (my mj).desc).map (fun d => d.parameters.length) = some na
  | .invokespecial idx, [1, _] => Cond.methodLink own idx Lib.objectInit ∈ Ts ∧ Cond.instanceMethod Lib.objectInit ∈ Ts ∧ Cond.code Lib.objectInit ⟨#[0xb1]⟩ 1 none ∈ Ts
  | _, _ => True
/-- which methods an invocation names -/
def z_callee_of (i : Instr) (aux : List Nat) : Option Nat := match i, aux with
  | .invokestatic _, [0, mj, _, _] => some mj
  | .invokespecial _, [0, mj, _, _] => some mj
  | .invokevirtual _, [0, mj, _, _] => some mj
  | .invokevirtual _, [7, mj, _, _] => some mj
  | _, _ => none
/-- of a method: what its handlers take -/
def z_okX (my : Nat → MethodName) (P : z_Q) (cl : List vw_C) (Ts : List Cond) (mi : Nat) : Prop :=
  ∀ (k : Nat) (q : Nat × Nat × Nat × Nat) (x : Nat), (P.2.2.2.1 mi)[k]? = some q → (P.2.2.2.2.1 mi)[k]? = some x → q.2.2.2 ≠ 0 ∧ ∃ (C : String) (T : u_T) (N : Nat), cl[x]? = some (C, T, N) ∧ Cond.classLink (my mi).cls q.2.2.2 C ∈ Ts
/-- of a method: its code, its class, its handlers -/
def z_okM (my : Nat → MethodName) (mb : Nat → ByteArray) (P : z_Q) (cl : List vw_C) (Ts : List Cond) (mi : Nat) : Prop :=
  z_cw (my mi) (mb mi) (P.2.1 mi) (P.2.2.1 mi) (P.2.2.2.1 mi) ∈ Ts ∧ plainName (my mi).cls = true ∧ ((my mi).cls ≠ "java/lang/invoke/MethodHandle" ∧ (my mi).cls ≠ "java/lang/invoke/VarHandle") ∧ Cond.initialized (my mi).cls ∈ Ts ∧ z_okX my P cl Ts mi
/-- the program's text as a whole -/
def z_okP (my : Nat → MethodName) (mb : Nat → ByteArray) (P : z_Q) (cl : List vw_C) (tyl : List FieldType) (stl : List (String × String × String × Value)) (Ts : List Cond) : Prop :=
  ∀ (mi pc : Nat) (i : Instr) (len : Nat) (aux : List Nat), P.1 mi pc = some (i, len, aux) → decode (mb mi) pc = .ok (i, len) ∧ z_okF i aux pc = true ∧ z_okH (my mi).cls (decide ((my mi).name = "<init>")) cl tyl stl Ts i aux ∧ z_okC my P cl Ts (my mi).cls i aux ∧ ∀ mj, z_callee_of i aux = some mj → z_okM my mb P cl Ts mj
theorem z_ncov {q : ExceptionTableEntry} {pc : Nat} (h : ¬ (q.startPc ≤ pc ∧ pc < q.endPc)) : covers q pc = false := by
  cases hc : covers q pc with
  | false => rfl
  | true =>
    simp only [covers, Bool.and_eq_true, decide_eq_true_eq] at hc
    exact absurd hc h
theorem z_fh_none {nc : Nat → Nat → Bool} {pc ci : Nat} : ∀ {hs : List (Nat × Nat × Nat × Nat)} {xs : List Nat}, z_fh nc pc ci hs xs = some none → ∀ q ∈ tableOf hs, covers q pc = false := by
  intro hs
  induction hs with
  | nil => intro xs _ q hq; cases hq
  | cons a r ih =>
    intro xs h q hq
    cases xs with
    | nil => simp [z_fh] at h
    | cons x ys =>
      unfold z_fh at h
      split at h
      · split at h
        · cases h
        · split at h
          · split at h <;> cases h
          · cases h
      · rename_i hc
        rcases List.mem_cons.mp hq with rfl | hq
        · exact z_ncov hc
        · exact ih h q hq
theorem z_fh_some {nc : Nat → Nat → Bool} {pc ci hp : Nat} : ∀ {hs : List (Nat × Nat × Nat × Nat)} {xs : List Nat}, z_fh nc pc ci hs xs = some (some hp) → ∃ (k : Nat) (q : Nat × Nat × Nat × Nat), hs[k]? = some q ∧ xs[k]? = some ci ∧ q.2.2.1 = hp ∧ (q.1 ≤ pc ∧ pc < q.2.1) ∧ ∀ (j : Nat) (qj : Nat × Nat × Nat × Nat), j < k → hs[j]? = some qj → ∃ xj, xs[j]? = some xj ∧ (¬ (qj.1 ≤ pc ∧ pc < qj.2.1) ∨ nc ci xj = true) := by
  intro hs
  induction hs with
  | nil => intro xs h; simp [z_fh] at h
  | cons a r ih =>
    intro xs h
    cases xs with
    | nil => simp [z_fh] at h
    | cons x ys =>
      have more : ∀ {k : Nat} {q : Nat × Nat × Nat × Nat}, (¬ (a.1 ≤ pc ∧ pc < a.2.1) ∨ nc ci x = true) → (∀ (j : Nat) (qj : Nat × Nat × Nat × Nat), j < k → r[j]? = some qj → ∃ xj, ys[j]? = some xj ∧ (¬ (qj.1 ≤ pc ∧ pc < qj.2.1) ∨ nc ci xj = true)) → ∀ (j : Nat) (qj : Nat × Nat × Nat × Nat), j < k + 1 → (a :: r)[j]? = some qj → ∃ xj, (x :: ys)[j]? = some xj ∧ (¬ (qj.1 ≤ pc ∧ pc < qj.2.1) ∨ nc ci xj = true) := by
        intro k q h1 h2 j qj hj hq
        cases j with
        | zero =>
          cases hq
          exact ⟨x, rfl, h1⟩
        | succ j => exact h2 j qj (by omega) hq
      unfold z_fh at h
      split at h
      · rename_i hc
        split at h
        · rename_i hx
          cases h
          exact ⟨0, a, rfl, by rw [← hx]; rfl, rfl, hc, fun j qj hj => absurd hj (by omega)⟩
        · split at h
          · rename_i hnc
            split at h
            · rename_i h' hin
              cases h
              obtain ⟨k, q, h1, h2, h3, h4, h5⟩ := ih hin
              exact ⟨k + 1, q, h1, h2, h3, h4, more (q := q) (Or.inr hnc) h5⟩
            · cases h
          · cases h
      · rename_i hc
        obtain ⟨k, q, h1, h2, h3, h4, h5⟩ := ih h
        exact ⟨k + 1, q, h1, h2, h3, h4, more (q := q) (Or.inl hc) h5⟩
section ZMAIN
variable {l : Launch} {ad : Nat → Nat} {dA : Nat → ClassId} {D : va_G} {cl : List vw_C} {Ts : List Cond} {sz : Nat} {G : z_G} {P : z_Q} {B : z_B} {my : Nat → MethodName} {mb : Nat → ByteArray} {stl : List (String × String × String × Value)} {cW : String} {Wd : State → Prop}
variable {p : Program} {e : Env} {R : Room} {s : State} {m : MethodId} {args : Array Value} {below : List Frame} {meth : Method} {c : Code} {H : Heap} {locs : List Loc} {cells slots : Nat}
theorem z_inv_go (hstr : ∀ b, (G.2.2.2.2.2.2.2.1 b 99).isSome = true → va_O "java/lang/String" (ad b) (z_A sz) s s.heap) (had : ∀ i, ad (G.1.1 + i) = sz + i) (hK : va_K D cl (z_tys dA G.2.1.1) s) {mi pc n0 s0 f w : Nat} {ls : Array Slot} {lv : List (Nat × Value)} {st : List Value} {S : z_S} {i : Instr} {aux : List Nat} {mj : Nat} {as r : List Value}
    (hcx : z_Cx my mb P Ts mi p e s m args meth c) (hat : z_At G P sz D cl ad dA R s H locs cells slots n0 s0 f w mi ls lv S) (hdg : decode (mb mi) pc = .ok (i, 3)) (hC : z_okC my P cl Ts (my mi).cls i aux) (hM : ∀ mj, z_callee_of i aux = some mj → z_okM my mb P cl Ts mj) (h : z_inv G P i aux st S = some (mj, as, r)) :
    z_okM my mb P cl Ts mj ∧ z_Go p l e R s m args below meth c H locs cells slots (my mj) (F0 m pc ls (st.map (z_tr ad))) (r.map (z_tr ad)) (as.map (z_tr ad)).toArray := by
  obtain ⟨hx, hb, hml, hown, hts, hr, hlk, hnm, htb, htr⟩ := hcx
  obtain ⟨hl, hP, hS, hn0, hce, hsl, hRc, hRs, hf, hw⟩ := hat
  have har : ∀ {y : MethodName} {na : Nat} {as : List Value}, (parseMethodDescriptor y.desc).map (fun d => d.parameters.length) = some na → as.length = na → ∀ sig, parseMethodDescriptor y.desc = some sig → (as.map (z_tr ad)).length = sig.parameters.length := by
    intro y na as h1 h2 sig h3
    rw [h3] at h1
    rw [List.length_map, h2]
    exact (Option.some.inj h1).symm
  have hsg : ∀ {mj : Nat}, z_okM my mb P cl Ts mj → z_Sig s (my mj) := by
    intro mj h1
    obtain ⟨a1, a2, a3, a4, a5, a6, a7, a8, a9, a10, a11, a12⟩ := z_cw_spec (hts _ h1.1)
    exact ⟨a1, a2, a4, a5, a12⟩
  unfold z_inv at h
  split at h
  · rename_i idx mj' na pl
    split at h
    · rename_i as' r' ht
      cases h
      obtain ⟨rfl, h2⟩ := z_tk_i ht
      have hm := hM mj rfl
      obtain ⟨c1, c2, c3⟩ := hC
      refine ⟨hm, ?_⟩
      have hb' : decode c.code pc = .ok (.invokestatic idx, 3) := by rw [hb]; exact hdg
      rcases c1 with c1 | ⟨host, c1⟩
      · exact z_goS hx hown (hts _ c1) (hts _ c2) (hts _ hm.2.2.2.1) (hsg hm) hm.2.2.1 rfl (har c3 h2) (by show List.map _ _ = _; rw [List.map_append, List.map_reverse]) hb'
      · exact z_goN hx hown (hts _ c1) (hts _ c2) (hts _ hm.2.2.2.1) (hsg hm) hm.2.2.1 rfl (har c3 h2) (by show List.map _ _ = _; rw [List.map_append, List.map_reverse]) hb'
    · cases h
  · rename_i idx mj' na pl
    split at h
    · rename_i as' b r' ht
      cases h
      obtain ⟨rfl, h2⟩ := z_tk_i ht
      have hm := hM mj rfl
      obtain ⟨c1, c2, c3, c4, c5, c6⟩ := hC
      refine ⟨hm, ?_⟩
      have hcd := hts _ hm.1
      rw [c4, c5] at hcd
      have hb' : decode c.code pc = .ok (.invokespecial idx, 3) := by rw [hb]; exact hdg
      exact z_goI hx hown c3 (hts _ c1) (hts _ c2) hcd hm.2.2.1 (b := ad b) rfl (har c6 h2) (by show List.map _ _ = _; rw [List.map_append, List.map_reverse]; rfl) hb'
    · cases h
  · rename_i idx mj' na pl
    split at h
    · rename_i as' b r' ht
      split at h
      · rename_i hcl'
        cases h
        obtain ⟨rfl, h2⟩ := z_tk_i ht
        have hm := hM mj rfl
        obtain ⟨c1, c2, ⟨C, T, N, c3, c4⟩, c5⟩ := hC
        refine ⟨hm, ?_⟩
        unfold z_cls at hcl'
        split at hcl'
        · rename_i hKb
          split at hcl'
          · rename_i o ho
            have hoc : o.1 = P.2.2.2.2.2 mj := Option.some.inj hcl'
            have h3 := z_W_get (ad := ad) (dA := dA) (K := G.1.1) ho
            rw [z_bk hKb] at h3
            obtain ⟨cell, q1, q2, q3⟩ := va_recv (ci := P.2.2.2.2.2 mj) hK hP c3 (by rw [h3, ← hoc]; rfl)
            have hb' : decode c.code pc = .ok (.invokevirtual idx, 3) := by rw [hb]; exact hdg
            exact z_goV hx hown (hts _ c1) (hts _ c2) (hts _ c4) (hsg hm) hm.2.2.1 (b := ad b) q1 q2 q3 rfl (har c5 h2) (by show List.map _ _ = _; rw [List.map_append, List.map_reverse]; rfl) hb'
          · cases hcl'
        · cases hcl'
      · cases h
    · cases h
  · rename_i idx mj' na pl
    split at h
    · rename_i as' b r' ht
      split at h
      · rename_i hsm
        cases h
        obtain ⟨rfl, h2⟩ := z_tk_i ht
        have hm := hM mj rfl
        obtain ⟨c1, c2, c4, c5⟩ := hC
        refine ⟨hm, ?_⟩
        obtain ⟨cell, q1, q2, q3⟩ := va_Orecv (hstr b hsm) hS
        have hb' : decode c.code pc = .ok (.invokevirtual idx, 3) := by rw [hb]; exact hdg
        exact z_goV hx hown (hts _ c1) (hts _ c2) (hts _ c4) (hsg hm) hm.2.2.1 (b := ad b) q1 q2 q3 rfl (har c5 h2) (by show List.map _ _ = _; rw [List.map_append, List.map_reverse]; rfl) hb'
      · cases h
    · cases h
  · cases h
end ZMAIN
