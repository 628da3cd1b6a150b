/-! What has no code in the plain machine's tables: the ordinal of a constant, System.arraycopy of ints or bytes, Math.max and min, and what is frozen. -/
def z_cpl (f g : List (Nat × Int32)) (sp dp n : Nat) : List (Nat × Int32) := match n with
  | 0 => g
  | n + 1 => (dp + n, z_fn 0 f (sp + n)) :: z_cpl f g sp dp n
theorem z_cpl_fn (f g : List (Nat × Int32)) (sp dp : Nat) : ∀ n, z_fn 0 (z_cpl f g sp dp n) = va_cpy (z_fn 0 f) (z_fn 0 g) sp dp n := by
  intro n
  induction n with
  | zero =>
    funext j
    have : ¬ (dp ≤ j ∧ j < dp + 0) := by omega
    show z_fn 0 g j = _
    unfold va_cpy
    rw [if_neg this]
  | succ n ih =>
    funext j
    show (if j = dp + n then z_fn 0 f (sp + n) else z_fn 0 (z_cpl f g sp dp n) j) = _
    rw [ih]
    by_cases h : j = dp + n
    · subst h
      have h1 : dp ≤ dp + n ∧ dp + n < dp + (n + 1) := by omega
      rw [if_pos rfl]
      unfold va_cpy
      rw [if_pos h1]
      congr 1
      omega
    · rw [if_neg h]
      unfold va_cpy
      by_cases h1 : dp ≤ j ∧ j < dp + n
      · rw [if_pos h1, if_pos (by omega)]
      · rw [if_neg h1, if_neg (by omega)]
def z_acp (G : z_G) (st : List Value) (S : z_S) : Option (List Value × z_S) := match st with
  | .int n :: .int dp :: .ref a :: .int sp :: .ref b :: r => match z_ar G.1.1 S a, z_ar G.1.1 S b with
    | some (t1, n1, .inl g), some (t0, n0, .inl f) => match G.2.1.1[t0]? with
      | some ty => if (G.2.1.1[t1]? = some ty ∧ refKind ty = false ∧ z_wt r ≤ 8) ∧ (¬ sp < 0 ∧ ¬ dp < 0 ∧ ¬ n < 0) ∧ (sp.toNatClampNeg + n.toNatClampNeg ≤ n0 ∧ dp.toNatClampNeg + n.toNatClampNeg ≤ n1) ∧ (List.range n.toNatClampNeg).all (fun i => fits ty (.int (z_fn 0 f (sp.toNatClampNeg + i)))) = true then some (r, (S.1.set (a - G.1.1) (.inl (t1, n1, .inl (z_cpl f g sp.toNatClampNeg dp.toNatClampNeg n.toNatClampNeg))), S.2)) else none
      | none => none
    | _, _ => none
  | _ => none
def z_ord (G : z_G) (st : List Value) (S : z_S) : Option (List Value × z_S) := match st with
  | .ref v :: r => if v < G.1.2.1 ∧ z_wt r ≤ 8 then some (.int (nI v) :: r, S) else none
  | _ => none
/-- a frozen array of constants is read -/
def z_kal (G : z_G) (st : List Value) (S : z_S) : Option (List Value × z_S) := match st with
  | .int i :: .ref a :: r => match G.2.2.2.2.2.1 a with
    | some q => if z_in i q.1 = true then some (.ref (q.2 i.toNatClampNeg) :: r, S) else none
    | none => none
  | _ => none
/-- a frozen array of bytes is read -/
def z_kbl (G : z_G) (st : List Value) (S : z_S) : Option (List Value × z_S) := match st with
  | .int i :: .ref a :: r => match G.2.2.2.2.2.2.1 a with
    | some q => if z_in i q.1 = true then some (.int (q.2 i.toNatClampNeg) :: r, S) else none
    | none => none
  | _ => none
/-- the length of either -/
def z_kln (G : z_G) (st : List Value) (S : z_S) : Option (List Value × z_S) := match st with
  | .ref a :: r => match G.2.2.2.2.2.1 a with
    | some q => some (.int (Int32.ofNat q.1) :: r, S)
    | none => match G.2.2.2.2.2.2.1 a with
      | some q => some (.int (Int32.ofNat q.1) :: r, S)
      | none => none
  | _ => none
/-- a field of a frozen object -/
def z_kgf (G : z_G) (k : Nat) (st : List Value) (S : z_S) : Option (List Value × z_S) := match st with
  | .ref a :: r => match G.2.2.2.2.2.2.2.1 a k with
    | some v => some (v :: r, S)
    | none => none
  | _ => none
/-- Math.max and Math.min of ints -/
def z_mth (mx : Bool) (st : List Value) (S : z_S) : Option (List Value × z_S) := match st with
  | .int b :: .int a :: r => if z_wt r ≤ 8 then some (.int (if mx = true then (if a < b then b else a) else (if b < a then b else a)) :: r, S) else none
  | _ => none
def z_bi (G : z_G) : z_B := fun i len aux lv st S => match i, aux with
  | .invokevirtual _, [2, _] => z_ord G st S
  | .invokestatic _, [3, _] => z_acp G st S
  | .invokestatic _, [4, _] => z_mth true st S
  | .invokestatic _, [5, _] => z_mth false st S
  | .aaload, [] => z_kal G st S
  | .baload, [] => z_kbl G st S
  | .arraylength, [] => z_kln G st S
  | .getfield _, [k, _] => z_kgf G k st S
  | _, _ => none
section ZBI
variable {p : Program} {l : Launch} {e : Env} {R : Room} {s : State} {m : MethodId} {args : Array Value} {below : List Frame} {meth : Method} {c : Code} {H : Heap} {locs : List Loc} {cells slots : Nat} {Q : State → Prop}
variable {cc : ByteArray} {ls : Array Slot} {ad : Nat → Nat} {dA : Nat → ClassId} {D : va_G} {cl : List vw_C} {sz : Nat} {pc : Nat}
theorem z_acp_ok {G : z_G} (had : ∀ i, ad (G.1.1 + i) = sz + i) (hx : p.tables.exec = Jvm.exec) (hb : c.code = cc) (hml : c.maxLocals = ls.size) {own : String} {index : Nat} (hown : s.vm.findClass own = some m.cls) (hlink : (Cond.methodLink own index arraycopyName).before args s = true) (hnat : (Cond.native arraycopyName).before args s = true) (hstat : (Cond.static arraycopyName).before args s = true) (hini : (Cond.initialized "java/lang/System").before args s = true)
    (hK : va_K D cl (z_tys dA G.2.1.1) s) {S S' : z_S} {st st' : List Value} (hP : va_P D cl (z_W ad dA G.1.1 S.1) H) (hS : va_S (z_A sz) s.heap H locs) (hfr : 1 ≤ R.frames) (hlo : 60 ≤ R.locals) (hdg : decode cc pc = .ok (.invokestatic index, 3)) (h : z_acp G st S = some (st', S'))
    (kk : ∀ (H' : Heap) (locs' : List Loc), va_P D cl (z_W ad dA G.1.1 S'.1) H' → va_S (z_A sz) s.heap H' locs' → W p l e R s m args below meth c H' locs' cells slots Q (F0 m (pc + 3) ls (st'.map (z_tr ad)))) : W p l e R s m args below meth c H locs cells slots Q (F0 m pc ls (st.map (z_tr ad))) := by
  unfold z_acp at h
  split at h
  · rename_i n dp a sp b r
    split at h
    · rename_i t1 n1 g t0 n0 f ha hb2
      split at h
      · rename_i ty hty
        split at h
        · rename_i hc
          obtain ⟨⟨c1, c2, c3⟩, ⟨c4, c5, c6⟩, ⟨c7, c8⟩, c9⟩ := hc
          cases h
          obtain ⟨k1, k2⟩ := z_ar_i ha
          obtain ⟨k3, k4⟩ := z_ar_i hb2
          have h1 := z_W_get (ad := ad) (dA := dA) (K := G.1.1) k2
          have h2 := z_W_get (ad := ad) (dA := dA) (K := G.1.1) k4
          have h3 := z_W_set (ad := ad) (dA := dA) (K := G.1.1) (h := S.1) (i := a - G.1.1) (.inl (t1, n1, .inl (z_cpl f g sp.toNatClampNeg dp.toNatClampNeg n.toNatClampNeg)))
          rw [z_bk k1] at h1 h3
          rw [z_bk k3] at h2
          have h4 : z_trE ad dA (.inl (t1, n1, .inl (z_cpl f g sp.toNatClampNeg dp.toNatClampNeg n.toNatClampNeg))) = .inl (dA t1, n1, .inl (va_cpy (z_fn 0 f) (z_fn 0 g) sp.toNatClampNeg dp.toNatClampNeg n.toNatClampNeg)) := by
            show Sum.inl (dA t1, n1, Sum.inl (z_fn 0 _)) = _
            rw [z_cpl_fn]
          rw [h4] at h3
          have kk' : ∀ (H' : Heap) (locs' : List Loc), va_P D cl ((z_W ad dA G.1.1 S.1).set (a - G.1.1) (ad a, .inl (dA t1, n1, .inl (va_cpy (z_fn 0 f) (z_fn 0 g) sp.toNatClampNeg dp.toNatClampNeg n.toNatClampNeg)))) H' → va_S (z_A sz) s.heap H' locs' → W p l e R s m args below meth c H' locs' cells slots Q (F0 m (pc + 3) ls (st'.map (z_tr ad))) := by
            rw [h3]
            exact kk
          have hw := z_wt_tr ad st'
          exact va_copyi hx hb hml hown hlink hnat hstat hini hK hP (z_D had S.1) hS (b - G.1.1) (a - G.1.1) t0 t1 h2 h1 (z_tys_get hty) (z_tys_get c1) c2 c4 c5 c6 c7 c8 (fun i hi => List.all_eq_true.mp c9 i (List.mem_range.mpr hi)) hfr (by
            have : nativeFrameWords "java/lang/System" "arraycopy" 5 + 11 ≤ 52 := by decide +kernel
            omega) hdg (fun H1 locs1 hp _ hs => kk' H1 locs1 hp hs)
        · cases h
      · cases h
    · cases h
  · cases h
def z_yo : MethodName := ⟨"java/lang/Enum", "ordinal", "()I"⟩
/-- Enum.ordinal: what the field holds -/
theorem z_ord_met (l : Launch) {co : ByteArray} (d0 : decode co 0 = .ok (.aload_n 0, 1)) (d1 : decode co 1 = .ok (.getfield 7, 3)) (d4 : decode co 4 = .ok (.ireturn, 1)) (A : Nat → Prop) (b : Nat) (k : Int32) :
    Met l z_yo [.code z_yo co 1 (some .int), .fieldLink "java/lang/Enum" 7 "java/lang/Enum" "ordinal" "I"] { frames := 0, cells := 0, slots := 0, locals := 0 } (va_Pc [.ref b] (fun U => va_OF "java/lang/Enum" "ordinal" "I" (.int k) b A U U.heap)) (fun _ st o t => o = .returned (some (.int k)) ∧ t.heap = st.heap) 0 0 (fun _ => False) := by
  refine Met.ofW (cc := co) (maxL := 1) (ret := some .int) (by decide) rfl ?_
  intro p e s m args below meth c s₁ B hml hv
  obtain ⟨rfl, hO⟩ := hv
  have hx := B.exec
  have hb := B.bytes
  have hr := B.returns
  have hts := atoms_spec (ws := [.code z_yo co 1 (some .int), .fieldLink "java/lang/Enum" 7 "java/lang/Enum" "ordinal" "I"]) B.pre
  have hown : s.vm.findClass "java/lang/Enum" = some m.cls := findClass_of_methodNamed B.named
  have hlocks := B.notSynchronized
  have hl := lv_entry ([.ref b]) (n := 1) (Nat.le_of_ble_eq_true rfl)
  rw [lg_entry_eq]
  generalize (lg_sl ([.ref b]) ++ List.replicate (1 - (lg_sl ([.ref b])).length) Slot.unset).toArray = ls at hl ⊢
  have hl : lv_has ls 1 [(0, .ref b)] := hl
  refine lv_aload_n hx hb d0 rfl (lv_at hl 0 rfl) ?_
  refine vk_getf hx hb hO va_S.rf hown (hts _ (by simp)) (fun x q => q) d1 ?_
  exact W.iret hx hb hr (fun t ht _ => ⟨rfl, ht⟩) (fun q hq => by cases hq) d4 hlocks
theorem z_ord_ok {G : z_G} {cW : String} (hx : p.tables.exec = Jvm.exec) (hb : c.code = cc) (hml : c.maxLocals = ls.size) {own : String} {index : Nat} {co : ByteArray} (d0 : decode co 0 = .ok (.aload_n 0, 1)) (d1 : decode co 1 = .ok (.getfield 7, 3)) (d4 : decode co 4 = .ok (.ireturn, 1)) {Ts : List Cond} (hts : ∀ w ∈ Ts, w.before args s = true) (hown : s.vm.findClass own = some m.cls)
    (hG : GoodIn Ts (va_wsU own index cW "java/lang/Enum" ⟨cW, "ordinal", "()I"⟩ z_yo [.code z_yo co 1 (some .int), .fieldLink "java/lang/Enum" 7 "java/lang/Enum" "ordinal" "I"]))
    (hO : ∀ v, v < G.1.2.1 → va_O cW (ad v) (z_A sz) s s.heap ∧ va_OF "java/lang/Enum" "ordinal" "I" (.int (nI v)) (ad v) (z_A sz) s s.heap) {S S' : z_S} {st st' : List Value} (hP : va_P D cl (z_W ad dA G.1.1 S.1) H) (hS : va_S (z_A sz) s.heap H locs) (hfr : 1 ≤ R.frames) (hlo : 60 ≤ R.locals) (hcl : cells ≤ R.cells) (hsl : slots ≤ R.slots) (hdg : decode cc pc = .ok (.invokevirtual index, 3)) (h : z_ord G st S = some (st', S'))
    (kk : ∀ (H' : Heap) (locs' : List Loc), va_P D cl (z_W ad dA G.1.1 S'.1) H' → va_S (z_A sz) s.heap H' locs' → W p l e R s m args below meth c H' locs' cells slots Q (F0 m (pc + 3) ls (st'.map (z_tr ad)))) : W p l e R s m args below meth c H locs cells slots Q (F0 m pc ls (st.map (z_tr ad))) := by
  unfold z_ord at h
  split at h
  · rename_i v r
    split at h
    · rename_i hc
      obtain ⟨c1, c2⟩ := hc
      cases h
      obtain ⟨o1, o2⟩ := hO v c1
      have hw := z_wt_tr ad r
      have hrecv : ∃ cell : Cell, H[ad v]? = some cell ∧ cell.vm.isStatics = false ∧ s.vm.findClass cW = some cell.cls := by
        obtain ⟨cell, q1, q2, q3, -⟩ := o1.kept hS.2.1
        exact ⟨cell, q1, q2, q3⟩
      have hrun := va_runU (p := p) (l := l) (e := e) (R := R) (below := below) (meth := meth) (H := H) (locs := locs) (cells := cells) (slots := slots) (As := []) (rest := r.map (z_tr ad)) (b := ad v) (C := cW) (g := F0 m pc ls ((Value.ref v :: r).map (z_tr ad))) (nL := ls.size) ⟨hx, hb, hml, hown, hts⟩ (z_ord_met l d0 d1 d4 (z_A sz) (ad v) (nI v)) (va_cwU 0 hts hG rfl rfl rfl rfl ⟨by decide, by decide, (by decide +kernel : (parseMethodDescriptor "()I").map (fun d => d.parameters.length) = some 0)⟩ ⟨by show 0 + 1 ≤ R.frames; omega, by show 8 + (1 + 11) + 0 ≤ R.locals; omega⟩)
        ⟨fun a U g mk q => by obtain ⟨q0, q1⟩ := q; exact ⟨q0, va_OF.moved (u := U) (U := U.calling g mk a) (Vm.Alike.refl U.vm) q1⟩, hrecv, fun U hU hW => ⟨rfl, va_OF.moved hW.alike (by rw [hU]; exact o2.kept hS.2.1)⟩⟩ rfl rfl rfl rfl (by show 2 * 0 + _ ≤ 8; omega) hdg ⟨by omega, by omega⟩
      intro T hT X
      obtain ⟨v2, st₀, t, T', L, q0, X', hL, e1, e2, ⟨hv, hh⟩, stp⟩ := hrun T hT X
      cases hv
      have hT' : T'.heap = H := by rw [e1, hh, q0]
      obtain ⟨t2, a1, b1⟩ := kk H locs hP hS T' hT' (Stand.forget X' (fun q h => (hL q h).elim))
      exact ⟨t2, stp t2 a1, b1⟩
    · cases h
  · cases h
def z_mtw (own : String) (index : Nat) (mx : Bool) : List Cond := if mx = true then [.methodLink own index Lib.Math.max.name, .static Lib.Math.max.name, .initialized "java/lang/Math", .code Lib.Math.max.name Lib.Math.max.code 2 (some .int)] else [.methodLink own index Lib.Math.min.name, .static Lib.Math.min.name, .initialized "java/lang/Math", .code Lib.Math.min.name Lib.Math.min.code 2 (some .int)]
theorem z_mth_ok {mx : Bool} (hx : p.tables.exec = Jvm.exec) (hb : c.code = cc) (hml : c.maxLocals = ls.size) {own : String} {index : Nat} (hown : s.vm.findClass own = some m.cls) (hts : ∀ w ∈ z_mtw own index mx, w.before args s = true) {S S' : z_S} {st st' : List Value} (hfr : 1 ≤ R.frames) (hlo : 60 ≤ R.locals) (hcl : cells ≤ R.cells) (hsl : slots ≤ R.slots) (hdg : decode cc pc = .ok (.invokestatic index, 3)) (h : z_mth mx st S = some (st', S'))
    (kk : S' = S → W p l e R s m args below meth c H locs cells slots Q (F0 m (pc + 3) ls (st'.map (z_tr ad)))) : W p l e R s m args below meth c H locs cells slots Q (F0 m pc ls (st.map (z_tr ad))) := by
  unfold z_mth at h
  split at h
  · rename_i b a r
    split at h
    · rename_i hc
      cases h
      have hw := z_wt_tr ad r
      intro T hT X
      cases mx with
      | true =>
        obtain ⟨vm', X', stp⟩ := X.mathMaxH (index := index) hx hown (hts _ (by simp [z_mtw])) (hts _ (by simp [z_mtw])) (hts _ (by simp [z_mtw])) (hts _ (by simp [z_mtw])) (g := F0 m pc ls ((Value.int b :: Value.int a :: r).map (z_tr ad))) rfl hml.symm (a := a) (b := b) (rest := r.map (z_tr ad)) rfl (by rw [hb]; exact hdg) hfr (by show 2 * 0 + _ + 13 ≤ R.locals; omega) hcl hsl
        obtain ⟨t2, a1, b1⟩ := kk rfl (T.setVm vm') hT X'
        exact ⟨t2, stp t2 a1, b1⟩
      | false =>
        obtain ⟨vm', X', stp⟩ := X.mathMinH (index := index) hx hown (hts _ (by simp [z_mtw])) (hts _ (by simp [z_mtw])) (hts _ (by simp [z_mtw])) (hts _ (by simp [z_mtw])) (g := F0 m pc ls ((Value.int b :: Value.int a :: r).map (z_tr ad))) rfl hml.symm (a := a) (b := b) (rest := r.map (z_tr ad)) rfl (by rw [hb]; exact hdg) hfr (by show 2 * 0 + _ + 13 ≤ R.locals; omega) hcl hsl
        obtain ⟨t2, a1, b1⟩ := kk rfl (T.setVm vm') hT X'
        exact ⟨t2, stp t2 a1, b1⟩
    · cases h
  · cases h
theorem z_kal_ok {G : z_G} {cW : String} (hx : p.tables.exec = Jvm.exec) (hb : c.code = cc) (hT : ∀ (a : Nat) (q : Nat × (Nat → Nat)), G.2.2.2.2.2.1 a = some q → va_T (.object cW) (ad a) q.1 (fun j => .ref (ad (q.2 j))) (z_A sz) s s.heap) {S S' : z_S} {st st' : List Value} (hS : va_S (z_A sz) s.heap H locs) (hdg : decode cc pc = .ok (.aaload, 1)) (h : z_kal G st S = some (st', S'))
    (kk : S' = S → W p l e R s m args below meth c H locs cells slots Q (F0 m (pc + 1) ls (st'.map (z_tr ad)))) : W p l e R s m args below meth c H locs cells slots Q (F0 m pc ls (st.map (z_tr ad))) := by
  unfold z_kal at h
  split at h
  · rename_i i a r
    split at h
    · rename_i q hq
      split at h
      · rename_i hin
        cases h
        exact vb_tq hx hb (hT a q hq) hS (z_in_i hin) rfl hdg (kk rfl)
      · cases h
    · cases h
  · cases h
theorem z_kbl_ok {G : z_G} (hx : p.tables.exec = Jvm.exec) (hb : c.code = cc) (hT : ∀ (a : Nat) (q : Nat × (Nat → Int32)), G.2.2.2.2.2.2.1 a = some q → va_T .byte (ad a) q.1 (fun j => .int (q.2 j)) (z_A sz) s s.heap) {S S' : z_S} {st st' : List Value} (hS : va_S (z_A sz) s.heap H locs) (hdg : decode cc pc = .ok (.baload, 1)) (h : z_kbl G st S = some (st', S'))
    (kk : S' = S → W p l e R s m args below meth c H locs cells slots Q (F0 m (pc + 1) ls (st'.map (z_tr ad)))) : W p l e R s m args below meth c H locs cells slots Q (F0 m pc ls (st.map (z_tr ad))) := by
  unfold z_kbl at h
  split at h
  · rename_i i a r
    split at h
    · rename_i q hq
      split at h
      · rename_i hin
        cases h
        exact va_tb hx hb (hT a q hq) hS (z_in_i hin) rfl hdg (kk rfl)
      · cases h
    · cases h
  · cases h
theorem z_kln_ok {G : z_G} {cW : String} (hx : p.tables.exec = Jvm.exec) (hb : c.code = cc) (hT : ∀ (a : Nat) (q : Nat × (Nat → Nat)), G.2.2.2.2.2.1 a = some q → va_T (.object cW) (ad a) q.1 (fun j => .ref (ad (q.2 j))) (z_A sz) s s.heap) (hB : ∀ (a : Nat) (q : Nat × (Nat → Int32)), G.2.2.2.2.2.2.1 a = some q → va_T .byte (ad a) q.1 (fun j => .int (q.2 j)) (z_A sz) s s.heap) {S S' : z_S} {st st' : List Value} (hS : va_S (z_A sz) s.heap H locs) (hdg : decode cc pc = .ok (.arraylength, 1)) (h : z_kln G st S = some (st', S'))
    (kk : S' = S → W p l e R s m args below meth c H locs cells slots Q (F0 m (pc + 1) ls (st'.map (z_tr ad)))) : W p l e R s m args below meth c H locs cells slots Q (F0 m pc ls (st.map (z_tr ad))) := by
  unfold z_kln at h
  split at h
  · rename_i a r
    split at h
    · rename_i q hq
      cases h
      exact va_tlen hx hb (hT a q hq) hS rfl hdg (kk rfl)
    · split at h
      · rename_i q hq
        cases h
        exact va_tlen hx hb (hB a q hq) hS rfl hdg (kk rfl)
      · cases h
  · cases h
theorem z_kgf_ok {G : z_G} {own ref o n d : String} {k index : Nat} (hx : p.tables.exec = Jvm.exec) (hb : c.code = cc) (hO : ∀ (a : Nat) (v : Value), G.2.2.2.2.2.2.2.1 a k = some v → va_OF o n d (z_tr ad v) (ad a) (z_A sz) s s.heap) {S S' : z_S} {st st' : List Value} (hS : va_S (z_A sz) s.heap H locs) (hown : s.vm.findClass own = some m.cls) (hlink : (Cond.fieldLink own index ref n d).before args s = true) (hsame : ∀ x, s.fieldFound? o n d = some x → s.fieldFound? ref n d = some x) (hdg : decode cc pc = .ok (.getfield index, 3)) (h : z_kgf G k st S = some (st', S'))
    (kk : S' = S → W p l e R s m args below meth c H locs cells slots Q (F0 m (pc + 3) ls (st'.map (z_tr ad)))) : W p l e R s m args below meth c H locs cells slots Q (F0 m pc ls (st.map (z_tr ad))) := by
  unfold z_kgf at h
  split at h
  · rename_i a r
    split at h
    · rename_i v hv
      cases h
      exact vk_getf hx hb (hO a v hv) hS hown hlink hsame hdg (kk rfl)
    · cases h
  · cases h
end ZBI
