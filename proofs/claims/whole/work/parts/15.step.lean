/-! One instruction of the plain machine, and that the machine follows it. -/
/-- what a frozen int array holds -/
def z_ialF (K : Nat) (fi : Nat → Option (Nat × (Nat → Int32))) (len pc : Nat) (lv : List (Nat × Value)) (st : List Value) (S : z_S) : Option z_U := match st with
  | .int i :: .ref a :: r => match fi a with
    | some q => if len = 1 ∧ a < K ∧ z_in i q.1 = true then some (pc + 1, lv, .int (q.2 i.toNatClampNeg) :: r, S) else none
    | none => none
  | _ => none
def z_alnF (K : Nat) (fi : Nat → Option (Nat × (Nat → Int32))) (len pc : Nat) (lv : List (Nat × Value)) (st : List Value) (S : z_S) : Option z_U := match st with
  | .ref a :: r => match fi a with
    | some q => if len = 1 ∧ a < K then some (pc + 1, lv, .int (Int32.ofNat q.1) :: r, S) else none
    | none => none
  | _ => none
def z_aas (K nW : Nat) (tyl : List FieldType) (tW : Nat) (len pc : Nat) (lv : List (Nat × Value)) (st : List Value) (S : z_S) : Option z_U := match st with
  | .ref v :: .int i :: .ref a :: r => match z_ar K S a with
    | some (t, n, .inr (.inr f)) => if (len = 1 ∧ t = tW ∧ v < nW) ∧ z_in i n = true then some (pc + 1, lv, r, (S.1.set (a - K) (.inl (t, n, .inr (.inr ((i.toNatClampNeg, some v) :: f)))), S.2)) else none
    | _ => none
  | _ => none
def z_or {α : Type} (a b : Option α) : Option α := match a with
  | some x => some x
  | none => b
theorem z_or_i {α : Type} {a b : Option α} {x : α} (h : z_or a b = some x) : a = some x ∨ b = some x := by
  cases a with
  | none => exact Or.inr h
  | some y => exact Or.inl h
/-- the numbers of a program: K places below are frozen, of them the first nW constants; at most cm cells of sm slots; the types of arrays; the classes' sizes and field types; the frozen int arrays; the statics; the frozen arrays of constants; the frozen arrays of bytes; the fields of frozen objects; which class is not castable to which -/
abbrev z_G : Type := (Nat × Nat × Nat × Nat) × (List FieldType × Nat) × ((Nat → Nat) × (Nat → Nat → FieldType)) × (Nat → Option (Nat × (Nat → Int32))) × ((Nat → Option Value) × (Nat → Option (Nat × (Nat → Nat))) × (Nat → Option (Nat × (Nat → Int32))) × (Nat → Nat → Option Value) × (Nat → Nat → Bool))
def z_step (G : z_G) (nL : Nat) (i : Instr) (len : Nat) (aux : List Nat) (pc : Nat) (lv : List (Nat × Value)) (st : List Value) (S : z_S) : Option z_U := match i with
  | .getfield _ => match aux with
    | [ci, k, _] => z_gf G.1.1 ci k len pc lv st S
    | _ => none
  | .putfield _ => match aux with
    | [ci, k, _] => z_pf G.1.1 ci k (G.2.2.1.2 ci k) len pc lv st S
    | _ => none
  | .new _ => match aux with
    | [ci, _] => z_nw G.1.1 G.1.2.2.1 G.1.2.2.2 ci (G.2.2.1.1 ci) (G.2.2.1.2 ci) len pc lv st S
    | _ => none
  | .newarray _ => match aux with
    | [t] => match G.2.1.1[t]? with
      | some ty => z_na G.1.1 G.1.2.2.1 G.1.2.2.2 t ty len pc lv st S
      | none => none
    | _ => none
  | .anewarray _ => match aux with
    | [t, _] => z_nq G.1.1 G.1.2.2.1 G.1.2.2.2 t len pc lv st S
    | _ => none
  | .iaload => z_or (z_ial G.1.1 G.2.1.1 .int len pc lv st S) (z_ialF G.1.1 G.2.2.2.1 len pc lv st S)
  | .baload => z_or (z_ial G.1.1 G.2.1.1 .byte len pc lv st S) (z_ial G.1.1 G.2.1.1 .boolean len pc lv st S)
  | .laload => z_lal G.1.1 G.2.1.1 len pc lv st S
  | .aaload => z_aal G.1.1 G.2.1.1 len pc lv st S
  | .iastore => z_ias G.1.1 G.2.1.1 .int len pc lv st S
  | .bastore => z_or (z_ias G.1.1 G.2.1.1 .byte len pc lv st S) (z_ias G.1.1 G.2.1.1 .boolean len pc lv st S)
  | .lastore => z_las G.1.1 G.2.1.1 len pc lv st S
  | .aastore => z_aas G.1.1 G.1.2.1 G.2.1.1 G.2.1.2 len pc lv st S
  | .arraylength => z_or (z_aln G.1.1 G.2.1.1 len pc lv st S) (z_alnF G.1.1 G.2.2.2.1 len pc lv st S)
  | .getstatic _ => match aux with
    | [j, _] => match G.2.2.2.2.1 j with
      | some v => (z_p0 3 len pc lv st v).map (fun q => (q.1, q.2.1, q.2.2, S))
      | none => none
    | _ => none
  | .ldc _ => match aux with
    | [n, _] => (z_p0 2 len pc lv st (.int (Int32.ofNat n))).map (fun q => (q.1, q.2.1, q.2.2, S))
    | _ => none
  | .ldc_w _ => match aux with
    | [n, _] => (z_p0 3 len pc lv st (.int (Int32.ofNat n))).map (fun q => (q.1, q.2.1, q.2.2, S))
    | _ => none
  | .ldc2_w _ => match aux with
    | [n, _] => (z_p0 3 len pc lv st (.long (Int64.ofNat n))).map (fun q => (q.1, q.2.1, q.2.2, S))
    | _ => none
  | i => (z_fr G.1.1 G.1.2.1 nL i len aux pc lv st).map (fun q => (q.1, q.2.1, q.2.2, S))
theorem z_map_i {o : Option z_T} {S S' : z_S} {pc' : Nat} {lv' : List (Nat × Value)} {st' : List Value} (h : o.map (fun q => (q.1, q.2.1, q.2.2, S)) = some (pc', lv', st', S')) : o = some (pc', lv', st') ∧ S' = S := by
  cases o with
  | none => cases h
  | some q =>
    obtain ⟨a, b, c⟩ := q
    cases h
    exact ⟨rfl, rfl⟩
/-- what the program's text must say of links -/
def z_okH (own : String) (ini : Bool) (cl : List vw_C) (tyl : List FieldType) (stl : List (String × String × String × Value)) (Ts : List Cond) (i : Instr) (aux : List Nat) : Prop := match i, aux with
  | .getfield idx, [ci, k, _] => ∃ (C : String) (T : u_T) (N : Nat), cl[ci]? = some (C, T, N) ∧ k < N ∧ Cond.fieldLink own idx (T k).1 (T k).2.1 (T k).2.2.1 ∈ Ts
  | .putfield idx, [ci, k, _] => ∃ (C : String) (T : u_T) (N : Nat), cl[ci]? = some (C, T, N) ∧ k < N ∧ Cond.fieldLink own idx (T k).1 (T k).2.1 (T k).2.2.1 ∈ Ts ∧ ((T k).2.2.2 = true → ini = true ∧ (T k).1 = own)
  | .new idx, [ci, _] => ∃ (C : String) (T : u_T) (N : Nat), cl[ci]? = some (C, T, N) ∧ Cond.classLink own idx C ∈ Ts ∧ Cond.instantiable C N ∈ Ts ∧ Cond.initialized C ∈ Ts
  | .newarray at_, [t] => tyl[t]? = some (newarray.typeOf at_) ∧ Cond.arrayClass (newarray.typeOf at_) ∈ Ts
  | .anewarray idx, [t, _] => ∃ C : String, tyl[t]? = some (.object C) ∧ Cond.classLink own idx C ∈ Ts
  | .getstatic idx, [j, _] => ∃ (C n d : String) (v : Value), stl[j]? = some (C, n, d, v) ∧ Cond.fieldLink own idx C n d ∈ Ts
  | .ldc idx, [n, _] => Jvm.Cond.constant own idx (Int32.ofNat n) ∈ Ts
  | .ldc_w idx, [n, _] => Jvm.Cond.constant own idx (Int32.ofNat n) ∈ Ts
  | .ldc2_w idx, [n, _] => Jvm.Cond.constantLong own idx (Int64.ofNat n) ∈ Ts
  | _, _ => True
/-- the world of a program at a state: classes and arrays as the tables have them; the statics that are read; the frozen arrays; the constants -/
def z_Wd (G : z_G) (sz : Nat) (D : va_G) (cl : List vw_C) (dA : Nat → ClassId) (ad : Nat → Nat) (stl : List (String × String × String × Value)) (cW : String) (s : State) : Prop :=
  va_K D cl (z_tys dA G.2.1.1) s ∧ (∀ (j : Nat) (C n d : String) (v : Value), stl[j]? = some (C, n, d, v) → va_Z C n d (z_tr ad v) (z_A sz) s s.heap) ∧ (∀ (t : Nat) (C : String), G.2.1.1[t]? = some (.object C) → va_AO C s) ∧ sz ≤ s.heap.size ∧
  (∀ (a : Nat) (q : Nat × (Nat → Int32)), G.2.2.2.1 a = some q → va_T .int (ad a) q.1 (fun j => .int (q.2 j)) (z_A sz) s s.heap) ∧ (∀ v, v < G.1.2.1 → va_O cW (ad v) (z_A sz) s s.heap) ∧ ∃ (cC : ClassId) (kC : Class), s.vm.findClass cW = some cC ∧ s.vm.classes[cC]? = some kC
section ZST
variable {p : Program} {l : Launch} {e : Env} {R : Room} {s : State} {m : MethodId} {args : Array Value} {below : List Frame} {meth : Method} {c : Code} {H : Heap} {locs : List Loc} {cells slots : Nat} {Q : State → Prop}
variable {cc : ByteArray} {ls : Array Slot} {ad : Nat → Nat} {dA : Nat → ClassId} {D : va_G} {cl : List vw_C} {Ts : List Cond} {sz : Nat} {stl : List (String × String × String × Value)} {cW : String}
set_option maxHeartbeats 4000000 in
set_option maxRecDepth 20000 in
theorem z_step_ok {G : z_G} {nL : Nat} {own : String} (had : ∀ i, ad (G.1.1 + i) = sz + i) (hlo : ∀ i, i < G.1.2.1 → ad i < sz) (hinj : ∀ i j, i < G.1.2.1 → j < G.1.2.1 → ad i = ad j → i = j)
    (hcl : z_Cl cl G.2.2.1.2 Ts) (hcN : ∀ ci C T N, cl[ci]? = some (C, T, N) → G.2.2.1.1 ci = N) (hst : ∀ j v, G.2.2.2.2.1 j = some v → ∃ C n d, stl[j]? = some (C, n, d, v)) (htW : G.2.1.1[G.2.1.2]? = some (.object cW))
    (hx : p.tables.exec = Jvm.exec) (hb : c.code = cc) (hts : ∀ w ∈ Ts, w.before args s = true) (hown : s.vm.findClass own = some m.cls) {ini : Bool} (hini : ini = true → meth.name = "<init>") (hwd : z_Wd G sz D cl dA ad stl cW s)
    {i : Instr} {len : Nat} {aux : List Nat} {pc pc' : Nat} {lv lv' : List (Nat × Value)} {st st' : List Value} {S S' : z_S} (hdg : decode cc pc = .ok (i, len)) (hokF : z_okF i aux pc = true) (hokH : z_okH own ini cl G.2.1.1 stl Ts i aux)
    (hl : lv_has ls nL (z_trL ad lv)) (hP : va_P D cl (z_W ad dA G.1.1 S.1) H) (hS : va_S (z_A sz) s.heap H locs) {n0 s0 : Nat} (hn0 : s.heap.size = sz + n0) (hce : cells + n0 = S.1.length) (hsl : slots + s0 = S.2) (hRc : G.1.2.2.1 ≤ R.cells + n0) (hRs : G.1.2.2.2 ≤ R.slots + s0)
    (h : z_step G nL i len aux pc lv st S = some (pc', lv', st', S'))
    (kk : ∀ (ls' : Array Slot) (H' : Heap) (locs' : List Loc) (cells' slots' : Nat), lv_has ls' nL (z_trL ad lv') → va_P D cl (z_W ad dA G.1.1 S'.1) H' → va_S (z_A sz) s.heap H' locs' → cells' + n0 = S'.1.length → slots' + s0 = S'.2 → W p l e R s m args below meth c H' locs' cells' slots' Q (F0 m pc' ls' (st'.map (z_tr ad)))) : W p l e R s m args below meth c H locs cells slots Q (F0 m pc ls (st.map (z_tr ad))) := by
  obtain ⟨hK, hZ, hAO, hA, hX, hO, hat⟩ := id hwd
  have fr : ∀ {o : Option z_T}, o = z_fr G.1.1 G.1.2.1 nL i len aux pc lv st → o.map (fun q => (q.1, q.2.1, q.2.2, S)) = some (pc', lv', st', S') → W p l e R s m args below meth c H locs cells slots Q (F0 m pc ls (st.map (z_tr ad))) := by
    intro o ho h2
    obtain ⟨h3, rfl⟩ := z_map_i h2
    rw [ho] at h3
    exact z_fr_ok had hlo hinj hx hb hdg hokF hl h3 (fun ls' hl' => kk ls' H locs cells slots hl' hP hS hce hsl)
  cases i with
  | getfield idx =>
    simp only [z_step] at h
    split at h
    · rename_i ci k pl
      obtain ⟨a, r, fs, v, rfl, h1, h2, rfl, h4, rfl, rfl, rfl, rfl⟩ := z_gf_i h
      obtain ⟨C, T, N, g1, g2, g3⟩ := hokH
      exact z_getf hx hb hts hown hcl hK hP g1 g2 g3 h4 h1 h2 hdg (kk ls H locs cells slots hl hP hS hce hsl)
    · cases h
  | putfield idx =>
    simp only [z_step] at h
    split at h
    · rename_i ci k pl
      obtain ⟨v, a, r, fs, rfl, h1, h2, h3, rfl, h4, rfl, rfl, rfl, rfl⟩ := z_pf_i h
      obtain ⟨C, T, N, g1, g2, g3, g4⟩ := hokH
      exact z_putf had hx hb hts hown hcl hK hP hS g1 g2 g3 (fun q => ⟨hini (g4 q).1, (g4 q).2⟩) h4 h1 h2 h3 hdg (fun H1 locs1 hp hs => kk ls H1 locs1 cells slots hl hp hs (by rw [List.length_set]; exact hce) hsl)
    · cases h
  | new idx =>
    simp only [z_step] at h
    split at h
    · rename_i ci pl
      obtain ⟨⟨rfl, h2, h3⟩, rfl, rfl, rfl, rfl⟩ := z_nw_i h
      obtain ⟨C, T, N, g1, g2, g3, g4⟩ := hokH
      have hN := hcN ci C T N g1
      rw [hN] at h3 kk
      exact z_new had hx hb hts hown hcl hK hP hS hA g1 g2 g3 g4 (by omega) (by omega) (by omega) hdg (fun H1 hp hs => kk ls H1 locs (cells + 1) (slots + N) hl hp hs (by simp; omega) (by simp; omega))
    · cases h
  | newarray at_ =>
    simp only [z_step] at h
    split at h
    · rename_i t
      split at h
      · rename_i ty hty
        obtain ⟨n, r, a, rfl, h1, ⟨⟨rfl, h2, h3⟩, h4, h5⟩, rfl, rfl, rfl, rfl⟩ := z_na_i h
        obtain ⟨g1, g2⟩ := hokH
        have e1 : newarray.typeOf at_ = ty := Option.some.inj (g1.symm.trans hty)
        rw [e1] at g2
        exact z_newa had hx hb hts hK hP hS hA e1 hty g2 h1 h2 h3 (by omega) (by omega) (by omega) hdg (fun H1 hp hs => kk ls H1 locs (cells + 1) (slots + n.toNatClampNeg) hl hp hs (by simp; omega) (by simp; omega))
      · cases h
    · cases h
  | anewarray idx =>
    simp only [z_step] at h
    split at h
    · rename_i t pl
      obtain ⟨n, r, rfl, ⟨⟨rfl, h2, h3⟩, h4, h5⟩, rfl, rfl, rfl, rfl⟩ := z_nq_i h
      obtain ⟨C, g1, g2⟩ := hokH
      exact z_newq had hx hb hts hown g2 (hAO _ _ g1) hK hP hS hA g1 h2 h3 (by omega) (by omega) (by omega) hdg (fun H1 hp hs => kk ls H1 locs (cells + 1) (slots + n.toNatClampNeg) hl hp hs (by simp; omega) (by simp; omega))
    · cases h
  | iaload =>
    simp only [z_step] at h
    rcases z_or_i h with h | h
    · obtain ⟨i, a, r, t, n, f, rfl, ⟨h1, h2⟩, ⟨rfl, h3, h4⟩, rfl, rfl, rfl, rfl⟩ := z_ial_i h
      exact z_iald hx hb hK hP h1 h2 h3 h4 hdg (kk ls H locs cells slots hl hP hS hce hsl)
    · unfold z_ialF at h
      split at h
      · split at h
        · split at h
          · rename_i i a r x q hq hc
            obtain ⟨rfl, hc2, hc3⟩ := hc
            cases h
            exact va_ti hx hb (hX _ _ hq) hS (z_in_i hc3) rfl hdg (kk ls H locs cells slots hl hP hS hce hsl)
          · cases h
        · cases h
      · cases h
  | baload =>
    simp only [z_step] at h
    rcases z_or_i h with h | h
    · obtain ⟨i, a, r, t, n, f, rfl, ⟨h1, h2⟩, ⟨rfl, h3, h4⟩, rfl, rfl, rfl, rfl⟩ := z_ial_i h
      exact z_bald hx hb hK hP h1 h2 h3 h4 hdg (kk ls H locs cells slots hl hP hS hce hsl)
    · obtain ⟨i, a, r, t, n, f, rfl, ⟨h1, h2⟩, ⟨rfl, h3, h4⟩, rfl, rfl, rfl, rfl⟩ := z_ial_i h
      exact z_zald hx hb hK hP h1 h2 h3 h4 hdg (kk ls H locs cells slots hl hP hS hce hsl)
  | laload =>
    simp only [z_step] at h
    obtain ⟨i, a, r, t, n, f, rfl, ⟨h1, h2⟩, ⟨rfl, h3, h4⟩, rfl, rfl, rfl, rfl⟩ := z_lal_i h
    exact z_lald hx hb hK hP h1 h2 h3 h4 hdg (kk ls H locs cells slots hl hP hS hce hsl)
  | aaload =>
    simp only [z_step] at h
    obtain ⟨i, a, r, t, n, f, C, rfl, ⟨h1, h2⟩, h3, ⟨rfl, h4⟩, rfl, rfl, rfl, rfl⟩ := z_aal_i h
    exact z_aald hx hb hK hP h1 h2 h3 h4 hdg (kk ls H locs cells slots hl hP hS hce hsl)
  | iastore =>
    simp only [z_step] at h
    obtain ⟨x, i, a, r, t, n, f, rfl, ⟨h1, h2⟩, ⟨rfl, h3, h4⟩, rfl, rfl, rfl, rfl⟩ := z_ias_i h
    exact z_iast had hx hb hK hP hS h1 h2 h3 h4 hdg (fun H1 locs1 hp hs => kk ls H1 locs1 cells slots hl hp hs (by rw [List.length_set]; exact hce) hsl)
  | bastore =>
    simp only [z_step] at h
    rcases z_or_i h with h | h
    · obtain ⟨x, i, a, r, t, n, f, rfl, ⟨h1, h2⟩, ⟨rfl, h3, h4⟩, rfl, rfl, rfl, rfl⟩ := z_ias_i h
      exact z_bast had hx hb hK hP hS h1 h2 h3 h4 hdg (fun H1 locs1 hp hs => kk ls H1 locs1 cells slots hl hp hs (by rw [List.length_set]; exact hce) hsl)
    · obtain ⟨x, i, a, r, t, n, f, rfl, ⟨h1, h2⟩, ⟨rfl, h3, h4⟩, rfl, rfl, rfl, rfl⟩ := z_ias_i h
      exact z_zast had hx hb hK hP hS h1 h2 h3 h4 hdg (fun H1 locs1 hp hs => kk ls H1 locs1 cells slots hl hp hs (by rw [List.length_set]; exact hce) hsl)
  | lastore =>
    simp only [z_step] at h
    obtain ⟨x, i, a, r, t, n, f, rfl, ⟨h1, h2⟩, ⟨rfl, h3, h4⟩, rfl, rfl, rfl, rfl⟩ := z_las_i h
    exact z_last had hx hb hK hP hS h1 h2 h3 h4 hdg (fun H1 locs1 hp hs => kk ls H1 locs1 cells slots hl hp hs (by rw [List.length_set]; exact hce) hsl)
  | aastore =>
    simp only [z_step] at h
    unfold z_aas at h
    split at h
    · split at h
      · split at h
        · rename_i v i a r x t n f hq hc
          obtain ⟨⟨rfl, rfl, hc2⟩, hc3⟩ := hc
          cases h
          obtain ⟨h1, h2⟩ := z_ar_i hq
          exact z_aastF had hx hb hK hP hS h1 h2 htW (hO v hc2) hat hc3 hdg (fun H1 locs1 hp hs => kk ls H1 locs1 cells slots hl hp hs (by rw [List.length_set]; exact hce) hsl)
        · cases h
      · cases h
    · cases h
  | arraylength =>
    simp only [z_step] at h
    rcases z_or_i h with h | h
    · obtain ⟨a, r, x, rfl, ⟨h1, h2⟩, ⟨rfl, h3⟩, rfl, rfl, rfl, rfl⟩ := z_aln_i h
      exact z_alen hx hb hK hP h1 h2 h3 hdg (kk ls H locs cells slots hl hP hS hce hsl)
    · unfold z_alnF at h
      split at h
      · split at h
        · split at h
          · rename_i a r x q hq hc
            obtain ⟨rfl, hc2⟩ := hc
            cases h
            exact va_tlen hx hb (hX _ _ hq) hS rfl hdg (kk ls H locs cells slots hl hP hS hce hsl)
          · cases h
        · cases h
      · cases h
  | getstatic idx =>
    simp only [z_step] at h
    split at h
    · rename_i j pl
      split at h
      · rename_i v hv
        obtain ⟨h3, rfl⟩ := z_map_i h
        obtain ⟨rfl, rfl, rfl, rfl⟩ := z_p0_i h3
        obtain ⟨C, n, d, v', g1, g2⟩ := hokH
        obtain ⟨C2, n2, d2, g3⟩ := hst j v hv
        cases g1.symm.trans g3
        exact va_gets hx hb (hZ j C n d v g1) hS hown (hts _ g2) (fun x q => q) hdg (kk ls H locs cells slots hl hP hS hce hsl)
      · cases h
    · cases h
  | ldc idx =>
    simp only [z_step] at h
    split at h
    · rename_i n pl
      obtain ⟨h3, rfl⟩ := z_map_i h
      obtain ⟨rfl, rfl, rfl, rfl⟩ := z_p0_i h3
      exact lv_ldc hx hb hown (hts _ hokH) hdg (kk ls H locs cells slots hl hP hS hce hsl)
    · cases h
  | ldc_w idx =>
    simp only [z_step] at h
    split at h
    · rename_i n pl
      obtain ⟨h3, rfl⟩ := z_map_i h
      obtain ⟨rfl, rfl, rfl, rfl⟩ := z_p0_i h3
      exact lv_ldcw hx hb hown (hts _ hokH) hdg (kk ls H locs cells slots hl hP hS hce hsl)
    · cases h
  | ldc2_w idx =>
    simp only [z_step] at h
    split at h
    · rename_i n pl
      obtain ⟨h3, rfl⟩ := z_map_i h
      obtain ⟨rfl, rfl, rfl, rfl⟩ := z_p0_i h3
      exact lv_ldc2 hx hb hown (hts _ hokH) hdg (kk ls H locs cells slots hl hP hS hce hsl)
    · cases h
  | _ => exact fr rfl h
end ZST
