/-! The law's entry: from what the Statement gives to the plain machine's world. -/
def y_ad (sz b aK aS aF : Nat) (f fs fb : Nat → Nat) (i : Nat) : Nat := if i < 37 then f i else if i = 37 then aK else if i = 38 then aS else if i = 39 then b else if i = 106 then aF else if i < 106 then (if (i - 40) % 2 = 0 then fs ((i - 40) / 2) else fb ((i - 40) / 2)) else sz + (i - 107)
section ZAD
variable {sz b aK aS aF : Nat} {f fs fb : Nat → Nat} {i : Nat}
theorem y_ad_lo (h : i < 37) : y_ad sz b aK aS aF f fs fb i = f i := if_pos h
theorem y_ad_hi (i : Nat) : y_ad sz b aK aS aF f fs fb (107 + i) = sz + i := by
  unfold y_ad
  rw [if_neg (by omega), if_neg (by omega), if_neg (by omega), if_neg (by omega), if_neg (by omega), if_neg (by omega)]
  omega
theorem y_ad_s (h : i < 33) : y_ad sz b aK aS aF f fs fb (40 + 2 * i) = fs i := by
  unfold y_ad
  rw [if_neg (by omega), if_neg (by omega), if_neg (by omega), if_neg (by omega), if_neg (by omega), if_pos (by omega), if_pos (by omega)]
  congr 1
  omega
theorem y_ad_b (h : i < 33) : y_ad sz b aK aS aF f fs fb (40 + 2 * i + 1) = fb i := by
  unfold y_ad
  rw [if_neg (by omega), if_neg (by omega), if_neg (by omega), if_neg (by omega), if_neg (by omega), if_pos (by omega), if_neg (by omega)]
  congr 1
  omega
end ZAD
def z_nrw : List Cond := flatC (Jvm.Cond.and given_1 narrow_1)
def z_Wt (v : Nat) : Term := .static "FiberWorks$Word" (z_wn2.getD v "") "LFiberWorks$Word;"
def z_tK : Term := .static "FiberWorks$Words" "KINDS" "[LFiberWorks$Word;"
def z_tS : Term := .static "FiberWorks$1" "$SwitchMap$FiberWorks$Word" "[I"
def z_tL (i : Nat) : Term := .string "FiberWorks$Word" (z_lix.getD i 0)
def z_tV (i : Nat) : Term := .field (z_tL i) "java/lang/String" "value" "[B"
def z_tC : Term := .static "java/lang/String" "COMPACT_STRINGS" "Z"
def z_tF : Term := .static "jdk/internal/util/Preconditions" "SIOOBE_FORMATTER" "Ljava/util/function/BiFunction;"
theorem z_m1 : ∀ v, v < 37 → Cond.exactly (z_Wt v) "FiberWorks$Word" ∈ z_nrw := by decide +kernel
theorem z_m2 : ∀ v, v < 37 → Cond.eq (.field (z_Wt v) "java/lang/Enum" "ordinal" "I") (.int (nI v)) ∈ z_nrw := by decide +kernel
theorem z_m3 : ∀ v, v < 37 → Cond.laysStatic "FiberWorks$Word" (z_wn2.getD v "") "LFiberWorks$Word;" ∈ tables_1 := by decide +kernel
theorem z_m4 : ∀ j, j < 37 → Cond.eq (.elem z_tS (.int (Int32.ofNat j))) (.int (z_smap.getD j 0)) ∈ z_nrw := by decide +kernel
theorem z_m5 : Cond.arrayOf z_tS .int ∈ z_nrw := by decide +kernel
theorem z_m6 : Cond.eq (.length z_tS) (.int (Int32.ofNat 37)) ∈ z_nrw := by decide +kernel
theorem z_mK1 : Cond.arrayOf z_tK (.object "FiberWorks$Word") ∈ z_nrw := by decide +kernel
theorem z_mK2 : Cond.eq (.length z_tK) (.int (Int32.ofNat 37)) ∈ z_nrw := by decide +kernel
theorem z_mK3 : ∀ j, j < 37 → Cond.eq (.elem z_tK (.int (Int32.ofNat j))) (z_Wt j) ∈ z_nrw := by decide +kernel
theorem z_mL1 : ∀ v, v < 37 → Cond.eq (.field (z_Wt v) "FiberWorks$Word" "letters" "Ljava/lang/String;") (z_tL (z_let.getD v 0)) ∈ z_nrw := by decide +kernel
theorem z_mL2 : ∀ i, i < 33 → Cond.exactly (z_tL i) "java/lang/String" ∈ z_nrw := by decide +kernel
theorem z_mL3 : ∀ i, i < 33 → Cond.eq (.field (z_tL i) "java/lang/String" "coder" "B") (.int 0) ∈ z_nrw := by decide +kernel
theorem z_mL4 : ∀ i, i < 33 → Cond.arrayOf (z_tV i) .byte ∈ z_nrw := by decide +kernel
theorem z_mL5 : ∀ i, i < 33 → Cond.eq (.length (z_tV i)) (.int (Int32.ofNat (z_bys.getD i []).length)) ∈ z_nrw := by decide +kernel
def z_ixl : List (List Nat) := [[], [353], [402], [387], [392], [348], [407], [397], [412], [474], [479], [484], [489], [469], [457], [381, 382], [338, 339, 340, 341, 342, 343], [494, 495, 496], [501, 502, 503], [417, 418], [508, 509], [423, 424, 425, 426], [431, 432, 433, 434], [514, 515], [520, 521, 522, 523, 524, 525], [439, 440, 441, 442], [447, 448, 449, 450, 451, 452], [462, 463, 464], [530, 531, 532, 533], [538, 539, 540, 541, 542], [358, 359, 360], [365, 366, 367, 368], [373, 374, 375, 376]]
theorem z_mL6x : ∀ i, i < 33 → ∀ j, j < (z_bys.getD i []).length → z_nrw[(z_ixl.getD i []).getD j 0]? = some (Cond.eq (.elem (z_tV i) (.int (Int32.ofNat j))) (.int ((z_bys.getD i []).getD j 0))) := by decide +kernel
theorem z_mL6 : ∀ i, i < 33 → ∀ j, j < (z_bys.getD i []).length → Cond.eq (.elem (z_tV i) (.int (Int32.ofNat j))) (.int ((z_bys.getD i []).getD j 0)) ∈ z_nrw := fun i hi j hj => List.mem_of_getElem? (z_mL6x i hi j hj)
theorem z_mL7 : ∀ i, i < 33 → (z_bys.getD i []).length < 100 := by decide +kernel
theorem z_mL8 : ∀ v, v < 37 → z_let.getD v 0 < 33 := by decide +kernel
theorem z_mC1 : Cond.eq z_tC (.int 1) ∈ z_nrw := by decide +kernel
theorem z_mF1 : Cond.isRef z_tF ∈ z_nrw := by decide +kernel
theorem z_mN1 : Cond.not (.castable "java/lang/IllegalArgumentException" "java/lang/IllegalStateException") ∈ z_nrw := by decide +kernel
theorem z_mN2 : Cond.not (.castable "java/lang/IllegalStateException" "java/lang/IllegalArgumentException") ∈ z_nrw := by decide +kernel
def z_m8l : List Cond := [.arrayOver (.object "FiberWorks$Word"), .arrayClass .int, .arrayClass .byte, .arrayClass .boolean, .arrayClass .long, .initialized "FiberWorks$Word", .initialized "FiberWorks$Words", .initialized "FiberWorks$1", .initialized "java/lang/Throwable", .laysStatic "FiberWorks$Words" "KINDS" "[LFiberWorks$Word;", .laysStatic "FiberWorks$1" "$SwitchMap$FiberWorks$Word" "[I", .laysStatic Bundle.tN "UNASSIGNED_STACK" Bundle.steD, .laysStatic Bundle.tN "SUPPRESSED_SENTINEL" Bundle.listD, .initialized "java/lang/String", .initialized "jdk/internal/util/Preconditions", .laysStatic "java/lang/String" "COMPACT_STRINGS" "Z", .laysStatic "jdk/internal/util/Preconditions" "SIOOBE_FORMATTER" "Ljava/util/function/BiFunction;"]
theorem z_m8 : ∀ w ∈ z_m8l, w ∈ tables_1 := by decide +kernel
theorem z_m9 : ∀ w ∈ ([.isRef (.static Bundle.tN "UNASSIGNED_STACK" Bundle.steD), .isRef (.static Bundle.tN "SUPPRESSED_SENTINEL" Bundle.listD)] : List Cond), w ∈ z_nrw := by decide +kernel
theorem z_mA : ∀ q ∈ z_strs, Cond.stringRef q.1 q.2.1 q.2.2 ∈ tables_1 := by decide +kernel
theorem z_mB : ∀ q ∈ z_strs, Cond.exactly (.string q.1 q.2.1) "java/lang/String" ∈ z_nrw := by decide +kernel
theorem z_mC : z_ats.all (fun a => !a.onTables || decide (a ∈ tables_1)) = true := by decide +kernel
theorem z_nIi : ∀ i, i < 37 → ∀ j, j < 37 → nI i = nI j → i = j := by decide +kernel
theorem z_stlo : ∀ j, j < 37 → z_stb[j]? = some ("FiberWorks$Word", z_wn2.getD j "", "LFiberWorks$Word;", .ref j) := by decide +kernel
/-- two terms that are said to be equal have one value -/
theorem z_eqr {args : Array Value} {s : State} {t u : Term} {a : Nat} (h : (Cond.eq t u).before args s = true) (hu : u.eval args s none [] s = some (.ref a)) : t.eval args s none [] s = some (.ref a) := by
  cases hv : t.eval args s none [] s with
  | none => simp [Cond.before, Cond.holds, Cond.value, hv] at h
  | some w =>
    simp only [Cond.before, Cond.holds, Cond.value, hv, hu] at h
    cases w <;> simp_all
theorem z_ncast {args : Array Value} {s : State} {A B : String} {ca cb : ClassId} (h : (Cond.not (.castable A B)).before args s = true) (ha : s.vm.findClass A = some ca) (hb : s.vm.findClass B = some cb) : s.vm.assignable ca cb = false := by
  have h1 := Cond.holds_not_iff.mp h
  simp only [Cond.value, ha, hb] at h1
  exact Option.some.inj h1
theorem z_inst : ∀ (ci : Nat) (C : String) (T : u_T) (N : Nat), z_cl[ci]? = some (C, T, N) → ∃ n, Cond.instantiable C n ∈ tables_1 := by
  have hm : ∀ w ∈ ([.instantiable "FiberWorks" 9, .instantiable "FiberWorks$Faults" 2, .instantiable "FiberWorks$Words" 11, .instantiable "FiberWorks$Types" 5, .instantiable "FiberWorks$Code" 11, .instantiable "FiberWorks$Declarations" 4, .instantiable "FiberWorks$Reader" 8, .instantiable "FiberWorks$Checker" 17, .instantiable "FiberWorks$Machine" 13, .instantiable "FiberWorksModel" 123, .instantiable "java/lang/IllegalArgumentException" 6, .instantiable "java/lang/IllegalStateException" 6] : List Cond), w ∈ tables_1 := by decide +kernel
  intro ci C T N h
  match ci, h with
  | 0, h => cases h; exact ⟨_, hm _ (List.mem_of_getElem? (i := 0) rfl)⟩
  | 1, h => cases h; exact ⟨_, hm _ (List.mem_of_getElem? (i := 1) rfl)⟩
  | 2, h => cases h; exact ⟨_, hm _ (List.mem_of_getElem? (i := 2) rfl)⟩
  | 3, h => cases h; exact ⟨_, hm _ (List.mem_of_getElem? (i := 3) rfl)⟩
  | 4, h => cases h; exact ⟨_, hm _ (List.mem_of_getElem? (i := 4) rfl)⟩
  | 5, h => cases h; exact ⟨_, hm _ (List.mem_of_getElem? (i := 5) rfl)⟩
  | 6, h => cases h; exact ⟨_, hm _ (List.mem_of_getElem? (i := 6) rfl)⟩
  | 7, h => cases h; exact ⟨_, hm _ (List.mem_of_getElem? (i := 7) rfl)⟩
  | 8, h => cases h; exact ⟨_, hm _ (List.mem_of_getElem? (i := 8) rfl)⟩
  | 9, h => cases h; exact ⟨_, hm _ (List.mem_of_getElem? (i := 9) rfl)⟩
  | 10, h => cases h; exact ⟨_, hm _ (List.mem_of_getElem? (i := 10) rfl)⟩
  | 11, h => cases h; exact ⟨_, hm _ (List.mem_of_getElem? (i := 11) rfl)⟩
  | n + 12, h => simp [z_cl] at h
theorem z_arrP {args : Array Value} {s : State} {ty : FieldType} (h : (Cond.arrayClass ty).before args s = true) (hr : ∀ C, ty ≠ .object C) : ∃ cA, ArrOfT s cA ty ∧ va_RA s cA ty := by
  obtain ⟨c, k, comp, h1, h2, h3⟩ := Cond.arrayClass_spec h
  refine ⟨c, fun N z => ⟨(fun k h => by cases h), k, h2, comp, h3⟩, ?_⟩
  cases ty with
  | object C => exact absurd rfl (hr C)
  | _ => exact h1
theorem z_arrQ {args : Array Value} {s : State} {C : String} (h : (Cond.arrayOver (.object C)).before args s = true) : ∃ cA, ArrOfT s cA (.object C) ∧ va_RA s cA (.object C) := by
  obtain ⟨comp, c, k, h1, h2, h3, h4, h5⟩ := Cond.arrayOver_spec h
  exact ⟨c, fun N z => ⟨(fun k h => by cases h), k, h3, comp, h4⟩, k, comp, h3, h4, h1, h5⟩
theorem z_zq {s : State} {args : Array Value} {C n d : String} (hl : (Cond.laysStatic C n d).before args s = true) (hini : (Cond.initialized C).before args s = true) (hr : (Cond.isRef (.static C n d)).before args s = true) : va_Zq C n d (z_A s.heap.size) s s.heap := by
  have hA : ∀ a : Nat, a < s.heap.size → ¬ z_A s.heap.size a := fun a h q => absurd q (Nat.not_le.mpr h)
  obtain ⟨v, hv, hq⟩ := Cond.isRef_spec hr
  cases v with
  | null => exact Or.inl (va_Zof hl hini hv hA)
  | ref t => exact Or.inr ⟨t, va_Zof hl hini hv hA⟩
  | _ => cases hq
set_option maxHeartbeats 4000000 in
theorem z_world {s : State} {b L : Nat} {xs : Nat → Int32} (hts : ∀ w ∈ lw_tbl, w.before #[Value.ref b] s = true) (hgv : (Jvm.Cond.and given_1 narrow_1).before #[Value.ref b] s = true) (hX : va_X b L xs s s.heap) (hbl : b < s.heap.size) :
    ∃ (fv : Value) (ad : Nat → Nat) (D : va_G) (dA : Nat → ClassId), (fv = .null ∨ fv = .ref 106) ∧ ad 39 = b ∧ (∀ i, ad (107 + i) = s.heap.size + i) ∧ (∀ i, i < 37 → ad i < s.heap.size) ∧ (∀ i j, i < 37 → j < 37 → ad i = ad j → i = j) ∧ z_Wo L xs fv s.heap.size ad D dA s := by
  have hn : ∀ c ∈ z_nrw, c.before #[Value.ref b] s = true := flat_of_before _ hgv
  have ht1 : ∀ w ∈ tables_1, w.before #[Value.ref b] s = true := fun w hw => hts w (List.mem_append_right _ hw)
  have hzs : ∀ w ∈ z_ws, w.before #[Value.ref b] s = true := fun w hw => hts w (z_win w hw)
  have hA : ∀ a : Nat, a < s.heap.size → ¬ z_A s.heap.size a := fun a h q => absurd q (Nat.not_le.mpr h)
  have h8 : ∀ (i : Nat) (w : Cond), z_m8l[i]? = some w → w.before #[Value.ref b] s = true := fun i w h => ht1 w (z_m8 w (List.mem_of_getElem? h))
  have hev : ∀ v : Nat, ∃ t : Nat, v < 37 → (z_Wt v).eval #[Value.ref b] s none [] s = some (.ref t) ∧ va_O "FiberWorks$Word" t (z_A s.heap.size) s s.heap := by
    intro v
    by_cases hv : v < 37
    · obtain ⟨a, c, cell, k, q1, -⟩ := Cond.exactly_spec (hn _ (z_m1 v hv))
      exact ⟨a, fun _ => ⟨q1, va_Oof (hn _ (z_m1 v hv)) q1 hA⟩⟩
    · exact ⟨0, fun h => absurd h hv⟩
  obtain ⟨f, hf⟩ := Classical.axiomOfChoice hev
  have hOF : ∀ v, v < 37 → va_OF "java/lang/Enum" "ordinal" "I" (.int (nI v)) (f v) (z_A s.heap.size) s s.heap := fun v hv => vk_OFof (hf v hv).1 (va_eqt (hn _ (z_m2 v hv))) hA
  have hinj : ∀ i j, i < 37 → j < 37 → f i = f j → i = j := by
    intro i j hi hj e
    have h1 := va_eqt (hn _ (z_m2 i hi))
    have h2 := va_eqt (hn _ (z_m2 j hj))
    rw [va_fe (hf i hi).1] at h1
    rw [va_fe (hf j hj).1, ← e, h1] at h2
    exact z_nIi i hi j hj (by injection h2 with h3; injection h3)
  obtain ⟨aK, hK1, hK2⟩ := va_Tof (N := 37) (f := fun j => .ref (f j)) (by decide) (hn _ z_mK1) (va_eqt (hn _ z_mK2)) (fun j hj => z_eqr (hn _ (z_mK3 j hj)) (hf j hj).1) hA
  have hstr : ∀ i : Nat, ∃ t : Nat × Nat, i < 33 → (z_tL i).eval #[Value.ref b] s none [] s = some (.ref t.1) ∧ va_O "java/lang/String" t.1 (z_A s.heap.size) s s.heap ∧ (z_tV i).eval #[Value.ref b] s none [] s = some (.ref t.2) ∧ va_T .byte t.2 (z_bys.getD i []).length (fun j => .int ((z_bys.getD i []).getD j 0)) (z_A s.heap.size) s s.heap := by
    intro i
    by_cases hi : i < 33
    · obtain ⟨a, c, cell, k, q1, -⟩ := Cond.exactly_spec (hn _ (z_mL2 i hi))
      obtain ⟨t, t1, t2⟩ := va_Tof (N := (z_bys.getD i []).length) (f := fun j => .int ((z_bys.getD i []).getD j 0)) (by have := z_mL7 i hi; omega) (hn _ (z_mL4 i hi)) (va_eqt (hn _ (z_mL5 i hi))) (fun j hj => va_eqt (hn _ (z_mL6 i hi j hj))) hA
      exact ⟨(a, t), fun _ => ⟨q1, va_Oof (hn _ (z_mL2 i hi)) q1 hA, t1, t2⟩⟩
    · exact ⟨(0, 0), fun h => absurd h hi⟩
  obtain ⟨gs, hgs⟩ := Classical.axiomOfChoice hstr
  obtain ⟨vF, hvF, hqF⟩ := Cond.isRef_spec (hn _ z_mF1)
  obtain ⟨aS, hS1, hS2⟩ := va_Tof (N := 37) (f := fun j => .int (z_smap.getD j 0)) (by decide) (hn _ z_m5) (va_eqt (hn _ z_m6)) (fun j hj => va_eqt (hn _ (z_m4 j hj))) hA
  have hcls : ∀ ci : Nat, ∃ q : ClassId × (Nat → Nat), ∀ r : vw_C, z_cl[ci]? = some r → u_Kn s r.1 r.2.1 r.2.2 q.1 q.2 := by
    intro ci
    cases hr : z_cl[ci]? with
    | none => exact ⟨(0, fun _ => 0), fun r h => by cases h⟩
    | some r =>
      obtain ⟨C, T, N⟩ := r
      obtain ⟨n, hm⟩ := z_inst ci C T N hr
      obtain ⟨cC, iS, hk⟩ := u_known (ws := z_ws) (s := s) (args := #[Value.ref b]) (C := C) (T := T) (N := N) hzs (z_Cl_ok ci C T N hr).1 (ht1 _ hm)
      exact ⟨(cC, iS), fun r h => by cases h; exact hk⟩
  obtain ⟨g, hg⟩ := Classical.axiomOfChoice hcls
  have harr : ∀ t : Nat, ∃ cA : ClassId, ∀ ty, z_tyl[t]? = some ty → ArrOfT s cA ty ∧ va_RA s cA ty := by
    intro t
    have one : ∀ (ty : FieldType), z_tyl[t]? = some ty → (∃ cA, ArrOfT s cA ty ∧ va_RA s cA ty) → ∃ cA : ClassId, ∀ ty, z_tyl[t]? = some ty → ArrOfT s cA ty ∧ va_RA s cA ty := by
      intro ty h1 ⟨cA, h2⟩
      exact ⟨cA, fun ty' h => by rw [h1] at h; cases h; exact h2⟩
    match t, one with
    | 0, one => exact one .int rfl (z_arrP (h8 1 _ rfl) (fun C h => by cases h))
    | 1, one => exact one .byte rfl (z_arrP (h8 2 _ rfl) (fun C h => by cases h))
    | 2, one => exact one .boolean rfl (z_arrP (h8 3 _ rfl) (fun C h => by cases h))
    | 3, one => exact one .long rfl (z_arrP (h8 4 _ rfl) (fun C h => by cases h))
    | 4, one => exact one (.object "FiberWorks$Word") rfl (z_arrQ (h8 0 _ rfl))
    | n + 5, one => exact ⟨0, fun ty h => by simp [z_tyl] at h⟩
  obtain ⟨dA, hdA⟩ := Classical.axiomOfChoice harr
  obtain ⟨aF, fv, hfv, hfv2⟩ : ∃ (aF : Nat) (fv : Value), (fv = .null ∨ fv = .ref 106) ∧ vF = z_tr (y_ad s.heap.size b aK aS aF f (fun i => (gs i).1) (fun i => (gs i).2)) fv := by
    cases vF with
    | null => exact ⟨0, .null, Or.inl rfl, rfl⟩
    | ref t => exact ⟨t, .ref 106, Or.inr rfl, rfl⟩
    | _ => cases hqF
  have hca : ∀ ci r, z_cl[ci]? = some r → s.vm.findClass r.1 = some (g ci).1 := by
    intro ci r h
    exact (hg ci r h).2.1
  refine ⟨fv, y_ad s.heap.size b aK aS aF f (fun i => (gs i).1) (fun i => (gs i).2), (fun c => (g c).1, fun c => (g c).2), dA, hfv, rfl, fun i => y_ad_hi i, fun i hi => ?_, fun i j hi hj e => ?_, ⟨⟨fun c q h => hg c q h, fun k q h => ?_⟩, ?_, ?_, Nat.le_refl _, ?_, ?_, ?_⟩, ?_, ?_, ?_, ?_, ?_, ?_, ?_, ?_, ?_, ?_, ?_⟩
  · rw [y_ad_lo hi]
    obtain ⟨cell, q1, -⟩ := (hf i hi).2
    exact (Array.getElem?_eq_some_iff.mp q1).1
  · rw [y_ad_lo hi, y_ad_lo hj] at e
    exact hinj i j hi hj e
  · have h : (z_tys dA z_tyl)[k]? = some q := h
    cases ht : z_tyl[k]? with
    | none =>
      have : (z_tys dA z_tyl)[k]? = none := by
        unfold z_tys
        rw [List.getElem?_mapIdx, ht]
        rfl
      rw [this] at h
      cases h
    | some ty =>
      rw [z_tys_get ht] at h
      cases h
      exact hdA k ty ht
  · intro j C n d v h
    unfold z_stl at h
    rw [List.getElem?_append] at h
    split at h
    · by_cases hj : j < 37
      · rw [z_stlo j hj] at h
        cases h
        show va_Z _ _ _ (.ref (y_ad s.heap.size b aK aS aF f (fun i => (gs i).1) (fun i => (gs i).2) j)) _ _ _
        rw [y_ad_lo hj]
        exact va_Zref (ht1 _ (z_m3 j hj)) (h8 5 _ rfl) (hf j hj).1 hA
      · obtain ⟨i, rfl⟩ : ∃ i, j = 37 + i := ⟨j - 37, by omega⟩
        match i, h with
        | 0, h => cases h; exact va_Zref (h8 9 _ rfl) (h8 6 _ rfl) hK1 hA
        | 1, h => cases h; exact va_Zref (h8 10 _ rfl) (h8 7 _ rfl) hS1 hA
        | 2, h => cases h; exact va_Zof (h8 15 _ rfl) (h8 13 _ rfl) (va_eqt (hn _ z_mC1)) hA
        | i + 3, h =>
          have h3 : z_stb.length = 40 := rfl
          have h4 := (List.getElem?_eq_some_iff.mp h).1
          omega
    · cases hk : j - z_stb.length with
      | zero =>
        rw [hk] at h
        cases h
        rw [← hfv2]
        exact va_Zof (h8 16 _ rfl) (h8 14 _ rfl) hvF hA
      | succ n =>
        rw [hk] at h
        cases h
  · intro t C h
    match t, h with
    | 0, h => cases h
    | 1, h => cases h
    | 2, h => cases h
    | 3, h => cases h
    | 4, h => cases h; exact va_AO.of (h8 0 _ rfl)
    | n + 5, h => simp [z_g, z_tyl] at h
  · intro a q h
    have h : (if a = 38 then some (37, fun j => z_smap.getD j 0) else if a = 39 then some (L, xs) else none) = some q := h
    by_cases h38 : a = 38
    · subst h38
      cases h
      exact hS2
    · rw [if_neg h38] at h
      by_cases h39 : a = 39
      · subst h39
        cases h
        obtain ⟨scr, q1, q2, q3, q4, q5⟩ := hX
        exact ⟨scr, q1, q2, q3, Nat.le_of_eq q4.symm, by rw [q4], q5, hA b hbl⟩
      · rw [if_neg h39] at h
        cases h
  · intro v hv
    have hv : v < 37 := hv
    rw [y_ad_lo hv]
    exact (hf v hv).2
  · obtain ⟨a, c, cell, k, -, q2, -, q4, -⟩ := Cond.exactly_spec (hn _ (z_m1 0 (by decide)))
    exact ⟨c, k, q2, q4⟩
  · intro v hv
    rw [y_ad_lo hv]
    exact hOF v hv
  · intro a ha ht
    have h1 := List.all_eq_true.mp z_mC a ha
    rw [ht] at h1
    exact va_tabs ht rfl (ht1 a (of_decide_eq_true h1))
  · exact ⟨h8 11 _ rfl, z_zq (h8 11 _ rfl) (h8 8 _ rfl) (hn _ (z_m9 _ (List.mem_of_getElem? (i := 0) rfl)))⟩
  · exact ⟨h8 12 _ rfl, z_zq (h8 12 _ rfl) (h8 8 _ rfl) (hn _ (z_m9 _ (List.mem_of_getElem? (i := 1) rfl)))⟩
  · intro q hq
    obtain ⟨a, c, cell, k, q1, -⟩ := Cond.exactly_spec (hn _ (z_mB q hq))
    exact ⟨a, vk_R.of (ht1 _ (z_mA q hq)) q1⟩
  · intro a q h
    obtain ⟨rfl, rfl⟩ := z_gfr_lo h
    obtain ⟨cell, c1, c2, c3, c4, c5, c6, c7⟩ := hK2
    refine ⟨cell, c1, c2, c3, c4, c5, fun j hj => ?_, c7⟩
    rw [c6 j hj]
    show some (Value.ref (f j)) = some (Value.ref (y_ad s.heap.size b aK aS aF f (fun i => (gs i).1) (fun i => (gs i).2) j))
    rw [y_ad_lo hj]
  · intro a q h
    unfold z_gfb at h
    split at h
    · rename_i ha
      cases h
      obtain ⟨i, rfl⟩ : ∃ i, a = 40 + 2 * i + 1 := ⟨(a - 40) / 2, by omega⟩
      have hi : i < 33 := by omega
      have hdi : (40 + 2 * i + 1 - 40) / 2 = i := by omega
      rw [y_ad_b hi, hdi]
      exact (hgs i hi).2.2.2
    · cases h
  · intro a k v o n d hk h
    unfold z_gfc at h
    split at h
    · rename_i ha
      split at h
      · rename_i hk0
        subst hk0
        cases hk
        cases h
        have hli := z_mL8 a ha
        show va_OF _ _ _ (.ref (y_ad s.heap.size b aK aS aF f (fun i => (gs i).1) (fun i => (gs i).2) (40 + 2 * z_let.getD a 0))) (y_ad s.heap.size b aK aS aF f (fun i => (gs i).1) (fun i => (gs i).2) a) _ _ _
        rw [y_ad_lo ha, y_ad_s hli]
        exact vk_OFof (hf a ha).1 (z_eqr (hn _ (z_mL1 a ha)) (hgs _ hli).1) hA
      · cases h
    · split at h
      · rename_i ha
        obtain ⟨i, rfl⟩ : ∃ i, a = 40 + 2 * i := ⟨(a - 40) / 2, by omega⟩
        have hi : i < 33 := by omega
        obtain ⟨g1, g2, g3, g4⟩ := hgs i hi
        split at h
        · rename_i hk1
          subst hk1
          cases hk
          cases h
          show va_OF _ _ _ (.ref (y_ad s.heap.size b aK aS aF f (fun i => (gs i).1) (fun i => (gs i).2) (40 + 2 * i + 1))) _ _ _ _
          rw [y_ad_b hi, y_ad_s hi]
          exact vk_OFof g1 g3 hA
        · split at h
          · rename_i hk2
            rcases hk2 with rfl | rfl
            · cases hk
              cases h
              rw [y_ad_s hi]
              exact vk_OFof g1 (va_eqt (hn _ (z_mL3 i hi))) hA
            · cases hk
          · cases h
      · cases h
  · intro b' hb'
    cases hx : z_gfc b' 99 with
    | none => rw [hx] at hb'; cases hb'
    | some v =>
      unfold z_gfc at hx
      split at hx
      · rw [if_neg (by decide)] at hx
        cases hx
      · split at hx
        · rename_i ha
          obtain ⟨i, rfl⟩ : ∃ i, b' = 40 + 2 * i := ⟨(b' - 40) / 2, by omega⟩
          have hi : i < 33 := by omega
          rw [y_ad_s hi]
          exact (hgs i hi).2.1
        · cases hx
  · exact z_ncast (hn _ z_mN1) (hca 10 _ rfl) (hca 11 _ rfl)
  · exact z_ncast (hn _ z_mN2) (hca 11 _ rfl) (hca 10 _ rfl)
