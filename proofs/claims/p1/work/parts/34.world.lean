/-! The world of this program: its numbers, what it reads of the start, its throws. -/
def z_smap : List Int32 := [0, 0, 14, 0, 11, 15, 0, 0, 0, 0, 0, 0, 7, 6, 8, 9, 10, 0, 0, 0, 0, 1, 2, 0, 3, 0, 0, 4, 5, 0, 0, 0, 12, 13, 0, 0, 0]
def z_wn2 : List String := ["END_OF_TEXT", "NO_WORD", "NAME", "EFFECT", "NUMBER", "OPEN", "CLOSE", "OPEN_ROW", "CLOSE_ROW", "COLON", "SEMICOLON", "COMMA", "SAME", "LESS", "PLUS", "MINUS", "TIMES", "PERFORM", "BAR", "ARROW", "DECLARE", "LET", "REC", "IN", "IF", "THEN", "ELSE", "FN", "HANDLE", "WITH", "RETURN", "END", "TRUE", "FALSE", "INT", "BOOL", "UNIT"]
def z_g (L : Nat) (xs : Nat → Int32) : z_G := ((40, 37, 600002, 7302232), (z_tyl, 4), (z_cN, z_fty), (fun a => if a = 38 then some (37, fun j => z_smap.getD j 0) else if a = 39 then some (L, xs) else none), fun j => (z_stl[j]?).map (fun q => q.2.2.2))
def z_nms : List String := ["java/lang/RuntimeException", "java/lang/Exception"]
def z_at0 : List Cond := Bundle.ownAtoms "FiberWorks" 111 "java/lang/IllegalArgumentException" z_nms
def z_at1 : List Cond := Bundle.ownAtoms0 "FiberWorks$Faults" 23 "java/lang/IllegalArgumentException" z_nms
def z_at2 : List Cond := Bundle.ownAtoms "FiberWorks" 141 "java/lang/IllegalStateException" z_nms
def z_ats : List Cond := z_at0 ++ (z_at1 ++ (z_at2))
def z_strs : List (String × Nat × String) := [("FiberWorks", 109, "the text has a fault"), ("FiberWorks", 139, "there is no program"), ("FiberWorks", 148, "the program has not begun"), ("FiberWorks", 150, "no such amount of fuel")]
/-- what is known where a method of the program begins -/
def z_Wo (L : Nat) (xs : Nat → Int32) (sz : Nat) (ad : Nat → Nat) (D : va_G) (dA : Nat → ClassId) (U : State) : Prop :=
  z_Wd (z_g L xs) sz D z_cl dA ad z_stl "FiberWorks$Word" U ∧ (∀ v, v < 37 → va_OF "java/lang/Enum" "ordinal" "I" (.int (nI v)) (ad v) (z_A sz) U U.heap) ∧ (∀ a ∈ z_ats, a.onTables = true → a.before #[] U = true) ∧
  z_Un sz Bundle.tN "UNASSIGNED_STACK" Bundle.steD U ∧ z_Un sz Bundle.tN "SUPPRESSED_SENTINEL" Bundle.listD U ∧ ∀ q ∈ z_strs, ∃ a, vk_R q.1 q.2.1 q.2.2 a U
theorem z_ats_face : ∀ a ∈ z_ats, a.keepsFace = true := by
  intro a ha
  unfold z_ats at ha
  simp only [List.mem_append] at ha
  rcases ha with h | h | h
  · exact Bundle.ownAtoms_keepsFace a h
  · exact Bundle.ownAtoms0_keepsFace a h
  · exact Bundle.ownAtoms_keepsFace a h
theorem z_Wo_mv {L : Nat} {xs : Nat → Int32} {sz : Nat} {ad : Nat → Nat} {D : va_G} {dA : Nat → ClassId} {U V : State} (h : z_Lt sz U V) (hw : z_Wo L xs sz ad D dA U) : z_Wo L xs sz ad D dA V := by
  obtain ⟨h1, h2, h3, h4, h5, h6⟩ := hw
  refine ⟨z_Wd_mv h h1, fun v hv => ((h2 v hv).kept h.2.2).moved h.1.alike, fun a ha ht => z_onT (z_ats_face a ha) ht h.1 (h3 a ha ht), z_Un_mv h h4, z_Un_mv h h5, fun q hq => ?_⟩
  obtain ⟨a, ha⟩ := h6 q hq
  exact ⟨a, ha.warm h.1⟩
theorem z_ats_kind : z_ats.all (fun a => a.onTables || (decide (a = .isRef (.static Bundle.tN "UNASSIGNED_STACK" Bundle.steD)) || (decide (a = .isRef (.static Bundle.tN "SUPPRESSED_SENTINEL" Bundle.listD)) || (decide (a = .laysStatic Bundle.tN "UNASSIGNED_STACK" Bundle.steD) || decide (a = .laysStatic Bundle.tN "SUPPRESSED_SENTINEL" Bundle.listD))))) = true := by decide +kernel
theorem z_ats_hold {L : Nat} {xs : Nat → Int32} {sz : Nat} {ad : Nat → Nat} {D : va_G} {dA : Nat → ClassId} {U : State} (hw : z_Wo L xs sz ad D dA U) (args : Array Value) : ∀ a ∈ z_ats, a.before args U = true := by
  intro a ha
  have hk := List.all_eq_true.mp z_ats_kind a ha
  simp only [Bool.or_eq_true, decide_eq_true_eq] at hk
  obtain ⟨h1, h2, h3, h4, h5, h6⟩ := hw
  rcases hk with hk | rfl | rfl | rfl | rfl
  · exact va_tabs hk rfl (h3 a ha hk)
  · exact z_Un_isRef h4 args
  · exact z_Un_isRef h5 args
  · exact z_Un_lays h4 args
  · exact z_Un_lays h5 args
theorem zs_0_0 : decode prog_1_method_4_code 43 = .ok (.new 107, 3) := by decide +kernel
theorem zs_0_1 : decode prog_1_method_4_code 46 = .ok (.dup, 1) := by decide +kernel
theorem zs_0_2 : decode prog_1_method_4_code 47 = .ok (.ldc 109, 2) := by decide +kernel
theorem zs_0_3 : decode prog_1_method_4_code 49 = .ok (.invokespecial 111, 3) := by decide +kernel
theorem zs_0_4 : decode prog_1_method_4_code 52 = .ok (.athrow, 1) := by decide +kernel
theorem zs_1_0 : decode prog_6_method_3_code 10 = .ok (.new 21, 3) := by decide +kernel
theorem zs_1_1 : decode prog_6_method_3_code 13 = .ok (.dup, 1) := by decide +kernel
theorem zs_1_2 : decode prog_6_method_3_code 14 = .ok (.invokespecial 23, 3) := by decide +kernel
theorem zs_1_3 : decode prog_6_method_3_code 17 = .ok (.athrow, 1) := by decide +kernel
theorem zs_2_0 : decode prog_1_method_8_code 7 = .ok (.new 137, 3) := by decide +kernel
theorem zs_2_1 : decode prog_1_method_8_code 10 = .ok (.dup, 1) := by decide +kernel
theorem zs_2_2 : decode prog_1_method_8_code 11 = .ok (.ldc 139, 2) := by decide +kernel
theorem zs_2_3 : decode prog_1_method_8_code 13 = .ok (.invokespecial 141, 3) := by decide +kernel
theorem zs_2_4 : decode prog_1_method_8_code 16 = .ok (.athrow, 1) := by decide +kernel
theorem zs_3_0 : decode prog_1_method_9_code 10 = .ok (.new 137, 3) := by decide +kernel
theorem zs_3_1 : decode prog_1_method_9_code 13 = .ok (.dup, 1) := by decide +kernel
theorem zs_3_2 : decode prog_1_method_9_code 14 = .ok (.ldc 148, 2) := by decide +kernel
theorem zs_3_3 : decode prog_1_method_9_code 16 = .ok (.invokespecial 141, 3) := by decide +kernel
theorem zs_3_4 : decode prog_1_method_9_code 19 = .ok (.athrow, 1) := by decide +kernel
theorem zs_4_0 : decode prog_1_method_9_code 31 = .ok (.new 107, 3) := by decide +kernel
theorem zs_4_1 : decode prog_1_method_9_code 34 = .ok (.dup, 1) := by decide +kernel
theorem zs_4_2 : decode prog_1_method_9_code 35 = .ok (.ldc 150, 2) := by decide +kernel
theorem zs_4_3 : decode prog_1_method_9_code 37 = .ok (.invokespecial 111, 3) := by decide +kernel
theorem zs_4_4 : decode prog_1_method_9_code 40 = .ok (.athrow, 1) := by decide +kernel
def z_sites : List (Nat × Nat × Nat × Nat × Nat) := [(25, 43, 107, 10, 1), (31, 10, 21, 10, 0), (39, 7, 137, 11, 1), (41, 10, 137, 11, 1), (41, 31, 107, 10, 1)]
def z_isS (mi : Nat) (r : z_R) : Bool := match r.2.1, r.2.2.2 with
  | .new idx, [9, ci, q] => decide ((mi, r.1, idx, ci, q) ∈ z_sites)
  | _, _ => true
theorem z_allS : ∀ mi, (z_rows mi).all (z_isS mi) = true := by
  intro mi
  match mi with
  | 0 => decide +kernel
  | 1 => decide +kernel
  | 2 => decide +kernel
  | 3 => decide +kernel
  | 4 => decide +kernel
  | 5 => decide +kernel
  | 6 => decide +kernel
  | 7 => decide +kernel
  | 8 => decide +kernel
  | 9 => decide +kernel
  | 10 => decide +kernel
  | 11 => decide +kernel
  | 12 => decide +kernel
  | 13 => decide +kernel
  | 14 => decide +kernel
  | 15 => decide +kernel
  | 16 => decide +kernel
  | 17 => decide +kernel
  | 18 => decide +kernel
  | 19 => decide +kernel
  | 20 => decide +kernel
  | 21 => decide +kernel
  | 22 => decide +kernel
  | 23 => decide +kernel
  | 24 => decide +kernel
  | 25 => decide +kernel
  | 26 => decide +kernel
  | 27 => decide +kernel
  | 28 => decide +kernel
  | 29 => decide +kernel
  | 30 => decide +kernel
  | 31 => decide +kernel
  | 32 => decide +kernel
  | 33 => decide +kernel
  | 34 => decide +kernel
  | 35 => decide +kernel
  | 36 => decide +kernel
  | 37 => decide +kernel
  | 38 => decide +kernel
  | 39 => decide +kernel
  | 40 => decide +kernel
  | 41 => decide +kernel
  | 42 => decide +kernel
  | 43 => decide +kernel
  | 44 => decide +kernel
  | 45 => decide +kernel
  | 46 => decide +kernel
  | 47 => decide +kernel
  | 48 => decide +kernel
  | 49 => decide +kernel
  | 50 => decide +kernel
  | 51 => decide +kernel
  | 52 => decide +kernel
  | 53 => decide +kernel
  | 54 => decide +kernel
  | 55 => decide +kernel
  | 56 => decide +kernel
  | 57 => decide +kernel
  | 58 => decide +kernel
  | 59 => decide +kernel
  | 60 => decide +kernel
  | 61 => decide +kernel
  | 62 => decide +kernel
  | 63 => decide +kernel
  | n + 64 => rfl
section ZSITE
variable {l : Launch} {L : Nat} {xs : Nat → Int32} {sz : Nat} {ad : Nat → Nat} {D : va_G} {dA : Nat → ClassId}
variable {p : Program} {e : Env} {R : Room} {s : State} {m : MethodId} {args : Array Value} {below : List Frame} {meth : Method} {c : Code} {H : Heap} {locs : List Loc} {cells slots n0 s0 f w : Nat} {ls : Array Slot} {lv : List (Nat × Value)} {st : List Value} {S : z_S}
set_option maxHeartbeats 1000000 in
theorem z_site_0 (had : ∀ i, ad (40 + i) = sz + i) (hcx : z_Cx z_my z_mb z_pg z_ws 25 p e s m args meth c) (hW : z_Wo L xs sz ad D dA s) (hat : z_At (z_g L xs) z_pg sz D z_cl ad dA R s H locs cells slots n0 s0 f w 25 ls lv S) (hc : 6 ≤ f ∧ 150 ≤ w ∧ z_wt st ≤ 8 ∧ S.1.length + 1 ≤ 600002 ∧ S.2 + 6 ≤ 7302232) :
    W p l e R s m args below meth c H locs cells slots (z_MQ below (z_Qc sz D z_cl ad dA 40 (.inr (40 + S.1.length)) (S.1 ++ [.inr (10, [])])) args s (cells + 1) (slots + 6) (z_A sz)) (F0 m 43 ls (st.map (z_tr ad))) := by
  obtain ⟨hx, hb, hml, hown, hts, hr, hlk, hnm, htb, htr⟩ := hcx
  obtain ⟨hl, hP, hS, hn0, hce, hsl, hRc, hRs, hf, hw⟩ := hat
  have hRc : 600002 ≤ R.cells + n0 := hRc
  have hRs : 7302232 ≤ R.slots + s0 := hRs
  have hwt := z_wt_tr ad st
  refine z_thrown (K := 40) (s0 := s0) had hP hS hn0 hce hW.1.1 (ci := 10) (cls := "java/lang/IllegalArgumentException") (T0 := zF_e) rfl (by omega) (by omega) (fun s' hH hW' => ?_)
  have hWo : z_Wo L xs sz ad D dA s' := z_Wo_mv ⟨hW', by rw [hH]; exact hS.1, fun q h1 h2 => by rw [hH]; exact hS.2.1 q h1 h2⟩ hW
  have hg : ∀ w ∈ z_ws, w.before args s' = true := fun w hw => word_at hW' (z_gd w hw) (hts w hw)
  have hown' : s'.vm.findClass "FiberWorks" = some m.cls := by
    rw [hW'.alike.findClass]
    exact hown
  have hat := z_ats_hold hWo args
  have hout : ∀ x ∈ c.exceptionTable.toList, covers x 52 = false := by
    intro x hx
    rw [htb] at hx
    cases hx
  obtain ⟨qa, hq⟩ := hWo.2.2.2.2.2 ("FiberWorks", 109, "the text has a fault") (by decide +kernel)
  exact z_throwS hx hb htr hlk (hl.1.trans hml.symm) (by decide +kernel) (by decide +kernel) hown' (hg _ (by decide +kernel)) (hg _ (by decide +kernel)) (hg _ (by decide +kernel)) (fun a h => hat a (List.mem_append_left _ h)) hq zs_0_0 zs_0_1 zs_0_2 zs_0_3 zs_0_4 hout (by show 2 + 3 < R.frames; omega) (by show _ + 1 + (13 * (2 + 1) + 42) ≤ R.locals; omega) (by show 1 ≤ R.cells - cells; omega) (by show 6 ≤ R.slots - slots; omega) hH
set_option maxHeartbeats 1000000 in
theorem z_site_1 (had : ∀ i, ad (40 + i) = sz + i) (hcx : z_Cx z_my z_mb z_pg z_ws 31 p e s m args meth c) (hW : z_Wo L xs sz ad D dA s) (hat : z_At (z_g L xs) z_pg sz D z_cl ad dA R s H locs cells slots n0 s0 f w 31 ls lv S) (hc : 6 ≤ f ∧ 150 ≤ w ∧ z_wt st ≤ 8 ∧ S.1.length + 1 ≤ 600002 ∧ S.2 + 6 ≤ 7302232) :
    W p l e R s m args below meth c H locs cells slots (z_MQ below (z_Qc sz D z_cl ad dA 40 (.inr (40 + S.1.length)) (S.1 ++ [.inr (10, [])])) args s (cells + 1) (slots + 6) (z_A sz)) (F0 m 10 ls (st.map (z_tr ad))) := by
  obtain ⟨hx, hb, hml, hown, hts, hr, hlk, hnm, htb, htr⟩ := hcx
  obtain ⟨hl, hP, hS, hn0, hce, hsl, hRc, hRs, hf, hw⟩ := hat
  have hRc : 600002 ≤ R.cells + n0 := hRc
  have hRs : 7302232 ≤ R.slots + s0 := hRs
  have hwt := z_wt_tr ad st
  refine z_thrown (K := 40) (s0 := s0) had hP hS hn0 hce hW.1.1 (ci := 10) (cls := "java/lang/IllegalArgumentException") (T0 := zF_e) rfl (by omega) (by omega) (fun s' hH hW' => ?_)
  have hWo : z_Wo L xs sz ad D dA s' := z_Wo_mv ⟨hW', by rw [hH]; exact hS.1, fun q h1 h2 => by rw [hH]; exact hS.2.1 q h1 h2⟩ hW
  have hg : ∀ w ∈ z_ws, w.before args s' = true := fun w hw => word_at hW' (z_gd w hw) (hts w hw)
  have hown' : s'.vm.findClass "FiberWorks$Faults" = some m.cls := by
    rw [hW'.alike.findClass]
    exact hown
  have hat := z_ats_hold hWo args
  have hout : ∀ x ∈ c.exceptionTable.toList, covers x 17 = false := by
    intro x hx
    rw [htb] at hx
    cases hx
  exact z_throw0 hx hb htr hlk (hl.1.trans hml.symm) (by decide +kernel) (by decide +kernel) hown' (hg _ (by decide +kernel)) (hg _ (by decide +kernel)) (hg _ (by decide +kernel)) (fun a h => hat a (List.mem_append_right _ (List.mem_append_left _ h))) zs_1_0 zs_1_1 zs_1_2 zs_1_3 hout (by show 2 + 3 < R.frames; omega) (by show _ + 1 + (13 * (2 + 1) + 41) ≤ R.locals; omega) (by show 1 ≤ R.cells - cells; omega) (by show 6 ≤ R.slots - slots; omega) hH
set_option maxHeartbeats 1000000 in
theorem z_site_2 (had : ∀ i, ad (40 + i) = sz + i) (hcx : z_Cx z_my z_mb z_pg z_ws 39 p e s m args meth c) (hW : z_Wo L xs sz ad D dA s) (hat : z_At (z_g L xs) z_pg sz D z_cl ad dA R s H locs cells slots n0 s0 f w 39 ls lv S) (hc : 6 ≤ f ∧ 150 ≤ w ∧ z_wt st ≤ 8 ∧ S.1.length + 1 ≤ 600002 ∧ S.2 + 6 ≤ 7302232) :
    W p l e R s m args below meth c H locs cells slots (z_MQ below (z_Qc sz D z_cl ad dA 40 (.inr (40 + S.1.length)) (S.1 ++ [.inr (11, [])])) args s (cells + 1) (slots + 6) (z_A sz)) (F0 m 7 ls (st.map (z_tr ad))) := by
  obtain ⟨hx, hb, hml, hown, hts, hr, hlk, hnm, htb, htr⟩ := hcx
  obtain ⟨hl, hP, hS, hn0, hce, hsl, hRc, hRs, hf, hw⟩ := hat
  have hRc : 600002 ≤ R.cells + n0 := hRc
  have hRs : 7302232 ≤ R.slots + s0 := hRs
  have hwt := z_wt_tr ad st
  refine z_thrown (K := 40) (s0 := s0) had hP hS hn0 hce hW.1.1 (ci := 11) (cls := "java/lang/IllegalStateException") (T0 := zF_e) rfl (by omega) (by omega) (fun s' hH hW' => ?_)
  have hWo : z_Wo L xs sz ad D dA s' := z_Wo_mv ⟨hW', by rw [hH]; exact hS.1, fun q h1 h2 => by rw [hH]; exact hS.2.1 q h1 h2⟩ hW
  have hg : ∀ w ∈ z_ws, w.before args s' = true := fun w hw => word_at hW' (z_gd w hw) (hts w hw)
  have hown' : s'.vm.findClass "FiberWorks" = some m.cls := by
    rw [hW'.alike.findClass]
    exact hown
  have hat := z_ats_hold hWo args
  have hout : ∀ x ∈ c.exceptionTable.toList, covers x 16 = false := by
    intro x hx
    rw [htb] at hx
    cases hx
  obtain ⟨qa, hq⟩ := hWo.2.2.2.2.2 ("FiberWorks", 139, "there is no program") (by decide +kernel)
  exact z_throwS hx hb htr hlk (hl.1.trans hml.symm) (by decide +kernel) (by decide +kernel) hown' (hg _ (by decide +kernel)) (hg _ (by decide +kernel)) (hg _ (by decide +kernel)) (fun a h => hat a (List.mem_append_right _ (List.mem_append_right _ (h)))) hq zs_2_0 zs_2_1 zs_2_2 zs_2_3 zs_2_4 hout (by show 2 + 3 < R.frames; omega) (by show _ + 1 + (13 * (2 + 1) + 42) ≤ R.locals; omega) (by show 1 ≤ R.cells - cells; omega) (by show 6 ≤ R.slots - slots; omega) hH
set_option maxHeartbeats 1000000 in
theorem z_site_3 (had : ∀ i, ad (40 + i) = sz + i) (hcx : z_Cx z_my z_mb z_pg z_ws 41 p e s m args meth c) (hW : z_Wo L xs sz ad D dA s) (hat : z_At (z_g L xs) z_pg sz D z_cl ad dA R s H locs cells slots n0 s0 f w 41 ls lv S) (hc : 6 ≤ f ∧ 150 ≤ w ∧ z_wt st ≤ 8 ∧ S.1.length + 1 ≤ 600002 ∧ S.2 + 6 ≤ 7302232) :
    W p l e R s m args below meth c H locs cells slots (z_MQ below (z_Qc sz D z_cl ad dA 40 (.inr (40 + S.1.length)) (S.1 ++ [.inr (11, [])])) args s (cells + 1) (slots + 6) (z_A sz)) (F0 m 10 ls (st.map (z_tr ad))) := by
  obtain ⟨hx, hb, hml, hown, hts, hr, hlk, hnm, htb, htr⟩ := hcx
  obtain ⟨hl, hP, hS, hn0, hce, hsl, hRc, hRs, hf, hw⟩ := hat
  have hRc : 600002 ≤ R.cells + n0 := hRc
  have hRs : 7302232 ≤ R.slots + s0 := hRs
  have hwt := z_wt_tr ad st
  refine z_thrown (K := 40) (s0 := s0) had hP hS hn0 hce hW.1.1 (ci := 11) (cls := "java/lang/IllegalStateException") (T0 := zF_e) rfl (by omega) (by omega) (fun s' hH hW' => ?_)
  have hWo : z_Wo L xs sz ad D dA s' := z_Wo_mv ⟨hW', by rw [hH]; exact hS.1, fun q h1 h2 => by rw [hH]; exact hS.2.1 q h1 h2⟩ hW
  have hg : ∀ w ∈ z_ws, w.before args s' = true := fun w hw => word_at hW' (z_gd w hw) (hts w hw)
  have hown' : s'.vm.findClass "FiberWorks" = some m.cls := by
    rw [hW'.alike.findClass]
    exact hown
  have hat := z_ats_hold hWo args
  have hout : ∀ x ∈ c.exceptionTable.toList, covers x 19 = false := by
    intro x hx
    rw [htb] at hx
    cases hx
  obtain ⟨qa, hq⟩ := hWo.2.2.2.2.2 ("FiberWorks", 148, "the program has not begun") (by decide +kernel)
  exact z_throwS hx hb htr hlk (hl.1.trans hml.symm) (by decide +kernel) (by decide +kernel) hown' (hg _ (by decide +kernel)) (hg _ (by decide +kernel)) (hg _ (by decide +kernel)) (fun a h => hat a (List.mem_append_right _ (List.mem_append_right _ (h)))) hq zs_3_0 zs_3_1 zs_3_2 zs_3_3 zs_3_4 hout (by show 2 + 3 < R.frames; omega) (by show _ + 1 + (13 * (2 + 1) + 42) ≤ R.locals; omega) (by show 1 ≤ R.cells - cells; omega) (by show 6 ≤ R.slots - slots; omega) hH
set_option maxHeartbeats 1000000 in
theorem z_site_4 (had : ∀ i, ad (40 + i) = sz + i) (hcx : z_Cx z_my z_mb z_pg z_ws 41 p e s m args meth c) (hW : z_Wo L xs sz ad D dA s) (hat : z_At (z_g L xs) z_pg sz D z_cl ad dA R s H locs cells slots n0 s0 f w 41 ls lv S) (hc : 6 ≤ f ∧ 150 ≤ w ∧ z_wt st ≤ 8 ∧ S.1.length + 1 ≤ 600002 ∧ S.2 + 6 ≤ 7302232) :
    W p l e R s m args below meth c H locs cells slots (z_MQ below (z_Qc sz D z_cl ad dA 40 (.inr (40 + S.1.length)) (S.1 ++ [.inr (10, [])])) args s (cells + 1) (slots + 6) (z_A sz)) (F0 m 31 ls (st.map (z_tr ad))) := by
  obtain ⟨hx, hb, hml, hown, hts, hr, hlk, hnm, htb, htr⟩ := hcx
  obtain ⟨hl, hP, hS, hn0, hce, hsl, hRc, hRs, hf, hw⟩ := hat
  have hRc : 600002 ≤ R.cells + n0 := hRc
  have hRs : 7302232 ≤ R.slots + s0 := hRs
  have hwt := z_wt_tr ad st
  refine z_thrown (K := 40) (s0 := s0) had hP hS hn0 hce hW.1.1 (ci := 10) (cls := "java/lang/IllegalArgumentException") (T0 := zF_e) rfl (by omega) (by omega) (fun s' hH hW' => ?_)
  have hWo : z_Wo L xs sz ad D dA s' := z_Wo_mv ⟨hW', by rw [hH]; exact hS.1, fun q h1 h2 => by rw [hH]; exact hS.2.1 q h1 h2⟩ hW
  have hg : ∀ w ∈ z_ws, w.before args s' = true := fun w hw => word_at hW' (z_gd w hw) (hts w hw)
  have hown' : s'.vm.findClass "FiberWorks" = some m.cls := by
    rw [hW'.alike.findClass]
    exact hown
  have hat := z_ats_hold hWo args
  have hout : ∀ x ∈ c.exceptionTable.toList, covers x 40 = false := by
    intro x hx
    rw [htb] at hx
    cases hx
  obtain ⟨qa, hq⟩ := hWo.2.2.2.2.2 ("FiberWorks", 150, "no such amount of fuel") (by decide +kernel)
  exact z_throwS hx hb htr hlk (hl.1.trans hml.symm) (by decide +kernel) (by decide +kernel) hown' (hg _ (by decide +kernel)) (hg _ (by decide +kernel)) (hg _ (by decide +kernel)) (fun a h => hat a (List.mem_append_left _ h)) hq zs_4_0 zs_4_1 zs_4_2 zs_4_3 zs_4_4 hout (by show 2 + 3 < R.frames; omega) (by show _ + 1 + (13 * (2 + 1) + 42) ≤ R.locals; omega) (by show 1 ≤ R.cells - cells; omega) (by show 6 ≤ R.slots - slots; omega) hH
end ZSITE
