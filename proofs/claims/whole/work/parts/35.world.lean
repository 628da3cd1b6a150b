/-! The world of this program: its numbers, what it reads of the start, its throws. -/
/-- the fields of frozen objects that are read -/
def z_cfl : List (String × String × String) := [("FiberWorks$Word", "letters", "Ljava/lang/String;"), ("java/lang/String", "value", "[B"), ("java/lang/String", "coder", "B")]
def z_smap : List Int32 := [0, 0, 14, 0, 11, 15, 0, 0, 0, 0, 0, 0, 7, 6, 8, 9, 10, 0, 0, 0, 0, 1, 2, 0, 3, 0, 0, 4, 5, 0, 0, 0, 12, 13, 0, 0, 0]
def z_wn2 : List String := ["END_OF_TEXT", "NO_WORD", "NAME", "EFFECT", "NUMBER", "OPEN", "CLOSE", "OPEN_ROW", "CLOSE_ROW", "COLON", "SEMICOLON", "COMMA", "SAME", "LESS", "PLUS", "MINUS", "TIMES", "PERFORM", "BAR", "ARROW", "DECLARE", "LET", "REC", "IN", "IF", "THEN", "ELSE", "FN", "HANDLE", "WITH", "RETURN", "END", "TRUE", "FALSE", "INT", "BOOL", "UNIT"]
/-- the places of the letters in FiberWorks$Word, which of them each constant has, their bytes -/
def z_lix : List Nat := [139, 149, 152, 155, 158, 161, 164, 167, 170, 173, 176, 179, 182, 185, 188, 191, 194, 197, 200, 203, 206, 209, 212, 215, 218, 221, 224, 227, 230, 233, 236, 239, 242]
def z_let : List Nat := [0, 0, 0, 0, 0, 1, 2, 3, 4, 5, 6, 7, 8, 9, 10, 11, 12, 13, 14, 15, 16, 17, 18, 19, 20, 21, 22, 23, 24, 25, 26, 27, 28, 29, 30, 31, 32]
def z_bys : List (List Int32) := [[], [40], [41], [123], [125], [58], [59], [44], [61], [60], [43], [45], [42], [33], [124], [45, 62], [101, 102, 102, 101, 99, 116], [108, 101, 116], [114, 101, 99], [105, 110], [105, 102], [116, 104, 101, 110], [101, 108, 115, 101], [102, 110], [104, 97, 110, 100, 108, 101], [119, 105, 116, 104], [114, 101, 116, 117, 114, 110], [101, 110, 100], [116, 114, 117, 101], [102, 97, 108, 115, 101], [105, 110, 116], [98, 111, 111, 108], [117, 110, 105, 116]]
def z_gfr (a : Nat) : Option (Nat × (Nat → Nat)) := if a = 37 then some (37, fun j => j) else none
def z_gfb (a : Nat) : Option (Nat × (Nat → Int32)) := if 40 ≤ a ∧ a < 106 ∧ (a - 40) % 2 = 1 then some ((z_bys.getD ((a - 40) / 2) []).length, fun j => (z_bys.getD ((a - 40) / 2) []).getD j 0) else none
def z_gfc (a k : Nat) : Option Value := if a < 37 then (if k = 0 then some (.ref (40 + 2 * z_let.getD a 0)) else none) else if 40 ≤ a ∧ a < 106 ∧ (a - 40) % 2 = 0 then (if k = 1 then some (.ref (a + 1)) else if k = 2 ∨ k = 99 then some (.int 0) else none) else none
def z_gnc (a b : Nat) : Bool := (decide (a = 10) && decide (b = 11)) || (decide (a = 11) && decide (b = 10))
def z_g (L : Nat) (xs : Nat → Int32) (fv : Value) : z_G := ((107, 37, 601024, 7293034), (z_tyl, 4), (z_cN, z_fty), (fun a => if a = 38 then some (37, fun j => z_smap.getD j 0) else if a = 39 then some (L, xs) else none), (fun j => ((z_stl fv)[j]?).map (fun q => q.2.2.2), z_gfr, z_gfb, z_gfc, z_gnc))
def z_nms : List String := ["java/lang/RuntimeException", "java/lang/Exception"]
def z_at0 : List Cond := Bundle.ownAtoms "FiberWorks" 111 "java/lang/IllegalArgumentException" z_nms
def z_at1 : List Cond := Bundle.ownAtoms0 "FiberWorks$Faults" 23 "java/lang/IllegalArgumentException" z_nms
def z_at2 : List Cond := Bundle.ownAtoms "FiberWorks" 141 "java/lang/IllegalStateException" z_nms
def z_ats : List Cond := z_at0 ++ (z_at1 ++ (z_at2))
def z_strs : List (String × Nat × String) := [("FiberWorks", 109, "the text has a fault"), ("FiberWorks", 139, "there is no program"), ("FiberWorks", 148, "the program has not begun"), ("FiberWorks", 150, "no such amount of fuel")]
/-- what is known where a method of the program begins -/
def z_Wo (L : Nat) (xs : Nat → Int32) (fv : Value) (sz : Nat) (ad : Nat → Nat) (D : va_G) (dA : Nat → ClassId) (U : State) : Prop :=
  z_Wd (z_g L xs fv) sz D z_cl dA ad (z_stl fv) "FiberWorks$Word" U ∧ (∀ v, v < 37 → va_OF "java/lang/Enum" "ordinal" "I" (.int (nI v)) (ad v) (z_A sz) U U.heap) ∧ (∀ a ∈ z_ats, a.onTables = true → a.before #[] U = true) ∧
  z_Un sz Bundle.tN "UNASSIGNED_STACK" Bundle.steD U ∧ z_Un sz Bundle.tN "SUPPRESSED_SENTINEL" Bundle.listD U ∧ (∀ q ∈ z_strs, ∃ a, vk_R q.1 q.2.1 q.2.2 a U) ∧
  (∀ (a : Nat) (q : Nat × (Nat → Nat)), z_gfr a = some q → va_T (.object "FiberWorks$Word") (ad a) q.1 (fun j => .ref (ad (q.2 j))) (z_A sz) U U.heap) ∧ (∀ (a : Nat) (q : Nat × (Nat → Int32)), z_gfb a = some q → va_T .byte (ad a) q.1 (fun j => .int (q.2 j)) (z_A sz) U U.heap) ∧
  (∀ (a k : Nat) (v : Value) (o n d : String), z_cfl[k]? = some (o, n, d) → z_gfc a k = some v → va_OF o n d (z_tr ad v) (ad a) (z_A sz) U U.heap) ∧ (∀ b, (z_gfc b 99).isSome = true → va_O "java/lang/String" (ad b) (z_A sz) U U.heap) ∧
  U.vm.assignable (D.1 10) (D.1 11) = false ∧ U.vm.assignable (D.1 11) (D.1 10) = false
theorem z_ats_face : ∀ a ∈ z_ats, a.keepsFace = true := by
  intro a ha
  unfold z_ats at ha
  simp only [List.mem_append] at ha
  rcases ha with h | h | h
  · exact Bundle.ownAtoms_keepsFace a h
  · exact Bundle.ownAtoms0_keepsFace a h
  · exact Bundle.ownAtoms_keepsFace a h
theorem z_Wo_mv {L : Nat} {xs : Nat → Int32} {fv : Value} {sz : Nat} {ad : Nat → Nat} {D : va_G} {dA : Nat → ClassId} {U V : State} (h : z_Lt sz U V) (hw : z_Wo L xs fv sz ad D dA U) : z_Wo L xs fv sz ad D dA V := by
  obtain ⟨h1, h2, h3, h4, h5, h6, g1, g2, g3, g4, g5, g6⟩ := hw
  have hv := h.1.alike
  refine ⟨z_Wd_mv h h1, fun v hv => ((h2 v hv).kept h.2.2).moved h.1.alike, fun a ha ht => z_onT (z_ats_face a ha) ht h.1 (h3 a ha ht), z_Un_mv h h4, z_Un_mv h h5, fun q hq => ?_, fun a q hq => ((g1 a q hq).kept h.2.2).moved hv, fun a q hq => ((g2 a q hq).kept h.2.2).moved hv, fun a k v o n d hk hq => ((g3 a k v o n d hk hq).kept h.2.2).moved hv, fun b hb => ((g4 b hb).kept h.2.2).moved hv, by rw [hv.assignable]; exact g5, by rw [hv.assignable]; exact g6⟩
  obtain ⟨a, ha⟩ := h6 q hq
  exact ⟨a, ha.warm h.1⟩
theorem z_ats_kind : z_ats.all (fun a => a.onTables || (decide (a = .isRef (.static Bundle.tN "UNASSIGNED_STACK" Bundle.steD)) || (decide (a = .isRef (.static Bundle.tN "SUPPRESSED_SENTINEL" Bundle.listD)) || (decide (a = .laysStatic Bundle.tN "UNASSIGNED_STACK" Bundle.steD) || decide (a = .laysStatic Bundle.tN "SUPPRESSED_SENTINEL" Bundle.listD))))) = true := by decide +kernel
theorem z_ats_hold {L : Nat} {xs : Nat → Int32} {fv : Value} {sz : Nat} {ad : Nat → Nat} {D : va_G} {dA : Nat → ClassId} {U : State} (hw : z_Wo L xs fv sz ad D dA U) (args : Array Value) : ∀ a ∈ z_ats, a.before args U = true := by
  intro a ha
  have hk := List.all_eq_true.mp z_ats_kind a ha
  simp only [Bool.or_eq_true, decide_eq_true_eq] at hk
  obtain ⟨h1, h2, h3, h4, h5, -⟩ := hw
  rcases hk with hk | rfl | rfl | rfl | rfl
  · exact va_tabs hk rfl (h3 a ha hk)
  · exact z_Un_isRef h4 args
  · exact z_Un_isRef h5 args
  · exact z_Un_lays h4 args
  · exact z_Un_lays h5 args
theorem zs_0_0 : decode prog_1_method_4_code 43 = .ok (.new 107, 3) := by decide +kernel
theorem zs_0_1 : decode prog_1_method_4_code 46 = .ok (.dup, 1) := by decide +kernel
theorem zs_0_2 : decode prog_1_method_4_code 47 = .ok (.ldc 109, 2) := by decide +kernel
theorem zs_0_3 : decode prog_1_method_4_code 49 = .ok (.invokespecial 111, 3) := by decide +kernel
theorem zs_0_4 : decode prog_1_method_4_code 52 = .ok (.athrow, 1) := by decide +kernel
theorem zs_1_0 : decode prog_6_method_3_code 10 = .ok (.new 21, 3) := by decide +kernel
theorem zs_1_1 : decode prog_6_method_3_code 13 = .ok (.dup, 1) := by decide +kernel
theorem zs_1_2 : decode prog_6_method_3_code 14 = .ok (.invokespecial 23, 3) := by decide +kernel
theorem zs_1_3 : decode prog_6_method_3_code 17 = .ok (.athrow, 1) := by decide +kernel
theorem zs_2_0 : decode prog_1_method_8_code 7 = .ok (.new 137, 3) := by decide +kernel
theorem zs_2_1 : decode prog_1_method_8_code 10 = .ok (.dup, 1) := by decide +kernel
theorem zs_2_2 : decode prog_1_method_8_code 11 = .ok (.ldc 139, 2) := by decide +kernel
theorem zs_2_3 : decode prog_1_method_8_code 13 = .ok (.invokespecial 141, 3) := by decide +kernel
theorem zs_2_4 : decode prog_1_method_8_code 16 = .ok (.athrow, 1) := by decide +kernel
theorem zs_3_0 : decode prog_1_method_9_code 10 = .ok (.new 137, 3) := by decide +kernel
theorem zs_3_1 : decode prog_1_method_9_code 13 = .ok (.dup, 1) := by decide +kernel
theorem zs_3_2 : decode prog_1_method_9_code 14 = .ok (.ldc 148, 2) := by decide +kernel
theorem zs_3_3 : decode prog_1_method_9_code 16 = .ok (.invokespecial 141, 3) := by decide +kernel
theorem zs_3_4 : decode prog_1_method_9_code 19 = .ok (.athrow, 1) := by decide +kernel
theorem zs_4_0 : decode prog_1_method_9_code 31 = .ok (.new 107, 3) := by decide +kernel
theorem zs_4_1 : decode prog_1_method_9_code 34 = .ok (.dup, 1) := by decide +kernel
theorem zs_4_2 : decode prog_1_method_9_code 35 = .ok (.ldc 150, 2) := by decide +kernel
theorem zs_4_3 : decode prog_1_method_9_code 37 = .ok (.invokespecial 111, 3) := by decide +kernel
theorem zs_4_4 : decode prog_1_method_9_code 40 = .ok (.athrow, 1) := by decide +kernel
def z_sites : List (Nat × Nat × Nat × Nat × Nat) := [(28, 43, 107, 10, 1), (50, 10, 21, 10, 0), (108, 7, 137, 11, 1), (113, 10, 137, 11, 1), (113, 31, 107, 10, 1)]
def z_isS (mi : Nat) (r : z_R) : Bool := match r.2.1, r.2.2.2 with
  | .new idx, [9, ci, q] => decide ((mi, r.1, idx, ci, q) ∈ z_sites)
  | _, _ => true
theorem z_allS : ∀ mi, (z_rows mi).all (z_isS mi) = true := by
  intro mi
  match mi with
  | 0 => decide +kernel
  | 1 => decide +kernel
  | 2 => decide +kernel
  | 3 => decide +kernel
  | 4 => decide +kernel
  | 5 => decide +kernel
  | 6 => decide +kernel
  | 7 => decide +kernel
  | 8 => decide +kernel
  | 9 => decide +kernel
  | 10 => decide +kernel
  | 11 => decide +kernel
  | 12 => decide +kernel
  | 13 => decide +kernel
  | 14 => decide +kernel
  | 15 => decide +kernel
  | 16 => decide +kernel
  | 17 => decide +kernel
  | 18 => decide +kernel
  | 19 => decide +kernel
  | 20 => decide +kernel
  | 21 => decide +kernel
  | 22 => decide +kernel
  | 23 => decide +kernel
  | 24 => decide +kernel
  | 25 => decide +kernel
  | 26 => decide +kernel
  | 27 => decide +kernel
  | 28 => decide +kernel
  | 29 => decide +kernel
  | 30 => decide +kernel
  | 31 => decide +kernel
  | 32 => decide +kernel
  | 33 => decide +kernel
  | 34 => decide +kernel
  | 35 => decide +kernel
  | 36 => decide +kernel
  | 37 => decide +kernel
  | 38 => decide +kernel
  | 39 => decide +kernel
  | 40 => decide +kernel
  | 41 => decide +kernel
  | 42 => decide +kernel
  | 43 => decide +kernel
  | 44 => decide +kernel
  | 45 => decide +kernel
  | 46 => decide +kernel
  | 47 => decide +kernel
  | 48 => decide +kernel
  | 49 => decide +kernel
  | 50 => decide +kernel
  | 51 => decide +kernel
  | 52 => decide +kernel
  | 53 => decide +kernel
  | 54 => decide +kernel
  | 55 => decide +kernel
  | 56 => decide +kernel
  | 57 => decide +kernel
  | 58 => decide +kernel
  | 59 => decide +kernel
  | 60 => decide +kernel
  | 61 => decide +kernel
  | 62 => decide +kernel
  | 63 => decide +kernel
  | 64 => decide +kernel
  | 65 => decide +kernel
  | 66 => decide +kernel
  | 67 => decide +kernel
  | 68 => decide +kernel
  | 69 => decide +kernel
  | 70 => decide +kernel
  | 71 => decide +kernel
  | 72 => decide +kernel
  | 73 => decide +kernel
  | 74 => decide +kernel
  | 75 => decide +kernel
  | 76 => decide +kernel
  | 77 => decide +kernel
  | 78 => decide +kernel
  | 79 => decide +kernel
  | 80 => decide +kernel
  | 81 => decide +kernel
  | 82 => decide +kernel
  | 83 => decide +kernel
  | 84 => decide +kernel
  | 85 => decide +kernel
  | 86 => decide +kernel
  | 87 => decide +kernel
  | 88 => decide +kernel
  | 89 => decide +kernel
  | 90 => decide +kernel
  | 91 => decide +kernel
  | 92 => decide +kernel
  | 93 => decide +kernel
  | 94 => decide +kernel
  | 95 => decide +kernel
  | 96 => decide +kernel
  | 97 => decide +kernel
  | 98 => decide +kernel
  | 99 => decide +kernel
  | 100 => decide +kernel
  | 101 => decide +kernel
  | 102 => decide +kernel
  | 103 => decide +kernel
  | 104 => decide +kernel
  | 105 => decide +kernel
  | 106 => decide +kernel
  | 107 => decide +kernel
  | 108 => decide +kernel
  | 109 => decide +kernel
  | 110 => decide +kernel
  | 111 => decide +kernel
  | 112 => decide +kernel
  | 113 => decide +kernel
  | 114 => decide +kernel
  | 115 => decide +kernel
  | 116 => decide +kernel
  | 117 => decide +kernel
  | 118 => decide +kernel
  | 119 => decide +kernel
  | 120 => decide +kernel
  | 121 => decide +kernel
  | 122 => decide +kernel
  | 123 => decide +kernel
  | 124 => decide +kernel
  | 125 => decide +kernel
  | 126 => decide +kernel
  | 127 => decide +kernel
  | 128 => decide +kernel
  | 129 => decide +kernel
  | 130 => decide +kernel
  | 131 => decide +kernel
  | 132 => decide +kernel
  | 133 => decide +kernel
  | 134 => decide +kernel
  | 135 => decide +kernel
  | 136 => decide +kernel
  | 137 => decide +kernel
  | 138 => decide +kernel
  | 139 => decide +kernel
  | 140 => decide +kernel
  | 141 => decide +kernel
  | 142 => decide +kernel
  | 143 => decide +kernel
  | 144 => decide +kernel
  | 145 => decide +kernel
  | 146 => decide +kernel
  | 147 => decide +kernel
  | 148 => decide +kernel
  | 149 => decide +kernel
  | 150 => decide +kernel
  | 151 => decide +kernel
  | 152 => decide +kernel
  | 153 => decide +kernel
  | 154 => decide +kernel
  | 155 => decide +kernel
  | 156 => decide +kernel
  | 157 => decide +kernel
  | 158 => decide +kernel
  | 159 => decide +kernel
  | 160 => decide +kernel
  | 161 => decide +kernel
  | 162 => decide +kernel
  | 163 => decide +kernel
  | 164 => decide +kernel
  | 165 => decide +kernel
  | 166 => decide +kernel
  | 167 => decide +kernel
  | 168 => decide +kernel
  | 169 => decide +kernel
  | 170 => decide +kernel
  | 171 => decide +kernel
  | 172 => decide +kernel
  | 173 => decide +kernel
  | 174 => decide +kernel
  | 175 => decide +kernel
  | 176 => decide +kernel
  | 177 => decide +kernel
  | 178 => decide +kernel
  | 179 => decide +kernel
  | 180 => decide +kernel
  | 181 => decide +kernel
  | 182 => decide +kernel
  | 183 => decide +kernel
  | 184 => decide +kernel
  | 185 => decide +kernel
  | 186 => decide +kernel
  | 187 => decide +kernel
  | 188 => decide +kernel
  | 189 => decide +kernel
  | 190 => decide +kernel
  | 191 => decide +kernel
  | 192 => decide +kernel
  | 193 => decide +kernel
  | 194 => decide +kernel
  | 195 => decide +kernel
  | 196 => decide +kernel
  | 197 => decide +kernel
  | 198 => decide +kernel
  | 199 => decide +kernel
  | 200 => decide +kernel
  | 201 => decide +kernel
  | 202 => decide +kernel
  | 203 => decide +kernel
  | 204 => decide +kernel
  | 205 => decide +kernel
  | 206 => decide +kernel
  | 207 => decide +kernel
  | 208 => decide +kernel
  | 209 => decide +kernel
  | 210 => decide +kernel
  | 211 => decide +kernel
  | 212 => decide +kernel
  | 213 => decide +kernel
  | 214 => decide +kernel
  | 215 => decide +kernel
  | 216 => decide +kernel
  | 217 => decide +kernel
  | 218 => decide +kernel
  | 219 => decide +kernel
  | 220 => decide +kernel
  | n + 221 => rfl
section ZSITE
variable {l : Launch} {L : Nat} {xs : Nat → Int32} {fv : Value} {sz : Nat} {ad : Nat → Nat} {D : va_G} {dA : Nat → ClassId}
variable {p : Program} {e : Env} {R : Room} {s : State} {m : MethodId} {args : Array Value} {below : List Frame} {meth : Method} {c : Code} {H : Heap} {locs : List Loc} {cells slots n0 s0 f w : Nat} {ls : Array Slot} {lv : List (Nat × Value)} {st : List Value} {S : z_S}
set_option maxHeartbeats 1000000 in
theorem z_site_0 (had : ∀ i, ad (107 + i) = sz + i) (hcx : z_Cx z_my z_mb z_pg z_ws 28 p e s m args meth c) (hW : z_Wo L xs fv sz ad D dA s) (hat : z_At (z_g L xs fv) z_pg sz D z_cl ad dA R s H locs cells slots n0 s0 f w 28 ls lv S) (hc : 6 ≤ f ∧ 150 ≤ w ∧ z_wt st ≤ 8 ∧ S.1.length + 1 ≤ 601024 ∧ S.2 + 6 ≤ 7293034) :
    W p l e R s m args below meth c H locs cells slots (z_MQ below (z_Qc sz D z_cl ad dA 107 (.inr (107 + S.1.length)) (S.1 ++ [.inr (10, [])])) args s (cells + 1) (slots + 6) (z_A sz)) (F0 m 43 ls (st.map (z_tr ad))) := by
  obtain ⟨hx, hb, hml, hown, hts, hr, hlk, hnm, htb, htr⟩ := hcx
  obtain ⟨hl, hP, hS, hn0, hce, hsl, hRc, hRs, hf, hw⟩ := hat
  have hRc : 601024 ≤ R.cells + n0 := hRc
  have hRs : 7293034 ≤ R.slots + s0 := hRs
  have hwt := z_wt_tr ad st
  refine z_thrown (K := 107) (s0 := s0) had hP hS hn0 hce hW.1.1 (ci := 10) (cls := "java/lang/IllegalArgumentException") (T0 := zF_e) rfl (by omega) (by omega) (fun s' hH hW' => ?_)
  have hWo : z_Wo L xs fv sz ad D dA s' := z_Wo_mv ⟨hW', by rw [hH]; exact hS.1, fun q h1 h2 => by rw [hH]; exact hS.2.1 q h1 h2⟩ hW
  have hg : ∀ w ∈ z_ws, w.before args s' = true := fun w hw => z_wat hW' (z_gd w hw) (hts w hw)
  have hown' : s'.vm.findClass "FiberWorks" = some m.cls := by
    rw [hW'.alike.findClass]
    exact hown
  have hat := z_ats_hold hWo args
  have hout : ∀ x ∈ c.exceptionTable.toList, covers x 52 = false := by
    intro x hx
    rw [htb] at hx
    cases hx
  obtain ⟨qa, hq⟩ := hWo.2.2.2.2.2.1 ("FiberWorks", 109, "the text has a fault") (by decide +kernel)
  exact z_throwS hx hb htr hlk (hl.1.trans hml.symm) (by decide +kernel) (by decide +kernel) hown' (hg _ (by decide +kernel)) (hg _ (by decide +kernel)) (hg _ (by decide +kernel)) (fun a h => hat a (List.mem_append_left _ h)) hq zs_0_0 zs_0_1 zs_0_2 zs_0_3 zs_0_4 hout (by show 2 + 3 < R.frames; omega) (by show _ + 1 + (13 * (2 + 1) + 42) ≤ R.locals; omega) (by show 1 ≤ R.cells - cells; omega) (by show 6 ≤ R.slots - slots; omega) hH
set_option maxHeartbeats 1000000 in
theorem z_site_1 (had : ∀ i, ad (107 + i) = sz + i) (hcx : z_Cx z_my z_mb z_pg z_ws 50 p e s m args meth c) (hW : z_Wo L xs fv sz ad D dA s) (hat : z_At (z_g L xs fv) z_pg sz D z_cl ad dA R s H locs cells slots n0 s0 f w 50 ls lv S) (hc : 6 ≤ f ∧ 150 ≤ w ∧ z_wt st ≤ 8 ∧ S.1.length + 1 ≤ 601024 ∧ S.2 + 6 ≤ 7293034) :
    W p l e R s m args below meth c H locs cells slots (z_MQ below (z_Qc sz D z_cl ad dA 107 (.inr (107 + S.1.length)) (S.1 ++ [.inr (10, [])])) args s (cells + 1) (slots + 6) (z_A sz)) (F0 m 10 ls (st.map (z_tr ad))) := by
  obtain ⟨hx, hb, hml, hown, hts, hr, hlk, hnm, htb, htr⟩ := hcx
  obtain ⟨hl, hP, hS, hn0, hce, hsl, hRc, hRs, hf, hw⟩ := hat
  have hRc : 601024 ≤ R.cells + n0 := hRc
  have hRs : 7293034 ≤ R.slots + s0 := hRs
  have hwt := z_wt_tr ad st
  refine z_thrown (K := 107) (s0 := s0) had hP hS hn0 hce hW.1.1 (ci := 10) (cls := "java/lang/IllegalArgumentException") (T0 := zF_e) rfl (by omega) (by omega) (fun s' hH hW' => ?_)
  have hWo : z_Wo L xs fv sz ad D dA s' := z_Wo_mv ⟨hW', by rw [hH]; exact hS.1, fun q h1 h2 => by rw [hH]; exact hS.2.1 q h1 h2⟩ hW
  have hg : ∀ w ∈ z_ws, w.before args s' = true := fun w hw => z_wat hW' (z_gd w hw) (hts w hw)
  have hown' : s'.vm.findClass "FiberWorks$Faults" = some m.cls := by
    rw [hW'.alike.findClass]
    exact hown
  have hat := z_ats_hold hWo args
  have hout : ∀ x ∈ c.exceptionTable.toList, covers x 17 = false := by
    intro x hx
    rw [htb] at hx
    cases hx
  exact z_throw0 hx hb htr hlk (hl.1.trans hml.symm) (by decide +kernel) (by decide +kernel) hown' (hg _ (by decide +kernel)) (hg _ (by decide +kernel)) (hg _ (by decide +kernel)) (fun a h => hat a (List.mem_append_right _ (List.mem_append_left _ h))) zs_1_0 zs_1_1 zs_1_2 zs_1_3 hout (by show 2 + 3 < R.frames; omega) (by show _ + 1 + (13 * (2 + 1) + 41) ≤ R.locals; omega) (by show 1 ≤ R.cells - cells; omega) (by show 6 ≤ R.slots - slots; omega) hH
set_option maxHeartbeats 1000000 in
theorem z_site_2 (had : ∀ i, ad (107 + i) = sz + i) (hcx : z_Cx z_my z_mb z_pg z_ws 108 p e s m args meth c) (hW : z_Wo L xs fv sz ad D dA s) (hat : z_At (z_g L xs fv) z_pg sz D z_cl ad dA R s H locs cells slots n0 s0 f w 108 ls lv S) (hc : 6 ≤ f ∧ 150 ≤ w ∧ z_wt st ≤ 8 ∧ S.1.length + 1 ≤ 601024 ∧ S.2 + 6 ≤ 7293034) :
    W p l e R s m args below meth c H locs cells slots (z_MQ below (z_Qc sz D z_cl ad dA 107 (.inr (107 + S.1.length)) (S.1 ++ [.inr (11, [])])) args s (cells + 1) (slots + 6) (z_A sz)) (F0 m 7 ls (st.map (z_tr ad))) := by
  obtain ⟨hx, hb, hml, hown, hts, hr, hlk, hnm, htb, htr⟩ := hcx
  obtain ⟨hl, hP, hS, hn0, hce, hsl, hRc, hRs, hf, hw⟩ := hat
  have hRc : 601024 ≤ R.cells + n0 := hRc
  have hRs : 7293034 ≤ R.slots + s0 := hRs
  have hwt := z_wt_tr ad st
  refine z_thrown (K := 107) (s0 := s0) had hP hS hn0 hce hW.1.1 (ci := 11) (cls := "java/lang/IllegalStateException") (T0 := zF_e) rfl (by omega) (by omega) (fun s' hH hW' => ?_)
  have hWo : z_Wo L xs fv sz ad D dA s' := z_Wo_mv ⟨hW', by rw [hH]; exact hS.1, fun q h1 h2 => by rw [hH]; exact hS.2.1 q h1 h2⟩ hW
  have hg : ∀ w ∈ z_ws, w.before args s' = true := fun w hw => z_wat hW' (z_gd w hw) (hts w hw)
  have hown' : s'.vm.findClass "FiberWorks" = some m.cls := by
    rw [hW'.alike.findClass]
    exact hown
  have hat := z_ats_hold hWo args
  have hout : ∀ x ∈ c.exceptionTable.toList, covers x 16 = false := by
    intro x hx
    rw [htb] at hx
    cases hx
  obtain ⟨qa, hq⟩ := hWo.2.2.2.2.2.1 ("FiberWorks", 139, "there is no program") (by decide +kernel)
  exact z_throwS hx hb htr hlk (hl.1.trans hml.symm) (by decide +kernel) (by decide +kernel) hown' (hg _ (by decide +kernel)) (hg _ (by decide +kernel)) (hg _ (by decide +kernel)) (fun a h => hat a (List.mem_append_right _ (List.mem_append_right _ (h)))) hq zs_2_0 zs_2_1 zs_2_2 zs_2_3 zs_2_4 hout (by show 2 + 3 < R.frames; omega) (by show _ + 1 + (13 * (2 + 1) + 42) ≤ R.locals; omega) (by show 1 ≤ R.cells - cells; omega) (by show 6 ≤ R.slots - slots; omega) hH
set_option maxHeartbeats 1000000 in
theorem z_site_3 (had : ∀ i, ad (107 + i) = sz + i) (hcx : z_Cx z_my z_mb z_pg z_ws 113 p e s m args meth c) (hW : z_Wo L xs fv sz ad D dA s) (hat : z_At (z_g L xs fv) z_pg sz D z_cl ad dA R s H locs cells slots n0 s0 f w 113 ls lv S) (hc : 6 ≤ f ∧ 150 ≤ w ∧ z_wt st ≤ 8 ∧ S.1.length + 1 ≤ 601024 ∧ S.2 + 6 ≤ 7293034) :
    W p l e R s m args below meth c H locs cells slots (z_MQ below (z_Qc sz D z_cl ad dA 107 (.inr (107 + S.1.length)) (S.1 ++ [.inr (11, [])])) args s (cells + 1) (slots + 6) (z_A sz)) (F0 m 10 ls (st.map (z_tr ad))) := by
  obtain ⟨hx, hb, hml, hown, hts, hr, hlk, hnm, htb, htr⟩ := hcx
  obtain ⟨hl, hP, hS, hn0, hce, hsl, hRc, hRs, hf, hw⟩ := hat
  have hRc : 601024 ≤ R.cells + n0 := hRc
  have hRs : 7293034 ≤ R.slots + s0 := hRs
  have hwt := z_wt_tr ad st
  refine z_thrown (K := 107) (s0 := s0) had hP hS hn0 hce hW.1.1 (ci := 11) (cls := "java/lang/IllegalStateException") (T0 := zF_e) rfl (by omega) (by omega) (fun s' hH hW' => ?_)
  have hWo : z_Wo L xs fv sz ad D dA s' := z_Wo_mv ⟨hW', by rw [hH]; exact hS.1, fun q h1 h2 => by rw [hH]; exact hS.2.1 q h1 h2⟩ hW
  have hg : ∀ w ∈ z_ws, w.before args s' = true := fun w hw => z_wat hW' (z_gd w hw) (hts w hw)
  have hown' : s'.vm.findClass "FiberWorks" = some m.cls := by
    rw [hW'.alike.findClass]
    exact hown
  have hat := z_ats_hold hWo args
  have hout : ∀ x ∈ c.exceptionTable.toList, covers x 19 = false := by
    intro x hx
    rw [htb] at hx
    cases hx
  obtain ⟨qa, hq⟩ := hWo.2.2.2.2.2.1 ("FiberWorks", 148, "the program has not begun") (by decide +kernel)
  exact z_throwS hx hb htr hlk (hl.1.trans hml.symm) (by decide +kernel) (by decide +kernel) hown' (hg _ (by decide +kernel)) (hg _ (by decide +kernel)) (hg _ (by decide +kernel)) (fun a h => hat a (List.mem_append_right _ (List.mem_append_right _ (h)))) hq zs_3_0 zs_3_1 zs_3_2 zs_3_3 zs_3_4 hout (by show 2 + 3 < R.frames; omega) (by show _ + 1 + (13 * (2 + 1) + 42) ≤ R.locals; omega) (by show 1 ≤ R.cells - cells; omega) (by show 6 ≤ R.slots - slots; omega) hH
set_option maxHeartbeats 1000000 in
theorem z_site_4 (had : ∀ i, ad (107 + i) = sz + i) (hcx : z_Cx z_my z_mb z_pg z_ws 113 p e s m args meth c) (hW : z_Wo L xs fv sz ad D dA s) (hat : z_At (z_g L xs fv) z_pg sz D z_cl ad dA R s H locs cells slots n0 s0 f w 113 ls lv S) (hc : 6 ≤ f ∧ 150 ≤ w ∧ z_wt st ≤ 8 ∧ S.1.length + 1 ≤ 601024 ∧ S.2 + 6 ≤ 7293034) :
    W p l e R s m args below meth c H locs cells slots (z_MQ below (z_Qc sz D z_cl ad dA 107 (.inr (107 + S.1.length)) (S.1 ++ [.inr (10, [])])) args s (cells + 1) (slots + 6) (z_A sz)) (F0 m 31 ls (st.map (z_tr ad))) := by
  obtain ⟨hx, hb, hml, hown, hts, hr, hlk, hnm, htb, htr⟩ := hcx
  obtain ⟨hl, hP, hS, hn0, hce, hsl, hRc, hRs, hf, hw⟩ := hat
  have hRc : 601024 ≤ R.cells + n0 := hRc
  have hRs : 7293034 ≤ R.slots + s0 := hRs
  have hwt := z_wt_tr ad st
  refine z_thrown (K := 107) (s0 := s0) had hP hS hn0 hce hW.1.1 (ci := 10) (cls := "java/lang/IllegalArgumentException") (T0 := zF_e) rfl (by omega) (by omega) (fun s' hH hW' => ?_)
  have hWo : z_Wo L xs fv sz ad D dA s' := z_Wo_mv ⟨hW', by rw [hH]; exact hS.1, fun q h1 h2 => by rw [hH]; exact hS.2.1 q h1 h2⟩ hW
  have hg : ∀ w ∈ z_ws, w.before args s' = true := fun w hw => z_wat hW' (z_gd w hw) (hts w hw)
  have hown' : s'.vm.findClass "FiberWorks" = some m.cls := by
    rw [hW'.alike.findClass]
    exact hown
  have hat := z_ats_hold hWo args
  have hout : ∀ x ∈ c.exceptionTable.toList, covers x 40 = false := by
    intro x hx
    rw [htb] at hx
    cases hx
  obtain ⟨qa, hq⟩ := hWo.2.2.2.2.2.1 ("FiberWorks", 150, "no such amount of fuel") (by decide +kernel)
  exact z_throwS hx hb htr hlk (hl.1.trans hml.symm) (by decide +kernel) (by decide +kernel) hown' (hg _ (by decide +kernel)) (hg _ (by decide +kernel)) (hg _ (by decide +kernel)) (fun a h => hat a (List.mem_append_left _ h)) hq zs_4_0 zs_4_1 zs_4_2 zs_4_3 zs_4_4 hout (by show 2 + 3 < R.frames; omega) (by show _ + 1 + (13 * (2 + 1) + 42) ≤ R.locals; omega) (by show 1 ≤ R.cells - cells; omega) (by show 6 ≤ R.slots - slots; omega) hH
end ZSITE
