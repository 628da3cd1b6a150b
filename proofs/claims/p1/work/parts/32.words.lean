/-! The words on code, and what the plain machine knows in all. -/
def z_cwm (mi : Nat) : Cond := z_cw (z_my mi) (z_mb mi) (z_ml mi) (z_mr mi) (z_mh mi)
set_option maxRecDepth 20000 in
theorem zw_1 : z_cwm 1 ∈ lw_tbl := List.mem_append_right _ (List.mem_append_left _ (List.mem_of_getElem? (l := tables_1_1) (i := 30) rfl))
set_option maxRecDepth 20000 in
theorem zw_2 : z_cwm 2 ∈ lw_tbl := List.mem_append_right _ (List.mem_append_left _ (List.mem_of_getElem? (l := tables_1_1) (i := 38) rfl))
set_option maxRecDepth 20000 in
theorem zw_3 : z_cwm 3 ∈ lw_tbl := List.mem_append_right _ (List.mem_append_left _ (List.mem_of_getElem? (l := tables_1_1) (i := 43) rfl))
set_option maxRecDepth 20000 in
theorem zw_4 : z_cwm 4 ∈ lw_tbl := List.mem_append_right _ (List.mem_append_left _ (List.mem_of_getElem? (l := tables_1_1) (i := 58) rfl))
set_option maxRecDepth 20000 in
theorem zw_5 : z_cwm 5 ∈ lw_tbl := List.mem_append_right _ (List.mem_append_left _ (List.mem_of_getElem? (l := tables_1_1) (i := 107) rfl))
set_option maxRecDepth 20000 in
theorem zw_6 : z_cwm 6 ∈ lw_tbl := List.mem_append_right _ (List.mem_append_left _ (List.mem_of_getElem? (l := tables_1_1) (i := 112) rfl))
set_option maxRecDepth 20000 in
theorem zw_7 : z_cwm 7 ∈ lw_tbl := List.mem_append_right _ (List.mem_append_left _ (List.mem_of_getElem? (l := tables_1_1) (i := 133) rfl))
set_option maxRecDepth 20000 in
theorem zw_8 : z_cwm 8 ∈ lw_tbl := List.mem_append_right _ (List.mem_append_left _ (List.mem_of_getElem? (l := tables_1_1) (i := 138) rfl))
set_option maxRecDepth 20000 in
theorem zw_9 : z_cwm 9 ∈ lw_tbl := List.mem_append_right _ (List.mem_append_left _ (List.mem_of_getElem? (l := tables_1_1) (i := 205) rfl))
set_option maxRecDepth 20000 in
theorem zw_10 : z_cwm 10 ∈ lw_tbl := List.mem_append_right _ (List.mem_append_left _ (List.mem_of_getElem? (l := tables_1_1) (i := 230) rfl))
set_option maxRecDepth 20000 in
theorem zw_11 : z_cwm 11 ∈ lw_tbl := List.mem_append_right _ (List.mem_append_right _ (List.mem_append_left _ (List.mem_of_getElem? (l := tables_1_2) (i := 21) rfl)))
set_option maxRecDepth 20000 in
theorem zw_12 : z_cwm 12 ∈ lw_tbl := List.mem_append_right _ (List.mem_append_right _ (List.mem_append_left _ (List.mem_of_getElem? (l := tables_1_2) (i := 79) rfl)))
set_option maxRecDepth 20000 in
theorem zw_13 : z_cwm 13 ∈ lw_tbl := List.mem_append_right _ (List.mem_append_right _ (List.mem_append_left _ (List.mem_of_getElem? (l := tables_1_2) (i := 84) rfl)))
set_option maxRecDepth 20000 in
theorem zw_14 : z_cwm 14 ∈ lw_tbl := List.mem_append_right _ (List.mem_append_right _ (List.mem_append_left _ (List.mem_of_getElem? (l := tables_1_2) (i := 162) rfl)))
set_option maxRecDepth 20000 in
theorem zw_15 : z_cwm 15 ∈ lw_tbl := List.mem_append_right _ (List.mem_append_right _ (List.mem_append_left _ (List.mem_of_getElem? (l := tables_1_2) (i := 166) rfl)))
set_option maxRecDepth 20000 in
theorem zw_16 : z_cwm 16 ∈ lw_tbl := List.mem_append_right _ (List.mem_append_right _ (List.mem_append_left _ (List.mem_of_getElem? (l := tables_1_2) (i := 170) rfl)))
set_option maxRecDepth 20000 in
theorem zw_17 : z_cwm 17 ∈ lw_tbl := List.mem_append_right _ (List.mem_append_right _ (List.mem_append_left _ (List.mem_of_getElem? (l := tables_1_2) (i := 174) rfl)))
set_option maxRecDepth 20000 in
theorem zw_18 : z_cwm 18 ∈ lw_tbl := List.mem_append_right _ (List.mem_append_right _ (List.mem_append_left _ (List.mem_of_getElem? (l := tables_1_2) (i := 180) rfl)))
set_option maxRecDepth 20000 in
theorem zw_19 : z_cwm 19 ∈ lw_tbl := List.mem_append_right _ (List.mem_append_right _ (List.mem_append_left _ (List.mem_of_getElem? (l := tables_1_2) (i := 184) rfl)))
set_option maxRecDepth 20000 in
theorem zw_20 : z_cwm 20 ∈ lw_tbl := List.mem_append_right _ (List.mem_append_right _ (List.mem_append_left _ (List.mem_of_getElem? (l := tables_1_2) (i := 188) rfl)))
set_option maxRecDepth 20000 in
theorem zw_21 : z_cwm 21 ∈ lw_tbl := List.mem_append_right _ (List.mem_append_right _ (List.mem_append_left _ (List.mem_of_getElem? (l := tables_1_2) (i := 192) rfl)))
set_option maxRecDepth 20000 in
theorem zw_22 : z_cwm 22 ∈ lw_tbl := List.mem_append_right _ (List.mem_append_right _ (List.mem_append_left _ (List.mem_of_getElem? (l := tables_1_2) (i := 204) rfl)))
set_option maxRecDepth 20000 in
theorem zw_23 : z_cwm 23 ∈ lw_tbl := List.mem_append_right _ (List.mem_append_right _ (List.mem_append_left _ (List.mem_of_getElem? (l := tables_1_2) (i := 212) rfl)))
set_option maxRecDepth 20000 in
theorem zw_24 : z_cwm 24 ∈ lw_tbl := List.mem_append_right _ (List.mem_append_right _ (List.mem_append_left _ (List.mem_of_getElem? (l := tables_1_2) (i := 215) rfl)))
set_option maxRecDepth 20000 in
theorem zw_25 : z_cwm 25 ∈ lw_tbl := List.mem_append_right _ (List.mem_append_right _ (List.mem_append_left _ (List.mem_of_getElem? (l := tables_1_2) (i := 220) rfl)))
set_option maxRecDepth 20000 in
theorem zw_26 : z_cwm 26 ∈ lw_tbl := List.mem_append_right _ (List.mem_append_right _ (List.mem_append_left _ (List.mem_of_getElem? (l := tables_1_2) (i := 226) rfl)))
set_option maxRecDepth 20000 in
theorem zw_27 : z_cwm 27 ∈ lw_tbl := List.mem_append_right _ (List.mem_append_right _ (List.mem_append_right _ (List.mem_append_left _ (List.mem_of_getElem? (l := tables_1_3) (i := 82) rfl))))
set_option maxRecDepth 20000 in
theorem zw_28 : z_cwm 28 ∈ lw_tbl := List.mem_append_right _ (List.mem_append_right _ (List.mem_append_right _ (List.mem_append_left _ (List.mem_of_getElem? (l := tables_1_3) (i := 87) rfl))))
set_option maxRecDepth 20000 in
theorem zw_29 : z_cwm 29 ∈ lw_tbl := List.mem_append_right _ (List.mem_append_right _ (List.mem_append_right _ (List.mem_append_left _ (List.mem_of_getElem? (l := tables_1_3) (i := 93) rfl))))
set_option maxRecDepth 20000 in
theorem zw_30 : z_cwm 30 ∈ lw_tbl := List.mem_append_right _ (List.mem_append_right _ (List.mem_append_right _ (List.mem_append_left _ (List.mem_of_getElem? (l := tables_1_3) (i := 97) rfl))))
set_option maxRecDepth 20000 in
theorem zw_31 : z_cwm 31 ∈ lw_tbl := List.mem_append_right _ (List.mem_append_right _ (List.mem_append_right _ (List.mem_append_left _ (List.mem_of_getElem? (l := tables_1_3) (i := 101) rfl))))
set_option maxRecDepth 20000 in
theorem zw_32 : z_cwm 32 ∈ lw_tbl := List.mem_append_right _ (List.mem_append_right _ (List.mem_append_right _ (List.mem_append_left _ (List.mem_of_getElem? (l := tables_1_3) (i := 177) rfl))))
set_option maxRecDepth 20000 in
theorem zw_33 : z_cwm 33 ∈ lw_tbl := List.mem_append_right _ (List.mem_append_right _ (List.mem_append_right _ (List.mem_append_right _ (List.mem_append_left _ (List.mem_of_getElem? (l := tables_1_4) (i := 10) rfl)))))
set_option maxRecDepth 20000 in
theorem zw_34 : z_cwm 34 ∈ lw_tbl := List.mem_append_right _ (List.mem_append_right _ (List.mem_append_right _ (List.mem_append_right _ (List.mem_append_left _ (List.mem_of_getElem? (l := tables_1_4) (i := 80) rfl)))))
set_option maxRecDepth 20000 in
theorem zw_35 : z_cwm 35 ∈ lw_tbl := List.mem_append_right _ (List.mem_append_right _ (List.mem_append_right _ (List.mem_append_right _ (List.mem_append_left _ (List.mem_of_getElem? (l := tables_1_4) (i := 84) rfl)))))
set_option maxRecDepth 20000 in
theorem zw_36 : z_cwm 36 ∈ lw_tbl := List.mem_append_right _ (List.mem_append_right _ (List.mem_append_right _ (List.mem_append_right _ (List.mem_append_left _ (List.mem_of_getElem? (l := tables_1_4) (i := 90) rfl)))))
set_option maxRecDepth 20000 in
theorem zw_37 : z_cwm 37 ∈ lw_tbl := List.mem_append_right _ (List.mem_append_right _ (List.mem_append_right _ (List.mem_append_right _ (List.mem_append_left _ (List.mem_of_getElem? (l := tables_1_4) (i := 221) rfl)))))
set_option maxRecDepth 20000 in
theorem zw_38 : z_cwm 38 ∈ lw_tbl := List.mem_append_right _ (List.mem_append_right _ (List.mem_append_right _ (List.mem_append_right _ (List.mem_append_left _ (List.mem_of_getElem? (l := tables_1_4) (i := 237) rfl)))))
set_option maxRecDepth 20000 in
theorem zw_39 : z_cwm 39 ∈ lw_tbl := List.mem_append_right _ (List.mem_append_right _ (List.mem_append_right _ (List.mem_append_right _ (List.mem_append_right _ (List.mem_append_left _ (List.mem_of_getElem? (l := tables_1_5) (i := 2) rfl))))))
set_option maxRecDepth 20000 in
theorem zw_40 : z_cwm 40 ∈ lw_tbl := List.mem_append_right _ (List.mem_append_right _ (List.mem_append_right _ (List.mem_append_right _ (List.mem_append_right _ (List.mem_append_left _ (List.mem_of_getElem? (l := tables_1_5) (i := 34) rfl))))))
set_option maxRecDepth 20000 in
theorem zw_41 : z_cwm 41 ∈ lw_tbl := List.mem_append_right _ (List.mem_append_right _ (List.mem_append_right _ (List.mem_append_right _ (List.mem_append_right _ (List.mem_append_left _ (List.mem_of_getElem? (l := tables_1_5) (i := 38) rfl))))))
set_option maxRecDepth 20000 in
theorem zw_42 : z_cwm 42 ∈ lw_tbl := List.mem_append_right _ (List.mem_append_right _ (List.mem_append_right _ (List.mem_append_right _ (List.mem_append_right _ (List.mem_append_left _ (List.mem_of_getElem? (l := tables_1_5) (i := 127) rfl))))))
set_option maxRecDepth 20000 in
theorem zw_43 : z_cwm 43 ∈ lw_tbl := List.mem_append_right _ (List.mem_append_right _ (List.mem_append_right _ (List.mem_append_right _ (List.mem_append_right _ (List.mem_append_right _ (List.mem_append_right _ (List.mem_append_left _ (List.mem_of_getElem? (l := tables_1_7) (i := 28) rfl))))))))
set_option maxRecDepth 20000 in
theorem zw_44 : z_cwm 44 ∈ lw_tbl := List.mem_append_right _ (List.mem_append_right _ (List.mem_append_right _ (List.mem_append_right _ (List.mem_append_right _ (List.mem_append_right _ (List.mem_append_right _ (List.mem_append_left _ (List.mem_of_getElem? (l := tables_1_7) (i := 32) rfl))))))))
set_option maxRecDepth 20000 in
theorem zw_45 : z_cwm 45 ∈ lw_tbl := List.mem_append_right _ (List.mem_append_right _ (List.mem_append_right _ (List.mem_append_right _ (List.mem_append_right _ (List.mem_append_right _ (List.mem_append_right _ (List.mem_append_left _ (List.mem_of_getElem? (l := tables_1_7) (i := 36) rfl))))))))
set_option maxRecDepth 20000 in
theorem zw_46 : z_cwm 46 ∈ lw_tbl := List.mem_append_right _ (List.mem_append_right _ (List.mem_append_right _ (List.mem_append_right _ (List.mem_append_right _ (List.mem_append_right _ (List.mem_append_right _ (List.mem_append_left _ (List.mem_of_getElem? (l := tables_1_7) (i := 40) rfl))))))))
set_option maxRecDepth 20000 in
theorem zw_47 : z_cwm 47 ∈ lw_tbl := List.mem_append_right _ (List.mem_append_right _ (List.mem_append_right _ (List.mem_append_right _ (List.mem_append_right _ (List.mem_append_right _ (List.mem_append_right _ (List.mem_append_left _ (List.mem_of_getElem? (l := tables_1_7) (i := 44) rfl))))))))
set_option maxRecDepth 20000 in
theorem zw_48 : z_cwm 48 ∈ lw_tbl := List.mem_append_right _ (List.mem_append_right _ (List.mem_append_right _ (List.mem_append_right _ (List.mem_append_right _ (List.mem_append_right _ (List.mem_append_right _ (List.mem_append_left _ (List.mem_of_getElem? (l := tables_1_7) (i := 48) rfl))))))))
set_option maxRecDepth 20000 in
theorem zw_49 : z_cwm 49 ∈ lw_tbl := List.mem_append_right _ (List.mem_append_right _ (List.mem_append_right _ (List.mem_append_right _ (List.mem_append_right _ (List.mem_append_right _ (List.mem_append_right _ (List.mem_append_left _ (List.mem_of_getElem? (l := tables_1_7) (i := 52) rfl))))))))
set_option maxRecDepth 20000 in
theorem zw_50 : z_cwm 50 ∈ lw_tbl := List.mem_append_right _ (List.mem_append_right _ (List.mem_append_right _ (List.mem_append_right _ (List.mem_append_right _ (List.mem_append_right _ (List.mem_append_right _ (List.mem_append_left _ (List.mem_of_getElem? (l := tables_1_7) (i := 56) rfl))))))))
set_option maxRecDepth 20000 in
theorem zw_51 : z_cwm 51 ∈ lw_tbl := List.mem_append_right _ (List.mem_append_right _ (List.mem_append_right _ (List.mem_append_right _ (List.mem_append_right _ (List.mem_append_right _ (List.mem_append_right _ (List.mem_append_left _ (List.mem_of_getElem? (l := tables_1_7) (i := 60) rfl))))))))
set_option maxRecDepth 20000 in
theorem zw_52 : z_cwm 52 ∈ lw_tbl := List.mem_append_right _ (List.mem_append_right _ (List.mem_append_right _ (List.mem_append_right _ (List.mem_append_right _ (List.mem_append_right _ (List.mem_append_right _ (List.mem_append_left _ (List.mem_of_getElem? (l := tables_1_7) (i := 84) rfl))))))))
set_option maxRecDepth 20000 in
theorem zw_53 : z_cwm 53 ∈ lw_tbl := List.mem_append_right _ (List.mem_append_right _ (List.mem_append_right _ (List.mem_append_right _ (List.mem_append_right _ (List.mem_append_right _ (List.mem_append_right _ (List.mem_append_left _ (List.mem_of_getElem? (l := tables_1_7) (i := 88) rfl))))))))
set_option maxRecDepth 20000 in
theorem zw_54 : z_cwm 54 ∈ lw_tbl := List.mem_append_right _ (List.mem_append_right _ (List.mem_append_right _ (List.mem_append_right _ (List.mem_append_right _ (List.mem_append_right _ (List.mem_append_right _ (List.mem_append_left _ (List.mem_of_getElem? (l := tables_1_7) (i := 120) rfl))))))))
set_option maxRecDepth 20000 in
theorem zw_55 : z_cwm 55 ∈ lw_tbl := List.mem_append_right _ (List.mem_append_right _ (List.mem_append_right _ (List.mem_append_right _ (List.mem_append_right _ (List.mem_append_right _ (List.mem_append_right _ (List.mem_append_left _ (List.mem_of_getElem? (l := tables_1_7) (i := 124) rfl))))))))
set_option maxRecDepth 20000 in
theorem zw_56 : z_cwm 56 ∈ lw_tbl := List.mem_append_right _ (List.mem_append_right _ (List.mem_append_right _ (List.mem_append_right _ (List.mem_append_right _ (List.mem_append_right _ (List.mem_append_right _ (List.mem_append_left _ (List.mem_of_getElem? (l := tables_1_7) (i := 160) rfl))))))))
set_option maxRecDepth 20000 in
theorem zw_57 : z_cwm 57 ∈ lw_tbl := List.mem_append_right _ (List.mem_append_right _ (List.mem_append_right _ (List.mem_append_right _ (List.mem_append_right _ (List.mem_append_right _ (List.mem_append_right _ (List.mem_append_right _ (List.mem_of_getElem? (l := tables_1_8) (i := 41) rfl))))))))
set_option maxRecDepth 20000 in
theorem zw_58 : z_cwm 58 ∈ lw_tbl := List.mem_append_right _ (List.mem_append_right _ (List.mem_append_right _ (List.mem_append_right _ (List.mem_append_right _ (List.mem_append_right _ (List.mem_append_right _ (List.mem_append_right _ (List.mem_of_getElem? (l := tables_1_8) (i := 45) rfl))))))))
set_option maxRecDepth 20000 in
theorem zw_59 : z_cwm 59 ∈ lw_tbl := List.mem_append_right _ (List.mem_append_right _ (List.mem_append_right _ (List.mem_append_right _ (List.mem_append_right _ (List.mem_append_right _ (List.mem_append_right _ (List.mem_append_right _ (List.mem_of_getElem? (l := tables_1_8) (i := 49) rfl))))))))
set_option maxRecDepth 20000 in
theorem zw_60 : z_cwm 60 ∈ lw_tbl := List.mem_append_right _ (List.mem_append_right _ (List.mem_append_right _ (List.mem_append_right _ (List.mem_append_right _ (List.mem_append_right _ (List.mem_append_right _ (List.mem_append_right _ (List.mem_of_getElem? (l := tables_1_8) (i := 53) rfl))))))))
set_option maxRecDepth 20000 in
theorem zw_61 : z_cwm 61 ∈ lw_tbl := List.mem_append_right _ (List.mem_append_right _ (List.mem_append_right _ (List.mem_append_right _ (List.mem_append_right _ (List.mem_append_right _ (List.mem_append_right _ (List.mem_append_right _ (List.mem_of_getElem? (l := tables_1_8) (i := 57) rfl))))))))
set_option maxRecDepth 20000 in
theorem zw_62 : z_cwm 62 ∈ lw_tbl := List.mem_append_right _ (List.mem_append_right _ (List.mem_append_right _ (List.mem_append_right _ (List.mem_append_right _ (List.mem_append_right _ (List.mem_append_right _ (List.mem_append_right _ (List.mem_of_getElem? (l := tables_1_8) (i := 61) rfl))))))))
set_option maxRecDepth 20000 in
theorem zw_63 : z_cwm 63 ∈ lw_tbl := List.mem_append_right _ (List.mem_append_right _ (List.mem_append_right _ (List.mem_append_right _ (List.mem_append_right _ (List.mem_append_right _ (List.mem_append_right _ (List.mem_append_right _ (List.mem_of_getElem? (l := tables_1_8) (i := 124) rfl))))))))
set_option maxRecDepth 20000 in
theorem zw_0 : Cond.code Lib.objectInit ⟨#[0xb1]⟩ 1 none ∈ lw_tbl := List.mem_append_right _ (List.mem_append_left _ (List.mem_of_getElem? (l := tables_1_1) (i := 33) rfl))
set_option maxRecDepth 20000 in
theorem zw_o : Cond.code z_yo prog_16_method_2_code 1 (some .int) ∈ lw_tbl := List.mem_append_right _ (List.mem_append_right _ (List.mem_append_right _ (List.mem_append_right _ (List.mem_append_left _ (List.mem_of_getElem? (l := tables_1_4) (i := 18) rfl)))))
def z_co : ByteArray := prog_16_method_2_code
def z_wc : List Cond := Cond.code Lib.objectInit ⟨#[0xb1]⟩ 1 none :: Cond.code z_yo z_co 1 (some .int) :: (List.range 63).map (fun k => z_cwm (k + 1))
def z_ws : List Cond := z_wn ++ z_wc
theorem z_cw_good (y : MethodName) (cc : ByteArray) (m : Nat) (r : Option FieldType) (hh : List (Nat × Nat × Nat × Nat)) : ((z_cw y cc m r hh).onTables && (z_cw y cc m r hh).keeps) = true := by
  cases hh <;> rfl
theorem zw_all : ∀ k, k < 63 → z_cwm (k + 1) ∈ lw_tbl := by
  intro k hk
  match k, hk with
  | 0, _ => exact zw_1
  | 1, _ => exact zw_2
  | 2, _ => exact zw_3
  | 3, _ => exact zw_4
  | 4, _ => exact zw_5
  | 5, _ => exact zw_6
  | 6, _ => exact zw_7
  | 7, _ => exact zw_8
  | 8, _ => exact zw_9
  | 9, _ => exact zw_10
  | 10, _ => exact zw_11
  | 11, _ => exact zw_12
  | 12, _ => exact zw_13
  | 13, _ => exact zw_14
  | 14, _ => exact zw_15
  | 15, _ => exact zw_16
  | 16, _ => exact zw_17
  | 17, _ => exact zw_18
  | 18, _ => exact zw_19
  | 19, _ => exact zw_20
  | 20, _ => exact zw_21
  | 21, _ => exact zw_22
  | 22, _ => exact zw_23
  | 23, _ => exact zw_24
  | 24, _ => exact zw_25
  | 25, _ => exact zw_26
  | 26, _ => exact zw_27
  | 27, _ => exact zw_28
  | 28, _ => exact zw_29
  | 29, _ => exact zw_30
  | 30, _ => exact zw_31
  | 31, _ => exact zw_32
  | 32, _ => exact zw_33
  | 33, _ => exact zw_34
  | 34, _ => exact zw_35
  | 35, _ => exact zw_36
  | 36, _ => exact zw_37
  | 37, _ => exact zw_38
  | 38, _ => exact zw_39
  | 39, _ => exact zw_40
  | 40, _ => exact zw_41
  | 41, _ => exact zw_42
  | 42, _ => exact zw_43
  | 43, _ => exact zw_44
  | 44, _ => exact zw_45
  | 45, _ => exact zw_46
  | 46, _ => exact zw_47
  | 47, _ => exact zw_48
  | 48, _ => exact zw_49
  | 49, _ => exact zw_50
  | 50, _ => exact zw_51
  | 51, _ => exact zw_52
  | 52, _ => exact zw_53
  | 53, _ => exact zw_54
  | 54, _ => exact zw_55
  | 55, _ => exact zw_56
  | 56, _ => exact zw_57
  | 57, _ => exact zw_58
  | 58, _ => exact zw_59
  | 59, _ => exact zw_60
  | 60, _ => exact zw_61
  | 61, _ => exact zw_62
  | 62, _ => exact zw_63
  | n + 63, hk => omega
theorem z_wsg : GoodIn lw_tbl z_ws := by
  refine z_gia z_wg (fun w hw => ?_)
  rcases List.mem_cons.mp hw with rfl | hw
  · exact ⟨zw_0, Or.inl rfl⟩
  rcases List.mem_cons.mp hw with rfl | hw
  · exact ⟨zw_o, Or.inl rfl⟩
  · obtain ⟨k, hk, rfl⟩ := List.mem_map.mp hw
    exact ⟨zw_all k (List.mem_range.mp hk), Or.inl (z_cw_good _ _ _ _ _)⟩
theorem z_cw_in : ∀ mi, 0 < mi → mi < 64 → z_cw (z_my mi) (z_mb mi) (z_pg.2.1 mi) (z_pg.2.2.1 mi) (z_pg.2.2.2.1 mi) ∈ z_ws := by
  intro mi h1 h2
  refine List.mem_append_right _ (List.mem_cons_of_mem _ (List.mem_cons_of_mem _ (List.mem_map.mpr ⟨mi - 1, List.mem_range.mpr (by omega), ?_⟩)))
  show z_cwm (mi - 1 + 1) = _
  rw [Nat.sub_add_cancel h1]
  rfl
