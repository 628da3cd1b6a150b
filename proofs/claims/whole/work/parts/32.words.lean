/-! The words on code, and what the plain machine knows in all. -/
def z_cwm (mi : Nat) : Cond := z_cw (z_my mi) (z_mb mi) (z_ml mi) (z_mr mi) (z_mh mi)
set_option maxRecDepth 20000 in
theorem zw_1 : z_cwm 1 ∈ lw_tbl := List.mem_append_right _ (List.mem_append_left _ (List.mem_of_getElem? (l := tables_1_1) (i := 30) rfl))
set_option maxRecDepth 20000 in
theorem zw_2 : z_cwm 2 ∈ lw_tbl := List.mem_append_right _ (List.mem_append_left _ (List.mem_of_getElem? (l := tables_1_1) (i := 38) rfl))
set_option maxRecDepth 20000 in
theorem zw_3 : z_cwm 3 ∈ lw_tbl := List.mem_append_right _ (List.mem_append_left _ (List.mem_of_getElem? (l := tables_1_1) (i := 43) rfl))
set_option maxRecDepth 20000 in
theorem zw_4 : z_cwm 4 ∈ lw_tbl := List.mem_append_right _ (List.mem_append_left _ (List.mem_of_getElem? (l := tables_1_1) (i := 58) rfl))
set_option maxRecDepth 20000 in
theorem zw_5 : z_cwm 5 ∈ lw_tbl := List.mem_append_right _ (List.mem_append_left _ (List.mem_of_getElem? (l := tables_1_1) (i := 107) rfl))
set_option maxRecDepth 20000 in
theorem zw_6 : z_cwm 6 ∈ lw_tbl := List.mem_append_right _ (List.mem_append_left _ (List.mem_of_getElem? (l := tables_1_1) (i := 112) rfl))
set_option maxRecDepth 20000 in
theorem zw_7 : z_cwm 7 ∈ lw_tbl := List.mem_append_right _ (List.mem_append_left _ (List.mem_of_getElem? (l := tables_1_1) (i := 133) rfl))
set_option maxRecDepth 20000 in
theorem zw_8 : z_cwm 8 ∈ lw_tbl := List.mem_append_right _ (List.mem_append_left _ (List.mem_of_getElem? (l := tables_1_1) (i := 138) rfl))
set_option maxRecDepth 20000 in
theorem zw_9 : z_cwm 9 ∈ lw_tbl := List.mem_append_right _ (List.mem_append_left _ (List.mem_of_getElem? (l := tables_1_1) (i := 205) rfl))
set_option maxRecDepth 20000 in
theorem zw_10 : z_cwm 10 ∈ lw_tbl := List.mem_append_right _ (List.mem_append_left _ (List.mem_of_getElem? (l := tables_1_1) (i := 230) rfl))
set_option maxRecDepth 20000 in
theorem zw_11 : z_cwm 11 ∈ lw_tbl := List.mem_append_right _ (List.mem_append_right _ (List.mem_append_left _ (List.mem_of_getElem? (l := tables_1_2) (i := 21) rfl)))
set_option maxRecDepth 20000 in
theorem zw_12 : z_cwm 12 ∈ lw_tbl := List.mem_append_right _ (List.mem_append_right _ (List.mem_append_left _ (List.mem_of_getElem? (l := tables_1_2) (i := 79) rfl)))
set_option maxRecDepth 20000 in
theorem zw_13 : z_cwm 13 ∈ lw_tbl := List.mem_append_right _ (List.mem_append_right _ (List.mem_append_left _ (List.mem_of_getElem? (l := tables_1_2) (i := 84) rfl)))
set_option maxRecDepth 20000 in
theorem zw_14 : z_cwm 14 ∈ lw_tbl := List.mem_append_right _ (List.mem_append_right _ (List.mem_append_left _ (List.mem_of_getElem? (l := tables_1_2) (i := 162) rfl)))
set_option maxRecDepth 20000 in
theorem zw_15 : z_cwm 15 ∈ lw_tbl := List.mem_append_right _ (List.mem_append_right _ (List.mem_append_left _ (List.mem_of_getElem? (l := tables_1_2) (i := 166) rfl)))
set_option maxRecDepth 20000 in
theorem zw_16 : z_cwm 16 ∈ lw_tbl := List.mem_append_right _ (List.mem_append_right _ (List.mem_append_left _ (List.mem_of_getElem? (l := tables_1_2) (i := 170) rfl)))
set_option maxRecDepth 20000 in
theorem zw_17 : z_cwm 17 ∈ lw_tbl := List.mem_append_right _ (List.mem_append_right _ (List.mem_append_left _ (List.mem_of_getElem? (l := tables_1_2) (i := 174) rfl)))
set_option maxRecDepth 20000 in
theorem zw_18 : z_cwm 18 ∈ lw_tbl := List.mem_append_right _ (List.mem_append_right _ (List.mem_append_left _ (List.mem_of_getElem? (l := tables_1_2) (i := 180) rfl)))
set_option maxRecDepth 20000 in
theorem zw_19 : z_cwm 19 ∈ lw_tbl := List.mem_append_right _ (List.mem_append_right _ (List.mem_append_left _ (List.mem_of_getElem? (l := tables_1_2) (i := 184) rfl)))
set_option maxRecDepth 20000 in
theorem zw_20 : z_cwm 20 ∈ lw_tbl := List.mem_append_right _ (List.mem_append_right _ (List.mem_append_left _ (List.mem_of_getElem? (l := tables_1_2) (i := 188) rfl)))
set_option maxRecDepth 20000 in
theorem zw_21 : z_cwm 21 ∈ lw_tbl := List.mem_append_right _ (List.mem_append_right _ (List.mem_append_left _ (List.mem_of_getElem? (l := tables_1_2) (i := 192) rfl)))
set_option maxRecDepth 20000 in
theorem zw_22 : z_cwm 22 ∈ lw_tbl := List.mem_append_right _ (List.mem_append_right _ (List.mem_append_left _ (List.mem_of_getElem? (l := tables_1_2) (i := 196) rfl)))
set_option maxRecDepth 20000 in
theorem zw_23 : z_cwm 23 ∈ lw_tbl := List.mem_append_right _ (List.mem_append_right _ (List.mem_append_left _ (List.mem_of_getElem? (l := tables_1_2) (i := 200) rfl)))
set_option maxRecDepth 20000 in
theorem zw_24 : z_cwm 24 ∈ lw_tbl := List.mem_append_right _ (List.mem_append_right _ (List.mem_append_left _ (List.mem_of_getElem? (l := tables_1_2) (i := 204) rfl)))
set_option maxRecDepth 20000 in
theorem zw_25 : z_cwm 25 ∈ lw_tbl := List.mem_append_right _ (List.mem_append_right _ (List.mem_append_left _ (List.mem_of_getElem? (l := tables_1_2) (i := 208) rfl)))
set_option maxRecDepth 20000 in
theorem zw_26 : z_cwm 26 ∈ lw_tbl := List.mem_append_right _ (List.mem_append_right _ (List.mem_append_left _ (List.mem_of_getElem? (l := tables_1_2) (i := 212) rfl)))
set_option maxRecDepth 20000 in
theorem zw_27 : z_cwm 27 ∈ lw_tbl := List.mem_append_right _ (List.mem_append_right _ (List.mem_append_left _ (List.mem_of_getElem? (l := tables_1_2) (i := 215) rfl)))
set_option maxRecDepth 20000 in
theorem zw_28 : z_cwm 28 ∈ lw_tbl := List.mem_append_right _ (List.mem_append_right _ (List.mem_append_left _ (List.mem_of_getElem? (l := tables_1_2) (i := 220) rfl)))
set_option maxRecDepth 20000 in
theorem zw_29 : z_cwm 29 ∈ lw_tbl := List.mem_append_right _ (List.mem_append_right _ (List.mem_append_left _ (List.mem_of_getElem? (l := tables_1_2) (i := 226) rfl)))
set_option maxRecDepth 20000 in
theorem zw_30 : z_cwm 30 ∈ lw_tbl := List.mem_append_right _ (List.mem_append_right _ (List.mem_append_left _ (List.mem_of_getElem? (l := tables_1_2) (i := 230) rfl)))
set_option maxRecDepth 20000 in
theorem zw_31 : z_cwm 31 ∈ lw_tbl := List.mem_append_right _ (List.mem_append_right _ (List.mem_append_left _ (List.mem_of_getElem? (l := tables_1_2) (i := 233) rfl)))
set_option maxRecDepth 20000 in
theorem zw_32 : z_cwm 32 ∈ lw_tbl := List.mem_append_right _ (List.mem_append_right _ (List.mem_append_left _ (List.mem_of_getElem? (l := tables_1_2) (i := 236) rfl)))
set_option maxRecDepth 20000 in
theorem zw_33 : z_cwm 33 ∈ lw_tbl := List.mem_append_right _ (List.mem_append_right _ (List.mem_append_right _ (List.mem_append_left _ (List.mem_of_getElem? (l := tables_1_3) (i := 0) rfl))))
set_option maxRecDepth 20000 in
theorem zw_34 : z_cwm 34 ∈ lw_tbl := List.mem_append_right _ (List.mem_append_right _ (List.mem_append_right _ (List.mem_append_left _ (List.mem_of_getElem? (l := tables_1_3) (i := 8) rfl))))
set_option maxRecDepth 20000 in
theorem zw_35 : z_cwm 35 ∈ lw_tbl := List.mem_append_right _ (List.mem_append_right _ (List.mem_append_right _ (List.mem_append_left _ (List.mem_of_getElem? (l := tables_1_3) (i := 12) rfl))))
set_option maxRecDepth 20000 in
theorem zw_36 : z_cwm 36 ∈ lw_tbl := List.mem_append_right _ (List.mem_append_right _ (List.mem_append_right _ (List.mem_append_left _ (List.mem_of_getElem? (l := tables_1_3) (i := 18) rfl))))
set_option maxRecDepth 20000 in
theorem zw_37 : z_cwm 37 ∈ lw_tbl := List.mem_append_right _ (List.mem_append_right _ (List.mem_append_right _ (List.mem_append_left _ (List.mem_of_getElem? (l := tables_1_3) (i := 22) rfl))))
set_option maxRecDepth 20000 in
theorem zw_38 : z_cwm 38 ∈ lw_tbl := List.mem_append_right _ (List.mem_append_right _ (List.mem_append_right _ (List.mem_append_left _ (List.mem_of_getElem? (l := tables_1_3) (i := 28) rfl))))
set_option maxRecDepth 20000 in
theorem zw_39 : z_cwm 39 ∈ lw_tbl := List.mem_append_right _ (List.mem_append_right _ (List.mem_append_right _ (List.mem_append_left _ (List.mem_of_getElem? (l := tables_1_3) (i := 32) rfl))))
set_option maxRecDepth 20000 in
theorem zw_40 : z_cwm 40 ∈ lw_tbl := List.mem_append_right _ (List.mem_append_right _ (List.mem_append_right _ (List.mem_append_left _ (List.mem_of_getElem? (l := tables_1_3) (i := 36) rfl))))
set_option maxRecDepth 20000 in
theorem zw_41 : z_cwm 41 ∈ lw_tbl := List.mem_append_right _ (List.mem_append_right _ (List.mem_append_right _ (List.mem_append_left _ (List.mem_of_getElem? (l := tables_1_3) (i := 39) rfl))))
set_option maxRecDepth 20000 in
theorem zw_42 : z_cwm 42 ∈ lw_tbl := List.mem_append_right _ (List.mem_append_right _ (List.mem_append_right _ (List.mem_append_left _ (List.mem_of_getElem? (l := tables_1_3) (i := 42) rfl))))
set_option maxRecDepth 20000 in
theorem zw_43 : z_cwm 43 ∈ lw_tbl := List.mem_append_right _ (List.mem_append_right _ (List.mem_append_right _ (List.mem_append_left _ (List.mem_of_getElem? (l := tables_1_3) (i := 47) rfl))))
set_option maxRecDepth 20000 in
theorem zw_44 : z_cwm 44 ∈ lw_tbl := List.mem_append_right _ (List.mem_append_right _ (List.mem_append_right _ (List.mem_append_left _ (List.mem_of_getElem? (l := tables_1_3) (i := 74) rfl))))
set_option maxRecDepth 20000 in
theorem zw_45 : z_cwm 45 ∈ lw_tbl := List.mem_append_right _ (List.mem_append_right _ (List.mem_append_right _ (List.mem_append_left _ (List.mem_of_getElem? (l := tables_1_3) (i := 78) rfl))))
set_option maxRecDepth 20000 in
theorem zw_46 : z_cwm 46 ∈ lw_tbl := List.mem_append_right _ (List.mem_append_right _ (List.mem_append_right _ (List.mem_append_left _ (List.mem_of_getElem? (l := tables_1_3) (i := 82) rfl))))
set_option maxRecDepth 20000 in
theorem zw_47 : z_cwm 47 ∈ lw_tbl := List.mem_append_right _ (List.mem_append_right _ (List.mem_append_right _ (List.mem_append_left _ (List.mem_of_getElem? (l := tables_1_3) (i := 87) rfl))))
set_option maxRecDepth 20000 in
theorem zw_48 : z_cwm 48 ∈ lw_tbl := List.mem_append_right _ (List.mem_append_right _ (List.mem_append_right _ (List.mem_append_left _ (List.mem_of_getElem? (l := tables_1_3) (i := 93) rfl))))
set_option maxRecDepth 20000 in
theorem zw_49 : z_cwm 49 ∈ lw_tbl := List.mem_append_right _ (List.mem_append_right _ (List.mem_append_right _ (List.mem_append_left _ (List.mem_of_getElem? (l := tables_1_3) (i := 97) rfl))))
set_option maxRecDepth 20000 in
theorem zw_50 : z_cwm 50 ∈ lw_tbl := List.mem_append_right _ (List.mem_append_right _ (List.mem_append_right _ (List.mem_append_left _ (List.mem_of_getElem? (l := tables_1_3) (i := 101) rfl))))
set_option maxRecDepth 20000 in
theorem zw_51 : z_cwm 51 ∈ lw_tbl := List.mem_append_right _ (List.mem_append_right _ (List.mem_append_right _ (List.mem_append_left _ (List.mem_of_getElem? (l := tables_1_3) (i := 170) rfl))))
set_option maxRecDepth 20000 in
theorem zw_52 : z_cwm 52 ∈ lw_tbl := List.mem_append_right _ (List.mem_append_right _ (List.mem_append_right _ (List.mem_append_left _ (List.mem_of_getElem? (l := tables_1_3) (i := 177) rfl))))
set_option maxRecDepth 20000 in
theorem zw_53 : z_cwm 53 ∈ lw_tbl := List.mem_append_right _ (List.mem_append_right _ (List.mem_append_right _ (List.mem_append_left _ (List.mem_of_getElem? (l := tables_1_3) (i := 181) rfl))))
set_option maxRecDepth 20000 in
theorem zw_54 : z_cwm 54 ∈ lw_tbl := List.mem_append_right _ (List.mem_append_right _ (List.mem_append_right _ (List.mem_append_left _ (List.mem_of_getElem? (l := tables_1_3) (i := 187) rfl))))
set_option maxRecDepth 20000 in
theorem zw_55 : z_cwm 55 ∈ lw_tbl := List.mem_append_right _ (List.mem_append_right _ (List.mem_append_right _ (List.mem_append_left _ (List.mem_of_getElem? (l := tables_1_3) (i := 191) rfl))))
set_option maxRecDepth 20000 in
theorem zw_56 : z_cwm 56 ∈ lw_tbl := List.mem_append_right _ (List.mem_append_right _ (List.mem_append_right _ (List.mem_append_left _ (List.mem_of_getElem? (l := tables_1_3) (i := 202) rfl))))
set_option maxRecDepth 20000 in
theorem zw_57 : z_cwm 57 ∈ lw_tbl := List.mem_append_right _ (List.mem_append_right _ (List.mem_append_right _ (List.mem_append_left _ (List.mem_of_getElem? (l := tables_1_3) (i := 208) rfl))))
set_option maxRecDepth 20000 in
theorem zw_58 : z_cwm 58 ∈ lw_tbl := List.mem_append_right _ (List.mem_append_right _ (List.mem_append_right _ (List.mem_append_left _ (List.mem_of_getElem? (l := tables_1_3) (i := 216) rfl))))
set_option maxRecDepth 20000 in
theorem zw_59 : z_cwm 59 ∈ lw_tbl := List.mem_append_right _ (List.mem_append_right _ (List.mem_append_right _ (List.mem_append_left _ (List.mem_of_getElem? (l := tables_1_3) (i := 224) rfl))))
set_option maxRecDepth 20000 in
theorem zw_60 : z_cwm 60 ∈ lw_tbl := List.mem_append_right _ (List.mem_append_right _ (List.mem_append_right _ (List.mem_append_left _ (List.mem_of_getElem? (l := tables_1_3) (i := 227) rfl))))
set_option maxRecDepth 20000 in
theorem zw_61 : z_cwm 61 ∈ lw_tbl := List.mem_append_right _ (List.mem_append_right _ (List.mem_append_right _ (List.mem_append_left _ (List.mem_of_getElem? (l := tables_1_3) (i := 233) rfl))))
set_option maxRecDepth 20000 in
theorem zw_62 : z_cwm 62 ∈ lw_tbl := List.mem_append_right _ (List.mem_append_right _ (List.mem_append_right _ (List.mem_append_right _ (List.mem_append_left _ (List.mem_of_getElem? (l := tables_1_4) (i := 10) rfl)))))
set_option maxRecDepth 20000 in
theorem zw_63 : z_cwm 63 ∈ lw_tbl := List.mem_append_right _ (List.mem_append_right _ (List.mem_append_right _ (List.mem_append_right _ (List.mem_append_left _ (List.mem_of_getElem? (l := tables_1_4) (i := 22) rfl)))))
set_option maxRecDepth 20000 in
theorem zw_64 : z_cwm 64 ∈ lw_tbl := List.mem_append_right _ (List.mem_append_right _ (List.mem_append_right _ (List.mem_append_right _ (List.mem_append_left _ (List.mem_of_getElem? (l := tables_1_4) (i := 26) rfl)))))
set_option maxRecDepth 20000 in
theorem zw_65 : z_cwm 65 ∈ lw_tbl := List.mem_append_right _ (List.mem_append_right _ (List.mem_append_right _ (List.mem_append_right _ (List.mem_append_left _ (List.mem_of_getElem? (l := tables_1_4) (i := 30) rfl)))))
set_option maxRecDepth 20000 in
theorem zw_66 : z_cwm 66 ∈ lw_tbl := List.mem_append_right _ (List.mem_append_right _ (List.mem_append_right _ (List.mem_append_right _ (List.mem_append_left _ (List.mem_of_getElem? (l := tables_1_4) (i := 34) rfl)))))
set_option maxRecDepth 20000 in
theorem zw_67 : z_cwm 67 ∈ lw_tbl := List.mem_append_right _ (List.mem_append_right _ (List.mem_append_right _ (List.mem_append_right _ (List.mem_append_left _ (List.mem_of_getElem? (l := tables_1_4) (i := 43) rfl)))))
set_option maxRecDepth 20000 in
theorem zw_68 : z_cwm 68 ∈ lw_tbl := List.mem_append_right _ (List.mem_append_right _ (List.mem_append_right _ (List.mem_append_right _ (List.mem_append_left _ (List.mem_of_getElem? (l := tables_1_4) (i := 48) rfl)))))
set_option maxRecDepth 20000 in
theorem zw_69 : z_cwm 69 ∈ lw_tbl := List.mem_append_right _ (List.mem_append_right _ (List.mem_append_right _ (List.mem_append_right _ (List.mem_append_left _ (List.mem_of_getElem? (l := tables_1_4) (i := 52) rfl)))))
set_option maxRecDepth 20000 in
theorem zw_70 : z_cwm 70 ∈ lw_tbl := List.mem_append_right _ (List.mem_append_right _ (List.mem_append_right _ (List.mem_append_right _ (List.mem_append_left _ (List.mem_of_getElem? (l := tables_1_4) (i := 60) rfl)))))
set_option maxRecDepth 20000 in
theorem zw_71 : z_cwm 71 ∈ lw_tbl := List.mem_append_right _ (List.mem_append_right _ (List.mem_append_right _ (List.mem_append_right _ (List.mem_append_left _ (List.mem_of_getElem? (l := tables_1_4) (i := 64) rfl)))))
set_option maxRecDepth 20000 in
theorem zw_72 : z_cwm 72 ∈ lw_tbl := List.mem_append_right _ (List.mem_append_right _ (List.mem_append_right _ (List.mem_append_right _ (List.mem_append_left _ (List.mem_of_getElem? (l := tables_1_4) (i := 74) rfl)))))
set_option maxRecDepth 20000 in
theorem zw_73 : z_cwm 73 ∈ lw_tbl := List.mem_append_right _ (List.mem_append_right _ (List.mem_append_right _ (List.mem_append_right _ (List.mem_append_left _ (List.mem_of_getElem? (l := tables_1_4) (i := 80) rfl)))))
set_option maxRecDepth 20000 in
theorem zw_74 : z_cwm 74 ∈ lw_tbl := List.mem_append_right _ (List.mem_append_right _ (List.mem_append_right _ (List.mem_append_right _ (List.mem_append_left _ (List.mem_of_getElem? (l := tables_1_4) (i := 84) rfl)))))
set_option maxRecDepth 20000 in
theorem zw_75 : z_cwm 75 ∈ lw_tbl := List.mem_append_right _ (List.mem_append_right _ (List.mem_append_right _ (List.mem_append_right _ (List.mem_append_left _ (List.mem_of_getElem? (l := tables_1_4) (i := 90) rfl)))))
set_option maxRecDepth 20000 in
theorem zw_76 : z_cwm 76 ∈ lw_tbl := List.mem_append_right _ (List.mem_append_right _ (List.mem_append_right _ (List.mem_append_right _ (List.mem_append_left _ (List.mem_of_getElem? (l := tables_1_4) (i := 94) rfl)))))
set_option maxRecDepth 20000 in
theorem zw_77 : z_cwm 77 ∈ lw_tbl := List.mem_append_right _ (List.mem_append_right _ (List.mem_append_right _ (List.mem_append_right _ (List.mem_append_left _ (List.mem_of_getElem? (l := tables_1_4) (i := 98) rfl)))))
set_option maxRecDepth 20000 in
theorem zw_78 : z_cwm 78 ∈ lw_tbl := List.mem_append_right _ (List.mem_append_right _ (List.mem_append_right _ (List.mem_append_right _ (List.mem_append_left _ (List.mem_of_getElem? (l := tables_1_4) (i := 102) rfl)))))
set_option maxRecDepth 20000 in
theorem zw_79 : z_cwm 79 ∈ lw_tbl := List.mem_append_right _ (List.mem_append_right _ (List.mem_append_right _ (List.mem_append_right _ (List.mem_append_left _ (List.mem_of_getElem? (l := tables_1_4) (i := 106) rfl)))))
set_option maxRecDepth 20000 in
theorem zw_80 : z_cwm 80 ∈ lw_tbl := List.mem_append_right _ (List.mem_append_right _ (List.mem_append_right _ (List.mem_append_right _ (List.mem_append_left _ (List.mem_of_getElem? (l := tables_1_4) (i := 109) rfl)))))
set_option maxRecDepth 20000 in
theorem zw_81 : z_cwm 81 ∈ lw_tbl := List.mem_append_right _ (List.mem_append_right _ (List.mem_append_right _ (List.mem_append_right _ (List.mem_append_left _ (List.mem_of_getElem? (l := tables_1_4) (i := 113) rfl)))))
set_option maxRecDepth 20000 in
theorem zw_82 : z_cwm 82 ∈ lw_tbl := List.mem_append_right _ (List.mem_append_right _ (List.mem_append_right _ (List.mem_append_right _ (List.mem_append_left _ (List.mem_of_getElem? (l := tables_1_4) (i := 118) rfl)))))
set_option maxRecDepth 20000 in
theorem zw_83 : z_cwm 83 ∈ lw_tbl := List.mem_append_right _ (List.mem_append_right _ (List.mem_append_right _ (List.mem_append_right _ (List.mem_append_left _ (List.mem_of_getElem? (l := tables_1_4) (i := 122) rfl)))))
set_option maxRecDepth 20000 in
theorem zw_84 : z_cwm 84 ∈ lw_tbl := List.mem_append_right _ (List.mem_append_right _ (List.mem_append_right _ (List.mem_append_right _ (List.mem_append_left _ (List.mem_of_getElem? (l := tables_1_4) (i := 126) rfl)))))
set_option maxRecDepth 20000 in
theorem zw_85 : z_cwm 85 ∈ lw_tbl := List.mem_append_right _ (List.mem_append_right _ (List.mem_append_right _ (List.mem_append_right _ (List.mem_append_left _ (List.mem_of_getElem? (l := tables_1_4) (i := 130) rfl)))))
set_option maxRecDepth 20000 in
theorem zw_86 : z_cwm 86 ∈ lw_tbl := List.mem_append_right _ (List.mem_append_right _ (List.mem_append_right _ (List.mem_append_right _ (List.mem_append_left _ (List.mem_of_getElem? (l := tables_1_4) (i := 135) rfl)))))
set_option maxRecDepth 20000 in
theorem zw_87 : z_cwm 87 ∈ lw_tbl := List.mem_append_right _ (List.mem_append_right _ (List.mem_append_right _ (List.mem_append_right _ (List.mem_append_left _ (List.mem_of_getElem? (l := tables_1_4) (i := 139) rfl)))))
set_option maxRecDepth 20000 in
theorem zw_88 : z_cwm 88 ∈ lw_tbl := List.mem_append_right _ (List.mem_append_right _ (List.mem_append_right _ (List.mem_append_right _ (List.mem_append_left _ (List.mem_of_getElem? (l := tables_1_4) (i := 144) rfl)))))
set_option maxRecDepth 20000 in
theorem zw_89 : z_cwm 89 ∈ lw_tbl := List.mem_append_right _ (List.mem_append_right _ (List.mem_append_right _ (List.mem_append_right _ (List.mem_append_left _ (List.mem_of_getElem? (l := tables_1_4) (i := 148) rfl)))))
set_option maxRecDepth 20000 in
theorem zw_90 : z_cwm 90 ∈ lw_tbl := List.mem_append_right _ (List.mem_append_right _ (List.mem_append_right _ (List.mem_append_right _ (List.mem_append_left _ (List.mem_of_getElem? (l := tables_1_4) (i := 152) rfl)))))
set_option maxRecDepth 20000 in
theorem zw_91 : z_cwm 91 ∈ lw_tbl := List.mem_append_right _ (List.mem_append_right _ (List.mem_append_right _ (List.mem_append_right _ (List.mem_append_left _ (List.mem_of_getElem? (l := tables_1_4) (i := 157) rfl)))))
set_option maxRecDepth 20000 in
theorem zw_92 : z_cwm 92 ∈ lw_tbl := List.mem_append_right _ (List.mem_append_right _ (List.mem_append_right _ (List.mem_append_right _ (List.mem_append_left _ (List.mem_of_getElem? (l := tables_1_4) (i := 161) rfl)))))
set_option maxRecDepth 20000 in
theorem zw_93 : z_cwm 93 ∈ lw_tbl := List.mem_append_right _ (List.mem_append_right _ (List.mem_append_right _ (List.mem_append_right _ (List.mem_append_left _ (List.mem_of_getElem? (l := tables_1_4) (i := 165) rfl)))))
set_option maxRecDepth 20000 in
theorem zw_94 : z_cwm 94 ∈ lw_tbl := List.mem_append_right _ (List.mem_append_right _ (List.mem_append_right _ (List.mem_append_right _ (List.mem_append_left _ (List.mem_of_getElem? (l := tables_1_4) (i := 169) rfl)))))
set_option maxRecDepth 20000 in
theorem zw_95 : z_cwm 95 ∈ lw_tbl := List.mem_append_right _ (List.mem_append_right _ (List.mem_append_right _ (List.mem_append_right _ (List.mem_append_left _ (List.mem_of_getElem? (l := tables_1_4) (i := 176) rfl)))))
set_option maxRecDepth 20000 in
theorem zw_96 : z_cwm 96 ∈ lw_tbl := List.mem_append_right _ (List.mem_append_right _ (List.mem_append_right _ (List.mem_append_right _ (List.mem_append_left _ (List.mem_of_getElem? (l := tables_1_4) (i := 180) rfl)))))
set_option maxRecDepth 20000 in
theorem zw_97 : z_cwm 97 ∈ lw_tbl := List.mem_append_right _ (List.mem_append_right _ (List.mem_append_right _ (List.mem_append_right _ (List.mem_append_left _ (List.mem_of_getElem? (l := tables_1_4) (i := 184) rfl)))))
set_option maxRecDepth 20000 in
theorem zw_98 : z_cwm 98 ∈ lw_tbl := List.mem_append_right _ (List.mem_append_right _ (List.mem_append_right _ (List.mem_append_right _ (List.mem_append_left _ (List.mem_of_getElem? (l := tables_1_4) (i := 188) rfl)))))
set_option maxRecDepth 20000 in
theorem zw_99 : z_cwm 99 ∈ lw_tbl := List.mem_append_right _ (List.mem_append_right _ (List.mem_append_right _ (List.mem_append_right _ (List.mem_append_left _ (List.mem_of_getElem? (l := tables_1_4) (i := 192) rfl)))))
set_option maxRecDepth 20000 in
theorem zw_100 : z_cwm 100 ∈ lw_tbl := List.mem_append_right _ (List.mem_append_right _ (List.mem_append_right _ (List.mem_append_right _ (List.mem_append_left _ (List.mem_of_getElem? (l := tables_1_4) (i := 197) rfl)))))
set_option maxRecDepth 20000 in
theorem zw_101 : z_cwm 101 ∈ lw_tbl := List.mem_append_right _ (List.mem_append_right _ (List.mem_append_right _ (List.mem_append_right _ (List.mem_append_left _ (List.mem_of_getElem? (l := tables_1_4) (i := 201) rfl)))))
set_option maxRecDepth 20000 in
theorem zw_102 : z_cwm 102 ∈ lw_tbl := List.mem_append_right _ (List.mem_append_right _ (List.mem_append_right _ (List.mem_append_right _ (List.mem_append_left _ (List.mem_of_getElem? (l := tables_1_4) (i := 205) rfl)))))
set_option maxRecDepth 20000 in
theorem zw_103 : z_cwm 103 ∈ lw_tbl := List.mem_append_right _ (List.mem_append_right _ (List.mem_append_right _ (List.mem_append_right _ (List.mem_append_left _ (List.mem_of_getElem? (l := tables_1_4) (i := 209) rfl)))))
set_option maxRecDepth 20000 in
theorem zw_104 : z_cwm 104 ∈ lw_tbl := List.mem_append_right _ (List.mem_append_right _ (List.mem_append_right _ (List.mem_append_right _ (List.mem_append_left _ (List.mem_of_getElem? (l := tables_1_4) (i := 213) rfl)))))
set_option maxRecDepth 20000 in
theorem zw_105 : z_cwm 105 ∈ lw_tbl := List.mem_append_right _ (List.mem_append_right _ (List.mem_append_right _ (List.mem_append_right _ (List.mem_append_left _ (List.mem_of_getElem? (l := tables_1_4) (i := 217) rfl)))))
set_option maxRecDepth 20000 in
theorem zw_106 : z_cwm 106 ∈ lw_tbl := List.mem_append_right _ (List.mem_append_right _ (List.mem_append_right _ (List.mem_append_right _ (List.mem_append_left _ (List.mem_of_getElem? (l := tables_1_4) (i := 221) rfl)))))
set_option maxRecDepth 20000 in
theorem zw_107 : z_cwm 107 ∈ lw_tbl := List.mem_append_right _ (List.mem_append_right _ (List.mem_append_right _ (List.mem_append_right _ (List.mem_append_left _ (List.mem_of_getElem? (l := tables_1_4) (i := 237) rfl)))))
set_option maxRecDepth 20000 in
theorem zw_108 : z_cwm 108 ∈ lw_tbl := List.mem_append_right _ (List.mem_append_right _ (List.mem_append_right _ (List.mem_append_right _ (List.mem_append_right _ (List.mem_append_left _ (List.mem_of_getElem? (l := tables_1_5) (i := 2) rfl))))))
set_option maxRecDepth 20000 in
theorem zw_109 : z_cwm 109 ∈ lw_tbl := List.mem_append_right _ (List.mem_append_right _ (List.mem_append_right _ (List.mem_append_right _ (List.mem_append_right _ (List.mem_append_left _ (List.mem_of_getElem? (l := tables_1_5) (i := 22) rfl))))))
set_option maxRecDepth 20000 in
theorem zw_110 : z_cwm 110 ∈ lw_tbl := List.mem_append_right _ (List.mem_append_right _ (List.mem_append_right _ (List.mem_append_right _ (List.mem_append_right _ (List.mem_append_left _ (List.mem_of_getElem? (l := tables_1_5) (i := 26) rfl))))))
set_option maxRecDepth 20000 in
theorem zw_111 : z_cwm 111 ∈ lw_tbl := List.mem_append_right _ (List.mem_append_right _ (List.mem_append_right _ (List.mem_append_right _ (List.mem_append_right _ (List.mem_append_left _ (List.mem_of_getElem? (l := tables_1_5) (i := 31) rfl))))))
set_option maxRecDepth 20000 in
theorem zw_112 : z_cwm 112 ∈ lw_tbl := List.mem_append_right _ (List.mem_append_right _ (List.mem_append_right _ (List.mem_append_right _ (List.mem_append_right _ (List.mem_append_left _ (List.mem_of_getElem? (l := tables_1_5) (i := 34) rfl))))))
set_option maxRecDepth 20000 in
theorem zw_113 : z_cwm 113 ∈ lw_tbl := List.mem_append_right _ (List.mem_append_right _ (List.mem_append_right _ (List.mem_append_right _ (List.mem_append_right _ (List.mem_append_left _ (List.mem_of_getElem? (l := tables_1_5) (i := 38) rfl))))))
set_option maxRecDepth 20000 in
theorem zw_114 : z_cwm 114 ∈ lw_tbl := List.mem_append_right _ (List.mem_append_right _ (List.mem_append_right _ (List.mem_append_right _ (List.mem_append_right _ (List.mem_append_left _ (List.mem_of_getElem? (l := tables_1_5) (i := 44) rfl))))))
set_option maxRecDepth 20000 in
theorem zw_115 : z_cwm 115 ∈ lw_tbl := List.mem_append_right _ (List.mem_append_right _ (List.mem_append_right _ (List.mem_append_right _ (List.mem_append_right _ (List.mem_append_left _ (List.mem_of_getElem? (l := tables_1_5) (i := 49) rfl))))))
set_option maxRecDepth 20000 in
theorem zw_116 : z_cwm 116 ∈ lw_tbl := List.mem_append_right _ (List.mem_append_right _ (List.mem_append_right _ (List.mem_append_right _ (List.mem_append_right _ (List.mem_append_left _ (List.mem_of_getElem? (l := tables_1_5) (i := 53) rfl))))))
set_option maxRecDepth 20000 in
theorem zw_117 : z_cwm 117 ∈ lw_tbl := List.mem_append_right _ (List.mem_append_right _ (List.mem_append_right _ (List.mem_append_right _ (List.mem_append_right _ (List.mem_append_left _ (List.mem_of_getElem? (l := tables_1_5) (i := 57) rfl))))))
set_option maxRecDepth 20000 in
theorem zw_118 : z_cwm 118 ∈ lw_tbl := List.mem_append_right _ (List.mem_append_right _ (List.mem_append_right _ (List.mem_append_right _ (List.mem_append_right _ (List.mem_append_left _ (List.mem_of_getElem? (l := tables_1_5) (i := 61) rfl))))))
set_option maxRecDepth 20000 in
theorem zw_119 : z_cwm 119 ∈ lw_tbl := List.mem_append_right _ (List.mem_append_right _ (List.mem_append_right _ (List.mem_append_right _ (List.mem_append_right _ (List.mem_append_left _ (List.mem_of_getElem? (l := tables_1_5) (i := 65) rfl))))))
set_option maxRecDepth 20000 in
theorem zw_120 : z_cwm 120 ∈ lw_tbl := List.mem_append_right _ (List.mem_append_right _ (List.mem_append_right _ (List.mem_append_right _ (List.mem_append_right _ (List.mem_append_left _ (List.mem_of_getElem? (l := tables_1_5) (i := 69) rfl))))))
set_option maxRecDepth 20000 in
theorem zw_121 : z_cwm 121 ∈ lw_tbl := List.mem_append_right _ (List.mem_append_right _ (List.mem_append_right _ (List.mem_append_right _ (List.mem_append_right _ (List.mem_append_left _ (List.mem_of_getElem? (l := tables_1_5) (i := 73) rfl))))))
set_option maxRecDepth 20000 in
theorem zw_122 : z_cwm 122 ∈ lw_tbl := List.mem_append_right _ (List.mem_append_right _ (List.mem_append_right _ (List.mem_append_right _ (List.mem_append_right _ (List.mem_append_left _ (List.mem_of_getElem? (l := tables_1_5) (i := 77) rfl))))))
set_option maxRecDepth 20000 in
theorem zw_123 : z_cwm 123 ∈ lw_tbl := List.mem_append_right _ (List.mem_append_right _ (List.mem_append_right _ (List.mem_append_right _ (List.mem_append_right _ (List.mem_append_left _ (List.mem_of_getElem? (l := tables_1_5) (i := 81) rfl))))))
set_option maxRecDepth 20000 in
theorem zw_124 : z_cwm 124 ∈ lw_tbl := List.mem_append_right _ (List.mem_append_right _ (List.mem_append_right _ (List.mem_append_right _ (List.mem_append_right _ (List.mem_append_left _ (List.mem_of_getElem? (l := tables_1_5) (i := 86) rfl))))))
set_option maxRecDepth 20000 in
theorem zw_125 : z_cwm 125 ∈ lw_tbl := List.mem_append_right _ (List.mem_append_right _ (List.mem_append_right _ (List.mem_append_right _ (List.mem_append_right _ (List.mem_append_left _ (List.mem_of_getElem? (l := tables_1_5) (i := 90) rfl))))))
set_option maxRecDepth 20000 in
theorem zw_126 : z_cwm 126 ∈ lw_tbl := List.mem_append_right _ (List.mem_append_right _ (List.mem_append_right _ (List.mem_append_right _ (List.mem_append_right _ (List.mem_append_left _ (List.mem_of_getElem? (l := tables_1_5) (i := 94) rfl))))))
set_option maxRecDepth 20000 in
theorem zw_127 : z_cwm 127 ∈ lw_tbl := List.mem_append_right _ (List.mem_append_right _ (List.mem_append_right _ (List.mem_append_right _ (List.mem_append_right _ (List.mem_append_left _ (List.mem_of_getElem? (l := tables_1_5) (i := 98) rfl))))))
set_option maxRecDepth 20000 in
theorem zw_128 : z_cwm 128 ∈ lw_tbl := List.mem_append_right _ (List.mem_append_right _ (List.mem_append_right _ (List.mem_append_right _ (List.mem_append_right _ (List.mem_append_left _ (List.mem_of_getElem? (l := tables_1_5) (i := 102) rfl))))))
set_option maxRecDepth 20000 in
theorem zw_129 : z_cwm 129 ∈ lw_tbl := List.mem_append_right _ (List.mem_append_right _ (List.mem_append_right _ (List.mem_append_right _ (List.mem_append_right _ (List.mem_append_left _ (List.mem_of_getElem? (l := tables_1_5) (i := 106) rfl))))))
set_option maxRecDepth 20000 in
theorem zw_130 : z_cwm 130 ∈ lw_tbl := List.mem_append_right _ (List.mem_append_right _ (List.mem_append_right _ (List.mem_append_right _ (List.mem_append_right _ (List.mem_append_left _ (List.mem_of_getElem? (l := tables_1_5) (i := 110) rfl))))))
set_option maxRecDepth 20000 in
theorem zw_131 : z_cwm 131 ∈ lw_tbl := List.mem_append_right _ (List.mem_append_right _ (List.mem_append_right _ (List.mem_append_right _ (List.mem_append_right _ (List.mem_append_left _ (List.mem_of_getElem? (l := tables_1_5) (i := 114) rfl))))))
set_option maxRecDepth 20000 in
theorem zw_132 : z_cwm 132 ∈ lw_tbl := List.mem_append_right _ (List.mem_append_right _ (List.mem_append_right _ (List.mem_append_right _ (List.mem_append_right _ (List.mem_append_left _ (List.mem_of_getElem? (l := tables_1_5) (i := 118) rfl))))))
set_option maxRecDepth 20000 in
theorem zw_133 : z_cwm 133 ∈ lw_tbl := List.mem_append_right _ (List.mem_append_right _ (List.mem_append_right _ (List.mem_append_right _ (List.mem_append_right _ (List.mem_append_left _ (List.mem_of_getElem? (l := tables_1_5) (i := 122) rfl))))))
set_option maxRecDepth 20000 in
theorem zw_134 : z_cwm 134 ∈ lw_tbl := List.mem_append_right _ (List.mem_append_right _ (List.mem_append_right _ (List.mem_append_right _ (List.mem_append_right _ (List.mem_append_left _ (List.mem_of_getElem? (l := tables_1_5) (i := 127) rfl))))))
set_option maxRecDepth 20000 in
theorem zw_135 : z_cwm 135 ∈ lw_tbl := List.mem_append_right _ (List.mem_append_right _ (List.mem_append_right _ (List.mem_append_right _ (List.mem_append_right _ (List.mem_append_right _ (List.mem_append_right _ (List.mem_append_left _ (List.mem_of_getElem? (l := tables_1_7) (i := 28) rfl))))))))
set_option maxRecDepth 20000 in
theorem zw_136 : z_cwm 136 ∈ lw_tbl := List.mem_append_right _ (List.mem_append_right _ (List.mem_append_right _ (List.mem_append_right _ (List.mem_append_right _ (List.mem_append_right _ (List.mem_append_right _ (List.mem_append_left _ (List.mem_of_getElem? (l := tables_1_7) (i := 32) rfl))))))))
set_option maxRecDepth 20000 in
theorem zw_137 : z_cwm 137 ∈ lw_tbl := List.mem_append_right _ (List.mem_append_right _ (List.mem_append_right _ (List.mem_append_right _ (List.mem_append_right _ (List.mem_append_right _ (List.mem_append_right _ (List.mem_append_left _ (List.mem_of_getElem? (l := tables_1_7) (i := 36) rfl))))))))
set_option maxRecDepth 20000 in
theorem zw_138 : z_cwm 138 ∈ lw_tbl := List.mem_append_right _ (List.mem_append_right _ (List.mem_append_right _ (List.mem_append_right _ (List.mem_append_right _ (List.mem_append_right _ (List.mem_append_right _ (List.mem_append_left _ (List.mem_of_getElem? (l := tables_1_7) (i := 40) rfl))))))))
set_option maxRecDepth 20000 in
theorem zw_139 : z_cwm 139 ∈ lw_tbl := List.mem_append_right _ (List.mem_append_right _ (List.mem_append_right _ (List.mem_append_right _ (List.mem_append_right _ (List.mem_append_right _ (List.mem_append_right _ (List.mem_append_left _ (List.mem_of_getElem? (l := tables_1_7) (i := 44) rfl))))))))
set_option maxRecDepth 20000 in
theorem zw_140 : z_cwm 140 ∈ lw_tbl := List.mem_append_right _ (List.mem_append_right _ (List.mem_append_right _ (List.mem_append_right _ (List.mem_append_right _ (List.mem_append_right _ (List.mem_append_right _ (List.mem_append_left _ (List.mem_of_getElem? (l := tables_1_7) (i := 48) rfl))))))))
set_option maxRecDepth 20000 in
theorem zw_141 : z_cwm 141 ∈ lw_tbl := List.mem_append_right _ (List.mem_append_right _ (List.mem_append_right _ (List.mem_append_right _ (List.mem_append_right _ (List.mem_append_right _ (List.mem_append_right _ (List.mem_append_left _ (List.mem_of_getElem? (l := tables_1_7) (i := 52) rfl))))))))
set_option maxRecDepth 20000 in
theorem zw_142 : z_cwm 142 ∈ lw_tbl := List.mem_append_right _ (List.mem_append_right _ (List.mem_append_right _ (List.mem_append_right _ (List.mem_append_right _ (List.mem_append_right _ (List.mem_append_right _ (List.mem_append_left _ (List.mem_of_getElem? (l := tables_1_7) (i := 56) rfl))))))))
set_option maxRecDepth 20000 in
theorem zw_143 : z_cwm 143 ∈ lw_tbl := List.mem_append_right _ (List.mem_append_right _ (List.mem_append_right _ (List.mem_append_right _ (List.mem_append_right _ (List.mem_append_right _ (List.mem_append_right _ (List.mem_append_left _ (List.mem_of_getElem? (l := tables_1_7) (i := 60) rfl))))))))
set_option maxRecDepth 20000 in
theorem zw_144 : z_cwm 144 ∈ lw_tbl := List.mem_append_right _ (List.mem_append_right _ (List.mem_append_right _ (List.mem_append_right _ (List.mem_append_right _ (List.mem_append_right _ (List.mem_append_right _ (List.mem_append_left _ (List.mem_of_getElem? (l := tables_1_7) (i := 63) rfl))))))))
set_option maxRecDepth 20000 in
theorem zw_145 : z_cwm 145 ∈ lw_tbl := List.mem_append_right _ (List.mem_append_right _ (List.mem_append_right _ (List.mem_append_right _ (List.mem_append_right _ (List.mem_append_right _ (List.mem_append_right _ (List.mem_append_left _ (List.mem_of_getElem? (l := tables_1_7) (i := 66) rfl))))))))
set_option maxRecDepth 20000 in
theorem zw_146 : z_cwm 146 ∈ lw_tbl := List.mem_append_right _ (List.mem_append_right _ (List.mem_append_right _ (List.mem_append_right _ (List.mem_append_right _ (List.mem_append_right _ (List.mem_append_right _ (List.mem_append_left _ (List.mem_of_getElem? (l := tables_1_7) (i := 69) rfl))))))))
set_option maxRecDepth 20000 in
theorem zw_147 : z_cwm 147 ∈ lw_tbl := List.mem_append_right _ (List.mem_append_right _ (List.mem_append_right _ (List.mem_append_right _ (List.mem_append_right _ (List.mem_append_right _ (List.mem_append_right _ (List.mem_append_left _ (List.mem_of_getElem? (l := tables_1_7) (i := 73) rfl))))))))
set_option maxRecDepth 20000 in
theorem zw_148 : z_cwm 148 ∈ lw_tbl := List.mem_append_right _ (List.mem_append_right _ (List.mem_append_right _ (List.mem_append_right _ (List.mem_append_right _ (List.mem_append_right _ (List.mem_append_right _ (List.mem_append_left _ (List.mem_of_getElem? (l := tables_1_7) (i := 76) rfl))))))))
set_option maxRecDepth 20000 in
theorem zw_149 : z_cwm 149 ∈ lw_tbl := List.mem_append_right _ (List.mem_append_right _ (List.mem_append_right _ (List.mem_append_right _ (List.mem_append_right _ (List.mem_append_right _ (List.mem_append_right _ (List.mem_append_left _ (List.mem_of_getElem? (l := tables_1_7) (i := 80) rfl))))))))
set_option maxRecDepth 20000 in
theorem zw_150 : z_cwm 150 ∈ lw_tbl := List.mem_append_right _ (List.mem_append_right _ (List.mem_append_right _ (List.mem_append_right _ (List.mem_append_right _ (List.mem_append_right _ (List.mem_append_right _ (List.mem_append_left _ (List.mem_of_getElem? (l := tables_1_7) (i := 84) rfl))))))))
set_option maxRecDepth 20000 in
theorem zw_151 : z_cwm 151 ∈ lw_tbl := List.mem_append_right _ (List.mem_append_right _ (List.mem_append_right _ (List.mem_append_right _ (List.mem_append_right _ (List.mem_append_right _ (List.mem_append_right _ (List.mem_append_left _ (List.mem_of_getElem? (l := tables_1_7) (i := 88) rfl))))))))
set_option maxRecDepth 20000 in
theorem zw_152 : z_cwm 152 ∈ lw_tbl := List.mem_append_right _ (List.mem_append_right _ (List.mem_append_right _ (List.mem_append_right _ (List.mem_append_right _ (List.mem_append_right _ (List.mem_append_right _ (List.mem_append_left _ (List.mem_of_getElem? (l := tables_1_7) (i := 92) rfl))))))))
set_option maxRecDepth 20000 in
theorem zw_153 : z_cwm 153 ∈ lw_tbl := List.mem_append_right _ (List.mem_append_right _ (List.mem_append_right _ (List.mem_append_right _ (List.mem_append_right _ (List.mem_append_right _ (List.mem_append_right _ (List.mem_append_left _ (List.mem_of_getElem? (l := tables_1_7) (i := 96) rfl))))))))
set_option maxRecDepth 20000 in
theorem zw_154 : z_cwm 154 ∈ lw_tbl := List.mem_append_right _ (List.mem_append_right _ (List.mem_append_right _ (List.mem_append_right _ (List.mem_append_right _ (List.mem_append_right _ (List.mem_append_right _ (List.mem_append_left _ (List.mem_of_getElem? (l := tables_1_7) (i := 100) rfl))))))))
set_option maxRecDepth 20000 in
theorem zw_155 : z_cwm 155 ∈ lw_tbl := List.mem_append_right _ (List.mem_append_right _ (List.mem_append_right _ (List.mem_append_right _ (List.mem_append_right _ (List.mem_append_right _ (List.mem_append_right _ (List.mem_append_left _ (List.mem_of_getElem? (l := tables_1_7) (i := 104) rfl))))))))
set_option maxRecDepth 20000 in
theorem zw_156 : z_cwm 156 ∈ lw_tbl := List.mem_append_right _ (List.mem_append_right _ (List.mem_append_right _ (List.mem_append_right _ (List.mem_append_right _ (List.mem_append_right _ (List.mem_append_right _ (List.mem_append_left _ (List.mem_of_getElem? (l := tables_1_7) (i := 108) rfl))))))))
set_option maxRecDepth 20000 in
theorem zw_157 : z_cwm 157 ∈ lw_tbl := List.mem_append_right _ (List.mem_append_right _ (List.mem_append_right _ (List.mem_append_right _ (List.mem_append_right _ (List.mem_append_right _ (List.mem_append_right _ (List.mem_append_left _ (List.mem_of_getElem? (l := tables_1_7) (i := 112) rfl))))))))
set_option maxRecDepth 20000 in
theorem zw_158 : z_cwm 158 ∈ lw_tbl := List.mem_append_right _ (List.mem_append_right _ (List.mem_append_right _ (List.mem_append_right _ (List.mem_append_right _ (List.mem_append_right _ (List.mem_append_right _ (List.mem_append_left _ (List.mem_of_getElem? (l := tables_1_7) (i := 116) rfl))))))))
set_option maxRecDepth 20000 in
theorem zw_159 : z_cwm 159 ∈ lw_tbl := List.mem_append_right _ (List.mem_append_right _ (List.mem_append_right _ (List.mem_append_right _ (List.mem_append_right _ (List.mem_append_right _ (List.mem_append_right _ (List.mem_append_left _ (List.mem_of_getElem? (l := tables_1_7) (i := 120) rfl))))))))
set_option maxRecDepth 20000 in
theorem zw_160 : z_cwm 160 ∈ lw_tbl := List.mem_append_right _ (List.mem_append_right _ (List.mem_append_right _ (List.mem_append_right _ (List.mem_append_right _ (List.mem_append_right _ (List.mem_append_right _ (List.mem_append_left _ (List.mem_of_getElem? (l := tables_1_7) (i := 124) rfl))))))))
set_option maxRecDepth 20000 in
theorem zw_161 : z_cwm 161 ∈ lw_tbl := List.mem_append_right _ (List.mem_append_right _ (List.mem_append_right _ (List.mem_append_right _ (List.mem_append_right _ (List.mem_append_right _ (List.mem_append_right _ (List.mem_append_left _ (List.mem_of_getElem? (l := tables_1_7) (i := 128) rfl))))))))
set_option maxRecDepth 20000 in
theorem zw_162 : z_cwm 162 ∈ lw_tbl := List.mem_append_right _ (List.mem_append_right _ (List.mem_append_right _ (List.mem_append_right _ (List.mem_append_right _ (List.mem_append_right _ (List.mem_append_right _ (List.mem_append_left _ (List.mem_of_getElem? (l := tables_1_7) (i := 132) rfl))))))))
set_option maxRecDepth 20000 in
theorem zw_163 : z_cwm 163 ∈ lw_tbl := List.mem_append_right _ (List.mem_append_right _ (List.mem_append_right _ (List.mem_append_right _ (List.mem_append_right _ (List.mem_append_right _ (List.mem_append_right _ (List.mem_append_left _ (List.mem_of_getElem? (l := tables_1_7) (i := 136) rfl))))))))
set_option maxRecDepth 20000 in
theorem zw_164 : z_cwm 164 ∈ lw_tbl := List.mem_append_right _ (List.mem_append_right _ (List.mem_append_right _ (List.mem_append_right _ (List.mem_append_right _ (List.mem_append_right _ (List.mem_append_right _ (List.mem_append_left _ (List.mem_of_getElem? (l := tables_1_7) (i := 140) rfl))))))))
set_option maxRecDepth 20000 in
theorem zw_165 : z_cwm 165 ∈ lw_tbl := List.mem_append_right _ (List.mem_append_right _ (List.mem_append_right _ (List.mem_append_right _ (List.mem_append_right _ (List.mem_append_right _ (List.mem_append_right _ (List.mem_append_left _ (List.mem_of_getElem? (l := tables_1_7) (i := 144) rfl))))))))
set_option maxRecDepth 20000 in
theorem zw_166 : z_cwm 166 ∈ lw_tbl := List.mem_append_right _ (List.mem_append_right _ (List.mem_append_right _ (List.mem_append_right _ (List.mem_append_right _ (List.mem_append_right _ (List.mem_append_right _ (List.mem_append_left _ (List.mem_of_getElem? (l := tables_1_7) (i := 148) rfl))))))))
set_option maxRecDepth 20000 in
theorem zw_167 : z_cwm 167 ∈ lw_tbl := List.mem_append_right _ (List.mem_append_right _ (List.mem_append_right _ (List.mem_append_right _ (List.mem_append_right _ (List.mem_append_right _ (List.mem_append_right _ (List.mem_append_left _ (List.mem_of_getElem? (l := tables_1_7) (i := 152) rfl))))))))
set_option maxRecDepth 20000 in
theorem zw_168 : z_cwm 168 ∈ lw_tbl := List.mem_append_right _ (List.mem_append_right _ (List.mem_append_right _ (List.mem_append_right _ (List.mem_append_right _ (List.mem_append_right _ (List.mem_append_right _ (List.mem_append_left _ (List.mem_of_getElem? (l := tables_1_7) (i := 156) rfl))))))))
set_option maxRecDepth 20000 in
theorem zw_169 : z_cwm 169 ∈ lw_tbl := List.mem_append_right _ (List.mem_append_right _ (List.mem_append_right _ (List.mem_append_right _ (List.mem_append_right _ (List.mem_append_right _ (List.mem_append_right _ (List.mem_append_left _ (List.mem_of_getElem? (l := tables_1_7) (i := 160) rfl))))))))
set_option maxRecDepth 20000 in
theorem zw_170 : z_cwm 170 ∈ lw_tbl := List.mem_append_right _ (List.mem_append_right _ (List.mem_append_right _ (List.mem_append_right _ (List.mem_append_right _ (List.mem_append_right _ (List.mem_append_right _ (List.mem_append_left _ (List.mem_of_getElem? (l := tables_1_7) (i := 164) rfl))))))))
set_option maxRecDepth 20000 in
theorem zw_171 : z_cwm 171 ∈ lw_tbl := List.mem_append_right _ (List.mem_append_right _ (List.mem_append_right _ (List.mem_append_right _ (List.mem_append_right _ (List.mem_append_right _ (List.mem_append_right _ (List.mem_append_left _ (List.mem_of_getElem? (l := tables_1_7) (i := 168) rfl))))))))
set_option maxRecDepth 20000 in
theorem zw_172 : z_cwm 172 ∈ lw_tbl := List.mem_append_right _ (List.mem_append_right _ (List.mem_append_right _ (List.mem_append_right _ (List.mem_append_right _ (List.mem_append_right _ (List.mem_append_right _ (List.mem_append_left _ (List.mem_of_getElem? (l := tables_1_7) (i := 172) rfl))))))))
set_option maxRecDepth 20000 in
theorem zw_173 : z_cwm 173 ∈ lw_tbl := List.mem_append_right _ (List.mem_append_right _ (List.mem_append_right _ (List.mem_append_right _ (List.mem_append_right _ (List.mem_append_right _ (List.mem_append_right _ (List.mem_append_left _ (List.mem_of_getElem? (l := tables_1_7) (i := 176) rfl))))))))
set_option maxRecDepth 20000 in
theorem zw_174 : z_cwm 174 ∈ lw_tbl := List.mem_append_right _ (List.mem_append_right _ (List.mem_append_right _ (List.mem_append_right _ (List.mem_append_right _ (List.mem_append_right _ (List.mem_append_right _ (List.mem_append_left _ (List.mem_of_getElem? (l := tables_1_7) (i := 180) rfl))))))))
set_option maxRecDepth 20000 in
theorem zw_175 : z_cwm 175 ∈ lw_tbl := List.mem_append_right _ (List.mem_append_right _ (List.mem_append_right _ (List.mem_append_right _ (List.mem_append_right _ (List.mem_append_right _ (List.mem_append_right _ (List.mem_append_left _ (List.mem_of_getElem? (l := tables_1_7) (i := 184) rfl))))))))
set_option maxRecDepth 20000 in
theorem zw_176 : z_cwm 176 ∈ lw_tbl := List.mem_append_right _ (List.mem_append_right _ (List.mem_append_right _ (List.mem_append_right _ (List.mem_append_right _ (List.mem_append_right _ (List.mem_append_right _ (List.mem_append_left _ (List.mem_of_getElem? (l := tables_1_7) (i := 188) rfl))))))))
set_option maxRecDepth 20000 in
theorem zw_177 : z_cwm 177 ∈ lw_tbl := List.mem_append_right _ (List.mem_append_right _ (List.mem_append_right _ (List.mem_append_right _ (List.mem_append_right _ (List.mem_append_right _ (List.mem_append_right _ (List.mem_append_left _ (List.mem_of_getElem? (l := tables_1_7) (i := 192) rfl))))))))
set_option maxRecDepth 20000 in
theorem zw_178 : z_cwm 178 ∈ lw_tbl := List.mem_append_right _ (List.mem_append_right _ (List.mem_append_right _ (List.mem_append_right _ (List.mem_append_right _ (List.mem_append_right _ (List.mem_append_right _ (List.mem_append_left _ (List.mem_of_getElem? (l := tables_1_7) (i := 196) rfl))))))))
set_option maxRecDepth 20000 in
theorem zw_179 : z_cwm 179 ∈ lw_tbl := List.mem_append_right _ (List.mem_append_right _ (List.mem_append_right _ (List.mem_append_right _ (List.mem_append_right _ (List.mem_append_right _ (List.mem_append_right _ (List.mem_append_left _ (List.mem_of_getElem? (l := tables_1_7) (i := 200) rfl))))))))
set_option maxRecDepth 20000 in
theorem zw_180 : z_cwm 180 ∈ lw_tbl := List.mem_append_right _ (List.mem_append_right _ (List.mem_append_right _ (List.mem_append_right _ (List.mem_append_right _ (List.mem_append_right _ (List.mem_append_right _ (List.mem_append_left _ (List.mem_of_getElem? (l := tables_1_7) (i := 204) rfl))))))))
set_option maxRecDepth 20000 in
theorem zw_181 : z_cwm 181 ∈ lw_tbl := List.mem_append_right _ (List.mem_append_right _ (List.mem_append_right _ (List.mem_append_right _ (List.mem_append_right _ (List.mem_append_right _ (List.mem_append_right _ (List.mem_append_left _ (List.mem_of_getElem? (l := tables_1_7) (i := 208) rfl))))))))
set_option maxRecDepth 20000 in
theorem zw_182 : z_cwm 182 ∈ lw_tbl := List.mem_append_right _ (List.mem_append_right _ (List.mem_append_right _ (List.mem_append_right _ (List.mem_append_right _ (List.mem_append_right _ (List.mem_append_right _ (List.mem_append_left _ (List.mem_of_getElem? (l := tables_1_7) (i := 212) rfl))))))))
set_option maxRecDepth 20000 in
theorem zw_183 : z_cwm 183 ∈ lw_tbl := List.mem_append_right _ (List.mem_append_right _ (List.mem_append_right _ (List.mem_append_right _ (List.mem_append_right _ (List.mem_append_right _ (List.mem_append_right _ (List.mem_append_left _ (List.mem_of_getElem? (l := tables_1_7) (i := 216) rfl))))))))
set_option maxRecDepth 20000 in
theorem zw_184 : z_cwm 184 ∈ lw_tbl := List.mem_append_right _ (List.mem_append_right _ (List.mem_append_right _ (List.mem_append_right _ (List.mem_append_right _ (List.mem_append_right _ (List.mem_append_right _ (List.mem_append_left _ (List.mem_of_getElem? (l := tables_1_7) (i := 220) rfl))))))))
set_option maxRecDepth 20000 in
theorem zw_185 : z_cwm 185 ∈ lw_tbl := List.mem_append_right _ (List.mem_append_right _ (List.mem_append_right _ (List.mem_append_right _ (List.mem_append_right _ (List.mem_append_right _ (List.mem_append_right _ (List.mem_append_left _ (List.mem_of_getElem? (l := tables_1_7) (i := 224) rfl))))))))
set_option maxRecDepth 20000 in
theorem zw_186 : z_cwm 186 ∈ lw_tbl := List.mem_append_right _ (List.mem_append_right _ (List.mem_append_right _ (List.mem_append_right _ (List.mem_append_right _ (List.mem_append_right _ (List.mem_append_right _ (List.mem_append_left _ (List.mem_of_getElem? (l := tables_1_7) (i := 228) rfl))))))))
set_option maxRecDepth 20000 in
theorem zw_187 : z_cwm 187 ∈ lw_tbl := List.mem_append_right _ (List.mem_append_right _ (List.mem_append_right _ (List.mem_append_right _ (List.mem_append_right _ (List.mem_append_right _ (List.mem_append_right _ (List.mem_append_left _ (List.mem_of_getElem? (l := tables_1_7) (i := 232) rfl))))))))
set_option maxRecDepth 20000 in
theorem zw_188 : z_cwm 188 ∈ lw_tbl := List.mem_append_right _ (List.mem_append_right _ (List.mem_append_right _ (List.mem_append_right _ (List.mem_append_right _ (List.mem_append_right _ (List.mem_append_right _ (List.mem_append_left _ (List.mem_of_getElem? (l := tables_1_7) (i := 236) rfl))))))))
set_option maxRecDepth 20000 in
theorem zw_189 : z_cwm 189 ∈ lw_tbl := List.mem_append_right _ (List.mem_append_right _ (List.mem_append_right _ (List.mem_append_right _ (List.mem_append_right _ (List.mem_append_right _ (List.mem_append_right _ (List.mem_append_right _ (List.mem_of_getElem? (l := tables_1_8) (i := 0) rfl))))))))
set_option maxRecDepth 20000 in
theorem zw_190 : z_cwm 190 ∈ lw_tbl := List.mem_append_right _ (List.mem_append_right _ (List.mem_append_right _ (List.mem_append_right _ (List.mem_append_right _ (List.mem_append_right _ (List.mem_append_right _ (List.mem_append_right _ (List.mem_of_getElem? (l := tables_1_8) (i := 4) rfl))))))))
set_option maxRecDepth 20000 in
theorem zw_191 : z_cwm 191 ∈ lw_tbl := List.mem_append_right _ (List.mem_append_right _ (List.mem_append_right _ (List.mem_append_right _ (List.mem_append_right _ (List.mem_append_right _ (List.mem_append_right _ (List.mem_append_right _ (List.mem_of_getElem? (l := tables_1_8) (i := 8) rfl))))))))
set_option maxRecDepth 20000 in
theorem zw_192 : z_cwm 192 ∈ lw_tbl := List.mem_append_right _ (List.mem_append_right _ (List.mem_append_right _ (List.mem_append_right _ (List.mem_append_right _ (List.mem_append_right _ (List.mem_append_right _ (List.mem_append_right _ (List.mem_of_getElem? (l := tables_1_8) (i := 12) rfl))))))))
set_option maxRecDepth 20000 in
theorem zw_193 : z_cwm 193 ∈ lw_tbl := List.mem_append_right _ (List.mem_append_right _ (List.mem_append_right _ (List.mem_append_right _ (List.mem_append_right _ (List.mem_append_right _ (List.mem_append_right _ (List.mem_append_right _ (List.mem_of_getElem? (l := tables_1_8) (i := 16) rfl))))))))
set_option maxRecDepth 20000 in
theorem zw_194 : z_cwm 194 ∈ lw_tbl := List.mem_append_right _ (List.mem_append_right _ (List.mem_append_right _ (List.mem_append_right _ (List.mem_append_right _ (List.mem_append_right _ (List.mem_append_right _ (List.mem_append_right _ (List.mem_of_getElem? (l := tables_1_8) (i := 20) rfl))))))))
set_option maxRecDepth 20000 in
theorem zw_195 : z_cwm 195 ∈ lw_tbl := List.mem_append_right _ (List.mem_append_right _ (List.mem_append_right _ (List.mem_append_right _ (List.mem_append_right _ (List.mem_append_right _ (List.mem_append_right _ (List.mem_append_right _ (List.mem_of_getElem? (l := tables_1_8) (i := 24) rfl))))))))
set_option maxRecDepth 20000 in
theorem zw_196 : z_cwm 196 ∈ lw_tbl := List.mem_append_right _ (List.mem_append_right _ (List.mem_append_right _ (List.mem_append_right _ (List.mem_append_right _ (List.mem_append_right _ (List.mem_append_right _ (List.mem_append_right _ (List.mem_of_getElem? (l := tables_1_8) (i := 28) rfl))))))))
set_option maxRecDepth 20000 in
theorem zw_197 : z_cwm 197 ∈ lw_tbl := List.mem_append_right _ (List.mem_append_right _ (List.mem_append_right _ (List.mem_append_right _ (List.mem_append_right _ (List.mem_append_right _ (List.mem_append_right _ (List.mem_append_right _ (List.mem_of_getElem? (l := tables_1_8) (i := 32) rfl))))))))
set_option maxRecDepth 20000 in
theorem zw_198 : z_cwm 198 ∈ lw_tbl := List.mem_append_right _ (List.mem_append_right _ (List.mem_append_right _ (List.mem_append_right _ (List.mem_append_right _ (List.mem_append_right _ (List.mem_append_right _ (List.mem_append_right _ (List.mem_of_getElem? (l := tables_1_8) (i := 36) rfl))))))))
set_option maxRecDepth 20000 in
theorem zw_199 : z_cwm 199 ∈ lw_tbl := List.mem_append_right _ (List.mem_append_right _ (List.mem_append_right _ (List.mem_append_right _ (List.mem_append_right _ (List.mem_append_right _ (List.mem_append_right _ (List.mem_append_right _ (List.mem_of_getElem? (l := tables_1_8) (i := 41) rfl))))))))
set_option maxRecDepth 20000 in
theorem zw_200 : z_cwm 200 ∈ lw_tbl := List.mem_append_right _ (List.mem_append_right _ (List.mem_append_right _ (List.mem_append_right _ (List.mem_append_right _ (List.mem_append_right _ (List.mem_append_right _ (List.mem_append_right _ (List.mem_of_getElem? (l := tables_1_8) (i := 45) rfl))))))))
set_option maxRecDepth 20000 in
theorem zw_201 : z_cwm 201 ∈ lw_tbl := List.mem_append_right _ (List.mem_append_right _ (List.mem_append_right _ (List.mem_append_right _ (List.mem_append_right _ (List.mem_append_right _ (List.mem_append_right _ (List.mem_append_right _ (List.mem_of_getElem? (l := tables_1_8) (i := 49) rfl))))))))
set_option maxRecDepth 20000 in
theorem zw_202 : z_cwm 202 ∈ lw_tbl := List.mem_append_right _ (List.mem_append_right _ (List.mem_append_right _ (List.mem_append_right _ (List.mem_append_right _ (List.mem_append_right _ (List.mem_append_right _ (List.mem_append_right _ (List.mem_of_getElem? (l := tables_1_8) (i := 53) rfl))))))))
set_option maxRecDepth 20000 in
theorem zw_203 : z_cwm 203 ∈ lw_tbl := List.mem_append_right _ (List.mem_append_right _ (List.mem_append_right _ (List.mem_append_right _ (List.mem_append_right _ (List.mem_append_right _ (List.mem_append_right _ (List.mem_append_right _ (List.mem_of_getElem? (l := tables_1_8) (i := 57) rfl))))))))
set_option maxRecDepth 20000 in
theorem zw_204 : z_cwm 204 ∈ lw_tbl := List.mem_append_right _ (List.mem_append_right _ (List.mem_append_right _ (List.mem_append_right _ (List.mem_append_right _ (List.mem_append_right _ (List.mem_append_right _ (List.mem_append_right _ (List.mem_of_getElem? (l := tables_1_8) (i := 61) rfl))))))))
set_option maxRecDepth 20000 in
theorem zw_205 : z_cwm 205 ∈ lw_tbl := List.mem_append_right _ (List.mem_append_right _ (List.mem_append_right _ (List.mem_append_right _ (List.mem_append_right _ (List.mem_append_right _ (List.mem_append_right _ (List.mem_append_right _ (List.mem_of_getElem? (l := tables_1_8) (i := 65) rfl))))))))
set_option maxRecDepth 20000 in
theorem zw_206 : z_cwm 206 ∈ lw_tbl := List.mem_append_right _ (List.mem_append_right _ (List.mem_append_right _ (List.mem_append_right _ (List.mem_append_right _ (List.mem_append_right _ (List.mem_append_right _ (List.mem_append_right _ (List.mem_of_getElem? (l := tables_1_8) (i := 69) rfl))))))))
set_option maxRecDepth 20000 in
theorem zw_207 : z_cwm 207 ∈ lw_tbl := List.mem_append_right _ (List.mem_append_right _ (List.mem_append_right _ (List.mem_append_right _ (List.mem_append_right _ (List.mem_append_right _ (List.mem_append_right _ (List.mem_append_right _ (List.mem_of_getElem? (l := tables_1_8) (i := 73) rfl))))))))
set_option maxRecDepth 20000 in
theorem zw_208 : z_cwm 208 ∈ lw_tbl := List.mem_append_right _ (List.mem_append_right _ (List.mem_append_right _ (List.mem_append_right _ (List.mem_append_right _ (List.mem_append_right _ (List.mem_append_right _ (List.mem_append_right _ (List.mem_of_getElem? (l := tables_1_8) (i := 77) rfl))))))))
set_option maxRecDepth 20000 in
theorem zw_209 : z_cwm 209 ∈ lw_tbl := List.mem_append_right _ (List.mem_append_right _ (List.mem_append_right _ (List.mem_append_right _ (List.mem_append_right _ (List.mem_append_right _ (List.mem_append_right _ (List.mem_append_right _ (List.mem_of_getElem? (l := tables_1_8) (i := 81) rfl))))))))
set_option maxRecDepth 20000 in
theorem zw_210 : z_cwm 210 ∈ lw_tbl := List.mem_append_right _ (List.mem_append_right _ (List.mem_append_right _ (List.mem_append_right _ (List.mem_append_right _ (List.mem_append_right _ (List.mem_append_right _ (List.mem_append_right _ (List.mem_of_getElem? (l := tables_1_8) (i := 85) rfl))))))))
set_option maxRecDepth 20000 in
theorem zw_211 : z_cwm 211 ∈ lw_tbl := List.mem_append_right _ (List.mem_append_right _ (List.mem_append_right _ (List.mem_append_right _ (List.mem_append_right _ (List.mem_append_right _ (List.mem_append_right _ (List.mem_append_right _ (List.mem_of_getElem? (l := tables_1_8) (i := 89) rfl))))))))
set_option maxRecDepth 20000 in
theorem zw_212 : z_cwm 212 ∈ lw_tbl := List.mem_append_right _ (List.mem_append_right _ (List.mem_append_right _ (List.mem_append_right _ (List.mem_append_right _ (List.mem_append_right _ (List.mem_append_right _ (List.mem_append_right _ (List.mem_of_getElem? (l := tables_1_8) (i := 93) rfl))))))))
set_option maxRecDepth 20000 in
theorem zw_213 : z_cwm 213 ∈ lw_tbl := List.mem_append_right _ (List.mem_append_right _ (List.mem_append_right _ (List.mem_append_right _ (List.mem_append_right _ (List.mem_append_right _ (List.mem_append_right _ (List.mem_append_right _ (List.mem_of_getElem? (l := tables_1_8) (i := 97) rfl))))))))
set_option maxRecDepth 20000 in
theorem zw_214 : z_cwm 214 ∈ lw_tbl := List.mem_append_right _ (List.mem_append_right _ (List.mem_append_right _ (List.mem_append_right _ (List.mem_append_right _ (List.mem_append_right _ (List.mem_append_right _ (List.mem_append_right _ (List.mem_of_getElem? (l := tables_1_8) (i := 102) rfl))))))))
set_option maxRecDepth 20000 in
theorem zw_215 : z_cwm 215 ∈ lw_tbl := List.mem_append_right _ (List.mem_append_right _ (List.mem_append_right _ (List.mem_append_right _ (List.mem_append_right _ (List.mem_append_right _ (List.mem_append_right _ (List.mem_append_right _ (List.mem_of_getElem? (l := tables_1_8) (i := 105) rfl))))))))
set_option maxRecDepth 20000 in
theorem zw_216 : z_cwm 216 ∈ lw_tbl := List.mem_append_right _ (List.mem_append_right _ (List.mem_append_right _ (List.mem_append_right _ (List.mem_append_right _ (List.mem_append_right _ (List.mem_append_right _ (List.mem_append_right _ (List.mem_of_getElem? (l := tables_1_8) (i := 109) rfl))))))))
set_option maxRecDepth 20000 in
theorem zw_217 : z_cwm 217 ∈ lw_tbl := List.mem_append_right _ (List.mem_append_right _ (List.mem_append_right _ (List.mem_append_right _ (List.mem_append_right _ (List.mem_append_right _ (List.mem_append_right _ (List.mem_append_right _ (List.mem_of_getElem? (l := tables_1_8) (i := 113) rfl))))))))
set_option maxRecDepth 20000 in
theorem zw_218 : z_cwm 218 ∈ lw_tbl := List.mem_append_right _ (List.mem_append_right _ (List.mem_append_right _ (List.mem_append_right _ (List.mem_append_right _ (List.mem_append_right _ (List.mem_append_right _ (List.mem_append_right _ (List.mem_of_getElem? (l := tables_1_8) (i := 117) rfl))))))))
set_option maxRecDepth 20000 in
theorem zw_219 : z_cwm 219 ∈ lw_tbl := List.mem_append_right _ (List.mem_append_right _ (List.mem_append_right _ (List.mem_append_right _ (List.mem_append_right _ (List.mem_append_right _ (List.mem_append_right _ (List.mem_append_right _ (List.mem_of_getElem? (l := tables_1_8) (i := 120) rfl))))))))
set_option maxRecDepth 20000 in
theorem zw_220 : z_cwm 220 ∈ lw_tbl := List.mem_append_right _ (List.mem_append_right _ (List.mem_append_right _ (List.mem_append_right _ (List.mem_append_right _ (List.mem_append_right _ (List.mem_append_right _ (List.mem_append_right _ (List.mem_of_getElem? (l := tables_1_8) (i := 124) rfl))))))))
set_option maxRecDepth 20000 in
theorem zw_0 : Cond.code Lib.objectInit ⟨#[0xb1]⟩ 1 none ∈ lw_tbl := List.mem_append_right _ (List.mem_append_left _ (List.mem_of_getElem? (l := tables_1_1) (i := 33) rfl))
set_option maxRecDepth 20000 in
theorem zw_o : Cond.code z_yo prog_16_method_2_code 1 (some .int) ∈ lw_tbl := List.mem_append_right _ (List.mem_append_right _ (List.mem_append_right _ (List.mem_append_right _ (List.mem_append_left _ (List.mem_of_getElem? (l := tables_1_4) (i := 18) rfl)))))
set_option maxRecDepth 20000 in
theorem zw_max : Cond.code Lib.Math.max.name Lib.Math.max.code 2 (some .int) ∈ lw_tbl := List.mem_append_right _ (List.mem_append_right _ (List.mem_append_right _ (List.mem_append_left _ (List.mem_of_getElem? (l := tables_1_3) (i := 230) rfl))))
set_option maxRecDepth 20000 in
theorem zw_min : Cond.code Lib.Math.min.name Lib.Math.min.code 2 (some .int) ∈ lw_tbl := List.mem_append_right _ (List.mem_append_right _ (List.mem_append_right _ (List.mem_append_right _ (List.mem_append_left _ (List.mem_of_getElem? (l := tables_1_4) (i := 3) rfl)))))
def z_co : ByteArray := prog_16_method_2_code
def z_wc : List Cond := Cond.code Lib.objectInit ⟨#[0xb1]⟩ 1 none :: Cond.code z_yo z_co 1 (some .int) :: Cond.code Lib.Math.max.name Lib.Math.max.code 2 (some .int) :: Cond.code Lib.Math.min.name Lib.Math.min.code 2 (some .int) :: (List.range 220).map (fun k => z_cwm (k + 1))
def z_wN : List Cond := [(Jvm.Cond.methodLinkNest "FiberWorks$Types" (31 : Nat) ({ cls := "FiberWorks", name := "atLeast", desc := "([II)[I" } : Jvm.MethodName) "FiberWorks"), (Jvm.Cond.methodLinkNest "FiberWorks$Code" (49 : Nat) ({ cls := "FiberWorks", name := "atLeast", desc := "([II)[I" } : Jvm.MethodName) "FiberWorks"), (Jvm.Cond.methodLinkNest "FiberWorks$Machine" (135 : Nat) ({ cls := "FiberWorks", name := "atLeast", desc := "([II)[I" } : Jvm.MethodName) "FiberWorks")]
def z_ws : List Cond := z_wN ++ (z_wn ++ z_wc)
theorem z_cw_good (y : MethodName) (cc : ByteArray) (m : Nat) (r : Option FieldType) (hh : List (Nat × Nat × Nat × Nat)) : ((z_cw y cc m r hh).onTables && (z_cw y cc m r hh).keeps) = true := by
  cases hh <;> rfl
theorem zw_all : ∀ k, k < 220 → z_cwm (k + 1) ∈ lw_tbl := by
  intro k hk
  match k, hk with
  | 0, _ => exact zw_1
  | 1, _ => exact zw_2
  | 2, _ => exact zw_3
  | 3, _ => exact zw_4
  | 4, _ => exact zw_5
  | 5, _ => exact zw_6
  | 6, _ => exact zw_7
  | 7, _ => exact zw_8
  | 8, _ => exact zw_9
  | 9, _ => exact zw_10
  | 10, _ => exact zw_11
  | 11, _ => exact zw_12
  | 12, _ => exact zw_13
  | 13, _ => exact zw_14
  | 14, _ => exact zw_15
  | 15, _ => exact zw_16
  | 16, _ => exact zw_17
  | 17, _ => exact zw_18
  | 18, _ => exact zw_19
  | 19, _ => exact zw_20
  | 20, _ => exact zw_21
  | 21, _ => exact zw_22
  | 22, _ => exact zw_23
  | 23, _ => exact zw_24
  | 24, _ => exact zw_25
  | 25, _ => exact zw_26
  | 26, _ => exact zw_27
  | 27, _ => exact zw_28
  | 28, _ => exact zw_29
  | 29, _ => exact zw_30
  | 30, _ => exact zw_31
  | 31, _ => exact zw_32
  | 32, _ => exact zw_33
  | 33, _ => exact zw_34
  | 34, _ => exact zw_35
  | 35, _ => exact zw_36
  | 36, _ => exact zw_37
  | 37, _ => exact zw_38
  | 38, _ => exact zw_39
  | 39, _ => exact zw_40
  | 40, _ => exact zw_41
  | 41, _ => exact zw_42
  | 42, _ => exact zw_43
  | 43, _ => exact zw_44
  | 44, _ => exact zw_45
  | 45, _ => exact zw_46
  | 46, _ => exact zw_47
  | 47, _ => exact zw_48
  | 48, _ => exact zw_49
  | 49, _ => exact zw_50
  | 50, _ => exact zw_51
  | 51, _ => exact zw_52
  | 52, _ => exact zw_53
  | 53, _ => exact zw_54
  | 54, _ => exact zw_55
  | 55, _ => exact zw_56
  | 56, _ => exact zw_57
  | 57, _ => exact zw_58
  | 58, _ => exact zw_59
  | 59, _ => exact zw_60
  | 60, _ => exact zw_61
  | 61, _ => exact zw_62
  | 62, _ => exact zw_63
  | 63, _ => exact zw_64
  | 64, _ => exact zw_65
  | 65, _ => exact zw_66
  | 66, _ => exact zw_67
  | 67, _ => exact zw_68
  | 68, _ => exact zw_69
  | 69, _ => exact zw_70
  | 70, _ => exact zw_71
  | 71, _ => exact zw_72
  | 72, _ => exact zw_73
  | 73, _ => exact zw_74
  | 74, _ => exact zw_75
  | 75, _ => exact zw_76
  | 76, _ => exact zw_77
  | 77, _ => exact zw_78
  | 78, _ => exact zw_79
  | 79, _ => exact zw_80
  | 80, _ => exact zw_81
  | 81, _ => exact zw_82
  | 82, _ => exact zw_83
  | 83, _ => exact zw_84
  | 84, _ => exact zw_85
  | 85, _ => exact zw_86
  | 86, _ => exact zw_87
  | 87, _ => exact zw_88
  | 88, _ => exact zw_89
  | 89, _ => exact zw_90
  | 90, _ => exact zw_91
  | 91, _ => exact zw_92
  | 92, _ => exact zw_93
  | 93, _ => exact zw_94
  | 94, _ => exact zw_95
  | 95, _ => exact zw_96
  | 96, _ => exact zw_97
  | 97, _ => exact zw_98
  | 98, _ => exact zw_99
  | 99, _ => exact zw_100
  | 100, _ => exact zw_101
  | 101, _ => exact zw_102
  | 102, _ => exact zw_103
  | 103, _ => exact zw_104
  | 104, _ => exact zw_105
  | 105, _ => exact zw_106
  | 106, _ => exact zw_107
  | 107, _ => exact zw_108
  | 108, _ => exact zw_109
  | 109, _ => exact zw_110
  | 110, _ => exact zw_111
  | 111, _ => exact zw_112
  | 112, _ => exact zw_113
  | 113, _ => exact zw_114
  | 114, _ => exact zw_115
  | 115, _ => exact zw_116
  | 116, _ => exact zw_117
  | 117, _ => exact zw_118
  | 118, _ => exact zw_119
  | 119, _ => exact zw_120
  | 120, _ => exact zw_121
  | 121, _ => exact zw_122
  | 122, _ => exact zw_123
  | 123, _ => exact zw_124
  | 124, _ => exact zw_125
  | 125, _ => exact zw_126
  | 126, _ => exact zw_127
  | 127, _ => exact zw_128
  | 128, _ => exact zw_129
  | 129, _ => exact zw_130
  | 130, _ => exact zw_131
  | 131, _ => exact zw_132
  | 132, _ => exact zw_133
  | 133, _ => exact zw_134
  | 134, _ => exact zw_135
  | 135, _ => exact zw_136
  | 136, _ => exact zw_137
  | 137, _ => exact zw_138
  | 138, _ => exact zw_139
  | 139, _ => exact zw_140
  | 140, _ => exact zw_141
  | 141, _ => exact zw_142
  | 142, _ => exact zw_143
  | 143, _ => exact zw_144
  | 144, _ => exact zw_145
  | 145, _ => exact zw_146
  | 146, _ => exact zw_147
  | 147, _ => exact zw_148
  | 148, _ => exact zw_149
  | 149, _ => exact zw_150
  | 150, _ => exact zw_151
  | 151, _ => exact zw_152
  | 152, _ => exact zw_153
  | 153, _ => exact zw_154
  | 154, _ => exact zw_155
  | 155, _ => exact zw_156
  | 156, _ => exact zw_157
  | 157, _ => exact zw_158
  | 158, _ => exact zw_159
  | 159, _ => exact zw_160
  | 160, _ => exact zw_161
  | 161, _ => exact zw_162
  | 162, _ => exact zw_163
  | 163, _ => exact zw_164
  | 164, _ => exact zw_165
  | 165, _ => exact zw_166
  | 166, _ => exact zw_167
  | 167, _ => exact zw_168
  | 168, _ => exact zw_169
  | 169, _ => exact zw_170
  | 170, _ => exact zw_171
  | 171, _ => exact zw_172
  | 172, _ => exact zw_173
  | 173, _ => exact zw_174
  | 174, _ => exact zw_175
  | 175, _ => exact zw_176
  | 176, _ => exact zw_177
  | 177, _ => exact zw_178
  | 178, _ => exact zw_179
  | 179, _ => exact zw_180
  | 180, _ => exact zw_181
  | 181, _ => exact zw_182
  | 182, _ => exact zw_183
  | 183, _ => exact zw_184
  | 184, _ => exact zw_185
  | 185, _ => exact zw_186
  | 186, _ => exact zw_187
  | 187, _ => exact zw_188
  | 188, _ => exact zw_189
  | 189, _ => exact zw_190
  | 190, _ => exact zw_191
  | 191, _ => exact zw_192
  | 192, _ => exact zw_193
  | 193, _ => exact zw_194
  | 194, _ => exact zw_195
  | 195, _ => exact zw_196
  | 196, _ => exact zw_197
  | 197, _ => exact zw_198
  | 198, _ => exact zw_199
  | 199, _ => exact zw_200
  | 200, _ => exact zw_201
  | 201, _ => exact zw_202
  | 202, _ => exact zw_203
  | 203, _ => exact zw_204
  | 204, _ => exact zw_205
  | 205, _ => exact zw_206
  | 206, _ => exact zw_207
  | 207, _ => exact zw_208
  | 208, _ => exact zw_209
  | 209, _ => exact zw_210
  | 210, _ => exact zw_211
  | 211, _ => exact zw_212
  | 212, _ => exact zw_213
  | 213, _ => exact zw_214
  | 214, _ => exact zw_215
  | 215, _ => exact zw_216
  | 216, _ => exact zw_217
  | 217, _ => exact zw_218
  | 218, _ => exact zw_219
  | 219, _ => exact zw_220
  | n + 220, hk => omega
theorem z_wsg : GoodIn lw_tbl (z_wn ++ z_wc) := by
  refine z_gia z_wg (fun w hw => ?_)
  rcases List.mem_cons.mp hw with rfl | hw
  · exact ⟨zw_0, Or.inl rfl⟩
  rcases List.mem_cons.mp hw with rfl | hw
  · exact ⟨zw_o, Or.inl rfl⟩
  rcases List.mem_cons.mp hw with rfl | hw
  · exact ⟨zw_max, Or.inl rfl⟩
  rcases List.mem_cons.mp hw with rfl | hw
  · exact ⟨zw_min, Or.inl rfl⟩
  · obtain ⟨k, hk, rfl⟩ := List.mem_map.mp hw
    exact ⟨zw_all k (List.mem_range.mp hk), Or.inl (z_cw_good _ _ _ _ _)⟩
theorem z_wNi : ∀ w ∈ z_wN, w ∈ lw_tbl := by
  intro w hw
  refine List.mem_append_right _ ?_
  revert w
  decide +kernel
theorem z_wNg : ∀ w ∈ z_wN, ∃ a i x h, w = Cond.methodLinkNest a i x h := by
  intro w hw
  simp only [z_wN, List.mem_cons, List.not_mem_nil, or_false] at hw
  rcases hw with rfl | rfl | rfl <;> exact ⟨_, _, _, _, rfl⟩
theorem z_win : ∀ w ∈ z_ws, w ∈ lw_tbl := by
  intro w hw
  rcases List.mem_append.mp hw with h | h
  · exact z_wNi w h
  · exact (z_wsg w h).1
theorem z_gd : ∀ w ∈ z_ws, z_good w := by
  intro w hw
  rcases List.mem_append.mp hw with h | h
  · exact Or.inr (z_wNg w h)
  · exact Or.inl (z_wsg w h).2
theorem z_cw_in : ∀ mi, 0 < mi → mi < 221 → z_cw (z_my mi) (z_mb mi) (z_pg.2.1 mi) (z_pg.2.2.1 mi) (z_pg.2.2.2.1 mi) ∈ z_ws := by
  intro mi h1 h2
  refine List.mem_append_right _ (List.mem_append_right _ (List.mem_cons_of_mem _ (List.mem_cons_of_mem _ (List.mem_cons_of_mem _ (List.mem_cons_of_mem _ (List.mem_map.mpr ⟨mi - 1, List.mem_range.mpr (by omega), ?_⟩))))))
  show z_cwm (mi - 1 + 1) = _
  rw [Nat.sub_add_cancel h1]
  rfl
