/-! The tables are checked. -/
theorem z_aap {f : z_R → Bool} {a b : List z_R} (ha : a.all f = true) (hb : b.all f = true) : (a ++ b).all f = true := by
  rw [List.all_append, ha, hb]
  rfl
theorem zc_0_0 : zr_0_0.all (z_chkR z_my z_mb z_mk 64 z_cl z_tyl z_stl z_ws 0) = true := by decide +kernel
theorem zc_0_1 : zr_0_1.all (z_chkR z_my z_mb z_mk 64 z_cl z_tyl z_stl z_ws 0) = true := by decide +kernel
theorem zc_0_2 : zr_0_2.all (z_chkR z_my z_mb z_mk 64 z_cl z_tyl z_stl z_ws 0) = true := by decide +kernel
theorem zc_0_3 : zr_0_3.all (z_chkR z_my z_mb z_mk 64 z_cl z_tyl z_stl z_ws 0) = true := by decide +kernel
theorem zc_0_4 : zr_0_4.all (z_chkR z_my z_mb z_mk 64 z_cl z_tyl z_stl z_ws 0) = true := by decide +kernel
theorem zc_0 : zr_0.all (z_chkR z_my z_mb z_mk 64 z_cl z_tyl z_stl z_ws 0) = true := z_aap zc_0_0 (z_aap zc_0_1 (z_aap zc_0_2 (z_aap zc_0_3 (zc_0_4))))
theorem zc_1_0 : zr_1_0.all (z_chkR z_my z_mb z_mk 64 z_cl z_tyl z_stl z_ws 1) = true := by decide +kernel
theorem zc_1_1 : zr_1_1.all (z_chkR z_my z_mb z_mk 64 z_cl z_tyl z_stl z_ws 1) = true := by decide +kernel
theorem zc_1 : zr_1.all (z_chkR z_my z_mb z_mk 64 z_cl z_tyl z_stl z_ws 1) = true := z_aap zc_1_0 (zc_1_1)
theorem zc_2 : zr_2.all (z_chkR z_my z_mb z_mk 64 z_cl z_tyl z_stl z_ws 2) = true := by decide +kernel
theorem zc_3 : zr_3.all (z_chkR z_my z_mb z_mk 64 z_cl z_tyl z_stl z_ws 3) = true := by decide +kernel
theorem zc_4 : zr_4.all (z_chkR z_my z_mb z_mk 64 z_cl z_tyl z_stl z_ws 4) = true := by decide +kernel
theorem zc_5 : zr_5.all (z_chkR z_my z_mb z_mk 64 z_cl z_tyl z_stl z_ws 5) = true := by decide +kernel
theorem zc_6 : zr_6.all (z_chkR z_my z_mb z_mk 64 z_cl z_tyl z_stl z_ws 6) = true := by decide +kernel
theorem zc_7 : zr_7.all (z_chkR z_my z_mb z_mk 64 z_cl z_tyl z_stl z_ws 7) = true := by decide +kernel
theorem zc_8 : zr_8.all (z_chkR z_my z_mb z_mk 64 z_cl z_tyl z_stl z_ws 8) = true := by decide +kernel
theorem zc_9 : zr_9.all (z_chkR z_my z_mb z_mk 64 z_cl z_tyl z_stl z_ws 9) = true := by decide +kernel
theorem zc_10 : zr_10.all (z_chkR z_my z_mb z_mk 64 z_cl z_tyl z_stl z_ws 10) = true := by decide +kernel
theorem zc_11 : zr_11.all (z_chkR z_my z_mb z_mk 64 z_cl z_tyl z_stl z_ws 11) = true := by decide +kernel
theorem zc_12 : zr_12.all (z_chkR z_my z_mb z_mk 64 z_cl z_tyl z_stl z_ws 12) = true := by decide +kernel
theorem zc_13 : zr_13.all (z_chkR z_my z_mb z_mk 64 z_cl z_tyl z_stl z_ws 13) = true := by decide +kernel
theorem zc_14 : zr_14.all (z_chkR z_my z_mb z_mk 64 z_cl z_tyl z_stl z_ws 14) = true := by decide +kernel
theorem zc_15 : zr_15.all (z_chkR z_my z_mb z_mk 64 z_cl z_tyl z_stl z_ws 15) = true := by decide +kernel
theorem zc_16 : zr_16.all (z_chkR z_my z_mb z_mk 64 z_cl z_tyl z_stl z_ws 16) = true := by decide +kernel
theorem zc_17 : zr_17.all (z_chkR z_my z_mb z_mk 64 z_cl z_tyl z_stl z_ws 17) = true := by decide +kernel
theorem zc_18 : zr_18.all (z_chkR z_my z_mb z_mk 64 z_cl z_tyl z_stl z_ws 18) = true := by decide +kernel
theorem zc_19 : zr_19.all (z_chkR z_my z_mb z_mk 64 z_cl z_tyl z_stl z_ws 19) = true := by decide +kernel
theorem zc_20 : zr_20.all (z_chkR z_my z_mb z_mk 64 z_cl z_tyl z_stl z_ws 20) = true := by decide +kernel
theorem zc_21 : zr_21.all (z_chkR z_my z_mb z_mk 64 z_cl z_tyl z_stl z_ws 21) = true := by decide +kernel
theorem zc_22 : zr_22.all (z_chkR z_my z_mb z_mk 64 z_cl z_tyl z_stl z_ws 22) = true := by decide +kernel
theorem zc_23 : zr_23.all (z_chkR z_my z_mb z_mk 64 z_cl z_tyl z_stl z_ws 23) = true := by decide +kernel
theorem zc_24 : zr_24.all (z_chkR z_my z_mb z_mk 64 z_cl z_tyl z_stl z_ws 24) = true := by decide +kernel
theorem zc_25 : zr_25.all (z_chkR z_my z_mb z_mk 64 z_cl z_tyl z_stl z_ws 25) = true := by decide +kernel
theorem zc_26_0 : zr_26_0.all (z_chkR z_my z_mb z_mk 64 z_cl z_tyl z_stl z_ws 26) = true := by decide +kernel
theorem zc_26_1 : zr_26_1.all (z_chkR z_my z_mb z_mk 64 z_cl z_tyl z_stl z_ws 26) = true := by decide +kernel
theorem zc_26 : zr_26.all (z_chkR z_my z_mb z_mk 64 z_cl z_tyl z_stl z_ws 26) = true := z_aap zc_26_0 (zc_26_1)
theorem zc_27 : zr_27.all (z_chkR z_my z_mb z_mk 64 z_cl z_tyl z_stl z_ws 27) = true := by decide +kernel
theorem zc_28 : zr_28.all (z_chkR z_my z_mb z_mk 64 z_cl z_tyl z_stl z_ws 28) = true := by decide +kernel
theorem zc_29 : zr_29.all (z_chkR z_my z_mb z_mk 64 z_cl z_tyl z_stl z_ws 29) = true := by decide +kernel
theorem zc_30 : zr_30.all (z_chkR z_my z_mb z_mk 64 z_cl z_tyl z_stl z_ws 30) = true := by decide +kernel
theorem zc_31 : zr_31.all (z_chkR z_my z_mb z_mk 64 z_cl z_tyl z_stl z_ws 31) = true := by decide +kernel
theorem zc_32 : zr_32.all (z_chkR z_my z_mb z_mk 64 z_cl z_tyl z_stl z_ws 32) = true := by decide +kernel
theorem zc_33 : zr_33.all (z_chkR z_my z_mb z_mk 64 z_cl z_tyl z_stl z_ws 33) = true := by decide +kernel
theorem zc_34_0 : zr_34_0.all (z_chkR z_my z_mb z_mk 64 z_cl z_tyl z_stl z_ws 34) = true := by decide +kernel
theorem zc_34_1 : zr_34_1.all (z_chkR z_my z_mb z_mk 64 z_cl z_tyl z_stl z_ws 34) = true := by decide +kernel
theorem zc_34 : zr_34.all (z_chkR z_my z_mb z_mk 64 z_cl z_tyl z_stl z_ws 34) = true := z_aap zc_34_0 (zc_34_1)
theorem zc_35_0 : zr_35_0.all (z_chkR z_my z_mb z_mk 64 z_cl z_tyl z_stl z_ws 35) = true := by decide +kernel
theorem zc_35_1 : zr_35_1.all (z_chkR z_my z_mb z_mk 64 z_cl z_tyl z_stl z_ws 35) = true := by decide +kernel
theorem zc_35 : zr_35.all (z_chkR z_my z_mb z_mk 64 z_cl z_tyl z_stl z_ws 35) = true := z_aap zc_35_0 (zc_35_1)
theorem zc_36_0 : zr_36_0.all (z_chkR z_my z_mb z_mk 64 z_cl z_tyl z_stl z_ws 36) = true := by decide +kernel
theorem zc_36_1 : zr_36_1.all (z_chkR z_my z_mb z_mk 64 z_cl z_tyl z_stl z_ws 36) = true := by decide +kernel
theorem zc_36 : zr_36.all (z_chkR z_my z_mb z_mk 64 z_cl z_tyl z_stl z_ws 36) = true := z_aap zc_36_0 (zc_36_1)
theorem zc_37 : zr_37.all (z_chkR z_my z_mb z_mk 64 z_cl z_tyl z_stl z_ws 37) = true := by decide +kernel
theorem zc_38 : zr_38.all (z_chkR z_my z_mb z_mk 64 z_cl z_tyl z_stl z_ws 38) = true := by decide +kernel
theorem zc_39 : zr_39.all (z_chkR z_my z_mb z_mk 64 z_cl z_tyl z_stl z_ws 39) = true := by decide +kernel
theorem zc_40 : zr_40.all (z_chkR z_my z_mb z_mk 64 z_cl z_tyl z_stl z_ws 40) = true := by decide +kernel
theorem zc_41 : zr_41.all (z_chkR z_my z_mb z_mk 64 z_cl z_tyl z_stl z_ws 41) = true := by decide +kernel
theorem zc_42_0 : zr_42_0.all (z_chkR z_my z_mb z_mk 64 z_cl z_tyl z_stl z_ws 42) = true := by decide +kernel
theorem zc_42_1 : zr_42_1.all (z_chkR z_my z_mb z_mk 64 z_cl z_tyl z_stl z_ws 42) = true := by decide +kernel
theorem zc_42_2 : zr_42_2.all (z_chkR z_my z_mb z_mk 64 z_cl z_tyl z_stl z_ws 42) = true := by decide +kernel
theorem zc_42_3 : zr_42_3.all (z_chkR z_my z_mb z_mk 64 z_cl z_tyl z_stl z_ws 42) = true := by decide +kernel
theorem zc_42_4 : zr_42_4.all (z_chkR z_my z_mb z_mk 64 z_cl z_tyl z_stl z_ws 42) = true := by decide +kernel
theorem zc_42_5 : zr_42_5.all (z_chkR z_my z_mb z_mk 64 z_cl z_tyl z_stl z_ws 42) = true := by decide +kernel
theorem zc_42_6 : zr_42_6.all (z_chkR z_my z_mb z_mk 64 z_cl z_tyl z_stl z_ws 42) = true := by decide +kernel
theorem zc_42_7 : zr_42_7.all (z_chkR z_my z_mb z_mk 64 z_cl z_tyl z_stl z_ws 42) = true := by decide +kernel
theorem zc_42_8 : zr_42_8.all (z_chkR z_my z_mb z_mk 64 z_cl z_tyl z_stl z_ws 42) = true := by decide +kernel
theorem zc_42_9 : zr_42_9.all (z_chkR z_my z_mb z_mk 64 z_cl z_tyl z_stl z_ws 42) = true := by decide +kernel
theorem zc_42_10 : zr_42_10.all (z_chkR z_my z_mb z_mk 64 z_cl z_tyl z_stl z_ws 42) = true := by decide +kernel
theorem zc_42_11 : zr_42_11.all (z_chkR z_my z_mb z_mk 64 z_cl z_tyl z_stl z_ws 42) = true := by decide +kernel
theorem zc_42 : zr_42.all (z_chkR z_my z_mb z_mk 64 z_cl z_tyl z_stl z_ws 42) = true := z_aap zc_42_0 (z_aap zc_42_1 (z_aap zc_42_2 (z_aap zc_42_3 (z_aap zc_42_4 (z_aap zc_42_5 (z_aap zc_42_6 (z_aap zc_42_7 (z_aap zc_42_8 (z_aap zc_42_9 (z_aap zc_42_10 (zc_42_11)))))))))))
theorem zc_43 : zr_43.all (z_chkR z_my z_mb z_mk 64 z_cl z_tyl z_stl z_ws 43) = true := by decide +kernel
theorem zc_44_0 : zr_44_0.all (z_chkR z_my z_mb z_mk 64 z_cl z_tyl z_stl z_ws 44) = true := by decide +kernel
theorem zc_44_1 : zr_44_1.all (z_chkR z_my z_mb z_mk 64 z_cl z_tyl z_stl z_ws 44) = true := by decide +kernel
theorem zc_44 : zr_44.all (z_chkR z_my z_mb z_mk 64 z_cl z_tyl z_stl z_ws 44) = true := z_aap zc_44_0 (zc_44_1)
theorem zc_45 : zr_45.all (z_chkR z_my z_mb z_mk 64 z_cl z_tyl z_stl z_ws 45) = true := by decide +kernel
theorem zc_46_0 : zr_46_0.all (z_chkR z_my z_mb z_mk 64 z_cl z_tyl z_stl z_ws 46) = true := by decide +kernel
theorem zc_46_1 : zr_46_1.all (z_chkR z_my z_mb z_mk 64 z_cl z_tyl z_stl z_ws 46) = true := by decide +kernel
theorem zc_46 : zr_46.all (z_chkR z_my z_mb z_mk 64 z_cl z_tyl z_stl z_ws 46) = true := z_aap zc_46_0 (zc_46_1)
theorem zc_47 : zr_47.all (z_chkR z_my z_mb z_mk 64 z_cl z_tyl z_stl z_ws 47) = true := by decide +kernel
theorem zc_48_0 : zr_48_0.all (z_chkR z_my z_mb z_mk 64 z_cl z_tyl z_stl z_ws 48) = true := by decide +kernel
theorem zc_48_1 : zr_48_1.all (z_chkR z_my z_mb z_mk 64 z_cl z_tyl z_stl z_ws 48) = true := by decide +kernel
theorem zc_48 : zr_48.all (z_chkR z_my z_mb z_mk 64 z_cl z_tyl z_stl z_ws 48) = true := z_aap zc_48_0 (zc_48_1)
theorem zc_49 : zr_49.all (z_chkR z_my z_mb z_mk 64 z_cl z_tyl z_stl z_ws 49) = true := by decide +kernel
theorem zc_50 : zr_50.all (z_chkR z_my z_mb z_mk 64 z_cl z_tyl z_stl z_ws 50) = true := by decide +kernel
theorem zc_51_0 : zr_51_0.all (z_chkR z_my z_mb z_mk 64 z_cl z_tyl z_stl z_ws 51) = true := by decide +kernel
theorem zc_51_1 : zr_51_1.all (z_chkR z_my z_mb z_mk 64 z_cl z_tyl z_stl z_ws 51) = true := by decide +kernel
theorem zc_51_2 : zr_51_2.all (z_chkR z_my z_mb z_mk 64 z_cl z_tyl z_stl z_ws 51) = true := by decide +kernel
theorem zc_51 : zr_51.all (z_chkR z_my z_mb z_mk 64 z_cl z_tyl z_stl z_ws 51) = true := z_aap zc_51_0 (z_aap zc_51_1 (zc_51_2))
theorem zc_52 : zr_52.all (z_chkR z_my z_mb z_mk 64 z_cl z_tyl z_stl z_ws 52) = true := by decide +kernel
theorem zc_53 : zr_53.all (z_chkR z_my z_mb z_mk 64 z_cl z_tyl z_stl z_ws 53) = true := by decide +kernel
theorem zc_54 : zr_54.all (z_chkR z_my z_mb z_mk 64 z_cl z_tyl z_stl z_ws 54) = true := by decide +kernel
theorem zc_55_0 : zr_55_0.all (z_chkR z_my z_mb z_mk 64 z_cl z_tyl z_stl z_ws 55) = true := by decide +kernel
theorem zc_55_1 : zr_55_1.all (z_chkR z_my z_mb z_mk 64 z_cl z_tyl z_stl z_ws 55) = true := by decide +kernel
theorem zc_55_2 : zr_55_2.all (z_chkR z_my z_mb z_mk 64 z_cl z_tyl z_stl z_ws 55) = true := by decide +kernel
theorem zc_55 : zr_55.all (z_chkR z_my z_mb z_mk 64 z_cl z_tyl z_stl z_ws 55) = true := z_aap zc_55_0 (z_aap zc_55_1 (zc_55_2))
theorem zc_56_0 : zr_56_0.all (z_chkR z_my z_mb z_mk 64 z_cl z_tyl z_stl z_ws 56) = true := by decide +kernel
theorem zc_56_1 : zr_56_1.all (z_chkR z_my z_mb z_mk 64 z_cl z_tyl z_stl z_ws 56) = true := by decide +kernel
theorem zc_56_2 : zr_56_2.all (z_chkR z_my z_mb z_mk 64 z_cl z_tyl z_stl z_ws 56) = true := by decide +kernel
theorem zc_56 : zr_56.all (z_chkR z_my z_mb z_mk 64 z_cl z_tyl z_stl z_ws 56) = true := z_aap zc_56_0 (z_aap zc_56_1 (zc_56_2))
theorem zc_57 : zr_57.all (z_chkR z_my z_mb z_mk 64 z_cl z_tyl z_stl z_ws 57) = true := by decide +kernel
theorem zc_58 : zr_58.all (z_chkR z_my z_mb z_mk 64 z_cl z_tyl z_stl z_ws 58) = true := by decide +kernel
theorem zc_59_0 : zr_59_0.all (z_chkR z_my z_mb z_mk 64 z_cl z_tyl z_stl z_ws 59) = true := by decide +kernel
theorem zc_59_1 : zr_59_1.all (z_chkR z_my z_mb z_mk 64 z_cl z_tyl z_stl z_ws 59) = true := by decide +kernel
theorem zc_59 : zr_59.all (z_chkR z_my z_mb z_mk 64 z_cl z_tyl z_stl z_ws 59) = true := z_aap zc_59_0 (zc_59_1)
theorem zc_60 : zr_60.all (z_chkR z_my z_mb z_mk 64 z_cl z_tyl z_stl z_ws 60) = true := by decide +kernel
theorem zc_61 : zr_61.all (z_chkR z_my z_mb z_mk 64 z_cl z_tyl z_stl z_ws 61) = true := by decide +kernel
theorem zc_62 : zr_62.all (z_chkR z_my z_mb z_mk 64 z_cl z_tyl z_stl z_ws 62) = true := by decide +kernel
theorem zc_63 : zr_63.all (z_chkR z_my z_mb z_mk 64 z_cl z_tyl z_stl z_ws 63) = true := by decide +kernel
theorem z_allR : ∀ mi, (z_rows mi).all (z_chkR z_my z_mb z_mk 64 z_cl z_tyl z_stl z_ws mi) = true := by
  intro mi
  match mi with
  | 0 => exact zc_0
  | 1 => exact zc_1
  | 2 => exact zc_2
  | 3 => exact zc_3
  | 4 => exact zc_4
  | 5 => exact zc_5
  | 6 => exact zc_6
  | 7 => exact zc_7
  | 8 => exact zc_8
  | 9 => exact zc_9
  | 10 => exact zc_10
  | 11 => exact zc_11
  | 12 => exact zc_12
  | 13 => exact zc_13
  | 14 => exact zc_14
  | 15 => exact zc_15
  | 16 => exact zc_16
  | 17 => exact zc_17
  | 18 => exact zc_18
  | 19 => exact zc_19
  | 20 => exact zc_20
  | 21 => exact zc_21
  | 22 => exact zc_22
  | 23 => exact zc_23
  | 24 => exact zc_24
  | 25 => exact zc_25
  | 26 => exact zc_26
  | 27 => exact zc_27
  | 28 => exact zc_28
  | 29 => exact zc_29
  | 30 => exact zc_30
  | 31 => exact zc_31
  | 32 => exact zc_32
  | 33 => exact zc_33
  | 34 => exact zc_34
  | 35 => exact zc_35
  | 36 => exact zc_36
  | 37 => exact zc_37
  | 38 => exact zc_38
  | 39 => exact zc_39
  | 40 => exact zc_40
  | 41 => exact zc_41
  | 42 => exact zc_42
  | 43 => exact zc_43
  | 44 => exact zc_44
  | 45 => exact zc_45
  | 46 => exact zc_46
  | 47 => exact zc_47
  | 48 => exact zc_48
  | 49 => exact zc_49
  | 50 => exact zc_50
  | 51 => exact zc_51
  | 52 => exact zc_52
  | 53 => exact zc_53
  | 54 => exact zc_54
  | 55 => exact zc_55
  | 56 => exact zc_56
  | 57 => exact zc_57
  | 58 => exact zc_58
  | 59 => exact zc_59
  | 60 => exact zc_60
  | 61 => exact zc_61
  | 62 => exact zc_62
  | 63 => exact zc_63
  | n + 64 => rfl
theorem z_allM : ∀ mi, 0 < mi → mi < 64 → z_chkM z_my z_mb z_pg z_mk z_cl z_ws mi = true := by
  intro mi h1 h2
  match mi, h1, h2 with
  | 0, h1, _ => exact absurd h1 (by decide)
  | 1, _, _ => decide +kernel
  | 2, _, _ => decide +kernel
  | 3, _, _ => decide +kernel
  | 4, _, _ => decide +kernel
  | 5, _, _ => decide +kernel
  | 6, _, _ => decide +kernel
  | 7, _, _ => decide +kernel
  | 8, _, _ => decide +kernel
  | 9, _, _ => decide +kernel
  | 10, _, _ => decide +kernel
  | 11, _, _ => decide +kernel
  | 12, _, _ => decide +kernel
  | 13, _, _ => decide +kernel
  | 14, _, _ => decide +kernel
  | 15, _, _ => decide +kernel
  | 16, _, _ => decide +kernel
  | 17, _, _ => decide +kernel
  | 18, _, _ => decide +kernel
  | 19, _, _ => decide +kernel
  | 20, _, _ => decide +kernel
  | 21, _, _ => decide +kernel
  | 22, _, _ => decide +kernel
  | 23, _, _ => decide +kernel
  | 24, _, _ => decide +kernel
  | 25, _, _ => decide +kernel
  | 26, _, _ => decide +kernel
  | 27, _, _ => decide +kernel
  | 28, _, _ => decide +kernel
  | 29, _, _ => decide +kernel
  | 30, _, _ => decide +kernel
  | 31, _, _ => decide +kernel
  | 32, _, _ => decide +kernel
  | 33, _, _ => decide +kernel
  | 34, _, _ => decide +kernel
  | 35, _, _ => decide +kernel
  | 36, _, _ => decide +kernel
  | 37, _, _ => decide +kernel
  | 38, _, _ => decide +kernel
  | 39, _, _ => decide +kernel
  | 40, _, _ => decide +kernel
  | 41, _, _ => decide +kernel
  | 42, _, _ => decide +kernel
  | 43, _, _ => decide +kernel
  | 44, _, _ => decide +kernel
  | 45, _, _ => decide +kernel
  | 46, _, _ => decide +kernel
  | 47, _, _ => decide +kernel
  | 48, _, _ => decide +kernel
  | 49, _, _ => decide +kernel
  | 50, _, _ => decide +kernel
  | 51, _, _ => decide +kernel
  | 52, _, _ => decide +kernel
  | 53, _, _ => decide +kernel
  | 54, _, _ => decide +kernel
  | 55, _, _ => decide +kernel
  | 56, _, _ => decide +kernel
  | 57, _, _ => decide +kernel
  | 58, _, _ => decide +kernel
  | 59, _, _ => decide +kernel
  | 60, _, _ => decide +kernel
  | 61, _, _ => decide +kernel
  | 62, _, _ => decide +kernel
  | 63, _, _ => decide +kernel
  | n + 64, _, h2 => omega
theorem z_allX : ∀ mi, mi < 64 → z_chkX z_my z_pg z_cl z_ws mi = true := by decide +kernel
def z_isB (mi : Nat) (r : z_R) : Bool := match r.2.1, r.2.2.2 with
  | .invokevirtual idx, [2, pl] => decide (z_ws[pl]? = some (Cond.methodLink (z_my mi).cls idx ⟨"FiberWorks$Word", "ordinal", "()I"⟩))
  | .invokestatic idx, [3, pl] => decide (z_ws[pl]? = some (Cond.methodLink (z_my mi).cls idx arraycopyName))
  | _, _ => true
theorem z_allB : ∀ mi, (z_rows mi).all (z_isB mi) = true := by
  intro mi
  match mi with
  | 0 => decide +kernel
  | 1 => decide +kernel
  | 2 => decide +kernel
  | 3 => decide +kernel
  | 4 => decide +kernel
  | 5 => decide +kernel
  | 6 => decide +kernel
  | 7 => decide +kernel
  | 8 => decide +kernel
  | 9 => decide +kernel
  | 10 => decide +kernel
  | 11 => decide +kernel
  | 12 => decide +kernel
  | 13 => decide +kernel
  | 14 => decide +kernel
  | 15 => decide +kernel
  | 16 => decide +kernel
  | 17 => decide +kernel
  | 18 => decide +kernel
  | 19 => decide +kernel
  | 20 => decide +kernel
  | 21 => decide +kernel
  | 22 => decide +kernel
  | 23 => decide +kernel
  | 24 => decide +kernel
  | 25 => decide +kernel
  | 26 => decide +kernel
  | 27 => decide +kernel
  | 28 => decide +kernel
  | 29 => decide +kernel
  | 30 => decide +kernel
  | 31 => decide +kernel
  | 32 => decide +kernel
  | 33 => decide +kernel
  | 34 => decide +kernel
  | 35 => decide +kernel
  | 36 => decide +kernel
  | 37 => decide +kernel
  | 38 => decide +kernel
  | 39 => decide +kernel
  | 40 => decide +kernel
  | 41 => decide +kernel
  | 42 => decide +kernel
  | 43 => decide +kernel
  | 44 => decide +kernel
  | 45 => decide +kernel
  | 46 => decide +kernel
  | 47 => decide +kernel
  | 48 => decide +kernel
  | 49 => decide +kernel
  | 50 => decide +kernel
  | 51 => decide +kernel
  | 52 => decide +kernel
  | 53 => decide +kernel
  | 54 => decide +kernel
  | 55 => decide +kernel
  | 56 => decide +kernel
  | 57 => decide +kernel
  | 58 => decide +kernel
  | 59 => decide +kernel
  | 60 => decide +kernel
  | 61 => decide +kernel
  | 62 => decide +kernel
  | 63 => decide +kernel
  | n + 64 => rfl
def z_no0 (r : z_R) : Bool := match r.2.2.2 with
  | [0, 0, _, _] => false
  | _ => true
theorem z_all0 : ∀ mi, (z_rows mi).all z_no0 = true := by
  intro mi
  match mi with
  | 0 => decide +kernel
  | 1 => decide +kernel
  | 2 => decide +kernel
  | 3 => decide +kernel
  | 4 => decide +kernel
  | 5 => decide +kernel
  | 6 => decide +kernel
  | 7 => decide +kernel
  | 8 => decide +kernel
  | 9 => decide +kernel
  | 10 => decide +kernel
  | 11 => decide +kernel
  | 12 => decide +kernel
  | 13 => decide +kernel
  | 14 => decide +kernel
  | 15 => decide +kernel
  | 16 => decide +kernel
  | 17 => decide +kernel
  | 18 => decide +kernel
  | 19 => decide +kernel
  | 20 => decide +kernel
  | 21 => decide +kernel
  | 22 => decide +kernel
  | 23 => decide +kernel
  | 24 => decide +kernel
  | 25 => decide +kernel
  | 26 => decide +kernel
  | 27 => decide +kernel
  | 28 => decide +kernel
  | 29 => decide +kernel
  | 30 => decide +kernel
  | 31 => decide +kernel
  | 32 => decide +kernel
  | 33 => decide +kernel
  | 34 => decide +kernel
  | 35 => decide +kernel
  | 36 => decide +kernel
  | 37 => decide +kernel
  | 38 => decide +kernel
  | 39 => decide +kernel
  | 40 => decide +kernel
  | 41 => decide +kernel
  | 42 => decide +kernel
  | 43 => decide +kernel
  | 44 => decide +kernel
  | 45 => decide +kernel
  | 46 => decide +kernel
  | 47 => decide +kernel
  | 48 => decide +kernel
  | 49 => decide +kernel
  | 50 => decide +kernel
  | 51 => decide +kernel
  | 52 => decide +kernel
  | 53 => decide +kernel
  | 54 => decide +kernel
  | 55 => decide +kernel
  | 56 => decide +kernel
  | 57 => decide +kernel
  | 58 => decide +kernel
  | 59 => decide +kernel
  | 60 => decide +kernel
  | 61 => decide +kernel
  | 62 => decide +kernel
  | 63 => decide +kernel
  | n + 64 => rfl
theorem z_okp : z_okP z_my z_mb z_pg z_cl z_tyl z_stl z_ws := by
  refine z_okP_of (A := z_mk) (M := 64) (rows := z_rows) (fun _ _ => rfl) z_allR z_cw_in z_allM z_allX ?_ ⟨by decide +kernel, List.mem_append_right _ List.mem_cons_self⟩
  intro mi pc i len na pl h
  have h1 := List.all_eq_true.mp (z_all0 mi) _ (z_look_mem h)
  cases h1
theorem z_gd : ∀ w ∈ z_ws, (w.onTables && w.keeps) = true ∨ ∃ ty, w = .arrayClass ty := fun w hw => (z_wsg w hw).2
