/-! Runs that look at no script: the two new objects, and what they answer to a known number. -/
def z_T1 : z_S := ([.inr (0, [.ref 41, .ref 42, .ref 43, .ref 48, .ref 53, .ref 64, .ref 67, .ref 78, .int 0]), .inl (1, 20, .inl []), .inr (1, [.int 0, .int (-1)]), .inr (2, [.ref 42, .ref 44, .int 0, .ref 45, .ref 46, .ref 47, .int 0, .int 0, .ref 0, .int 0, .int 0]), .inl (1, 1500, .inl []), .inl (4, 1501, .inr (.inr [])), .inl (0, 1501, .inl []), .inl (0, 1501, .inl []), .inr (3, [.ref 49, .ref 50, .ref 51, .ref 52, .int 3]), .inl (0, 64, .inl []), .inl (0, 64, .inl []), .inl (0, 64, .inl []), .inl (0, 64, .inl [(2, 1), (1, 1), (0, 1)]), .inr (4, [.ref 54, .ref 55, .ref 56, .ref 57, .ref 58, .ref 59, .int 0, .int 0, .int 2, .int 0, .int 0]), .inl (0, 128, .inl []), .inl (0, 128, .inl []), .inl (0, 128, .inl []), .inl (0, 128, .inl []), .inl (0, 128, .inl []), .inl (0, 128, .inl []), .inr (5, [.ref 61, .ref 62, .ref 63, .int 0]), .inl (0, 8, .inl []), .inl (0, 8, .inl []), .inl (0, 8, .inl []), .inr (6, [.ref 43, .ref 42, .ref 48, .ref 60, .ref 53, .ref 65, .ref 66, .int 0]), .inl (0, 150, .inl []), .inl (0, 150, .inl []), .inr (7, [.ref 42, .ref 48, .ref 60, .ref 53, .ref 68, .ref 69, .ref 70, .int 0, .ref 71, .ref 72, .int 0, .ref 73, .ref 74, .ref 75, .ref 76, .ref 77, .int 0]), .inl (0, 256, .inl []), .inl (0, 256, .inl []), .inl (0, 256, .inl []), .inl (0, 128, .inl []), .inl (0, 128, .inl []), .inl (0, 64, .inl []), .inl (0, 64, .inl []), .inl (0, 64, .inl []), .inl (0, 64, .inl []), .inl (0, 64, .inl []), .inr (8, [.ref 53, .ref 79, .int 0, .int 0, .ref 80, .int 0, .int 0, .int 0, .int 0, .int (-1), .int 0, .int 0, .int 0]), .inl (0, 256, .inl []), .inl (0, 256, .inl [])], 9307)
def z_T2 : z_S := ([.inr (0, [.ref 41, .ref 42, .ref 43, .ref 48, .ref 53, .ref 64, .ref 67, .ref 78, .int 0]), .inl (1, 20, .inl []), .inr (1, [.int 0, .int (-1)]), .inr (2, [.ref 42, .ref 44, .int 0, .ref 45, .ref 46, .ref 47, .int 0, .int 0, .ref 0, .int 0, .int 0]), .inl (1, 1500, .inl []), .inl (4, 1501, .inr (.inr [])), .inl (0, 1501, .inl []), .inl (0, 1501, .inl []), .inr (3, [.ref 49, .ref 50, .ref 51, .ref 52, .int 3]), .inl (0, 64, .inl []), .inl (0, 64, .inl []), .inl (0, 64, .inl []), .inl (0, 64, .inl [(2, 1), (1, 1), (0, 1)]), .inr (4, [.ref 54, .ref 55, .ref 56, .ref 57, .ref 58, .ref 59, .int 0, .int 0, .int 2, .int 0, .int 0]), .inl (0, 128, .inl []), .inl (0, 128, .inl []), .inl (0, 128, .inl []), .inl (0, 128, .inl []), .inl (0, 128, .inl []), .inl (0, 128, .inl []), .inr (5, [.ref 61, .ref 62, .ref 63, .int 0]), .inl (0, 8, .inl []), .inl (0, 8, .inl []), .inl (0, 8, .inl []), .inr (6, [.ref 43, .ref 42, .ref 48, .ref 60, .ref 53, .ref 65, .ref 66, .int 0]), .inl (0, 150, .inl []), .inl (0, 150, .inl []), .inr (7, [.ref 42, .ref 48, .ref 60, .ref 53, .ref 68, .ref 69, .ref 70, .int 0, .ref 71, .ref 72, .int 0, .ref 73, .ref 74, .ref 75, .ref 76, .ref 77, .int 0]), .inl (0, 256, .inl []), .inl (0, 256, .inl []), .inl (0, 256, .inl []), .inl (0, 128, .inl []), .inl (0, 128, .inl []), .inl (0, 64, .inl []), .inl (0, 64, .inl []), .inl (0, 64, .inl []), .inl (0, 64, .inl []), .inl (0, 64, .inl []), .inr (8, [.ref 53, .ref 79, .int 0, .int 0, .ref 80, .int 0, .int 0, .int 0, .int 0, .int (-1), .int 0, .int 0, .int 0]), .inl (0, 256, .inl []), .inl (0, 256, .inl []), .inr (9, [.int 0, .ref 82, .ref 83, .ref 84, .ref 85, .int 0, .int 0, .int 0, .int 0, .int 0, .int 0, .int 0, .int (-1), .int 0, .ref 86, .ref 87, .ref 88, .ref 89, .ref 90, .int 0, .ref 91, .ref 92, .ref 93, .ref 94, .ref 95, .ref 96, .int 0, .int 0, .int 0, .ref 97, .ref 98, .ref 99, .ref 100, .ref 101, .ref 102, .ref 103, .ref 104, .ref 105, .ref 106, .ref 107, .ref 108, .ref 109, .ref 110, .ref 111, .ref 112, .ref 113, .ref 114, .ref 115, .ref 116, .ref 117, .ref 118, .ref 119, .int 0, .int 0, .int 0, .int 0, .ref 120, .ref 121, .ref 122, .ref 123, .ref 124, .ref 125, .ref 126, .ref 127, .ref 128, .ref 129, .ref 130, .ref 131, .ref 132, .ref 133, .ref 134, .ref 135, .ref 136, .int 0, .int 0, .int 0, .ref 137, .int 0, .ref 138, .ref 139, .ref 140, .ref 141, .int 0, .ref 142, .ref 143, .ref 144, .ref 145, .ref 146, .ref 147, .ref 148, .ref 149, .int 0, .int 0, .int 0, .int 0, .ref 150, .int 0, .int 0, .int 0, .int 0, .int 0, .int 0, .int 0, .int 0, .int 0, .int 0, .ref 151, .ref 152, .ref 153, .ref 154, .ref 155, .ref 156, .ref 157, .ref 158, .int 0, .ref 159, .ref 160, .ref 161, .ref 162, .ref 163, .ref 164, .ref 165, .int (-1)]), .inl (0, 20, .inl []), .inl (0, 1500, .inl []), .inl (0, 1500, .inl []), .inl (0, 82, .inl [(81, 0), (80, 116), (79, 105), (78, 110), (77, 117), (76, 0), (75, 108), (74, 111), (73, 111), (72, 98), (71, 0), (70, 116), (69, 110), (68, 105), (67, 0), (66, 101), (65, 115), (64, 108), (63, 97), (62, 102), (61, 0), (60, 101), (59, 117), (58, 114), (57, 116), (56, 0), (55, 100), (54, 110), (53, 101), (52, 0), (51, 110), (50, 114), (49, 117), (48, 116), (47, 101), (46, 114), (45, 0), (44, 104), (43, 116), (42, 105), (41, 119), (40, 0), (39, 101), (38, 108), (37, 100), (36, 110), (35, 97), (34, 104), (33, 0), (32, 110), (31, 102), (30, 0), (29, 101), (28, 115), (27, 108), (26, 101), (25, 0), (24, 110), (23, 101), (22, 104), (21, 116), (20, 0), (19, 102), (18, 105), (17, 0), (16, 110), (15, 105), (14, 0), (13, 99), (12, 101), (11, 114), (10, 0), (9, 116), (8, 101), (7, 108), (6, 0), (5, 116), (4, 99), (3, 101), (2, 102), (1, 102), (0, 101)]), .inl (0, 1500, .inl []), .inl (0, 1500, .inl []), .inl (0, 1500, .inl []), .inl (0, 8000, .inl []), .inl (3, 35200, .inr (.inl [])), .inl (0, 8, .inl []), .inl (0, 8, .inl []), .inl (0, 8, .inl []), .inl (0, 8, .inl []), .inl (0, 51, .inl []), .inl (2, 51, .inl []), .inl (0, 600, .inl []), .inl (0, 600, .inl []), .inl (0, 600, .inl []), .inl (0, 600, .inl []), .inl (0, 600, .inl []), .inl (0, 600, .inl []), .inl (0, 600, .inl []), .inl (0, 600, .inl []), .inl (0, 600, .inl []), .inl (0, 600, .inl []), .inl (0, 600, .inl []), .inl (0, 600, .inl []), .inl (0, 600, .inl []), .inl (0, 600, .inl []), .inl (0, 300, .inl []), .inl (0, 300, .inl []), .inl (0, 300, .inl []), .inl (0, 300, .inl []), .inl (0, 300, .inl []), .inl (0, 300, .inl []), .inl (0, 300, .inl []), .inl (0, 300, .inl []), .inl (0, 300, .inl []), .inl (0, 50, .inl []), .inl (0, 50, .inl []), .inl (0, 50, .inl []), .inl (0, 50, .inl []), .inl (0, 50, .inl []), .inl (0, 50, .inl []), .inl (0, 50, .inl []), .inl (0, 50, .inl []), .inl (0, 50, .inl []), .inl (0, 50, .inl []), .inl (0, 50, .inl []), .inl (0, 50, .inl []), .inl (0, 50, .inl []), .inl (0, 50, .inl []), .inl (0, 50, .inl []), .inl (0, 50, .inl []), .inl (2, 50, .inl []), .inl (0, 600, .inl []), .inl (0, 200000, .inl []), .inl (0, 200000, .inl []), .inl (0, 200000, .inl []), .inl (0, 200000, .inl []), .inl (0, 700, .inl []), .inl (0, 700, .inl []), .inl (0, 700, .inl []), .inl (0, 700, .inl []), .inl (0, 600, .inl []), .inl (0, 600, .inl []), .inl (0, 600, .inl []), .inl (0, 600, .inl []), .inl (3, 1500, .inr (.inl [])), .inl (0, 140000, .inl []), .inl (0, 140000, .inl []), .inl (0, 140000, .inl []), .inl (0, 140000, .inl []), .inl (0, 340000, .inl []), .inl (0, 340000, .inl []), .inl (0, 340000, .inl []), .inl (0, 340000, .inl []), .inl (0, 1001, .inl []), .inl (0, 1001, .inl []), .inl (0, 1001, .inl []), .inl (0, 1001, .inl []), .inl (0, 1001, .inl []), .inl (2, 1001, .inl []), .inl (2, 200000, .inl [])], 3005622)
def z_T3 : z_S := ([.inr (0, [.ref 41, .ref 42, .ref 43, .ref 48, .ref 53, .ref 64, .ref 67, .ref 78, .int 0]), .inl (1, 20, .inl []), .inr (1, [.int 0, .int (-1)]), .inr (2, [.ref 42, .ref 44, .int 0, .ref 45, .ref 46, .ref 47, .int 0, .int 0, .ref 0, .int 0, .int 0]), .inl (1, 1500, .inl []), .inl (4, 1501, .inr (.inr [])), .inl (0, 1501, .inl []), .inl (0, 1501, .inl []), .inr (3, [.ref 49, .ref 50, .ref 51, .ref 52, .int 3]), .inl (0, 64, .inl []), .inl (0, 64, .inl []), .inl (0, 64, .inl []), .inl (0, 64, .inl [(2, 1), (1, 1), (0, 1)]), .inr (4, [.ref 54, .ref 55, .ref 56, .ref 57, .ref 58, .ref 59, .int 0, .int 0, .int 2, .int 0, .int 0]), .inl (0, 128, .inl []), .inl (0, 128, .inl []), .inl (0, 128, .inl []), .inl (0, 128, .inl []), .inl (0, 128, .inl []), .inl (0, 128, .inl []), .inr (5, [.ref 61, .ref 62, .ref 63, .int 0]), .inl (0, 8, .inl []), .inl (0, 8, .inl []), .inl (0, 8, .inl []), .inr (6, [.ref 43, .ref 42, .ref 48, .ref 60, .ref 53, .ref 65, .ref 66, .int 0]), .inl (0, 150, .inl []), .inl (0, 150, .inl []), .inr (7, [.ref 42, .ref 48, .ref 60, .ref 53, .ref 68, .ref 69, .ref 70, .int 0, .ref 71, .ref 72, .int 0, .ref 73, .ref 74, .ref 75, .ref 76, .ref 77, .int 0]), .inl (0, 256, .inl []), .inl (0, 256, .inl []), .inl (0, 256, .inl []), .inl (0, 128, .inl []), .inl (0, 128, .inl []), .inl (0, 64, .inl []), .inl (0, 64, .inl []), .inl (0, 64, .inl []), .inl (0, 64, .inl []), .inl (0, 64, .inl []), .inr (8, [.ref 53, .ref 79, .int 0, .int 0, .ref 80, .int 0, .int 0, .int 0, .int 0, .int (-1), .int 0, .int 0, .int 0]), .inl (0, 256, .inl []), .inl (0, 256, .inl []), .inr (9, [.int 0, .ref 82, .ref 83, .ref 84, .ref 85, .int 0, .int 0, .int 0, .int 0, .int 0, .int 0, .int 0, .int (-1), .int 0, .ref 86, .ref 87, .ref 88, .ref 89, .ref 90, .int 0, .ref 91, .ref 92, .ref 93, .ref 94, .ref 95, .ref 96, .int 0, .int 0, .int 0, .ref 97, .ref 98, .ref 99, .ref 100, .ref 101, .ref 102, .ref 103, .ref 104, .ref 105, .ref 106, .ref 107, .ref 108, .ref 109, .ref 110, .ref 111, .ref 112, .ref 113, .ref 114, .ref 115, .ref 116, .ref 117, .ref 118, .ref 119, .int 0, .int 0, .int 0, .int 0, .ref 120, .ref 121, .ref 122, .ref 123, .ref 124, .ref 125, .ref 126, .ref 127, .ref 128, .ref 129, .ref 130, .ref 131, .ref 132, .ref 133, .ref 134, .ref 135, .ref 136, .int 0, .int 0, .int 0, .ref 137, .int 0, .ref 138, .ref 139, .ref 140, .ref 141, .int 0, .ref 142, .ref 143, .ref 144, .ref 145, .ref 146, .ref 147, .ref 148, .ref 149, .int 0, .int 0, .int 0, .int 0, .ref 150, .int 0, .int 0, .int 0, .int 0, .int 0, .int 0, .int 0, .int 0, .int 0, .int 0, .ref 151, .ref 152, .ref 153, .ref 154, .ref 155, .ref 156, .ref 157, .ref 158, .int 0, .ref 159, .ref 160, .ref 161, .ref 162, .ref 163, .ref 164, .ref 165, .int (-1)]), .inl (0, 20, .inl []), .inl (0, 1500, .inl []), .inl (0, 1500, .inl []), .inl (0, 82, .inl [(81, 0), (80, 116), (79, 105), (78, 110), (77, 117), (76, 0), (75, 108), (74, 111), (73, 111), (72, 98), (71, 0), (70, 116), (69, 110), (68, 105), (67, 0), (66, 101), (65, 115), (64, 108), (63, 97), (62, 102), (61, 0), (60, 101), (59, 117), (58, 114), (57, 116), (56, 0), (55, 100), (54, 110), (53, 101), (52, 0), (51, 110), (50, 114), (49, 117), (48, 116), (47, 101), (46, 114), (45, 0), (44, 104), (43, 116), (42, 105), (41, 119), (40, 0), (39, 101), (38, 108), (37, 100), (36, 110), (35, 97), (34, 104), (33, 0), (32, 110), (31, 102), (30, 0), (29, 101), (28, 115), (27, 108), (26, 101), (25, 0), (24, 110), (23, 101), (22, 104), (21, 116), (20, 0), (19, 102), (18, 105), (17, 0), (16, 110), (15, 105), (14, 0), (13, 99), (12, 101), (11, 114), (10, 0), (9, 116), (8, 101), (7, 108), (6, 0), (5, 116), (4, 99), (3, 101), (2, 102), (1, 102), (0, 101)]), .inl (0, 1500, .inl []), .inl (0, 1500, .inl []), .inl (0, 1500, .inl []), .inl (0, 8000, .inl []), .inl (3, 35200, .inr (.inl [])), .inl (0, 8, .inl []), .inl (0, 8, .inl []), .inl (0, 8, .inl []), .inl (0, 8, .inl []), .inl (0, 51, .inl []), .inl (2, 51, .inl []), .inl (0, 600, .inl []), .inl (0, 600, .inl []), .inl (0, 600, .inl []), .inl (0, 600, .inl []), .inl (0, 600, .inl []), .inl (0, 600, .inl []), .inl (0, 600, .inl []), .inl (0, 600, .inl []), .inl (0, 600, .inl []), .inl (0, 600, .inl []), .inl (0, 600, .inl []), .inl (0, 600, .inl []), .inl (0, 600, .inl []), .inl (0, 600, .inl []), .inl (0, 300, .inl []), .inl (0, 300, .inl []), .inl (0, 300, .inl []), .inl (0, 300, .inl []), .inl (0, 300, .inl []), .inl (0, 300, .inl []), .inl (0, 300, .inl []), .inl (0, 300, .inl []), .inl (0, 300, .inl []), .inl (0, 50, .inl []), .inl (0, 50, .inl []), .inl (0, 50, .inl []), .inl (0, 50, .inl []), .inl (0, 50, .inl []), .inl (0, 50, .inl []), .inl (0, 50, .inl []), .inl (0, 50, .inl []), .inl (0, 50, .inl []), .inl (0, 50, .inl []), .inl (0, 50, .inl []), .inl (0, 50, .inl []), .inl (0, 50, .inl []), .inl (0, 50, .inl []), .inl (0, 50, .inl []), .inl (0, 50, .inl []), .inl (2, 50, .inl []), .inl (0, 600, .inl []), .inl (0, 200000, .inl []), .inl (0, 200000, .inl []), .inl (0, 200000, .inl []), .inl (0, 200000, .inl []), .inl (0, 700, .inl []), .inl (0, 700, .inl []), .inl (0, 700, .inl []), .inl (0, 700, .inl []), .inl (0, 600, .inl []), .inl (0, 600, .inl []), .inl (0, 600, .inl []), .inl (0, 600, .inl []), .inl (3, 1500, .inr (.inl [])), .inl (0, 140000, .inl []), .inl (0, 140000, .inl []), .inl (0, 140000, .inl []), .inl (0, 140000, .inl []), .inl (0, 340000, .inl []), .inl (0, 340000, .inl []), .inl (0, 340000, .inl []), .inl (0, 340000, .inl []), .inl (0, 1001, .inl []), .inl (0, 1001, .inl []), .inl (0, 1001, .inl []), .inl (0, 1001, .inl []), .inl (0, 1001, .inl []), .inl (2, 1001, .inl []), .inl (2, 200000, .inl []), .inl (3, 1, .inr (.inl []))], 3005623)
set_option maxRecDepth 100000
def z_dC : DecidableEq z_C := inferInstance
def z_dE : DecidableEq z_E := @instDecidableEqSum _ _ (@instDecidableEqProd _ _ inferInstance (@instDecidableEqProd _ _ inferInstance z_dC)) inferInstance
def z_dS : DecidableEq z_S := @instDecidableEqProd _ _ (@instDecidableEqList _ z_dE) inferInstance
def z_dR : DecidableEq (z_O × z_S) := @instDecidableEqProd _ _ inferInstance z_dS
def z_eqR (a b : Option (z_O × z_S)) : Bool := match a, b with
  | some x, some y => @decide (x = y) (z_dR x y)
  | _, _ => false
theorem z_eqR_i {a b : Option (z_O × z_S)} (h : z_eqR a b = true) : a = b := by
  cases a with
  | none => cases h
  | some x =>
    cases b with
    | none => cases h
    | some y => exact congrArg some (@of_decide_eq_true _ (z_dR x y) h)
def z_dU : DecidableEq z_U := @instDecidableEqProd _ _ inferInstance (@instDecidableEqProd _ _ inferInstance (@instDecidableEqProd _ _ inferInstance z_dS))
def z_eqU (a b : Option z_U) : Bool := match a, b with
  | some x, some y => @decide (x = y) (z_dU x y)
  | _, _ => false
theorem z_eqU_i {a b : Option z_U} (h : z_eqU a b = true) : a = b := by
  cases a with
  | none => cases h
  | some x =>
    cases b with
    | none => cases h
    | some y => exact congrArg some (@of_decide_eq_true _ (z_dU x y) h)
theorem z_e1 : z_ev z_g0 z_pg z_b0 3000 2000 80000 1 0 (lv_args 0 [.ref 40]) [] ([.inr (0, z_born (z_fty 0) 9)], 9) = some (.inl none, z_T1) := z_eqR_i (by decide +kernel)
theorem z_e2 : z_ev z_g0 z_pg z_b0 3000 2000 80000 42 0 (lv_args 0 [.ref 81]) [] (z_T1.1 ++ [.inr (9, z_born (z_fty 9) 123)], z_T1.2 + 123) = some (.inl none, z_T2) := z_eqR_i (by decide +kernel)
def z_out (o : Option (z_O × z_S)) : z_S := match o with
  | some r => r.2
  | none => ([], 0)
def z_ans (o : Option (z_O × z_S)) : Option z_O := match o with
  | some r => some r.1
  | none => none
theorem z_out_ok {o : Option (z_O × z_S)} {a : z_O} (h : z_ans o = some a) : o = some (a, z_out o) := by
  cases o with
  | none => cases h
  | some r =>
    obtain ⟨x, S⟩ := r
    cases h
    rfl
def z_cal (mj : Nat) (as : List Value) (S : z_S) : Option (z_O × z_S) := z_ev z_g0 z_pg z_b0 3000 2000 80000 mj 0 (lv_args 0 as) [] S
/-- S1 stands behind S: it has not shrunk, there is room, and both objects are there -/
def z_ge (S S1 : z_S) : Bool := decide (S.1.length ≤ S1.1.length) && (decide (S.2 ≤ S1.2) && (decide (S1.1.length ≤ 600002) && (decide (S1.2 ≤ 7302232) && (decide (z_cls 40 S1 40 = some 0) && decide (z_cls 40 S1 81 = some 9)))))
/-- the class answers, then the reference, both with v -/
def z_two (mj mk : Nat) (as : List Value) (v : Value) : Bool := match z_cal mj (.ref 40 :: as) z_T3 with
  | some (.inl (some v1), S1) => decide (v1 = v) && (z_ge z_T3 S1 && (match z_cal mk (.ref 81 :: as) S1 with
    | some (.inl (some v2), S2) => decide (v2 = v) && z_ge S1 S2
    | _ => false))
  | _ => false
theorem z_two_i {mj mk : Nat} {as : List Value} {v : Value} (h : z_two mj mk as v = true) : ∃ S1 S2, z_cal mj (.ref 40 :: as) z_T3 = some (.inl (some v), S1) ∧ z_ge z_T3 S1 = true ∧ z_cal mk (.ref 81 :: as) S1 = some (.inl (some v), S2) ∧ z_ge S1 S2 = true := by
  unfold z_two at h
  split at h
  · rename_i v1 S1 h1
    rw [Bool.and_eq_true, Bool.and_eq_true] at h
    obtain ⟨h2, h3, h4⟩ := h
    split at h4
    · rename_i v2 S2 h5
      rw [Bool.and_eq_true] at h4
      have e1 := of_decide_eq_true h2
      have e2 := of_decide_eq_true h4.1
      subst e1
      subst e2
      exact ⟨S1, S2, h1, h3, h5, h4.2⟩
    · cases h4
  · cases h
theorem z_ke_0 : z_two 16 45 [.int (Int32.ofNat 0)] (.int (Int32.ofNat 0)) = true := by decide +kernel
theorem z_ke_1 : z_two 16 45 [.int (Int32.ofNat 1)] (.int (Int32.ofNat 1)) = true := by decide +kernel
theorem z_ke_2 : z_two 16 45 [.int (Int32.ofNat 2)] (.int (Int32.ofNat 2)) = true := by decide +kernel
theorem z_ke_3 : z_two 16 45 [.int (Int32.ofNat 3)] (.int (Int32.ofNat 3)) = true := by decide +kernel
theorem z_ke_4 : z_two 16 45 [.int (Int32.ofNat 4)] (.int (Int32.ofNat 4)) = true := by decide +kernel
theorem z_ke_5 : z_two 16 45 [.int (Int32.ofNat 5)] (.int (Int32.ofNat 5)) = true := by decide +kernel
theorem z_ke_6 : z_two 16 45 [.int (Int32.ofNat 6)] (.int (Int32.ofNat 6)) = true := by decide +kernel
theorem z_ke_7 : z_two 16 45 [.int (Int32.ofNat 7)] (.int (Int32.ofNat 7)) = true := by decide +kernel
theorem z_ke_8 : z_two 16 45 [.int (Int32.ofNat 8)] (.int (Int32.ofNat 8)) = true := by decide +kernel
theorem z_ke_9 : z_two 16 45 [.int (Int32.ofNat 9)] (.int (Int32.ofNat 9)) = true := by decide +kernel
theorem z_ke_10 : z_two 16 45 [.int (Int32.ofNat 10)] (.int (Int32.ofNat 10)) = true := by decide +kernel
theorem z_ke_11 : z_two 16 45 [.int (Int32.ofNat 11)] (.int (Int32.ofNat 11)) = true := by decide +kernel
theorem z_ke_12 : z_two 16 45 [.int (Int32.ofNat 12)] (.int (Int32.ofNat 12)) = true := by decide +kernel
theorem z_ke_13 : z_two 16 45 [.int (Int32.ofNat 13)] (.int (Int32.ofNat 13)) = true := by decide +kernel
theorem z_ke_14 : z_two 16 45 [.int (Int32.ofNat 14)] (.int (Int32.ofNat 14)) = true := by decide +kernel
theorem z_ke_15 : z_two 16 45 [.int (Int32.ofNat 15)] (.int (Int32.ofNat 15)) = true := by decide +kernel
theorem z_ke_16 : z_two 16 45 [.int (Int32.ofNat 16)] (.int (Int32.ofNat 16)) = true := by decide +kernel
theorem z_ke_17 : z_two 16 45 [.int (Int32.ofNat 17)] (.int (Int32.ofNat 17)) = true := by decide +kernel
theorem z_ke_18 : z_two 16 45 [.int (Int32.ofNat 18)] (.int (Int32.ofNat 18)) = true := by decide +kernel
theorem z_ke_19 : z_two 16 45 [.int (Int32.ofNat 19)] (.int (Int32.ofNat 19)) = true := by decide +kernel
theorem z_ke_20 : z_two 16 45 [.int (Int32.ofNat 20)] (.int (Int32.ofNat 20)) = true := by decide +kernel
theorem z_k_end (k : Nat) (hk : k < 21) : z_two 16 45 [.int (Int32.ofNat k)] (.int (Int32.ofNat k)) = true := match k, hk with
  | 0, _ => z_ke_0
  | 1, _ => z_ke_1
  | 2, _ => z_ke_2
  | 3, _ => z_ke_3
  | 4, _ => z_ke_4
  | 5, _ => z_ke_5
  | 6, _ => z_ke_6
  | 7, _ => z_ke_7
  | 8, _ => z_ke_8
  | 9, _ => z_ke_9
  | 10, _ => z_ke_10
  | 11, _ => z_ke_11
  | 12, _ => z_ke_12
  | 13, _ => z_ke_13
  | 14, _ => z_ke_14
  | 15, _ => z_ke_15
  | 16, _ => z_ke_16
  | 17, _ => z_ke_17
  | 18, _ => z_ke_18
  | 19, _ => z_ke_19
  | 20, _ => z_ke_20
  | n + 21, h => absurd h (by omega)
theorem z_k_f0 : z_two 19 57 [.int 0] (.int 0) = true := by decide +kernel
theorem z_k_f1 : z_two 19 57 [.int 1] (.int (-1)) = true := by decide +kernel
theorem z_k_ef : z_two 22 60 [.int (-1)] (.int (-1)) = true := by decide +kernel
theorem z_k_st : ∀ k, k < 6 → z_two 23 63 [.int (Int32.ofNat k)] (.int (if k = 5 then -1 else 0)) = true := by decide +kernel
/-- read -/
def z_Sr1 : z_S := z_out (z_cal 24 [.ref 40, .ref 166] z_T3)
def z_Sr2 : z_S := z_out (z_cal 46 [.ref 81] z_Sr1)
theorem z_k_r1 : (decide (z_ans (z_cal 24 [.ref 40, .ref 166] z_T3) = some (.inl (some (.int 1)))) && z_ge z_T3 z_Sr1) = true := by decide +kernel
theorem z_k_r2 : (decide (z_ans (z_cal 46 [.ref 81] z_Sr1) = some (.inl (some (.int 0)))) && z_ge z_Sr1 z_Sr2) = true := by decide +kernel
theorem z_k_r3 : z_cal 43 [.ref 81] z_Sr2 = some (.inl (some (.int 1)), z_Sr2) := z_eqR_i (by decide +kernel)
/-- start -/
def z_Ss1 : z_S := z_out (z_cal 38 [.ref 40] z_T3)
def z_Ss2 : z_S := z_out (z_cal 61 [.ref 81] z_Ss1)
theorem z_k_s1 : (decide (z_ans (z_cal 38 [.ref 40] z_T3) = some (.inl (some (.int 1)))) && z_ge z_T3 z_Ss1) = true := by decide +kernel
theorem z_k_s2 : (decide (z_ans (z_cal 61 [.ref 81] z_Ss1) = some (.inl none)) && z_ge z_Ss1 z_Ss2) = true := by decide +kernel
theorem z_k_s3 : z_cal 43 [.ref 81] z_Ss2 = some (.inl (some (.int 1)), z_Ss2) := z_eqR_i (by decide +kernel)
theorem z_ge_33 : z_ge z_T3 z_T3 = true := by decide +kernel
