/-! The two new objects: the constructors' runs, by decision. -/
def z_A0 : Nat → List (Nat × Int32) := fun k => if k = 12 then [(2, 1), (1, 1), (0, 1)] else []
def z_N0 : Nat → Nat := fun k => if k = 9 then 64 else if k = 10 then 64 else if k = 11 then 64 else if k = 12 then 64 else if k = 14 then 128 else if k = 15 then 128 else if k = 16 then 128 else if k = 17 then 128 else if k = 18 then 128 else if k = 19 then 128 else if k = 39 then 256 else if k = 40 then 256 else 0
def z_V0 : Nat → Nat → Int32 := fun k j => if k = 2 ∧ j = 1 then (-1) else if k = 8 ∧ j = 4 then 3 else if k = 13 ∧ j = 8 then 2 else if k = 38 ∧ j = 9 then (-1) else 0
def z_B0 : Nat → List (Nat × Int32) := fun k => if k = 45 then [(81, 0), (80, 116), (79, 105), (78, 110), (77, 117), (76, 0), (75, 108), (74, 111), (73, 111), (72, 98), (71, 0), (70, 116), (69, 110), (68, 105), (67, 0), (66, 101), (65, 115), (64, 108), (63, 97), (62, 102), (61, 0), (60, 101), (59, 117), (58, 114), (57, 116), (56, 0), (55, 100), (54, 110), (53, 101), (52, 0), (51, 110), (50, 114), (49, 117), (48, 116), (47, 101), (46, 114), (45, 0), (44, 104), (43, 116), (42, 105), (41, 119), (40, 0), (39, 101), (38, 108), (37, 100), (36, 110), (35, 97), (34, 104), (33, 0), (32, 110), (31, 102), (30, 0), (29, 101), (28, 115), (27, 108), (26, 101), (25, 0), (24, 110), (23, 101), (22, 104), (21, 116), (20, 0), (19, 102), (18, 105), (17, 0), (16, 110), (15, 105), (14, 0), (13, 99), (12, 101), (11, 114), (10, 0), (9, 116), (8, 101), (7, 108), (6, 0), (5, 116), (4, 99), (3, 101), (2, 102), (1, 102), (0, 101)] else []
def z_M0 : Nat → List (Nat × Int64) := fun _ => []
def z_U0 : Nat → Nat → Int32 := fun k j => if k = 41 ∧ j = 12 then (-1) else if k = 41 ∧ j = 122 then (-1) else 0
def z_C0 : List z_E := hC z_A0 [] z_N0 z_V0 0
def z_R0 : List z_E := hR z_B0 z_M0 z_U0
def z_T1 : z_S := (z_C0, 9307)
def z_T2 : z_S := (z_C0 ++ z_R0.take 85, 3005622)
set_option maxRecDepth 100000
def z_dC : DecidableEq z_C := inferInstance
def z_dE : DecidableEq z_E := @instDecidableEqSum _ _ (@instDecidableEqProd _ _ inferInstance (@instDecidableEqProd _ _ inferInstance z_dC)) inferInstance
def z_dS : DecidableEq z_S := @instDecidableEqProd _ _ (@instDecidableEqList _ z_dE) inferInstance
def z_dR : DecidableEq (z_O × z_S) := @instDecidableEqProd _ _ inferInstance z_dS
def z_eqR (a b : Option (z_O × z_S)) : Bool := match a, b with
  | some x, some y => @decide (x = y) (z_dR x y)
  | _, _ => false
theorem z_eqR_i {a b : Option (z_O × z_S)} (h : z_eqR a b = true) : a = b := by
  cases a with
  | none => cases h
  | some x =>
    cases b with
    | none => cases h
    | some y => exact congrArg some (@of_decide_eq_true _ (z_dR x y) h)
theorem z_e1 : z_ev z_g0 z_pg z_b0 3000 2000 80000 1 0 (lv_args 0 [.ref 107]) [] ([.inr (0, z_born (z_fty 0) 9)], 9) = some (.inl none, z_T1) := z_eqR_i (by decide +kernel)
theorem z_e2 : z_ev z_g0 z_pg z_b0 3000 2000 80000 134 0 (lv_args 0 [.ref 148]) [] (z_T1.1 ++ [.inr (9, z_born (z_fty 9) 123)], z_T1.2 + 123) = some (.inl none, z_T2) := z_eqR_i (by decide +kernel)
