/-! Runs with numbers that are not known. -/
set_option maxRecDepth 100000
set_option maxHeartbeats 4000000
theorem z_y19 {L : Nat} {xs : Nat → Int32} {f w : Nat} {a : Int32} (h0 : ¬ a = 0) (h1 : ¬ a = 1) : z_Rn L xs f w 19 0 [(0, .ref 40), (1, .int a)] [] z_T3 (.inl (some (.int (-1))), z_T3) := by
  refine z_Rn.blk [(0, .iload_n 1, 1, []), (1, .ifCond .ne 11, 3, [12])] (pc' := (if z_f0 .ne a = true then 12 else 4)) (lv' := [(0, .ref 40), (1, .int a)]) (st' := []) (S' := z_T3) (by decide +kernel) rfl ?_
  refine z_Rn.brT (decide_eq_true h0) ?_
  refine z_Rn.blk [(12, .iload_n 1, 1, []), (13, .iconst 1, 1, []), (14, .if_icmp .ne 13, 3, [27])] (pc' := (if z_f2 .ne a 1 = true then 27 else 17)) (lv' := [(0, .ref 40), (1, .int a)]) (st' := []) (S' := z_T3) (by decide +kernel) rfl ?_
  refine z_Rn.brT (decide_eq_true h1) ?_
  refine z_Rn.blk [(27, .iconst (-1), 1, [])] (pc' := 28) (lv' := [(0, .ref 40), (1, .int a)]) (st' := [.int (-1)]) (S' := z_T3) (by decide +kernel) rfl ?_
  exact z_Rn.ret (i := .ireturn) (len := 1) (aux := []) (by decide +kernel) rfl
theorem z_y57 {L : Nat} {xs : Nat → Int32} {f w : Nat} {a : Int32} (h0 : ¬ a = 0) (h1 : ¬ a = 1) : z_Rn L xs f w 57 0 [(0, .ref 81), (1, .int a)] [] z_T3 (.inl (some (.int (-1))), z_T3) := by
  refine z_Rn.blk [(0, .aload_n 0, 1, []), (1, .iconst 0, 1, []), (2, .putfield 275, 3, [9, 0, 629]), (5, .iload_n 1, 1, []), (6, .ifCond .ne 10, 3, [16])] (pc' := (if z_f0 .ne a = true then 16 else 9)) (lv' := [(0, .ref 81), (1, .int a)]) (st' := []) (S' := z_T3) (by decide +kernel) rfl ?_
  refine z_Rn.brT (decide_eq_true h0) ?_
  refine z_Rn.blk [(16, .iload_n 1, 1, []), (17, .iconst 1, 1, []), (18, .if_icmp .ne 10, 3, [28])] (pc' := (if z_f2 .ne a 1 = true then 28 else 21)) (lv' := [(0, .ref 81), (1, .int a)]) (st' := []) (S' := z_T3) (by decide +kernel) rfl ?_
  refine z_Rn.brT (decide_eq_true h1) ?_
  refine z_Rn.blk [(28, .iconst (-1), 1, [])] (pc' := 29) (lv' := [(0, .ref 81), (1, .int a)]) (st' := [.int (-1)]) (S' := z_T3) (by decide +kernel) rfl ?_
  exact z_Rn.ret (i := .ireturn) (len := 1) (aux := []) (by decide +kernel) rfl
theorem z_y21 {L : Nat} {xs : Nat → Int32} {f w : Nat} {a : Int32} : z_Rn L xs f w 21 0 [(0, .ref 40), (1, .int a)] [] z_T3 (.inl (some (.int (-1))), z_T3) := by
  refine z_Rn.blk [(0, .aload_n 0, 1, []), (1, .getfield 73, 3, [0, 8, 405]), (4, .ifCond .eq 21, 3, [25]), (25, .iconst (-1), 1, [])] (pc' := 26) (lv' := [(0, .ref 40), (1, .int a)]) (st' := [.int (-1)]) (S' := z_T3) (by decide +kernel) rfl ?_
  exact z_Rn.ret (i := .ireturn) (len := 1) (aux := []) (by decide +kernel) rfl
theorem z_y59 {L : Nat} {xs : Nat → Int32} {f w : Nat} {a : Int32} : z_Rn L xs f w 59 0 [(0, .ref 81), (1, .int a)] [] z_T3 (.inl (some (.int (-1))), z_T3) := by
  refine z_Rn.blk [(0, .aload_n 0, 1, []), (1, .getfield 527, 3, [9, 91, 632]), (4, .ifCond .eq 22, 3, [26]), (26, .iconst (-1), 1, [])] (pc' := 27) (lv' := [(0, .ref 81), (1, .int a)]) (st' := [.int (-1)]) (S' := z_T3) (by decide +kernel) rfl ?_
  exact z_Rn.ret (i := .ireturn) (len := 1) (aux := []) (by decide +kernel) rfl
theorem z_y20 {L : Nat} {xs : Nat → Int32} {f w : Nat} (hf : 2 ≤ f) (hw : 100 ≤ w) {a : Int32} : z_Rn L xs f w 20 0 [(0, .ref 40), (1, .int a)] [] z_T3 (.inl (some (.int (-1))), z_T3) := by
  refine z_Rn.blk [(0, .aload_n 0, 1, []), (1, .iload_n 1, 1, [])] (pc' := 2) (lv' := [(0, .ref 40), (1, .int a)]) (st' := [.int a, .ref 40]) (S' := z_T3) (by decide +kernel) rfl ?_
  refine z_Rn.callv (idx := 123) (mj := 21) (na := 1) (q := 491) (b := 40) (as := [.int a]) (rr := []) (v := some (.int (-1))) (S1 := z_T3) (by decide +kernel) rfl (by decide +kernel) ⟨⟨by omega, show 19 + 2 ≤ w by omega⟩, Nat.le_of_ble_eq_true rfl, Nat.le_of_ble_eq_true rfl⟩ ⟨⟨by decide +kernel, by decide +kernel⟩, Nat.le_refl _, Nat.le_refl _⟩ z_y21 ?_
  refine z_Rn.blk [(5, .istore_n 2, 1, []), (6, .iload_n 2, 1, []), (7, .iconst (-1), 1, []), (8, .if_icmp .ne 5, 3, [13]), (11, .iconst (-1), 1, [])] (pc' := 12) (lv' := [(2, .int (-1)), (0, .ref 40), (1, .int a)]) (st' := [.int (-1)]) (S' := z_T3) (by decide +kernel) rfl ?_
  exact z_Rn.ret (i := .ireturn) (len := 1) (aux := []) (by decide +kernel) rfl
theorem z_y58 {L : Nat} {xs : Nat → Int32} {f w : Nat} (hf : 2 ≤ f) (hw : 100 ≤ w) {a : Int32} : z_Rn L xs f w 58 0 [(0, .ref 81), (1, .int a)] [] z_T3 (.inl (some (.int (-1))), z_T3) := by
  refine z_Rn.blk [(0, .aload_n 0, 1, []), (1, .iconst 0, 1, []), (2, .putfield 275, 3, [9, 0, 629]), (5, .aload_n 0, 1, []), (6, .iload_n 1, 1, [])] (pc' := 7) (lv' := [(0, .ref 81), (1, .int a)]) (st' := [.int a, .ref 81]) (S' := z_T3) (by decide +kernel) rfl ?_
  refine z_Rn.callv (idx := 551) (mj := 59) (na := 1) (q := 671) (b := 81) (as := [.int a]) (rr := []) (v := some (.int (-1))) (S1 := z_T3) (by decide +kernel) rfl (by decide +kernel) ⟨⟨by omega, show 19 + 5 ≤ w by omega⟩, Nat.le_of_ble_eq_true rfl, Nat.le_of_ble_eq_true rfl⟩ ⟨⟨by decide +kernel, by decide +kernel⟩, Nat.le_refl _, Nat.le_refl _⟩ z_y59 ?_
  refine z_Rn.blk [(10, .istore_n 2, 1, []), (11, .iload_n 2, 1, []), (12, .iconst 3, 1, []), (13, .if_icmp .ge 7, 3, [20]), (16, .iload_n 2, 1, []), (17, .goto 4, 3, [21])] (pc' := 21) (lv' := [(2, .int (-1)), (0, .ref 81), (1, .int a)]) (st' := [.int (-1)]) (S' := z_T3) (by decide +kernel) rfl ?_
  exact z_Rn.ret (i := .ireturn) (len := 1) (aux := []) (by decide +kernel) rfl
theorem z_y22 {L : Nat} {xs : Nat → Int32} {f w : Nat} (hf : 2 ≤ f) (hw : 100 ≤ w) {a : Int32} (h0 : ¬ a = (-1)) : z_Rn L xs f w 22 0 [(0, .ref 40), (1, .int a)] [] z_T3 (.inl (some (.int (-1))), z_T3) := by
  refine z_Rn.blk [(0, .iload_n 1, 1, []), (1, .iconst (-1), 1, []), (2, .if_icmp .ne 22, 3, [24])] (pc' := (if z_f2 .ne a ((-1)) = true then 24 else 5)) (lv' := [(0, .ref 40), (1, .int a)]) (st' := []) (S' := z_T3) (by decide +kernel) rfl ?_
  refine z_Rn.brT (decide_eq_true h0) ?_
  refine z_Rn.blk [(24, .aload_n 0, 1, []), (25, .iload_n 1, 1, [])] (pc' := 26) (lv' := [(0, .ref 40), (1, .int a)]) (st' := [.int a, .ref 40]) (S' := z_T3) (by decide +kernel) rfl ?_
  refine z_Rn.callv (idx := 123) (mj := 21) (na := 1) (q := 491) (b := 40) (as := [.int a]) (rr := []) (v := some (.int (-1))) (S1 := z_T3) (by decide +kernel) rfl (by decide +kernel) ⟨⟨by omega, show 19 + 2 ≤ w by omega⟩, Nat.le_of_ble_eq_true rfl, Nat.le_of_ble_eq_true rfl⟩ ⟨⟨by decide +kernel, by decide +kernel⟩, Nat.le_refl _, Nat.le_refl _⟩ z_y21 ?_
  refine z_Rn.blk [(29, .istore_n 2, 1, []), (30, .iload_n 2, 1, []), (31, .iconst (-1), 1, []), (32, .if_icmp .eq 25, 3, [57]), (57, .iconst (-1), 1, [])] (pc' := 58) (lv' := [(2, .int (-1)), (0, .ref 40), (1, .int a)]) (st' := [.int (-1)]) (S' := z_T3) (by decide +kernel) rfl ?_
  exact z_Rn.ret (i := .ireturn) (len := 1) (aux := []) (by decide +kernel) rfl
theorem z_y60 {L : Nat} {xs : Nat → Int32} {f w : Nat} (hf : 2 ≤ f) (hw : 100 ≤ w) {a : Int32} (h0 : ¬ a = (-1)) : z_Rn L xs f w 60 0 [(0, .ref 81), (1, .int a)] [] z_T3 (.inl (some (.int (-1))), z_T3) := by
  refine z_Rn.blk [(0, .aload_n 0, 1, []), (1, .iconst 0, 1, []), (2, .putfield 275, 3, [9, 0, 629]), (5, .iload_n 1, 1, []), (6, .iconst (-1), 1, []), (7, .if_icmp .ne 19, 3, [26])] (pc' := (if z_f2 .ne a ((-1)) = true then 26 else 10)) (lv' := [(0, .ref 81), (1, .int a)]) (st' := []) (S' := z_T3) (by decide +kernel) rfl ?_
  refine z_Rn.brT (decide_eq_true h0) ?_
  refine z_Rn.blk [(26, .aload_n 0, 1, []), (27, .iload_n 1, 1, [])] (pc' := 28) (lv' := [(0, .ref 81), (1, .int a)]) (st' := [.int a, .ref 81]) (S' := z_T3) (by decide +kernel) rfl ?_
  refine z_Rn.callv (idx := 551) (mj := 59) (na := 1) (q := 671) (b := 81) (as := [.int a]) (rr := []) (v := some (.int (-1))) (S1 := z_T3) (by decide +kernel) rfl (by decide +kernel) ⟨⟨by omega, show 19 + 5 ≤ w by omega⟩, Nat.le_of_ble_eq_true rfl, Nat.le_of_ble_eq_true rfl⟩ ⟨⟨by decide +kernel, by decide +kernel⟩, Nat.le_refl _, Nat.le_refl _⟩ z_y59 ?_
  refine z_Rn.blk [(31, .istore_n 2, 1, []), (32, .iload_n 2, 1, []), (33, .iconst 3, 1, []), (34, .if_icmp .ge 7, 3, [41]), (37, .iconst (-1), 1, []), (38, .goto 9, 3, [47])] (pc' := 47) (lv' := [(2, .int (-1)), (0, .ref 81), (1, .int a)]) (st' := [.int (-1)]) (S' := z_T3) (by decide +kernel) rfl ?_
  exact z_Rn.ret (i := .ireturn) (len := 1) (aux := []) (by decide +kernel) rfl
theorem z_y23 {L : Nat} {xs : Nat → Int32} {f w : Nat} {a : Int32} (h0 : a.toInt < 0 ∨ 5 < a.toInt) : z_Rn L xs f w 23 0 [(0, .ref 40), (1, .int a)] [] z_T3 (.inl (some (.int (-1))), z_T3) := by
  refine z_Rn.blk [(0, .iload_n 1, 1, [])] (pc' := 1) (lv' := [(0, .ref 40), (1, .int a)]) (st' := [.int a]) (S' := z_T3) (by decide +kernel) rfl ?_
  refine z_Rn.step (i := .tableswitch 87 0 5 #[39, 47, 55, 63, 71, 79]) (len := 39) (aux := [88, 40, 48, 56, 64, 72, 80]) (by decide +kernel) (by decide +kernel) (z_step_tab h0) ?_
  refine z_Rn.blk [(88, .iconst (-1), 1, [])] (pc' := 89) (lv' := [(0, .ref 40), (1, .int a)]) (st' := [.int (-1)]) (S' := z_T3) (by decide +kernel) rfl ?_
  exact z_Rn.ret (i := .ireturn) (len := 1) (aux := []) (by decide +kernel) rfl
theorem z_y63 {L : Nat} {xs : Nat → Int32} {f w : Nat} {a : Int32} (h0 : a.toInt < 0 ∨ 5 < a.toInt) : z_Rn L xs f w 63 0 [(0, .ref 81), (1, .int a)] [] z_T3 (.inl (some (.int (-1))), z_T3) := by
  refine z_Rn.blk [(0, .aload_n 0, 1, []), (1, .iconst 0, 1, []), (2, .putfield 275, 3, [9, 0, 629]), (5, .iload_n 1, 1, [])] (pc' := 6) (lv' := [(0, .ref 81), (1, .int a)]) (st' := [.int a]) (S' := z_T3) (by decide +kernel) rfl ?_
  refine z_Rn.step (i := .tableswitch 100 0 5 #[38, 43, 68, 73, 78, 83]) (len := 38) (aux := [106, 44, 49, 74, 79, 84, 89]) (by decide +kernel) (by decide +kernel) (z_step_tab h0) ?_
  refine z_Rn.blk [(106, .iconst (-1), 1, [])] (pc' := 107) (lv' := [(0, .ref 81), (1, .int a)]) (st' := [.int (-1)]) (S' := z_T3) (by decide +kernel) rfl ?_
  exact z_Rn.ret (i := .ireturn) (len := 1) (aux := []) (by decide +kernel) rfl
theorem z_y16a {L : Nat} {xs : Nat → Int32} {f w : Nat} {a : Int32} (h0 : a < 0) : z_Rn L xs f w 16 0 [(0, .ref 40), (1, .int a)] [] z_T3 (.inl (some (.int (-1))), z_T3) := by
  refine z_Rn.blk [(0, .iload_n 1, 1, []), (1, .ifCond .lt 24, 3, [25])] (pc' := (if z_f0 .lt a = true then 25 else 4)) (lv' := [(0, .ref 40), (1, .int a)]) (st' := []) (S' := z_T3) (by decide +kernel) rfl ?_
  refine z_Rn.brT (decide_eq_true h0) ?_
  refine z_Rn.blk [(25, .iconst (-1), 1, [])] (pc' := 26) (lv' := [(0, .ref 40), (1, .int a)]) (st' := [.int (-1)]) (S' := z_T3) (by decide +kernel) rfl ?_
  exact z_Rn.ret (i := .ireturn) (len := 1) (aux := []) (by decide +kernel) rfl
theorem z_y16b {L : Nat} {xs : Nat → Int32} {f w : Nat} {a : Int32} (h0 : ¬ a < 0) (h1 : 20 < a) : z_Rn L xs f w 16 0 [(0, .ref 40), (1, .int a)] [] z_T3 (.inl (some (.int (-1))), z_T3) := by
  refine z_Rn.blk [(0, .iload_n 1, 1, []), (1, .ifCond .lt 24, 3, [25])] (pc' := (if z_f0 .lt a = true then 25 else 4)) (lv' := [(0, .ref 40), (1, .int a)]) (st' := []) (S' := z_T3) (by decide +kernel) rfl ?_
  refine z_Rn.brF (decide_eq_false h0) ?_
  refine z_Rn.blk [(4, .iload_n 1, 1, []), (5, .bipush 20, 2, []), (7, .if_icmp .gt 18, 3, [25])] (pc' := (if z_f2 .gt a 20 = true then 25 else 10)) (lv' := [(0, .ref 40), (1, .int a)]) (st' := []) (S' := z_T3) (by decide +kernel) rfl ?_
  refine z_Rn.brT (decide_eq_true h1) ?_
  refine z_Rn.blk [(25, .iconst (-1), 1, [])] (pc' := 26) (lv' := [(0, .ref 40), (1, .int a)]) (st' := [.int (-1)]) (S' := z_T3) (by decide +kernel) rfl ?_
  exact z_Rn.ret (i := .ireturn) (len := 1) (aux := []) (by decide +kernel) rfl
theorem z_y45a {L : Nat} {xs : Nat → Int32} {f w : Nat} {a : Int32} (h0 : a < 0) : z_Rn L xs f w 45 0 [(0, .ref 81), (1, .int a)] [] z_T3 (.inl (some (.int (-1))), z_T3) := by
  refine z_Rn.blk [(0, .aload_n 0, 1, []), (1, .iconst 0, 1, []), (2, .putfield 275, 3, [9, 0, 629]), (5, .iload_n 1, 1, []), (6, .ifCond .lt 21, 3, [27])] (pc' := (if z_f0 .lt a = true then 27 else 9)) (lv' := [(0, .ref 81), (1, .int a)]) (st' := []) (S' := z_T3) (by decide +kernel) rfl ?_
  refine z_Rn.brT (decide_eq_true h0) ?_
  refine z_Rn.blk [(27, .iconst (-1), 1, [])] (pc' := 28) (lv' := [(0, .ref 81), (1, .int a)]) (st' := [.int (-1)]) (S' := z_T3) (by decide +kernel) rfl ?_
  exact z_Rn.ret (i := .ireturn) (len := 1) (aux := []) (by decide +kernel) rfl
theorem z_y45b {L : Nat} {xs : Nat → Int32} {f w : Nat} {a : Int32} (h0 : ¬ a < 0) (h1 : 20 < a) : z_Rn L xs f w 45 0 [(0, .ref 81), (1, .int a)] [] z_T3 (.inl (some (.int (-1))), z_T3) := by
  refine z_Rn.blk [(0, .aload_n 0, 1, []), (1, .iconst 0, 1, []), (2, .putfield 275, 3, [9, 0, 629]), (5, .iload_n 1, 1, []), (6, .ifCond .lt 21, 3, [27])] (pc' := (if z_f0 .lt a = true then 27 else 9)) (lv' := [(0, .ref 81), (1, .int a)]) (st' := []) (S' := z_T3) (by decide +kernel) rfl ?_
  refine z_Rn.brF (decide_eq_false h0) ?_
  refine z_Rn.blk [(9, .iload_n 1, 1, []), (10, .bipush 20, 2, []), (12, .if_icmp .gt 15, 3, [27])] (pc' := (if z_f2 .gt a 20 = true then 27 else 15)) (lv' := [(0, .ref 81), (1, .int a)]) (st' := []) (S' := z_T3) (by decide +kernel) rfl ?_
  refine z_Rn.brT (decide_eq_true h1) ?_
  refine z_Rn.blk [(27, .iconst (-1), 1, [])] (pc' := 28) (lv' := [(0, .ref 81), (1, .int a)]) (st' := [.int (-1)]) (S' := z_T3) (by decide +kernel) rfl ?_
  exact z_Rn.ret (i := .ireturn) (len := 1) (aux := []) (by decide +kernel) rfl
def z_T4 : z_S := (z_T3.1 ++ [.inr (11, [])], z_T3.2 + 6)
def z_T5 : z_S := (z_T4.1.set 41 (.inr (9, [.int 1, .ref 82, .ref 83, .ref 84, .ref 85, .int 0, .int 0, .int 0, .int 0, .int 0, .int 0, .int 0, .int (-1), .int 0, .ref 86, .ref 87, .ref 88, .ref 89, .ref 90, .int 0, .ref 91, .ref 92, .ref 93, .ref 94, .ref 95, .ref 96, .int 0, .int 0, .int 0, .ref 97, .ref 98, .ref 99, .ref 100, .ref 101, .ref 102, .ref 103, .ref 104, .ref 105, .ref 106, .ref 107, .ref 108, .ref 109, .ref 110, .ref 111, .ref 112, .ref 113, .ref 114, .ref 115, .ref 116, .ref 117, .ref 118, .ref 119, .int 0, .int 0, .int 0, .int 0, .ref 120, .ref 121, .ref 122, .ref 123, .ref 124, .ref 125, .ref 126, .ref 127, .ref 128, .ref 129, .ref 130, .ref 131, .ref 132, .ref 133, .ref 134, .ref 135, .ref 136, .int 0, .int 0, .int 0, .ref 137, .int 0, .ref 138, .ref 139, .ref 140, .ref 141, .int 0, .ref 142, .ref 143, .ref 144, .ref 145, .ref 146, .ref 147, .ref 148, .ref 149, .int 0, .int 0, .int 0, .int 0, .ref 150, .int 0, .int 0, .int 0, .int 0, .int 0, .int 0, .int 0, .int 0, .int 0, .int 0, .ref 151, .ref 152, .ref 153, .ref 154, .ref 155, .ref 156, .ref 157, .ref 158, .int 0, .ref 159, .ref 160, .ref 161, .ref 162, .ref 163, .ref 164, .ref 165, .int (-1)])), z_T4.2)
theorem z_len3 : z_T3.1.length = 127 := by decide +kernel
theorem z_y41 {L : Nat} {xs : Nat → Int32} {f w : Nat} (hf : 6 ≤ f) (hw : 150 ≤ w) {a : Int32} : z_Rn L xs f w 41 0 [(0, .ref 40), (1, .int a)] [] z_T3 (.inr 167, z_T4) := by
  have key : z_Rn L xs f w 41 0 [(0, .ref 40), (1, .int a)] [] z_T3 (.inr (40 + z_T3.1.length), (z_T3.1 ++ [.inr (11, [])], z_T3.2 + 6)) := by
    refine z_Rn.blk [(0, .aload_n 0, 1, []), (1, .getfield 69, 3, [0, 7, 404]), (4, .getfield 145, 3, [8, 7, 494]), (7, .ifCond .ne 13, 3, [20])] (pc' := 10) (lv' := [(0, .ref 40), (1, .int a)]) (st' := []) (S' := z_T3) (by decide +kernel) rfl ?_
    refine z_Rn.thr (idx := 137) (ci := 11) (q := 1) (by decide +kernel) ⟨⟨by omega, by omega, Nat.zero_le _⟩, by decide +kernel, by decide +kernel⟩ (by decide +kernel)
  rw [z_len3] at key
  exact key
theorem z_y40 {L : Nat} {xs : Nat → Int32} {f w : Nat} (hf : 10 ≤ f) (hw : 300 ≤ w) {a : Int32} : z_Rn L xs f w 40 0 [(0, .ref 40), (1, .int a), (2, .ref 166)] [] z_T3 (.inl (some (.int 1)), z_T4) := by
  refine z_Rn.blk [(0, .aload_n 2, 1, []), (1, .iconst 0, 1, []), (2, .aload_n 0, 1, []), (3, .iload_n 1, 1, [])] (pc' := 4) (lv' := [(0, .ref 40), (1, .int a), (2, .ref 166)]) (st' := [.int a, .ref 40, .int 0, .ref 166]) (S' := z_T3) (by decide +kernel) rfl ?_
  refine z_Rn.caught (i := .invokevirtual 20) (aux := [0, 41, 1, 537]) (mj := 41) (as := [.ref 40, .int a]) (rr := [.int 0, .ref 166]) (x := 167) (S1 := z_T4) (ci := 11) (hp := 12) (by decide +kernel) rfl (z_inv_v rfl (by decide +kernel)) ⟨⟨⟨by omega, show 19 + 2 ≤ w by omega⟩, Nat.le_of_ble_eq_true rfl, Nat.le_of_ble_eq_true rfl⟩, ⟨by decide +kernel, by decide +kernel⟩, by decide +kernel, by decide +kernel⟩ (z_y41 (by omega) (by show 150 ≤ w - (19 + 2); omega)) (by decide +kernel) (by decide +kernel) ?_
  refine z_Rn.blk [(12, .astore_n 3, 1, []), (13, .iconst 1, 1, [])] (pc' := 14) (lv' := [(3, .ref 167), (0, .ref 40), (1, .int a), (2, .ref 166)]) (st' := [.int 1]) (S' := z_T4) (by decide +kernel) rfl ?_
  exact z_Rn.ret (i := .ireturn) (len := 1) (aux := []) (by decide +kernel) rfl
theorem z_y62 {L : Nat} {xs : Nat → Int32} {f w : Nat} {a : Int32} : z_Rn L xs f w 62 0 [(0, .ref 81), (1, .int a)] [] z_T4 (.inl (some (.int 0)), z_T5) := by
  refine z_Rn.blk [(0, .aload_n 0, 1, []), (1, .aload_n 0, 1, []), (2, .getfield 531, 3, [9, 94, 633]), (5, .ifCond .ne 7, 3, [12]), (8, .iconst 1, 1, []), (9, .goto 19, 3, [28]), (28, .putfield 275, 3, [9, 0, 629]), (31, .aload_n 0, 1, []), (32, .getfield 275, 3, [9, 0, 629]), (35, .ifCond .le 5, 3, [40]), (38, .iconst 0, 1, [])] (pc' := 39) (lv' := [(0, .ref 81), (1, .int a)]) (st' := [.int 0]) (S' := z_T5) (by decide +kernel) rfl ?_
  exact z_Rn.ret (i := .ireturn) (len := 1) (aux := []) (by decide +kernel) rfl
theorem z_y43 {L : Nat} {xs : Nat → Int32} {f w : Nat} : z_Rn L xs f w 43 0 [(0, .ref 81)] [] z_T5 (.inl (some (.int 1)), z_T5) := by
  refine z_Rn.blk [(0, .aload_n 0, 1, []), (1, .getfield 275, 3, [9, 0, 629])] (pc' := 4) (lv' := [(0, .ref 81)]) (st' := [.int 1]) (S' := z_T5) (by decide +kernel) rfl ?_
  exact z_Rn.ret (i := .ireturn) (len := 1) (aux := []) (by decide +kernel) rfl
