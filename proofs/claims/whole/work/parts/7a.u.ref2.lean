/-! The reference's run: its loop, step by step. -/
/-- what its machine leaves as it was -/
def y_Rf (R0 R : z_RS) : Prop := (∀ k, k < 98 ∨ (101 < k ∧ k < 111) ∨ 125 < k → R.1 k = R0.1 k) ∧ R.2.1 = R0.2.1 ∧ ∀ j k, ¬ (j = 41 ∧ (k = 77 ∨ (94 ≤ k ∧ k ≤ 105) ∨ k = 114 ∨ k = 122)) → R.2.2 j k = R0.2.2 j k
abbrev y_E : Type := Int32 × Int32 × Int32 × Int32
/-- one more waits -/
def y_pt (hi : Nat) (x : y_E) (R : z_RS) : z_RS := (z_u (z_u (z_u (z_u R.1 111 ((hi, x.1) :: R.1 111)) 112 ((hi, x.2.1) :: R.1 112)) 113 ((hi, x.2.2.1) :: R.1 113)) 114 ((hi, x.2.2.2) :: R.1 114), R.2.1, z_v R.2.2 41 96 (nI (hi + 1)))
/-- a node is begun -/
def y_wk (m nm : Int32) (R : z_RS) : z_RS := (R.1, R.2.1, z_v (z_v (z_v R.2.2 41 102 m) 41 103 nm) 41 105 0)
/-- a value comes -/
def y_gv (v : Int32) (R : z_RS) : z_RS := (R.1, R.2.1, z_v (z_v R.2.2 41 104 v) 41 105 1)
/-- one more function -/
def y_nf (F th : Nat) (n nm : Int32) (R : z_RS) : z_RS := (z_u (z_u (z_u (z_u R.1 119 ((F, n) :: R.1 119)) 120 ((F, nm) :: R.1 120)) 122 ((F, 0) :: R.1 122)) 124 ((F, 0) :: R.1 124), R.2.1, z_v (z_v R.2.2 41 114 (nI (F + 1))) 41 99 (nI (th + 1)))
/-- one int set -/
def y_iv (j : Nat) (v : Int32) (R : z_RS) : z_RS := (R.1, R.2.1, z_v R.2.2 41 j v)
theorem y_iv_k {j : Nat} {v : Int32} {R : z_RS} : (y_iv j v R).2.2 41 j = v := by
  show z_v R.2.2 41 j v 41 j = v
  exact z_vk
theorem y_iv_n {j k : Nat} {v : Int32} {R : z_RS} (h : k ≠ j) : (y_iv j v R).2.2 41 k = R.2.2 41 k := by
  show z_v R.2.2 41 j v 41 k = R.2.2 41 k
  exact z_vn (fun e => h e.2)
theorem y_pt_k {hi : Nat} {x : y_E} {R : z_RS} : (y_pt hi x R).2.2 41 96 = nI (hi + 1) := by
  show z_v R.2.2 41 96 (nI (hi + 1)) 41 96 = nI (hi + 1)
  exact z_vk
theorem y_pt_n {hi k : Nat} {x : y_E} {R : z_RS} (h : k ≠ 96) : (y_pt hi x R).2.2 41 k = R.2.2 41 k := by
  show z_v R.2.2 41 96 (nI (hi + 1)) 41 k = R.2.2 41 k
  exact z_vn (fun e => h e.2)
theorem y_nf_n {F th k : Nat} {n nm : Int32} {R : z_RS} (h : k ≠ 99) (h2 : k ≠ 114) : (y_nf F th n nm R).2.2 41 k = R.2.2 41 k := by
  show z_v (z_v R.2.2 41 114 (nI (F + 1))) 41 99 (nI (th + 1)) 41 k = R.2.2 41 k
  rw [z_vn (fun e => h e.2), z_vn (fun e => h2 e.2)]
section YRA
variable {l : Nat} {R : z_RS} {Q : Option Value → z_RS → Prop} {n f0 g : Int32} {m hi th dp F : Nat} {nm v : Int32}
theorem r207 {a b c d : Int32} (h96 : R.2.2 41 96 = nI hi) (hh : hi < 140000) (k : Q none (y_pt hi (a, b, c, d) R)) : z_WR (l + 1) 207 0 [(0, .ref 148), (1, .int a), (2, .int b), (3, .int c), (4, .int d)] [] R Q := by
  obtain ⟨B, M, U⟩ := R
  have h96 : U 41 96 = nI hi := h96
  have zi : z_in (nI hi) 140000 = true := z_inI hh (by decide)
  refine t207_0 ?_
  unfold p207_0
  rw [h96, nI_clamp (by omega), show nI hi + 1 = nI (hi + 1) from z_nI2 (i := hi) (k := 1)]
  exact ⟨zi, zi, zi, zi, k⟩
theorem r206 (k : Q none (y_gv v R)) : z_WR (l + 1) 206 0 [(0, .ref 148), (1, .int v)] [] R Q := by
  obtain ⟨B, M, U⟩ := R
  refine t206_0 ?_
  unfold p206_0
  exact ⟨rfl, k⟩
theorem r208 {a : Int32} (k : Q none (y_wk a nm R)) : z_WR (l + 1) 208 0 [(0, .ref 148), (1, .int a), (2, .int nm)] [] R Q := by
  obtain ⟨B, M, U⟩ := R
  refine t208_0 ?_
  unfold p208_0
  exact ⟨rfl, k⟩
theorem r209 {a : Int32} (h114 : R.2.2 41 114 = nI F) (h99 : R.2.2 41 99 = nI th) (hF : F ≤ 1000) (k : Q (some (.int (nI F))) (y_nf F th a nm R)) : z_WR (l + 1) 209 0 [(0, .ref 148), (1, .int a), (2, .int nm)] [] R Q := by
  obtain ⟨B, M, U⟩ := R
  have h114 : U 41 114 = nI F := h114
  have h99 : U 41 99 = nI th := h99
  have zi : z_in (nI F) 1001 = true := z_inI (by omega) (by decide)
  refine t209_0 ?_
  unfold p209_0
  rw [h114, h99, nI_clamp (by omega), show nI F + 1 = nI (F + 1) from z_nI2 (i := F) (k := 1), show nI th + 1 = nI (th + 1) from z_nI2 (i := th) (k := 1), nI_pred]
  exact ⟨zi, zi, zi, zi, k⟩
/-- the loop -/
def y_RL (n f0 g : Int32) (R : z_RS) (Q : Option Value → z_RS → Prop) : Prop := z_WR 12 204 47 [(0, .ref 148), (1, .int n), (2, .int f0), (3, .int g)] [] R Q
theorem y_end (h : ¬ R.2.2 41 94 = 1) (k : Q (some (.int (R.2.2 41 98 - f0))) R) : y_RL n f0 g R Q := by
  obtain ⟨B, M, U⟩ := R
  refine t204_47 ?_
  unfold p204_47
  rw [if_neg h]
  exact k
theorem y_end0 (k : Q (some (.int (R.2.2 41 98 - f0))) R) : y_RL n f0 0 R Q := by
  obtain ⟨B, M, U⟩ := R
  refine t204_47 ?_
  unfold p204_47
  by_cases h : U 41 94 = 1
  · rw [if_pos h]
    unfold p204_55
    rw [if_pos rfl]
    exact k
  · rw [if_neg h]
    exact k
theorem y_bg (h1 : R.2.2 41 94 = 1) (h2 : R.2.2 41 105 = 0) (h : p205_0 10 R.1 R.2.1 R.2.2 (fun x R1 => x = none ∧ y_RL n f0 1 R1 Q)) : y_RL n f0 1 R Q := by
  obtain ⟨B, M, U⟩ := R
  refine t204_47 ?_
  unfold p204_47
  rw [if_pos h1]
  unfold p204_55
  rw [if_neg (by decide)]
  unfold p204_59
  rw [if_pos h2]
  unfold p204_66
  exact z_WR.im (t205_0 h) (fun x R1 q => ⟨q.1, q.2⟩)
theorem y_bk (h1 : R.2.2 41 94 = 1) (h2 : R.2.2 41 105 = 1) (h96 : R.2.2 41 96 = nI (hi + 1)) (hh : hi < 140000) (h : p214_0 10 R.1 R.2.1 R.2.2 (n - (R.2.2 41 98 - f0)) (fun x R1 => ∃ w : Int32, x = some (.int w) ∧ y_RL n f0 w R1 Q)) : y_RL n f0 1 R Q := by
  obtain ⟨B, M, U⟩ := R
  have h96 : U 41 96 = nI (hi + 1) := h96
  have h2 : U 41 105 = 1 := h2
  refine t204_47 ?_
  unfold p204_47
  rw [if_pos h1]
  unfold p204_55
  rw [if_neg (by decide)]
  unfold p204_59
  rw [if_neg (by rw [h2]; decide)]
  unfold p204_73
  rw [if_neg (by rw [h96]; exact fun q => absurd ((nI_eq (a := hi + 1) (b := 0) (by omega) (by decide)).mp q) (by omega))]
  unfold p204_88
  refine z_WR.im (t214_0 h) (fun x R1 q => ?_)
  obtain ⟨w, q1, q2⟩ := q
  exact ⟨w, q1, q2⟩
/-- it is done -/
theorem y_done (h1 : R.2.2 41 94 = 1) (h2 : R.2.2 41 105 = 1) (h96 : R.2.2 41 96 = 0) (k : y_RL n f0 1 (y_iv 94 2 R) Q) : y_RL n f0 1 R Q := by
  obtain ⟨B, M, U⟩ := R
  have h96 : U 41 96 = 0 := h96
  have h2 : U 41 105 = 1 := h2
  refine t204_47 ?_
  unfold p204_47
  rw [if_pos h1]
  unfold p204_55
  rw [if_neg (by decide)]
  unfold p204_59
  rw [if_neg (by rw [h2]; decide)]
  unfold p204_73
  rw [if_pos h96]
  unfold p204_80
  exact k
end YRA
section YRB
variable {R : z_RS} {Q : Option Value → z_RS → Prop} {n f0 : Int32} {m hi th dp F : Nat} {nm v : Int32}
/-- it begins node m, with the names nm -/
def y_Wk (m : Nat) (nm : Int32) (R : z_RS) : Prop := R.2.2 41 94 = 1 ∧ R.2.2 41 105 = 0 ∧ R.2.2 41 102 = nI m ∧ R.2.2 41 103 = nm ∧ m < 600
theorem y_Wk.go (h : y_Wk m nm R) {kd : Int32} (hk : z_fn 0 (R.1 57) m = kd) (k : if kd = 0 then p205_146 10 R.1 R.2.1 R.2.2 (nI m) nm (fun x R1 => x = none ∧ y_RL n f0 1 R1 Q) else if kd = 1 then p205_266 10 R.1 R.2.1 R.2.2 (nI m) nm (fun x R1 => x = none ∧ y_RL n f0 1 R1 Q) else if kd = 2 then p205_168 10 R.1 R.2.1 R.2.2 (nI m) nm (fun x R1 => x = none ∧ y_RL n f0 1 R1 Q) else if kd = 3 then p205_235 10 R.1 R.2.1 R.2.2 (nI m) nm (fun x R1 => x = none ∧ y_RL n f0 1 R1 Q) else if kd = 4 then p205_275 10 R.1 R.2.1 R.2.2 (nI m) nm (fun x R1 => x = none ∧ y_RL n f0 1 R1 Q) else if kd = 10 then p205_190 10 R.1 R.2.1 R.2.2 (nI m) nm (fun x R1 => x = none ∧ y_RL n f0 1 R1 Q) else if kd = 11 then p205_212 10 R.1 R.2.1 R.2.2 (nI m) nm (fun x R1 => x = none ∧ y_RL n f0 1 R1 Q) else if kd = 12 then p205_96 10 R.1 R.2.1 R.2.2 (nI m) nm (fun x R1 => x = none ∧ y_RL n f0 1 R1 Q) else if kd = 13 then p205_96 10 R.1 R.2.1 R.2.2 (nI m) nm (fun x R1 => x = none ∧ y_RL n f0 1 R1 Q) else if kd = 14 then p205_109 10 R.1 R.2.1 R.2.2 (nI m) nm (fun x R1 => x = none ∧ y_RL n f0 1 R1 Q) else if kd = 15 then p205_117 10 R.1 R.2.1 R.2.2 (nI m) nm (fun x R1 => x = none ∧ y_RL n f0 1 R1 Q) else p205_355 10 R.1 R.2.1 R.2.2 (nI m) nm (fun x R1 => x = none ∧ y_RL n f0 1 R1 Q)) : y_RL n f0 1 R Q := by
  obtain ⟨h1, h2, h3, h4, h5⟩ := h
  refine y_bg h1 h2 ?_
  unfold p205_0
  rw [h3, h4, nI_clamp (by omega), hk]
  exact ⟨z_inI h5 (by decide), k⟩
theorem y_ret {a c : Int32} (k : y_RL n f0 1 R Q) : p205_374 10 R.1 R.2.1 R.2.2 a c (fun x R1 => x = none ∧ y_RL n f0 1 R1 Q) := by
  unfold p205_374
  exact ⟨rfl, k⟩
theorem y_b0 (h : y_Wk m nm R) (h96 : R.2.2 41 96 = nI hi) (hh : hi < 140000) (hk : z_fn 0 (R.1 57) m = 0) (k : y_RL n f0 1 (y_wk (z_fn 0 (R.1 58) m) nm (y_pt hi (3, nI m, 0, nm) R)) Q) : y_RL n f0 1 R Q := by
  have h5 := h.2.2.2.2
  refine h.go hk ?_
  rw [if_pos rfl]
  unfold p205_146
  refine r207 h96 hh ⟨rfl, ?_⟩
  unfold p205_154
  rw [nI_clamp (by omega)]
  exact ⟨z_inI h5 (by decide), r208 ⟨rfl, y_ret k⟩⟩
theorem y_b2 (h : y_Wk m nm R) (h96 : R.2.2 41 96 = nI hi) (hh : hi < 140000) (hk : z_fn 0 (R.1 57) m = 2) (k : y_RL n f0 1 (y_wk (z_fn 0 (R.1 58) m) nm (y_pt hi (2, nI m, 0, nm) R)) Q) : y_RL n f0 1 R Q := by
  have h5 := h.2.2.2.2
  refine h.go hk ?_
  rw [if_neg (by decide), if_neg (by decide), if_pos rfl]
  unfold p205_168
  refine r207 h96 hh ⟨rfl, ?_⟩
  unfold p205_176
  rw [nI_clamp (by omega)]
  exact ⟨z_inI h5 (by decide), r208 ⟨rfl, y_ret k⟩⟩
theorem y_b10 (h : y_Wk m nm R) (h96 : R.2.2 41 96 = nI hi) (hh : hi < 140000) (hk : z_fn 0 (R.1 57) m = 10) (k : y_RL n f0 1 (y_wk (z_fn 0 (R.1 58) m) nm (y_pt hi (4, nI m, 0, nm) R)) Q) : y_RL n f0 1 R Q := by
  have h5 := h.2.2.2.2
  refine h.go hk ?_
  rw [if_neg (by decide), if_neg (by decide), if_neg (by decide), if_neg (by decide), if_neg (by decide), if_pos rfl]
  unfold p205_190
  refine r207 h96 hh ⟨rfl, ?_⟩
  unfold p205_198
  rw [nI_clamp (by omega)]
  exact ⟨z_inI h5 (by decide), r208 ⟨rfl, y_ret k⟩⟩
theorem y_b11 (h : y_Wk m nm R) (h96 : R.2.2 41 96 = nI hi) (hh : hi < 140000) (hk : z_fn 0 (R.1 57) m = 11) (k : y_RL n f0 1 (y_wk (z_fn 0 (R.1 58) m) nm (y_pt hi (6, nI m, 0, nm) R)) Q) : y_RL n f0 1 R Q := by
  have h5 := h.2.2.2.2
  refine h.go hk ?_
  rw [if_neg (by decide), if_neg (by decide), if_neg (by decide), if_neg (by decide), if_neg (by decide), if_neg (by decide), if_pos rfl]
  unfold p205_212
  refine r207 h96 hh ⟨rfl, ?_⟩
  unfold p205_221
  rw [nI_clamp (by omega)]
  exact ⟨z_inI h5 (by decide), r208 ⟨rfl, y_ret k⟩⟩
theorem y_b5 (h : y_Wk m nm R) (h96 : R.2.2 41 96 = nI hi) (hh : hi < 140000) {kd : Nat} (k1 : 5 ≤ kd) (k2 : kd ≤ 9) (hk : z_fn 0 (R.1 57) m = nI kd) (k : y_RL n f0 1 (y_wk (z_fn 0 (R.1 58) m) nm (y_pt hi (0, nI m, 0, nm) R)) Q) : y_RL n f0 1 R Q := by
  have h5 := h.2.2.2.2
  have ne : ∀ j : Nat, j < 2 ^ 31 → kd ≠ j → ¬ nI kd = nI j := fun j hj hn q => hn ((nI_eq (by omega) hj).mp q)
  refine h.go hk ?_
  rw [if_neg (show ¬ nI kd = 0 from ne 0 (by decide) (by omega)), if_neg (show ¬ nI kd = 1 from ne 1 (by decide) (by omega)), if_neg (show ¬ nI kd = 2 from ne 2 (by decide) (by omega)), if_neg (show ¬ nI kd = 3 from ne 3 (by decide) (by omega)), if_neg (show ¬ nI kd = 4 from ne 4 (by decide) (by omega)), if_neg (show ¬ nI kd = 10 from ne 10 (by decide) (by omega)), if_neg (show ¬ nI kd = 11 from ne 11 (by decide) (by omega)), if_neg (show ¬ nI kd = 12 from ne 12 (by decide) (by omega)), if_neg (show ¬ nI kd = 13 from ne 13 (by decide) (by omega)), if_neg (show ¬ nI kd = 14 from ne 14 (by decide) (by omega)), if_neg (show ¬ nI kd = 15 from ne 15 (by decide) (by omega))]
  unfold p205_355
  refine r207 h96 hh ⟨rfl, ?_⟩
  unfold p205_363
  rw [nI_clamp (by omega)]
  exact ⟨z_inI h5 (by decide), r208 ⟨rfl, y_ret k⟩⟩
/-- a handle -/
theorem y_b4 (h : y_Wk m nm R) (h96 : R.2.2 41 96 = nI hi) (hh : hi < 140000) (hk : z_fn 0 (R.1 57) m = 4) (h99 : R.2.2 41 99 = nI th) (h100 : R.2.2 41 100 = nI dp) (ht : th < 1000) (hd : dp < 400) (k : y_RL n f0 1 (y_wk (z_fn 0 (R.1 58) m) nm (y_pt hi (8, nI m, 0, nm) (y_iv 100 (nI (dp + 1)) (y_iv 99 (nI (th + 1)) R)))) Q) : y_RL n f0 1 R Q := by
  have h5 := h.2.2.2.2
  refine h.go hk ?_
  rw [if_neg (by decide), if_neg (by decide), if_neg (by decide), if_neg (by decide), if_pos rfl]
  unfold p205_275
  rw [h99, if_neg (show ¬ nI th = 1000 from fun q => absurd ((nI_eq (a := th) (b := 1000) (by omega) (by decide)).mp q) (by omega))]
  unfold p205_293
  rw [h100, if_neg (show ¬ nI dp = 400 from fun q => absurd ((nI_eq (a := dp) (b := 400) (by omega) (by decide)).mp q) (by omega))]
  unfold p205_312
  rw [h99, h100, show nI th + 1 = nI (th + 1) from z_nI2 (i := th) (k := 1), show nI dp + 1 = nI (dp + 1) from z_nI2 (i := dp) (k := 1)]
  refine r207 (R := y_iv 100 (nI (dp + 1)) (y_iv 99 (nI (th + 1)) R)) (((y_iv_n (by decide)).trans (y_iv_n (by decide))).trans h96) hh ⟨rfl, ?_⟩
  unfold p205_341
  rw [nI_clamp (by omega)]
  exact ⟨z_inI h5 (by decide), r208 ⟨rfl, y_ret k⟩⟩
theorem y_b4f (h : y_Wk m nm R) (hk : z_fn 0 (R.1 57) m = 4) (h99 : R.2.2 41 99 = 1000) (k : Q (some (.int (R.2.2 41 98 - f0))) (y_iv 94 5 R)) : y_RL n f0 1 R Q := by
  refine h.go hk ?_
  rw [if_neg (by decide), if_neg (by decide), if_neg (by decide), if_neg (by decide), if_pos rfl]
  unfold p205_275
  rw [if_pos h99]
  unfold p205_285 p205_374
  exact ⟨rfl, y_end (R := y_iv 94 5 R) (by rw [y_iv_k]; decide) (by rw [show (y_iv 94 5 R).2.2 41 98 = R.2.2 41 98 from rfl]; exact k)⟩
theorem y_b4d (h : y_Wk m nm R) (hk : z_fn 0 (R.1 57) m = 4) (h99 : ¬ R.2.2 41 99 = 1000) (h100 : R.2.2 41 100 = 400) (k : Q (some (.int (R.2.2 41 98 - f0))) (y_iv 94 6 R)) : y_RL n f0 1 R Q := by
  refine h.go hk ?_
  rw [if_neg (by decide), if_neg (by decide), if_neg (by decide), if_neg (by decide), if_pos rfl]
  unfold p205_275
  rw [if_neg h99]
  unfold p205_293
  rw [if_pos h100]
  unfold p205_303 p205_374
  exact ⟨rfl, y_end (R := y_iv 94 6 R) (by rw [y_iv_k]; decide) (by rw [show (y_iv 94 6 R).2.2 41 98 = R.2.2 41 98 from rfl]; exact k)⟩
/-- atoms -/
theorem y_b12 (h : y_Wk m nm R) (hk : z_fn 0 (R.1 57) m = 12 ∨ z_fn 0 (R.1 57) m = 13) (k : y_RL n f0 1 (y_gv (z_fn 0 (R.1 68) m) R) Q) : y_RL n f0 1 R Q := by
  have h5 := h.2.2.2.2
  have q : p205_96 10 R.1 R.2.1 R.2.2 (nI m) nm (fun x R1 => x = none ∧ y_RL n f0 1 R1 Q) := by
    unfold p205_96
    rw [nI_clamp (by omega)]
    exact ⟨z_inI h5 (by decide), r206 ⟨rfl, y_ret k⟩⟩
  rcases hk with hk | hk
  · refine h.go hk ?_
    rw [if_neg (by decide), if_neg (by decide), if_neg (by decide), if_neg (by decide), if_neg (by decide), if_neg (by decide), if_neg (by decide), if_pos rfl]
    exact q
  · refine h.go hk ?_
    rw [if_neg (by decide), if_neg (by decide), if_neg (by decide), if_neg (by decide), if_neg (by decide), if_neg (by decide), if_neg (by decide), if_neg (by decide), if_pos rfl]
    exact q
theorem y_b14 (h : y_Wk m nm R) (hk : z_fn 0 (R.1 57) m = 14) (k : y_RL n f0 1 (y_gv 0 R) Q) : y_RL n f0 1 R Q := by
  refine h.go hk ?_
  rw [if_neg (by decide), if_neg (by decide), if_neg (by decide), if_neg (by decide), if_neg (by decide), if_neg (by decide), if_neg (by decide), if_neg (by decide), if_neg (by decide), if_pos rfl]
  unfold p205_109
  exact r206 ⟨rfl, y_ret k⟩
/-- a function -/
theorem y_b3 (h : y_Wk m nm R) (hk : z_fn 0 (R.1 57) m = 3) (h99 : R.2.2 41 99 = nI th) (ht : th < 1000) (h114 : R.2.2 41 114 = nI F) (hF : F ≤ 1000) (k : y_RL n f0 1 (y_gv (nI F) (y_nf F th (nI m) nm R)) Q) : y_RL n f0 1 R Q := by
  refine h.go hk ?_
  rw [if_neg (by decide), if_neg (by decide), if_neg (by decide), if_pos rfl]
  unfold p205_235
  rw [h99, if_neg (show ¬ nI th = 1000 from fun q => absurd ((nI_eq (a := th) (b := 1000) (by omega) (by decide)).mp q) (by omega))]
  unfold p205_253
  refine r209 h114 h99 hF ⟨nI F, rfl, ?_⟩
  unfold p205_260
  exact r206 ⟨rfl, y_ret k⟩
theorem y_b3f (h : y_Wk m nm R) (hk : z_fn 0 (R.1 57) m = 3) (h99 : R.2.2 41 99 = 1000) (k : Q (some (.int (R.2.2 41 98 - f0))) (y_iv 94 5 R)) : y_RL n f0 1 R Q := by
  refine h.go hk ?_
  rw [if_neg (by decide), if_neg (by decide), if_neg (by decide), if_pos rfl]
  unfold p205_235
  rw [if_pos h99]
  unfold p205_245 p205_374
  exact ⟨rfl, y_end (R := y_iv 94 5 R) (by rw [y_iv_k]; decide) (by rw [show (y_iv 94 5 R).2.2 41 98 = R.2.2 41 98 from rfl]; exact k)⟩
/-- a function that calls itself -/
theorem y_b1f (h : y_Wk m nm R) (hk : z_fn 0 (R.1 57) m = 1) (h99 : R.2.2 41 99 = 1000) (k : Q (some (.int (R.2.2 41 98 - f0))) (y_iv 94 5 R)) : y_RL n f0 1 R Q := by
  refine h.go hk ?_
  rw [if_neg (by decide), if_pos rfl]
  unfold p205_266
  refine t210_0 ?_
  unfold p210_0
  rw [if_pos h99]
  unfold p210_10
  exact ⟨rfl, rfl, y_end (R := y_iv 94 5 R) (by rw [y_iv_k]; decide) (by rw [show (y_iv 94 5 R).2.2 41 98 = R.2.2 41 98 from rfl]; exact k)⟩
/-- what a name asks for -/
def y_As (x4 : Int32) (hi F : Nat) (Lv : Nat → Prop) (R : z_RS) : Prop := R.2.2 41 96 = nI hi ∧ hi ≤ 140000 ∧ R.2.2 41 114 = nI F ∧ F ≤ 1000 ∧ y_Ro R x4 hi F Lv ∧ (∀ P, y_Ro R x4 hi F P → ∀ c, Lv c → P c) ∧ (∃ cc fl, y_Fi R cc fl ∧ ∀ c, Lv c → c < cc ∧ ¬ c ∈ fl) ∧ ∃ L : List Nat, L.length < 200000 ∧ ∀ c, Lv c → c ∈ L
theorem y_As.nd {l : Nat} {Lv : Nat → Prop} {x1 x2 x3 x4 : Int32} (h : y_As x4 hi F Lv R) (k : ∀ R' j, y_Nd x1 x2 x3 x4 Lv R R' j → Q (some (.int (nI j))) R') : z_WR (l + 3) 211 0 [(0, .ref 148), (1, .int x1), (2, .int x2), (3, .int x3), (4, .int x4)] [] R Q := by
  obtain ⟨h1, h2, h3, h4, h5, h6, ⟨cc, fl, h7, h8⟩, h9⟩ := h
  exact r211 h1 h2 h3 h4 h5 h6 h7 h8 h9 k
theorem y_b1 {Lv : Nat → Prop} (h : y_Wk m nm R) (hk : z_fn 0 (R.1 57) m = 1) (h99 : R.2.2 41 99 = nI th) (ht : th < 1000) (h114 : R.2.2 41 114 = nI F) (hF : F < 1000) (ha : y_As nm hi (F + 1) Lv (y_nf F th (nI m) (-1) R)) : ∃ R' j, y_Nd (z_fn 0 (R.1 64) m) (z_fn 0 (R.1 65) m) (nI F) nm Lv (y_nf F th (nI m) (-1) R) R' j ∧ ∀ Q, y_RL n f0 1 (y_wk (z_fn 0 (R.1 59) m) (nI j) (z_u R'.1 120 ((F, nI j) :: R'.1 120), R'.2.1, R'.2.2)) Q → y_RL n f0 1 R Q := by
  have h5 := h.2.2.2.2
  have cm : (nI m).toNatClampNeg = m := nI_clamp (by omega)
  have cF : (nI F).toNatClampNeg = F := nI_clamp (by omega)
  have zm : z_in (nI m) 600 = true := z_inI h5 (by decide)
  obtain ⟨v, R', hr, j, rfl, hn⟩ := ha.nd (l := 6) (x1 := z_fn 0 (R.1 64) m) (x2 := z_fn 0 (R.1 65) m) (x3 := nI F) (Q := fun v R' => ∃ j, v = some (.int (nI j)) ∧ y_Nd (z_fn 0 (R.1 64) m) (z_fn 0 (R.1 65) m) (nI F) nm Lv (y_nf F th (nI m) (-1) R) R' j) (fun R' j q => ⟨j, rfl, q⟩)
  refine ⟨R', j, hn, fun Q k => ?_⟩
  refine h.go hk ?_
  rw [if_neg (by decide), if_pos rfl]
  unfold p205_266
  refine t210_0 (l := 9) ?_
  unfold p210_0
  rw [h99, if_neg (show ¬ nI th = 1000 from fun q => absurd ((nI_eq (a := th) (b := 1000) (by omega) (by decide)).mp q) (by omega))]
  unfold p210_16
  refine r209 h114 h99 (by omega) ⟨nI F, rfl, ?_⟩
  unfold p210_22
  rw [cm]
  refine ⟨zm, zm, ?_⟩
  refine ⟨_, R', hr, nI j, rfl, ?_⟩
  unfold p210_41
  rw [cF, cm]
  refine ⟨z_inI (by omega) (by decide), zm, r208 ⟨rfl, rfl, y_ret ?_⟩⟩
  have e59 : R'.1 59 = R.1 59 := hn.2.2.1 59 (by omega)
  rw [← e59] at k
  exact k
end YRB
