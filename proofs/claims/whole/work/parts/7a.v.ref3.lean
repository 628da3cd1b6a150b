/-! The reference's run: a value goes back to what waits. -/
/-- a value v has come; on top waits (w, m, vv, nm) -/
def y_Vl (hi : Nat) (w : Int32) (m : Nat) (vv nm v : Int32) (R : z_RS) : Prop := R.2.2 41 94 = 1 ∧ R.2.2 41 105 = 1 ∧ R.2.2 41 104 = v ∧ R.2.2 41 96 = nI (hi + 1) ∧ (hi < 140000 ∧ m < 600) ∧ z_fn 0 (R.1 111) hi = w ∧ z_fn 0 (R.1 112) hi = nI m ∧ z_fn 0 (R.1 113) hi = vv ∧ z_fn 0 (R.1 114) hi = nm
/-- what comes behind -/
def y_Ps (n f0 : Int32) (Q : Option Value → z_RS → Prop) (x : Option Value) (R : z_RS) : Prop := ∃ w : Int32, x = some (.int w) ∧ y_RL n f0 w R Q
section YRC
variable {R : z_RS} {Q : Option Value → z_RS → Prop} {n f0 : Int32} {m hi th dp F : Nat} {w vv nm v : Int32}
theorem y_Vl.go (h : y_Vl hi w m vv nm v R) (hl : ((w = 5 ∨ w = 6) → ¬ n - (R.2.2 41 98 - f0) = 0)) (k : p214_55 10 R.1 R.2.1 R.2.2 (n - (R.2.2 41 98 - f0)) (nI hi) (nI m) nm v (y_Ps n f0 Q)) : y_RL n f0 1 R Q := by
  obtain ⟨h1, h2, h3, h4, ⟨h5, h6⟩, e1, e2, e3, e4⟩ := h
  have zi : z_in (nI hi) 140000 = true := z_inI h5 (by decide)
  have zi' : z_in (nI (hi + 1) - 1) 140000 = true := by rw [nI_pred]; exact zi
  refine y_bk h1 h2 h4 h5 ?_
  unfold p214_0
  rw [h4, nI_pred, nI_clamp (by omega), e1, e2, e4, h3]
  refine ⟨zi, zi, zi, ?_⟩
  by_cases w5 : w = 5
  · rw [if_pos w5]
    unfold p214_49
    rw [if_neg (hl (Or.inl w5))]
    exact k
  · rw [if_neg w5]
    unfold p214_38
    rw [nI_clamp (by omega), e1]
    refine ⟨zi, ?_⟩
    by_cases w6 : w = 6
    · rw [if_pos w6]
      unfold p214_49
      rw [if_neg (hl (Or.inr w6))]
      exact k
    · rw [if_neg w6]
      exact k
/-- there is no fuel left -/
theorem y_g5s (h : y_Vl hi w m vv nm v R) (hw : w = 5 ∨ w = 6) (hl : n - (R.2.2 41 98 - f0) = 0) (k : Q (some (.int (R.2.2 41 98 - f0))) R) : y_RL n f0 1 R Q := by
  obtain ⟨h1, h2, h3, h4, ⟨h5, h6⟩, e1, e2, e3, e4⟩ := h
  have zi : z_in (nI hi) 140000 = true := z_inI h5 (by decide)
  refine y_bk h1 h2 h4 h5 ?_
  unfold p214_0
  rw [h4, nI_pred, nI_clamp (by omega), e1, e2, e4, h3, hl]
  refine ⟨zi, zi, zi, ?_⟩
  have q : p214_49 10 R.1 R.2.1 R.2.2 0 (nI hi) (nI m) nm v (y_Ps n f0 Q) := by
    unfold p214_49
    rw [if_pos rfl]
    unfold p214_53
    exact ⟨0, rfl, y_end0 k⟩
  rcases hw with hw | hw
  · rw [if_pos hw]
    exact q
  · rw [if_neg (by rw [hw]; decide)]
    unfold p214_38
    rw [nI_clamp (by omega), e1]
    refine ⟨zi, ?_⟩
    rw [if_pos hw]
    exact q
/-- the switch -/
theorem y_Vl.sw (h : y_Vl hi w m vv nm v R) (hl : ((w = 5 ∨ w = 6) → ¬ n - (R.2.2 41 98 - f0) = 0)) (k : (if w = 0 then p214_120 10 R.1 R.2.1 (z_v R.2.2 41 96 (nI hi)) (n - (R.2.2 41 98 - f0)) (nI hi) (nI m) nm v (y_Ps n f0 Q) else if w = 1 then p214_145 10 R.1 R.2.1 (z_v R.2.2 41 96 (nI hi)) (n - (R.2.2 41 98 - f0)) (nI hi) (nI m) nm v (y_Ps n f0 Q) else if w = 2 then p214_169 10 R.1 R.2.1 (z_v R.2.2 41 96 (nI hi)) (n - (R.2.2 41 98 - f0)) (nI hi) (nI m) nm v (y_Ps n f0 Q) else if w = 3 then p214_199 10 R.1 R.2.1 (z_v R.2.2 41 96 (nI hi)) (n - (R.2.2 41 98 - f0)) (nI hi) (nI m) nm v (y_Ps n f0 Q) else if w = 4 then p214_236 10 R.1 R.2.1 (z_v R.2.2 41 96 (nI hi)) (n - (R.2.2 41 98 - f0)) (nI hi) (nI m) nm v (y_Ps n f0 Q) else if w = 5 then p214_261 10 R.1 R.2.1 (z_v R.2.2 41 96 (nI hi)) (n - (R.2.2 41 98 - f0)) (nI hi) (nI m) nm v (y_Ps n f0 Q) else if w = 6 then p214_276 10 R.1 R.2.1 (z_v R.2.2 41 96 (nI hi)) (n - (R.2.2 41 98 - f0)) (nI hi) (nI m) nm v (y_Ps n f0 Q) else if w = 8 then p214_286 10 R.1 R.2.1 (z_v R.2.2 41 96 (nI hi)) (n - (R.2.2 41 98 - f0)) (nI hi) (nI m) nm v (y_Ps n f0 Q) else p214_328 10 R.1 R.2.1 (z_v R.2.2 41 96 (nI hi)) (n - (R.2.2 41 98 - f0)) (nI hi) (nI m) nm v (y_Ps n f0 Q))) : y_RL n f0 1 R Q := by
  refine h.go hl ?_
  obtain ⟨h1, h2, h3, h4, ⟨h5, h6⟩, e1, e2, e3, e4⟩ := h
  unfold p214_55
  rw [h4, nI_pred, nI_clamp (by omega), e1]
  exact ⟨z_inI h5 (by decide), k⟩
theorem y_Vl.ci (h : y_Vl hi w m vv nm v R) : (nI m).toNatClampNeg = m ∧ z_in (nI m) 600 = true ∧ (nI hi).toNatClampNeg = hi ∧ z_in (nI hi) 140000 = true := by
  obtain ⟨h1, h2, h3, h4, ⟨h5, h6⟩, -⟩ := h
  exact ⟨nI_clamp (by omega), z_inI h6 (by decide), nI_clamp (by omega), z_inI h5 (by decide)⟩
theorem y_g0 (h : y_Vl hi 0 m vv nm v R) (k : y_RL n f0 1 (y_wk (z_fn 0 (R.1 59) m) nm (y_pt hi (1, nI m, v, nm) (y_iv 96 (nI hi) R))) Q) : y_RL n f0 1 R Q := by
  obtain ⟨cm, zm, ch, zh⟩ := h.ci
  refine h.sw (fun q => by rcases q with q | q <;> cases q) ?_
  rw [if_pos rfl]
  unfold p214_120
  refine r207 (R := y_iv 96 (nI hi) R) y_iv_k h.2.2.2.2.1.1 ⟨rfl, ?_⟩
  unfold p214_130
  rw [cm]
  refine ⟨zm, r208 ⟨rfl, ?_⟩⟩
  unfold p214_142 p214_338
  exact ⟨1, rfl, k⟩
theorem y_g4 (h : y_Vl hi 4 m vv nm v R) (k : y_RL n f0 1 (y_wk (z_fn 0 (R.1 59) m) nm (y_pt hi (5, nI m, v, nm) (y_iv 96 (nI hi) R))) Q) : y_RL n f0 1 R Q := by
  obtain ⟨cm, zm, ch, zh⟩ := h.ci
  refine h.sw (fun q => by rcases q with q | q <;> cases q) ?_
  rw [if_neg (by decide), if_neg (by decide), if_neg (by decide), if_neg (by decide), if_pos rfl]
  unfold p214_236
  refine r207 (R := y_iv 96 (nI hi) R) y_iv_k h.2.2.2.2.1.1 ⟨rfl, ?_⟩
  unfold p214_246
  rw [cm]
  refine ⟨zm, r208 ⟨rfl, ?_⟩⟩
  unfold p214_258 p214_338
  exact ⟨1, rfl, k⟩
/-- what an operation gives -/
def y_rk (k : Nat) (x y : Int32) : Int32 := if k = 5 then x + y else if k = 6 then x - y else if k = 7 then x * y else if k = 8 then (if x < y then 1 else 0) else (if x = y then 1 else 0)
theorem r215 {l kd : Nat} {x y : Int32} (k1 : 5 ≤ kd) (k2 : kd ≤ 9) (k : Q (some (.int (y_rk kd x y))) R) : z_WR (l + 1) 215 0 [(0, .int (nI kd)), (1, .int x), (2, .int y)] [] R Q := by
  obtain ⟨B, M, U⟩ := R
  refine t215_0 ?_
  unfold p215_0
  rcases (show kd = 5 ∨ kd = 6 ∨ kd = 7 ∨ kd = 8 ∨ kd = 9 by omega) with rfl | rfl | rfl | rfl | rfl
  · rw [if_pos (by decide)]
    exact k
  · rw [if_neg (by decide), if_pos (by decide)]
    exact k
  · rw [if_neg (by decide), if_neg (by decide), if_pos (by decide)]
    exact k
  · rw [if_neg (by decide), if_neg (by decide), if_neg (by decide), if_pos (by decide)]
    unfold p215_44
    have k : Q (some (.int (if x < y then 1 else 0))) (B, M, U) := k
    by_cases e : x < y
    · rw [if_neg (by rw [Int32.not_le]; exact e)]
      rw [if_pos e] at k
      exact k
    · rw [if_pos (by rw [← Int32.not_lt]; exact e)]
      rw [if_neg e] at k
      exact k
  · rw [if_neg (by decide), if_neg (by decide), if_neg (by decide), if_neg (by decide)]
    unfold p215_55
    have k : Q (some (.int (if x = y then 1 else 0))) (B, M, U) := k
    by_cases e : x = y
    · rw [if_pos e]
      rw [if_pos e] at k
      exact k
    · rw [if_neg e]
      rw [if_neg e] at k
      exact k
theorem y_g1 {kd : Nat} (h : y_Vl hi 1 m vv nm v R) (k1 : 5 ≤ kd) (k2 : kd ≤ 9) (hk : z_fn 0 (R.1 57) m = nI kd) (k : y_RL n f0 1 (y_gv (y_rk kd vv v) (y_iv 96 (nI hi) R)) Q) : y_RL n f0 1 R Q := by
  obtain ⟨cm, zm, ch, zh⟩ := h.ci
  have e3 := h.2.2.2.2.2.2.2.1
  refine h.sw (fun q => by rcases q with q | q <;> cases q) ?_
  rw [if_neg (by decide), if_pos rfl]
  unfold p214_145
  rw [cm, ch, hk, e3]
  refine ⟨zm, zh, r215 k1 k2 ⟨_, rfl, ?_⟩⟩
  unfold p214_163
  refine r206 (R := y_iv 96 (nI hi) R) ⟨rfl, ?_⟩
  unfold p214_166 p214_338
  exact ⟨1, rfl, k⟩
theorem y_g2 (h : y_Vl hi 2 m vv nm v R) (k : y_RL n f0 1 (y_wk (if v = 1 then z_fn 0 (R.1 59) m else z_fn 0 (R.1 60) m) nm (y_iv 96 (nI hi) R)) Q) : y_RL n f0 1 R Q := by
  obtain ⟨cm, zm, ch, zh⟩ := h.ci
  refine h.sw (fun q => by rcases q with q | q <;> cases q) ?_
  rw [if_neg (by decide), if_neg (by decide), if_pos rfl]
  unfold p214_169
  by_cases e : v = 1
  · rw [if_pos e]
    rw [if_pos e] at k
    unfold p214_176 p214_191
    rw [cm]
    refine ⟨zm, r208 (R := y_iv 96 (nI hi) R) ⟨rfl, ?_⟩⟩
    unfold p214_196 p214_338
    exact ⟨1, rfl, k⟩
  · rw [if_neg e]
    rw [if_neg e] at k
    unfold p214_185 p214_191
    rw [cm]
    refine ⟨zm, r208 (R := y_iv 96 (nI hi) R) ⟨rfl, ?_⟩⟩
    unfold p214_196 p214_338
    exact ⟨1, rfl, k⟩
theorem y_g7 (h : y_Vl hi w m vv nm v R) (hw : w = 7 ∨ w = 9 ∨ w = 10) (h100 : R.2.2 41 100 = nI (dp + 1)) (k : y_RL n f0 1 (y_iv 100 (nI dp) (y_iv 96 (nI hi) R)) Q) : y_RL n f0 1 R Q := by
  obtain ⟨cm, zm, ch, zh⟩ := h.ci
  have q : p214_328 10 R.1 R.2.1 (z_v R.2.2 41 96 (nI hi)) (n - (R.2.2 41 98 - f0)) (nI hi) (nI m) nm v (y_Ps n f0 Q) := by
    unfold p214_328 p214_338
    rw [show z_v R.2.2 41 96 (nI hi) 41 100 = R.2.2 41 100 from z_vn (by decide), h100, nI_pred]
    exact ⟨1, rfl, k⟩
  rcases hw with rfl | rfl | rfl
  · refine h.sw (fun q => by rcases q with q | q <;> cases q) ?_
    rw [if_neg (by decide), if_neg (by decide), if_neg (by decide), if_neg (by decide), if_neg (by decide), if_neg (by decide), if_neg (by decide), if_neg (by decide)]
    exact q
  · refine h.sw (fun q => by rcases q with q | q <;> cases q) ?_
    rw [if_neg (by decide), if_neg (by decide), if_neg (by decide), if_neg (by decide), if_neg (by decide), if_neg (by decide), if_neg (by decide), if_neg (by decide)]
    exact q
  · refine h.sw (fun q => by rcases q with q | q <;> cases q) ?_
    rw [if_neg (by decide), if_neg (by decide), if_neg (by decide), if_neg (by decide), if_neg (by decide), if_neg (by decide), if_neg (by decide), if_neg (by decide)]
    exact q
/-- a let's value is there -/
theorem y_g3 {Lv : Nat → Prop} {hi' : Nat} (h : y_Vl hi 3 m vv nm v R) (ha : y_As nm hi' F Lv (y_iv 96 (nI hi) R)) : ∃ R' j, y_Nd (z_fn 0 (R.1 64) m) (z_fn 0 (R.1 65) m) v nm Lv (y_iv 96 (nI hi) R) R' j ∧ ∀ Q, y_RL n f0 1 (y_wk (z_fn 0 (R.1 59) m) (nI j) R') Q → y_RL n f0 1 R Q := by
  obtain ⟨cm, zm, ch, zh⟩ := h.ci
  obtain ⟨x, R', hr, j, rfl, hn⟩ := ha.nd (l := 7) (x1 := z_fn 0 (R.1 64) m) (x2 := z_fn 0 (R.1 65) m) (x3 := v) (Q := fun x R' => ∃ j, x = some (.int (nI j)) ∧ y_Nd (z_fn 0 (R.1 64) m) (z_fn 0 (R.1 65) m) v nm Lv (y_iv 96 (nI hi) R) R' j) (fun R' j q => ⟨j, rfl, q⟩)
  refine ⟨R', j, hn, fun Q k => ?_⟩
  refine h.sw (fun q => by rcases q with q | q <;> cases q) ?_
  rw [if_neg (by decide), if_neg (by decide), if_neg (by decide), if_pos rfl]
  unfold p214_199
  rw [cm]
  refine ⟨zm, zm, _, R', hr, nI j, rfl, ?_⟩
  unfold p214_219
  rw [cm]
  refine ⟨zm, r208 ⟨rfl, ?_⟩⟩
  unfold p214_233 p214_338
  refine ⟨1, rfl, ?_⟩
  have e59 : R'.1 59 = R.1 59 := hn.2.2.1 59 (by omega)
  rw [e59]
  exact k
/-- a handle's body has given its value -/
theorem y_g8 {Lv : Nat → Prop} {hi' : Nat} (h : y_Vl hi 8 m vv nm v R) (ha : y_As nm hi' F Lv (y_pt hi (10, nI m, 0, -1) (y_iv 96 (nI hi) R))) : ∃ R' j, y_Nd (z_fn 0 (R.1 64) m) (z_fn 0 (R.1 65) m) v nm Lv (y_pt hi (10, nI m, 0, -1) (y_iv 96 (nI hi) R)) R' j ∧ ∀ Q, y_RL n f0 1 (y_wk (z_fn 0 (R.1 59) m) (nI j) R') Q → y_RL n f0 1 R Q := by
  obtain ⟨cm, zm, ch, zh⟩ := h.ci
  obtain ⟨x, R', hr, j, rfl, hn⟩ := ha.nd (l := 7) (x1 := z_fn 0 (R.1 64) m) (x2 := z_fn 0 (R.1 65) m) (x3 := v) (Q := fun x R' => ∃ j, x = some (.int (nI j)) ∧ y_Nd (z_fn 0 (R.1 64) m) (z_fn 0 (R.1 65) m) v nm Lv (y_pt hi (10, nI m, 0, -1) (y_iv 96 (nI hi) R)) R' j) (fun R' j q => ⟨j, rfl, q⟩)
  refine ⟨R', j, hn, fun Q k => ?_⟩
  refine h.sw (fun q => by rcases q with q | q <;> cases q) ?_
  rw [if_neg (by decide), if_neg (by decide), if_neg (by decide), if_neg (by decide), if_neg (by decide), if_neg (by decide), if_neg (by decide), if_pos rfl]
  unfold p214_286
  refine r207 (R := y_iv 96 (nI hi) R) y_iv_k h.2.2.2.2.1.1 ⟨rfl, ?_⟩
  unfold p214_295
  rw [cm]
  refine ⟨zm, zm, zm, _, R', hr, nI j, rfl, ?_⟩
  unfold p214_322
  refine r208 ⟨rfl, ?_⟩
  unfold p214_325 p214_338
  exact ⟨1, rfl, k⟩
end YRC
