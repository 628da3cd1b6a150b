/-! The reference's run: a call, a continuation gone on with, an effect performed. -/
section YRD
variable {R : z_RS} {Q : Option Value → z_RS → Prop} {n f0 : Int32} {m hi th dp F : Nat} {w vv nm v fu : Int32}
/-- back in the loop -/
theorem y_ps1 {l : Nat} {a b c d e : Int32} (k : y_RL n f0 1 R Q) : p214_338 l R.1 R.2.1 R.2.2 a b c d e (y_Ps n f0 Q) := by
  unfold p214_338
  exact ⟨1, rfl, k⟩
/-- the state in which a call is looked at -/
def y_cs (hi : Nat) (fu : Int32) (R : z_RS) : z_RS := y_iv 98 (fu + 1) (y_iv 96 (nI hi) R)
theorem y_cs_n {k : Nat} (h : k ≠ 98) (h2 : k ≠ 96) : (y_cs hi fu R).2.2 41 k = R.2.2 41 k := (y_iv_n h).trans (y_iv_n h2)
theorem y_cs_96 : (y_cs hi fu R).2.2 41 96 = nI hi := (y_iv_n (by decide)).trans y_iv_k
theorem y_cs_98 : (y_cs hi fu R).2.2 41 98 = fu + 1 := y_iv_k
theorem y_g5b {f : Nat} (h : y_Vl hi 5 m (nI f) nm v R) (hl : ¬ n - (R.2.2 41 98 - f0) = 0) (h98 : R.2.2 41 98 = fu) (hf : f < 1001) (k : ∀ a b c d e, (if z_fn 0 (R.1 119) f = -1 then p216_22 9 R.1 R.2.1 (y_cs hi fu R).2.2 (nI f) v (z_fn 0 (R.1 119) f) (fun x R1 => x = none ∧ p214_273 10 R1.1 R1.2.1 R1.2.2 a b c d e (y_Ps n f0 Q)) else p216_163 9 R.1 R.2.1 (y_cs hi fu R).2.2 (nI f) v (z_fn 0 (R.1 119) f) (fun x R1 => x = none ∧ p214_273 10 R1.1 R1.2.1 R1.2.2 a b c d e (y_Ps n f0 Q)))) : y_RL n f0 1 R Q := by
  obtain ⟨cm, zm, ch, zh⟩ := h.ci
  have e3 := h.2.2.2.2.2.2.2.1
  refine h.sw (fun _ => hl) ?_
  rw [if_neg (by decide), if_neg (by decide), if_neg (by decide), if_neg (by decide), if_neg (by decide), if_pos rfl]
  unfold p214_261
  rw [ch, e3]
  refine ⟨zh, t216_0 (l := 9) ?_⟩
  unfold p216_0
  rw [nI_clamp (by omega), show z_v R.2.2 41 96 (nI hi) 41 98 = fu from (z_vn (by decide)).trans h98]
  exact ⟨z_inI hf (by decide), k _ _ _ _ _⟩
/-- a closure is called: too deep -/
theorem y_g5d {f nd : Nat} (h : y_Vl hi 5 m (nI f) nm v R) (hl : ¬ n - (R.2.2 41 98 - f0) = 0) (h98 : R.2.2 41 98 = fu) (hf : f < 1001) (h119 : z_fn 0 (R.1 119) f = nI nd) (hnd : nd < 600) (h100 : R.2.2 41 100 = 400) (k : Q (some (.int (fu + 1 - f0))) (y_iv 94 6 (y_cs hi fu R))) : y_RL n f0 1 R Q := by
  refine y_g5b h hl h98 hf (fun a b c d e => ?_)
  rw [h119, if_neg (show ¬ nI nd = -1 from fun q => absurd (show nI nd < 0 by rw [q]; decide) (nI_pos (by omega)))]
  unfold p216_163
  rw [if_pos (show (y_cs hi fu R).2.2 41 100 = 400 from (y_cs_n (by decide) (by decide)).trans h100)]
  unfold p216_173 p214_273
  refine ⟨rfl, y_ps1 (R := y_iv 94 6 (y_cs hi fu R)) (y_end (R := y_iv 94 6 (y_cs hi fu R)) (by rw [y_iv_k]; decide) ?_)⟩
  rw [show (y_iv 94 6 (y_cs hi fu R)).2.2 41 98 = fu + 1 from (y_iv_n (by decide)).trans y_cs_98]
  exact k
/-- the name of what function nd takes -/
def y_n1 (R : z_RS) (nd : Nat) : Int32 := if z_fn 0 (R.1 57) nd = 1 then z_fn 0 (R.1 66) nd else z_fn 0 (R.1 64) nd
def y_n2 (R : z_RS) (nd : Nat) : Int32 := if z_fn 0 (R.1 57) nd = 1 then z_fn 0 (R.1 67) nd else z_fn 0 (R.1 65) nd
/-- a closure is called -/
def y_cl1 (hi nd dp : Nat) (fu : Int32) (R : z_RS) : z_RS := y_pt hi (7, nI nd, 0, -1) (y_iv 100 (nI (dp + 1)) (y_cs hi fu R))
theorem y_g5c {f nd : Nat} {Lv : Nat → Prop} {hi' : Nat} (h : y_Vl hi 5 m (nI f) nm v R) (hl : ¬ n - (R.2.2 41 98 - f0) = 0) (h98 : R.2.2 41 98 = fu) (hf : f < 1001) (h119 : z_fn 0 (R.1 119) f = nI nd) (hnd : nd < 600) (h100 : R.2.2 41 100 = nI dp) (hd : dp < 400) (ha : y_As (z_fn 0 (R.1 120) f) hi' F Lv (y_cl1 hi nd dp fu R)) : ∃ R' j, y_Nd (y_n1 R nd) (y_n2 R nd) v (z_fn 0 (R.1 120) f) Lv (y_cl1 hi nd dp fu R) R' j ∧ ∀ Q, y_RL n f0 1 (y_wk (z_fn 0 (R.1 58) nd) (nI j) R') Q → y_RL n f0 1 R Q := by
  have cn : (nI nd).toNatClampNeg = nd := nI_clamp (by omega)
  have zn : z_in (nI nd) 600 = true := z_inI hnd (by decide)
  have cf : (nI f).toNatClampNeg = f := nI_clamp (by omega)
  obtain ⟨x, R', hr, j, rfl, hn⟩ := ha.nd (l := 6) (x1 := y_n1 R nd) (x2 := y_n2 R nd) (x3 := v) (Q := fun x R' => ∃ j, x = some (.int (nI j)) ∧ y_Nd (y_n1 R nd) (y_n2 R nd) v (z_fn 0 (R.1 120) f) Lv (y_cl1 hi nd dp fu R) R' j) (fun R' j q => ⟨j, rfl, q⟩)
  refine ⟨R', j, hn, fun Q k => ?_⟩
  refine y_g5b h hl h98 hf (fun a b c d e => ?_)
  rw [h119, if_neg (show ¬ nI nd = -1 from fun q => absurd (show nI nd < 0 by rw [q]; decide) (nI_pos (by omega)))]
  unfold p216_163
  have e100 : (y_cs hi fu R).2.2 41 100 = nI dp := (y_cs_n (by decide) (by decide)).trans h100
  rw [e100, if_neg (show ¬ nI dp = 400 from fun q => absurd ((nI_eq (a := dp) (b := 400) (by omega) (by decide)).mp q) (by omega))]
  unfold p216_180
  rw [e100, show nI dp + 1 = nI (dp + 1) from z_nI2 (i := dp) (k := 1)]
  refine r207 (R := y_iv 100 (nI (dp + 1)) (y_cs hi fu R)) (hi := hi) ((y_iv_n (by decide)).trans y_cs_96) h.2.2.2.2.1.1 ⟨rfl, ?_⟩
  unfold p216_199
  rw [cn]
  refine ⟨zn, ?_⟩
  have fin : p216_274 9 R'.1 R'.2.1 R'.2.2 (nI f) v (nI nd) (if z_fn 0 (R.1 57) nd = 1 then 1 else 0) (nI j) (z_fn 0 (R.1 58) nd) (fun x R1 => x = none ∧ p214_273 10 R1.1 R1.2.1 R1.2.2 a b c d e (y_Ps n f0 Q)) := by
    unfold p216_274
    refine r208 ⟨rfl, ?_⟩
    unfold p216_277 p214_273
    exact ⟨rfl, y_ps1 (R := y_wk (z_fn 0 (R.1 58) nd) (nI j) R') k⟩
  by_cases e1 : z_fn 0 (R.1 57) nd = 1
  · have m1 : y_n1 R nd = z_fn 0 (R.1 66) nd := if_pos e1
    have m2 : y_n2 R nd = z_fn 0 (R.1 67) nd := if_pos e1
    rw [m1, m2] at hr
    rw [if_pos e1] at fin
    rw [if_pos (show z_fn 0 ((y_pt hi (7, nI nd, 0, -1) (y_iv 100 (nI (dp + 1)) (y_cs hi fu R))).1 57) nd = 1 from e1)]
    unfold p216_209 p216_214
    rw [cn]
    refine ⟨zn, ?_⟩
    rw [if_neg (by decide)]
    unfold p216_229
    rw [cn]
    refine ⟨zn, ?_⟩
    unfold p216_244
    rw [if_neg (by decide)]
    unfold p216_249
    rw [cn]
    refine ⟨zn, ?_⟩
    unfold p216_264
    rw [cf]
    exact ⟨z_inI hf (by decide), _, R', hr, nI j, rfl, fin⟩
  · have m1 : y_n1 R nd = z_fn 0 (R.1 64) nd := if_neg e1
    have m2 : y_n2 R nd = z_fn 0 (R.1 65) nd := if_neg e1
    rw [m1, m2] at hr
    rw [if_neg e1] at fin
    rw [if_neg (show ¬ z_fn 0 ((y_pt hi (7, nI nd, 0, -1) (y_iv 100 (nI (dp + 1)) (y_cs hi fu R))).1 57) nd = 1 from e1)]
    unfold p216_213 p216_214
    rw [cn]
    refine ⟨zn, ?_⟩
    rw [if_pos rfl]
    unfold p216_238
    rw [cn]
    refine ⟨zn, ?_⟩
    unfold p216_244
    rw [if_pos rfl]
    unfold p216_258
    rw [cn]
    refine ⟨zn, ?_⟩
    unfold p216_264
    rw [cf]
    exact ⟨z_inI hf (by decide), _, R', hr, nI j, rfl, fin⟩
/-- a continuation, gone on with before -/
theorem y_g5t {f : Nat} (h : y_Vl hi 5 m (nI f) nm v R) (hl : ¬ n - (R.2.2 41 98 - f0) = 0) (h98 : R.2.2 41 98 = fu) (hf : f < 1001) (h119 : z_fn 0 (R.1 119) f = -1) (h124 : ¬ z_fn 0 (R.1 124) f = 0) (k : Q (some (.int (fu + 1 - f0))) (y_iv 94 3 (y_cs hi fu R))) : y_RL n f0 1 R Q := by
  refine y_g5b h hl h98 hf (fun a b c d e => ?_)
  rw [if_pos h119]
  unfold p216_22
  rw [nI_clamp (by omega), if_neg h124]
  unfold p216_31 p216_162 p214_273
  refine ⟨z_inI hf (by decide), rfl, y_ps1 (R := y_iv 94 3 (y_cs hi fu R)) (y_end (R := y_iv 94 3 (y_cs hi fu R)) (by rw [y_iv_k]; decide) ?_)⟩
  rw [show (y_iv 94 3 (y_cs hi fu R)).2.2 41 98 = fu + 1 from (y_iv_n (by decide)).trans y_cs_98]
  exact k
/-- a continuation too deep -/
theorem y_g5e {f pd : Nat} (h : y_Vl hi 5 m (nI f) nm v R) (hl : ¬ n - (R.2.2 41 98 - f0) = 0) (h98 : R.2.2 41 98 = fu) (hf : f < 1001) (h119 : z_fn 0 (R.1 119) f = -1) (h124 : z_fn 0 (R.1 124) f = 0) (h100 : R.2.2 41 100 = nI dp) (h123 : z_fn 0 (R.1 123) f = nI pd) (hd : 400 < dp + pd) (hd2 : dp + pd < 2 ^ 31) (k : Q (some (.int (fu + 1 - f0))) (y_iv 94 6 (y_cs hi fu R))) : y_RL n f0 1 R Q := by
  refine y_g5b h hl h98 hf (fun a b c d e => ?_)
  rw [if_pos h119]
  have e100 : (y_cs hi fu R).2.2 41 100 = nI dp := (y_cs_n (by decide) (by decide)).trans h100
  unfold p216_22
  rw [nI_clamp (by omega), if_pos h124]
  unfold p216_39
  rw [nI_clamp (by omega), h123, e100, z_nI2, if_neg (show ¬ nI (dp + pd) ≤ 400 from nI_ge (a := 400) hd hd2)]
  unfold p216_56 p216_162 p214_273
  refine ⟨z_inI hf (by decide), z_inI hf (by decide), rfl, y_ps1 (R := y_iv 94 6 (y_cs hi fu R)) (y_end (R := y_iv 94 6 (y_cs hi fu R)) (by rw [y_iv_k]; decide) ?_)⟩
  rw [show (y_iv 94 6 (y_cs hi fu R)).2.2 41 98 = fu + 1 from (y_iv_n (by decide)).trans y_cs_98]
  exact k
/-- what lies away at q -/
def y_aw (R : z_RS) (q : Nat) : y_E := (z_fn 0 (R.1 115) q, z_fn 0 (R.1 116) q, z_fn 0 (R.1 117) q, z_fn 0 (R.1 118) q)
/-- k entries are laid back -/
def y_cp (aw hi : Nat) : Nat → z_RS → z_RS
  | 0, R => R
  | k + 1, R => y_pt (hi + k) (y_aw R (aw + k)) (y_cp aw hi k R)
theorem y_cp.o {aw hi : Nat} : ∀ (k : Nat) (R : z_RS), (∀ q, ¬ (111 ≤ q ∧ q ≤ 114) → (y_cp aw hi k R).1 q = R.1 q) ∧ (y_cp aw hi k R).2.1 = R.2.1 ∧ (∀ a b, ¬ (a = 41 ∧ b = 96) → (y_cp aw hi k R).2.2 a b = R.2.2 a b) ∧ (R.2.2 41 96 = nI hi → (y_cp aw hi k R).2.2 41 96 = nI (hi + k)) := by
  intro k R
  induction k with
  | zero => exact ⟨fun _ _ => rfl, rfl, fun _ _ _ => rfl, fun h => h⟩
  | succ k ih =>
    obtain ⟨i1, i2, i3, i4⟩ := ih
    refine ⟨fun q hq => ?_, i2, fun a b hab => ?_, fun h => ?_⟩
    · show z_u (z_u (z_u (z_u (y_cp aw hi k R).1 111 _) 112 _) 113 _) 114 _ q = _
      rw [z_un (by omega), z_un (by omega), z_un (by omega), z_un (by omega), i1 q hq]
    · show z_v (y_cp aw hi k R).2.2 41 96 _ a b = _
      rw [z_vn hab, i3 a b hab]
    · show z_v (y_cp aw hi k R).2.2 41 96 _ 41 96 = _
      rw [z_vk]
      rfl
/-- the state behind a continuation laid back -/
def y_rs (f hi aw mm d : Nat) (fu v : Int32) (R : z_RS) : z_RS := y_gv v (z_u (y_cp aw hi mm (z_u R.1 124 ((f, 1) :: R.1 124), R.2.1, (y_cs hi fu R).2.2)).1 122 ((f, 0) :: R.1 122), R.2.1, z_v (y_cp aw hi mm (z_u R.1 124 ((f, 1) :: R.1 124), R.2.1, (y_cs hi fu R).2.2)).2.2 41 100 (nI d))
theorem y_g5r {f pd aw mm : Nat} (h : y_Vl hi 5 m (nI f) nm v R) (hl : ¬ n - (R.2.2 41 98 - f0) = 0) (h98 : R.2.2 41 98 = fu) (hf : f < 1001) (h119 : z_fn 0 (R.1 119) f = -1) (h124 : z_fn 0 (R.1 124) f = 0) (h100 : R.2.2 41 100 = nI dp) (h123 : z_fn 0 (R.1 123) f = nI pd) (hd : dp + pd ≤ 400) (h121 : z_fn 0 (R.1 121) f = nI aw) (h122 : z_fn 0 (R.1 122) f = nI mm) (ham : aw + mm ≤ 340000) (hhm : hi + mm ≤ 140000) (k : y_RL n f0 1 (y_rs f hi aw mm (dp + pd) fu v R) Q) : y_RL n f0 1 R Q := by
  refine y_g5b h hl h98 hf (fun a b c d e => ?_)
  rw [if_pos h119]
  have e100 : (y_cs hi fu R).2.2 41 100 = nI dp := (y_cs_n (by decide) (by decide)).trans h100
  have cf : (nI f).toNatClampNeg = f := nI_clamp (by omega)
  have zf : z_in (nI f) 1001 = true := z_inI hf (by decide)
  unfold p216_22
  rw [cf, if_pos h124]
  unfold p216_39
  rw [cf, h123, e100, z_nI2, if_pos (show nI (dp + pd) ≤ 400 from nI_le (b := 400) hd (by decide))]
  unfold p216_65
  rw [cf]
  refine ⟨zf, zf, zf, ?_⟩
  obtain ⟨R1, hR1⟩ : ∃ X : z_RS, X = (z_u R.1 124 ((f, 1) :: R.1 124), R.2.1, (y_cs hi fu R).2.2) := ⟨_, rfl⟩
  have o96 : R1.2.2 41 96 = nI hi := by
    rw [hR1]
    exact y_cs_96 (R := R)
  have o1 : ∀ q, q ≠ 124 → R1.1 q = R.1 q := fun q hq => by
    rw [hR1]
    show z_u R.1 124 ((f, 1) :: R.1 124) q = R.1 q
    rw [z_un hq]
  have o100 : R1.2.2 41 100 = nI dp := by
    rw [hR1]
    exact e100
  have o2 : R1.2.1 = R.2.1 := by rw [hR1]
  unfold y_rs at k
  rw [← hR1] at k
  have loop : ∀ r j, j + r = mm → z_WR 10 216 75 [(0, .ref 148), (1, .int (nI f)), (2, .int v), (3, .int (z_fn 0 (R.1 119) f)), (4, .int (nI j))] [] (y_cp aw hi j R1) (fun x R1 => x = none ∧ p214_273 10 R1.1 R1.2.1 R1.2.2 a b c d e (y_Ps n f0 Q)) := by
    intro r
    induction r with
    | zero =>
      intro j hj
      have hj : j = mm := hj
      subst hj
      obtain ⟨i1, i2, i3, i4⟩ := y_cp.o (aw := aw) (hi := hi) j R1
      refine t216_75 (l := 9) (B := (y_cp aw hi j R1).1) (M := (y_cp aw hi j R1).2.1) (U := (y_cp aw hi j R1).2.2) ?_
      unfold p216_75
      rw [cf, i1 122 (by omega), o1 122 (by decide), h122, if_pos (nI_le (Nat.le_refl _) (by omega))]
      unfold p216_135
      rw [cf, i1 122 (by omega), o1 122 (by decide), i1 123 (by omega), o1 123 (by decide), h123, i3 41 100 (by decide), o100, z_nI2]
      refine ⟨zf, zf, zf, r206 ⟨rfl, ?_⟩⟩
      unfold p216_162 p214_273
      rw [← o2, ← i2] at k
      exact ⟨rfl, y_ps1 k⟩
    | succ r ih =>
      intro j hj
      obtain ⟨i1, i2, i3, i4⟩ := y_cp.o (aw := aw) (hi := hi) j R1
      have zq : z_in (nI (aw + j)) 340000 = true := z_inI (by omega) (by decide)
      refine t216_75 (l := 9) (B := (y_cp aw hi j R1).1) (M := (y_cp aw hi j R1).2.1) (U := (y_cp aw hi j R1).2.2) ?_
      unfold p216_75
      rw [cf, i1 122 (by omega), o1 122 (by decide), h122, if_neg (nI_ge (by omega) (by omega))]
      unfold p216_86
      rw [cf, i1 121 (by omega), o1 121 (by decide), h121, z_nI2, nI_clamp (show aw + j < 2 ^ 31 by omega), i1 115 (by omega), i1 116 (by omega), i1 117 (by omega), i1 118 (by omega)]
      refine ⟨zf, zf, zq, zq, zq, zq, r207 (R := y_cp aw hi j R1) (i4 o96) (by omega) ⟨rfl, ?_⟩⟩
      unfold p216_129
      rw [show nI j + 1 = nI (j + 1) from z_nI2 (i := j) (k := 1)]
      exact ih (j + 1) (by omega)
  have r := loop mm 0 (Nat.zero_add mm)
  rw [show y_cp aw hi 0 R1 = R1 from rfl, hR1] at r
  exact r
end YRD
