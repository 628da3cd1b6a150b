/-! The law as a whole: from a step of its loop that keeps an invariant to the run. -/
/-- what both objects hold, what is no longer used, and how many cells and slots were made -/
abbrev z_Dd : Type := ((Nat → List (Nat × Int32)) × List (Nat × Option Nat) × (Nat → Nat) × (Nat → Nat → Int32) × Nat) × ((Nat → List (Nat × Int32)) × (Nat → List (Nat × Int64)) × (Nat → Nat → Int32)) × List z_E × (Nat × Nat)
def z_H (d : z_Dd) : z_Y := (hC d.1.1 d.1.2.1 d.1.2.2.1 d.1.2.2.2.1 d.1.2.2.2.2 ++ (hR d.2.1.1 d.2.1.2.1 d.2.1.2.2 ++ d.2.2.1), d.2.2.2)
def z_d0 : z_Dd := ((z_A0, [], z_N0, z_V0, 0), (z_B0, z_M0, z_U0), [], (127, 3005623))
def z_LV (i : Nat) : List (Nat × Value) := [(4, .int (nI i)), (3, .ref 233), (2, .ref 148), (1, .ref 107), (0, .ref 39)]
def z_S3 : z_S := ((z_H z_d0).1, 3005623)
theorem z_S3l : z_S3.1.length = 127 := by decide +kernel
theorem z_T1l : z_T1.1.length = 41 := by decide +kernel
theorem z_T2l : z_T2.1.length = 126 := by decide +kernel
set_option maxRecDepth 100000 in
theorem z_S3e : z_S3 = (z_T2.1 ++ [.inl (3, 1, .inr (.inl []))], z_T2.2 + 1) := rfl
section ZPRE
variable {L : Nat} {xs : Nat → Int32} {fv : Value} {r : z_O × z_S}
set_option maxRecDepth 100000 in
theorem z_pre (k : z_Rn L xs fv 2048 84000 0 23 (z_LV 0) [] z_S3 r) : z_Rn L xs fv 2048 84000 0 0 (lv_args 0 [.ref 39]) [] ([], 0) r := by
  refine z_Rn.step (pc' := 3) (lv' := [(0, .ref 39)]) (st' := [.ref 107]) (S' := ([.inr (0, z_born (z_fty 0) 9)], 9)) rfl rfl (z_b0_nb rfl) ?_ ?_
  · show (if 3 = 3 ∧ ([] : List z_E).length + 1 ≤ 601024 ∧ 0 + 9 ≤ 7293034 then some (3, [(0, Value.ref 39)], [Value.ref 107], (([] : List z_E) ++ [Sum.inr (0, z_born (z_fty 0) 9)], 9)) else none) = _
    rw [if_pos ⟨rfl, by decide, by decide⟩]
    rfl
  refine z_Rn.step (pc' := 4) (lv' := [(0, .ref 39)]) (st' := [.ref 107, .ref 107]) (S' := ([.inr (0, z_born (z_fty 0) 9)], 9)) rfl rfl (z_b0_nb rfl) rfl ?_
  refine z_Rn.call (mj := 1) (as := [.ref 107]) (rr := [.ref 107]) (v := none) (S1 := z_T1) rfl rfl rfl ⟨⟨⟨by decide, by decide +kernel⟩, by decide, by decide +kernel⟩, ⟨by decide, by decide⟩, by decide +kernel, by decide +kernel⟩ (z_Rn.closed z_e1 (by decide) (by decide +kernel)) ?_
  refine z_Rn.step (pc' := 8) (lv' := [(1, .ref 107), (0, .ref 39)]) (st' := []) (S' := z_T1) rfl rfl (z_b0_nb rfl) rfl ?_
  refine z_Rn.step (pc' := 11) (lv' := [(1, .ref 107), (0, .ref 39)]) (st' := [.ref 148]) (S' := (z_T1.1 ++ [.inr (9, z_born (z_fty 9) 123)], z_T1.2 + 123)) rfl rfl (z_b0_nb rfl) ?_ ?_
  · show (if 3 = 3 ∧ z_T1.1.length + 1 ≤ 601024 ∧ z_T1.2 + 123 ≤ 7293034 then some (11, [(1, Value.ref 107), (0, Value.ref 39)], [Value.ref (107 + z_T1.1.length)], (z_T1.1 ++ [Sum.inr (9, z_born (z_fty 9) 123)], z_T1.2 + 123)) else none) = _
    rw [if_pos ⟨rfl, by decide +kernel, by decide +kernel⟩, z_T1l]
  refine z_Rn.step (pc' := 12) (lv' := [(1, .ref 107), (0, .ref 39)]) (st' := [.ref 148, .ref 148]) (S' := (z_T1.1 ++ [.inr (9, z_born (z_fty 9) 123)], z_T1.2 + 123)) rfl rfl (z_b0_nb rfl) rfl ?_
  refine z_Rn.call (mj := 134) (as := [.ref 148]) (rr := [.ref 148]) (v := none) (S1 := z_T2) rfl rfl rfl ⟨⟨⟨by decide, by decide +kernel⟩, by decide, by decide +kernel⟩, ⟨by decide +kernel, by decide +kernel⟩, by decide +kernel, by decide +kernel⟩ (z_Rn.closed z_e2 (by decide) (by decide +kernel)) ?_
  refine z_Rn.step (pc' := 16) (lv' := [(2, .ref 148), (1, .ref 107), (0, .ref 39)]) (st' := []) (S' := z_T2) rfl rfl (z_b0_nb rfl) rfl ?_
  refine z_Rn.step (pc' := 17) (lv' := [(2, .ref 148), (1, .ref 107), (0, .ref 39)]) (st' := [.int 1]) (S' := z_T2) rfl rfl (z_b0_nb rfl) rfl ?_
  refine z_Rn.step (pc' := 19) (lv' := [(2, .ref 148), (1, .ref 107), (0, .ref 39)]) (st' := [.ref 233]) (S' := z_S3) rfl rfl (z_b0_nb rfl) ?_ ?_
  · show (if (2 = 2 ∧ ¬ (1 : Int32) < 0 ∧ (1 : Int32).toNatClampNeg * componentBytes .long ≤ 536870912) ∧ z_T2.1.length + 1 ≤ 601024 ∧ z_T2.2 + (1 : Int32).toNatClampNeg ≤ 7293034 then some (19, [(2, Value.ref 148), (1, Value.ref 107), (0, Value.ref 39)], [Value.ref (107 + z_T2.1.length)], (z_T2.1 ++ [Sum.inl (3, (1 : Int32).toNatClampNeg, Sum.inr (Sum.inl []))], z_T2.2 + (1 : Int32).toNatClampNeg)) else none) = _
    rw [if_pos ⟨⟨rfl, by decide, by decide⟩, by decide +kernel, by decide +kernel⟩, z_T2l, z_S3e]
    rfl
  refine z_Rn.step (pc' := 20) (lv' := [(3, .ref 233), (2, .ref 148), (1, .ref 107), (0, .ref 39)]) (st' := []) (S' := z_S3) rfl rfl (z_b0_nb rfl) rfl ?_
  refine z_Rn.step (pc' := 21) (lv' := [(3, .ref 233), (2, .ref 148), (1, .ref 107), (0, .ref 39)]) (st' := [.int 0]) (S' := z_S3) rfl rfl (z_b0_nb rfl) rfl ?_
  exact z_Rn.step (pc' := 23) (lv' := z_LV 0) (st' := []) (S' := z_S3) rfl rfl (z_b0_nb rfl) rfl k
end ZPRE
theorem z_hd {L i : Nat} (hL : L ≤ 3072) (hi : i ≤ 3078) : (nI L - 6 < nI i) ↔ L < i + 6 := by
  have h1 : (nI L - nI 6).toInt = (L : Int) - 6 := pk_sub_toInt (by omega) (by omega)
  have h2 : (nI i).toInt = (i : Int) := nI_toInt (by omega)
  have h3 : (nI L - 6).toInt = (L : Int) - 6 := h1
  rw [Int32.lt_iff_toInt_lt, h3, h2]
  omega
/-- a step of the law's loop: whatever the walk comes to behind the call it comes to ahead of it -/
def z_St (L : Nat) (xs : Nat → Int32) (i : Nat) (d d' : z_Dd) : Prop := ∀ (fv : Value) (o : z_V) (T' : z_Y), z_Ln L xs fv 2048 84000 0 412 (z_LV i) [] (z_H d') o T' → z_Ln L xs fv 2048 84000 0 33 (z_LV i) [] (z_H d) o T'
set_option maxRecDepth 100000 in
theorem z_loop {L : Nat} {xs : Nat → Int32} (hL : L ≤ 3072) {Inv : Nat → z_Dd → Prop} (step : ∀ i d, Inv i d → i + 6 ≤ L → ∃ d', Inv (i + 6) d' ∧ z_St L xs i d d') : ∀ (m i : Nat) (d : z_Dd), L - i ≤ m → i ≤ 3078 → Inv i d → ∃ (j : Nat) (d' : z_Dd), Inv j d' ∧ ∀ fv, z_Ln L xs fv 2048 84000 0 23 (z_LV i) [] (z_H d) (.inl (some (.int 1))) (z_H d') := by
  intro m
  induction m with
  | zero =>
    intro i d hm hi hd
    refine ⟨i, d, hd, fun fv => ?_⟩
    exact b0_23t ((z_hd hL hi).mpr (by omega)) (b0_418 (z_Ln.ret rfl (z_retB (Or.inr rfl))))
  | succ m ih =>
    intro i d hm hi hd
    by_cases h : L < i + 6
    · exact ⟨i, d, hd, fun fv => b0_23t ((z_hd hL hi).mpr h) (b0_418 (z_Ln.ret rfl (z_retB (Or.inr rfl))))⟩
    · obtain ⟨d1, h1, h2⟩ := step i d hd (by omega)
      obtain ⟨j, d2, h3, h4⟩ := ih (i + 6) d1 (by omega) (by omega) h1
      refine ⟨j, d2, h3, fun fv => ?_⟩
      refine b0_23f (fun q => h ((z_hd hL hi).mp q)) (h2 fv _ _ ?_)
      have e : nI i + 6 = nI (i + 6) := nI_add i 6
      have key := h4 fv
      unfold z_LV at key ⊢
      rw [← e] at key
      exact b0_412 key
set_option maxRecDepth 100000 in
theorem z_whole {L : Nat} {xs : Nat → Int32} (hL : L ≤ 3072) {Inv : Nat → z_Dd → Prop} (h0 : Inv 0 z_d0) (step : ∀ i d, Inv i d → i + 6 ≤ L → ∃ d', Inv (i + 6) d' ∧ z_St L xs i d d') (room : ∀ i d, Inv i d → z_Rm (z_H d)) : ∀ fv : Value, fv = .null ∨ fv = .ref 106 → ∃ S : z_S, z_Rn L xs fv 2048 84000 0 0 (lv_args 0 [.ref 39]) [] ([], 0) (.inl (some (.int 1)), S) ∧ S.1.length ≤ 601024 ∧ S.2 ≤ 7293034 := by
  intro fv hfv
  obtain ⟨j, d, h1, h2⟩ := z_loop hL step L 0 z_d0 (by omega) (by omega) h0
  have h3 := h2 fv
  have e : z_H z_d0 = (z_S3.1, z_S3.1.length, z_S3.2) := by
    rw [z_S3l]
    rfl
  rw [e] at h3
  obtain ⟨S', q1, q2, q3⟩ := z_Ln.run (fun _ => rfl) hfv h3
  have hr := room j d h1
  exact ⟨S', z_pre q3, by rw [q1]; exact hr.1, by rw [q2]; exact hr.2⟩
