/-! The law's calls of start and run. -/
section YLW
variable {L : Nat} {xs : Nat → Int32} {fv : Value} {f w i : Nat} {c c1 : Nat × Nat} {A A1 : Nat → List (Nat × Int32)} {E E1 : List (Nat × Option Nat)} {N N1 : Nat → Nat} {V V1 : Nat → Nat → Int32} {W W1 : Nat} {g g1 : List z_E} {B B2 : Nat → List (Nat × Int32)} {M M1 M2 : Nat → List (Nat × Int64)} {U U2 : Nat → Nat → Int32} {o : z_V} {T' : z_Y} {v b x : Int32}
set_option maxRecDepth 10000 in
theorem e108_ok (hl : z_Lv 3 f w) (hRm : z_Rm ([], c)) (h8 : V 0 8 = 1) (h109 : z_Ln L xs fv (f - 1) (w - (19 + z_pg.2.1 109)) 109 0 [(0, .ref 145)] [] (hC A E N V W ++ g, c) (.inl none) (hC A1 E1 N1 V1 W1 ++ g, c1)) : z_Ln L xs fv f w 108 0 [(0, .ref 107)] [] (hC A E N V W ++ g, c) (.inl none) (hC A1 E1 N1 V1 W1 ++ g, c1) :=
  b108_0t (by rw [h8]; decide) (b108_17 (z_Ln.call (s := 0) (mj := 109) (as := [.ref 145]) (rr := []) (v := none) (T1 := (hC A1 E1 N1 V1 W1 ++ g, c1)) rfl rfl (z_cq hl (by decide) (by decide : (0 : Nat) ≤ 8) (by decide +kernel : (1 : Nat) ≤ z_pg.2.1 109)) hRm h109 ⟨trivial, (z_sm0C 0 (by decide) rfl rfl), trivial⟩ (z_Ln.ret rfl rfl)))
set_option maxRecDepth 10000 in
theorem e108_no (hl : z_Lv 3 f w) (hr : c.1 + 1 ≤ 601024 ∧ c.2 + 6 ≤ 7293034) (h8 : V 0 8 = 0) : z_Ln L xs fv f w 108 0 [(0, .ref 107)] [] (hC A E N V W ++ g, c) (.inr 11) (hC A E N V W ++ g, c.1 + 1, c.2 + 6) := b108_0f (by rw [h8]; decide) (z_Ln.thr rfl ⟨⟨hl.f6, by have := hl.2; omega, by decide⟩, hr.1, hr.2⟩ rfl)
set_option maxRecDepth 10000 in
theorem e107_ok (hl : z_Lv 3 f w) (hRm : z_Rm ([], c)) (hc : z_Ln L xs fv (f - 1) (w - (19 + z_pg.2.1 108)) 108 0 [(0, .ref 107)] [] (hC A E N V W ++ (hR B M U ++ g), c) (.inl none) (hC A1 E1 N1 V1 W1 ++ (hR B M U ++ g), c1)) : z_Ln L xs fv f w 107 0 [(0, .ref 107)] [] (hC A E N V W ++ (hR B M U ++ g), c) (.inl (some (.int 0))) (hC A1 E1 N1 V1 W1 ++ (hR B M U ++ g), c1) :=
  b107_0 (z_Ln.call (s := 0) (mj := 108) (as := [.ref 107]) (rr := []) (v := none) (T1 := (hC A1 E1 N1 V1 W1 ++ (hR B M U ++ g), c1)) rfl rfl (z_cq hl (by decide) (by decide : (0 : Nat) ≤ 8) (by decide +kernel : (1 : Nat) ≤ z_pg.2.1 108)) hRm hc ⟨trivial, z_smX, trivial⟩ (b107_4 (b107_10 (z_Ln.ret rfl rfl))))
set_option maxRecDepth 10000 in
theorem e107_no (hl : z_Lv 3 f w) (hRm : z_Rm ([], c)) (hcd : z_cd (hC A1 E1 N1 V1 W1 ++ (hR B M U ++ g1))) (hc : z_Ln L xs fv (f - 1) (w - (19 + z_pg.2.1 108)) 108 0 [(0, .ref 107)] [] (hC A E N V W ++ (hR B M U ++ g), c) (.inr 11) (hC A1 E1 N1 V1 W1 ++ (hR B M U ++ g1), c1)) : z_Ln L xs fv f w 107 0 [(0, .ref 107)] [] (hC A E N V W ++ (hR B M U ++ g), c) (.inl (some (.int 1))) (hC A1 E1 N1 V1 W1 ++ (hR B M U ++ (g1 ++ [.inr (11, [])])), c1) := by
  refine b107_0 (z_Ln.caught (s := 0) (mj := 108) (as := [.ref 107]) (rr := []) (ci := 11) (hp := 7) (T1 := (hC A1 E1 N1 V1 W1 ++ (hR B M U ++ g1), c1)) rfl rfl (z_cq hl (by decide) (by decide : (0 : Nat) ≤ 8) (by decide +kernel : (1 : Nat) ≤ z_pg.2.1 108)) hRm hc rfl ⟨z_smX, trivial⟩ hcd ?_)
  show z_Ln L xs fv f w 107 7 [(0, .ref 107)] [.ref (107 + (hC A1 E1 N1 V1 W1 ++ (hR B M U ++ g1)).length)] ((hC A1 E1 N1 V1 W1 ++ (hR B M U ++ g1)) ++ [.inr (11, [])], c1) _ _
  rw [List.append_assoc, List.append_assoc]
  exact b107_7 (z_Ln.ret rfl rfl)
set_option maxRecDepth 10000 in
theorem law_6 (hl : z_Lv 400 f w) (hRm : z_Rm ([], c)) (hRm1 : z_Rm ([], c1))
    (hc : z_Ln L xs fv (f - 1) (w - (19 + z_pg.2.1 107)) 107 0 [(0, .ref 107)] [] (hC A E N V W ++ (hR B M U ++ g), c) (.inl (some (.int v))) (hC A1 E1 N1 V1 W1 ++ (hR B M U ++ g1), c1))
    (hc2 : z_Ln L xs fv (f - 1) (w - (19 + z_pg.2.1 203)) 203 0 [(0, .ref 148)] [] (hC A1 E1 N1 V1 W1 ++ (hR B M U ++ g1), c1) (.inl none) (hC A1 E1 N1 V1 W1 ++ (hR B2 M2 U2 ++ g1), c1))
    (h0 : U2 41 0 = v)
    (kk : z_Ln L xs fv f w 0 412 (z_LV i) [] (hC A1 E1 N1 V1 W1 ++ (hR B2 M2 U2 ++ g1), c1) o T') : z_Ln L xs fv f w 0 307 (z_LV i) [] (hC A E N V W ++ (hR B M U ++ g), c) o T' := by
  have hl3 : z_Lv 3 f w := hl.le (by decide)
  refine b0_307 (z_Ln.call (s := 0) (mj := 107) (as := [.ref 107]) (rr := []) (v := some (.int v)) (T1 := (hC A1 E1 N1 V1 W1 ++ (hR B M U ++ g1), c1)) rfl rfl (z_cq hl3 (by decide) (by decide : (0 : Nat) ≤ 8) (by decide +kernel : (1 : Nat) ≤ z_pg.2.1 107)) hRm hc ⟨trivial, trivial, z_smO, z_smM, z_smX, z_smS, trivial⟩ ?_)
  refine b0_311 (z_Ln.call (s := 0) (mj := 203) (as := [.ref 148]) (rr := []) (v := none) (T1 := (hC A1 E1 N1 V1 W1 ++ (hR B2 M2 U2 ++ g1), c1)) rfl rfl (z_cq hl3 (by decide) (by decide : (0 : Nat) ≤ 8) (by decide +kernel : (1 : Nat) ≤ z_pg.2.1 203)) hRm1 hc2 ⟨trivial, trivial, trivial, z_smO, z_smM, z_smX, z_smS, trivial⟩ ?_)
  refine b0_317 (z_Ln.call (s := 0) (mj := 135) (as := [.ref 148]) (rr := []) (v := some (.int (U2 41 0))) (T1 := (hC A1 E1 N1 V1 W1 ++ (hR B2 M2 U2 ++ g1), c1)) rfl rfl (z_cq hl3 (by decide) (by decide : (0 : Nat) ≤ 8) (by decide +kernel : (1 : Nat) ≤ z_pg.2.1 135)) hRm1 (b135_0 (z_Ln.ret rfl z_retI)) ⟨trivial, trivial, trivial, z_smO, z_smM, z_smX, z_smS, trivial⟩ ?_)
  refine b0_321t h0 (b0_328 ?_)
  exact z_Ln.lv (z_le.cons rfl rfl (z_le.cons rfl rfl (z_le.cons rfl rfl (z_le.cons rfl rfl (z_le.cons rfl rfl z_le.nil))))) kk
set_option maxRecDepth 10000 in
theorem e113_ok (hl : z_Lv 3 f w) (hRm : z_Rm ([], c)) (h7 : ¬ V 38 7 = 0) (x0 : ¬ x < 0) (x2 : x ≤ 2000) (h114 : z_Ln L xs fv (f - 1) (w - (19 + z_pg.2.1 114)) 114 0 [(0, .ref 145), (1, .int x)] [] (hC A E N V W ++ g, c) (.inl (some (.int v))) (hC A1 E1 N1 V1 W1 ++ g, c1)) : z_Ln L xs fv f w 113 0 [(0, .ref 107), (1, .int x)] [] (hC A E N V W ++ g, c) (.inl (some (.int v))) (hC A1 E1 N1 V1 W1 ++ g, c1) :=
  b113_0t h7 (b113_20f x0 (b113_24t x2 (b113_41 (z_Ln.call (s := 0) (mj := 114) (as := [.ref 145, .int x]) (rr := []) (v := some (.int v)) (T1 := (hC A1 E1 N1 V1 W1 ++ g, c1)) rfl rfl (z_cq hl (by decide) (by decide : (0 : Nat) ≤ 8) (by decide +kernel : (2 : Nat) ≤ z_pg.2.1 114)) hRm h114 ⟨trivial, (z_sm0C 0 (by decide) rfl rfl), trivial, trivial⟩ (z_Ln.ret rfl z_retI)))))
set_option maxRecDepth 10000 in
theorem e113_no (hl : z_Lv 3 f w) (hr : c.1 + 1 ≤ 601024 ∧ c.2 + 6 ≤ 7293034) (h7 : V 38 7 = 0) : z_Ln L xs fv f w 113 0 [(0, .ref 107), (1, .int x)] [] (hC A E N V W ++ g, c) (.inr 11) (hC A E N V W ++ g, c.1 + 1, c.2 + 6) := b113_0f (fun q => q h7) (z_Ln.thr rfl ⟨⟨hl.f6, by have := hl.2; omega, by decide⟩, hr.1, hr.2⟩ rfl)
set_option maxRecDepth 10000 in
theorem e113_ill (hl : z_Lv 3 f w) (hr : c.1 + 1 ≤ 601024 ∧ c.2 + 6 ≤ 7293034) (h7 : ¬ V 38 7 = 0) (hx : x < 0 ∨ ¬ x ≤ 2000) : z_Ln L xs fv f w 113 0 [(0, .ref 107), (1, .int x)] [] (hC A E N V W ++ g, c) (.inr 10) (hC A E N V W ++ g, c.1 + 1, c.2 + 6) := by
  have t : z_Ln L xs fv f w 113 31 [(0, .ref 107), (1, .int x)] [] (hC A E N V W ++ g, c) (.inr 10) (hC A E N V W ++ g, c.1 + 1, c.2 + 6) := z_Ln.thr rfl ⟨⟨hl.f6, by have := hl.2; omega, by decide⟩, hr.1, hr.2⟩ rfl
  refine b113_0t h7 ?_
  by_cases q : x < 0
  · exact b113_20t q t
  · exact b113_20f q (b113_24f (hx.resolve_left q) t)
set_option maxRecDepth 10000 in
theorem e112_ok (hl : z_Lv 3 f w) (hRm : z_Rm ([], c)) (hc : z_Ln L xs fv (f - 1) (w - (19 + z_pg.2.1 113)) 113 0 [(0, .ref 107), (1, .int x)] [] (hC A E N V W ++ (hR B M U ++ g), c) (.inl (some (.int v))) (hC A1 E1 N1 V1 W1 ++ (hR B M U ++ g), c1)) : z_Ln L xs fv f w 112 0 [(0, .ref 107), (1, .int x), (2, .ref 233)] [] (hC A E N V W ++ (hR B M U ++ g), c) (.inl (some (.int 0))) (hC A1 E1 N1 V1 W1 ++ (hR B (z_u M 126 ((0, v.toInt64) :: M 126)) U ++ g), c1) :=
  b112_0 (z_Ln.call (s := 0) (mj := 113) (as := [.ref 107, .int x]) (rr := [.int 0, .ref 233]) (v := some (.int v)) (T1 := (hC A1 E1 N1 V1 W1 ++ (hR B M U ++ g), c1)) rfl rfl (z_cq hl (by decide) (by decide : (2 : Nat) ≤ 8) (by decide +kernel : (2 : Nat) ≤ z_pg.2.1 113)) hRm hc ⟨⟨trivial, z_smO, trivial⟩, z_smX, trivial, z_smO, trivial⟩ (b112_7 (b112_18 (z_Ln.ret rfl rfl))))
set_option maxRecDepth 10000 in
theorem e112_no (hl : z_Lv 3 f w) (hRm : z_Rm ([], c)) (hcd : z_cd (hC A1 E1 N1 V1 W1 ++ (hR B M U ++ g1))) (hc : z_Ln L xs fv (f - 1) (w - (19 + z_pg.2.1 113)) 113 0 [(0, .ref 107), (1, .int x)] [] (hC A E N V W ++ (hR B M U ++ g), c) (.inr 11) (hC A1 E1 N1 V1 W1 ++ (hR B M U ++ g1), c1)) : z_Ln L xs fv f w 112 0 [(0, .ref 107), (1, .int x), (2, .ref 233)] [] (hC A E N V W ++ (hR B M U ++ g), c) (.inl (some (.int 1))) (hC A1 E1 N1 V1 W1 ++ (hR B M U ++ (g1 ++ [.inr (11, [])])), c1) := by
  refine b112_0 (z_Ln.caught (s := 0) (mj := 113) (as := [.ref 107, .int x]) (rr := [.int 0, .ref 233]) (ci := 11) (hp := 12) (T1 := (hC A1 E1 N1 V1 W1 ++ (hR B M U ++ g1), c1)) rfl rfl (z_cq hl (by decide) (by decide : (2 : Nat) ≤ 8) (by decide +kernel : (2 : Nat) ≤ z_pg.2.1 113)) hRm hc rfl ⟨z_smX, trivial, z_smO, trivial⟩ hcd ?_)
  show z_Ln L xs fv f w 112 12 [(0, .ref 107), (1, .int x), (2, .ref 233)] [.ref (107 + (hC A1 E1 N1 V1 W1 ++ (hR B M U ++ g1)).length)] ((hC A1 E1 N1 V1 W1 ++ (hR B M U ++ g1)) ++ [.inr (11, [])], c1) _ _
  rw [List.append_assoc, List.append_assoc]
  exact b112_12 (z_Ln.ret rfl rfl)
set_option maxRecDepth 10000 in
theorem e112_ill (hl : z_Lv 3 f w) (hRm : z_Rm ([], c)) (hcd : z_cd (hC A1 E1 N1 V1 W1 ++ (hR B M U ++ g1))) (hc : z_Ln L xs fv (f - 1) (w - (19 + z_pg.2.1 113)) 113 0 [(0, .ref 107), (1, .int x)] [] (hC A E N V W ++ (hR B M U ++ g), c) (.inr 10) (hC A1 E1 N1 V1 W1 ++ (hR B M U ++ g1), c1)) : z_Ln L xs fv f w 112 0 [(0, .ref 107), (1, .int x), (2, .ref 233)] [] (hC A E N V W ++ (hR B M U ++ g), c) (.inl (some (.int 2))) (hC A1 E1 N1 V1 W1 ++ (hR B M U ++ (g1 ++ [.inr (10, [])])), c1) := by
  refine b112_0 (z_Ln.caught (s := 0) (mj := 113) (as := [.ref 107, .int x]) (rr := [.int 0, .ref 233]) (ci := 10) (hp := 15) (T1 := (hC A1 E1 N1 V1 W1 ++ (hR B M U ++ g1), c1)) rfl rfl (z_cq hl (by decide) (by decide : (2 : Nat) ≤ 8) (by decide +kernel : (2 : Nat) ≤ z_pg.2.1 113)) hRm hc rfl ⟨z_smX, trivial, z_smO, trivial⟩ hcd ?_)
  show z_Ln L xs fv f w 112 15 [(0, .ref 107), (1, .int x), (2, .ref 233)] [.ref (107 + (hC A1 E1 N1 V1 W1 ++ (hR B M U ++ g1)).length)] ((hC A1 E1 N1 V1 W1 ++ (hR B M U ++ g1)) ++ [.inr (10, [])], c1) _ _
  rw [List.append_assoc, List.append_assoc]
  exact b112_15 (z_Ln.ret rfl rfl)
set_option maxRecDepth 10000 in
theorem law_7 (hl : z_Lv 400 f w) (hi : z_in (nI i + 1) L = true) (hx : xs (nI i + 1).toNatClampNeg = x) (hRm : z_Rm ([], c)) (hRm1 : z_Rm ([], c1))
    (hc : z_Ln L xs fv (f - 1) (w - (19 + z_pg.2.1 112)) 112 0 [(0, .ref 107), (1, .int x), (2, .ref 233)] [] (hC A E N V W ++ (hR B M U ++ g), c) (.inl (some (.int v))) (hC A1 E1 N1 V1 W1 ++ (hR B M1 U ++ g1), c1))
    (hc2 : z_Ln L xs fv (f - 1) (w - (19 + z_pg.2.1 204)) 204 0 [(0, .ref 148), (1, .int x)] [] (hC A1 E1 N1 V1 W1 ++ (hR B M1 U ++ g1), c1) (.inl (some (.int b))) (hC A1 E1 N1 V1 W1 ++ (hR B2 M2 U2 ++ g1), c1))
    (h0 : U2 41 0 = v) (hv : ¬ v = 0 ∨ z_fn 0 (M2 126) 0 = b.toInt64)
    (kk : z_Ln L xs fv f w 0 412 (z_LV i) [] (hC A1 E1 N1 V1 W1 ++ (hR B2 M2 U2 ++ g1), c1) o T') : z_Ln L xs fv f w 0 331 (z_LV i) [] (hC A E N V W ++ (hR B M U ++ g), c) o T' := by
  subst hx
  have hl3 : z_Lv 3 f w := hl.le (by decide)
  refine b0_331 hi (z_Ln.call (s := 0) (mj := 112) (as := [.ref 107, .int (xs (nI i + 1).toNatClampNeg), .ref 233]) (rr := []) (v := some (.int v)) (T1 := (hC A1 E1 N1 V1 W1 ++ (hR B M1 U ++ g1), c1)) rfl rfl (z_cq hl3 (by decide) (by decide : (0 : Nat) ≤ 8) (by decide +kernel : (3 : Nat) ≤ z_pg.2.1 112)) hRm hc ⟨trivial, trivial, z_smO, z_smM, z_smX, z_smS, trivial⟩ ?_)
  refine b0_342 hi (z_Ln.call (s := 0) (mj := 204) (as := [.ref 148, .int (xs (nI i + 1).toNatClampNeg)]) (rr := []) (v := some (.int b)) (T1 := (hC A1 E1 N1 V1 W1 ++ (hR B2 M2 U2 ++ g1), c1)) rfl rfl (z_cq hl3 (by decide) (by decide : (0 : Nat) ≤ 8) (by decide +kernel : (2 : Nat) ≤ z_pg.2.1 204)) hRm1 hc2 ⟨trivial, trivial, trivial, z_smO, z_smM, z_smX, z_smS, trivial⟩ ?_)
  refine b0_354 (z_Ln.call (s := 0) (mj := 135) (as := [.ref 148]) (rr := []) (v := some (.int (U2 41 0))) (T1 := (hC A1 E1 N1 V1 W1 ++ (hR B2 M2 U2 ++ g1), c1)) rfl rfl (z_cq hl3 (by decide) (by decide : (0 : Nat) ≤ 8) (by decide +kernel : (1 : Nat) ≤ z_pg.2.1 135)) hRm1 (b135_0 (z_Ln.ret rfl z_retI)) ⟨trivial, trivial, trivial, trivial, z_smO, z_smM, z_smX, z_smS, trivial⟩ ?_)
  have fin : z_Ln L xs fv f w 0 384 [(6, .int b), (5, .int v), (4, .int (nI i)), (3, .ref 233), (2, .ref 148), (1, .ref 107), (0, .ref 39)] [] (hC A1 E1 N1 V1 W1 ++ (hR B2 M2 U2 ++ g1), c1) o T' := by
    refine b0_384 ?_
    exact z_Ln.lv (z_le.cons rfl rfl (z_le.cons rfl rfl (z_le.cons rfl rfl (z_le.cons rfl rfl (z_le.cons rfl rfl z_le.nil))))) kk
  refine b0_360t h0 ?_
  by_cases v0 : v = 0
  · refine b0_367f (fun q => q v0) (b0_372t ?_ fin)
    rcases hv with q | q
    · exact absurd v0 q
    · rw [q]
      exact z_lg0 _
  · exact b0_367t v0 fin
end YLW
/-- what start and run leave as it was -/
theorem y_keep {i : Nat} {d : z_Dd} {A' : Nat → List (Nat × Int32)} {E' : List (Nat × Option Nat)} {N' : Nat → Nat} {V' : Nat → Nat → Int32} {W' : Nat} {B' : Nat → List (Nat × Int32)} {M' : Nat → List (Nat × Int64)} {U' : Nat → Nat → Int32} {g' : List z_E} {c' : Nat × Nat} (h : z_Ib i d) (h5 : z_I5 d) (hA : ∀ k, k ≠ 39 → k ≠ 40 → A' k = d.1.1 k) (hN : ∀ k, k ≠ 39 → k ≠ 40 → N' k = d.1.2.2.1 k) (hV : ∀ k j, k ≠ 38 → V' k j = d.1.2.2.2.1 k j) (hW : W' < 107) (hB : ∀ k, k < 98 ∨ (101 < k ∧ k < 111) ∨ 125 < k → B' k = d.2.1.1 k) (hM : ∀ k, k ≠ 126 → M' k = d.2.1.2.1 k) (hU : ∀ a k, ¬ (a = 41 ∧ (k = 0 ∨ k = 77 ∨ (94 ≤ k ∧ k ≤ 105) ∨ k = 114 ∨ k = 122)) → U' a k = d.2.1.2.2 a k) (h8 : z_I8 ((A', E', N', V', W'), (B', M', U'), g', c')) (hG : z_Gn g' ∧ 127 + g'.length ≤ c'.1) (hNb : z_Nb N') (hr : 64 * c'.1 ≤ 8128 + 64 * (i + 6) + z_Pt N' ∧ c'.2 ≤ 3005623 + 6 * (i + 6) + 2 * z_Pt N') : z_Ib (i + 6) ((A', E', N', V', W'), (B', M', U'), g', c') ∧ z_I5 ((A', E', N', V', W'), (B', M', U'), g', c') := by
  obtain ⟨⟨A, E, N, V, W⟩, ⟨B, M, U⟩, g, c⟩ := d
  have hA : ∀ k, k ≠ 39 → k ≠ 40 → A' k = A k := hA
  have hN : ∀ k, k ≠ 39 → k ≠ 40 → N' k = N k := hN
  have hV : ∀ k j, k ≠ 38 → V' k j = V k j := hV
  have hB : ∀ k, k < 98 ∨ (101 < k ∧ k < 111) ∨ 125 < k → B' k = B k := hB
  have hM : ∀ k, k ≠ 126 → M' k = M k := hM
  have hU : ∀ a k, ¬ (a = 41 ∧ (k = 0 ∨ k = 77 ∨ (94 ≤ k ∧ k ≤ 105) ∨ k = 114 ∨ k = 122)) → U' a k = U a k := hU
  obtain ⟨h1, ⟨len, l1, l2, l3, l4⟩, ⟨i1, i2⟩, h4, -, -, -, hK, -, -⟩ := h
  refine ⟨⟨fun j hj => ?_, ⟨len, l1, (hV 3 2 (by decide)).trans l2, (hU 41 5 (by decide)).trans l3, fun j hj => ?_⟩, ⟨?_, ?_⟩, ?_, h8, hG, hW, ?_, hNb, hr⟩, ?_⟩
  · show z_bp (z_fn 0 (A' 1) j) (z_fn 0 (B' 42) j)
    rw [hA 1 (by decide) (by decide), hB 42 (by decide)]
    exact h1 j hj
  · show z_bp (z_fn 0 (A' 4) j) (z_fn 0 (B' 43) j)
    rw [hA 4 (by decide) (by decide), hB 43 (by decide)]
    exact l4 j hj
  · show V' 2 0 = U' 41 11
    rw [hV 2 0 (by decide), hU 41 11 (by decide)]
    exact i1
  · show V' 2 1 = U' 41 12
    rw [hV 2 1 (by decide), hU 41 12 (by decide)]
    exact i2
  · rcases h4 with ⟨p1, p2⟩ | ⟨p1, p2, p3, t, t', n, n', m, m', l, q1, q2, q3, q4, q5, q6, q7⟩
    · exact Or.inl ⟨(hV 0 8 (by decide)).trans p1, (hU 41 91 (by decide)).trans p2⟩
    · refine Or.inr ⟨(hV 0 8 (by decide)).trans p1, (hU 41 91 (by decide)).trans p2, ?_, t, t', n, n', m, m', l, (hV 13 8 (by decide)).trans q1, (hU 41 92 (by decide)).trans q2, ?_, q4, q5, ?_, ?_⟩
      · show V' 13 9 = U' 41 93
        rw [hV 13 9 (by decide), hU 41 93 (by decide)]
        exact p3
      · show z_Tn N' m
        unfold z_Tn
        rw [hN 9 (by decide) (by decide), hN 10 (by decide) (by decide), hN 11 (by decide) (by decide), hN 12 (by decide) (by decide)]
        exact q3
      · show z_TC (A' 9) (A' 10) (A' 11) (A' 12) m n t l
        rw [hA 9 (by decide) (by decide), hA 10 (by decide) (by decide), hA 11 (by decide) (by decide), hA 12 (by decide) (by decide)]
        exact q6
      · show z_TR (B' 46) (B' 47) (B' 48) (M' 110) m' n' t' l
        rw [hB 46 (by decide), hB 47 (by decide), hB 48 (by decide), hM 110 (by decide)]
        exact q7
  · show z_Ky (B' 45)
    rw [hB 45 (by decide)]
    exact hK
  · rcases h5 with h | ⟨h, b, n, S1, R1, S2, R2, a1, a2, a3, a4, a5, a6⟩
    · exact Or.inl ((hV 0 8 (by decide)).trans h)
    · exact Or.inr ⟨(hV 0 8 (by decide)).trans h, b, n, S1, R1, S2, R2, a1, fun k q => (hA k (by omega) (by omega)).trans (a2 k q), fun k q => (hN k (by omega) (by omega)).trans (a3 k q), fun k j q => (hV k j (by omega)).trans (a4 k j q), fun k q1 q2 => (hB k (by omega)).trans (a5 k q1 q2), fun j q1 q2 => (hU 41 j (by omega)).trans (a6 j q1 q2)⟩
