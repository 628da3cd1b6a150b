/-! Rows that grow: x.f = atLeast(x.f, n) over cells that keep their numbers. -/
/-- an instruction that is no builtin -/
def z_nbi (i : Instr) (aux : List Nat) : Bool := match i, aux with
  | .invokevirtual _, [2, _] => false
  | .invokestatic _, [3, _] => false
  | .invokestatic _, [4, _] => false
  | .invokestatic _, [5, _] => false
  | .aaload, [] => false
  | .baload, [] => false
  | .arraylength, [] => false
  | .getfield _, [_, _] => false
  | _, _ => true
theorem z_b0_nb {i : Instr} {len : Nat} {aux : List Nat} {lv : List (Nat × Value)} {st : List Value} {S : z_S} (h : z_nbi i aux = true) : z_b0 i len aux lv st S = none := by
  unfold z_b0 z_bj
  split
  · unfold z_bi
    split <;> first | rfl | cases h
  · rfl
section ZGR
variable {L : Nat} {xs : Nat → Int32} {fv : Value} {f w mi pc : Nat} {lv : List (Nat × Value)} {st : List Value} {S : z_S} {r : z_O × z_S}
theorem z_Rn.aln {a : Nat} {x : Nat × Nat × z_C} {q : List Value} (hrow : z_pg.1 mi pc = some (.arraylength, 1, [])) (ha : 107 ≤ a) (hc : S.1[a - 107]? = some (.inl x)) (hx : x.1 < 5) (k : z_Rn L xs fv f w mi (pc + 1) lv (.int (Int32.ofNat x.2.1) :: q) S r) : z_Rn L xs fv f w mi pc lv (.ref a :: q) S r := by
  refine z_Rn.step hrow rfl ?_ ?_ k
  · unfold z_b0 z_bj
    split
    · have h6 : z_gfr a = none := by
        cases hx : z_gfr a with
        | none => rfl
        | some y =>
          have := (z_gfr_lo hx).1
          omega
      have h7 : z_gfb a = none := by
        cases hx : z_gfb a with
        | none => rfl
        | some y =>
          have := z_gfb_lo hx
          omega
      show (match z_gfr a with
        | some y => some (Value.int (Int32.ofNat y.1) :: q, S)
        | none => match z_gfb a with
          | some y => some (Value.int (Int32.ofNat y.1) :: q, S)
          | none => none) = none
      rw [h6]
      dsimp only
      rw [h7]
    · rfl
  · show z_or (z_aln 107 z_tyl 1 pc lv (.ref a :: q) S) _ = _
    refine z_or_l ?_
    unfold z_aln
    dsimp only
    have h1 : z_ar 107 S a = some x := by
      unfold z_ar
      rw [if_pos ha, hc]
    rw [h1]
    dsimp only
    rw [if_pos ⟨rfl, hx⟩]
/-- Math.max and min -/
theorem z_Rn.mth {mx : Bool} {idx pl : Nat} {a b : Int32} {q : List Value} (hrow : z_pg.1 mi pc = some (.invokestatic idx, 3, [if mx = true then 4 else 5, pl])) (hr : S.1.length ≤ 601024 ∧ S.2 ≤ 7293034) (hf : 1 ≤ f) (hw : 60 ≤ w) (hq : z_wt q ≤ 8) (k : z_Rn L xs fv f w mi (pc + 3) lv (.int (if mx = true then (if a < b then b else a) else (if b < a then b else a)) :: q) S r) : z_Rn L xs fv f w mi pc lv (.int b :: .int a :: q) S r := by
  cases mx with
  | true =>
    refine z_Rn.bi hrow rfl ?_ ⟨rfl, rfl, hf, hw⟩ k
    unfold z_b0 z_bj
    rw [if_pos (show S.1.length ≤ z_g0.1.2.2.1 ∧ S.2 ≤ z_g0.1.2.2.2 from hr)]
    show (if z_wt q ≤ 8 then _ else _) = _
    rw [if_pos hq]
  | false =>
    refine z_Rn.bi hrow rfl ?_ ⟨rfl, rfl, hf, hw⟩ k
    unfold z_b0 z_bj
    rw [if_pos (show S.1.length ≤ z_g0.1.2.2.1 ∧ S.2 ≤ z_g0.1.2.2.2 from hr)]
    show (if z_wt q ≤ 8 then _ else _) = _
    rw [if_pos hq]
/-- Arrays.copyOf of ints, to more -/
theorem z_cof {a m : Nat} {g : List (Nat × Int32)} {nl : Int32} (ha : 107 ≤ a) (hc : S.1[a - 107]? = some (.inl (0, m, .inl g))) (h0 : ¬ nl < 0) (h1 : nl.toNatClampNeg * 4 ≤ 536870912) (h2 : ¬ nl = Int32.ofNat m) (h3 : ¬ nl < Int32.ofNat m) (h4 : (Int32.ofNat m).toNatClampNeg = m) (h5 : m ≤ nl.toNatClampNeg) (h6 : ¬ Int32.ofNat m < 0)
    (hr1 : S.1.length + 1 ≤ 601024) (hr2 : S.2 + nl.toNatClampNeg ≤ 7293034) (hf : 1 ≤ f) (hw : 60 ≤ w) : z_Rn L xs fv f w 61 0 (lv_args 0 [.ref a, .int nl]) [] S (.inl (some (.ref (107 + S.1.length))), (S.1 ++ [.inl (0, nl.toNatClampNeg, .inl (z_cpl g [] 0 0 m))], S.2 + nl.toNatClampNeg)) := by
  have hal := (List.getElem?_eq_some_iff.mp hc).1
  refine z_Rn.step (pc' := 1) (lv' := [(0, .ref a), (1, .int nl)]) (st' := [.int nl]) (S' := S) rfl rfl (z_b0_nb rfl) rfl ?_
  refine z_Rn.step (pc' := 2) (lv' := [(0, .ref a), (1, .int nl)]) (st' := [.ref a, .int nl]) (S' := S) rfl rfl (z_b0_nb rfl) rfl ?_
  refine z_Rn.aln rfl ha hc (by show (0 : Nat) < 5; decide) ?_
  refine z_Rn.step (pc' := 14) (lv' := [(0, .ref a), (1, .int nl)]) (st' := []) (S' := S) rfl rfl (z_b0_nb rfl) ?_ ?_
  · show some ((if decide (¬ nl = Int32.ofNat m) = true then 14 else 6), _, _, _) = _
    rw [decide_eq_true h2]
    rfl
  refine z_Rn.step (pc' := 15) (lv' := [(0, .ref a), (1, .int nl)]) (st' := [.int nl]) (S' := S) rfl rfl (z_b0_nb rfl) rfl ?_
  refine z_Rn.step (pc' := 17) (lv' := [(0, .ref a), (1, .int nl)]) (st' := [.ref (107 + S.1.length)]) (S' := (S.1 ++ [.inl (0, nl.toNatClampNeg, .inl [])], S.2 + nl.toNatClampNeg)) rfl rfl (z_b0_nb rfl) ?_ ?_
  · show (if (2 = 2 ∧ ¬ nl < 0 ∧ nl.toNatClampNeg * componentBytes .int ≤ 536870912) ∧ S.1.length + 1 ≤ 601024 ∧ S.2 + nl.toNatClampNeg ≤ 7293034 then _ else _) = _
    exact if_pos ⟨⟨rfl, h0, h1⟩, hr1, hr2⟩
  generalize hS1 : ((S.1 ++ [.inl (0, nl.toNatClampNeg, .inl [])], S.2 + nl.toNatClampNeg) : z_S) = S1
  have e1 : S1.1 = S.1 ++ [.inl (0, nl.toNatClampNeg, .inl [])] := by rw [← hS1]
  have e2 : S1.2 = S.2 + nl.toNatClampNeg := by rw [← hS1]
  have hc1 : S1.1[a - 107]? = some (.inl (0, m, .inl g)) := by
    rw [e1, List.getElem?_append_left hal]
    exact hc
  have hn1 : S1.1[107 + S.1.length - 107]? = some (.inl (0, nl.toNatClampNeg, .inl [])) := by
    rw [e1, show 107 + S.1.length - 107 = S.1.length by omega, List.getElem?_append_right (Nat.le_refl _), Nat.sub_self]
    rfl
  have hl1 : S1.1.length = S.1.length + 1 := by
    rw [e1, List.length_append]
    rfl
  refine z_Rn.step (pc' := 18) (lv' := [(2, .ref (107 + S.1.length)), (0, .ref a), (1, .int nl)]) (st' := []) (S' := S1) rfl rfl (z_b0_nb rfl) rfl ?_
  refine z_Rn.step (pc' := 19) (lv' := [(2, .ref (107 + S.1.length)), (0, .ref a), (1, .int nl)]) (st' := [.ref a]) (S' := S1) rfl rfl (z_b0_nb rfl) rfl ?_
  refine z_Rn.step (pc' := 20) (lv' := [(2, .ref (107 + S.1.length)), (0, .ref a), (1, .int nl)]) (st' := [.int 0, .ref a]) (S' := S1) rfl rfl (z_b0_nb rfl) rfl ?_
  refine z_Rn.step (pc' := 21) (lv' := [(2, .ref (107 + S.1.length)), (0, .ref a), (1, .int nl)]) (st' := [.ref (107 + S.1.length), .int 0, .ref a]) (S' := S1) rfl rfl (z_b0_nb rfl) rfl ?_
  refine z_Rn.step (pc' := 22) (lv' := [(2, .ref (107 + S.1.length)), (0, .ref a), (1, .int nl)]) (st' := [.int 0, .ref (107 + S.1.length), .int 0, .ref a]) (S' := S1) rfl rfl (z_b0_nb rfl) rfl ?_
  refine z_Rn.step (pc' := 23) (lv' := [(2, .ref (107 + S.1.length)), (0, .ref a), (1, .int nl)]) (st' := [.ref a, .int 0, .ref (107 + S.1.length), .int 0, .ref a]) (S' := S1) rfl rfl (z_b0_nb rfl) rfl ?_
  refine z_Rn.aln rfl ha hc1 (by show (0 : Nat) < 5; decide) ?_
  refine z_Rn.step (pc' := 25) (lv' := [(2, .ref (107 + S.1.length)), (0, .ref a), (1, .int nl)]) (st' := [.int nl, .int (Int32.ofNat m), .int 0, .ref (107 + S.1.length), .int 0, .ref a]) (S' := S1) rfl rfl (z_b0_nb rfl) rfl ?_
  refine z_Rn.mth (mx := false) rfl ⟨by omega, by omega⟩ hf hw (by show 4 ≤ 8; omega) ?_
  have e3 : (if false = true then (if Int32.ofNat m < nl then nl else Int32.ofNat m) else (if nl < Int32.ofNat m then nl else Int32.ofNat m)) = Int32.ofNat m := by
    rw [if_neg (by decide), if_neg h3]
  rw [e3]
  refine z_Rn.bi (st' := []) (S' := (S.1 ++ [.inl (0, nl.toNatClampNeg, .inl (z_cpl g [] 0 0 m))], S.2 + nl.toNatClampNeg)) rfl rfl ?_ ⟨?_, ?_, hf, hw⟩ ?_
  · unfold z_b0 z_bj
    rw [if_pos (show S1.1.length ≤ z_g0.1.2.2.1 ∧ S1.2 ≤ z_g0.1.2.2.2 from (⟨by omega, by omega⟩ : S1.1.length ≤ 601024 ∧ S1.2 ≤ 7293034))]
    show z_acp z_g0 [.int (Int32.ofNat m), .int 0, .ref (107 + S.1.length), .int 0, .ref a] S1 = _
    have har : z_ar 107 S1 (107 + S.1.length) = some (0, nl.toNatClampNeg, .inl []) := by
      unfold z_ar
      rw [if_pos (by omega), hn1]
    have har2 : z_ar 107 S1 a = some (0, m, .inl g) := by
      unfold z_ar
      rw [if_pos ha, hc1]
    unfold z_acp
    dsimp only
    have har : z_ar z_g0.1.1 S1 (107 + S.1.length) = some (0, nl.toNatClampNeg, .inl []) := har
    have har2 : z_ar z_g0.1.1 S1 a = some (0, m, .inl g) := har2
    rw [har, har2]
    show (if (z_tyl[0]? = some .int ∧ refKind .int = false ∧ z_wt [] ≤ 8) ∧ (¬ (0 : Int32) < 0 ∧ ¬ (0 : Int32) < 0 ∧ ¬ Int32.ofNat m < 0) ∧ ((0 : Int32).toNatClampNeg + (Int32.ofNat m).toNatClampNeg ≤ m ∧ (0 : Int32).toNatClampNeg + (Int32.ofNat m).toNatClampNeg ≤ nl.toNatClampNeg) ∧ (List.range (Int32.ofNat m).toNatClampNeg).all (fun i => fits .int (.int (z_fn 0 g ((0 : Int32).toNatClampNeg + i)))) = true then some ([], (S1.1.set (107 + S.1.length - 107) (.inl (0, nl.toNatClampNeg, .inl (z_cpl g [] (0 : Int32).toNatClampNeg (0 : Int32).toNatClampNeg (Int32.ofNat m).toNatClampNeg))), S1.2)) else none) = _
    have z0 : (0 : Int32).toNatClampNeg = 0 := by decide
    rw [h4, z0, if_pos ⟨⟨rfl, rfl, by decide⟩, ⟨by decide, by decide, h6⟩, ⟨by omega, by omega⟩, List.all_eq_true.mpr (fun i _ => rfl)⟩]
    congr 2
    rw [e1, e2, show 107 + S.1.length - 107 = S.1.length by omega, List.set_append_right _ _ (Nat.le_refl _), Nat.sub_self]
    rfl
  · show (S.1 ++ [_]).length = S1.1.length
    rw [hl1, List.length_append]
    rfl
  · exact e2.symm
  refine z_Rn.step (pc' := 32) (lv' := [(2, .ref (107 + S.1.length)), (0, .ref a), (1, .int nl)]) (st' := [.ref (107 + S.1.length)]) rfl rfl (z_b0_nb rfl) rfl ?_
  exact z_Rn.ret rfl rfl
/-- atLeast, where the row is too short -/
theorem z_alr {a m : Nat} {g : List (Nat × Int32)} {n nl : Int32} (hlt : Int32.ofNat m < n) (hnl : (if n < 2 * Int32.ofNat m then 2 * Int32.ofNat m else n) = nl) (ha : 107 ≤ a) (hc : S.1[a - 107]? = some (.inl (0, m, .inl g))) (h0 : ¬ nl < 0) (h1 : nl.toNatClampNeg * 4 ≤ 536870912) (h2 : ¬ nl = Int32.ofNat m) (h3 : ¬ nl < Int32.ofNat m) (h4 : (Int32.ofNat m).toNatClampNeg = m) (h5 : m ≤ nl.toNatClampNeg) (h6 : ¬ Int32.ofNat m < 0)
    (hr1 : S.1.length + 1 ≤ 601024) (hr2 : S.2 + nl.toNatClampNeg ≤ 7293034) (hf : 2 ≤ f) (hw : 100 ≤ w) : z_Rn L xs fv f w 60 0 (lv_args 0 [.ref a, .int n]) [] S (.inl (some (.ref (107 + S.1.length))), (S.1 ++ [.inl (0, nl.toNatClampNeg, .inl (z_cpl g [] 0 0 m))], S.2 + nl.toNatClampNeg)) := by
  refine z_Rn.step (pc' := 1) (lv' := [(0, .ref a), (1, .int n)]) (st' := [.int n]) (S' := S) rfl rfl (z_b0_nb rfl) rfl ?_
  refine z_Rn.step (pc' := 2) (lv' := [(0, .ref a), (1, .int n)]) (st' := [.ref a, .int n]) (S' := S) rfl rfl (z_b0_nb rfl) rfl ?_
  refine z_Rn.aln rfl ha hc (by show (0 : Nat) < 5; decide) ?_
  refine z_Rn.step (pc' := 10) (lv' := [(0, .ref a), (1, .int n)]) (st' := []) (S' := S) rfl rfl (z_b0_nb rfl) ?_ ?_
  · show some ((if decide (Int32.ofNat m < n) = true then 10 else 6), _, _, _) = _
    rw [decide_eq_true hlt]
    rfl
  refine z_Rn.step (pc' := 11) (lv' := [(0, .ref a), (1, .int n)]) (st' := [.ref a]) (S' := S) rfl rfl (z_b0_nb rfl) rfl ?_
  refine z_Rn.step (pc' := 12) (lv' := [(0, .ref a), (1, .int n)]) (st' := [.int n, .ref a]) (S' := S) rfl rfl (z_b0_nb rfl) rfl ?_
  refine z_Rn.step (pc' := 13) (lv' := [(0, .ref a), (1, .int n)]) (st' := [.int 2, .int n, .ref a]) (S' := S) rfl rfl (z_b0_nb rfl) rfl ?_
  refine z_Rn.step (pc' := 14) (lv' := [(0, .ref a), (1, .int n)]) (st' := [.ref a, .int 2, .int n, .ref a]) (S' := S) rfl rfl (z_b0_nb rfl) rfl ?_
  refine z_Rn.aln rfl ha hc (by show (0 : Nat) < 5; decide) ?_
  refine z_Rn.step (pc' := 16) (lv' := [(0, .ref a), (1, .int n)]) (st' := [.int (2 * Int32.ofNat m), .int n, .ref a]) (S' := S) rfl rfl (z_b0_nb rfl) rfl ?_
  refine z_Rn.mth (mx := true) rfl ⟨by omega, by omega⟩ (by omega) (by omega) (by show 1 ≤ 8; omega) ?_
  have e3 : (if true = true then (if n < 2 * Int32.ofNat m then 2 * Int32.ofNat m else n) else (if 2 * Int32.ofNat m < n then 2 * Int32.ofNat m else n)) = nl := by
    rw [if_pos rfl]
    exact hnl
  rw [e3]
  refine z_Rn.call (mj := 61) (as := [.ref a, .int nl]) (rr := []) (v := some (.ref (107 + S.1.length))) (S1 := (S.1 ++ [.inl (0, nl.toNatClampNeg, .inl (z_cpl g [] 0 0 m))], S.2 + nl.toNatClampNeg)) rfl rfl rfl ⟨⟨⟨by omega, ?_⟩, (by decide : (0 : Nat) ≤ 8), (by decide +kernel : (2 : Nat) ≤ z_pg.2.1 61)⟩, ⟨by omega, by omega⟩, ?_, Nat.le_add_right _ _⟩ (z_cof ha hc h0 h1 h2 h3 h4 h5 h6 hr1 hr2 (by omega) ?_) ?_
  · have : z_pg.2.1 61 ≤ 10 := by decide +kernel
    omega
  · rw [List.length_append]
    omega
  · have : z_pg.2.1 61 ≤ 10 := by decide +kernel
    omega
  exact z_Rn.ret rfl rfl
end ZGR
