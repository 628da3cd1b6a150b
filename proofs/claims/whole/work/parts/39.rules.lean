/-! Runs of the plain machine, by rules. -/
/-- the program's numbers without the script -/
def z_st0 (j : Nat) : Option Value := (z_stl[j]?).map (fun q => q.2.2.2)
def z_g0 : z_G := ((40, 37, 601024, 7293034), (z_tyl, 4), (z_cN, z_fty), (fun a => if a = 38 then some (37, fun j => z_smap.getD j 0) else none), fun j => (z_stl[j]?).map (fun q => q.2.2.2))
def z_b0 : z_B := z_bj z_g0
def z_Rn (L : Nat) (xs : Nat → Int32) (f w mi pc : Nat) (lv : List (Nat × Value)) (st : List Value) (S : z_S) (r : z_O × z_S) : Prop := ∃ n, z_ev (z_g L xs) z_pg z_b0 n f w mi pc lv st S = some r
section ZRULES
variable {L : Nat} {xs : Nat → Int32} {f w mi pc : Nat} {lv : List (Nat × Value)} {st : List Value} {S : z_S} {r : z_O × z_S}
theorem z_gfz : ∀ x q, (fun a => if a = 38 then some (37, fun j => z_smap.getD j 0) else none : Nat → Option (Nat × (Nat → Int32))) x = some q → (fun a => if a = 38 then some (37, fun j => z_smap.getD j 0) else if a = 39 then some (L, xs) else none : Nat → Option (Nat × (Nat → Int32))) x = some q := by
  intro x q h
  dsimp only at h ⊢
  by_cases hx : x = 38
  · rw [if_pos hx] at h ⊢
    exact h
  · rw [if_neg hx] at h
    cases h
/-- a run that does not look at the script -/
theorem z_Rn.closed {f0 w0 n : Nat} (h : z_ev z_g0 z_pg z_b0 n f0 w0 mi pc lv st S = some r) (hf : f0 ≤ f) (hw : w0 ≤ w) : z_Rn L xs f w mi pc lv st S r :=
  ⟨n, z_mono (a := (40, 37, 601024, 7293034)) (b := (z_tyl, 4)) (c := (z_cN, z_fty)) (d := z_st0) (P := z_pg) (B := z_b0) (z_gfz (L := L) (xs := xs)) n n (Nat.le_refl n) f0 f w0 w mi pc lv st S r hf hw h⟩
theorem z_Rn.more {n m : Nat} (h : z_ev (z_g L xs) z_pg z_b0 n f w mi pc lv st S = some r) (hm : n ≤ m) : z_ev (z_g L xs) z_pg z_b0 m f w mi pc lv st S = some r :=
  z_mono (a := (40, 37, 601024, 7293034)) (b := (z_tyl, 4)) (c := (z_cN, z_fty)) (d := z_st0) (P := z_pg) (B := z_b0) (fz := (z_g L xs).2.2.2.1) (fz' := (z_g L xs).2.2.2.1) (fun _ _ h => h) n m hm f f w w mi pc lv st S r (Nat.le_refl f) (Nat.le_refl w) h
/-- an instruction with no call, no return and no throw -/
def z_pl (i : Instr) (aux : List Nat) : Bool := match i, aux with
  | .return_, _ => false
  | .ireturn, _ => false
  | .areturn, _ => false
  | .invokestatic _, _ => false
  | .invokespecial _, _ => false
  | .invokevirtual _, _ => false
  | .new _, [9, _, _] => false
  | _, _ => true
theorem z_pl_ret {rt : Option FieldType} {i : Instr} {len : Nat} {aux : List Nat} (h : z_pl i aux = true) : z_ret rt i len st = none := by
  cases i <;> first | rfl | cases h
theorem z_pl_inv {G : z_G} {P : z_Q} {i : Instr} {aux : List Nat} (h : z_pl i aux = true) : z_inv G P i aux st S = none := by
  cases i <;> first | rfl | cases h
theorem z_pl_b0 {i : Instr} {len : Nat} {aux : List Nat} (h : z_pl i aux = true) : z_b0 i len aux lv st S = none := by
  unfold z_b0 z_bj
  split
  · cases i <;> first | rfl | cases h
  · rfl
theorem z_bd_pl {G : z_G} {P : z_Q} {E : Nat → Nat → Nat → Nat → List (Nat × Value) → List Value → z_S → Option (z_O × z_S)} {i : Instr} {len : Nat} {aux : List Nat} {pc' : Nat} {lv' : List (Nat × Value)} {st' : List Value} {S' : z_S}
    (hrow : P.1 mi pc = some (i, len, aux)) (hpl : z_pl i aux = true) (hs : z_step G (P.2.1 mi) i len aux pc lv st S = some (pc', lv', st', S')) : z_bd G P z_b0 E f w mi pc lv st S = E f w mi pc' lv' st' S' := by
  unfold z_bd
  rw [hrow]
  dsimp only
  rw [z_pl_ret hpl, z_pl_inv hpl]
  dsimp only
  split
  · cases hpl
  · cases hpl
  · rw [z_pl_b0 hpl]
    dsimp only
    rw [hs]
theorem z_Rn.step {i : Instr} {len : Nat} {aux : List Nat} {pc' : Nat} {lv' : List (Nat × Value)} {st' : List Value} {S' : z_S} (hrow : z_pg.1 mi pc = some (i, len, aux)) (hpl : z_pl i aux = true) (hs : z_step (z_g L xs) (z_pg.2.1 mi) i len aux pc lv st S = some (pc', lv', st', S')) (k : z_Rn L xs f w mi pc' lv' st' S' r) : z_Rn L xs f w mi pc lv st S r := by
  obtain ⟨n, hn⟩ := k
  refine ⟨n + 1, ?_⟩
  rw [z_ev_S, z_bd_pl hrow hpl hs]
  exact hn
/-- a row of instructions, one behind the other -/
def z_blk (G : z_G) (nL : Nat) (rows : List z_R) (pc : Nat) (lv : List (Nat × Value)) (st : List Value) (S : z_S) : Option z_U := match rows with
  | [] => some (pc, lv, st, S)
  | q :: rs => if q.1 = pc then (match z_step G nL q.2.1 q.2.2.1 q.2.2.2 pc lv st S with
    | some (pc', lv', st', S') => z_blk G nL rs pc' lv' st' S'
    | none => none) else none
def z_isR (mi : Nat) (q : z_R) : Bool := z_pl q.2.1 q.2.2.2 && decide (z_pg.1 mi q.1 = some q.2)
theorem z_Rn.blk : ∀ (rows : List z_R) {pc : Nat} {lv : List (Nat × Value)} {st : List Value} {S : z_S} {pc' : Nat} {lv' : List (Nat × Value)} {st' : List Value} {S' : z_S}, rows.all (z_isR mi) = true → z_blk (z_g L xs) (z_pg.2.1 mi) rows pc lv st S = some (pc', lv', st', S') → z_Rn L xs f w mi pc' lv' st' S' r → z_Rn L xs f w mi pc lv st S r := by
  intro rows
  induction rows with
  | nil =>
    intro pc lv st S pc' lv' st' S' _ hb k
    cases hb
    exact k
  | cons q rs ih =>
    intro pc lv st S pc' lv' st' S' hr hb k
    rw [List.all_cons, Bool.and_eq_true] at hr
    obtain ⟨h1, h2⟩ := hr
    unfold z_isR at h1
    rw [Bool.and_eq_true] at h1
    unfold z_blk at hb
    split at hb
    · rename_i hpc
      split at hb
      · rename_i pc1 lv1 st1 S1 hs
        have hrow := of_decide_eq_true h1.2
        rw [hpc] at hrow
        exact z_Rn.step hrow h1.1 hs (ih h2 hb k)
      · cases hb
    · cases hb
/-- the end of a method -/
theorem z_Rn.ret {i : Instr} {len : Nat} {aux : List Nat} {v : Option Value} (hrow : z_pg.1 mi pc = some (i, len, aux)) (h : z_ret (z_pg.2.2.1 mi) i len st = some v) : z_Rn L xs f w mi pc lv st S (.inl v, S) := by
  refine ⟨1, ?_⟩
  rw [z_ev_S]
  unfold z_bd
  rw [hrow]
  dsimp only
  rw [h]
/-- a call that comes back -/
theorem z_Rn.call {i : Instr} {aux : List Nat} {mj : Nat} {as rr : List Value} {v : Option Value} {S1 : z_S} (hrow : z_pg.1 mi pc = some (i, 3, aux)) (hret : z_ret (z_pg.2.2.1 mi) i 3 st = none) (hinv : z_inv (z_g L xs) z_pg i aux st S = some (mj, as, rr))
    (hg : ((1 ≤ f ∧ 19 + z_pg.2.1 mj ≤ w) ∧ z_wt rr ≤ 8 ∧ z_wt as ≤ z_pg.2.1 mj) ∧ (S.1.length ≤ 601024 ∧ S.2 ≤ 7293034) ∧ S.1.length ≤ S1.1.length ∧ S.2 ≤ S1.2) (hc : z_Rn L xs (f - 1) (w - (19 + z_pg.2.1 mj)) mj 0 (lv_args 0 as) [] S (.inl v, S1)) (k : z_Rn L xs f w mi (pc + 3) lv (v.toList ++ rr) S1 r) : z_Rn L xs f w mi pc lv st S r := by
  obtain ⟨n, hn⟩ := hc
  obtain ⟨m, hm⟩ := k
  obtain ⟨⟨⟨g1, g2⟩, g3, g4⟩, ⟨g5, g6⟩, g7, g8⟩ := hg
  refine ⟨max n m + 1, ?_⟩
  rw [z_ev_S]
  unfold z_bd
  rw [hrow]
  dsimp only
  rw [hret, hinv]
  dsimp only
  rw [if_pos ⟨⟨rfl, g1, g2⟩, ⟨g3, g4⟩, g5, g6⟩, z_Rn.more hn (Nat.le_max_left n m)]
  dsimp only
  rw [if_pos ⟨g7, g8⟩]
  exact z_Rn.more hm (Nat.le_max_right n m)
/-- a call that throws, and a handler takes it -/
theorem z_Rn.caught {i : Instr} {aux : List Nat} {mj : Nat} {as rr : List Value} {x ci hp : Nat} {S1 : z_S} (hrow : z_pg.1 mi pc = some (i, 3, aux)) (hret : z_ret (z_pg.2.2.1 mi) i 3 st = none) (hinv : z_inv (z_g L xs) z_pg i aux st S = some (mj, as, rr))
    (hg : ((1 ≤ f ∧ 19 + z_pg.2.1 mj ≤ w) ∧ z_wt rr ≤ 8 ∧ z_wt as ≤ z_pg.2.1 mj) ∧ (S.1.length ≤ 601024 ∧ S.2 ≤ 7293034) ∧ S.1.length ≤ S1.1.length ∧ S.2 ≤ S1.2) (hc : z_Rn L xs (f - 1) (w - (19 + z_pg.2.1 mj)) mj 0 (lv_args 0 as) [] S (.inr x, S1)) (hcls : z_cls 40 S1 x = some ci) (hfh : z_fh pc ci (z_pg.2.2.2.1 mi) (z_pg.2.2.2.2.1 mi) = some (some hp)) (k : z_Rn L xs f w mi hp lv [.ref x] S1 r) : z_Rn L xs f w mi pc lv st S r := by
  obtain ⟨n, hn⟩ := hc
  obtain ⟨m, hm⟩ := k
  obtain ⟨⟨⟨g1, g2⟩, g3, g4⟩, ⟨g5, g6⟩, g7, g8⟩ := hg
  have hcls : z_cls (z_g L xs).1.1 S1 x = some ci := hcls
  refine ⟨max n m + 1, ?_⟩
  rw [z_ev_S]
  unfold z_bd
  rw [hrow]
  dsimp only
  rw [hret, hinv]
  dsimp only
  rw [if_pos ⟨⟨rfl, g1, g2⟩, ⟨g3, g4⟩, g5, g6⟩, z_Rn.more hn (Nat.le_max_left n m)]
  dsimp only
  rw [if_pos ⟨g7, g8⟩, hcls]
  dsimp only
  rw [hfh]
  exact z_Rn.more hm (Nat.le_max_right n m)
end ZRULES
