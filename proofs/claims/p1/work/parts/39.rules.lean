/-! Runs of the plain machine, by rules. -/
/-- the program's numbers without the script -/
def z_st0 (j : Nat) : Option Value := (z_stl[j]?).map (fun q => q.2.2.2)
def z_g0 : z_G := ((40, 37, 600002, 7302232), (z_tyl, 4), (z_cN, z_fty), (fun a => if a = 38 then some (37, fun j => z_smap.getD j 0) else none), fun j => (z_stl[j]?).map (fun q => q.2.2.2))
def z_b0 : z_B := z_bj z_g0
def z_Rn (L : Nat) (xs : Nat → Int32) (f w mi pc : Nat) (lv : List (Nat × Value)) (st : List Value) (S : z_S) (r : z_O × z_S) : Prop := ∃ n, z_ev (z_g L xs) z_pg z_b0 n f w mi pc lv st S = some r
section ZRULES
variable {L : Nat} {xs : Nat → Int32} {f w mi pc : Nat} {lv : List (Nat × Value)} {st : List Value} {S : z_S} {r : z_O × z_S}
theorem z_gfz : ∀ x q, (fun a => if a = 38 then some (37, fun j => z_smap.getD j 0) else none : Nat → Option (Nat × (Nat → Int32))) x = some q → (fun a => if a = 38 then some (37, fun j => z_smap.getD j 0) else if a = 39 then some (L, xs) else none : Nat → Option (Nat × (Nat → Int32))) x = some q := by
  intro x q h
  dsimp only at h ⊢
  by_cases hx : x = 38
  · rw [if_pos hx] at h ⊢
    exact h
  · rw [if_neg hx] at h
    cases h
/-- a run that does not look at the script -/
theorem z_Rn.closed {f0 w0 n : Nat} (h : z_ev z_g0 z_pg z_b0 n f0 w0 mi pc lv st S = some r) (hf : f0 ≤ f) (hw : w0 ≤ w) : z_Rn L xs f w mi pc lv st S r :=
  ⟨n, z_mono (a := (40, 37, 600002, 7302232)) (b := (z_tyl, 4)) (c := (z_cN, z_fty)) (d := z_st0) (P := z_pg) (B := z_b0) (z_gfz (L := L) (xs := xs)) n n (Nat.le_refl n) f0 f w0 w mi pc lv st S r hf hw h⟩
theorem z_Rn.more {n m : Nat} (h : z_ev (z_g L xs) z_pg z_b0 n f w mi pc lv st S = some r) (hm : n ≤ m) : z_ev (z_g L xs) z_pg z_b0 m f w mi pc lv st S = some r :=
  z_mono (a := (40, 37, 600002, 7302232)) (b := (z_tyl, 4)) (c := (z_cN, z_fty)) (d := z_st0) (P := z_pg) (B := z_b0) (fz := (z_g L xs).2.2.2.1) (fz' := (z_g L xs).2.2.2.1) (fun _ _ h => h) n m hm f f w w mi pc lv st S r (Nat.le_refl f) (Nat.le_refl w) h
/-- an instruction with no call, no return and no throw -/
def z_pl (i : Instr) (aux : List Nat) : Bool := match i, aux with
  | .return_, _ => false
  | .ireturn, _ => false
  | .areturn, _ => false
  | .invokestatic _, _ => false
  | .invokespecial _, _ => false
  | .invokevirtual _, _ => false
  | .new _, [9, _, _] => false
  | _, _ => true
theorem z_pl_ret {rt : Option FieldType} {i : Instr} {len : Nat} {aux : List Nat} (h : z_pl i aux = true) : z_ret rt i len st = none := by
  cases i <;> first | rfl | cases h
theorem z_pl_inv {G : z_G} {P : z_Q} {i : Instr} {aux : List Nat} (h : z_pl i aux = true) : z_inv G P i aux st S = none := by
  cases i <;> first | rfl | cases h
theorem z_pl_b0 {i : Instr} {len : Nat} {aux : List Nat} (h : z_pl i aux = true) : z_b0 i len aux lv st S = none := by
  unfold z_b0 z_bj
  split
  · cases i <;> first | rfl | cases h
  · rfl
theorem z_bd_pl {G : z_G} {P : z_Q} {E : Nat → Nat → Nat → Nat → List (Nat × Value) → List Value → z_S → Option (z_O × z_S)} {i : Instr} {len : Nat} {aux : List Nat} {pc' : Nat} {lv' : List (Nat × Value)} {st' : List Value} {S' : z_S}
    (hrow : P.1 mi pc = some (i, len, aux)) (hpl : z_pl i aux = true) (hs : z_step G (P.2.1 mi) i len aux pc lv st S = some (pc', lv', st', S')) : z_bd G P z_b0 E f w mi pc lv st S = E f w mi pc' lv' st' S' := by
  unfold z_bd
  rw [hrow]
  dsimp only
  rw [z_pl_ret hpl, z_pl_inv hpl]
  dsimp only
  split
  · cases hpl
  · cases hpl
  · rw [z_pl_b0 hpl]
    dsimp only
    rw [hs]
theorem z_Rn.step {i : Instr} {len : Nat} {aux : List Nat} {pc' : Nat} {lv' : List (Nat × Value)} {st' : List Value} {S' : z_S} (hrow : z_pg.1 mi pc = some (i, len, aux)) (hpl : z_pl i aux = true) (hs : z_step (z_g L xs) (z_pg.2.1 mi) i len aux pc lv st S = some (pc', lv', st', S')) (k : z_Rn L xs f w mi pc' lv' st' S' r) : z_Rn L xs f w mi pc lv st S r := by
  obtain ⟨n, hn⟩ := k
  refine ⟨n + 1, ?_⟩
  rw [z_ev_S, z_bd_pl hrow hpl hs]
  exact hn
/-- a row of instructions, one behind the other -/
def z_blk (G : z_G) (nL : Nat) (rows : List z_R) (pc : Nat) (lv : List (Nat × Value)) (st : List Value) (S : z_S) : Option z_U := match rows with
  | [] => some (pc, lv, st, S)
  | q :: rs => if q.1 = pc then (match z_step G nL q.2.1 q.2.2.1 q.2.2.2 pc lv st S with
    | some (pc', lv', st', S') => z_blk G nL rs pc' lv' st' S'
    | none => none) else none
def z_isR (mi : Nat) (q : z_R) : Bool := z_pl q.2.1 q.2.2.2 && decide (z_pg.1 mi q.1 = some q.2)
theorem z_Rn.blk : ∀ (rows : List z_R) {pc : Nat} {lv : List (Nat × Value)} {st : List Value} {S : z_S} {pc' : Nat} {lv' : List (Nat × Value)} {st' : List Value} {S' : z_S}, rows.all (z_isR mi) = true → z_blk (z_g L xs) (z_pg.2.1 mi) rows pc lv st S = some (pc', lv', st', S') → z_Rn L xs f w mi pc' lv' st' S' r → z_Rn L xs f w mi pc lv st S r := by
  intro rows
  induction rows with
  | nil =>
    intro pc lv st S pc' lv' st' S' _ hb k
    cases hb
    exact k
  | cons q rs ih =>
    intro pc lv st S pc' lv' st' S' hr hb k
    rw [List.all_cons, Bool.and_eq_true] at hr
    obtain ⟨h1, h2⟩ := hr
    unfold z_isR at h1
    rw [Bool.and_eq_true] at h1
    unfold z_blk at hb
    split at hb
    · rename_i hpc
      split at hb
      · rename_i pc1 lv1 st1 S1 hs
        have hrow := of_decide_eq_true h1.2
        rw [hpc] at hrow
        exact z_Rn.step hrow h1.1 hs (ih h2 hb k)
      · cases hb
    · cases hb
/-- the end of a method -/
theorem z_Rn.ret {i : Instr} {len : Nat} {aux : List Nat} {v : Option Value} (hrow : z_pg.1 mi pc = some (i, len, aux)) (h : z_ret (z_pg.2.2.1 mi) i len st = some v) : z_Rn L xs f w mi pc lv st S (.inl v, S) := by
  refine ⟨1, ?_⟩
  rw [z_ev_S]
  unfold z_bd
  rw [hrow]
  dsimp only
  rw [h]
/-- a call that comes back -/
theorem z_Rn.call {i : Instr} {aux : List Nat} {mj : Nat} {as rr : List Value} {v : Option Value} {S1 : z_S} (hrow : z_pg.1 mi pc = some (i, 3, aux)) (hret : z_ret (z_pg.2.2.1 mi) i 3 st = none) (hinv : z_inv (z_g L xs) z_pg i aux st S = some (mj, as, rr))
    (hg : ((1 ≤ f ∧ 19 + z_pg.2.1 mj ≤ w) ∧ z_wt rr ≤ 8 ∧ z_wt as ≤ z_pg.2.1 mj) ∧ (S.1.length ≤ 600002 ∧ S.2 ≤ 7302232) ∧ S.1.length ≤ S1.1.length ∧ S.2 ≤ S1.2) (hc : z_Rn L xs (f - 1) (w - (19 + z_pg.2.1 mj)) mj 0 (lv_args 0 as) [] S (.inl v, S1)) (k : z_Rn L xs f w mi (pc + 3) lv (v.toList ++ rr) S1 r) : z_Rn L xs f w mi pc lv st S r := by
  obtain ⟨n, hn⟩ := hc
  obtain ⟨m, hm⟩ := k
  obtain ⟨⟨⟨g1, g2⟩, g3, g4⟩, ⟨g5, g6⟩, g7, g8⟩ := hg
  refine ⟨max n m + 1, ?_⟩
  rw [z_ev_S]
  unfold z_bd
  rw [hrow]
  dsimp only
  rw [hret, hinv]
  dsimp only
  rw [if_pos ⟨⟨rfl, g1, g2⟩, ⟨g3, g4⟩, g5, g6⟩, z_Rn.more hn (Nat.le_max_left n m)]
  dsimp only
  rw [if_pos ⟨g7, g8⟩]
  exact z_Rn.more hm (Nat.le_max_right n m)
/-- a call that throws, and a handler takes it -/
theorem z_Rn.caught {i : Instr} {aux : List Nat} {mj : Nat} {as rr : List Value} {x ci hp : Nat} {S1 : z_S} (hrow : z_pg.1 mi pc = some (i, 3, aux)) (hret : z_ret (z_pg.2.2.1 mi) i 3 st = none) (hinv : z_inv (z_g L xs) z_pg i aux st S = some (mj, as, rr))
    (hg : ((1 ≤ f ∧ 19 + z_pg.2.1 mj ≤ w) ∧ z_wt rr ≤ 8 ∧ z_wt as ≤ z_pg.2.1 mj) ∧ (S.1.length ≤ 600002 ∧ S.2 ≤ 7302232) ∧ S.1.length ≤ S1.1.length ∧ S.2 ≤ S1.2) (hc : z_Rn L xs (f - 1) (w - (19 + z_pg.2.1 mj)) mj 0 (lv_args 0 as) [] S (.inr x, S1)) (hcls : z_cls 40 S1 x = some ci) (hfh : z_fh pc ci (z_pg.2.2.2.1 mi) (z_pg.2.2.2.2.1 mi) = some (some hp)) (k : z_Rn L xs f w mi hp lv [.ref x] S1 r) : z_Rn L xs f w mi pc lv st S r := by
  obtain ⟨n, hn⟩ := hc
  obtain ⟨m, hm⟩ := k
  obtain ⟨⟨⟨g1, g2⟩, g3, g4⟩, ⟨g5, g6⟩, g7, g8⟩ := hg
  have hcls : z_cls (z_g L xs).1.1 S1 x = some ci := hcls
  refine ⟨max n m + 1, ?_⟩
  rw [z_ev_S]
  unfold z_bd
  rw [hrow]
  dsimp only
  rw [hret, hinv]
  dsimp only
  rw [if_pos ⟨⟨rfl, g1, g2⟩, ⟨g3, g4⟩, g5, g6⟩, z_Rn.more hn (Nat.le_max_left n m)]
  dsimp only
  rw [if_pos ⟨g7, g8⟩, hcls]
  dsimp only
  rw [hfh]
  exact z_Rn.more hm (Nat.le_max_right n m)
theorem z_Rn.brT {b : Bool} (h : b = true) {t e : Nat} (k : z_Rn L xs f w mi t lv st S r) : z_Rn L xs f w mi (if b = true then t else e) lv st S r := by
  rw [if_pos h]
  exact k
theorem z_Rn.brF {b : Bool} (h : b = false) {t e : Nat} (k : z_Rn L xs f w mi e lv st S r) : z_Rn L xs f w mi (if b = true then t else e) lv st S r := by
  rw [if_neg (by rw [h]; decide)]
  exact k
theorem z_blk0 : ∀ (rows : List z_R) {nL pc : Nat} {lv : List (Nat × Value)} {st : List Value} {S : z_S} {q : z_U}, z_blk z_g0 nL rows pc lv st S = some q → z_blk (z_g L xs) nL rows pc lv st S = some q := by
  intro rows
  induction rows with
  | nil =>
    intro nL pc lv st S q h
    exact h
  | cons x rs ih =>
    intro nL pc lv st S q h
    unfold z_blk at h ⊢
    split at h
    · rename_i hpc
      rw [if_pos hpc]
      split at h
      · rename_i pc1 lv1 st1 S1 hs
        have hs' : z_step (z_g L xs) nL x.2.1 x.2.2.1 x.2.2.2 pc lv st S = some (pc1, lv1, st1, S1) := z_step_mono (a := (40, 37, 600002, 7302232)) (b := (z_tyl, 4)) (c := (z_cN, z_fty)) (d := z_st0) (z_gfz (L := L) (xs := xs)) hs
        rw [hs']
        exact ih h
      · cases h
    · cases h
theorem z_Rn.blk0 (rows : List z_R) {pc' : Nat} {lv' : List (Nat × Value)} {st' : List Value} {S' : z_S} (hr : rows.all (z_isR mi) = true) (hb : z_blk z_g0 (z_pg.2.1 mi) rows pc lv st S = some (pc', lv', st', S')) (k : z_Rn L xs f w mi pc' lv' st' S' r) : z_Rn L xs f w mi pc lv st S r := z_Rn.blk rows hr (z_blk0 rows hb) k
/-- a row that throws -/
theorem z_Rn.thr {idx ci q : Nat} (hrow : z_pg.1 mi pc = some (.new idx, 3, [9, ci, q])) (hg : (6 ≤ f ∧ 150 ≤ w ∧ z_wt st ≤ 8) ∧ S.1.length + 1 ≤ 600002 ∧ S.2 + 6 ≤ 7302232) (hfh : z_fh pc ci (z_pg.2.2.2.1 mi) (z_pg.2.2.2.2.1 mi) = some none) :
    z_Rn L xs f w mi pc lv st S (.inr (40 + S.1.length), (S.1 ++ [.inr (ci, [])], S.2 + 6)) := by
  refine ⟨1, ?_⟩
  rw [z_ev_S]
  unfold z_bd
  rw [hrow]
  obtain ⟨⟨g1, g2, g3⟩, g4, g5⟩ := hg
  show (if _ then _ else _) = _
  rw [if_pos ⟨rfl, g1, g2, g3, g4, g5, hfh⟩]
  rfl
theorem z_inv_v {idx mj na q b : Nat} {as rr : List Value} (h : z_tk na st = some (as, .ref b :: rr)) (hc : z_cls 40 S b = some (z_mc mj)) : z_inv (z_g L xs) z_pg (.invokevirtual idx) [0, mj, na, q] st S = some (mj, .ref b :: as, rr) := by
  show (match z_tk na st with
    | some (as, Value.ref b :: r) => if z_cls 40 S b = some (z_mc mj) then some (mj, Value.ref b :: as, r) else none
    | _ => none) = _
  rw [h]
  exact if_pos hc
theorem z_inv_s {idx mj na q : Nat} {as rr : List Value} (h : z_tk na st = some (as, rr)) : z_inv (z_g L xs) z_pg (.invokestatic idx) [0, mj, na, q] st S = some (mj, as, rr) := by
  show (match z_tk na st with
    | some (as, r) => some (mj, as, r)
    | none => none) = _
  rw [h]
theorem z_inv_p {idx mj na q b : Nat} {as rr : List Value} (h : z_tk na st = some (as, .ref b :: rr)) : z_inv (z_g L xs) z_pg (.invokespecial idx) [0, mj, na, q] st S = some (mj, .ref b :: as, rr) := by
  show (match z_tk na st with
    | some (as, Value.ref b :: r) => some (mj, Value.ref b :: as, r)
    | _ => none) = _
  rw [h]
theorem z_Rn.callv {idx mj na q b : Nat} {as rr : List Value} {v : Option Value} {S1 : z_S} (hrow : z_pg.1 mi pc = some (.invokevirtual idx, 3, [0, mj, na, q])) (htk : z_tk na st = some (as, .ref b :: rr)) (hcl : z_cls 40 S b = some (z_mc mj)) (hg : (1 ≤ f ∧ 19 + z_ml mj ≤ w) ∧ z_wt rr ≤ 8 ∧ z_wt (.ref b :: as) ≤ z_ml mj)
    (hS : (S.1.length ≤ 600002 ∧ S.2 ≤ 7302232) ∧ S.1.length ≤ S1.1.length ∧ S.2 ≤ S1.2) (hc : z_Rn L xs (f - 1) (w - (19 + z_ml mj)) mj 0 (lv_args 0 (.ref b :: as)) [] S (.inl v, S1)) (k : z_Rn L xs f w mi (pc + 3) lv (v.toList ++ rr) S1 r) : z_Rn L xs f w mi pc lv st S r :=
  z_Rn.call hrow rfl (z_inv_v htk hcl) ⟨hg, hS⟩ hc k
theorem z_Rn.calls {idx mj na q : Nat} {as rr : List Value} {v : Option Value} {S1 : z_S} (hrow : z_pg.1 mi pc = some (.invokestatic idx, 3, [0, mj, na, q])) (htk : z_tk na st = some (as, rr)) (hg : (1 ≤ f ∧ 19 + z_ml mj ≤ w) ∧ z_wt rr ≤ 8 ∧ z_wt as ≤ z_ml mj)
    (hS : (S.1.length ≤ 600002 ∧ S.2 ≤ 7302232) ∧ S.1.length ≤ S1.1.length ∧ S.2 ≤ S1.2) (hc : z_Rn L xs (f - 1) (w - (19 + z_ml mj)) mj 0 (lv_args 0 as) [] S (.inl v, S1)) (k : z_Rn L xs f w mi (pc + 3) lv (v.toList ++ rr) S1 r) : z_Rn L xs f w mi pc lv st S r :=
  z_Rn.call hrow rfl (z_inv_s htk) ⟨hg, hS⟩ hc k
theorem z_Rn.callp {idx mj na q b : Nat} {as rr : List Value} {v : Option Value} {S1 : z_S} (hrow : z_pg.1 mi pc = some (.invokespecial idx, 3, [0, mj, na, q])) (htk : z_tk na st = some (as, .ref b :: rr)) (hg : (1 ≤ f ∧ 19 + z_ml mj ≤ w) ∧ z_wt rr ≤ 8 ∧ z_wt (.ref b :: as) ≤ z_ml mj)
    (hS : (S.1.length ≤ 600002 ∧ S.2 ≤ 7302232) ∧ S.1.length ≤ S1.1.length ∧ S.2 ≤ S1.2) (hc : z_Rn L xs (f - 1) (w - (19 + z_ml mj)) mj 0 (lv_args 0 (.ref b :: as)) [] S (.inl v, S1)) (k : z_Rn L xs f w mi (pc + 3) lv (v.toList ++ rr) S1 r) : z_Rn L xs f w mi pc lv st S r :=
  z_Rn.call hrow rfl (z_inv_p htk) ⟨hg, hS⟩ hc k
theorem z_step_tab {G : z_G} {nL : Nat} {dd : Int} {lo hi : Int} {offs : Array Int} {len t : Nat} {ts : List Nat} {x : Int32} {rr : List Value} (h : x.toInt < lo ∨ hi < x.toInt) : z_step G nL (.tableswitch dd lo hi offs) len (t :: ts) pc lv (.int x :: rr) S = some (t, lv, rr, S) := by
  show (z_tab lo hi (t :: ts) pc lv (.int x :: rr)).map _ = _
  unfold z_tab
  dsimp only
  rw [if_pos h]
  rfl
end ZRULES
