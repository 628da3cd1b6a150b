/-! Runs of the plain machine, by rules. -/
/-- the program's numbers without the script and without the static of which little is known -/
def z_f0z (x : Nat) : Option (Nat × (Nat → Int32)) := if x = 38 then some (37, fun j => z_smap.getD j 0) else none
def z_s0 (j : Nat) : Option Value := (z_stb[j]?).map (fun q => q.2.2.2)
def z_g0 : z_G := ((107, 37, 601024, 7293034), (z_tyl, 4), (z_cN, z_fty), z_f0z, (z_s0, z_gfr, z_gfb, z_gfc, z_gnc))
/-- the builtins, where there is room -/
def z_bj (G : z_G) : z_B := fun i len aux lv st S => if S.1.length ≤ G.1.2.2.1 ∧ S.2 ≤ G.1.2.2.2 then z_bi G i len aux lv st S else none
def z_b0 : z_B := z_bj z_g0
def z_fzs (L : Nat) (xs : Nat → Int32) (a : Nat) : Option (Nat × (Nat → Int32)) := if a = 38 then some (37, fun j => z_smap.getD j 0) else if a = 39 then some (L, xs) else none
def z_sts (fv : Value) (j : Nat) : Option Value := ((z_stl fv)[j]?).map (fun q => q.2.2.2)
theorem z_g_eq (L : Nat) (xs : Nat → Int32) (fv : Value) : z_g L xs fv = ((107, 37, 601024, 7293034), (z_tyl, 4), (z_cN, z_fty), z_fzs L xs, (z_sts fv, z_gfr, z_gfb, z_gfc, z_gnc)) := rfl
def z_Rn (L : Nat) (xs : Nat → Int32) (fv : Value) (f w mi pc : Nat) (lv : List (Nat × Value)) (st : List Value) (S : z_S) (r : z_O × z_S) : Prop := ∃ n, z_ev (z_g L xs fv) z_pg z_b0 n f w mi pc lv st S = some r
section ZRULES
variable {L : Nat} {xs : Nat → Int32} {fv : Value} {f w mi pc : Nat} {lv : List (Nat × Value)} {st : List Value} {S : z_S} {r : z_O × z_S}
theorem z_gfz : ∀ x q, z_f0z x = some q → z_fzs L xs x = some q := by
  intro x q h
  unfold z_f0z at h
  unfold z_fzs
  by_cases hx : x = 38
  · rw [if_pos hx] at h ⊢
    exact h
  · rw [if_neg hx] at h
    cases h
theorem z_gst : ∀ j v, z_s0 j = some v → z_sts fv j = some v := by
  intro j v h
  unfold z_s0 at h
  unfold z_sts z_stl
  cases hj : z_stb[j]? with
  | none => rw [hj] at h; cases h
  | some q =>
    rw [List.getElem?_append_left (List.getElem?_eq_some_iff.mp hj).1, hj]
    rw [hj] at h
    exact h
/-- a run that looks neither at the script nor at that static -/
theorem z_Rn.closed {f0 w0 n : Nat} (h : z_ev z_g0 z_pg z_b0 n f0 w0 mi pc lv st S = some r) (hf : f0 ≤ f) (hw : w0 ≤ w) : z_Rn L xs fv f w mi pc lv st S r :=
  ⟨n, z_mono (a := (107, 37, 601024, 7293034)) (b := (z_tyl, 4)) (c := (z_cN, z_fty)) (e := z_s0) (e' := z_sts fv) (d := (z_gfr, z_gfb, z_gfc, z_gnc)) (P := z_pg) (B := z_b0) (z_gfz (L := L) (xs := xs)) z_gst n n (Nat.le_refl n) f0 f w0 w mi pc lv st S r hf hw h⟩
theorem z_Rn.more {n m f' w' : Nat} (h : z_ev (z_g L xs fv) z_pg z_b0 n f w mi pc lv st S = some r) (hm : n ≤ m) (hf : f ≤ f') (hw : w ≤ w') : z_ev (z_g L xs fv) z_pg z_b0 m f' w' mi pc lv st S = some r :=
  z_mono (a := (107, 37, 601024, 7293034)) (b := (z_tyl, 4)) (c := (z_cN, z_fty)) (e := z_sts fv) (e' := z_sts fv) (d := (z_gfr, z_gfb, z_gfc, z_gnc)) (P := z_pg) (B := z_b0) (fz := z_fzs L xs) (fz' := z_fzs L xs) (fun _ _ h => h) (fun _ _ h => h) n m hm f f' w w' mi pc lv st S r hf hw h
theorem z_Rn.room {f' w' : Nat} (h : z_Rn L xs fv f w mi pc lv st S r) (hf : f ≤ f') (hw : w ≤ w') : z_Rn L xs fv f' w' mi pc lv st S r := by
  obtain ⟨n, hn⟩ := h
  exact ⟨n, z_Rn.more hn (Nat.le_refl n) hf hw⟩
/-- an instruction with no call, no return and no throw -/
def z_pl (i : Instr) (aux : List Nat) : Bool := match i, aux with
  | .return_, _ => false
  | .ireturn, _ => false
  | .areturn, _ => false
  | .invokestatic _, [0, _, _, _] => false
  | .invokespecial _, _ => false
  | .invokevirtual _, [0, _, _, _] => false
  | .invokevirtual _, [7, _, _, _] => false
  | .new _, [9, _, _] => false
  | _, _ => true
theorem z_pl_ret {rt : Option FieldType} {i : Instr} {len : Nat} {aux : List Nat} (h : z_pl i aux = true) : z_ret rt i len st = none := by
  cases i <;> first | rfl | cases h
theorem z_pl_inv {G : z_G} {P : z_Q} {i : Instr} {aux : List Nat} (h : z_pl i aux = true) : z_inv G P i aux st S = none := by
  unfold z_inv
  split
  · cases h
  · cases h
  · cases h
  · cases h
  · rfl
theorem z_bd_pl {G : z_G} {P : z_Q} {B : z_B} {E : Nat → Nat → Nat → Nat → List (Nat × Value) → List Value → z_S → Option (z_O × z_S)} {i : Instr} {len : Nat} {aux : List Nat} {pc' : Nat} {lv' : List (Nat × Value)} {st' : List Value} {S' : z_S}
    (hrow : P.1 mi pc = some (i, len, aux)) (hpl : z_pl i aux = true) (hB : B i len aux lv st S = none) (hs : z_step G (P.2.1 mi) i len aux pc lv st S = some (pc', lv', st', S')) : z_bd G P B E f w mi pc lv st S = E f w mi pc' lv' st' S' := by
  unfold z_bd
  rw [hrow]
  dsimp only
  rw [z_pl_ret hpl, z_pl_inv hpl]
  dsimp only
  split
  · cases hpl
  · cases hpl
  · rw [hB]
    dsimp only
    rw [hs]
theorem z_bd_bi {G : z_G} {P : z_Q} {B : z_B} {E : Nat → Nat → Nat → Nat → List (Nat × Value) → List Value → z_S → Option (z_O × z_S)} {i : Instr} {len : Nat} {aux : List Nat} {st' : List Value} {S' : z_S}
    (hrow : P.1 mi pc = some (i, len, aux)) (hpl : z_pl i aux = true) (hB : B i len aux lv st S = some (st', S')) (hg : S'.1.length = S.1.length ∧ S'.2 = S.2 ∧ 1 ≤ f ∧ 60 ≤ w) : z_bd G P B E f w mi pc lv st S = E f w mi (pc + len) lv st' S' := by
  unfold z_bd
  rw [hrow]
  dsimp only
  rw [z_pl_ret hpl, z_pl_inv hpl]
  dsimp only
  split
  · cases hpl
  · cases hpl
  · rw [hB]
    dsimp only
    rw [if_pos hg]
theorem z_Rn.step {i : Instr} {len : Nat} {aux : List Nat} {pc' : Nat} {lv' : List (Nat × Value)} {st' : List Value} {S' : z_S} (hrow : z_pg.1 mi pc = some (i, len, aux)) (hpl : z_pl i aux = true) (hB : z_b0 i len aux lv st S = none) (hs : z_step (z_g L xs fv) (z_pg.2.1 mi) i len aux pc lv st S = some (pc', lv', st', S')) (k : z_Rn L xs fv f w mi pc' lv' st' S' r) : z_Rn L xs fv f w mi pc lv st S r := by
  obtain ⟨n, hn⟩ := k
  refine ⟨n + 1, ?_⟩
  rw [z_ev_S, z_bd_pl hrow hpl hB hs]
  exact hn
/-- a builtin -/
theorem z_Rn.bi {i : Instr} {len : Nat} {aux : List Nat} {st' : List Value} {S' : z_S} (hrow : z_pg.1 mi pc = some (i, len, aux)) (hpl : z_pl i aux = true) (hB : z_b0 i len aux lv st S = some (st', S')) (hg : S'.1.length = S.1.length ∧ S'.2 = S.2 ∧ 1 ≤ f ∧ 60 ≤ w) (k : z_Rn L xs fv f w mi (pc + len) lv st' S' r) : z_Rn L xs fv f w mi pc lv st S r := by
  obtain ⟨n, hn⟩ := k
  refine ⟨n + 1, ?_⟩
  rw [z_ev_S, z_bd_bi hrow hpl hB hg]
  exact hn
/-- the end of a method -/
theorem z_Rn.ret {i : Instr} {len : Nat} {aux : List Nat} {v : Option Value} (hrow : z_pg.1 mi pc = some (i, len, aux)) (h : z_ret (z_pg.2.2.1 mi) i len st = some v) : z_Rn L xs fv f w mi pc lv st S (.inl v, S) := by
  refine ⟨1, ?_⟩
  rw [z_ev_S]
  unfold z_bd
  rw [hrow]
  dsimp only
  rw [h]
/-- what a call asks of room -/
def z_Cg (f w mj : Nat) (as rr : List Value) (S S1 : z_S) : Prop := ((1 ≤ f ∧ 19 + z_pg.2.1 mj ≤ w) ∧ z_wt rr ≤ 8 ∧ z_wt as ≤ z_pg.2.1 mj) ∧ (S.1.length ≤ 601024 ∧ S.2 ≤ 7293034) ∧ S.1.length ≤ S1.1.length ∧ S.2 ≤ S1.2
/-- a call that comes back -/
theorem z_Rn.call {i : Instr} {aux : List Nat} {mj : Nat} {as rr : List Value} {v : Option Value} {S1 : z_S} (hrow : z_pg.1 mi pc = some (i, 3, aux)) (hret : z_ret (z_pg.2.2.1 mi) i 3 st = none) (hinv : z_inv (z_g L xs fv) z_pg i aux st S = some (mj, as, rr))
    (hg : z_Cg f w mj as rr S S1) (hc : z_Rn L xs fv (f - 1) (w - (19 + z_pg.2.1 mj)) mj 0 (lv_args 0 as) [] S (.inl v, S1)) (k : z_Rn L xs fv f w mi (pc + 3) lv (v.toList ++ rr) S1 r) : z_Rn L xs fv f w mi pc lv st S r := by
  obtain ⟨n, hn⟩ := hc
  obtain ⟨m, hm⟩ := k
  obtain ⟨⟨⟨g1, g2⟩, g3, g4⟩, ⟨g5, g6⟩, g7, g8⟩ := hg
  refine ⟨max n m + 1, ?_⟩
  rw [z_ev_S]
  unfold z_bd
  rw [hrow]
  dsimp only
  rw [hret, hinv]
  dsimp only
  rw [if_pos ⟨⟨rfl, g1, g2⟩, ⟨g3, g4⟩, g5, g6⟩, z_Rn.more hn (Nat.le_max_left n m) (Nat.le_refl _) (Nat.le_refl _)]
  dsimp only
  rw [if_pos ⟨g7, g8⟩]
  exact z_Rn.more hm (Nat.le_max_right n m) (Nat.le_refl _) (Nat.le_refl _)
/-- a call that throws, and a handler takes it -/
theorem z_Rn.caught {i : Instr} {aux : List Nat} {mj : Nat} {as rr : List Value} {x ci hp : Nat} {S1 : z_S} (hrow : z_pg.1 mi pc = some (i, 3, aux)) (hret : z_ret (z_pg.2.2.1 mi) i 3 st = none) (hinv : z_inv (z_g L xs fv) z_pg i aux st S = some (mj, as, rr))
    (hg : z_Cg f w mj as rr S S1) (hc : z_Rn L xs fv (f - 1) (w - (19 + z_pg.2.1 mj)) mj 0 (lv_args 0 as) [] S (.inr x, S1)) (hcls : z_cls 107 S1 x = some ci) (hfh : z_fh z_gnc pc ci (z_pg.2.2.2.1 mi) (z_pg.2.2.2.2.1 mi) = some (some hp)) (k : z_Rn L xs fv f w mi hp lv [.ref x] S1 r) : z_Rn L xs fv f w mi pc lv st S r := by
  obtain ⟨n, hn⟩ := hc
  obtain ⟨m, hm⟩ := k
  obtain ⟨⟨⟨g1, g2⟩, g3, g4⟩, ⟨g5, g6⟩, g7, g8⟩ := hg
  have hcls : z_cls (z_g L xs fv).1.1 S1 x = some ci := hcls
  have hfh : z_fh (z_g L xs fv).2.2.2.2.2.2.2.2 pc ci (z_pg.2.2.2.1 mi) (z_pg.2.2.2.2.1 mi) = some (some hp) := hfh
  refine ⟨max n m + 1, ?_⟩
  rw [z_ev_S]
  unfold z_bd
  rw [hrow]
  dsimp only
  rw [hret, hinv]
  dsimp only
  rw [if_pos ⟨⟨rfl, g1, g2⟩, ⟨g3, g4⟩, g5, g6⟩, z_Rn.more hn (Nat.le_max_left n m) (Nat.le_refl _) (Nat.le_refl _)]
  dsimp only
  rw [if_pos ⟨g7, g8⟩, hcls]
  dsimp only
  rw [hfh]
  exact z_Rn.more hm (Nat.le_max_right n m) (Nat.le_refl _) (Nat.le_refl _)
/-- a call that throws, and no handler here takes it -/
theorem z_Rn.past {i : Instr} {aux : List Nat} {mj : Nat} {as rr : List Value} {x ci : Nat} {S1 : z_S} (hrow : z_pg.1 mi pc = some (i, 3, aux)) (hret : z_ret (z_pg.2.2.1 mi) i 3 st = none) (hinv : z_inv (z_g L xs fv) z_pg i aux st S = some (mj, as, rr))
    (hg : z_Cg f w mj as rr S S1) (hc : z_Rn L xs fv (f - 1) (w - (19 + z_pg.2.1 mj)) mj 0 (lv_args 0 as) [] S (.inr x, S1)) (hcls : z_cls 107 S1 x = some ci) (hfh : z_fh z_gnc pc ci (z_pg.2.2.2.1 mi) (z_pg.2.2.2.2.1 mi) = some none) : z_Rn L xs fv f w mi pc lv st S (.inr x, S1) := by
  obtain ⟨n, hn⟩ := hc
  obtain ⟨⟨⟨g1, g2⟩, g3, g4⟩, ⟨g5, g6⟩, g7, g8⟩ := hg
  have hcls : z_cls (z_g L xs fv).1.1 S1 x = some ci := hcls
  have hfh : z_fh (z_g L xs fv).2.2.2.2.2.2.2.2 pc ci (z_pg.2.2.2.1 mi) (z_pg.2.2.2.2.1 mi) = some none := hfh
  refine ⟨n + 1, ?_⟩
  rw [z_ev_S]
  unfold z_bd
  rw [hrow]
  dsimp only
  rw [hret, hinv]
  dsimp only
  rw [if_pos ⟨⟨rfl, g1, g2⟩, ⟨g3, g4⟩, g5, g6⟩, hn]
  dsimp only
  rw [if_pos ⟨g7, g8⟩, hcls]
  dsimp only
  rw [hfh]
/-- a row that throws -/
theorem z_Rn.thr {idx ci q : Nat} (hrow : z_pg.1 mi pc = some (.new idx, 3, [9, ci, q])) (hg : (6 ≤ f ∧ 150 ≤ w ∧ z_wt st ≤ 8) ∧ S.1.length + 1 ≤ 601024 ∧ S.2 + 6 ≤ 7293034) (hfh : z_fh z_gnc pc ci (z_pg.2.2.2.1 mi) (z_pg.2.2.2.2.1 mi) = some none) :
    z_Rn L xs fv f w mi pc lv st S (.inr (107 + S.1.length), (S.1 ++ [.inr (ci, [])], S.2 + 6)) := by
  refine ⟨1, ?_⟩
  rw [z_ev_S]
  unfold z_bd
  rw [hrow]
  obtain ⟨⟨g1, g2, g3⟩, g4, g5⟩ := hg
  show (if _ then _ else _) = _
  rw [if_pos ⟨rfl, g1, g2, g3, g4, g5, hfh⟩]
  rfl
end ZRULES
