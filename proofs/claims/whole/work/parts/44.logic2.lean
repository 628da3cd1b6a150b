/-! Further rules: builtins, returns, calls, throws. -/
section ZL2
variable {L : Nat} {xs : Nat → Int32} {fv : Value} {f w mi pc : Nat} {lv : List (Nat × Value)} {st : List Value} {T T' T1 : z_Y} {o : z_V}
theorem z_bi_rn {G : z_G} (hF : z_Fz G) {p : Nat → Nat} {H H' : List z_E} {S : z_S} {s s' len : Nat} {i : Instr} {aux : List Nat} {lv2 : List (Nat × Value)} {st' : List Value} (hS : z_Sim G.1.1 p H S) (h : z_bi G i len aux lv st (H, s) = some (st', (H', s'))) : z_Rb G.1.1 p H' S (fun st S => z_bi G i len aux lv2 st S) st st' := by
  unfold z_bi at h
  split at h
  · exact z_ord_rn hF hS h
  · exact z_acp_rn hS h
  · exact z_mth_rn hS h
  · exact z_mth_rn hS h
  · exact z_kal_rn hF hS h
  · exact z_kbl_rn hF hS h
  · exact z_kln_rn hF hS h
  · exact z_kgf_rn hF hS h
  · cases h
theorem z_bi_sz {G : z_G} {H H' : List z_E} {s s' len : Nat} {i : Instr} {aux : List Nat} {st' : List Value} (h : z_bi G i len aux lv st (H, s) = some (st', (H', s'))) : H'.length = H.length ∧ ∀ k : Nat, z_szE H[k]? = z_szE H'[k]? := by
  unfold z_bi at h
  split at h
  · unfold z_ord at h
    split at h
    · split at h
      · cases h
        exact ⟨rfl, fun _ => rfl⟩
      · cases h
    · cases h
  · unfold z_acp at h
    split at h
    · split at h
      · rename_i t1 n1 g t0 n0 f ha hb
        split at h
        · split at h
          · obtain ⟨-, a1⟩ := z_ar_i ha
            cases h
            exact ⟨List.length_set .., z_szE_set a1 rfl⟩
          · cases h
        · cases h
      · cases h
    · cases h
  · unfold z_mth at h
    split at h
    · split at h
      · cases h
        exact ⟨rfl, fun _ => rfl⟩
      · cases h
    · cases h
  · unfold z_mth at h
    split at h
    · split at h
      · cases h
        exact ⟨rfl, fun _ => rfl⟩
      · cases h
    · cases h
  · unfold z_kal at h
    split at h
    · split at h
      · split at h
        · cases h
          exact ⟨rfl, fun _ => rfl⟩
        · cases h
      · cases h
    · cases h
  · unfold z_kbl at h
    split at h
    · split at h
      · split at h
        · cases h
          exact ⟨rfl, fun _ => rfl⟩
        · cases h
      · cases h
    · cases h
  · unfold z_kln at h
    split at h
    · split at h
      · cases h
        exact ⟨rfl, fun _ => rfl⟩
      · split at h
        · cases h
          exact ⟨rfl, fun _ => rfl⟩
        · cases h
    · cases h
  · unfold z_kgf at h
    split at h
    · split at h
      · cases h
        exact ⟨rfl, fun _ => rfl⟩
      · cases h
    · cases h
  · cases h
/-- the room that is left -/
def z_Rm (T : z_Y) : Prop := T.2.1 ≤ 601024 ∧ T.2.2 ≤ 7293034
/-- a builtin -/
theorem z_Ln.bi {i : Instr} {len : Nat} {aux : List Nat} {s s' : Nat} {st' : List Value} {H' : List z_E} (hrow : z_pg.1 mi pc = some (i, len, aux)) (hpl : z_pl i aux = true) (hs : z_bi z_g0 i len aux lv st (T.1, s) = some (st', (H', s'))) (hg : z_Rm T ∧ 1 ≤ f ∧ 60 ≤ w) (k : z_Ln L xs fv f w mi (pc + len) lv st' (H', T.2) o T') : z_Ln L xs fv f w mi pc lv st T o T' := by
  intro hfv
  obtain ⟨k1, k2, k3⟩ := k hfv
  refine ⟨k1, k2, fun p S hS hc hsl => ?_⟩
  obtain ⟨z1, z2⟩ := z_bi_sz hs
  have hF : z_Fz z_g0 := ⟨(by decide : (37 : Nat) ≤ 107), fun j v h => z_Fz_s (fv := .null) (Or.inl rfl) j v (z_gst j v h), (z_Fz_g (L := L) (xs := xs) hfv).2.2⟩
  obtain ⟨S1, r1, r2, r3, r4⟩ := z_bi_rn (lv2 := z_trL (z_rr 107 p) lv) hF hS hs
  obtain ⟨p', S', o', q1, q2, q3, q4⟩ := k3 p S1 r2 (r3.trans hc) (r4.trans hsl)
  refine ⟨p', S', o', q1, ?_, q3, z_Rn.bi hrow hpl ?_ ⟨r3, r4, hg.2⟩ q4⟩
  · exact z_Kp.tr (p1 := p) ⟨Nat.le_of_eq z1.symm, fun j _ => ⟨Nat.le_of_eq (z2 j), fun _ => rfl⟩⟩ q2
  · unfold z_b0 z_bj
    rw [if_pos (by
      show S.1.length ≤ 601024 ∧ S.2 ≤ 7293034
      rw [hc, hsl]
      exact hg.1)]
    exact r1
theorem z_ret_rn {r : Nat → Nat} {rt : Option FieldType} {i : Instr} {len : Nat} {v : Option Value} (h : z_ret rt i len st = some v) : z_ret rt i len (st.map (z_tr r)) = some (v.map (z_tr r)) := by
  unfold z_ret at h
  split at h
  · split at h
    · split at h
      · rename_i hl
        cases h
        show (if len = 1 then _ else _) = _
        rw [if_pos hl]
        rfl
      · cases h
    · cases h
  · split at h
    · split at h
      · rename_i hl
        cases h
        show (if _ then _ else _) = _
        rw [if_pos hl]
        rfl
      · cases h
    · cases h
  · split at h
    · split at h
      · rename_i hl
        cases h
        show (if len = 1 then _ else _) = _
        rw [if_pos hl]
        rfl
      · cases h
    · split at h
      · rename_i hl
        cases h
        show (if len = 1 then _ else _) = _
        rw [if_pos hl]
        rfl
      · cases h
    · split at h
      · rename_i hl
        cases h
        show (if len = 1 then _ else _) = _
        rw [if_pos hl]
        rfl
      · cases h
    · split at h
      · rename_i hl
        cases h
        show (if len = 1 then _ else _) = _
        rw [if_pos hl]
        rfl
      · cases h
    · cases h
  · cases h
/-- the end of a method -/
theorem z_Ln.ret {i : Instr} {len : Nat} {aux : List Nat} {v : Option Value} (hrow : z_pg.1 mi pc = some (i, len, aux)) (h : z_ret (z_pg.2.2.1 mi) i len st = some v) : z_Ln L xs fv f w mi pc lv st T (.inl v) T := by
  intro hfv
  exact ⟨Nat.le_refl _, Nat.le_refl _, fun p S hS hc hsl => ⟨p, S, .inl (v.map (z_tr (z_rr 107 p))), ⟨hS, hc, hsl⟩, z_Kp.rf, rfl, z_Rn.ret hrow (z_ret_rn h)⟩⟩
theorem z_tk_rn {r : Nat → Nat} {n : Nat} {as q : List Value} (h : z_tk n st = some (as, q)) : z_tk n (st.map (z_tr r)) = some (as.map (z_tr r), q.map (z_tr r)) := by
  unfold z_tk at h ⊢
  split at h
  · rename_i hn
    cases h
    rw [List.length_map, if_pos hn, List.map_reverse, List.map_take, List.map_drop]
  · cases h
theorem z_cls_rn {p : Nat → Nat} {H : List z_E} {S : z_S} {s b ci : Nat} (hS : z_Sim 107 p H S) (h : z_cls 107 (H, s) b = some ci) : z_cls 107 S (z_rr 107 p b) = some ci := by
  unfold z_cls at h
  split at h
  · rename_i hb
    split at h
    · rename_i ob hob
      cases h
      have h6 := hS.1 _ _ hob
      rw [← z_rr_sub (p := p) hb] at h6
      unfold z_cls
      rw [if_pos (z_rr_ge hb), h6]
      rfl
    · cases h
  · cases h
theorem z_inv_rn {p : Nat → Nat} {H : List z_E} {S : z_S} {s mj : Nat} {i : Instr} {aux : List Nat} {as rr : List Value} (hS : z_Sim 107 p H S) (h : z_inv (z_g L xs fv) z_pg i aux st (H, s) = some (mj, as, rr)) : z_inv (z_g L xs fv) z_pg i aux (st.map (z_tr (z_rr 107 p))) S = some (mj, as.map (z_tr (z_rr 107 p)), rr.map (z_tr (z_rr 107 p))) := by
  unfold z_inv at h
  split at h
  · rename_i mj' na pl
    split at h
    · rename_i as' r' htk
      cases h
      show (match z_tk na (st.map (z_tr (z_rr 107 p))) with
        | some (as, r) => some (mj, as, r)
        | none => none) = _
      rw [z_tk_rn htk]
    · cases h
  · rename_i mj' na pl
    split at h
    · rename_i as' b r' htk
      cases h
      show (match z_tk na (st.map (z_tr (z_rr 107 p))) with
        | some (as, Value.ref b :: r) => some (mj, Value.ref b :: as, r)
        | _ => none) = _
      rw [z_tk_rn htk]
      rfl
    · cases h
  · rename_i mj' na pl
    split at h
    · rename_i as' b r' htk
      split at h
      · rename_i hcl
        cases h
        show (match z_tk na (st.map (z_tr (z_rr 107 p))) with
          | some (as, Value.ref b :: r) => if z_cls 107 S b = some (z_pg.2.2.2.2.2 mj) then some (mj, Value.ref b :: as, r) else none
          | _ => none) = _
        rw [z_tk_rn htk]
        show (if z_cls 107 S (z_rr 107 p b) = some (z_pg.2.2.2.2.2 mj) then _ else _) = _
        rw [if_pos (z_cls_rn hS hcl)]
        rfl
      · cases h
    · cases h
  · rename_i mj' na pl
    split at h
    · rename_i as' b r' htk
      split at h
      · rename_i hcl
        cases h
        show (match z_tk na (st.map (z_tr (z_rr 107 p))) with
          | some (as, Value.ref b :: r) => if (z_gfc b 99).isSome = true then some (mj, Value.ref b :: as, r) else none
          | _ => none) = _
        rw [z_tk_rn htk]
        have hb : b < 107 := by
          cases hx : z_gfc b 99 with
          | none =>
            have hcl : (z_gfc b 99).isSome = true := hcl
            rw [hx] at hcl
            cases hcl
          | some v => exact (z_gfc_lo hx).1
        show (if (z_gfc (z_rr 107 p b) 99).isSome = true then some (mj, Value.ref (z_rr 107 p b) :: as'.map (z_tr (z_rr 107 p)), rr.map (z_tr (z_rr 107 p))) else none) = some (mj, Value.ref (z_rr 107 p b) :: as'.map (z_tr (z_rr 107 p)), rr.map (z_tr (z_rr 107 p)))
        have hcl : (z_gfc b 99).isSome = true := hcl
        rw [z_rr_lo hb, if_pos hcl]
      · cases h
    · cases h
  · cases h
/-- of a value: if it is a cell's number, that cell did not grow -/
def z_sm (H H1 : List z_E) (v : Value) : Prop := match v with
  | .ref a => a < 107 ∨ (a - 107 < H.length ∧ z_szE H[a - 107]? = z_szE H1[a - 107]?)
  | _ => True
def z_Sm (H H1 : List z_E) (vs : List Value) : Prop := match vs with
  | [] => True
  | v :: r => z_sm H H1 v ∧ z_Sm H H1 r
theorem z_sm_tr {H H1 : List z_E} {p p1 : Nat → Nat} (hk : z_Kp H H1 p p1) {v : Value} (h : z_sm H H1 v) : z_tr (z_rr 107 p1) v = z_tr (z_rr 107 p) v := by
  cases v with
  | ref a =>
    rcases h with h | ⟨h1, h2⟩
    · show Value.ref (z_rr 107 p1 a) = Value.ref (z_rr 107 p a)
      rw [z_rr_lo h, z_rr_lo h]
    · have h3 := (hk.2 _ h1).2 h2
      show Value.ref (z_rr 107 p1 a) = Value.ref (z_rr 107 p a)
      unfold z_rr
      rw [h3]
  | _ => rfl
theorem z_Sm_tr {H H1 : List z_E} {p p1 : Nat → Nat} (hk : z_Kp H H1 p p1) : ∀ {vs : List Value}, z_Sm H H1 vs → vs.map (z_tr (z_rr 107 p1)) = vs.map (z_tr (z_rr 107 p)) := by
  intro vs
  induction vs with
  | nil => intro _; rfl
  | cons v r ih =>
    intro h
    rw [List.map_cons, List.map_cons, z_sm_tr hk h.1, ih h.2]
theorem z_SmL_tr {H H1 : List z_E} {p p1 : Nat → Nat} (hk : z_Kp H H1 p p1) : ∀ {lv : List (Nat × Value)}, z_Sm H H1 (lv.map (·.2)) → z_trL (z_rr 107 p1) lv = z_trL (z_rr 107 p) lv := by
  intro lv
  induction lv with
  | nil => intro _; rfl
  | cons q r ih =>
    intro h
    have h1 : z_sm H H1 q.2 := h.1
    show (q.1, z_tr (z_rr 107 p1) q.2) :: z_trL (z_rr 107 p1) r = (q.1, z_tr (z_rr 107 p) q.2) :: z_trL (z_rr 107 p) r
    rw [z_sm_tr hk h1, ih h.2]
/-- what a call asks -/
def z_Cq (f w mj : Nat) (as rr : List Value) : Prop := (1 ≤ f ∧ 19 + z_pg.2.1 mj ≤ w) ∧ z_wt rr ≤ 8 ∧ z_wt as ≤ z_pg.2.1 mj
theorem z_inv_ret {G : z_G} {P : z_Q} {rt : Option FieldType} {S : z_S} {i : Instr} {len : Nat} {aux : List Nat} {x : Nat × List Value × List Value} {st2 : List Value} (h : z_inv G P i aux st S = some x) : z_ret rt i len st2 = none := by
  unfold z_inv at h
  split at h
  · rfl
  · rfl
  · rfl
  · rfl
  · cases h
theorem z_Cg_of {S S1 : z_S} {mj : Nat} {as rr : List Value} {p : Nat → Nat} (hg : z_Cq f w mj as rr) (hr : z_Rm T) (hc : S.1.length = T.2.1) (hs : S.2 = T.2.2) (hc1 : S1.1.length = T1.2.1) (hs1 : S1.2 = T1.2.2) (h1 : T.2.1 ≤ T1.2.1) (h2 : T.2.2 ≤ T1.2.2) : z_Cg f w mj (as.map (z_tr (z_rr 107 p))) (rr.map (z_tr (z_rr 107 p))) S S1 := by
  refine ⟨⟨hg.1, ?_, ?_⟩, ?_, ?_⟩
  · rw [z_wt_tr']
    exact hg.2.1
  · rw [z_wt_tr']
    exact hg.2.2
  · rw [hc, hs]
    exact hr
  · rw [hc, hs, hc1, hs1]
    exact ⟨h1, h2⟩
/-- a call that comes back -/
theorem z_Ln.call {i : Instr} {aux : List Nat} {s mj : Nat} {as rr : List Value} {v : Option Value} (hrow : z_pg.1 mi pc = some (i, 3, aux)) (hinv : z_inv (z_g L xs fv) z_pg i aux st (T.1, s) = some (mj, as, rr)) (hg : z_Cq f w mj as rr) (hr : z_Rm T)
    (hc : z_Ln L xs fv (f - 1) (w - (19 + z_pg.2.1 mj)) mj 0 (lv_args 0 as) [] T (.inl v) T1) (hm : z_Sm T.1 T1.1 rr ∧ z_Sm T.1 T1.1 (lv.map (·.2))) (k : z_Ln L xs fv f w mi (pc + 3) lv (v.toList ++ rr) T1 o T') : z_Ln L xs fv f w mi pc lv st T o T' := by
  intro hfv
  obtain ⟨c1, c2, c3⟩ := hc hfv
  obtain ⟨k1, k2, k3⟩ := k hfv
  refine ⟨Nat.le_trans c1 k1, Nat.le_trans c2 k2, fun p S hS hcc hsl => ?_⟩
  obtain ⟨p1, S1, o1, ⟨a1, a2, a3⟩, b1, b2, b3⟩ := c3 p S hS hcc hsl
  cases o1 with
  | inr x => exact b2.elim
  | inl v1 =>
    have b2 : v1 = v.map (z_tr (z_rr 107 p1)) := b2
    subst b2
    obtain ⟨p', S', o', q1, q2, q3, q4⟩ := k3 p1 S1 a1 a2 a3
    refine ⟨p', S', o', q1, z_Kp.tr b1 q2, q3, ?_⟩
    have hi := z_inv_rn hS hinv
    refine z_Rn.call hrow (z_inv_ret hinv) hi (z_Cg_of hg hr hcc hsl a2 a3 c1 c2) (v := v.map (z_tr (z_rr 107 p1))) ?_ ?_
    · rw [z_args_tr]
      exact b3
    · rw [← z_SmL_tr b1 hm.2, ← z_Sm_tr b1 hm.1]
      have e : (v.map (z_tr (z_rr 107 p1))).toList ++ rr.map (z_tr (z_rr 107 p1)) = (v.toList ++ rr).map (z_tr (z_rr 107 p1)) := by cases v <;> rfl
      rw [e]
      exact q4
/-- a call that throws, past this method -/
theorem z_Ln.past {i : Instr} {aux : List Nat} {s mj ci : Nat} {as rr : List Value} (hrow : z_pg.1 mi pc = some (i, 3, aux)) (hinv : z_inv (z_g L xs fv) z_pg i aux st (T.1, s) = some (mj, as, rr)) (hg : z_Cq f w mj as rr) (hr : z_Rm T)
    (hc : z_Ln L xs fv (f - 1) (w - (19 + z_pg.2.1 mj)) mj 0 (lv_args 0 as) [] T (.inr ci) T1) (hfh : z_fh z_gnc pc ci (z_pg.2.2.2.1 mi) (z_pg.2.2.2.2.1 mi) = some none) : z_Ln L xs fv f w mi pc lv st T (.inr ci) T1 := by
  intro hfv
  obtain ⟨c1, c2, c3⟩ := hc hfv
  refine ⟨c1, c2, fun p S hS hcc hsl => ?_⟩
  obtain ⟨p1, S1, o1, ⟨a1, a2, a3⟩, b1, b2, b3⟩ := c3 p S hS hcc hsl
  cases o1 with
  | inl x => exact b2.elim
  | inr a =>
    have b4 : 107 ≤ a ∧ S1.1[a - 107]? = some (.inr (ci, [])) ∧ ∀ k, k < T1.1.length → p1 k ≠ a - 107 := b2
    refine ⟨p1, S1, .inr a, ⟨a1, a2, a3⟩, b1, b2, ?_⟩
    refine z_Rn.past hrow (z_inv_ret hinv) (z_inv_rn hS hinv) (z_Cg_of hg hr hcc hsl a2 a3 c1 c2) ?_ ?_ hfh
    · rw [z_args_tr]
      exact b3
    · unfold z_cls
      rw [if_pos b4.1, b4.2.1]
/-- the cells' fields name cells that are there -/
def z_lt (n : Nat) (v : Value) : Prop := match v with
  | .ref a => a < n
  | _ => True
def z_cd (H : List z_E) : Prop := ∀ (k ci : Nat) (fs : List Value), H[k]? = some (.inr (ci, fs)) → ∀ v ∈ fs, z_lt (107 + H.length) v
theorem z_mE_cg {r1 r2 : Nat → Nat} {e : z_E} (h : ∀ ci fs, e = .inr (ci, fs) → ∀ v ∈ fs, z_tr r1 v = z_tr r2 v) : z_mE r1 e = z_mE r2 e := by
  cases e with
  | inl x => rfl
  | inr q =>
    obtain ⟨ci, fs⟩ := q
    show Sum.inr (ci, fs.map (z_tr r1)) = Sum.inr (ci, fs.map (z_tr r2))
    rw [List.map_congr_left (h ci fs rfl)]
theorem z_tr_cg {p1 p2 : Nat → Nat} {v : Value} (h : ∀ a, v = .ref a → 107 ≤ a → p1 (a - 107) = p2 (a - 107)) : z_tr (z_rr 107 p1) v = z_tr (z_rr 107 p2) v := by
  cases v with
  | ref a =>
    show Value.ref (z_rr 107 p1 a) = Value.ref (z_rr 107 p2 a)
    by_cases ha : a < 107
    · rw [z_rr_lo ha, z_rr_lo ha]
    · rw [z_rr_hi (Nat.not_lt.mp ha), z_rr_hi (Nat.not_lt.mp ha), h a rfl (Nat.not_lt.mp ha)]
  | _ => rfl
/-- a cell more -/
theorem z_Sim.ext {p1 : Nat → Nat} {H1 : List z_E} {S1 : z_S} {b : Nat} {e : z_E} (hS : z_Sim 107 p1 H1 S1) (hcd : z_cd H1) (hb : S1.1[b]? = some e) (he : ∀ r, z_mE r e = e) (hn : ∀ k, k < H1.length → p1 k ≠ b) : z_Sim 107 (fun k => if k = H1.length then b else p1 k) (H1 ++ [e]) S1 := by
  refine ⟨fun k e1 hk => ?_, fun i j hi hj hij => ?_⟩
  · rw [List.getElem?_append] at hk
    split at hk
    · rename_i hkl
      dsimp only
      rw [if_neg (Nat.ne_of_lt hkl), hS.1 k e1 hk]
      congr 1
      refine z_mE_cg (fun ci fs he v hv => z_tr_cg (fun a ha h107 => ?_))
      subst he
      have h1 := hcd k ci fs hk v hv
      subst ha
      have h1 : a < 107 + H1.length := h1
      exact (if_neg (Nat.ne_of_lt (Nat.sub_lt_left_of_lt_add h107 h1))).symm
    · rename_i hkl
      cases hd : k - H1.length with
      | zero =>
        rw [hd] at hk
        cases hk
        dsimp only
        rw [if_pos (by omega), hb, he]
      | succ n =>
        rw [hd] at hk
        cases hk
  · rw [List.length_append] at hi hj
    have hi : i < H1.length + 1 := hi
    have hj : j < H1.length + 1 := hj
    dsimp only at hij
    by_cases h1 : i = H1.length
    · by_cases h2 : j = H1.length
      · rw [h1, h2]
      · rw [if_pos h1, if_neg h2] at hij
        exact absurd hij.symm (hn j (by omega))
    · by_cases h2 : j = H1.length
      · rw [if_neg h1, if_pos h2] at hij
        exact absurd hij (hn i (by omega))
      · rw [if_neg h1, if_neg h2] at hij
        exact hS.2 i j (by omega) (by omega) hij
theorem z_Kp.ext {H1 : List z_E} {p1 : Nat → Nat} {b : Nat} (e : z_E) : z_Kp H1 (H1 ++ [e]) p1 (fun k => if k = H1.length then b else p1 k) := by
  refine ⟨by rw [List.length_append]; omega, fun k hk => ?_⟩
  rw [List.getElem?_append_left hk]
  exact ⟨Nat.le_refl _, fun _ => if_neg (Nat.ne_of_lt hk)⟩
/-- a call that throws, and is caught here: what was thrown becomes a cell -/
theorem z_Ln.caught {i : Instr} {aux : List Nat} {s mj ci hp : Nat} {as rr : List Value} (hrow : z_pg.1 mi pc = some (i, 3, aux)) (hinv : z_inv (z_g L xs fv) z_pg i aux st (T.1, s) = some (mj, as, rr)) (hg : z_Cq f w mj as rr) (hr : z_Rm T)
    (hc : z_Ln L xs fv (f - 1) (w - (19 + z_pg.2.1 mj)) mj 0 (lv_args 0 as) [] T (.inr ci) T1) (hfh : z_fh z_gnc pc ci (z_pg.2.2.2.1 mi) (z_pg.2.2.2.2.1 mi) = some (some hp)) (hm : z_Sm T.1 T1.1 (lv.map (·.2))) (hcd : z_cd T1.1) (k : z_Ln L xs fv f w mi hp lv [.ref (107 + T1.1.length)] (T1.1 ++ [.inr (ci, [])], T1.2) o T') : z_Ln L xs fv f w mi pc lv st T o T' := by
  intro hfv
  obtain ⟨c1, c2, c3⟩ := hc hfv
  obtain ⟨k1, k2, k3⟩ := k hfv
  refine ⟨Nat.le_trans c1 k1, Nat.le_trans c2 k2, fun p S hS hcc hsl => ?_⟩
  obtain ⟨p1, S1, o1, ⟨a1, a2, a3⟩, b1, b2, b3⟩ := c3 p S hS hcc hsl
  cases o1 with
  | inl x => exact b2.elim
  | inr a =>
    have b4 : 107 ≤ a ∧ S1.1[a - 107]? = some (.inr (ci, [])) ∧ ∀ k, k < T1.1.length → p1 k ≠ a - 107 := b2
    obtain ⟨d1, d2, d3⟩ := b4
    have hS2 := a1.ext hcd d2 (fun _ => rfl) d3
    have hK2 : z_Kp T1.1 (T1.1 ++ [.inr (ci, [])]) p1 (fun k => if k = T1.1.length then a - 107 else p1 k) := z_Kp.ext _
    obtain ⟨p', S', o', q1, q2, q3, q4⟩ := k3 _ S1 hS2 a2 a3
    have hK := z_Kp.tr b1 hK2
    refine ⟨p', S', o', q1, z_Kp.tr hK q2, q3, ?_⟩
    refine z_Rn.caught (x := a) (ci := ci) hrow (z_inv_ret hinv) (z_inv_rn hS hinv) (z_Cg_of hg hr hcc hsl a2 a3 c1 c2) ?_ ?_ hfh ?_
    · rw [z_args_tr]
      exact b3
    · unfold z_cls
      rw [if_pos d1, d2]
    · have hm2 : z_Sm T.1 (T1.1 ++ [.inr (ci, [])]) (lv.map (·.2)) := by
        have gen : ∀ vs : List Value, z_Sm T.1 T1.1 vs → z_Sm T.1 (T1.1 ++ [.inr (ci, [])]) vs := by
          intro vs
          induction vs with
          | nil => intro _; trivial
          | cons v r ih =>
            intro h
            refine ⟨?_, ih h.2⟩
            have h1 := h.1
            cases v with
            | ref x =>
              rcases h1 with h1 | ⟨h1, h2⟩
              · exact Or.inl h1
              · refine Or.inr ⟨h1, ?_⟩
                rw [List.getElem?_append_left (Nat.lt_of_lt_of_le h1 b1.1)]
                exact h2
            | _ => trivial
        exact gen _ hm
      rw [← z_SmL_tr hK hm2]
      have e1 : ([.ref (107 + T1.1.length)] : List Value).map (z_tr (z_rr 107 (fun k => if k = T1.1.length then a - 107 else p1 k))) = [.ref a] := by
        have e2 : z_rr 107 (fun k => if k = T1.1.length then a - 107 else p1 k) (107 + T1.1.length) = a := by
          rw [z_rr_hi (by omega)]
          show 107 + (if 107 + T1.1.length - 107 = T1.1.length then a - 107 else p1 (107 + T1.1.length - 107)) = a
          rw [if_pos (by omega)]
          omega
        show [Value.ref (z_rr 107 (fun k => if k = T1.1.length then a - 107 else p1 k) (107 + T1.1.length))] = _
        rw [e2]
      rw [e1] at q4
      exact q4
/-- a throw -/
theorem z_Ln.thr {idx ci q : Nat} (hrow : z_pg.1 mi pc = some (.new idx, 3, [9, ci, q])) (hg : (6 ≤ f ∧ 150 ≤ w ∧ z_wt st ≤ 8) ∧ T.2.1 + 1 ≤ 601024 ∧ T.2.2 + 6 ≤ 7293034) (hfh : z_fh z_gnc pc ci (z_pg.2.2.2.1 mi) (z_pg.2.2.2.2.1 mi) = some none) : z_Ln L xs fv f w mi pc lv st T (.inr ci) (T.1, T.2.1 + 1, T.2.2 + 6) := by
  intro hfv
  refine ⟨Nat.le_succ _, Nat.le_add_right _ _, fun p S hS hcc hsl => ?_⟩
  have hlt : ∀ k, k < T.1.length → p k < S.1.length := by
    intro k hk
    have h1 : T.1[k]? = some T.1[k] := List.getElem?_eq_getElem hk
    exact (List.getElem?_eq_some_iff.mp (hS.1 _ _ h1)).1
  refine ⟨p, (S.1 ++ [.inr (ci, [])], S.2 + 6), .inr (107 + S.1.length), ⟨⟨fun k e hk => ?_, hS.2⟩, ?_, ?_⟩, z_Kp.rf, ⟨by omega, ?_, fun k hk => ?_⟩, ?_⟩
  · show (S.1 ++ [_])[p k]? = _
    rw [List.getElem?_append_left (hlt k (List.getElem?_eq_some_iff.mp hk).1)]
    exact hS.1 k e hk
  · show (S.1 ++ [_]).length = _
    rw [List.length_append, hcc]
    rfl
  · show S.2 + 6 = _
    rw [hsl]
  · show (S.1 ++ [_])[107 + S.1.length - 107]? = _
    rw [show 107 + S.1.length - 107 = S.1.length by omega, List.getElem?_append_right (Nat.le_refl _), Nat.sub_self]
    rfl
  · have := hlt k hk
    omega
  · refine z_Rn.thr hrow ⟨⟨hg.1.1, hg.1.2.1, by rw [z_wt_tr']; exact hg.1.2.2⟩, by rw [hcc]; exact hg.2.1, by rw [hsl]; exact hg.2.2⟩ hfh
/-- more room -/
theorem z_Ln.room {f' w' : Nat} (h : z_Ln L xs fv f w mi pc lv st T o T') (hf : f ≤ f') (hw : w ≤ w') : z_Ln L xs fv f' w' mi pc lv st T o T' := by
  intro hfv
  obtain ⟨h1, h2, h3⟩ := h hfv
  refine ⟨h1, h2, fun p S a b c => ?_⟩
  obtain ⟨p', S', o', q1, q2, q3, q4⟩ := h3 p S a b c
  exact ⟨p', S', o', q1, q2, q3, q4.room hf hw⟩
theorem z_Ln.brT {b : Bool} (h : b = true) {t e : Nat} (k : z_Ln L xs fv f w mi t lv st T o T') : z_Ln L xs fv f w mi (if b = true then t else e) lv st T o T' := by
  rw [if_pos h]
  exact k
theorem z_Ln.brF {b : Bool} (h : b = false) {t e : Nat} (k : z_Ln L xs fv f w mi e lv st T o T') : z_Ln L xs fv f w mi (if b = true then t else e) lv st T o T' := by
  rw [if_neg (by rw [h]; decide)]
  exact k
/-- a run over cells that keep their numbers is a run of the plain machine -/
theorem z_Ln.run {S0 : z_S} {v : Value} (hv : ∀ r, z_tr r v = v) (hfv : fv = .null ∨ fv = .ref 106) (h : z_Ln L xs fv f w mi pc lv [] (S0.1, S0.1.length, S0.2) (.inl (some v)) T') : ∃ S' : z_S, S'.1.length = T'.2.1 ∧ S'.2 = T'.2.2 ∧ z_Rn L xs fv f w mi pc lv [] S0 (.inl (some v), S') := by
  obtain ⟨h1, h2, h3⟩ := h hfv
  have hid : z_rr 107 (fun k => k) = fun a => a := by
    funext a
    unfold z_rr
    split
    · rfl
    · show 107 + (a - 107) = a
      omega
  have htr : ∀ u : Value, z_tr (fun a => a) u = u := by
    intro u
    cases u <;> rfl
  have hS : z_Sim 107 (fun k => k) S0.1 S0 := by
    refine ⟨fun k e hk => ?_, fun i j _ _ hij => hij⟩
    rw [hid]
    show S0.1[k]? = _
    rw [hk]
    congr 1
    cases e with
    | inl x => rfl
    | inr q =>
      obtain ⟨ci, fs⟩ := q
      show _ = Sum.inr (ci, fs.map (z_tr fun a => a))
      rw [List.map_congr_left (fun u _ => htr u), List.map_id']
  obtain ⟨p', S', o', ⟨q1, q2, q3⟩, -, q5, q6⟩ := h3 _ S0 hS rfl rfl
  cases o' with
  | inr x => exact q5.elim
  | inl v' =>
    have q5 : v' = some (z_tr (z_rr 107 p') v) := q5
    rw [hv] at q5
    subst q5
    refine ⟨S', q2, q3, ?_⟩
    rw [hid] at q6
    have e1 : z_trL (fun a => a) lv = lv := by
      unfold z_trL
      rw [List.map_congr_left (g := id) (fun q _ => by rw [htr]; rfl), List.map_id]
    rw [e1] at q6
    exact q6
end ZL2
