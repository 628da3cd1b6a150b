/-! Runs over a heap of cells that keep their numbers, wherever they lie: what a method comes to, by rules. -/
def z_szE (e : Option z_E) : Nat := match e with
  | some (.inl x) => x.2.1
  | _ => 0
/-- from H to H' cells are kept, and those that did not grow lie where they lay -/
def z_Kp (H H' : List z_E) (p p' : Nat → Nat) : Prop := H.length ≤ H'.length ∧ ∀ k, k < H.length → z_szE H[k]? ≤ z_szE H'[k]? ∧ (z_szE H[k]? = z_szE H'[k]? → p' k = p k)
theorem z_Kp.rf {H : List z_E} {p : Nat → Nat} : z_Kp H H p p := ⟨Nat.le_refl _, fun _ _ => ⟨Nat.le_refl _, fun _ => rfl⟩⟩
theorem z_Kp.tr {H H1 H2 : List z_E} {p p1 p2 : Nat → Nat} (h : z_Kp H H1 p p1) (h' : z_Kp H1 H2 p1 p2) : z_Kp H H2 p p2 := by
  refine ⟨Nat.le_trans h.1 h'.1, fun k hk => ?_⟩
  have a := h.2 k hk
  have b := h'.2 k (Nat.lt_of_lt_of_le hk h.1)
  refine ⟨Nat.le_trans a.1 b.1, fun e => ?_⟩
  have e1 : z_szE H[k]? = z_szE H1[k]? := by omega
  have e2 : z_szE H1[k]? = z_szE H2[k]? := by omega
  rw [b.2 e2, a.2 e1]
/-- a heap's cells, and how many cells and slots were made in all -/
abbrev z_Y : Type := List z_E × Nat × Nat
/-- an answer, or the class of what was thrown -/
abbrev z_V : Type := Option Value ⊕ Nat
def z_Oq (H' : List z_E) (p' : Nat → Nat) (S' : z_S) (o : z_V) (o' : z_O) : Prop := match o, o' with
  | .inl v, .inl v' => v' = v.map (z_tr (z_rr 107 p'))
  | .inr ci, .inr a => 107 ≤ a ∧ S'.1[a - 107]? = some (.inr (ci, [])) ∧ ∀ k, k < H'.length → p' k ≠ a - 107
  | _, _ => False
def z_Ln (L : Nat) (xs : Nat → Int32) (fv : Value) (f w mi pc : Nat) (lv : List (Nat × Value)) (st : List Value) (T : z_Y) (o : z_V) (T' : z_Y) : Prop :=
  (fv = .null ∨ fv = .ref 106) → T.2.1 ≤ T'.2.1 ∧ T.2.2 ≤ T'.2.2 ∧ ∀ (p : Nat → Nat) (S : z_S), z_Sim 107 p T.1 S → S.1.length = T.2.1 → S.2 = T.2.2 →
  ∃ (p' : Nat → Nat) (S' : z_S) (o' : z_O), (z_Sim 107 p' T'.1 S' ∧ S'.1.length = T'.2.1 ∧ S'.2 = T'.2.2) ∧ z_Kp T.1 T'.1 p p' ∧ z_Oq T'.1 p' S' o o' ∧ z_Rn L xs fv f w mi pc (z_trL (z_rr 107 p) lv) (st.map (z_tr (z_rr 107 p))) S (o', S')
theorem z_gfr_lo {a : Nat} {q : Nat × (Nat → Nat)} (h : z_gfr a = some q) : a = 37 ∧ q = (37, fun j => j) := by
  unfold z_gfr at h
  split at h
  · rename_i e
    cases h
    exact ⟨e, rfl⟩
  · cases h
theorem z_gfb_lo {a : Nat} {q : Nat × (Nat → Int32)} (h : z_gfb a = some q) : 40 ≤ a ∧ a < 106 := by
  unfold z_gfb at h
  split at h
  · rename_i e
    exact ⟨e.1, e.2.1⟩
  · cases h
theorem z_let_lo : ∀ a, a < 37 → 40 + 2 * z_let.getD a 0 < 107 := by decide +kernel
theorem z_gfc_lo {a k : Nat} {v : Value} (h : z_gfc a k = some v) : a < 107 ∧ z_cv 107 v := by
  unfold z_gfc at h
  split at h
  · rename_i ha
    split at h
    · cases h
      exact ⟨by omega, z_let_lo a ha⟩
    · cases h
  · split at h
    · rename_i hb
      split at h
      · cases h
        refine ⟨by omega, ?_⟩
        show a + 1 < 107
        omega
      · split at h
        · cases h
          exact ⟨by omega, trivial⟩
        · cases h
    · cases h
theorem z_stb_lo : ∀ j, j < 40 → (match z_stb[j]? with
  | some q => (match q.2.2.2 with
    | .ref a => decide (a < 107)
    | _ => true)
  | none => true) = true := by decide +kernel
theorem z_Fz_s {fv : Value} (hfv : fv = .null ∨ fv = .ref 106) : ∀ j v, z_sts fv j = some v → z_cv 107 v := by
  intro j v h
  unfold z_sts z_stl at h
  rw [List.getElem?_append] at h
  split at h
  · rename_i hj
    have hj : j < 40 := hj
    have h1 := z_stb_lo j hj
    cases hq : z_stb[j]? with
    | none => rw [hq] at h; cases h
    | some q =>
      rw [hq] at h h1
      cases h
      dsimp only at h1
      show z_cv 107 q.2.2.2
      cases hv : q.2.2.2 with
      | ref a =>
        rw [hv] at h1
        exact of_decide_eq_true (p := a < 107) h1
      | _ => trivial
  · cases hk : j - z_stb.length with
    | zero =>
      rw [hk] at h
      cases h
      rcases hfv with rfl | rfl
      · trivial
      · exact (by decide : (106 : Nat) < 107)
    | succ n =>
      rw [hk] at h
      cases h
theorem z_Fz_g {L : Nat} {xs : Nat → Int32} {fv : Value} (hfv : fv = .null ∨ fv = .ref 106) : z_Fz (z_g L xs fv) := by
  refine ⟨(by decide : (37 : Nat) ≤ 107), z_Fz_s hfv, fun a q h => ?_, fun a q h => ?_, fun a k v h => z_gfc_lo h⟩
  · obtain ⟨rfl, rfl⟩ := z_gfr_lo h
    refine ⟨(by decide : (37 : Nat) < 107), fun j hj => ?_⟩
    have hj : j < 37 := hj
    show j < 107
    omega
  · have := z_gfb_lo h
    show a < 107
    omega
section ZLN
variable {L : Nat} {xs : Nat → Int32} {fv : Value} {f w mi pc : Nat} {lv : List (Nat × Value)} {st : List Value} {T T' : z_Y} {o : z_V}
theorem z_alnF_sh {len : Nat} {S : z_S} {u : z_U} (h : z_alnF 107 (z_fzs L xs) len pc lv st S = some u) : ∃ a q, st = .ref a :: q ∧ (a = 38 ∨ a = 39) := by
  unfold z_alnF at h
  split at h
  · rename_i a q
    split at h
    · rename_i y hy
      refine ⟨a, q, rfl, ?_⟩
      unfold z_fzs at hy
      split at hy
      · exact Or.inl (by assumption)
      · split at hy
        · exact Or.inr (by assumption)
        · cases hy
    · cases h
  · cases h
/-- where a step is a step, no builtin stands -/
theorem z_b0_no {p : Nat → Nat} {S : z_S} {H : List z_E} {s nL len : Nat} {i : Instr} {aux : List Nat} {u : z_U} {lv2 : List (Nat × Value)} (h : z_step (z_g L xs fv) nL i len aux pc lv st (H, s) = some u) : z_b0 i len aux lv2 (st.map (z_tr (z_rr 107 p))) S = none := by
  obtain ⟨pc', lv', st', S'⟩ := u
  unfold z_b0 z_bj
  split
  · unfold z_bi
    split
    · cases h
    · cases h
    · cases h
    · cases h
    · obtain ⟨i, a, q, t, n, f, C, rfl, ⟨h4, -⟩, -⟩ := z_aal_i (K := 107) h
      show z_kal z_g0 (.int i :: .ref (z_rr 107 p a) :: q.map _) S = none
      unfold z_kal
      dsimp only
      have h5 := z_rr_ge (p := p) h4
      have h6 : z_gfr (z_rr 107 p a) = none := by
        cases hx : z_gfr (z_rr 107 p a) with
        | none => rfl
        | some y =>
          have := (z_gfr_lo hx).1
          omega
      show (match z_gfr (z_rr 107 p a) with
        | some q_1 => _
        | none => none) = none
      rw [h6]
    · have hx : ∃ i a q, st = .int i :: .ref a :: q ∧ 107 ≤ a := by
        have h : z_or (z_ial 107 z_tyl .byte len pc lv st (H, s)) (z_ial 107 z_tyl .boolean len pc lv st (H, s)) = some (pc', lv', st', S') := h
        rcases z_or_i h with h | h
        · obtain ⟨i, a, q, t, n, f, e, ⟨h4, -⟩, -⟩ := z_ial_i h
          exact ⟨i, a, q, e, h4⟩
        · obtain ⟨i, a, q, t, n, f, e, ⟨h4, -⟩, -⟩ := z_ial_i h
          exact ⟨i, a, q, e, h4⟩
      obtain ⟨i, a, q, rfl, h4⟩ := hx
      have h5 := z_rr_ge (p := p) h4
      have h6 : z_gfb (z_rr 107 p a) = none := by
        cases hx : z_gfb (z_rr 107 p a) with
        | none => rfl
        | some y =>
          have := z_gfb_lo hx
          omega
      show (match z_gfb (z_rr 107 p a) with
        | some y => if z_in i y.1 = true then some (Value.int (y.2 i.toNatClampNeg) :: q.map (z_tr (z_rr 107 p)), S) else none
        | none => none) = none
      rw [h6]
    · have hx : ∃ a q, st = .ref a :: q ∧ (107 ≤ a ∨ a = 38 ∨ a = 39) := by
        have h : z_or (z_aln 107 z_tyl len pc lv st (H, s)) (z_alnF 107 (z_fzs L xs) len pc lv st (H, s)) = some (pc', lv', st', S') := h
        rcases z_or_i h with h | h
        · obtain ⟨a, q, x, e, ⟨h4, -⟩, -⟩ := z_aln_i h
          exact ⟨a, q, e, Or.inl h4⟩
        · obtain ⟨a, q, e, h5⟩ := z_alnF_sh h
          exact ⟨a, q, e, Or.inr h5⟩
      obtain ⟨a, q, rfl, h4⟩ := hx
      have h5 : 107 ≤ z_rr 107 p a ∨ z_rr 107 p a = 38 ∨ z_rr 107 p a = 39 := by
        rcases h4 with h4 | rfl | rfl
        · exact Or.inl (z_rr_ge h4)
        · exact Or.inr (Or.inl rfl)
        · exact Or.inr (Or.inr rfl)
      have h6 : z_gfr (z_rr 107 p a) = none := by
        cases hx : z_gfr (z_rr 107 p a) with
        | none => rfl
        | some y =>
          have := (z_gfr_lo hx).1
          omega
      have h7 : z_gfb (z_rr 107 p a) = none := by
        cases hx : z_gfb (z_rr 107 p a) with
        | none => rfl
        | some y =>
          have := z_gfb_lo hx
          omega
      show (match z_gfr (z_rr 107 p a) with
        | some y => some (Value.int (Int32.ofNat y.1) :: q.map (z_tr (z_rr 107 p)), S)
        | none => match z_gfb (z_rr 107 p a) with
          | some y => some (Value.int (Int32.ofNat y.1) :: q.map (z_tr (z_rr 107 p)), S)
          | none => none) = none
      rw [h6]
      dsimp only
      rw [h7]
    · cases h
    · rfl
  · rfl
theorem z_szE_set {H : List z_E} {i : Nat} {e0 e : z_E} (hi : H[i]? = some e0) (he : z_szE (some e0) = z_szE (some e)) : ∀ k : Nat, z_szE H[k]? = z_szE (H.set i e)[k]? := by
  intro k
  rw [List.getElem?_set]
  by_cases hk : i = k
  · subst hk
    rw [if_pos rfl, if_pos (List.getElem?_eq_some_iff.mp hi).1, hi, he]
  · rw [if_neg hk]
/-- a step keeps how long the arrays are -/
theorem z_step_sz {G : z_G} {nL len pc' : Nat} {i : Instr} {aux : List Nat} {H H' : List z_E} {s s' : Nat} {lv' : List (Nat × Value)} {st' : List Value} (hna : z_nal i = true) (h : z_step G nL i len aux pc lv st (H, s) = some (pc', lv', st', (H', s'))) : H'.length = H.length ∧ ∀ k : Nat, z_szE H[k]? = z_szE H'[k]? := by
  have fr : ∀ {o : Option z_T}, o.map (fun q => (q.1, q.2.1, q.2.2, ((H, s) : z_S))) = some (pc', lv', st', (H', s')) → H'.length = H.length ∧ ∀ k : Nat, z_szE H[k]? = z_szE H'[k]? := by
    intro o ho
    obtain ⟨-, h2⟩ := z_map_i ho
    cases h2
    exact ⟨rfl, fun _ => rfl⟩
  have ld : ∀ {S' : z_S}, S' = (H, s) → (H', s') = S' → H'.length = H.length ∧ ∀ k : Nat, z_szE H[k]? = z_szE H'[k]? := by
    intro S' h1 h2
    rw [h1] at h2
    cases h2
    exact ⟨rfl, fun _ => rfl⟩
  have sI : ∀ {tyl : List FieldType} {ty : FieldType}, z_ias G.1.1 tyl ty len pc lv st (H, s) = some (pc', lv', st', (H', s')) → H'.length = H.length ∧ ∀ k : Nat, z_szE H[k]? = z_szE H'[k]? := by
    intro tyl ty h
    obtain ⟨x, i, a, q, t, n, f, -, ⟨-, h1⟩, -, -, -, -, h5⟩ := z_ias_i h
    cases h5
    exact ⟨List.length_set .., z_szE_set h1 rfl⟩
  cases i
  case getfield idx =>
    simp only [z_step] at h
    split at h
    · obtain ⟨a, t, fs, v, -, -, -, -, -, -, -, -, h5⟩ := z_gf_i h
      exact ld rfl h5
    · cases h
  case putfield idx =>
    simp only [z_step] at h
    split at h
    · obtain ⟨v, a, t, fs, -, h1, -, -, -, -, -, -, -, h5⟩ := z_pf_i h
      cases h5
      exact ⟨List.length_set .., z_szE_set h1 rfl⟩
    · cases h
  case new idx => cases hna
  case newarray t => cases hna
  case anewarray idx => cases hna
  case iaload =>
    rcases z_or_i h with h | h
    · obtain ⟨i, a, q, t, n, f, -, -, -, -, -, -, h5⟩ := z_ial_i h
      exact ld rfl h5
    · unfold z_ialF at h
      split at h
      · split at h
        · split at h
          · cases h
            exact ⟨rfl, fun _ => rfl⟩
          · cases h
        · cases h
      · cases h
  case arraylength =>
    rcases z_or_i h with h | h
    · obtain ⟨a, q, x, -, -, -, -, -, -, h5⟩ := z_aln_i h
      exact ld rfl h5
    · unfold z_alnF at h
      split at h
      · split at h
        · split at h
          · cases h
            exact ⟨rfl, fun _ => rfl⟩
          · cases h
        · cases h
      · cases h
  case baload =>
    rcases z_or_i h with h | h
    · obtain ⟨i, a, q, t, n, f, -, -, -, -, -, -, h5⟩ := z_ial_i h
      exact ld rfl h5
    · obtain ⟨i, a, q, t, n, f, -, -, -, -, -, -, h5⟩ := z_ial_i h
      exact ld rfl h5
  case laload =>
    obtain ⟨i, a, q, t, n, f, -, -, -, -, -, -, h5⟩ := z_lal_i h
    exact ld rfl h5
  case aaload =>
    obtain ⟨i, a, q, t, n, f, C, -, -, -, -, -, -, -, h5⟩ := z_aal_i h
    exact ld rfl h5
  case iastore => exact sI h
  case bastore =>
    rcases z_or_i h with h | h
    · exact sI h
    · exact sI h
  case lastore =>
    obtain ⟨x, i, a, q, t, n, f, -, ⟨-, h1⟩, -, -, -, -, h5⟩ := z_las_i h
    cases h5
    exact ⟨List.length_set .., z_szE_set h1 rfl⟩
  case aastore =>
    have h : z_aas G.1.1 G.1.2.1 G.2.1.1 G.2.1.2 len pc lv st (H, s) = some (pc', lv', st', (H', s')) := h
    unfold z_aas at h
    split at h
    · split at h
      · rename_i t n f har
        split at h
        · obtain ⟨-, h1⟩ := z_ar_i har
          cases h
          exact ⟨List.length_set .., z_szE_set h1 rfl⟩
        · cases h
      · cases h
    · cases h
  case getstatic idx =>
    simp only [z_step] at h
    split at h
    · split at h
      · exact fr h
      · cases h
    · cases h
  case ldc idx =>
    simp only [z_step] at h
    split at h
    · exact fr h
    · cases h
  case ldc_w idx =>
    simp only [z_step] at h
    split at h
    · exact fr h
    · cases h
  case ldc2_w idx =>
    simp only [z_step] at h
    split at h
    · exact fr h
    · cases h
  all_goals first | (cases h; done) | exact fr (o := z_fr G.1.1 G.1.2.1 nL _ len aux pc lv st) h
/-- a step -/
theorem z_Ln.step {i : Instr} {len : Nat} {aux : List Nat} {pc' s s' : Nat} {lv' : List (Nat × Value)} {st' : List Value} {H' : List z_E} (hrow : z_pg.1 mi pc = some (i, len, aux)) (hpl : z_pl i aux = true) (hna : z_nal i = true) (hq : z_acq 107 37 i st st') (hs : z_step (z_g L xs fv) (z_pg.2.1 mi) i len aux pc lv st (T.1, s) = some (pc', lv', st', (H', s'))) (k : z_Ln L xs fv f w mi pc' lv' st' (H', T.2) o T') : z_Ln L xs fv f w mi pc lv st T o T' := by
  intro hfv
  obtain ⟨k1, k2, k3⟩ := k hfv
  refine ⟨k1, k2, fun p S hS hc hsl => ?_⟩
  obtain ⟨z1, z2⟩ := z_step_sz hna hs
  obtain ⟨S1, r1, r2, r3, r4⟩ := z_step_rn (G := z_g L xs fv) (z_Fz_g hfv).1 (fun j v hv => z_cv_rr ((z_Fz_g (L := L) (xs := xs) hfv).2.1 j v hv)) hS hna hq hs
  obtain ⟨p', S', o', q1, q2, q3, q4⟩ := k3 p S1 r2 (r3.trans hc) (r4.trans hsl)
  refine ⟨p', S', o', q1, ?_, q3, z_Rn.step hrow hpl (z_b0_no hs) r1 q4⟩
  exact z_Kp.tr (p1 := p) ⟨Nat.le_of_eq z1.symm, fun j _ => ⟨Nat.le_of_eq (z2 j), fun _ => rfl⟩⟩ q2
end ZLN
