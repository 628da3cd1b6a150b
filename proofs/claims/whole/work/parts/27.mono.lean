/-! Runs of the plain machine: more fuel, more room and more frozen arrays do no harm. -/
/-- one step of a run, the rest of the run being E -/
def z_bd (G : z_G) (P : z_Q) (B : z_B) (E : Nat → Nat → Nat → Nat → List (Nat × Value) → List Value → z_S → Option (z_O × z_S)) (f w mi pc : Nat) (lv : List (Nat × Value)) (st : List Value) (S : z_S) : Option (z_O × z_S) := match P.1 mi pc with
    | none => none
    | some (i, len, aux) => match z_ret (P.2.2.1 mi) i len st with
      | some v => some (.inl v, S)
      | none => match z_inv G P i aux st S with
        | some (mj, as, r) =>
          if (len = 3 ∧ 1 ≤ f ∧ 19 + P.2.1 mj ≤ w) ∧ (z_wt r ≤ 8 ∧ z_wt as ≤ P.2.1 mj) ∧ S.1.length ≤ G.1.2.2.1 ∧ S.2 ≤ G.1.2.2.2 then
            match E (f - 1) (w - (19 + P.2.1 mj)) mj 0 (lv_args 0 as) [] S with
            | some (.inl v, S') => if S.1.length ≤ S'.1.length ∧ S.2 ≤ S'.2 then E f w mi (pc + 3) lv (v.toList ++ r) S' else none
            | some (.inr a, S') => if S.1.length ≤ S'.1.length ∧ S.2 ≤ S'.2 then (match z_cls G.1.1 S' a with
              | some ci => match z_fh G.2.2.2.2.2.2.2.2 pc ci (P.2.2.2.1 mi) (P.2.2.2.2.1 mi) with
                | some none => some (.inr a, S')
                | some (some hp) => E f w mi hp lv [.ref a] S'
                | none => none
              | none => none) else none
            | none => none
          else none
        | none => match i, aux with
          | .invokespecial _, [1, _] => match st with
            | .ref _ :: r => if len = 3 ∧ 1 ≤ f ∧ 20 ≤ w ∧ z_wt r ≤ 8 then E f w mi (pc + 3) lv r S else none
            | _ => none
          | .new _, [9, ci, q] => if len = 3 ∧ 6 ≤ f ∧ 150 ≤ w ∧ z_wt st ≤ 8 ∧ S.1.length + 1 ≤ G.1.2.2.1 ∧ S.2 + 6 ≤ G.1.2.2.2 ∧ z_fh G.2.2.2.2.2.2.2.2 pc ci (P.2.2.2.1 mi) (P.2.2.2.2.1 mi) = some none then some (.inr (G.1.1 + S.1.length), (S.1 ++ [.inr (ci, [])], S.2 + 6)) else none
          | _, _ => match B i len aux lv st S with
            | some (st', S') => if S'.1.length = S.1.length ∧ S'.2 = S.2 ∧ 1 ≤ f ∧ 60 ≤ w then E f w mi (pc + len) lv st' S' else none
            | none => match z_step G (P.2.1 mi) i len aux pc lv st S with
              | some (pc', lv', st', S') => E f w mi pc' lv' st' S'
              | none => none
theorem z_ev_S {G : z_G} {P : z_Q} {B : z_B} {n f w mi pc : Nat} {lv : List (Nat × Value)} {st : List Value} {S : z_S} : z_ev G P B (n + 1) f w mi pc lv st S = z_bd G P B (z_ev G P B n) f w mi pc lv st S := rfl
section ZMONO
variable {a : Nat × Nat × Nat × Nat} {b : List FieldType × Nat} {c : (Nat → Nat) × (Nat → Nat → FieldType)} {e e' : Nat → Option Value} {d : (Nat → Option (Nat × (Nat → Nat))) × (Nat → Option (Nat × (Nat → Int32))) × (Nat → Nat → Option Value) × (Nat → Nat → Bool)} {fz fz' : Nat → Option (Nat × (Nat → Int32))}
theorem z_ialF_mono (hfz : ∀ x q, fz x = some q → fz' x = some q) {K len pc : Nat} {lv : List (Nat × Value)} {st : List Value} {S : z_S} {r : z_U} (h : z_ialF K fz len pc lv st S = some r) : z_ialF K fz' len pc lv st S = some r := by
  unfold z_ialF at h ⊢
  split at h
  · rename_i i x r'
    cases hx : fz x with
    | none => rw [hx] at h; cases h
    | some q =>
      rw [hx] at h
      rw [hfz x q hx]
      exact h
  · cases h
theorem z_alnF_mono (hfz : ∀ x q, fz x = some q → fz' x = some q) {K len pc : Nat} {lv : List (Nat × Value)} {st : List Value} {S : z_S} {r : z_U} (h : z_alnF K fz len pc lv st S = some r) : z_alnF K fz' len pc lv st S = some r := by
  unfold z_alnF at h ⊢
  split at h
  · rename_i x r'
    cases hx : fz x with
    | none => rw [hx] at h; cases h
    | some q =>
      rw [hx] at h
      rw [hfz x q hx]
      exact h
  · cases h
theorem z_step_mono (hfz : ∀ x q, fz x = some q → fz' x = some q) (he : ∀ j v, e j = some v → e' j = some v) {nL len pc : Nat} {i : Instr} {aux : List Nat} {lv : List (Nat × Value)} {st : List Value} {S : z_S} {r : z_U} (h : z_step (a, b, c, fz, (e, d)) nL i len aux pc lv st S = some r) : z_step (a, b, c, fz', (e', d)) nL i len aux pc lv st S = some r := by
  cases i
  case iaload =>
    have h : z_or (z_ial a.1 b.1 .int len pc lv st S) (z_ialF a.1 fz len pc lv st S) = some r := h
    show z_or (z_ial a.1 b.1 .int len pc lv st S) (z_ialF a.1 fz' len pc lv st S) = some r
    cases hq : z_ial a.1 b.1 .int len pc lv st S with
    | some y => rw [hq] at h; exact h
    | none => rw [hq] at h; exact z_ialF_mono hfz h
  case arraylength =>
    have h : z_or (z_aln a.1 b.1 len pc lv st S) (z_alnF a.1 fz len pc lv st S) = some r := h
    show z_or (z_aln a.1 b.1 len pc lv st S) (z_alnF a.1 fz' len pc lv st S) = some r
    cases hq : z_aln a.1 b.1 len pc lv st S with
    | some y => rw [hq] at h; exact h
    | none => rw [hq] at h; exact z_alnF_mono hfz h
  case getstatic idx =>
    cases aux with
    | nil => cases h
    | cons j u =>
      cases u with
      | nil => cases h
      | cons x u =>
        cases u with
        | cons y u => cases h
        | nil =>
          have h : (match e j with
            | some v => (z_p0 3 len pc lv st v).map (fun q => (q.1, q.2.1, q.2.2, S))
            | none => none) = some r := h
          show (match e' j with
            | some v => (z_p0 3 len pc lv st v).map (fun q => (q.1, q.2.1, q.2.2, S))
            | none => none) = some r
          cases hj : e j with
          | none => rw [hj] at h; cases h
          | some v =>
            rw [hj] at h
            rw [he j v hj]
            exact h
  all_goals exact h
set_option maxHeartbeats 4000000 in
theorem z_bd_mono (hfz : ∀ x q, fz x = some q → fz' x = some q) (he : ∀ j v, e j = some v → e' j = some v) {P : z_Q} {B : z_B} {E E' : Nat → Nat → Nat → Nat → List (Nat × Value) → List Value → z_S → Option (z_O × z_S)}
    (hE : ∀ f f' w w' mi pc lv st S r, f ≤ f' → w ≤ w' → E f w mi pc lv st S = some r → E' f' w' mi pc lv st S = some r) {f f' w w' mi pc : Nat} {lv : List (Nat × Value)} {st : List Value} {S : z_S} {r : z_O × z_S} (hf : f ≤ f') (hw : w ≤ w') (h : z_bd (a, b, c, fz, (e, d)) P B E f w mi pc lv st S = some r) :
    z_bd (a, b, c, fz', (e', d)) P B E' f' w' mi pc lv st S = some r := by
  unfold z_bd at h ⊢
  cases hrow : P.1 mi pc with
  | none => rw [hrow] at h; cases h
  | some q =>
    obtain ⟨i, len, aux⟩ := q
    rw [hrow] at h
    dsimp only at h ⊢
    cases hret : z_ret (P.2.2.1 mi) i len st with
    | some v => rw [hret] at h; exact h
    | none =>
      rw [hret] at h
      dsimp only at h ⊢
      cases hinv : z_inv (a, b, c, fz, (e, d)) P i aux st S with
      | some q =>
        obtain ⟨mj, as, rr⟩ := q
        have hinv' : z_inv (a, b, c, fz', (e', d)) P i aux st S = some (mj, as, rr) := hinv
        rw [hinv] at h
        rw [hinv']
        dsimp only at h ⊢
        split at h
        · rename_i hc
          rw [if_pos ⟨⟨hc.1.1, Nat.le_trans hc.1.2.1 hf, Nat.le_trans hc.1.2.2 hw⟩, hc.2⟩]
          cases hcal : E (f - 1) (w - (19 + P.2.1 mj)) mj 0 (lv_args 0 as) [] S with
          | none => rw [hcal] at h; cases h
          | some q =>
            obtain ⟨o, S1⟩ := q
            have hcal' := hE (f - 1) (f' - 1) (w - (19 + P.2.1 mj)) (w' - (19 + P.2.1 mj)) _ _ _ _ _ _ (by omega) (by omega) hcal
            rw [hcal] at h
            rw [hcal']
            cases o with
            | inl v =>
              dsimp only at h ⊢
              split at h
              · rename_i hg
                rw [if_pos hg]
                exact hE _ _ _ _ _ _ _ _ _ _ hf hw h
              · cases h
            | inr x =>
              dsimp only at h ⊢
              split at h
              · rename_i hg
                rw [if_pos hg]
                cases hcl : z_cls a.1 S1 x with
                | none => rw [hcl] at h; cases h
                | some ci =>
                  rw [hcl] at h
                  dsimp only at h ⊢
                  cases hfh : z_fh d.2.2.2 pc ci (P.2.2.2.1 mi) (P.2.2.2.2.1 mi) with
                  | none => rw [hfh] at h; cases h
                  | some q =>
                    rw [hfh] at h
                    cases q with
                    | none => exact h
                    | some hp => exact hE _ _ _ _ _ _ _ _ _ _ hf hw h
              · cases h
        · cases h
      | none =>
        have hinv' : z_inv (a, b, c, fz', (e', d)) P i aux st S = none := hinv
        rw [hinv] at h
        rw [hinv']
        dsimp only at h ⊢
        split at h
        · split at h
          · split at h
            · rename_i hc
              rw [if_pos ⟨hc.1, Nat.le_trans hc.2.1 hf, Nat.le_trans hc.2.2.1 hw, hc.2.2.2⟩]
              exact hE _ _ _ _ _ _ _ _ _ _ hf hw h
            · cases h
          · cases h
        · split at h
          · rename_i hc
            rw [if_pos ⟨hc.1, Nat.le_trans hc.2.1 hf, Nat.le_trans hc.2.2.1 hw, hc.2.2.2⟩]
            exact h
          · cases h
        · rename_i n1 n2
          have key : (match B i len aux lv st S with
            | some (st', S') => if S'.1.length = S.1.length ∧ S'.2 = S.2 ∧ 1 ≤ f' ∧ 60 ≤ w' then E' f' w' mi (pc + len) lv st' S' else none
            | none => match z_step (a, b, c, fz', (e', d)) (P.2.1 mi) i len aux pc lv st S with
              | some (pc', lv', st', S') => E' f' w' mi pc' lv' st' S'
              | none => none) = some r := by
            cases hB : B i len aux lv st S with
            | some q =>
              obtain ⟨st', S'⟩ := q
              rw [hB] at h
              dsimp only at h ⊢
              split at h
              · rename_i hc
                rw [if_pos ⟨hc.1, hc.2.1, Nat.le_trans hc.2.2.1 hf, Nat.le_trans hc.2.2.2 hw⟩]
                exact hE _ _ _ _ _ _ _ _ _ _ hf hw h
              · cases h
            | none =>
              rw [hB] at h
              dsimp only at h ⊢
              cases hs : z_step (a, b, c, fz, (e, d)) (P.2.1 mi) i len aux pc lv st S with
              | none => rw [hs] at h; cases h
              | some q =>
                rw [hs] at h
                rw [z_step_mono hfz he hs]
                obtain ⟨q1, q2, q3, q4⟩ := q
                exact hE _ _ _ _ _ _ _ _ _ _ hf hw h
          exact key
theorem z_mono (hfz : ∀ x q, fz x = some q → fz' x = some q) (he : ∀ j v, e j = some v → e' j = some v) {P : z_Q} {B : z_B} : ∀ (n m : Nat), n ≤ m → ∀ f f' w w' mi pc lv st S r, f ≤ f' → w ≤ w' → z_ev (a, b, c, fz, (e, d)) P B n f w mi pc lv st S = some r → z_ev (a, b, c, fz', (e', d)) P B m f' w' mi pc lv st S = some r := by
  intro n
  induction n with
  | zero =>
    intro m _ f f' w w' mi pc lv st S r _ _ h
    simp [z_ev] at h
  | succ n ih =>
    intro m hm f f' w w' mi pc lv st S r hf hw h
    obtain ⟨m, rfl⟩ : ∃ k, m = k + 1 := ⟨m - 1, by omega⟩
    rw [z_ev_S] at h ⊢
    exact z_bd_mono hfz he (ih m (by omega)) hf hw h
end ZMONO
