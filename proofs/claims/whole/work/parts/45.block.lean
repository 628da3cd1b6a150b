/-! Rows of instructions, one behind the other, over cells that keep their numbers: what must hold for them is collected. -/
abbrev z_X : Type := List Prop × Nat × List (Nat × Value) × List Value × List z_E
/-- an instruction that neither compares references nor loads one out of an array -/
def z_ncp (i : Instr) : Bool := match i with
  | .if_acmp _ _ => false
  | .aaload => false
  | _ => true
theorem z_ncp_q {i : Instr} (h : z_ncp i = true) {st st' : List Value} : z_acq 107 37 i st st' := by
  cases i <;> first | trivial | cases h
def z_all (c : List Prop) : Prop := match c with
  | [] => True
  | [c] => c
  | c :: r => c ∧ z_all r
theorem z_all_hd {c : Prop} {r : List Prop} (h : z_all (c :: r)) : c ∧ z_all r := by
  cases r with
  | nil => exact ⟨h, trivial⟩
  | cons d t => exact h
theorem z_all_app {a b : List Prop} (h : z_all (a ++ b)) : z_all a ∧ z_all b := by
  induction a with
  | nil => exact ⟨trivial, h⟩
  | cons c r ih =>
    obtain ⟨h1, h2⟩ := z_all_hd h
    obtain ⟨h3, h4⟩ := ih h2
    refine ⟨?_, h4⟩
    cases r with
    | nil => exact h1
    | cons d t => exact ⟨h1, h3⟩
/-- one row; R0: what a builtin asks of the room -/
def z_sx (G : z_G) (R0 : Prop) (nL : Nat) (i : Instr) (len : Nat) (aux : List Nat) (pc : Nat) (lv : List (Nat × Value)) (st : List Value) (H : List z_E) : Option z_X := match i, st with
  | .iaload, .int x :: .ref a :: r => match z_ar 107 (H, 0) a with
    | some (t, n, .inl f) => if len = 1 ∧ z_tyl[t]? = some .int then some ([z_in x n = true], pc + 1, lv, .int (z_fn 0 f x.toNatClampNeg) :: r, H) else none
    | some _ => none
    | none => match G.2.2.2.1 a with
      | some q => if len = 1 ∧ a < 107 then some ([z_in x q.1 = true], pc + 1, lv, .int (q.2 x.toNatClampNeg) :: r, H) else none
      | none => none
  | .baload, .int x :: .ref a :: r => match z_ar 107 (H, 0) a with
    | some (t, n, .inl f) => if len = 1 ∧ (z_tyl[t]? = some .byte ∨ z_tyl[t]? = some .boolean) then some ([z_in x n = true], pc + 1, lv, .int (z_fn 0 f x.toNatClampNeg) :: r, H) else none
    | some _ => none
    | none => match aux, z_gfb a with
      | [], some q => if len = 1 then some ([R0, z_in x q.1 = true], pc + 1, lv, .int (q.2 x.toNatClampNeg) :: r, H) else none
      | _, _ => none
  | .laload, .int x :: .ref a :: r => match z_ar 107 (H, 0) a with
    | some (t, n, .inr (.inl f)) => if len = 1 ∧ z_tyl[t]? = some .long then some ([z_in x n = true], pc + 1, lv, .long (z_fn 0 f x.toNatClampNeg) :: r, H) else none
    | _ => none
  | .aaload, .int x :: .ref a :: r => match z_ar 107 (H, 0) a with
    | some (t, n, .inr (.inr f)) => match z_tyl[t]? with
      | some (.object _) => if len = 1 then some ([z_in x n = true, z_cv 107 (z_oV (z_fn none f x.toNatClampNeg))], pc + 1, lv, z_oV (z_fn none f x.toNatClampNeg) :: r, H) else none
      | _ => none
    | some _ => none
    | none => match aux, z_gfr a with
      | [], some q => if len = 1 then some ([R0, z_in x q.1 = true], pc + 1, lv, .ref (q.2 x.toNatClampNeg) :: r, H) else none
      | _, _ => none
  | .iastore, .int y :: .int x :: .ref a :: r => match z_ar 107 (H, 0) a with
    | some (t, n, .inl f) => if len = 1 ∧ z_tyl[t]? = some .int then some ([z_in x n = true], pc + 1, lv, r, H.set (a - 107) (.inl (t, n, .inl ((x.toNatClampNeg, y) :: f)))) else none
    | _ => none
  | .bastore, .int y :: .int x :: .ref a :: r => match z_ar 107 (H, 0) a with
    | some (t, n, .inl f) => match z_tyl[t]? with
      | some .byte => if len = 1 then some ([z_in x n = true], pc + 1, lv, r, H.set (a - 107) (.inl (t, n, .inl ((x.toNatClampNeg, z_nar .byte y) :: f)))) else none
      | some .boolean => if len = 1 then some ([z_in x n = true], pc + 1, lv, r, H.set (a - 107) (.inl (t, n, .inl ((x.toNatClampNeg, z_nar .boolean y) :: f)))) else none
      | _ => none
    | _ => none
  | .lastore, .long y :: .int x :: .ref a :: r => match z_ar 107 (H, 0) a with
    | some (t, n, .inr (.inl f)) => if len = 1 ∧ z_tyl[t]? = some .long then some ([z_in x n = true], pc + 1, lv, r, H.set (a - 107) (.inl (t, n, .inr (.inl ((x.toNatClampNeg, y) :: f))))) else none
    | _ => none
  | .aastore, .ref v :: .int x :: .ref a :: r => match z_ar 107 (H, 0) a with
    | some (t, n, .inr (.inr f)) => if len = 1 ∧ t = 4 then some ([z_in x n = true, v < 37], pc + 1, lv, r, H.set (a - 107) (.inl (t, n, .inr (.inr ((x.toNatClampNeg, some v) :: f))))) else none
    | _ => none
  | .idiv, .int y :: .int x :: r => if len = 1 then some ([¬ y = 0], pc + 1, lv, .int (x / y) :: r, H) else none
  | .irem, .int y :: .int x :: r => if len = 1 then some ([¬ y = 0], pc + 1, lv, .int (x - x / y * y) :: r, H) else none
  | .putfield _, v :: .ref a :: r => match aux with
    | [ci, k, _] => match H[a - 107]? with
      | some (.inr q) => if (len = 3 ∧ 107 ≤ a ∧ q.1 = ci) ∧ k < q.2.length then some ([z_fit (z_fty ci k) v = true], pc + 3, lv, r, H.set (a - 107) (.inr (ci, q.2.set k v))) else none
      | _ => none
    | _ => none
  | .if_acmp cd _, vy :: vx :: r => match aux, z_rO vy, z_rO vx with
    | [t], some ry, some rx => if len = 3 then some ([z_cv 37 vy, z_cv 37 vx], (if (decide (rx = ry)) = (match cd with | .eq => true | .ne => false) then t else pc + 3), lv, r, H) else none
    | _, _, _ => none
  | .invokestatic _, .int n :: .int dp :: .ref a :: .int sp :: .ref b :: r => match aux with
    | [3, _] => match z_ar 107 (H, 0) a, z_ar 107 (H, 0) b with
      | some (t1, n1, .inl g), some (t0, n0, .inl f) => match z_tyl[t0]? with
        | some ty => if len = 3 then some ([R0, ((z_tyl[t1]? = some ty ∧ refKind ty = false ∧ z_wt r ≤ 8) ∧ (¬ sp < 0 ∧ ¬ dp < 0 ∧ ¬ n < 0) ∧ (sp.toNatClampNeg + n.toNatClampNeg ≤ n0 ∧ dp.toNatClampNeg + n.toNatClampNeg ≤ n1) ∧ (List.range n.toNatClampNeg).all (fun i => fits ty (.int (z_fn 0 f (sp.toNatClampNeg + i)))) = true)], pc + 3, lv, r, H.set (a - 107) (.inl (t1, n1, .inl (z_cpl f g sp.toNatClampNeg dp.toNatClampNeg n.toNatClampNeg)))) else none
        | none => none
      | _, _ => none
    | _ => match z_bi z_g0 i len aux lv st (H, 0) with
      | some (st', S') => some ([R0], pc + len, lv, st', S'.1)
      | none => none
  | _, _ => match z_bi z_g0 i len aux lv st (H, 0) with
    | some (st', S') => some ([R0], pc + len, lv, st', S'.1)
    | none => if z_ncp i = true then (match z_step G nL i len aux pc lv st (H, 0) with
      | some (pc', lv', st', S') => some ([], pc', lv', st', S'.1)
      | none => none) else none
/-- what a row comes to: a step, or a builtin -/
def z_Sx (G : z_G) (R0 : Prop) (nL : Nat) (i : Instr) (len : Nat) (aux : List Nat) (pc : Nat) (lv : List (Nat × Value)) (st : List Value) (H : List z_E) (pc' : Nat) (lv' : List (Nat × Value)) (st' : List Value) (H' : List z_E) : Prop :=
  (∃ s' : Nat, z_step G nL i len aux pc lv st (H, 0) = some (pc', lv', st', (H', s')) ∧ z_acq 107 37 i st st') ∨ (∃ s' : Nat, z_bi z_g0 i len aux lv st (H, 0) = some (st', (H', s')) ∧ pc' = pc + len ∧ lv' = lv ∧ R0)
section ZSX
variable {L : Nat} {xs : Nat → Int32} {fv : Value} {R0 : Prop} {nL : Nat} {i : Instr} {len : Nat} {aux : List Nat} {pc pc' : Nat} {lv lv' : List (Nat × Value)} {st st' : List Value} {H H' : List z_E} {C : List Prop}
theorem z_arL {H : List z_E} {a : Nat} {x : Nat × Nat × z_C} (h : z_ar 107 (H, 0) a = some x) : 107 ≤ a ∧ H[a - 107]? = some (.inl x) := z_ar_i h
set_option maxHeartbeats 4000000 in
theorem z_sx_ok (h : z_sx (z_g L xs fv) R0 nL i len aux pc lv st H = some (C, pc', lv', st', H')) (hC : z_all C) : z_Sx (z_g L xs fv) R0 nL i len aux pc lv st H pc' lv' st' H' := by
  unfold z_sx at h
  split at h
  · rename_i x a r
    split at h
    · rename_i t n f har
      split at h
      · rename_i hc
        cases h
        refine Or.inl ⟨0, ?_, trivial⟩
        show z_or (z_ial 107 z_tyl .int len pc lv (.int x :: .ref a :: r) (H, 0)) _ = _
        refine z_or_l ?_
        unfold z_ial
        dsimp only
        rw [har]
        dsimp only
        rw [if_pos ⟨hc.1, hc.2, hC⟩]
      · cases h
    · cases h
    · rename_i har
      split at h
      · rename_i q hq
        split at h
        · rename_i hc
          cases h
          refine Or.inl ⟨0, ?_, trivial⟩
          show z_or (z_ial 107 z_tyl .int len pc lv (.int x :: .ref a :: r) (H, 0)) (z_ialF 107 (z_g L xs fv).2.2.2.1 len pc lv (.int x :: .ref a :: r) (H, 0)) = _
          refine z_or_r ?_ ?_
          · unfold z_ial
            dsimp only
            rw [har]
          · unfold z_ialF
            dsimp only
            rw [hq]
            dsimp only
            rw [if_pos ⟨hc.1, hc.2, hC⟩]
        · cases h
      · cases h
  · rename_i x a r
    split at h
    · rename_i t n f har
      split at h
      · rename_i hc
        cases h
        refine Or.inl ⟨0, ?_, trivial⟩
        show z_or (z_ial 107 z_tyl .byte len pc lv (.int x :: .ref a :: r) (H, 0)) (z_ial 107 z_tyl .boolean len pc lv (.int x :: .ref a :: r) (H, 0)) = _
        rcases hc.2 with ht | ht
        · refine z_or_l ?_
          unfold z_ial
          dsimp only
          rw [har]
          dsimp only
          rw [if_pos ⟨hc.1, ht, hC⟩]
        · refine z_or_r ?_ ?_
          · unfold z_ial
            dsimp only
            rw [har]
            dsimp only
            rw [if_neg (by rw [ht]; intro q; cases q.2.1)]
          · unfold z_ial
            dsimp only
            rw [har]
            dsimp only
            rw [if_pos ⟨hc.1, ht, hC⟩]
      · cases h
    · cases h
    · split at h
      · rename_i q hq
        split at h
        · rename_i hc
          cases h
          refine Or.inr ⟨0, ?_, by rw [hc], rfl, hC.1⟩
          show z_kbl z_g0 (.int x :: .ref a :: r) (H, 0) = _
          show (match z_gfb a with
            | some q => if z_in x q.1 = true then some (Value.int (q.2 x.toNatClampNeg) :: r, ((H, 0) : z_S)) else none
            | none => none) = _
          rw [hq]
          dsimp only
          have hC2 : z_in x q.1 = true := hC.2
          rw [if_pos hC2]
        · cases h
      · cases h
  · rename_i x a r
    split at h
    · rename_i t n f har
      split at h
      · rename_i hc
        cases h
        refine Or.inl ⟨0, ?_, trivial⟩
        show z_lal 107 z_tyl len pc lv (.int x :: .ref a :: r) (H, 0) = _
        unfold z_lal
        dsimp only
        rw [har]
        dsimp only
        rw [if_pos ⟨hc.1, hc.2, hC⟩]
      · cases h
    · cases h
  · rename_i x a r
    split at h
    · rename_i t n f har
      split at h
      · rename_i Cn ht
        split at h
        · rename_i hc
          cases h
          refine Or.inl ⟨0, ?_, hC.2⟩
          show z_aal 107 z_tyl len pc lv (.int x :: .ref a :: r) (H, 0) = _
          unfold z_aal
          dsimp only
          rw [har]
          dsimp only
          rw [ht]
          dsimp only
          rw [if_pos ⟨hc, hC.1⟩]
        · cases h
      · cases h
    · cases h
    · split at h
      · rename_i q hq
        split at h
        · rename_i hc
          cases h
          refine Or.inr ⟨0, ?_, by rw [hc], rfl, hC.1⟩
          show (match z_gfr a with
            | some q => if z_in x q.1 = true then some (Value.ref (q.2 x.toNatClampNeg) :: r, ((H, 0) : z_S)) else none
            | none => none) = _
          rw [hq]
          dsimp only
          have hC2 : z_in x q.1 = true := hC.2
          rw [if_pos hC2]
        · cases h
      · cases h
  · rename_i y x a r
    split at h
    · rename_i t n f har
      split at h
      · rename_i hc
        cases h
        refine Or.inl ⟨0, ?_, trivial⟩
        show z_ias 107 z_tyl .int len pc lv (.int y :: .int x :: .ref a :: st') (H, 0) = _
        unfold z_ias
        dsimp only
        rw [har]
        dsimp only
        rw [if_pos ⟨hc.1, hc.2, hC⟩]
        rfl
      · cases h
    · cases h
  · rename_i y x a r
    split at h
    · rename_i t n f har
      split at h
      · rename_i ht
        split at h
        · rename_i hc
          cases h
          refine Or.inl ⟨0, ?_, trivial⟩
          show z_or (z_ias 107 z_tyl .byte len pc lv (.int y :: .int x :: .ref a :: st') (H, 0)) (z_ias 107 z_tyl .boolean len pc lv (.int y :: .int x :: .ref a :: st') (H, 0)) = _
          refine z_or_l ?_
          unfold z_ias
          dsimp only
          rw [har]
          dsimp only
          rw [if_pos ⟨hc, ht, hC⟩]
        · cases h
      · rename_i ht
        split at h
        · rename_i hc
          cases h
          refine Or.inl ⟨0, ?_, trivial⟩
          show z_or (z_ias 107 z_tyl .byte len pc lv (.int y :: .int x :: .ref a :: st') (H, 0)) (z_ias 107 z_tyl .boolean len pc lv (.int y :: .int x :: .ref a :: st') (H, 0)) = _
          refine z_or_r ?_ ?_
          · unfold z_ias
            dsimp only
            rw [har]
            dsimp only
            rw [if_neg (by rw [ht]; intro q; cases q.2.1)]
          · unfold z_ias
            dsimp only
            rw [har]
            dsimp only
            rw [if_pos ⟨hc, ht, hC⟩]
        · cases h
      · cases h
    · cases h
  · rename_i y x a r
    split at h
    · rename_i t n f har
      split at h
      · rename_i hc
        cases h
        refine Or.inl ⟨0, ?_, trivial⟩
        show z_las 107 z_tyl len pc lv (.long y :: .int x :: .ref a :: st') (H, 0) = _
        unfold z_las
        dsimp only
        rw [har]
        dsimp only
        rw [if_pos ⟨hc.1, hc.2, hC⟩]
      · cases h
    · cases h
  · rename_i v x a r
    split at h
    · rename_i t n f har
      split at h
      · rename_i hc
        cases h
        refine Or.inl ⟨0, ?_, trivial⟩
        show z_aas 107 37 z_tyl 4 len pc lv (.ref v :: .int x :: .ref a :: st') (H, 0) = _
        unfold z_aas
        dsimp only
        rw [har]
        dsimp only
        rw [if_pos ⟨⟨hc.1, hc.2, hC.2⟩, hC.1⟩]
      · cases h
    · cases h
  · split at h
    · rename_i hc
      cases h
      refine Or.inl ⟨0, ?_, trivial⟩
      show (if len = 1 ∧ ¬ _ = 0 then _ else _ : Option z_T).map _ = _
      rw [if_pos ⟨hc, hC⟩]
      rfl
    · cases h
  · split at h
    · rename_i hc
      cases h
      refine Or.inl ⟨0, ?_, trivial⟩
      show (if len = 1 ∧ ¬ _ = 0 then _ else _ : Option z_T).map _ = _
      rw [if_pos ⟨hc, hC⟩]
      rfl
    · cases h
  · rename_i idx v a r
    split at h
    · rename_i ci k pl
      split at h
      · rename_i q hq
        split at h
        · rename_i hc
          cases h
          refine Or.inl ⟨0, ?_, trivial⟩
          show z_pf 107 ci k (z_fty ci k) len pc lv (v :: .ref a :: st') (H, 0) = _
          unfold z_pf
          dsimp only
          rw [hq]
          dsimp only
          rw [if_pos ⟨hc.1, hc.2, hC⟩]
        · cases h
      · cases h
    · cases h
  · rename_i cd off vy vx r
    split at h
    · rename_i t ry rx h1 h2
      split at h
      · rename_i hc
        cases h
        refine Or.inl ⟨0, ?_, hC⟩
        have hcb : ∀ {u : Value} {q : Option Nat}, z_cv 37 u → z_rO u = some q → z_cb 107 37 q = true := by
          intro u q hu hq
          cases u <;> simp [z_rO] at hq <;> subst hq
          · rfl
          · simp only [z_cb, Bool.or_eq_true, decide_eq_true_eq]
            exact Or.inl hu
        show (z_ac 107 37 (match cd with | .eq => true | .ne => false) [t] len pc lv (vy :: vx :: st')).map _ = _
        unfold z_ac
        dsimp only
        rw [h1, h2]
        dsimp only
        rw [if_pos ⟨hc, hcb hC.1 h1, hcb hC.2 h2⟩]
        rfl
      · cases h
    · cases h
  · rename_i idx n dp a sp b r
    split at h
    · split at h
      · rename_i t1 n1 g t0 n0 f ha hb
        split at h
        · rename_i ty hty
          split at h
          · rename_i hc
            cases h
            refine Or.inr ⟨0, ?_, by rw [hc], rfl, hC.1⟩
            show z_acp z_g0 (.int n :: .int dp :: .ref a :: .int sp :: .ref b :: st') (H, 0) = _
            unfold z_acp
            dsimp only
            have ha : z_ar z_g0.1.1 (H, 0) a = some (t1, n1, .inl g) := ha
            have hb : z_ar z_g0.1.1 (H, 0) b = some (t0, n0, .inl f) := hb
            have hty : z_g0.2.1.1[t0]? = some ty := hty
            rw [ha, hb]
            dsimp only
            rw [hty]
            dsimp only
            exact if_pos hC.2
          · cases h
        · cases h
      · cases h
    · split at h
      · rename_i st1 S1 hb
        cases h
        exact Or.inr ⟨S1.2, hb, rfl, rfl, hC⟩
      · cases h
  · split at h
    · rename_i st1 S1 hb
      cases h
      exact Or.inr ⟨S1.2, hb, rfl, rfl, hC⟩
    · split at h
      · rename_i hn
        split at h
        · rename_i pc1 lv1 st1 S1 hs
          cases h
          exact Or.inl ⟨S1.2, hs, z_ncp_q hn⟩
        · cases h
      · cases h
/-- rows, one behind the other -/
def z_sxb (G : z_G) (R0 : Prop) (nL : Nat) (rows : List z_R) (pc : Nat) (lv : List (Nat × Value)) (st : List Value) (H : List z_E) : Option z_X := match rows with
  | [] => some ([], pc, lv, st, H)
  | q :: rs => if q.1 = pc ∧ (z_pl q.2.1 q.2.2.2 && z_nal q.2.1) = true then (match z_sx G R0 nL q.2.1 q.2.2.1 q.2.2.2 pc lv st H with
    | some (C, pc', lv', st', H') => (match z_sxb G R0 nL rs pc' lv' st' H' with
      | some (D, u) => some (C ++ D, u)
      | none => none)
    | none => none) else none
theorem z_Ln.rows {f w mi : Nat} {c : Nat × Nat} {o : z_V} {T' : z_Y} : ∀ (rows : List z_R) {pc : Nat} {lv : List (Nat × Value)} {st : List Value} {H : List z_E} {C : List Prop} {pc' : Nat} {lv' : List (Nat × Value)} {st' : List Value} {H' : List z_E}, (∀ q ∈ rows, z_pg.1 mi q.1 = some q.2) → z_sxb (z_g L xs fv) ((c.1 ≤ 601024 ∧ c.2 ≤ 7293034) ∧ 1 ≤ f ∧ 60 ≤ w) (z_pg.2.1 mi) rows pc lv st H = some (C, pc', lv', st', H') → z_all C → z_Ln L xs fv f w mi pc' lv' st' (H', c) o T' → z_Ln L xs fv f w mi pc lv st (H, c) o T' := by
  intro rows
  induction rows with
  | nil =>
    intro pc lv st H C pc' lv' st' H' _ hb _ k
    cases hb
    exact k
  | cons q rs ih =>
    intro pc lv st H C pc' lv' st' H' hr hb hC k
    unfold z_sxb at hb
    split at hb
    · rename_i hq
      split at hb
      · rename_i C1 pc1 lv1 st1 H1 hs
        split at hb
        · rename_i D u hs2
          cases hb
          obtain ⟨hC1, hD⟩ := z_all_app hC
          obtain ⟨hq1, hq2⟩ := hq
          rw [Bool.and_eq_true] at hq2
          have hrow : z_pg.1 mi pc = some (q.2.1, q.2.2.1, q.2.2.2) := by
            rw [← hq1]
            exact hr q List.mem_cons_self
          have k2 := ih (fun x hx => hr x (List.mem_cons_of_mem _ hx)) hs2 hD k
          rcases z_sx_ok hs hC1 with ⟨s', e1, e2⟩ | ⟨s', e1, rfl, rfl, e4⟩
          · exact z_Ln.step hrow hq2.1 hq2.2 e2 e1 k2
          · exact z_Ln.bi hrow hq2.1 e1 e4 k2
        · cases hb
      · cases hb
    · cases hb
end ZSX
/-- each row is found at its place -/
def z_uq (mi : Nat) (q : z_R) : Bool := decide (z_look (z_rows mi) q.1 = some q.2)
def z_sl (mi a n : Nat) : List z_R := ((z_rows mi).drop a).take n
