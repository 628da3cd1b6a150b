/-! Locals of runs; small facts on the cells. -/
theorem z_bd_lv {G : z_G} {P : z_Q} {B : z_B} {E : Nat → Nat → Nat → Nat → List (Nat × Value) → List Value → z_S → Option (z_O × z_S)} (hB : ∀ i len aux lv lv2 st S, B i len aux lv st S = B i len aux lv2 st S)
    (hE : ∀ f w mi pc lv lv2 st S r, z_le lv lv2 → E f w mi pc lv st S = some r → E f w mi pc lv2 st S = some r) {f w mi pc : Nat} {lv lv2 : List (Nat × Value)} {st : List Value} {S : z_S} {r : z_O × z_S} (hl : z_le lv lv2) (h : z_bd G P B E f w mi pc lv st S = some r) : z_bd G P B E f w mi pc lv2 st S = some r := by
  unfold z_bd at h ⊢
  cases hrow : P.1 mi pc with
  | none => rw [hrow] at h; cases h
  | some q =>
    obtain ⟨i, len, aux⟩ := q
    rw [hrow] at h
    dsimp only at h ⊢
    cases hret : z_ret (P.2.2.1 mi) i len st with
    | some v => rw [hret] at h; exact h
    | none =>
      rw [hret] at h
      dsimp only at h ⊢
      cases hinv : z_inv G P i aux st S with
      | some q =>
        obtain ⟨mj, as, rr⟩ := q
        rw [hinv] at h
        dsimp only at h ⊢
        split at h
        · rename_i hc
          rw [if_pos hc]
          cases hcal : E (f - 1) (w - (19 + P.2.1 mj)) mj 0 (lv_args 0 as) [] S with
          | none => rw [hcal] at h; cases h
          | some q =>
            obtain ⟨o, S1⟩ := q
            rw [hcal] at h
            cases o with
            | inl v =>
              dsimp only at h ⊢
              split at h
              · rename_i hg
                rw [if_pos hg]
                exact hE _ _ _ _ _ _ _ _ _ hl h
              · cases h
            | inr x =>
              dsimp only at h ⊢
              split at h
              · rename_i hg
                rw [if_pos hg]
                cases hcl : z_cls G.1.1 S1 x with
                | none => rw [hcl] at h; cases h
                | some ci =>
                  rw [hcl] at h
                  dsimp only at h ⊢
                  cases hfh : z_fh G.2.2.2.2.2.2.2.2 pc ci (P.2.2.2.1 mi) (P.2.2.2.2.1 mi) with
                  | none => rw [hfh] at h; cases h
                  | some q =>
                    rw [hfh] at h
                    cases q with
                    | none => exact h
                    | some hp => exact hE _ _ _ _ _ _ _ _ _ hl h
              · cases h
        · cases h
      | none =>
        rw [hinv] at h
        dsimp only at h ⊢
        split at h
        · split at h
          · split at h
            · rename_i hc
              rw [if_pos hc]
              exact hE _ _ _ _ _ _ _ _ _ hl h
            · cases h
          · cases h
        · split at h
          · rename_i hc
            rw [if_pos hc]
            exact h
          · cases h
        · have key : (match B i len aux lv2 st S with
            | some (st', S') => if S'.1.length = S.1.length ∧ S'.2 = S.2 ∧ 1 ≤ f ∧ 60 ≤ w then E f w mi (pc + len) lv2 st' S' else none
            | none => match z_step G (P.2.1 mi) i len aux pc lv2 st S with
              | some (pc', lv', st', S') => E f w mi pc' lv' st' S'
              | none => none) = some r := by
            rw [← hB i len aux lv lv2 st S]
            cases hx : B i len aux lv st S with
            | some q =>
              obtain ⟨st', S'⟩ := q
              rw [hx] at h
              dsimp only at h ⊢
              split at h
              · rename_i hc
                rw [if_pos hc]
                exact hE _ _ _ _ _ _ _ _ _ hl h
              · cases h
            | none =>
              rw [hx] at h
              dsimp only at h ⊢
              cases hs : z_step G (P.2.1 mi) i len aux pc lv st S with
              | none => rw [hs] at h; cases h
              | some q =>
                obtain ⟨q1, q2, q3, q4⟩ := q
                rw [hs] at h
                obtain ⟨l2, e1, e2⟩ := z_step_lv hl hs
                rw [e1]
                exact hE _ _ _ _ _ _ _ _ _ e2 h
          exact key
theorem z_ev_lv {G : z_G} {P : z_Q} {B : z_B} (hB : ∀ i len aux lv lv2 st S, B i len aux lv st S = B i len aux lv2 st S) : ∀ n f w mi pc lv lv2 st S r, z_le lv lv2 → z_ev G P B n f w mi pc lv st S = some r → z_ev G P B n f w mi pc lv2 st S = some r := by
  intro n
  induction n with
  | zero =>
    intro f w mi pc lv lv2 st S r _ h
    simp [z_ev] at h
  | succ n ih =>
    intro f w mi pc lv lv2 st S r hl h
    rw [z_ev_S] at h ⊢
    exact z_bd_lv hB ih hl h
theorem z_b0_lv (i : Instr) (len : Nat) (aux : List Nat) (lv lv2 : List (Nat × Value)) (st : List Value) (S : z_S) : z_b0 i len aux lv st S = z_b0 i len aux lv2 st S := rfl
theorem z_lk_tr (r : Nat → Nat) (k : Nat) : ∀ lv : List (Nat × Value), z_lk (z_trL r lv) k = (z_lk lv k).map (z_tr r) := by
  intro lv
  induction lv with
  | nil => rfl
  | cons q t ih =>
    show (if q.1 = k then some (z_tr r q.2) else z_lk (z_trL r t) k) = (if q.1 = k then some q.2 else z_lk t k).map (z_tr r)
    rw [ih]
    by_cases h : q.1 = k
    · rw [if_pos h, if_pos h]
      rfl
    · rw [if_neg h, if_neg h]
theorem z_le_tr {lv lv2 : List (Nat × Value)} (h : z_le lv lv2) (r : Nat → Nat) : z_le (z_trL r lv) (z_trL r lv2) := by
  refine ⟨?_, fun k u hk => ?_⟩
  · have : (z_trL r lv).map (·.1) = lv.map (·.1) := by
      unfold z_trL
      rw [List.map_map]
      rfl
    rw [this]
    exact h.1
  · rw [z_lk_tr] at hk ⊢
    cases hx : z_lk lv k with
    | none => rw [hx] at hk; cases hk
    | some v =>
      rw [hx] at hk
      rw [h.2 k v hx]
      exact hk
/-- other locals -/
theorem z_Ln.lv {L : Nat} {xs : Nat → Int32} {fv : Value} {f w mi pc : Nat} {lv lv2 : List (Nat × Value)} {st : List Value} {T T' : z_Y} {o : z_V} (hl : z_le lv lv2) (h : z_Ln L xs fv f w mi pc lv st T o T') : z_Ln L xs fv f w mi pc lv2 st T o T' := by
  intro hfv
  obtain ⟨h1, h2, h3⟩ := h hfv
  refine ⟨h1, h2, fun p S a b c => ?_⟩
  obtain ⟨p', S', o', q1, q2, q3, n, q4⟩ := h3 p S a b c
  exact ⟨p', S', o', q1, q2, q3, n, z_ev_lv z_b0_lv n _ _ _ _ _ _ _ _ _ (z_le_tr hl _) q4⟩
theorem z_le.nil {lv2 : List (Nat × Value)} : z_le [] lv2 := ⟨List.nodup_nil, fun k u h => by cases h⟩
theorem z_le.cons {k : Nat} {v : Value} {t lv2 : List (Nat × Value)} (hk : t.all (fun q => !(q.1 == k)) = true) (hv : z_lk lv2 k = some v) (ht : z_le t lv2) : z_le ((k, v) :: t) lv2 := by
  refine ⟨?_, fun j u hj => ?_⟩
  · rw [List.map_cons, List.nodup_cons]
    refine ⟨fun hm => ?_, ht.1⟩
    obtain ⟨q, hq, e⟩ := List.mem_map.mp hm
    have := List.all_eq_true.mp hk q hq
    simp [e] at this
  · unfold z_lk at hj
    by_cases e : k = j
    · rw [if_pos e] at hj
      cases hj
      rw [← e]
      exact hv
    · rw [if_neg e] at hj
      exact ht.2 j u hj
theorem z_fitI {x : Int32} : z_fit .int (.int x) = true := by
  simp [z_fit, narrow, fits]
theorem z_fitB {x : Int32} (h : x = 0 ∨ x = 1) : z_fit .boolean (.int x) = true := by
  rcases h with rfl | rfl <;> decide
theorem hC_len {A : Nat → List (Nat × Int32)} {E : List (Nat × Option Nat)} {N : Nat → Nat} {V : Nat → Nat → Int32} {W : Nat} : (hC A E N V W).length = 41 := rfl
theorem hR_len {B : Nat → List (Nat × Int32)} {M : Nat → List (Nat × Int64)} {U : Nat → Nat → Int32} : (hR B M U).length = 86 := rfl
section ZSMC
variable {A A' : Nat → List (Nat × Int32)} {E E' : List (Nat × Option Nat)} {N N' : Nat → Nat} {V V' : Nat → Nat → Int32} {W W' : Nat} {B B' : Nat → List (Nat × Int32)} {M M' : Nat → List (Nat × Int64)} {U U' : Nat → Nat → Int32} {g g' : List z_E} {a : Nat}
theorem z_smC (ha : a - 107 < 41) (h : z_szE (hC A E N V W ++ g)[a - 107]? = z_szE (hC A' E' N' V' W' ++ g')[a - 107]?) : z_sm (hC A E N V W ++ g) (hC A' E' N' V' W' ++ g') (.ref a) := by
  refine Or.inr ⟨?_, h⟩
  rw [List.length_append, hC_len]
  exact Nat.lt_of_lt_of_le ha (Nat.le_add_right _ _)
theorem z_smR (ha : a - 107 < 127) (h : z_szE (hC A E N V W ++ (hR B M U ++ g))[a - 107]? = z_szE (hC A' E' N' V' W' ++ (hR B' M' U' ++ g'))[a - 107]?) : z_sm (hC A E N V W ++ (hR B M U ++ g)) (hC A' E' N' V' W' ++ (hR B' M' U' ++ g')) (.ref a) := by
  refine Or.inr ⟨?_, h⟩
  rw [List.length_append, List.length_append, hC_len, hR_len]
  exact Nat.lt_of_lt_of_le ha (by omega)
end ZSMC
/-- what System.arraycopy asks -/
def z_cpk (ty : FieldType) (t1 n0 n1 : Nat) (f : List (Nat × Int32)) (sp dp n : Int32) (r : List Value) : Prop := (z_tyl[t1]? = some ty ∧ refKind ty = false ∧ z_wt r ≤ 8) ∧ (¬ sp < 0 ∧ ¬ dp < 0 ∧ ¬ n < 0) ∧ (sp.toNatClampNeg + n.toNatClampNeg ≤ n0 ∧ dp.toNatClampNeg + n.toNatClampNeg ≤ n1) ∧ (List.range n.toNatClampNeg).all (fun i => fits ty (.int (z_fn 0 f (sp.toNatClampNeg + i)))) = true
theorem z_inI {n N : Nat} (h : n < N) (hN : N < 2 ^ 31) : z_in (nI n) N = true := by
  unfold z_in
  rw [nI_clamp (by omega), decide_eq_true (nI_pos (by omega)), decide_eq_true h]
  rfl
