/-! The plain machine does not see where its cells lie: a run over a heap H is a run over every heap in which H's cells lie elsewhere. -/
/-- the references of a heap whose cell k lies at p k -/
def z_rr (K : Nat) (p : Nat → Nat) (a : Nat) : Nat := if a < K then a else K + p (a - K)
theorem z_rr_lo {K : Nat} {p : Nat → Nat} {a : Nat} (h : a < K) : z_rr K p a = a := if_pos h
theorem z_rr_hi {K : Nat} {p : Nat → Nat} {a : Nat} (h : K ≤ a) : z_rr K p a = K + p (a - K) := if_neg (Nat.not_lt.mpr h)
theorem z_rr_ge {K : Nat} {p : Nat → Nat} {a : Nat} (h : K ≤ a) : K ≤ z_rr K p a := by
  rw [z_rr_hi h]
  omega
theorem z_rr_sub {K : Nat} {p : Nat → Nat} {a : Nat} (h : K ≤ a) : z_rr K p a - K = p (a - K) := by
  rw [z_rr_hi h]
  omega
def z_mE (r : Nat → Nat) (e : z_E) : z_E := match e with
  | .inl x => .inl x
  | .inr o => .inr (o.1, o.2.map (z_tr r))
/-- H's cells lie in S at p -/
def z_Sim (K : Nat) (p : Nat → Nat) (H : List z_E) (S : z_S) : Prop := (∀ (k : Nat) (e : z_E), H[k]? = some e → S.1[p k]? = some (z_mE (z_rr K p) e)) ∧ ∀ i j, i < H.length → j < H.length → p i = p j → i = j
theorem z_Sim.set {K : Nat} {p : Nat → Nat} {H : List z_E} {S : z_S} (h : z_Sim K p H S) {i : Nat} {e0 : z_E} (hi : H[i]? = some e0) (e : z_E) : z_Sim K p (H.set i e) (S.1.set (p i) (z_mE (z_rr K p) e), S.2) := by
  obtain ⟨h1, h2⟩ := h
  have hil := (List.getElem?_eq_some_iff.mp hi).1
  refine ⟨fun k e1 hk => ?_, fun a b ha hb => h2 a b (by rw [List.length_set] at ha; exact ha) (by rw [List.length_set] at hb; exact hb)⟩
  show (S.1.set (p i) (z_mE (z_rr K p) e))[p k]? = _
  rw [List.getElem?_set] at hk ⊢
  by_cases hik : i = k
  · subst hik
    rw [if_pos rfl, if_pos hil] at hk
    cases hk
    have h3 := (List.getElem?_eq_some_iff.mp (h1 i e0 hi)).1
    rw [if_pos rfl, if_pos h3]
  · rw [if_neg hik] at hk
    have hkl := (List.getElem?_eq_some_iff.mp hk).1
    rw [if_neg (fun hp => hik (h2 i k hil hkl hp))]
    exact h1 k e1 hk
section ZRN
variable {r : Nat → Nat} {len pc pc' : Nat} {lv lv' : List (Nat × Value)} {st st' : List Value}
theorem z_lk_rn {k : Nat} {v : Value} : ∀ {lv : List (Nat × Value)}, z_lk lv k = some v → z_lk (z_trL r lv) k = some (z_tr r v) := by
  intro lv
  induction lv with
  | nil => intro h; simp [z_lk] at h
  | cons q t ih =>
    intro h
    show (if q.1 = k then some (z_tr r q.2) else z_lk (z_trL r t) k) = _
    unfold z_lk at h
    by_cases hq : q.1 = k
    · rw [if_pos hq] at h ⊢
      cases h
      rfl
    · rw [if_neg hq] at h ⊢
      exact ih h
theorem z_st1_rn (lv : List (Nat × Value)) (i : Nat) (v : Value) : z_st1 (z_trL r lv) i (z_tr r v) = z_trL r (z_st1 lv i v) := z_st1_tr r lv i v
theorem z_st2_rn (lv : List (Nat × Value)) (i : Nat) (v : Value) : z_st2 (z_trL r lv) i (z_tr r v) = z_trL r (z_st2 lv i v) := z_st2_tr r lv i v
theorem z_p0_rn {n : Nat} {v : Value} (hv : z_tr r v = v) (h : z_p0 n len pc lv st v = some (pc', lv', st')) : z_p0 n len pc (z_trL r lv) (st.map (z_tr r)) v = some (pc', z_trL r lv', st'.map (z_tr r)) := by
  obtain ⟨rfl, rfl, rfl, rfl⟩ := z_p0_i h
  unfold z_p0
  rw [if_pos rfl, List.map_cons, hv]
theorem z_ldI_rn {n k : Nat} (h : z_ldI n k len pc lv st = some (pc', lv', st')) : z_ldI n k len pc (z_trL r lv) (st.map (z_tr r)) = some (pc', z_trL r lv', st'.map (z_tr r)) := by
  obtain ⟨x, h1, rfl, rfl, rfl, rfl⟩ := z_ldI_i h
  unfold z_ldI
  rw [z_lk_rn h1]
  show (if _ then _ else _) = _
  rw [if_pos rfl]
  rfl
theorem z_ldL_rn {n k : Nat} (h : z_ldL n k len pc lv st = some (pc', lv', st')) : z_ldL n k len pc (z_trL r lv) (st.map (z_tr r)) = some (pc', z_trL r lv', st'.map (z_tr r)) := by
  obtain ⟨x, h1, rfl, rfl, rfl, rfl⟩ := z_ldL_i h
  unfold z_ldL
  rw [z_lk_rn h1]
  show (if _ then _ else _) = _
  rw [if_pos rfl]
  rfl
theorem z_ldA_rn {n k : Nat} (h : z_ldA n k len pc lv st = some (pc', lv', st')) : z_ldA n k len pc (z_trL r lv) (st.map (z_tr r)) = some (pc', z_trL r lv', st'.map (z_tr r)) := by
  rcases z_ldA_i h with ⟨x, h1, rfl, rfl, rfl, rfl⟩ | ⟨h1, rfl, rfl, rfl, rfl⟩
  · unfold z_ldA
    rw [z_lk_rn h1]
    show (if _ then _ else _) = _
    rw [if_pos rfl]
    rfl
  · unfold z_ldA
    rw [z_lk_rn h1]
    show (if _ then _ else _) = _
    rw [if_pos rfl]
    rfl
theorem z_sI_rn {nL n k : Nat} (h : z_sI nL n k len pc lv st = some (pc', lv', st')) : z_sI nL n k len pc (z_trL r lv) (st.map (z_tr r)) = some (pc', z_trL r lv', st'.map (z_tr r)) := by
  obtain ⟨x, t, rfl, rfl, h1, rfl, rfl, rfl⟩ := z_sI_i h
  rw [← z_st1_rn]
  show (if _ then _ else _) = _
  rw [if_pos ⟨rfl, h1⟩]
  rfl
theorem z_sL_rn {nL n k : Nat} (h : z_sL nL n k len pc lv st = some (pc', lv', st')) : z_sL nL n k len pc (z_trL r lv) (st.map (z_tr r)) = some (pc', z_trL r lv', st'.map (z_tr r)) := by
  obtain ⟨x, t, rfl, rfl, h1, rfl, rfl, rfl⟩ := z_sL_i h
  rw [← z_st2_rn]
  show (if _ then _ else _) = _
  rw [if_pos ⟨rfl, h1⟩]
  rfl
theorem z_sA_rn {nL n k : Nat} (h : z_sA nL n k len pc lv st = some (pc', lv', st')) : z_sA nL n k len pc (z_trL r lv) (st.map (z_tr r)) = some (pc', z_trL r lv', st'.map (z_tr r)) := by
  rcases z_sA_i h with ⟨x, t, rfl, rfl, h1, rfl, rfl, rfl⟩ | ⟨t, rfl, rfl, h1, rfl, rfl, rfl⟩
  · rw [← z_st1_rn]
    show (if _ then _ else _) = _
    rw [if_pos ⟨rfl, h1⟩]
    rfl
  · rw [← z_st1_rn]
    show (if _ then _ else _) = _
    rw [if_pos ⟨rfl, h1⟩]
    rfl
theorem z_inc_rn {nL k : Nat} {n : Int} (h : z_inc nL k n len pc lv st = some (pc', lv', st')) : z_inc nL k n len pc (z_trL r lv) (st.map (z_tr r)) = some (pc', z_trL r lv', st'.map (z_tr r)) := by
  obtain ⟨x, h1, rfl, h2, rfl, rfl, rfl⟩ := z_inc_i h
  unfold z_inc
  rw [z_lk_rn h1, ← z_st1_rn]
  show (if _ then _ else _) = _
  rw [if_pos ⟨rfl, h2⟩]
  rfl
theorem z_b2_rn {f : Int32 → Int32 → Int32} (h : z_b2 f len pc lv st = some (pc', lv', st')) : z_b2 f len pc (z_trL r lv) (st.map (z_tr r)) = some (pc', z_trL r lv', st'.map (z_tr r)) := by
  obtain ⟨x, y, t, rfl, rfl, rfl, rfl, rfl⟩ := z_b2_i h
  rfl
theorem z_b2d_rn {f : Int32 → Int32 → Int32} (h : z_b2d f len pc lv st = some (pc', lv', st')) : z_b2d f len pc (z_trL r lv) (st.map (z_tr r)) = some (pc', z_trL r lv', st'.map (z_tr r)) := by
  obtain ⟨x, y, t, rfl, hc, rfl, rfl, rfl⟩ := z_b2d_i h
  show (if _ then _ else _) = _
  rw [if_pos hc]
  rfl
theorem z_l2_rn {f : Int64 → Int64 → Int64} (h : z_l2 f len pc lv st = some (pc', lv', st')) : z_l2 f len pc (z_trL r lv) (st.map (z_tr r)) = some (pc', z_trL r lv', st'.map (z_tr r)) := by
  obtain ⟨x, y, t, rfl, rfl, rfl, rfl, rfl⟩ := z_l2_i h
  rfl
theorem z_lc_rn {f : Int64 → Int64 → Int32} (h : z_lc f len pc lv st = some (pc', lv', st')) : z_lc f len pc (z_trL r lv) (st.map (z_tr r)) = some (pc', z_trL r lv', st'.map (z_tr r)) := by
  obtain ⟨x, y, t, rfl, rfl, rfl, rfl, rfl⟩ := z_lc_i h
  rfl
theorem z_uII_rn {f : Int32 → Int32} (h : z_uII f len pc lv st = some (pc', lv', st')) : z_uII f len pc (z_trL r lv) (st.map (z_tr r)) = some (pc', z_trL r lv', st'.map (z_tr r)) := by
  obtain ⟨x, t, rfl, rfl, rfl, rfl, rfl⟩ := z_uII_i h
  rfl
theorem z_uIL_rn {f : Int32 → Int64} (h : z_uIL f len pc lv st = some (pc', lv', st')) : z_uIL f len pc (z_trL r lv) (st.map (z_tr r)) = some (pc', z_trL r lv', st'.map (z_tr r)) := by
  obtain ⟨x, t, rfl, rfl, rfl, rfl, rfl⟩ := z_uIL_i h
  rfl
theorem z_uLI_rn {f : Int64 → Int32} (h : z_uLI f len pc lv st = some (pc', lv', st')) : z_uLI f len pc (z_trL r lv) (st.map (z_tr r)) = some (pc', z_trL r lv', st'.map (z_tr r)) := by
  obtain ⟨x, t, rfl, rfl, rfl, rfl, rfl⟩ := z_uLI_i h
  rfl
theorem z_lsh_rn {f : Int64 → Int32 → Int64} (h : z_lsh f len pc lv st = some (pc', lv', st')) : z_lsh f len pc (z_trL r lv) (st.map (z_tr r)) = some (pc', z_trL r lv', st'.map (z_tr r)) := by
  obtain ⟨x, y, t, rfl, rfl, rfl, rfl, rfl⟩ := z_lsh_i h
  rfl
theorem z_dup_rn (h : z_dup len pc lv st = some (pc', lv', st')) : z_dup len pc (z_trL r lv) (st.map (z_tr r)) = some (pc', z_trL r lv', st'.map (z_tr r)) := by
  obtain ⟨a, t, rfl, hc, rfl, rfl, rfl⟩ := z_dup_i h
  show (if _ then _ else _) = _
  rw [if_pos (by rw [z_tr_cat]; exact hc)]
  rfl
theorem z_pop_rn (h : z_pop len pc lv st = some (pc', lv', st')) : z_pop len pc (z_trL r lv) (st.map (z_tr r)) = some (pc', z_trL r lv', st'.map (z_tr r)) := by
  obtain ⟨a, t, rfl, hc, rfl, rfl, rfl⟩ := z_pop_i h
  show (if _ then _ else _) = _
  rw [if_pos (by rw [z_tr_cat]; exact hc)]
theorem z_dx1_rn (h : z_dx1 len pc lv st = some (pc', lv', st')) : z_dx1 len pc (z_trL r lv) (st.map (z_tr r)) = some (pc', z_trL r lv', st'.map (z_tr r)) := by
  obtain ⟨a, b, t, rfl, hc, rfl, rfl, rfl⟩ := z_dx1_i h
  show (if _ then _ else _) = _
  rw [if_pos (by rw [z_tr_cat, z_tr_cat]; exact hc)]
  rfl
theorem z_dx2_rn (h : z_dx2 len pc lv st = some (pc', lv', st')) : z_dx2 len pc (z_trL r lv) (st.map (z_tr r)) = some (pc', z_trL r lv', st'.map (z_tr r)) := by
  obtain ⟨a, b, d, t, rfl, hc, rfl, rfl, rfl⟩ := z_dx2_i h
  show (if _ then _ else _) = _
  rw [if_pos (by rw [z_tr_cat, z_tr_cat, z_tr_cat]; exact hc)]
  rfl
theorem z_d2_rn (h : z_d2 len pc lv st = some (pc', lv', st')) : z_d2 len pc (z_trL r lv) (st.map (z_tr r)) = some (pc', z_trL r lv', st'.map (z_tr r)) := by
  obtain ⟨a, b, t, rfl, hc, rfl, rfl, rfl⟩ := z_d2_i h
  show (if _ then _ else _) = _
  rw [if_pos (by rw [z_tr_cat, z_tr_cat]; exact hc)]
  rfl
theorem z_if_rn {f : Int32 → Bool} {aux : List Nat} (h : z_if f aux len pc lv st = some (pc', lv', st')) : z_if f aux len pc (z_trL r lv) (st.map (z_tr r)) = some (pc', z_trL r lv', st'.map (z_tr r)) := by
  obtain ⟨t, x, q, rfl, rfl, rfl, rfl, rfl, rfl⟩ := z_if_i h
  rfl
theorem z_ic_rn {f : Int32 → Int32 → Bool} {aux : List Nat} (h : z_ic f aux len pc lv st = some (pc', lv', st')) : z_ic f aux len pc (z_trL r lv) (st.map (z_tr r)) = some (pc', z_trL r lv', st'.map (z_tr r)) := by
  obtain ⟨t, x, y, q, rfl, rfl, rfl, rfl, rfl, rfl⟩ := z_ic_i h
  rfl
/-- where references are compared they are constants -/
def z_cv (nW : Nat) (v : Value) : Prop := match v with
  | .ref a => a < nW
  | _ => True
def z_acq (K nW : Nat) (i : Instr) (st st' : List Value) : Prop := match i with
  | .if_acmp _ _ => (match st with
    | vy :: vx :: _ => z_cv nW vy ∧ z_cv nW vx
    | _ => True)
  | .aaload => (match st' with
    | v :: _ => z_cv K v
    | _ => True)
  | _ => True
theorem z_cv_tr {nW : Nat} (hr : ∀ a, a < nW → r a = a) {v : Value} (h : z_cv nW v) : z_tr r v = v := by
  cases v <;> first | rfl | exact congrArg Value.ref (hr _ h)
theorem z_ac_rn {K nW : Nat} (hr : ∀ a, a < nW → r a = a) {eq : Bool} {aux : List Nat} (hq : ∀ vy vx t, st = vy :: vx :: t → z_cv nW vy ∧ z_cv nW vx) (h : z_ac K nW eq aux len pc lv st = some (pc', lv', st')) : z_ac K nW eq aux len pc (z_trL r lv) (st.map (z_tr r)) = some (pc', z_trL r lv', st'.map (z_tr r)) := by
  obtain ⟨t, vx, vy, rx, ry, q, rfl, rfl, h1, h2, hc, rfl, rfl, rfl⟩ := z_ac_i h
  obtain ⟨q1, q2⟩ := hq vy vx _ rfl
  rw [List.map_cons, List.map_cons, z_cv_tr hr q1, z_cv_tr hr q2]
  unfold z_ac
  dsimp only
  rw [h1, h2]
  dsimp only
  rw [if_pos hc]
theorem z_goto_rn {aux : List Nat} (h : z_goto aux len lv st = some (pc', lv', st')) : z_goto aux len (z_trL r lv) (st.map (z_tr r)) = some (pc', z_trL r lv', st'.map (z_tr r)) := by
  obtain ⟨t, rfl, rfl, rfl, rfl, rfl⟩ := z_goto_i h
  rfl
theorem z_nul_rn {isn : Bool} {aux : List Nat} (h : z_nul isn aux len pc lv st = some (pc', lv', st')) : z_nul isn aux len pc (z_trL r lv) (st.map (z_tr r)) = some (pc', z_trL r lv', st'.map (z_tr r)) := by
  unfold z_nul at h
  split at h
  · split at h
    · rename_i hl
      cases h
      show (if _ then _ else _) = _
      rw [if_pos hl]
    · cases h
  · split at h
    · rename_i hl
      cases h
      show (if _ then _ else _) = _
      rw [if_pos hl]
    · cases h
  · cases h
theorem z_tab_rn {lo hi : Int} {aux : List Nat} (h : z_tab lo hi aux pc lv st = some (pc', lv', st')) : z_tab lo hi aux pc (z_trL r lv) (st.map (z_tr r)) = some (pc', z_trL r lv', st'.map (z_tr r)) := by
  unfold z_tab at h
  split at h
  · rename_i d ts x t
    show (if x.toInt < lo ∨ hi < x.toInt then some (d, z_trL r lv, t.map (z_tr r)) else match ts[(x.toInt - lo).toNat]? with
      | some u => some (u, z_trL r lv, t.map (z_tr r))
      | none => none) = _
    split at h
    · rename_i hc
      cases h
      rw [if_pos hc]
    · rename_i hc
      rw [if_neg hc]
      split at h
      · rename_i u hu
        cases h
        rw [hu]
      · cases h
  · cases h
set_option maxHeartbeats 4000000 in
theorem z_fr_rn {K nW nL : Nat} (hr : ∀ a, a < nW → r a = a) {i : Instr} {aux : List Nat} (hq : z_acq K nW i st st') (h : z_fr K nW nL i len aux pc lv st = some (pc', lv', st')) : z_fr K nW nL i len aux pc (z_trL r lv) (st.map (z_tr r)) = some (pc', z_trL r lv', st'.map (z_tr r)) := by
  cases i
  case if_acmp cd off =>
    refine z_ac_rn hr (fun vy vx t e => ?_) h
    subst e
    exact hq
  case tableswitch d lo hi offs => exact z_tab_rn (pc := pc) (lo := lo) (hi := hi) h
  all_goals first
    | exact z_p0_rn rfl h
    | exact z_ldI_rn h
    | exact z_ldL_rn h
    | exact z_ldA_rn h
    | exact z_sI_rn h
    | exact z_sL_rn h
    | exact z_sA_rn h
    | exact z_inc_rn h
    | exact z_b2_rn h
    | exact z_b2d_rn h
    | exact z_l2_rn h
    | exact z_lc_rn h
    | exact z_uII_rn h
    | exact z_uIL_rn h
    | exact z_uLI_rn h
    | exact z_lsh_rn h
    | exact z_dup_rn h
    | exact z_pop_rn h
    | exact z_dx1_rn h
    | exact z_dx2_rn h
    | exact z_d2_rn h
    | exact z_if_rn h
    | exact z_ic_rn h
    | exact z_goto_rn h
    | exact z_nul_rn h
    | exact z_tab_rn h
    | cases h
end ZRN
section ZRH
variable {K : Nat} {p : Nat → Nat} {H H' : List z_E} {S : z_S} {s s' : Nat} {len pc pc' : Nat} {lv lv' : List (Nat × Value)} {st st' : List Value}
/-- what a step over H gives over S -/
def z_Rs (K : Nat) (p : Nat → Nat) (H' : List z_E) (S : z_S) (F : List (Nat × Value) → List Value → z_S → Option z_U) (lv : List (Nat × Value)) (st : List Value) (pc' : Nat) (lv' : List (Nat × Value)) (st' : List Value) : Prop :=
  ∃ S' : z_S, F (z_trL (z_rr K p) lv) (st.map (z_tr (z_rr K p))) S = some (pc', z_trL (z_rr K p) lv', st'.map (z_tr (z_rr K p)), S') ∧ z_Sim K p H' S' ∧ S'.1.length = S.1.length ∧ S'.2 = S.2
theorem z_gf_rn (hS : z_Sim K p H S) {ci k : Nat} (h : z_gf K ci k len pc lv st (H, s) = some (pc', lv', st', (H', s'))) : z_Rs K p H' S (fun lv st S => z_gf K ci k len pc lv st S) lv st pc' lv' st' := by
  obtain ⟨a, t, fs, v, rfl, h1, h2, rfl, h4, rfl, rfl, rfl, h5⟩ := z_gf_i h
  cases h5
  have h6 := hS.1 _ _ h1
  rw [← z_rr_sub (p := p) h4] at h6
  refine ⟨S, ?_, hS, rfl, rfl⟩
  show z_gf K ci k 3 pc _ (.ref (z_rr K p a) :: t.map (z_tr (z_rr K p))) S = _
  unfold z_gf
  dsimp only
  rw [h6]
  show (match (fs.map (z_tr (z_rr K p)))[k]? with
    | some v => if 3 = 3 ∧ K ≤ z_rr K p a ∧ ci = ci then some (pc + 3, z_trL (z_rr K p) lv', v :: t.map (z_tr (z_rr K p)), S) else none
    | none => none) = _
  rw [List.getElem?_map, h2]
  show (if 3 = 3 ∧ K ≤ z_rr K p a ∧ ci = ci then _ else _) = _
  rw [if_pos ⟨rfl, z_rr_ge h4, rfl⟩]
  rfl
theorem z_pf_rn (hS : z_Sim K p H S) {ci k : Nat} {ty : FieldType} (h : z_pf K ci k ty len pc lv st (H, s) = some (pc', lv', st', (H', s'))) : z_Rs K p H' S (fun lv st S => z_pf K ci k ty len pc lv st S) lv st pc' lv' st' := by
  obtain ⟨v, a, t, fs, rfl, h1, h2, h3, rfl, h4, rfl, rfl, rfl, h5⟩ := z_pf_i h
  cases h5
  have h6 := hS.1 _ _ h1
  have h7 := hS.set h1 (.inr (ci, fs.set k v))
  rw [← z_rr_sub (p := p) h4] at h6 h7
  have h8 : z_fit ty (z_tr (z_rr K p) v) = true := by
    obtain ⟨q1, q2⟩ := z_fit_i (ad := z_rr K p) h3
    unfold z_fit
    rw [q1, q2]
    simp
  refine ⟨_, ?_, h7, List.length_set .., rfl⟩
  show z_pf K ci k ty 3 pc _ (z_tr (z_rr K p) v :: .ref (z_rr K p a) :: st'.map (z_tr (z_rr K p))) S = _
  unfold z_pf
  dsimp only
  rw [h6]
  show (if (3 = 3 ∧ K ≤ z_rr K p a ∧ ci = ci) ∧ k < (fs.map (z_tr (z_rr K p))).length ∧ z_fit ty (z_tr (z_rr K p) v) = true then some (pc + 3, z_trL (z_rr K p) lv', st'.map (z_tr (z_rr K p)), (S.1.set (z_rr K p a - K) (.inr (ci, (fs.map (z_tr (z_rr K p))).set k (z_tr (z_rr K p) v))), S.2)) else none) = _
  rw [if_pos ⟨⟨rfl, z_rr_ge h4, rfl⟩, by rw [List.length_map]; exact h2, h8⟩]
  show _ = some (pc + 3, z_trL (z_rr K p) lv', st'.map (z_tr (z_rr K p)), (S.1.set (z_rr K p a - K) (.inr (ci, (fs.set k v).map (z_tr (z_rr K p)))), S.2))
  rw [List.map_set]
theorem z_ar_rn (hS : z_Sim K p H S) {a : Nat} {x : Nat × Nat × z_C} (h4 : K ≤ a) (h1 : H[a - K]? = some (.inl x)) : z_ar K S (z_rr K p a) = some x := by
  have h6 := hS.1 _ _ h1
  rw [← z_rr_sub (p := p) h4] at h6
  unfold z_ar
  rw [if_pos (z_rr_ge h4), h6]
  rfl
theorem z_ial_rn (hS : z_Sim K p H S) {tyl : List FieldType} {ty : FieldType} (h : z_ial K tyl ty len pc lv st (H, s) = some (pc', lv', st', (H', s'))) : z_Rs K p H' S (fun lv st S => z_ial K tyl ty len pc lv st S) lv st pc' lv' st' := by
  obtain ⟨i, a, q, t, n, f, rfl, ⟨h4, h1⟩, hc, rfl, rfl, rfl, h5⟩ := z_ial_i h
  cases h5
  have h6 := z_ar_rn hS h4 h1
  refine ⟨S, ?_, hS, rfl, rfl⟩
  show z_ial K tyl ty len pc _ (.int i :: .ref (z_rr K p a) :: q.map (z_tr (z_rr K p))) S = _
  unfold z_ial
  dsimp only
  rw [h6]
  dsimp only
  rw [if_pos hc]
  rfl
theorem z_lal_rn (hS : z_Sim K p H S) {tyl : List FieldType} (h : z_lal K tyl len pc lv st (H, s) = some (pc', lv', st', (H', s'))) : z_Rs K p H' S (fun lv st S => z_lal K tyl len pc lv st S) lv st pc' lv' st' := by
  obtain ⟨i, a, q, t, n, f, rfl, ⟨h4, h1⟩, hc, rfl, rfl, rfl, h5⟩ := z_lal_i h
  cases h5
  have h6 := z_ar_rn hS h4 h1
  refine ⟨S, ?_, hS, rfl, rfl⟩
  show z_lal K tyl len pc _ (.int i :: .ref (z_rr K p a) :: q.map (z_tr (z_rr K p))) S = _
  unfold z_lal
  dsimp only
  rw [h6]
  dsimp only
  rw [if_pos hc]
  rfl
theorem z_aal_rn (hS : z_Sim K p H S) {tyl : List FieldType} (hv : ∀ v t, st' = v :: t → z_cv K v) (h : z_aal K tyl len pc lv st (H, s) = some (pc', lv', st', (H', s'))) : z_Rs K p H' S (fun lv st S => z_aal K tyl len pc lv st S) lv st pc' lv' st' := by
  obtain ⟨i, a, q, t, n, f, C, rfl, ⟨h4, h1⟩, hty, hc, rfl, rfl, rfl, h5⟩ := z_aal_i h
  cases h5
  have h6 := z_ar_rn hS h4 h1
  refine ⟨S, ?_, hS, rfl, rfl⟩
  show z_aal K tyl len pc _ (.int i :: .ref (z_rr K p a) :: q.map (z_tr (z_rr K p))) S = some (_, _, z_tr (z_rr K p) (z_oV (z_fn none f i.toNatClampNeg)) :: q.map (z_tr (z_rr K p)), S)
  rw [z_cv_tr (fun _ ha => z_rr_lo ha) (hv _ _ rfl)]
  unfold z_aal
  dsimp only
  rw [h6]
  dsimp only
  rw [hty]
  dsimp only
  rw [if_pos hc]
theorem z_ias_rn (hS : z_Sim K p H S) {tyl : List FieldType} {ty : FieldType} (h : z_ias K tyl ty len pc lv st (H, s) = some (pc', lv', st', (H', s'))) : z_Rs K p H' S (fun lv st S => z_ias K tyl ty len pc lv st S) lv st pc' lv' st' := by
  obtain ⟨x, i, a, q, t, n, f, rfl, ⟨h4, h1⟩, hc, rfl, rfl, rfl, h5⟩ := z_ias_i h
  cases h5
  have h6 := z_ar_rn hS h4 h1
  have h8 := hS.set h1 (.inl (t, n, .inl ((i.toNatClampNeg, z_nar ty x) :: f)))
  rw [← z_rr_sub (p := p) h4] at h8
  refine ⟨_, ?_, h8, List.length_set .., rfl⟩
  show z_ias K tyl ty len pc _ (.int x :: .int i :: .ref (z_rr K p a) :: st'.map (z_tr (z_rr K p))) S = _
  unfold z_ias
  dsimp only
  rw [h6]
  dsimp only
  rw [if_pos hc]
  rfl
theorem z_las_rn (hS : z_Sim K p H S) {tyl : List FieldType} (h : z_las K tyl len pc lv st (H, s) = some (pc', lv', st', (H', s'))) : z_Rs K p H' S (fun lv st S => z_las K tyl len pc lv st S) lv st pc' lv' st' := by
  obtain ⟨x, i, a, q, t, n, f, rfl, ⟨h4, h1⟩, hc, rfl, rfl, rfl, h5⟩ := z_las_i h
  cases h5
  have h6 := z_ar_rn hS h4 h1
  have h8 := hS.set h1 (.inl (t, n, .inr (.inl ((i.toNatClampNeg, x) :: f))))
  rw [← z_rr_sub (p := p) h4] at h8
  refine ⟨_, ?_, h8, List.length_set .., rfl⟩
  show z_las K tyl len pc _ (.long x :: .int i :: .ref (z_rr K p a) :: st'.map (z_tr (z_rr K p))) S = _
  unfold z_las
  dsimp only
  rw [h6]
  dsimp only
  rw [if_pos hc]
  rfl
theorem z_aas_rn (hS : z_Sim K p H S) {nW tW : Nat} {tyl : List FieldType} (hW : nW ≤ K) (h : z_aas K nW tyl tW len pc lv st (H, s) = some (pc', lv', st', (H', s'))) : z_Rs K p H' S (fun lv st S => z_aas K nW tyl tW len pc lv st S) lv st pc' lv' st' := by
  unfold z_aas at h
  split at h
  · rename_i v i a q
    split at h
    · rename_i t n f har
      split at h
      · rename_i hc
        obtain ⟨h4, h1⟩ := z_ar_i har
        cases h
        have h6 := z_ar_rn hS h4 h1
        have h8 := hS.set h1 (.inl (t, n, .inr (.inr ((i.toNatClampNeg, some v) :: f))))
        rw [← z_rr_sub (p := p) h4] at h8
        refine ⟨_, ?_, h8, List.length_set .., rfl⟩
        have hv : z_rr K p v = v := z_rr_lo (Nat.lt_of_lt_of_le hc.1.2.2 hW)
        show z_aas K nW tyl tW len pc _ (.ref (z_rr K p v) :: .int i :: .ref (z_rr K p a) :: st'.map (z_tr (z_rr K p))) S = _
        rw [hv]
        unfold z_aas
        dsimp only
        rw [h6]
        dsimp only
        rw [if_pos hc]
        rfl
      · cases h
    · cases h
  · cases h
theorem z_aln_rn (hS : z_Sim K p H S) {tyl : List FieldType} (h : z_aln K tyl len pc lv st (H, s) = some (pc', lv', st', (H', s'))) : z_Rs K p H' S (fun lv st S => z_aln K tyl len pc lv st S) lv st pc' lv' st' := by
  obtain ⟨a, q, x, rfl, ⟨h4, h1⟩, hc, rfl, rfl, rfl, h5⟩ := z_aln_i h
  cases h5
  have h6 := z_ar_rn hS h4 h1
  refine ⟨S, ?_, hS, rfl, rfl⟩
  show z_aln K tyl len pc _ (.ref (z_rr K p a) :: q.map (z_tr (z_rr K p))) S = _
  unfold z_aln
  dsimp only
  rw [h6]
  dsimp only
  rw [if_pos hc]
  rfl
end ZRH
