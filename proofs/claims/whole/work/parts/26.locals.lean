/-! Locals: their order does not matter, and more of them do no harm. -/
def z_le (lv lv2 : List (Nat × Value)) : Prop := (lv.map (·.1)).Nodup ∧ ∀ k u, z_lk lv k = some u → z_lk lv2 k = some u
theorem z_lk_in {k : Nat} {u : Value} : ∀ {lv : List (Nat × Value)}, (lv.map (·.1)).Nodup → (k, u) ∈ lv → z_lk lv k = some u := by
  intro lv
  induction lv with
  | nil => intro _ h; cases h
  | cons q t ih =>
    intro hn h
    rw [List.map_cons, List.nodup_cons] at hn
    unfold z_lk
    rcases List.mem_cons.mp h with rfl | h
    · rw [if_pos rfl]
    · rw [if_neg, ih hn.2 h]
      intro e
      exact hn.1 (List.mem_map.mpr ⟨(k, u), h, e.symm⟩)
theorem z_lk_fl {P : Nat × Value → Bool} {k : Nat} {u : Value} (hP : P (k, u) = true) : ∀ {lv : List (Nat × Value)}, z_lk lv k = some u → z_lk (lv.filter P) k = some u := by
  intro lv
  induction lv with
  | nil => intro h; exact h
  | cons q t ih =>
    intro h
    unfold z_lk at h
    by_cases hq : q.1 = k
    · rw [if_pos hq] at h
      have hqe : q = (k, u) := by
        obtain ⟨a, b⟩ := q
        cases h
        cases hq
        rfl
      rw [hqe, List.filter_cons, if_pos hP]
      unfold z_lk
      rw [if_pos rfl]
    · rw [if_neg hq] at h
      rw [List.filter_cons]
      split
      · unfold z_lk
        rw [if_neg hq]
        exact ih h
      · exact ih h
theorem z_le_st {lv lv2 : List (Nat × Value)} (h : z_le lv lv2) {P : Nat × Value → Bool} {i : Nat} {v : Value} (hP : ∀ q : Nat × Value, q.1 = i → P q = false) : z_le ((i, v) :: lv.filter P) ((i, v) :: lv2.filter P) := by
  obtain ⟨h1, h2⟩ := h
  have hnd : (((i, v) :: lv.filter P).map (·.1)).Nodup := by
    rw [List.map_cons, List.nodup_cons]
    constructor
    · intro hm
      obtain ⟨q, hq, e⟩ := List.mem_map.mp hm
      have := (List.mem_filter.mp hq).2
      rw [hP q e] at this
      cases this
    · exact List.Nodup.sublist (List.Sublist.map _ List.filter_sublist) h1
  refine ⟨hnd, fun k u hk => ?_⟩
  unfold z_lk at hk ⊢
  by_cases hi : i = k
  · rw [if_pos hi] at hk ⊢
    exact hk
  · rw [if_neg hi] at hk ⊢
    have hm := List.mem_filter.mp (z_lk_mem hk)
    exact z_lk_fl hm.2 (h2 k u (z_lk_in h1 hm.1))
theorem z_le_st1 {lv lv2 : List (Nat × Value)} (h : z_le lv lv2) (i : Nat) (v : Value) : z_le (z_st1 lv i v) (z_st1 lv2 i v) := z_le_st h (fun q e => by simp [e])
theorem z_le_st2 {lv lv2 : List (Nat × Value)} (h : z_le lv lv2) (i : Nat) (v : Value) : z_le (z_st2 lv i v) (z_st2 lv2 i v) := z_le_st h (fun q e => by simp [e])
section ZLV
variable {len pc pc' : Nat} {lv lv' lv2 : List (Nat × Value)} {st st' : List Value} {S S' : z_S}
/-- a step with more locals -/
def z_Rv (F : List (Nat × Value) → Option z_T) (lv2 : List (Nat × Value)) (pc' : Nat) (lv' : List (Nat × Value)) (st' : List Value) : Prop := ∃ lv2', F lv2 = some (pc', lv2', st') ∧ z_le lv' lv2'
theorem z_ldI_lv {n k : Nat} (hl : z_le lv lv2) (h : z_ldI n k len pc lv st = some (pc', lv', st')) : z_Rv (fun lv => z_ldI n k len pc lv st) lv2 pc' lv' st' := by
  obtain ⟨x, h1, rfl, rfl, rfl, rfl⟩ := z_ldI_i h
  refine ⟨lv2, ?_, hl⟩
  dsimp only
  unfold z_ldI
  rw [hl.2 _ _ h1]
  show (if _ then _ else _) = _
  rw [if_pos rfl]
theorem z_ldL_lv {n k : Nat} (hl : z_le lv lv2) (h : z_ldL n k len pc lv st = some (pc', lv', st')) : z_Rv (fun lv => z_ldL n k len pc lv st) lv2 pc' lv' st' := by
  obtain ⟨x, h1, rfl, rfl, rfl, rfl⟩ := z_ldL_i h
  refine ⟨lv2, ?_, hl⟩
  dsimp only
  unfold z_ldL
  rw [hl.2 _ _ h1]
  show (if _ then _ else _) = _
  rw [if_pos rfl]
theorem z_ldA_lv {n k : Nat} (hl : z_le lv lv2) (h : z_ldA n k len pc lv st = some (pc', lv', st')) : z_Rv (fun lv => z_ldA n k len pc lv st) lv2 pc' lv' st' := by
  rcases z_ldA_i h with ⟨x, h1, rfl, rfl, rfl, rfl⟩ | ⟨h1, rfl, rfl, rfl, rfl⟩
  · refine ⟨lv2, ?_, hl⟩
    dsimp only
    unfold z_ldA
    rw [hl.2 _ _ h1]
    show (if _ then _ else _) = _
    rw [if_pos rfl]
  · refine ⟨lv2, ?_, hl⟩
    dsimp only
    unfold z_ldA
    rw [hl.2 _ _ h1]
    show (if _ then _ else _) = _
    rw [if_pos rfl]
theorem z_sI_lv {nL n k : Nat} (hl : z_le lv lv2) (h : z_sI nL n k len pc lv st = some (pc', lv', st')) : z_Rv (fun lv => z_sI nL n k len pc lv st) lv2 pc' lv' st' := by
  obtain ⟨x, t, rfl, rfl, h1, rfl, rfl, rfl⟩ := z_sI_i h
  refine ⟨_, ?_, z_le_st1 hl k (.int x)⟩
  show (if _ then _ else _) = _
  rw [if_pos ⟨rfl, h1⟩]
theorem z_sL_lv {nL n k : Nat} (hl : z_le lv lv2) (h : z_sL nL n k len pc lv st = some (pc', lv', st')) : z_Rv (fun lv => z_sL nL n k len pc lv st) lv2 pc' lv' st' := by
  obtain ⟨x, t, rfl, rfl, h1, rfl, rfl, rfl⟩ := z_sL_i h
  refine ⟨_, ?_, z_le_st2 hl k (.long x)⟩
  show (if _ then _ else _) = _
  rw [if_pos ⟨rfl, h1⟩]
theorem z_sA_lv {nL n k : Nat} (hl : z_le lv lv2) (h : z_sA nL n k len pc lv st = some (pc', lv', st')) : z_Rv (fun lv => z_sA nL n k len pc lv st) lv2 pc' lv' st' := by
  rcases z_sA_i h with ⟨x, t, rfl, rfl, h1, rfl, rfl, rfl⟩ | ⟨t, rfl, rfl, h1, rfl, rfl, rfl⟩
  · refine ⟨_, ?_, z_le_st1 hl k (.ref x)⟩
    show (if _ then _ else _) = _
    rw [if_pos ⟨rfl, h1⟩]
  · refine ⟨_, ?_, z_le_st1 hl k .null⟩
    show (if _ then _ else _) = _
    rw [if_pos ⟨rfl, h1⟩]
theorem z_inc_lv {nL k : Nat} {n : Int} (hl : z_le lv lv2) (h : z_inc nL k n len pc lv st = some (pc', lv', st')) : z_Rv (fun lv => z_inc nL k n len pc lv st) lv2 pc' lv' st' := by
  obtain ⟨x, h1, rfl, h2, rfl, rfl, rfl⟩ := z_inc_i h
  refine ⟨_, ?_, z_le_st1 hl k _⟩
  dsimp only
  unfold z_inc
  rw [hl.2 _ _ h1]
  show (if _ then _ else _) = _
  rw [if_pos ⟨rfl, h2⟩]
theorem z_p0_lv {n : Nat} {v : Value} (hl : z_le lv lv2) (h : z_p0 n len pc lv st v = some (pc', lv', st')) : z_Rv (fun lv => z_p0 n len pc lv st v) lv2 pc' lv' st' := by
  obtain ⟨rfl, rfl, rfl, rfl⟩ := z_p0_i h
  exact ⟨lv2, if_pos rfl, hl⟩
theorem z_b2_lv {f : Int32 → Int32 → Int32} (hl : z_le lv lv2) (h : z_b2 f len pc lv st = some (pc', lv', st')) : z_Rv (fun lv => z_b2 f len pc lv st) lv2 pc' lv' st' := by
  obtain ⟨x, y, t, rfl, rfl, rfl, rfl, rfl⟩ := z_b2_i h
  exact ⟨lv2, rfl, hl⟩
theorem z_l2_lv {f : Int64 → Int64 → Int64} (hl : z_le lv lv2) (h : z_l2 f len pc lv st = some (pc', lv', st')) : z_Rv (fun lv => z_l2 f len pc lv st) lv2 pc' lv' st' := by
  obtain ⟨x, y, t, rfl, rfl, rfl, rfl, rfl⟩ := z_l2_i h
  exact ⟨lv2, rfl, hl⟩
theorem z_lc_lv {f : Int64 → Int64 → Int32} (hl : z_le lv lv2) (h : z_lc f len pc lv st = some (pc', lv', st')) : z_Rv (fun lv => z_lc f len pc lv st) lv2 pc' lv' st' := by
  obtain ⟨x, y, t, rfl, rfl, rfl, rfl, rfl⟩ := z_lc_i h
  exact ⟨lv2, rfl, hl⟩
theorem z_uII_lv {f : Int32 → Int32} (hl : z_le lv lv2) (h : z_uII f len pc lv st = some (pc', lv', st')) : z_Rv (fun lv => z_uII f len pc lv st) lv2 pc' lv' st' := by
  obtain ⟨x, t, rfl, rfl, rfl, rfl, rfl⟩ := z_uII_i h
  exact ⟨lv2, rfl, hl⟩
theorem z_uIL_lv {f : Int32 → Int64} (hl : z_le lv lv2) (h : z_uIL f len pc lv st = some (pc', lv', st')) : z_Rv (fun lv => z_uIL f len pc lv st) lv2 pc' lv' st' := by
  obtain ⟨x, t, rfl, rfl, rfl, rfl, rfl⟩ := z_uIL_i h
  exact ⟨lv2, rfl, hl⟩
theorem z_uLI_lv {f : Int64 → Int32} (hl : z_le lv lv2) (h : z_uLI f len pc lv st = some (pc', lv', st')) : z_Rv (fun lv => z_uLI f len pc lv st) lv2 pc' lv' st' := by
  obtain ⟨x, t, rfl, rfl, rfl, rfl, rfl⟩ := z_uLI_i h
  exact ⟨lv2, rfl, hl⟩
theorem z_lsh_lv {f : Int64 → Int32 → Int64} (hl : z_le lv lv2) (h : z_lsh f len pc lv st = some (pc', lv', st')) : z_Rv (fun lv => z_lsh f len pc lv st) lv2 pc' lv' st' := by
  obtain ⟨x, y, t, rfl, rfl, rfl, rfl, rfl⟩ := z_lsh_i h
  exact ⟨lv2, rfl, hl⟩
theorem z_b2d_lv {f : Int32 → Int32 → Int32} (hl : z_le lv lv2) (h : z_b2d f len pc lv st = some (pc', lv', st')) : z_Rv (fun lv => z_b2d f len pc lv st) lv2 pc' lv' st' := by
  obtain ⟨x, y, t, rfl, hc, rfl, rfl, rfl⟩ := z_b2d_i h
  exact ⟨lv2, if_pos hc, hl⟩
theorem z_dup_lv  (hl : z_le lv lv2) (h : z_dup len pc lv st = some (pc', lv', st')) : z_Rv (fun lv => z_dup len pc lv st) lv2 pc' lv' st' := by
  obtain ⟨a, t, rfl, hc, rfl, rfl, rfl⟩ := z_dup_i h
  exact ⟨lv2, if_pos hc, hl⟩
theorem z_pop_lv  (hl : z_le lv lv2) (h : z_pop len pc lv st = some (pc', lv', st')) : z_Rv (fun lv => z_pop len pc lv st) lv2 pc' lv' st' := by
  obtain ⟨a, t, rfl, hc, rfl, rfl, rfl⟩ := z_pop_i h
  exact ⟨lv2, if_pos hc, hl⟩
theorem z_dx1_lv  (hl : z_le lv lv2) (h : z_dx1 len pc lv st = some (pc', lv', st')) : z_Rv (fun lv => z_dx1 len pc lv st) lv2 pc' lv' st' := by
  obtain ⟨a, b, t, rfl, hc, rfl, rfl, rfl⟩ := z_dx1_i h
  exact ⟨lv2, if_pos hc, hl⟩
theorem z_dx2_lv  (hl : z_le lv lv2) (h : z_dx2 len pc lv st = some (pc', lv', st')) : z_Rv (fun lv => z_dx2 len pc lv st) lv2 pc' lv' st' := by
  obtain ⟨a, b, d, t, rfl, hc, rfl, rfl, rfl⟩ := z_dx2_i h
  exact ⟨lv2, if_pos hc, hl⟩
theorem z_d2_lv  (hl : z_le lv lv2) (h : z_d2 len pc lv st = some (pc', lv', st')) : z_Rv (fun lv => z_d2 len pc lv st) lv2 pc' lv' st' := by
  obtain ⟨a, b, t, rfl, hc, rfl, rfl, rfl⟩ := z_d2_i h
  exact ⟨lv2, if_pos hc, hl⟩
theorem z_if_lv {f : Int32 → Bool} {aux : List Nat} (hl : z_le lv lv2) (h : z_if f aux len pc lv st = some (pc', lv', st')) : z_Rv (fun lv => z_if f aux len pc lv st) lv2 pc' lv' st' := by
  obtain ⟨t, x, q, rfl, rfl, rfl, rfl, rfl, rfl⟩ := z_if_i h
  exact ⟨lv2, rfl, hl⟩
theorem z_ic_lv {f : Int32 → Int32 → Bool} {aux : List Nat} (hl : z_le lv lv2) (h : z_ic f aux len pc lv st = some (pc', lv', st')) : z_Rv (fun lv => z_ic f aux len pc lv st) lv2 pc' lv' st' := by
  obtain ⟨t, x, y, q, rfl, rfl, rfl, rfl, rfl, rfl⟩ := z_ic_i h
  exact ⟨lv2, rfl, hl⟩
theorem z_ac_lv {K nW : Nat} {eq : Bool} {aux : List Nat} (hl : z_le lv lv2) (h : z_ac K nW eq aux len pc lv st = some (pc', lv', st')) : z_Rv (fun lv => z_ac K nW eq aux len pc lv st) lv2 pc' lv' st' := by
  obtain ⟨t, vx, vy, rx, ry, q, rfl, rfl, h1, h2, hc, rfl, rfl, rfl⟩ := z_ac_i h
  refine ⟨lv2, ?_, hl⟩
  dsimp only
  unfold z_ac
  dsimp only
  rw [h1, h2]
  dsimp only
  rw [if_pos hc]
theorem z_goto_lv {aux : List Nat} (hl : z_le lv lv2) (h : z_goto aux len lv st = some (pc', lv', st')) : z_Rv (fun lv => z_goto aux len lv st) lv2 pc' lv' st' := by
  obtain ⟨t, rfl, rfl, rfl, rfl, rfl⟩ := z_goto_i h
  exact ⟨lv2, rfl, hl⟩
theorem z_nul_lv {isn : Bool} {aux : List Nat} (hl : z_le lv lv2) (h : z_nul isn aux len pc lv st = some (pc', lv', st')) : z_Rv (fun lv => z_nul isn aux len pc lv st) lv2 pc' lv' st' := by
  unfold z_nul at h
  split at h
  · split at h
    · rename_i hc
      cases h
      exact ⟨lv2, if_pos hc, hl⟩
    · cases h
  · split at h
    · rename_i hc
      cases h
      exact ⟨lv2, if_pos hc, hl⟩
    · cases h
  · cases h
theorem z_tab_lv {lo hi : Int} {aux : List Nat} (hl : z_le lv lv2) (h : z_tab lo hi aux pc lv st = some (pc', lv', st')) : z_Rv (fun lv => z_tab lo hi aux pc lv st) lv2 pc' lv' st' := by
  unfold z_tab at h
  split at h
  · rename_i d ts x t
    split at h
    · rename_i hc
      cases h
      exact ⟨lv2, if_pos hc, hl⟩
    · rename_i hc
      split at h
      · rename_i u hu
        cases h
        refine ⟨lv2, ?_, hl⟩
        dsimp only
        unfold z_tab
        dsimp only
        rw [if_neg hc, hu]
      · cases h
  · cases h
set_option maxHeartbeats 4000000 in
theorem z_fr_lv {K nW nL : Nat} {i : Instr} {aux : List Nat} (hl : z_le lv lv2) (h : z_fr K nW nL i len aux pc lv st = some (pc', lv', st')) : z_Rv (fun lv => z_fr K nW nL i len aux pc lv st) lv2 pc' lv' st' := by
  cases i
  case tableswitch d lo hi offs => exact z_tab_lv (pc := pc) (lo := lo) (hi := hi) hl h
  all_goals first
    | exact z_p0_lv hl h
    | exact z_ldI_lv hl h
    | exact z_ldL_lv hl h
    | exact z_ldA_lv hl h
    | exact z_sI_lv hl h
    | exact z_sL_lv hl h
    | exact z_sA_lv hl h
    | exact z_inc_lv hl h
    | exact z_b2_lv hl h
    | exact z_b2d_lv hl h
    | exact z_l2_lv hl h
    | exact z_lc_lv hl h
    | exact z_uII_lv hl h
    | exact z_uIL_lv hl h
    | exact z_uLI_lv hl h
    | exact z_lsh_lv hl h
    | exact z_dup_lv hl h
    | exact z_pop_lv hl h
    | exact z_dx1_lv hl h
    | exact z_dx2_lv hl h
    | exact z_d2_lv hl h
    | exact z_if_lv hl h
    | exact z_ic_lv hl h
    | exact z_ac_lv hl h
    | exact z_goto_lv hl h
    | exact z_nul_lv hl h
    | exact z_tab_lv hl h
    | cases h
/-- a step over the heap with other locals -/
def z_Hv (F : List (Nat × Value) → Option z_U) (lv lv2 : List (Nat × Value)) (pc' : Nat) (lv' : List (Nat × Value)) (st' : List Value) (S' : z_S) : Prop := lv' = lv ∧ F lv2 = some (pc', lv2, st', S')

theorem z_ar_of {K : Nat} {a : Nat} {x : Nat × Nat × z_C} (h4 : K ≤ a) (h1 : S.1[a - K]? = some (.inl x)) : z_ar K S a = some x := by
  unfold z_ar
  rw [if_pos h4, h1]
theorem z_gf_lv {K ci k : Nat} (lv2 : List (Nat × Value)) (h : z_gf K ci k len pc lv st S = some (pc', lv', st', S')) : z_Hv (fun lv => z_gf K ci k len pc lv st S) lv lv2 pc' lv' st' S' := by
  obtain ⟨a, t, fs, v, rfl, h1, h2, rfl, h4, rfl, rfl, rfl, rfl⟩ := z_gf_i h
  refine ⟨rfl, ?_⟩
  dsimp only
  unfold z_gf
  dsimp only
  rw [h1]
  dsimp only
  rw [h2]
  dsimp only
  rw [if_pos ⟨rfl, h4, rfl⟩]
theorem z_pf_lv {K ci k : Nat} {ty : FieldType} (lv2 : List (Nat × Value)) (h : z_pf K ci k ty len pc lv st S = some (pc', lv', st', S')) : z_Hv (fun lv => z_pf K ci k ty len pc lv st S) lv lv2 pc' lv' st' S' := by
  obtain ⟨v, a, t, fs, rfl, h1, h2, h3, rfl, h4, rfl, rfl, rfl, rfl⟩ := z_pf_i h
  refine ⟨rfl, ?_⟩
  dsimp only
  unfold z_pf
  dsimp only
  rw [h1]
  dsimp only
  rw [if_pos ⟨⟨rfl, h4, rfl⟩, h2, h3⟩]
theorem z_ial_lv {K : Nat} {tyl : List FieldType} {ty : FieldType} (lv2 : List (Nat × Value)) (h : z_ial K tyl ty len pc lv st S = some (pc', lv', st', S')) : z_Hv (fun lv => z_ial K tyl ty len pc lv st S) lv lv2 pc' lv' st' S' := by
  obtain ⟨i, a, q, t, n, f, rfl, ⟨h4, h1⟩, hc, rfl, rfl, rfl, rfl⟩ := z_ial_i h
  refine ⟨rfl, ?_⟩
  dsimp only
  unfold z_ial
  dsimp only
  rw [z_ar_of h4 h1]
  dsimp only
  rw [if_pos hc]
theorem z_lal_lv {K : Nat} {tyl : List FieldType} (lv2 : List (Nat × Value)) (h : z_lal K tyl len pc lv st S = some (pc', lv', st', S')) : z_Hv (fun lv => z_lal K tyl len pc lv st S) lv lv2 pc' lv' st' S' := by
  obtain ⟨i, a, q, t, n, f, rfl, ⟨h4, h1⟩, hc, rfl, rfl, rfl, rfl⟩ := z_lal_i h
  refine ⟨rfl, ?_⟩
  dsimp only
  unfold z_lal
  dsimp only
  rw [z_ar_of h4 h1]
  dsimp only
  rw [if_pos hc]
theorem z_aal_lv {K : Nat} {tyl : List FieldType} (lv2 : List (Nat × Value)) (h : z_aal K tyl len pc lv st S = some (pc', lv', st', S')) : z_Hv (fun lv => z_aal K tyl len pc lv st S) lv lv2 pc' lv' st' S' := by
  obtain ⟨i, a, q, t, n, f, C, rfl, ⟨h4, h1⟩, hty, hc, rfl, rfl, rfl, rfl⟩ := z_aal_i h
  refine ⟨rfl, ?_⟩
  dsimp only
  unfold z_aal
  dsimp only
  rw [z_ar_of h4 h1]
  dsimp only
  rw [hty]
  dsimp only
  rw [if_pos hc]
theorem z_ias_lv {K : Nat} {tyl : List FieldType} {ty : FieldType} (lv2 : List (Nat × Value)) (h : z_ias K tyl ty len pc lv st S = some (pc', lv', st', S')) : z_Hv (fun lv => z_ias K tyl ty len pc lv st S) lv lv2 pc' lv' st' S' := by
  obtain ⟨x, i, a, q, t, n, f, rfl, ⟨h4, h1⟩, hc, rfl, rfl, rfl, rfl⟩ := z_ias_i h
  refine ⟨rfl, ?_⟩
  dsimp only
  unfold z_ias
  dsimp only
  rw [z_ar_of h4 h1]
  dsimp only
  rw [if_pos hc]
theorem z_las_lv {K : Nat} {tyl : List FieldType} (lv2 : List (Nat × Value)) (h : z_las K tyl len pc lv st S = some (pc', lv', st', S')) : z_Hv (fun lv => z_las K tyl len pc lv st S) lv lv2 pc' lv' st' S' := by
  obtain ⟨x, i, a, q, t, n, f, rfl, ⟨h4, h1⟩, hc, rfl, rfl, rfl, rfl⟩ := z_las_i h
  refine ⟨rfl, ?_⟩
  dsimp only
  unfold z_las
  dsimp only
  rw [z_ar_of h4 h1]
  dsimp only
  rw [if_pos hc]
theorem z_aln_lv {K : Nat} {tyl : List FieldType} (lv2 : List (Nat × Value)) (h : z_aln K tyl len pc lv st S = some (pc', lv', st', S')) : z_Hv (fun lv => z_aln K tyl len pc lv st S) lv lv2 pc' lv' st' S' := by
  obtain ⟨a, q, x, rfl, ⟨h4, h1⟩, hc, rfl, rfl, rfl, rfl⟩ := z_aln_i h
  refine ⟨rfl, ?_⟩
  dsimp only
  unfold z_aln
  dsimp only
  rw [z_ar_of h4 h1]
  dsimp only
  rw [if_pos hc]
theorem z_nw_lv {K cm sm ci N : Nat} {fty : Nat → FieldType} (lv2 : List (Nat × Value)) (h : z_nw K cm sm ci N fty len pc lv st S = some (pc', lv', st', S')) : z_Hv (fun lv => z_nw K cm sm ci N fty len pc lv st S) lv lv2 pc' lv' st' S' := by
  obtain ⟨hc, rfl, rfl, rfl, rfl⟩ := z_nw_i h
  refine ⟨rfl, ?_⟩
  dsimp only
  unfold z_nw
  rw [if_pos hc]
theorem z_na_lv {K cm sm t : Nat} {ty : FieldType} (lv2 : List (Nat × Value)) (h : z_na K cm sm t ty len pc lv st S = some (pc', lv', st', S')) : z_Hv (fun lv => z_na K cm sm t ty len pc lv st S) lv lv2 pc' lv' st' S' := by
  obtain ⟨n, q, a, rfl, h1, hc, rfl, rfl, rfl, rfl⟩ := z_na_i h
  refine ⟨rfl, ?_⟩
  dsimp only
  unfold z_na
  dsimp only
  rw [h1]
  dsimp only
  rw [if_pos hc]
theorem z_nq_lv {K cm sm t : Nat} (lv2 : List (Nat × Value)) (h : z_nq K cm sm t len pc lv st S = some (pc', lv', st', S')) : z_Hv (fun lv => z_nq K cm sm t len pc lv st S) lv lv2 pc' lv' st' S' := by
  obtain ⟨n, q, rfl, hc, rfl, rfl, rfl, rfl⟩ := z_nq_i h
  refine ⟨rfl, ?_⟩
  dsimp only
  unfold z_nq
  dsimp only
  rw [if_pos hc]
theorem z_ialF_lv {K : Nat} {fi : Nat → Option (Nat × (Nat → Int32))} (lv2 : List (Nat × Value)) (h : z_ialF K fi len pc lv st S = some (pc', lv', st', S')) : z_Hv (fun lv => z_ialF K fi len pc lv st S) lv lv2 pc' lv' st' S' := by
  unfold z_ialF at h
  split at h
  · split at h
    · rename_i q hq
      split at h
      · rename_i hc
        cases h
        refine ⟨rfl, ?_⟩
        dsimp only
        unfold z_ialF
        dsimp only
        rw [hq]
        dsimp only
        rw [if_pos hc]
      · cases h
    · cases h
  · cases h
theorem z_alnF_lv {K : Nat} {fi : Nat → Option (Nat × (Nat → Int32))} (lv2 : List (Nat × Value)) (h : z_alnF K fi len pc lv st S = some (pc', lv', st', S')) : z_Hv (fun lv => z_alnF K fi len pc lv st S) lv lv2 pc' lv' st' S' := by
  unfold z_alnF at h
  split at h
  · split at h
    · rename_i q hq
      split at h
      · rename_i hc
        cases h
        refine ⟨rfl, ?_⟩
        dsimp only
        unfold z_alnF
        dsimp only
        rw [hq]
        dsimp only
        rw [if_pos hc]
      · cases h
    · cases h
  · cases h
theorem z_aas_lv {K nW : Nat} {tyl : List FieldType} {tW : Nat} (lv2 : List (Nat × Value)) (h : z_aas K nW tyl tW len pc lv st S = some (pc', lv', st', S')) : z_Hv (fun lv => z_aas K nW tyl tW len pc lv st S) lv lv2 pc' lv' st' S' := by
  unfold z_aas at h
  split at h
  · split at h
    · rename_i t n f har
      split at h
      · rename_i hc
        cases h
        refine ⟨rfl, ?_⟩
        dsimp only
        unfold z_aas
        dsimp only
        rw [har]
        dsimp only
        rw [if_pos hc]
      · cases h
    · cases h
  · cases h
theorem z_or_lv {F1 F2 : List (Nat × Value) → Option z_U} (h1 : ∀ {pc' lv' st' S'}, F1 lv = some (pc', lv', st', S') → z_Hv F1 lv lv2 pc' lv' st' S') (h1' : ∀ {pc' lv' st' S'}, F1 lv2 = some (pc', lv', st', S') → z_Hv F1 lv2 lv pc' lv' st' S') (h2 : ∀ {pc' lv' st' S'}, F2 lv = some (pc', lv', st', S') → z_Hv F2 lv lv2 pc' lv' st' S') (h : z_or (F1 lv) (F2 lv) = some (pc', lv', st', S')) : z_Hv (fun lv => z_or (F1 lv) (F2 lv)) lv lv2 pc' lv' st' S' := by
  cases hx : F1 lv with
  | some u =>
    rw [hx] at h
    have h : some u = some (pc', lv', st', S') := h
    cases h
    obtain ⟨e, e2⟩ := h1 hx
    exact ⟨e, z_or_l e2⟩
  | none =>
    rw [hx] at h
    have h : F2 lv = some (pc', lv', st', S') := h
    obtain ⟨e, e2⟩ := h2 h
    refine ⟨e, z_or_r ?_ e2⟩
    cases hy : F1 lv2 with
    | none => rfl
    | some u =>
      obtain ⟨a, b, c, d⟩ := u
      have := (h1' hy).2
      rw [hx] at this
      cases this
theorem z_Hv.sv {F : List (Nat × Value) → Option z_U} (hl : z_le lv lv2) (h : z_Hv F lv lv2 pc' lv' st' S') : ∃ lv2', F lv2 = some (pc', lv2', st', S') ∧ z_le lv' lv2' := by
  obtain ⟨rfl, h2⟩ := h
  exact ⟨lv2, h2, hl⟩
theorem z_mp_lv {F : List (Nat × Value) → Option z_T} (hF : ∀ {pc' lv' st'}, F lv = some (pc', lv', st') → z_Rv F lv2 pc' lv' st') (h : (F lv).map (fun q => (q.1, q.2.1, q.2.2, S)) = some (pc', lv', st', S')) : ∃ lv2', (F lv2).map (fun q => (q.1, q.2.1, q.2.2, S)) = some (pc', lv2', st', S') ∧ z_le lv' lv2' := by
  obtain ⟨h1, rfl⟩ := z_map_i h
  obtain ⟨l2, e1, e2⟩ := hF h1
  refine ⟨l2, ?_, e2⟩
  rw [e1]
  rfl
set_option maxHeartbeats 4000000 in
theorem z_step_lv {G : z_G} {nL : Nat} {i : Instr} {aux : List Nat} (hl : z_le lv lv2) (h : z_step G nL i len aux pc lv st S = some (pc', lv', st', S')) : ∃ lv2', z_step G nL i len aux pc lv2 st S = some (pc', lv2', st', S') ∧ z_le lv' lv2' := by
  cases i
  case getfield idx =>
    simp only [z_step] at h
    split at h
    · exact (z_gf_lv lv2 h).sv hl
    · cases h
  case putfield idx =>
    simp only [z_step] at h
    split at h
    · exact (z_pf_lv lv2 h).sv hl
    · cases h
  case new idx =>
    simp only [z_step] at h
    split at h
    · exact (z_nw_lv lv2 h).sv hl
    · cases h
  case newarray t =>
    simp only [z_step] at h
    split at h
    · split at h
      · rename_i ty hty
        obtain ⟨l2, e1, e2⟩ := (z_na_lv lv2 h).sv hl
        refine ⟨l2, ?_, e2⟩
        show (match G.2.1.1[_]? with
          | some ty => z_na G.1.1 G.1.2.2.1 G.1.2.2.2 _ ty len pc lv2 st S
          | none => none) = _
        rw [hty]
        exact e1
      · cases h
    · cases h
  case anewarray idx =>
    simp only [z_step] at h
    split at h
    · exact (z_nq_lv lv2 h).sv hl
    · cases h
  case iaload => exact (z_or_lv (F1 := fun lv => z_ial G.1.1 G.2.1.1 .int len pc lv st S) (F2 := fun lv => z_ialF G.1.1 G.2.2.2.1 len pc lv st S) (fun h => z_ial_lv lv2 h) (fun h => z_ial_lv lv h) (fun h => z_ialF_lv lv2 h) h).sv hl
  case baload => exact (z_or_lv (F1 := fun lv => z_ial G.1.1 G.2.1.1 .byte len pc lv st S) (F2 := fun lv => z_ial G.1.1 G.2.1.1 .boolean len pc lv st S) (fun h => z_ial_lv lv2 h) (fun h => z_ial_lv lv h) (fun h => z_ial_lv lv2 h) h).sv hl
  case arraylength => exact (z_or_lv (F1 := fun lv => z_aln G.1.1 G.2.1.1 len pc lv st S) (F2 := fun lv => z_alnF G.1.1 G.2.2.2.1 len pc lv st S) (fun h => z_aln_lv lv2 h) (fun h => z_aln_lv lv h) (fun h => z_alnF_lv lv2 h) h).sv hl
  case laload => exact (z_lal_lv lv2 h).sv hl
  case aaload => exact (z_aal_lv lv2 h).sv hl
  case iastore => exact (z_ias_lv lv2 h).sv hl
  case bastore => exact (z_or_lv (F1 := fun lv => z_ias G.1.1 G.2.1.1 .byte len pc lv st S) (F2 := fun lv => z_ias G.1.1 G.2.1.1 .boolean len pc lv st S) (fun h => z_ias_lv lv2 h) (fun h => z_ias_lv lv h) (fun h => z_ias_lv lv2 h) h).sv hl
  case lastore => exact (z_las_lv lv2 h).sv hl
  case aastore => exact (z_aas_lv (tyl := G.2.1.1) lv2 h).sv hl
  case getstatic idx =>
    cases aux with
    | nil => cases h
    | cons j u =>
      cases u with
      | nil => cases h
      | cons x u =>
        cases u with
        | cons y u => cases h
        | nil =>
          have h : (match G.2.2.2.2.1 j with
            | some v => (z_p0 3 len pc lv st v).map (fun q => (q.1, q.2.1, q.2.2, S))
            | none => none) = some (pc', lv', st', S') := h
          cases hj : G.2.2.2.2.1 j with
          | none => rw [hj] at h; cases h
          | some v =>
            rw [hj] at h
            obtain ⟨l2, e1, e2⟩ := z_mp_lv (lv2 := lv2) (F := fun lv => z_p0 3 len pc lv st v) (fun h => z_p0_lv hl h) h
            refine ⟨l2, ?_, e2⟩
            show (match G.2.2.2.2.1 j with
              | some v => (z_p0 3 len pc lv2 st v).map (fun q : z_T => (q.1, q.2.1, q.2.2, S))
              | none => none) = _
            rw [hj]
            exact e1
  case ldc idx =>
    simp only [z_step] at h
    split at h
    · exact z_mp_lv (lv2 := lv2) (F := fun lv => z_p0 2 len pc lv st _) (fun h => z_p0_lv hl h) h
    · cases h
  case ldc_w idx =>
    simp only [z_step] at h
    split at h
    · exact z_mp_lv (lv2 := lv2) (F := fun lv => z_p0 3 len pc lv st _) (fun h => z_p0_lv hl h) h
    · cases h
  case ldc2_w idx =>
    simp only [z_step] at h
    split at h
    · exact z_mp_lv (lv2 := lv2) (F := fun lv => z_p0 3 len pc lv st _) (fun h => z_p0_lv hl h) h
    · cases h
  all_goals first | (cases h; done) | exact z_mp_lv (lv2 := lv2) (F := fun lv => z_fr G.1.1 G.1.2.1 nL _ len aux pc lv st) (fun h => z_fr_lv hl h) h
end ZLV
