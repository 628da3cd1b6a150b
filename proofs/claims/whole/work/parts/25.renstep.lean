/-! One step, a builtin, a call and a return over a heap that lies elsewhere. -/
section ZRS
variable {K : Nat} {p : Nat → Nat} {H H' : List z_E} {S : z_S} {s s' : Nat} {len pc pc' : Nat} {lv lv' : List (Nat × Value)} {st st' : List Value}
theorem z_wt_tr' (r : Nat → Nat) (vs : List Value) : z_wt (vs.map (z_tr r)) = z_wt vs := z_wt_tr r vs
theorem z_ial_ex {tyl : List FieldType} {t1 t2 : FieldType} {u1 u2 : z_U} (h1 : z_ial K tyl t1 len pc lv st S = some u1) (h2 : z_ial K tyl t2 len pc lv st S = some u2) : t1 = t2 := by
  obtain ⟨p1, l1, q1, S1⟩ := u1
  obtain ⟨p2, l2, q2, S2⟩ := u2
  obtain ⟨i, a, q, t, n, f, e1, ⟨-, e2⟩, ⟨-, e3, -⟩, -⟩ := z_ial_i h1
  obtain ⟨i', a', q', t', n', f', d1, ⟨-, d2⟩, ⟨-, d3, -⟩, -⟩ := z_ial_i h2
  rw [e1] at d1
  cases d1
  rw [e2] at d2
  cases d2
  rw [e3] at d3
  exact Option.some.inj d3
theorem z_ias_ex {tyl : List FieldType} {t1 t2 : FieldType} {u1 u2 : z_U} (h1 : z_ias K tyl t1 len pc lv st S = some u1) (h2 : z_ias K tyl t2 len pc lv st S = some u2) : t1 = t2 := by
  obtain ⟨p1, l1, q1, S1⟩ := u1
  obtain ⟨p2, l2, q2, S2⟩ := u2
  obtain ⟨x, i, a, q, t, n, f, e1, ⟨-, e2⟩, ⟨-, e3, -⟩, -⟩ := z_ias_i h1
  obtain ⟨x', i', a', q', t', n', f', d1, ⟨-, d2⟩, ⟨-, d3, -⟩, -⟩ := z_ias_i h2
  rw [e1] at d1
  cases d1
  rw [e2] at d2
  cases d2
  rw [e3] at d3
  exact Option.some.inj d3
theorem z_or_l {α : Type} {a b : Option α} {x : α} (h : a = some x) : z_or a b = some x := by
  rw [h]
  rfl
theorem z_or_r {α : Type} {a b : Option α} {x : α} (h : a = none) (h2 : b = some x) : z_or a b = some x := by
  rw [h, h2]
  rfl
theorem z_ial_lo {tyl : List FieldType} {ty : FieldType} {i : Int32} {a : Nat} {q : List Value} (ha : a < K) : z_ial K tyl ty len pc lv (.int i :: .ref a :: q) S = none := by
  unfold z_ial
  dsimp only
  have : z_ar K S a = none := by
    unfold z_ar
    rw [if_neg (Nat.not_le.mpr ha)]
  rw [this]
theorem z_aln_lo {tyl : List FieldType} {a : Nat} {q : List Value} (ha : a < K) : z_aln K tyl len pc lv (.ref a :: q) S = none := by
  unfold z_aln
  dsimp only
  have : z_ar K S a = none := by
    unfold z_ar
    rw [if_neg (Nat.not_le.mpr ha)]
  rw [this]
theorem z_ialF_rn {tyl : List FieldType} {fi : Nat → Option (Nat × (Nat → Int32))} (hS : z_Sim K p H S) (h : z_ialF K fi len pc lv st (H, s) = some (pc', lv', st', (H', s'))) : z_Rs K p H' S (fun lv st S => z_or (z_ial K tyl .int len pc lv st S) (z_ialF K fi len pc lv st S)) lv st pc' lv' st' := by
  unfold z_ialF at h
  split at h
  · rename_i x a q
    split at h
    · rename_i y hy
      split at h
      · rename_i hc
        cases h
        have ha : z_rr K p a = a := z_rr_lo hc.2.1
        refine ⟨S, ?_, hS, rfl, rfl⟩
        show z_or (z_ial K tyl .int len pc _ (.int x :: .ref (z_rr K p a) :: q.map _) S) (z_ialF K fi len pc _ (.int x :: .ref (z_rr K p a) :: q.map _) S) = _
        rw [ha]
        refine z_or_r (z_ial_lo hc.2.1) ?_
        unfold z_ialF
        dsimp only
        rw [hy]
        dsimp only
        rw [if_pos hc]
        rfl
      · cases h
    · cases h
  · cases h
theorem z_alnF_rn {tyl : List FieldType} {fi : Nat → Option (Nat × (Nat → Int32))} (hS : z_Sim K p H S) (h : z_alnF K fi len pc lv st (H, s) = some (pc', lv', st', (H', s'))) : z_Rs K p H' S (fun lv st S => z_or (z_aln K tyl len pc lv st S) (z_alnF K fi len pc lv st S)) lv st pc' lv' st' := by
  unfold z_alnF at h
  split at h
  · rename_i a q
    split at h
    · rename_i y hy
      split at h
      · rename_i hc
        cases h
        have ha : z_rr K p a = a := z_rr_lo hc.2
        refine ⟨S, ?_, hS, rfl, rfl⟩
        show z_or (z_aln K tyl len pc _ (.ref (z_rr K p a) :: q.map _) S) (z_alnF K fi len pc _ (.ref (z_rr K p a) :: q.map _) S) = _
        rw [ha]
        refine z_or_r (z_aln_lo hc.2) ?_
        unfold z_alnF
        dsimp only
        rw [hy]
        dsimp only
        rw [if_pos hc]
        rfl
      · cases h
    · cases h
  · cases h
/-- an instruction that makes no cell -/
def z_nal (i : Instr) : Bool := match i with
  | .new _ => false
  | .newarray _ => false
  | .anewarray _ => false
  | _ => true
theorem z_fr_Rs {G : z_G} {nL : Nat} (hW : G.1.2.1 ≤ G.1.1) (hS : z_Sim G.1.1 p H S) {i : Instr} {aux : List Nat} (hq : z_acq G.1.1 G.1.2.1 i st st') (h : (z_fr G.1.1 G.1.2.1 nL i len aux pc lv st).map (fun q => (q.1, q.2.1, q.2.2, ((H, s) : z_S))) = some (pc', lv', st', (H', s'))) :
    z_Rs G.1.1 p H' S (fun lv st S => (z_fr G.1.1 G.1.2.1 nL i len aux pc lv st).map (fun q => (q.1, q.2.1, q.2.2, S))) lv st pc' lv' st' := by
  obtain ⟨h1, h2⟩ := z_map_i h
  cases h2
  refine ⟨S, ?_, hS, rfl, rfl⟩
  show (z_fr _ _ _ _ _ _ _ _ _).map _ = _
  rw [z_fr_rn (fun a ha => z_rr_lo (Nat.lt_of_lt_of_le ha hW)) hq h1]
  rfl
theorem z_p0_Rs {n : Nat} {v : Value} (hS : z_Sim K p H S) (hv : z_tr (z_rr K p) v = v) (h : (z_p0 n len pc lv st v).map (fun q => (q.1, q.2.1, q.2.2, ((H, s) : z_S))) = some (pc', lv', st', (H', s'))) :
    z_Rs K p H' S (fun lv st S => (z_p0 n len pc lv st v).map (fun q => (q.1, q.2.1, q.2.2, S))) lv st pc' lv' st' := by
  obtain ⟨h1, h2⟩ := z_map_i h
  cases h2
  refine ⟨S, ?_, hS, rfl, rfl⟩
  show (z_p0 _ _ _ _ _ _).map _ = _
  rw [z_p0_rn hv h1]
  rfl
theorem z_Rs_l {F1 F2 : List (Nat × Value) → List Value → z_S → Option z_U} (h : z_Rs K p H' S F1 lv st pc' lv' st') : z_Rs K p H' S (fun lv st S => z_or (F1 lv st S) (F2 lv st S)) lv st pc' lv' st' := by
  obtain ⟨S', h1, h2⟩ := h
  exact ⟨S', z_or_l h1, h2⟩
set_option maxHeartbeats 4000000 in
theorem z_step_rn {G : z_G} {nL : Nat} (hW : G.1.2.1 ≤ G.1.1) (hst : ∀ j v, G.2.2.2.2.1 j = some v → z_tr (z_rr G.1.1 p) v = v) (hS : z_Sim G.1.1 p H S) {i : Instr} {aux : List Nat} (hna : z_nal i = true) (hq : z_acq G.1.1 G.1.2.1 i st st') (h : z_step G nL i len aux pc lv st (H, s) = some (pc', lv', st', (H', s'))) :
    z_Rs G.1.1 p H' S (fun lv st S => z_step G nL i len aux pc lv st S) lv st pc' lv' st' := by
  cases i
  case getfield idx =>
    simp only [z_step] at h
    split at h
    · exact z_gf_rn hS h
    · cases h
  case putfield idx =>
    simp only [z_step] at h
    split at h
    · exact z_pf_rn hS h
    · cases h
  case new idx => cases hna
  case newarray t => cases hna
  case anewarray idx => cases hna
  case iaload =>
    have h : z_or (z_ial G.1.1 G.2.1.1 .int len pc lv st (H, s)) (z_ialF G.1.1 G.2.2.2.1 len pc lv st (H, s)) = some (pc', lv', st', (H', s')) := h
    rcases z_or_i h with h | h
    · exact z_Rs_l (F2 := fun lv st S => z_ialF G.1.1 G.2.2.2.1 len pc lv st S) (z_ial_rn hS h)
    · exact z_ialF_rn (tyl := G.2.1.1) hS h
  case arraylength =>
    have h : z_or (z_aln G.1.1 G.2.1.1 len pc lv st (H, s)) (z_alnF G.1.1 G.2.2.2.1 len pc lv st (H, s)) = some (pc', lv', st', (H', s')) := h
    rcases z_or_i h with h | h
    · exact z_Rs_l (F2 := fun lv st S => z_alnF G.1.1 G.2.2.2.1 len pc lv st S) (z_aln_rn hS h)
    · exact z_alnF_rn (tyl := G.2.1.1) hS h
  case baload =>
    have h : z_or (z_ial G.1.1 G.2.1.1 .byte len pc lv st (H, s)) (z_ial G.1.1 G.2.1.1 .boolean len pc lv st (H, s)) = some (pc', lv', st', (H', s')) := h
    rcases z_or_i h with h | h
    · exact z_Rs_l (F2 := fun lv st S => z_ial G.1.1 G.2.1.1 .boolean len pc lv st S) (z_ial_rn hS h)
    · obtain ⟨S', h1, h2⟩ := z_ial_rn hS h
      refine ⟨S', ?_, h2⟩
      refine z_or_r ?_ h1
      cases hx : z_ial G.1.1 G.2.1.1 .byte len pc (z_trL (z_rr G.1.1 p) lv) (st.map (z_tr (z_rr G.1.1 p))) S with
      | none => rfl
      | some u => cases z_ial_ex hx h1
  case laload => exact z_lal_rn hS h
  case aaload =>
    refine z_aal_rn hS (fun v t e => ?_) h
    subst e
    exact hq
  case iastore => exact z_ias_rn hS h
  case bastore =>
    have h : z_or (z_ias G.1.1 G.2.1.1 .byte len pc lv st (H, s)) (z_ias G.1.1 G.2.1.1 .boolean len pc lv st (H, s)) = some (pc', lv', st', (H', s')) := h
    rcases z_or_i h with h | h
    · exact z_Rs_l (F2 := fun lv st S => z_ias G.1.1 G.2.1.1 .boolean len pc lv st S) (z_ias_rn hS h)
    · obtain ⟨S', h1, h2⟩ := z_ias_rn hS h
      refine ⟨S', ?_, h2⟩
      refine z_or_r ?_ h1
      cases hx : z_ias G.1.1 G.2.1.1 .byte len pc (z_trL (z_rr G.1.1 p) lv) (st.map (z_tr (z_rr G.1.1 p))) S with
      | none => rfl
      | some u => cases z_ias_ex hx h1
  case lastore => exact z_las_rn hS h
  case aastore => exact z_aas_rn (tyl := G.2.1.1) hS hW h
  case getstatic idx =>
    cases aux with
    | nil => cases h
    | cons j u =>
      cases u with
      | nil => cases h
      | cons x u =>
        cases u with
        | cons y u => cases h
        | nil =>
          have h : (match G.2.2.2.2.1 j with
            | some v => (z_p0 3 len pc lv st v).map (fun q => (q.1, q.2.1, q.2.2, ((H, s) : z_S)))
            | none => none) = some (pc', lv', st', (H', s')) := h
          cases hj : G.2.2.2.2.1 j with
          | none => rw [hj] at h; cases h
          | some v =>
            rw [hj] at h
            obtain ⟨S', h1, h2⟩ := z_p0_Rs (n := 3) hS (hst j v hj) h
            refine ⟨S', ?_, h2⟩
            show (match G.2.2.2.2.1 j with
              | some v => (z_p0 3 len pc (z_trL (z_rr G.1.1 p) lv) (st.map (z_tr (z_rr G.1.1 p))) v).map (fun q : z_T => (q.1, q.2.1, q.2.2, S))
              | none => none) = _
            rw [hj]
            exact h1
  case ldc idx =>
    simp only [z_step] at h
    split at h
    · exact z_p0_Rs hS rfl h
    · cases h
  case ldc_w idx =>
    simp only [z_step] at h
    split at h
    · exact z_p0_Rs hS rfl h
    · cases h
  case ldc2_w idx =>
    simp only [z_step] at h
    split at h
    · exact z_p0_Rs hS rfl h
    · cases h
  all_goals first | (cases h; done) | exact z_fr_Rs (s := s) (len := len) (pc := pc) (nL := nL) (aux := aux) hW hS hq h
/-- what the numbers of a program say of what is frozen: it lies below K, and so does what it holds -/
def z_Fz (G : z_G) : Prop := G.1.2.1 ≤ G.1.1 ∧ (∀ j v, G.2.2.2.2.1 j = some v → z_cv G.1.1 v) ∧ (∀ a q, G.2.2.2.2.2.1 a = some q → a < G.1.1 ∧ ∀ j, j < q.1 → q.2 j < G.1.1) ∧ (∀ a q, G.2.2.2.2.2.2.1 a = some q → a < G.1.1) ∧ (∀ a k v, G.2.2.2.2.2.2.2.1 a k = some v → a < G.1.1 ∧ z_cv G.1.1 v)
theorem z_cv_rr {v : Value} (h : z_cv K v) : z_tr (z_rr K p) v = v := z_cv_tr (fun _ ha => z_rr_lo ha) h
/-- what a builtin over H gives over S -/
def z_Rb (K : Nat) (p : Nat → Nat) (H' : List z_E) (S : z_S) (F : List Value → z_S → Option (List Value × z_S)) (st st' : List Value) : Prop :=
  ∃ S' : z_S, F (st.map (z_tr (z_rr K p))) S = some (st'.map (z_tr (z_rr K p)), S') ∧ z_Sim K p H' S' ∧ S'.1.length = S.1.length ∧ S'.2 = S.2
theorem z_ord_rn {G : z_G} (hF : z_Fz G) (hS : z_Sim G.1.1 p H S) (h : z_ord G st (H, s) = some (st', (H', s'))) : z_Rb G.1.1 p H' S (fun st S => z_ord G st S) st st' := by
  unfold z_ord at h
  split at h
  · rename_i v q
    split at h
    · rename_i hc
      cases h
      have hv : z_rr G.1.1 p v = v := z_rr_lo (Nat.lt_of_lt_of_le hc.1 hF.1)
      refine ⟨S, ?_, hS, rfl, rfl⟩
      show z_ord G (.ref (z_rr G.1.1 p v) :: q.map _) S = _
      rw [hv]
      unfold z_ord
      dsimp only
      rw [if_pos ⟨hc.1, by rw [z_wt_tr']; exact hc.2⟩]
      rfl
    · cases h
  · cases h
theorem z_mth_rn {mx : Bool} (hS : z_Sim K p H S) (h : z_mth mx st (H, s) = some (st', (H', s'))) : z_Rb K p H' S (fun st S => z_mth mx st S) st st' := by
  unfold z_mth at h
  split at h
  · rename_i b a q
    split at h
    · rename_i hc
      cases h
      refine ⟨S, ?_, hS, rfl, rfl⟩
      show (if _ then _ else _) = _
      rw [if_pos (by rw [z_wt_tr']; exact hc)]
      rfl
    · cases h
  · cases h
theorem z_kal_rn {G : z_G} (hF : z_Fz G) (hS : z_Sim G.1.1 p H S) (h : z_kal G st (H, s) = some (st', (H', s'))) : z_Rb G.1.1 p H' S (fun st S => z_kal G st S) st st' := by
  unfold z_kal at h
  split at h
  · rename_i i a q
    split at h
    · rename_i y hy
      split at h
      · rename_i hc
        cases h
        obtain ⟨h1, h2⟩ := hF.2.2.1 a y hy
        have ha : z_rr G.1.1 p a = a := z_rr_lo h1
        refine ⟨S, ?_, hS, rfl, rfl⟩
        show z_kal G (.int i :: .ref (z_rr G.1.1 p a) :: q.map _) S = some (.ref (z_rr G.1.1 p (y.2 i.toNatClampNeg)) :: q.map _, S)
        have hj : i.toNatClampNeg < y.1 := by
          unfold z_in at hc
          rw [Bool.and_eq_true] at hc
          exact of_decide_eq_true hc.2
        rw [ha, z_rr_lo (h2 _ hj)]
        unfold z_kal
        dsimp only
        rw [hy]
        dsimp only
        rw [if_pos hc]
      · cases h
    · cases h
  · cases h
theorem z_kbl_rn {G : z_G} (hF : z_Fz G) (hS : z_Sim G.1.1 p H S) (h : z_kbl G st (H, s) = some (st', (H', s'))) : z_Rb G.1.1 p H' S (fun st S => z_kbl G st S) st st' := by
  unfold z_kbl at h
  split at h
  · rename_i i a q
    split at h
    · rename_i y hy
      split at h
      · rename_i hc
        cases h
        have ha : z_rr G.1.1 p a = a := z_rr_lo (hF.2.2.2.1 a y hy)
        refine ⟨S, ?_, hS, rfl, rfl⟩
        show z_kbl G (.int i :: .ref (z_rr G.1.1 p a) :: q.map _) S = _
        rw [ha]
        unfold z_kbl
        dsimp only
        rw [hy]
        dsimp only
        rw [if_pos hc]
        rfl
      · cases h
    · cases h
  · cases h
theorem z_kln_rn {G : z_G} (hF : z_Fz G) (hS : z_Sim G.1.1 p H S) (h : z_kln G st (H, s) = some (st', (H', s'))) : z_Rb G.1.1 p H' S (fun st S => z_kln G st S) st st' := by
  unfold z_kln at h
  split at h
  · rename_i a q
    split at h
    · rename_i y hy
      cases h
      have ha : z_rr G.1.1 p a = a := z_rr_lo (hF.2.2.1 a y hy).1
      refine ⟨S, ?_, hS, rfl, rfl⟩
      show z_kln G (.ref (z_rr G.1.1 p a) :: q.map _) S = _
      rw [ha]
      unfold z_kln
      dsimp only
      rw [hy]
      rfl
    · rename_i hy0
      split at h
      · rename_i y hy
        cases h
        have ha : z_rr G.1.1 p a = a := z_rr_lo (hF.2.2.2.1 a y hy)
        refine ⟨S, ?_, hS, rfl, rfl⟩
        show z_kln G (.ref (z_rr G.1.1 p a) :: q.map _) S = _
        rw [ha]
        unfold z_kln
        dsimp only
        rw [hy0]
        dsimp only
        rw [hy]
        rfl
      · cases h
  · cases h
theorem z_kgf_rn {G : z_G} {k : Nat} (hF : z_Fz G) (hS : z_Sim G.1.1 p H S) (h : z_kgf G k st (H, s) = some (st', (H', s'))) : z_Rb G.1.1 p H' S (fun st S => z_kgf G k st S) st st' := by
  unfold z_kgf at h
  split at h
  · rename_i a q
    split at h
    · rename_i v hv
      cases h
      obtain ⟨h1, h2⟩ := hF.2.2.2.2 a k v hv
      have ha : z_rr G.1.1 p a = a := z_rr_lo h1
      refine ⟨S, ?_, hS, rfl, rfl⟩
      show z_kgf G k (.ref (z_rr G.1.1 p a) :: q.map _) S = some (z_tr (z_rr G.1.1 p) v :: q.map _, S)
      rw [ha, z_cv_rr h2]
      unfold z_kgf
      dsimp only
      rw [hv]
    · cases h
  · cases h
theorem z_acp_rn {G : z_G} (hS : z_Sim G.1.1 p H S) (h : z_acp G st (H, s) = some (st', (H', s'))) : z_Rb G.1.1 p H' S (fun st S => z_acp G st S) st st' := by
  unfold z_acp at h
  split at h
  · rename_i n dp a sp b q
    split at h
    · rename_i t1 n1 g t0 n0 f ha hb
      split at h
      · rename_i ty hty
        split at h
        · rename_i hc
          obtain ⟨a4, a1⟩ := z_ar_i ha
          obtain ⟨b4, b1⟩ := z_ar_i hb
          cases h
          have a6 := z_ar_rn hS a4 a1
          have b6 := z_ar_rn hS b4 b1
          have h8 := hS.set a1 (.inl (t1, n1, .inl (z_cpl f g sp.toNatClampNeg dp.toNatClampNeg n.toNatClampNeg)))
          rw [← z_rr_sub (p := p) a4] at h8
          refine ⟨_, ?_, h8, List.length_set .., rfl⟩
          show z_acp G (.int n :: .int dp :: .ref (z_rr G.1.1 p a) :: .int sp :: .ref (z_rr G.1.1 p b) :: st'.map _) S = _
          unfold z_acp
          dsimp only
          rw [a6, b6]
          dsimp only
          rw [hty]
          dsimp only
          rw [if_pos ⟨⟨hc.1.1, hc.1.2.1, by rw [z_wt_tr']; exact hc.1.2.2⟩, hc.2⟩]
          rfl
        · cases h
      · cases h
    · cases h
  · cases h
end ZRS
