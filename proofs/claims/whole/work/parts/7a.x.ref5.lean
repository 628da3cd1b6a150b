/-! The reference's run: an effect performed. -/
/-- a chain of clauses; the one for e -/
def y_cl (B : Nat → List (Nat × Int32)) : Int32 → List Nat → Prop
  | q, [] => q = -1
  | q, i :: r => q = nI i ∧ i < 300 ∧ y_cl B (z_fn 0 (B 79) i) r
def y_fd (B : Nat → List (Nat × Int32)) (e : Int32) : List Nat → Int32
  | [] => -1
  | i :: r => if z_fn 0 (B 71) i = e then nI i else y_fd B e r
section YRE
variable {R : z_RS} {Q : Option Value → z_RS → Prop} {n f0 : Int32} {m hi th dp F : Nat} {w vv nm v fu e : Int32}
theorem r218 {l nd : Nat} {r : List Nat} (hn : nd < 600) (hr : y_cl R.1 (z_fn 0 (R.1 60) nd) r) (k : Q (some (.int (y_fd R.1 e r))) R) : z_WR (l + 1) 218 0 [(0, .ref 148), (1, .int (nI nd)), (2, .int e)] [] R Q := by
  obtain ⟨B, M, U⟩ := R
  have loop : ∀ (r : List Nat) (q : Int32), y_cl B q r → Q (some (.int (y_fd B e r))) (B, M, U) → z_WR (l + 1) 218 7 [(0, .ref 148), (1, .int (nI nd)), (2, .int e), (3, .int q)] [] (B, M, U) Q := by
    intro r
    induction r with
    | nil =>
      intro q hq k
      have hq : q = -1 := hq
      subst hq
      refine t218_7 ?_
      unfold p218_7
      rw [if_pos (by decide)]
      exact k
    | cons i r ih =>
      intro q hq k
      obtain ⟨rfl, hi, hr⟩ := hq
      have ci : (nI i).toNatClampNeg = i := nI_clamp (by omega)
      have zi : z_in (nI i) 300 = true := z_inI hi (by decide)
      refine t218_7 ?_
      unfold p218_7
      rw [if_neg (nI_pos (by omega))]
      unfold p218_11
      rw [ci]
      refine ⟨zi, ?_⟩
      have k : Q (some (.int (if z_fn 0 (B 71) i = e then nI i else y_fd B e r))) (B, M, U) := k
      by_cases he : z_fn 0 (B 71) i = e
      · rw [if_pos he]
        rw [if_pos he] at k
        exact k
      · rw [if_neg he]
        rw [if_neg he] at k
        unfold p218_21
        rw [ci]
        exact ⟨zi, ih _ hr k⟩
  refine t218_0 ?_
  unfold p218_0
  rw [nI_clamp (by omega)]
  exact ⟨z_inI hn (by decide), loop r _ hr k⟩
theorem r219 {l : Nat} {x : Int32} (k : Q (some (.int (if x < 7 then 0 else 1))) R) : z_WR (l + 1) 219 0 [(0, .int x)] [] R Q := by
  obtain ⟨B, M, U⟩ := R
  refine t219_0 ?_
  unfold p219_0
  by_cases h : x < 7
  · rw [if_pos h]
    rw [if_pos h] at k
    unfold p219_10 p219_11
    exact ⟨Or.inl rfl, k⟩
  · rw [if_neg h]
    rw [if_neg h] at k
    unfold p219_6 p219_11
    exact ⟨Or.inr rfl, k⟩
/-- entry j: its clause for e -/
def y_hd (R : z_RS) (e : Int32) (j : Nat) (q : Int32) : Prop := (¬ z_fn 0 (R.1 111) j = 8 ∧ q = -1) ∨ (z_fn 0 (R.1 111) j = 8 ∧ ∃ nd r, z_fn 0 (R.1 112) j = nI nd ∧ nd < 600 ∧ y_cl R.1 (z_fn 0 (R.1 60) nd) r ∧ q = y_fd R.1 e r)
/-- how many of k entries from lo on have a frame -/
def y_ct (R : z_RS) (lo : Nat) : Nat → Nat
  | 0 => 0
  | k + 1 => y_ct R lo k + (if z_fn 0 (R.1 111) (lo + k) < 7 then 0 else 1)
theorem y_ct_cs {lo : Nat} : ∀ k, y_ct (y_cs hi fu R) lo k = y_ct R lo k := by
  intro k
  induction k with
  | zero => rfl
  | succ k ih =>
    show y_ct (y_cs hi fu R) lo k + (if z_fn 0 (R.1 111) (lo + k) < 7 then 0 else 1) = _
    rw [ih]
    rfl
/-- an entry that has no clause is passed -/
theorem r217p {l j c : Nat} {x1 x2 : Int32} (hj : j < 140000) (h : y_hd R e j (-1)) (k : z_WR (l + 2) 217 28 [(0, .ref 148), (1, .int x1), (2, .int x2), (3, .int e), (4, .int (z_ko id j)), (5, .int (nI (c + (if z_fn 0 (R.1 111) j < 7 then 0 else 1))))] [] R Q) : z_WR (l + 2) 217 28 [(0, .ref 148), (1, .int x1), (2, .int x2), (3, .int e), (4, .int (nI j)), (5, .int (nI c))] [] R Q := by
  obtain ⟨B, M, U⟩ := R
  have cj : (nI j).toNatClampNeg = j := nI_clamp (by omega)
  have zj : z_in (nI j) 140000 = true := z_inI hj (by decide)
  have ed : nI j + Int32.ofInt (-1) = z_ko id j := by
    cases j with
    | zero => decide
    | succ j => exact z_nIm1
  have q60 : p217_60 (l + 1) B M U x1 x2 e (nI j) (nI c) Q := by
    unfold p217_60
    rw [cj]
    refine ⟨zj, r219 ⟨_, rfl, ?_⟩⟩
    have k : z_WR (l + 2) 217 28 [(0, .ref 148), (1, .int x1), (2, .int x2), (3, .int e), (4, .int (z_ko id j)), (5, .int (nI (c + (if z_fn 0 (B 111) j < 7 then 0 else 1))))] [] (B, M, U) Q := k
    unfold p217_72
    by_cases h7 : z_fn 0 (B 111) j < 7
    · rw [if_pos h7] at k ⊢
      rw [if_pos rfl]
      unfold p217_79 p217_80
      rw [ed, Int32.add_zero]
      exact k
    · rw [if_neg h7] at k ⊢
      rw [if_neg (by decide)]
      unfold p217_75 p217_80
      rw [ed, show nI c + 1 = nI (c + 1) from z_nI2 (i := c) (k := 1)]
      exact k
  refine t217_28 ?_
  unfold p217_28
  rw [if_neg (nI_pos (by omega))]
  unfold p217_33
  rw [cj]
  refine ⟨zj, ?_⟩
  rcases h with ⟨h, -⟩ | ⟨h, nd, r, h1, h2, h3, h4⟩
  · have h : ¬ z_fn 0 (B 111) j = 8 := h
    rw [if_neg h]
    exact q60
  · have h : z_fn 0 (B 111) j = 8 := h
    have h1 : z_fn 0 (B 112) j = nI nd := h1
    rw [if_pos h]
    unfold p217_45
    rw [cj, h1]
    refine ⟨zj, r218 (r := r) h2 h3 ⟨_, rfl, ?_⟩⟩
    rw [← h4]
    unfold p217_57
    rw [if_neg (by decide)]
    exact q60
theorem r217s {l h : Nat} {x1 x2 : Int32} : ∀ (k c : Nat), h + k ≤ 140000 → (∀ j, h ≤ j → j < h + k → y_hd R e j (-1)) → z_WR (l + 2) 217 28 [(0, .ref 148), (1, .int x1), (2, .int x2), (3, .int e), (4, .int (z_ko id h)), (5, .int (nI (c + y_ct R h k)))] [] R Q → z_WR (l + 2) 217 28 [(0, .ref 148), (1, .int x1), (2, .int x2), (3, .int e), (4, .int (z_ko id (h + k))), (5, .int (nI c))] [] R Q := by
  intro k
  induction k with
  | zero => intro c _ _ k; exact k
  | succ k ih =>
    intro c hk hn g
    have g : z_WR (l + 2) 217 28 [(0, .ref 148), (1, .int x1), (2, .int x2), (3, .int e), (4, .int (z_ko id h)), (5, .int (nI (c + (y_ct R h k + (if z_fn 0 (R.1 111) (h + k) < 7 then 0 else 1)))))] [] R Q := g
    refine r217p (j := h + k) (by omega) (hn (h + k) (by omega) (by omega)) (ih _ (by omega) (fun j a b => hn j a (by omega)) ?_)
    rw [Nat.add_assoc, Nat.add_comm (if z_fn 0 (R.1 111) (h + k) < 7 then 0 else 1) (y_ct R h k)]
    exact g
/-- no handler -/
theorem y_g6u (h : y_Vl hi 6 m vv nm v R) (hl : ¬ n - (R.2.2 41 98 - f0) = 0) (h98 : R.2.2 41 98 = fu) (h68 : z_fn 0 (R.1 68) m = e) (hn : ∀ j, j < hi → y_hd R e j (-1)) (k : Q (some (.int (fu + 1 - f0))) (y_iv 96 (nI (hi + 1)) (y_iv 101 e (y_iv 94 4 (y_cs hi fu R))))) : y_RL n f0 1 R Q := by
  obtain ⟨cm, zm, ch, zh⟩ := h.ci
  have h5 := h.2.2.2.2.1.1
  refine h.sw (fun _ => hl) ?_
  rw [if_neg (by decide), if_neg (by decide), if_neg (by decide), if_neg (by decide), if_neg (by decide), if_neg (by decide), if_pos rfl]
  unfold p214_276
  refine t217_0 (l := 9) ?_
  unfold p217_0
  rw [cm, h68, show z_v R.2.2 41 96 (nI hi) 41 96 = nI hi from z_vk, show z_v R.2.2 41 96 (nI hi) 41 98 = fu from (z_vn (by decide)).trans h98, show nI hi - 1 = z_ko id hi by
    cases hi with
    | zero => decide
    | succ j => exact nI_pred j]
  refine ⟨zm, ?_⟩
  have r := r217s (R := y_cs hi fu R) (Q := fun x R1 => x = none ∧ p214_283 10 R1.1 R1.2.1 R1.2.2 (n - (R.2.2 41 98 - f0)) (nI hi) (nI m) nm v (y_Ps n f0 Q)) (l := 8) (h := 0) (e := e) (x1 := nI m) (x2 := v) hi 0 (by omega) (fun j _ b => hn j (by omega))
  rw [show 0 + hi = hi from Nat.zero_add hi] at r
  refine r ?_
  refine t217_28 (B := (y_cs hi fu R).1) (M := (y_cs hi fu R).2.1) (U := (y_cs hi fu R).2.2) ?_
  unfold p217_28
  rw [if_pos (show z_ko id 0 < 0 from (by decide : (-1 : Int32) < 0))]
  unfold p217_89
  rw [if_neg (show ¬ (0 : Int32) ≤ z_ko id 0 from (by decide : ¬ (0 : Int32) ≤ -1))]
  unfold p217_94 p214_283
  rw [y_cs_96 (R := R), show nI hi + 1 = nI (hi + 1) from z_nI2 (i := hi) (k := 1)]
  refine ⟨rfl, y_ps1 (R := y_iv 96 (nI (hi + 1)) (y_iv 101 e (y_iv 94 4 (y_cs hi fu R)))) (y_end (R := y_iv 96 (nI (hi + 1)) (y_iv 101 e (y_iv 94 4 (y_cs hi fu R)))) ?_ ?_)⟩
  · rw [y_iv_n (by decide), y_iv_n (by decide), y_iv_k]
    decide
  · rw [show (y_iv 96 (nI (hi + 1)) (y_iv 101 e (y_iv 94 4 (y_cs hi fu R)))).2.2 41 98 = fu + 1 from ((y_iv_n (by decide)).trans (y_iv_n (by decide))).trans ((y_iv_n (by decide)).trans y_cs_98)]
    exact k
/-- a handler at h -/
theorem y_g6b {h cu nd qi : Nat} {r : List Nat} (hV : y_Vl hi 6 m vv nm v R) (hl : ¬ n - (R.2.2 41 98 - f0) = 0) (h98 : R.2.2 41 98 = fu) (h68 : z_fn 0 (R.1 68) m = e) (hh : h < hi) (hn : ∀ j, h < j → j < hi → y_hd R e j (-1)) (h8 : z_fn 0 (R.1 111) h = 8) (h112 : z_fn 0 (R.1 112) h = nI nd) (hnd : nd < 600) (hr : y_cl R.1 (z_fn 0 (R.1 60) nd) r) (hq : y_fd R.1 e r = nI qi) (hqi : qi < 300) (hcu : y_ct R (h + 1) (hi - (h + 1)) = cu) (k : p217_115 9 R.1 R.2.1 (y_cs hi fu R).2.2 (nI m) v e (nI h) (nI cu) (fun x R1 => x = none ∧ p214_283 10 R1.1 R1.2.1 R1.2.2 (n - (R.2.2 41 98 - f0)) (nI hi) (nI m) nm v (y_Ps n f0 Q))) : y_RL n f0 1 R Q := by
  obtain ⟨cm, zm, ch, zh⟩ := hV.ci
  have h5 := hV.2.2.2.2.1.1
  refine hV.sw (fun _ => hl) ?_
  rw [if_neg (by decide), if_neg (by decide), if_neg (by decide), if_neg (by decide), if_neg (by decide), if_neg (by decide), if_pos rfl]
  unfold p214_276
  refine t217_0 (l := 9) ?_
  unfold p217_0
  rw [cm, h68, show z_v R.2.2 41 96 (nI hi) 41 96 = nI hi from z_vk, show z_v R.2.2 41 96 (nI hi) 41 98 = fu from (z_vn (by decide)).trans h98, show nI hi - 1 = z_ko id hi by
    cases hi with
    | zero => decide
    | succ j => exact nI_pred j]
  refine ⟨zm, ?_⟩
  have r' := r217s (R := y_cs hi fu R) (Q := fun x R1 => x = none ∧ p214_283 10 R1.1 R1.2.1 R1.2.2 (n - (R.2.2 41 98 - f0)) (nI hi) (nI m) nm v (y_Ps n f0 Q)) (l := 8) (h := h + 1) (e := e) (x1 := nI m) (x2 := v) (hi - (h + 1)) 0 (by omega) (fun j a b => hn j (by omega) (by omega))
  rw [show h + 1 + (hi - (h + 1)) = hi by omega] at r'
  refine r' ?_
  rw [Nat.zero_add, y_ct_cs, hcu]
  have cj : (nI h).toNatClampNeg = h := nI_clamp (by omega)
  have zj : z_in (nI h) 140000 = true := z_inI (by omega) (by decide)
  refine t217_28 (B := (y_cs hi fu R).1) (M := (y_cs hi fu R).2.1) (U := (y_cs hi fu R).2.2) ?_
  unfold p217_28
  rw [show z_ko id (h + 1) = nI h from rfl, if_neg (nI_pos (by omega))]
  unfold p217_33
  rw [cj]
  refine ⟨zj, ?_⟩
  rw [if_pos (show z_fn 0 ((y_cs hi fu R).1 111) h = 8 from h8)]
  unfold p217_45
  rw [cj, show z_fn 0 ((y_cs hi fu R).1 112) h = nI nd from h112]
  refine ⟨zj, r218 (R := y_cs hi fu R) (r := r) hnd hr ⟨_, rfl, ?_⟩⟩
  rw [show y_fd (y_cs hi fu R).1 e r = nI qi from hq]
  unfold p217_57
  rw [if_pos (nI_pos' (by omega))]
  unfold p217_89
  rw [if_pos (nI_pos' (by omega))]
  exact k
/-- no room for the continuation -/
theorem y_g6f {h cu nd qi : Nat} {r : List Nat} (hV : y_Vl hi 6 m vv nm v R) (hl : ¬ n - (R.2.2 41 98 - f0) = 0) (h98 : R.2.2 41 98 = fu) (h68 : z_fn 0 (R.1 68) m = e) (hh : h < hi) (hn : ∀ j, h < j → j < hi → y_hd R e j (-1)) (h8 : z_fn 0 (R.1 111) h = 8) (h112 : z_fn 0 (R.1 112) h = nI nd) (hnd : nd < 600) (hr : y_cl R.1 (z_fn 0 (R.1 60) nd) r) (hq : y_fd R.1 e r = nI qi) (hqi : qi < 300) (hcu : y_ct R (h + 1) (hi - (h + 1)) = cu) (h99 : R.2.2 41 99 = nI th) (ht : 1000 < th + 1 + (cu + 1)) (ht2 : th + cu < 2 ^ 30) (k : Q (some (.int (fu + 1 - f0))) (y_iv 94 5 (y_cs hi fu R))) : y_RL n f0 1 R Q := by
  refine y_g6b hV hl h98 h68 hh hn h8 h112 hnd hr hq hqi hcu ?_
  unfold p217_115
  rw [show (y_cs hi fu R).2.2 41 99 = nI th from (y_cs_n (by decide) (by decide)).trans h99, show nI th + 1 = nI (th + 1) from z_nI2 (i := th) (k := 1), show nI cu + 1 = nI (cu + 1) from z_nI2 (i := cu) (k := 1), z_nI2, if_neg (show ¬ nI (th + 1 + (cu + 1)) ≤ 1000 from nI_ge (a := 1000) ht (by omega))]
  unfold p217_133 p214_283
  refine ⟨rfl, y_ps1 (R := y_iv 94 5 (y_cs hi fu R)) (y_end (R := y_iv 94 5 (y_cs hi fu R)) (by rw [y_iv_k]; decide) ?_)⟩
  rw [show (y_iv 94 5 (y_cs hi fu R)).2.2 41 98 = fu + 1 from (y_iv_n (by decide)).trans y_cs_98]
  exact k
/-- what waits at j -/
def y_do (R : z_RS) (j : Nat) : y_E := (z_fn 0 (R.1 111) j, z_fn 0 (R.1 112) j, z_fn 0 (R.1 113) j, z_fn 0 (R.1 114) j)
/-- k entries are put away -/
def y_pa (aw : Nat) (x : y_E) (R : z_RS) : z_RS := (z_u (z_u (z_u (z_u R.1 115 ((aw, x.1) :: R.1 115)) 116 ((aw, x.2.1) :: R.1 116)) 117 ((aw, x.2.2.1) :: R.1 117)) 118 ((aw, x.2.2.2) :: R.1 118), R.2.1, z_v R.2.2 41 97 (nI (aw + 1)))
def y_ca (h aw : Nat) : Nat → z_RS → z_RS
  | 0, R => R
  | k + 1, R => y_pa (aw + k) (y_do R (h + k)) (y_ca h aw k R)
theorem y_ca.o {h aw : Nat} : ∀ (k : Nat) (R : z_RS), (∀ q, ¬ (115 ≤ q ∧ q ≤ 118) → (y_ca h aw k R).1 q = R.1 q) ∧ (y_ca h aw k R).2.1 = R.2.1 ∧ (∀ a b, ¬ (a = 41 ∧ b = 97) → (y_ca h aw k R).2.2 a b = R.2.2 a b) ∧ (R.2.2 41 97 = nI aw → (y_ca h aw k R).2.2 41 97 = nI (aw + k)) := by
  intro k R
  induction k with
  | zero => exact ⟨fun _ _ => rfl, rfl, fun _ _ _ => rfl, fun g0 => g0⟩
  | succ k ih =>
    obtain ⟨i1, i2, i3, i4⟩ := ih
    refine ⟨fun q hq => ?_, i2, fun a b hab => ?_, fun g0 => ?_⟩
    · show z_u (z_u (z_u (z_u (y_ca h aw k R).1 115 _) 116 _) 117 _) 118 _ q = _
      rw [z_un (by omega), z_un (by omega), z_un (by omega), z_un (by omega), i1 q hq]
    · show z_v (y_ca h aw k R).2.2 41 97 _ a b = _
      rw [z_vn hab, i3 a b hab]
    · show z_v (y_ca h aw k R).2.2 41 97 _ 41 97 = _
      rw [z_vk]
      rfl
/-- the continuation's function made -/
def y_pf (hi h F th cu aw : Nat) (fu : Int32) (R : z_RS) : z_RS := (z_u (z_u (z_u (y_nf F th (-1) (-1) (y_cs hi fu R)).1 121 ((F, nI aw) :: R.1 121)) 122 ((F, nI (hi - h)) :: (y_nf F th (-1) (-1) (y_cs hi fu R)).1 122)) 123 ((F, nI (cu + 1)) :: R.1 123), R.2.1, z_v (y_nf F th (-1) (-1) (y_cs hi fu R)).2.2 41 99 (nI (th + 1 + (cu + 1))))
theorem y_pf_n {k h cu aw : Nat} (hk : k ≠ 99) : (y_pf hi h F th cu aw fu R).2.2 41 k = (y_nf F th (-1) (-1) (y_cs hi fu R)).2.2 41 k := by
  show z_v (y_nf F th (-1) (-1) (y_cs hi fu R)).2.2 41 99 (nI (th + 1 + (cu + 1))) 41 k = _
  exact z_vn (fun e => hk e.2)
/-- the clause's frame begun -/
def y_pc (hi h F th cu aw dp m : Nat) (fu : Int32) (R : z_RS) : z_RS := y_pt h (9, nI m, 0, -1) (y_iv 100 (nI (dp - cu)) (y_iv 96 (nI h) (y_ca h aw (hi - h) (y_pf hi h F th cu aw fu R))))
theorem y_g6 {h cu nd qi aw : Nat} {r : List Nat} {Lv : Nat → Prop} {hi' : Nat} (hV : y_Vl hi 6 m vv nm v R) (hl : ¬ n - (R.2.2 41 98 - f0) = 0) (h98 : R.2.2 41 98 = fu) (h68 : z_fn 0 (R.1 68) m = e) (hh : h < hi) (hn : ∀ j, h < j → j < hi → y_hd R e j (-1)) (h8 : z_fn 0 (R.1 111) h = 8) (h112 : z_fn 0 (R.1 112) h = nI nd) (hnd : nd < 600) (hr : y_cl R.1 (z_fn 0 (R.1 60) nd) r) (hq : y_fd R.1 e r = nI qi) (hqi : qi < 300) (hcu : y_ct R (h + 1) (hi - (h + 1)) = cu) (h99 : R.2.2 41 99 = nI th) (ht : th + 1 + (cu + 1) ≤ 1000) (h114 : R.2.2 41 114 = nI F) (hF : F ≤ 1000) (h97 : R.2.2 41 97 = nI aw) (haw : aw + (hi - h) ≤ 340000) (h100 : R.2.2 41 100 = nI dp) (hdp : cu + 1 ≤ dp) (ha : y_As (z_fn 0 (R.1 114) h) hi' (F + 1) Lv (y_pc hi h F th cu aw dp m fu R)) : ∃ R' j, y_Nd (z_fn 0 (R.1 73) qi) (z_fn 0 (R.1 74) qi) v (z_fn 0 (R.1 114) h) Lv (y_pc hi h F th cu aw dp m fu R) R' j ∧ ∀ (Lv' : Nat → Prop) hi'' F', y_As (nI j) hi'' F' Lv' R' → ∃ R'' j', y_Nd (z_fn 0 (R.1 75) qi) (z_fn 0 (R.1 76) qi) (nI F) (nI j) Lv' R' R'' j' ∧ ∀ Q, y_RL n f0 1 (y_wk (z_fn 0 (R.1 77) qi) (nI j') R'') Q → y_RL n f0 1 R Q := by
  have h5 := hV.2.2.2.2.1.1
  have cq : (nI qi).toNatClampNeg = qi := nI_clamp (by omega)
  have zq : z_in (nI qi) 300 = true := z_inI hqi (by decide)
  have cj : (nI h).toNatClampNeg = h := nI_clamp (by omega)
  have zj : z_in (nI h) 140000 = true := z_inI (by omega) (by decide)
  have cF : (nI F).toNatClampNeg = F := nI_clamp (by omega)
  have zF : z_in (nI F) 1001 = true := z_inI (by omega) (by decide)
  obtain ⟨x, R', hr1, j, rfl, hn1⟩ := ha.nd (l := 6) (x1 := z_fn 0 (R.1 73) qi) (x2 := z_fn 0 (R.1 74) qi) (x3 := v) (Q := fun x R' => ∃ j, x = some (.int (nI j)) ∧ y_Nd (z_fn 0 (R.1 73) qi) (z_fn 0 (R.1 74) qi) v (z_fn 0 (R.1 114) h) Lv (y_pc hi h F th cu aw dp m fu R) R' j) (fun R' j q => ⟨j, rfl, q⟩)
  refine ⟨R', j, hn1, fun Lv' hi'' F' ha2 => ?_⟩
  obtain ⟨x, R'', hr2, j', rfl, hn2⟩ := ha2.nd (l := 6) (x1 := z_fn 0 (R.1 75) qi) (x2 := z_fn 0 (R.1 76) qi) (x3 := nI F) (Q := fun x R'' => ∃ j', x = some (.int (nI j')) ∧ y_Nd (z_fn 0 (R.1 75) qi) (z_fn 0 (R.1 76) qi) (nI F) (nI j) Lv' R' R'' j') (fun R' j q => ⟨j, rfl, q⟩)
  refine ⟨R'', j', hn2, fun Q k => ?_⟩
  refine y_g6b hV hl h98 h68 hh hn h8 h112 hnd hr hq hqi hcu ?_
  have i99 : (y_cs hi fu R).2.2 41 99 = nI th := (y_cs_n (by decide) (by decide)).trans h99
  have i114 : (y_cs hi fu R).2.2 41 114 = nI F := (y_cs_n (by decide) (by decide)).trans h114
  have i97 : (y_cs hi fu R).2.2 41 97 = nI aw := (y_cs_n (by decide) (by decide)).trans h97
  have i96 : (y_cs hi fu R).2.2 41 96 = nI hi := y_cs_96
  have i100 : (y_cs hi fu R).2.2 41 100 = nI dp := (y_cs_n (by decide) (by decide)).trans h100
  unfold p217_115
  rw [i99, show nI th + 1 = nI (th + 1) from z_nI2 (i := th) (k := 1), show nI cu + 1 = nI (cu + 1) from z_nI2 (i := cu) (k := 1), z_nI2, if_pos (show nI (th + 1 + (cu + 1)) ≤ 1000 from nI_le (b := 1000) ht (by decide))]
  unfold p217_139
  rw [cj, show z_fn 0 (R.1 112) h = nI nd from h112]
  refine ⟨zj, r218 (R := y_cs hi fu R) (r := r) hnd hr ⟨_, rfl, ?_⟩⟩
  rw [show y_fd (y_cs hi fu R).1 e r = nI qi from hq]
  unfold p217_151
  rw [cj]
  refine ⟨zj, r209 (R := y_cs hi fu R) i114 i99 hF ⟨_, rfl, ?_⟩⟩
  have n97 : (y_nf F th (-1) (-1) (y_cs hi fu R)).2.2 41 97 = nI aw := (y_nf_n (by decide) (by decide)).trans i97
  have n96 : (y_nf F th (-1) (-1) (y_cs hi fu R)).2.2 41 96 = nI hi := (y_nf_n (by decide) (by decide)).trans i96
  have n99 : (y_nf F th (-1) (-1) (y_cs hi fu R)).2.2 41 99 = nI (th + 1) := by
    show z_v (z_v (y_cs hi fu R).2.2 41 114 (nI (F + 1))) 41 99 (nI (th + 1)) 41 99 = _
    exact z_vk
  have n100 : (y_nf F th (-1) (-1) (y_cs hi fu R)).2.2 41 100 = nI dp := (y_nf_n (by decide) (by decide)).trans i100
  unfold p217_168
  rw [cF, n97, n96, n99, z_nI2, pk_sub (by omega)]
  refine ⟨zF, zF, zF, ?_⟩
  show z_WR 10 217 219 _ [] (y_pf hi h F th cu aw fu R) _
  obtain ⟨P, hP⟩ : ∃ X, X = y_pf hi h F th cu aw fu R := ⟨_, rfl⟩
  have p97 : P.2.2 41 97 = nI aw := by rw [hP]; exact (y_pf_n (by decide)).trans n97
  have p96 : P.2.2 41 96 = nI hi := by rw [hP]; exact (y_pf_n (by decide)).trans n96
  have p100 : P.2.2 41 100 = nI dp := by rw [hP]; exact (y_pf_n (by decide)).trans n100
  have pB : ∀ q, q < 119 → P.1 q = R.1 q := by
    intro q hq
    rw [hP]
    show z_u (z_u (z_u (z_u (z_u (z_u (z_u R.1 119 _) 120 _) 122 _) 124 _) 121 _) 122 _) 123 _ q = R.1 q
    rw [z_un (by omega), z_un (by omega), z_un (by omega), z_un (by omega), z_un (by omega), z_un (by omega), z_un (by omega)]
  have last : ∀ x9 : Int32, p217_308 9 (y_ca h aw (hi - h) P).1 (y_ca h aw (hi - h) P).2.1 (y_ca h aw (hi - h) P).2.2 (nI m) v e (nI h) (nI (cu + 1)) (nI qi) (z_fn 0 (R.1 114) h) (nI F) x9 (fun x R1 => x = none ∧ p214_283 10 R1.1 R1.2.1 R1.2.2 (n - (R.2.2 41 98 - f0)) (nI hi) (nI m) nm v (y_Ps n f0 Q)) := by
    intro x9
    obtain ⟨o1, o2, o3, o4⟩ := y_ca.o (h := h) (aw := aw) (hi - h) P
    unfold p217_308
    rw [o3 41 100 (by decide), p100, pk_sub (by omega), show nI (dp - (cu + 1)) + 1 = nI (dp - cu) by rw [show nI (dp - (cu + 1)) + 1 = nI (dp - (cu + 1) + 1) from z_nI2 (i := dp - (cu + 1)) (k := 1)]; congr 1; omega]
    refine r207 (R := y_iv 100 (nI (dp - cu)) (y_iv 96 (nI h) (y_ca h aw (hi - h) P))) (hi := h) ((y_iv_n (by decide)).trans y_iv_k) (by omega) ⟨rfl, ?_⟩
    rw [show y_pt h (9, nI m, 0, -1) (y_iv 100 (nI (dp - cu)) (y_iv 96 (nI h) (y_ca h aw (hi - h) P))) = y_pc hi h F th cu aw dp m fu R by rw [hP]; rfl]
    have c1 : ∀ q, q < 98 → (y_pc hi h F th cu aw dp m fu R).1 q = R.1 q := by
      intro q hq
      show z_u (z_u (z_u (z_u (y_ca h aw (hi - h) (y_pf hi h F th cu aw fu R)).1 111 _) 112 _) 113 _) 114 _ q = _
      rw [z_un (by omega), z_un (by omega), z_un (by omega), z_un (by omega), ← hP, o1 q (by omega), pB q (by omega)]
    unfold p217_336
    rw [cq, c1 73 (by decide), c1 74 (by decide)]
    refine ⟨zq, zq, _, R', hr1, nI j, rfl, ?_⟩
    have d1 : ∀ q, q < 98 → R'.1 q = R.1 q := fun q hq => (hn1.2.2.1 q (Or.inl hq)).trans (c1 q hq)
    unfold p217_357
    rw [cq, d1 75 (by decide), d1 76 (by decide), d1 77 (by decide)]
    refine ⟨zq, zq, zq, _, R'', hr2, nI j', rfl, ?_⟩
    unfold p217_389
    refine r208 ⟨rfl, ?_⟩
    unfold p217_392 p214_283
    exact ⟨rfl, y_ps1 (R := y_wk (z_fn 0 (R.1 77) qi) (nI j') R'') k⟩
  have loop : ∀ d j, j + d = hi - h → z_WR 10 217 219 [(0, .ref 148), (1, .int (nI m)), (2, .int v), (3, .int e), (4, .int (nI h)), (5, .int (nI (cu + 1))), (6, .int (nI qi)), (7, .int (z_fn 0 (R.1 114) h)), (8, .int (nI F)), (9, .int (nI (h + j)))] [] (y_ca h aw j P) (fun x R1 => x = none ∧ p214_283 10 R1.1 R1.2.1 R1.2.2 (n - (R.2.2 41 98 - f0)) (nI hi) (nI m) nm v (y_Ps n f0 Q)) := by
    intro d
    induction d with
    | zero =>
      intro j hj
      have hj : j = hi - h := hj
      subst hj
      obtain ⟨o1, o2, o3, o4⟩ := y_ca.o (h := h) (aw := aw) (hi - h) P
      refine t217_219 (l := 9) (B := (y_ca h aw (hi - h) P).1) (M := (y_ca h aw (hi - h) P).2.1) (U := (y_ca h aw (hi - h) P).2.2) ?_
      unfold p217_219
      rw [o3 41 96 (by decide), p96, if_pos (nI_le (by omega) (by omega))]
      exact last _
    | succ d ih =>
      intro j hj
      obtain ⟨o1, o2, o3, o4⟩ := y_ca.o (h := h) (aw := aw) j P
      have zx : z_in (nI (h + j)) 140000 = true := z_inI (by omega) (by decide)
      have zy : z_in (nI (aw + j)) 340000 = true := z_inI (by omega) (by decide)
      refine t217_219 (l := 9) (B := (y_ca h aw j P).1) (M := (y_ca h aw j P).2.1) (U := (y_ca h aw j P).2.2) ?_
      unfold p217_219
      rw [o3 41 96 (by decide), p96, if_neg (nI_ge (by omega) (by omega))]
      unfold p217_228
      rw [o4 p97, nI_clamp (show h + j < 2 ^ 31 by omega), nI_clamp (show aw + j < 2 ^ 31 by omega), show nI (h + j) + 1 = nI (h + (j + 1)) from z_nI2 (i := h + j) (k := 1), show nI (aw + j) + 1 = nI (aw + j + 1) from z_nI2 (i := aw + j) (k := 1)]
      refine ⟨zx, zy, zx, zy, zx, zy, zx, zy, ?_⟩
      have := ih (j + 1) (by omega)
      rw [show y_ca h aw (j + 1) P = y_pa (aw + j) (y_do P (h + j)) (y_ca h aw j P) from rfl] at this
      unfold y_do at this
      rw [← o1 111 (by omega), ← o1 112 (by omega), ← o1 113 (by omega), ← o1 114 (by omega)] at this
      exact this
  have r' := loop (hi - h) 0 (Nat.zero_add _)
  rw [hP] at r'
  exact r'
end YRE
