/-! All that the plain machine's soundness asks of this program. -/
theorem z_Cl_ok : z_Cl z_cl z_fty z_ws := by
  have key : ∀ (ci : Nat) (C : String) (T : u_T) (N : Nat), z_cl[ci]? = some (C, T, N) → (∀ w ∈ u_ws C T N, w ∈ z_wn) → (∀ w ∈ u_ws C T N, w ∈ z_ws) := fun _ _ _ _ _ h w hw => List.mem_append_right _ (List.mem_append_left _ (h w hw))
  intro ci C T N h
  match ci, h with
  | 0, h => cases h; exact ⟨key 0 _ _ _ rfl (by decide +kernel), zt_0_ok, zn_0⟩
  | 1, h => cases h; exact ⟨key 1 _ _ _ rfl (by decide +kernel), zt_1_ok, zn_1⟩
  | 2, h => cases h; exact ⟨key 2 _ _ _ rfl (by decide +kernel), zt_2_ok, zn_2⟩
  | 3, h => cases h; exact ⟨key 3 _ _ _ rfl (by decide +kernel), zt_3_ok, zn_3⟩
  | 4, h => cases h; exact ⟨key 4 _ _ _ rfl (by decide +kernel), zt_4_ok, zn_4⟩
  | 5, h => cases h; exact ⟨key 5 _ _ _ rfl (by decide +kernel), zt_5_ok, zn_5⟩
  | 6, h => cases h; exact ⟨key 6 _ _ _ rfl (by decide +kernel), zt_6_ok, zn_6⟩
  | 7, h => cases h; exact ⟨key 7 _ _ _ rfl (by decide +kernel), zt_7_ok, zn_7⟩
  | 8, h => cases h; exact ⟨key 8 _ _ _ rfl (by decide +kernel), zt_8_ok, zn_8⟩
  | 9, h => cases h; exact ⟨key 9 _ _ _ rfl (by decide +kernel), zt_9_ok, zn_9⟩
  | 10, h => cases h; exact ⟨(fun w hw => by cases hw), fun k hk => absurd hk (Nat.not_lt_zero _), fun a ha => absurd ha (Nat.not_lt_zero _)⟩
  | 11, h => cases h; exact ⟨(fun w hw => by cases hw), fun k hk => absurd hk (Nat.not_lt_zero _), fun a ha => absurd ha (Nat.not_lt_zero _)⟩
  | n + 12, h => simp [z_cl] at h
theorem z_cN_ok : ∀ ci C T N, z_cl[ci]? = some (C, T, N) → z_cN ci = N := by
  intro ci C T N h
  match ci, h with
  | 0, h => cases h; rfl
  | 1, h => cases h; rfl
  | 2, h => cases h; rfl
  | 3, h => cases h; rfl
  | 4, h => cases h; rfl
  | 5, h => cases h; rfl
  | 6, h => cases h; rfl
  | 7, h => cases h; rfl
  | 8, h => cases h; rfl
  | 9, h => cases h; rfl
  | 10, h => cases h; rfl
  | 11, h => cases h; rfl
  | n + 12, h => simp [z_cl] at h
theorem z_st_ok (L : Nat) (xs : Nat → Int32) (fv : Value) : ∀ j v, (z_g L xs fv).2.2.2.2.1 j = some v → ∃ C n d, (z_stl fv)[j]? = some (C, n, d, v) := by
  intro j v h
  have h : ((z_stl fv)[j]?).map (fun q => q.2.2.2) = some v := h
  cases hq : (z_stl fv)[j]? with
  | none => rw [hq] at h; cases h
  | some q =>
    rw [hq] at h
    obtain ⟨a, b, d, v'⟩ := q
    cases h
    exact ⟨a, b, d, rfl⟩
theorem z_co0 : decode z_co 0 = .ok (.aload_n 0, 1) := by decide +kernel
theorem z_co1 : decode z_co 1 = .ok (.getfield 7, 3) := by decide +kernel
theorem z_co4 : decode z_co 4 = .ok (.ireturn, 1) := by decide +kernel
theorem z_ordw : ∀ w ∈ ([.sameMethod "FiberWorks$Word" "java/lang/Enum" "ordinal" "()I", .selects "FiberWorks$Word" ⟨"FiberWorks$Word", "ordinal", "()I"⟩ z_yo, .instanceMethod z_yo, .initialized "java/lang/Enum", .fieldLink "java/lang/Enum" 7 "java/lang/Enum" "ordinal" "I", .native arraycopyName, .static arraycopyName, .initialized "java/lang/System"] : List Cond), w ∈ z_wn := by decide +kernel
theorem z_mtww : ∀ w ∈ ([.static Lib.Math.max.name, .static Lib.Math.min.name, .initialized "java/lang/Math"] : List Cond), w ∈ z_wn := by decide +kernel
theorem z_wnw {w : Cond} (h : w ∈ z_wn) : w ∈ z_ws := List.mem_append_right _ (List.mem_append_left _ h)
theorem z_cfs {U : State} (o n d : String) : ∀ x, U.fieldFound? o n d = some x → U.fieldFound? o n d = some x := fun _ h => h
set_option maxHeartbeats 4000000 in
theorem z_hyp {l : Launch} (htr : ∀ e, l.admits e → e.platform.stackTraces = false) {L : Nat} {xs : Nat → Int32} {fv : Value} {sz : Nat} {ad : Nat → Nat} {D : va_G} {dA : Nat → ClassId} (had : ∀ i, ad (107 + i) = sz + i) (hlo : ∀ i, i < 37 → ad i < sz) (hinj : ∀ i j, i < 37 → j < 37 → ad i = ad j → i = j) :
    z_Hyp l ad dA D z_cl z_ws sz (z_g L xs fv) z_pg (z_bj (z_g L xs fv)) z_my z_mb (z_stl fv) "FiberWorks$Word" (z_Wo L xs fv sz ad D dA) := by
  refine ⟨had, hlo, hinj, z_Cl_ok, z_cN_ok, z_st_ok L xs fv, rfl, z_gd, fun U h b hb => h.2.2.2.2.2.2.2.2.2.1 b hb, fun U h ca cb ra rb _ _ hn => ?_, z_okp fv, htr, fun U h => h.1, fun U V h h1 h2 h3 => z_Wo_mv ⟨h1, h2, h3⟩ h, ?_, ?_⟩
  · have hn : z_gnc ca cb = true := hn
    simp only [z_gnc, Bool.or_eq_true, Bool.and_eq_true, decide_eq_true_eq] at hn
    rcases hn with ⟨rfl, rfl⟩ | ⟨rfl, rfl⟩
    · exact h.2.2.2.2.2.2.2.2.2.2.1
    · exact h.2.2.2.2.2.2.2.2.2.2.2
  · intro p e R s m args below meth c H locs cells slots n0 s0 f w mi pc ls lv st S idx len ci q hcx hW hat hcd hc
    have h1 := List.all_eq_true.mp (z_allS mi) _ (z_look_mem hcd)
    simp only [z_isS, decide_eq_true_eq] at h1
    have hc' : 6 ≤ f ∧ 150 ≤ w ∧ z_wt st ≤ 8 ∧ S.1.length + 1 ≤ 601024 ∧ S.2 + 6 ≤ 7293034 := ⟨hc.2.1, hc.2.2.1, hc.2.2.2.1, hc.2.2.2.2.1, hc.2.2.2.2.2.1⟩
    have e1 : (S.1 ++ [(.inr (ci, []) : z_E)]).length - n0 = cells + 1 := by
      have := hat.2.2.2.2.1
      rw [List.length_append]
      show S.1.length + 1 - n0 = _
      omega
    have e2 : S.2 + 6 - s0 = slots + 6 := by
      have := hat.2.2.2.2.2.1
      omega
    rw [e1, e2]
    simp only [z_sites, List.mem_cons, List.not_mem_nil, or_false, Prod.mk.injEq] at h1
    rcases h1 with ⟨rfl, rfl, rfl, rfl, rfl⟩ | ⟨rfl, rfl, rfl, rfl, rfl⟩ | ⟨rfl, rfl, rfl, rfl, rfl⟩ | ⟨rfl, rfl, rfl, rfl, rfl⟩ | ⟨rfl, rfl, rfl, rfl, rfl⟩
    · exact z_site_0 had hcx hW hat hc'
    · exact z_site_1 had hcx hW hat hc'
    · exact z_site_2 had hcx hW hat hc'
    · exact z_site_3 had hcx hW hat hc'
    · exact z_site_4 had hcx hW hat hc'
  · intro p e R s m args below meth c H locs cells slots n0 s0 f w mi pc ls lv st st' S S' i len aux Q hcx hW hat hcd hB hc kk
    obtain ⟨hc1, hc2, hc3, hc4⟩ := hc
    obtain ⟨hx, hb, hml, hown, hts, hr, hlk, hnm, htb, htrc⟩ := hcx
    obtain ⟨hl, hP, hS, hn0, hce, hsl, hRc, hRs, hf, hw⟩ := hat
    have hRc : 601024 ≤ R.cells + n0 := hRc
    have hRs : 7293034 ≤ R.slots + s0 := hRs
    have h1 := List.all_eq_true.mp (z_allB mi) _ (z_look_mem hcd)
    have hdg := (z_okp fv mi pc i len aux hcd).1
    have hlen : S.1.length ≤ 601024 ∧ S.2 ≤ 7293034 ∧ z_bi (z_g L xs fv) i len aux lv st S = some (st', S') := by
      unfold z_bj at hB
      split at hB
      · rename_i hq
        exact ⟨hq.1, hq.2, hB⟩
      · cases hB
    obtain ⟨hl1, hl2, hB2⟩ := hlen
    clear hB
    obtain ⟨-, ho, -, -, -, -, w1, w2, w3, -⟩ := id hW
    unfold z_bi at hB2
    split at hB2
    · rename_i idx pl
      simp only [z_isB, Bool.and_eq_true, decide_eq_true_eq] at h1
      obtain ⟨rfl, h1⟩ := h1
      have hG : GoodIn z_ws (va_wsU (z_my mi).cls idx "FiberWorks$Word" "java/lang/Enum" ⟨"FiberWorks$Word", "ordinal", "()I"⟩ z_yo [.code z_yo z_co 1 (some .int), .fieldLink "java/lang/Enum" 7 "java/lang/Enum" "ordinal" "I"]) := by
        intro w hw
        simp only [va_wsU, List.cons_append, List.nil_append, List.mem_cons, List.not_mem_nil, or_false] at hw
        rcases hw with rfl | rfl | rfl | rfl | rfl | rfl | rfl
        · exact ⟨List.mem_of_getElem? h1, Or.inl rfl⟩
        · exact ⟨z_wnw (z_ordw _ (by simp)), Or.inl rfl⟩
        · exact ⟨z_wnw (z_ordw _ (by simp)), Or.inl rfl⟩
        · exact ⟨z_wnw (z_ordw _ (by simp)), Or.inl rfl⟩
        · exact ⟨z_wnw (z_ordw _ (by simp [z_yo])), Or.inl rfl⟩
        · exact ⟨List.mem_append_right _ (List.mem_append_right _ (List.mem_cons_of_mem _ List.mem_cons_self)), Or.inl rfl⟩
        · exact ⟨z_wnw (z_ordw _ (by simp)), Or.inl rfl⟩
      exact z_ord_ok (cW := "FiberWorks$Word") hx hb (hml.trans hl.1.symm) z_co0 z_co1 z_co4 hts hown hG (fun v hv => ⟨hW.1.2.2.2.2.2.1 v hv, ho v hv⟩) hP hS (by omega) (by omega) (by omega) (by omega) hdg hB2 kk
    · rename_i idx pl
      simp only [z_isB, Bool.and_eq_true, decide_eq_true_eq] at h1
      obtain ⟨rfl, h1⟩ := h1
      exact z_acp_ok (G := z_g L xs fv) had hx hb (hml.trans hl.1.symm) hown (hts _ (List.mem_of_getElem? h1)) (hts _ (z_wnw (z_ordw _ (by simp)))) (hts _ (z_wnw (z_ordw _ (by simp)))) (hts _ (z_wnw (z_ordw _ (by simp)))) hW.1.1 hP hS (by omega) (by omega) hdg hB2 kk
    · rename_i idx pl
      simp only [z_isB, Bool.and_eq_true, decide_eq_true_eq] at h1
      obtain ⟨rfl, h1⟩ := h1
      refine z_mth_ok hx hb (hml.trans hl.1.symm) hown (fun w hw => ?_) (by omega) (by omega) (by omega) (by omega) hdg hB2 (fun e => kk H locs (by rw [e]; exact hP) hS)
      have hw : w ∈ ([.methodLink (z_my mi).cls idx Lib.Math.max.name, .static Lib.Math.max.name, .initialized "java/lang/Math", .code Lib.Math.max.name Lib.Math.max.code 2 (some .int)] : List Cond) := hw
      simp only [List.mem_cons, List.not_mem_nil, or_false] at hw
      rcases hw with rfl | rfl | rfl | rfl
      · exact hts _ (List.mem_of_getElem? h1)
      · exact hts _ (z_wnw (z_mtww _ (by simp)))
      · exact hts _ (z_wnw (z_mtww _ (by simp)))
      · exact hts _ (List.mem_append_right _ (List.mem_append_right _ (List.mem_cons_of_mem _ (List.mem_cons_of_mem _ List.mem_cons_self))))
    · rename_i idx pl
      simp only [z_isB, Bool.and_eq_true, decide_eq_true_eq] at h1
      obtain ⟨rfl, h1⟩ := h1
      refine z_mth_ok hx hb (hml.trans hl.1.symm) hown (fun w hw => ?_) (by omega) (by omega) (by omega) (by omega) hdg hB2 (fun e => kk H locs (by rw [e]; exact hP) hS)
      have hw : w ∈ ([.methodLink (z_my mi).cls idx Lib.Math.min.name, .static Lib.Math.min.name, .initialized "java/lang/Math", .code Lib.Math.min.name Lib.Math.min.code 2 (some .int)] : List Cond) := hw
      simp only [List.mem_cons, List.not_mem_nil, or_false] at hw
      rcases hw with rfl | rfl | rfl | rfl
      · exact hts _ (List.mem_of_getElem? h1)
      · exact hts _ (z_wnw (z_mtww _ (by simp)))
      · exact hts _ (z_wnw (z_mtww _ (by simp)))
      · exact hts _ (List.mem_append_right _ (List.mem_append_right _ (List.mem_cons_of_mem _ (List.mem_cons_of_mem _ (List.mem_cons_of_mem _ List.mem_cons_self)))))
    · simp only [z_isB, decide_eq_true_eq] at h1
      obtain rfl := h1
      exact z_kal_ok (G := z_g L xs fv) hx hb w1 hS hdg hB2 (fun e => kk H locs (by rw [e]; exact hP) hS)
    · simp only [z_isB, decide_eq_true_eq] at h1
      obtain rfl := h1
      exact z_kbl_ok (G := z_g L xs fv) hx hb w2 hS hdg hB2 (fun e => kk H locs (by rw [e]; exact hP) hS)
    · simp only [z_isB, decide_eq_true_eq] at h1
      obtain rfl := h1
      exact z_kln_ok (G := z_g L xs fv) hx hb w1 w2 hS hdg hB2 (fun e => kk H locs (by rw [e]; exact hP) hS)
    · rename_i idx k pl
      simp only [z_isB, Bool.and_eq_true, decide_eq_true_eq] at h1
      obtain ⟨rfl, h1⟩ := h1
      split at h1
      · rename_i q hq
        simp only [decide_eq_true_eq] at h1
        obtain ⟨o, n, d⟩ := q
        exact z_kgf_ok (G := z_g L xs fv) hx hb (fun a v hv => w3 a k v o n d hq hv) hS hown (hts _ (List.mem_of_getElem? h1)) (z_cfs o n d) hdg hB2 (fun e => kk H locs (by rw [e]; exact hP) hS)
      · cases h1
    · cases hB2
