/-! Lexing: both lexers agree, word by word. -/
theorem z_k1_or {b : Nat → Nat} {p l : Nat} (hl : 1 ≤ l) : (∃ k, 5 ≤ k ∧ k < 37 ∧ z_mt k b p l = true ∧ z_k1 b p l = k) ∨ ((∀ k, k < 37 → z_mt k b p l = false) ∧ z_k1 b p l = (if z_Lt2 (b p) = true ∧ l ≤ 12 then (if 97 ≤ b p ∧ b p < 128 then 2 else 3) else 1)) := by
  by_cases h : ∃ k, k < 37 ∧ z_mt k b p l = true
  · obtain ⟨k, hk, hm⟩ := h
    have h5 : 5 ≤ k := by
      obtain ⟨a1, -⟩ := z_mt_first hl hm
      rcases z_wls_low k hk with ⟨e, -⟩ | ⟨e, q1, q2⟩ | ⟨e, -⟩
      · rw [e] at a1
        exact absurd a1 (by simp; omega)
      · by_cases h5 : 5 ≤ k
        · exact h5
        · exfalso
          have : ∀ k, k < 5 → (z_wls.getD k []).length = 0 := by decide
          rw [this k (by omega)] at a1
          omega
      · omega
    exact Or.inl ⟨k, h5, hk, hm, z_rs_some hk h5 hm 37 (Nat.le_refl _) (by omega)⟩
  · have h' : ∀ k, k < 37 → z_mt k b p l = false := fun k hk => Bool.eq_false_iff.mpr (fun q => h ⟨k, hk, q⟩)
    exact Or.inr ⟨h', z_rs_none h' 37 (Nat.le_refl _)⟩
theorem z_kd_pos {b : Nat → Nat} {n p : Nat} (h : p < n) : ¬ z_kd b n p = 0 := by
  obtain ⟨w1, w2⟩ := z_we_le (b := b) h
  unfold z_kd
  split
  · split <;> omega
  · rcases z_k1_or (b := b) (p := p) (l := z_we b n p - p) (by omega) with ⟨k, k5, -, -, e⟩ | ⟨-, e⟩
    · omega
    · rw [e]
      split
      · split <;> omega
      · omega
theorem z_sg_ex : ∀ c, c < 256 → z_Sg (nI c) = true → ∃ k, k < 37 ∧ 5 ≤ k ∧ z_wls.getD k [] = [c] ∧ z_wco k = nI c := by
  intro c hc h
  have : ∀ c, c < 256 → z_Sg (nI c) = true → (List.range 37).any (fun k => decide (5 ≤ k) && (z_wls.getD k [] == [c]) && decide (z_wco k = nI c)) = true := by decide +kernel
  have h2 := this c hc h
  rw [List.any_eq_true] at h2
  obtain ⟨k, hk, hq⟩ := h2
  rw [Bool.and_eq_true, Bool.and_eq_true] at hq
  exact ⟨k, List.mem_range.mp hk, of_decide_eq_true hq.1.1, eq_of_beq hq.1.2, of_decide_eq_true hq.2⟩
theorem z_sg_one : ∀ k, k < 37 → (z_wls.getD k []).length = 1 → z_Sg (nI ((z_wls.getD k []).getD 0 0)) = true := by decide +kernel
theorem z_Sm_lt {c : Nat} (h : z_Lt2 c = true) : (97 ≤ c ∧ c < 128) ↔ z_Sm2 c = true := by
  unfold z_Lt2 at h
  unfold z_Sm2
  simp at h ⊢
  omega
/-- the reference's word is the class's kind -/
theorem z_agree {b : Nat → Nat} {n p : Nat} (h : p < n) (hb : b p < 256) : z_lw b n p = z_wco (z_kd b n p) := by
  obtain ⟨w1, w2⟩ := z_we_le (b := b) h
  have elw : z_lw b n p = _ := if_neg (fun q => q h)
  rw [elw]
  clear elw
  by_cases hlt : z_Lt2 (b p) = true
  · rw [if_pos hlt]
    have hdg : ¬ z_Dg2 (b p) = true := by
      intro h2
      have h1 := hlt
      unfold z_Lt2 at h1
      unfold z_Dg2 at h2
      simp at h1 h2
      omega
    have ekd : z_kd b n p = z_k1 b p (z_we b n p - p) := if_neg hdg
    rw [ekd]
    obtain ⟨l, hl⟩ : ∃ l, l = z_we b n p - p := ⟨_, rfl⟩
    rw [← hl]
    rcases z_k1_or (b := b) (p := p) (l := l) (by omega) with ⟨k, k5, k37, hm, e⟩ | ⟨hno, e⟩
    · rw [e]
      obtain ⟨a1, a2⟩ := z_mt_first (by omega) hm
      have k20 : 20 ≤ k ∧ l ≤ 12 := by
        rcases z_wls_low k k37 with ⟨-, q⟩ | ⟨-, q, -⟩ | ⟨q1, -, q2⟩
        · omega
        · rw [← a2, hlt] at q
          cases q
        · exact ⟨q1, by omega⟩
      rw [if_pos k20.2]
      rcases z_kf_or (b := b) (p := p) (l := l) 17 (Nat.le_refl _) with ⟨j, -, j17, jm, je⟩ | ⟨q1, -⟩
      · have hjk : 20 + j = k := z_mt_one k37 k5 (by omega) hm jm
        obtain ⟨r1, r2⟩ := z_wco_key j j17
        rw [je, if_neg r2, ← hjk, r1]
      · have := q1 (k - 20) (by omega) (by omega)
        rw [show 20 + (k - 20) = k by omega, hm] at this
        cases this
    · rw [e]
      have hkf : z_kf b p l 17 = -1 := by
        rcases z_kf_or (b := b) (p := p) (l := l) 17 (Nat.le_refl _) with ⟨j, -, j17, jm, -⟩ | ⟨-, q⟩
        · rw [hno (20 + j) (by omega)] at jm
          cases jm
        · exact q
      by_cases h12 : l ≤ 12
      · rw [if_pos h12, hkf, if_pos (by decide : (-1 : Int32) ≤ 0), if_pos (show z_Lt2 (b p) = true ∧ l ≤ 12 from ⟨hlt, h12⟩)]
        by_cases hs : z_Sm2 (b p) = true
        · rw [if_pos hs, if_pos ((z_Sm_lt hlt).mpr hs)]
          rfl
        · rw [if_neg hs, if_neg (fun q => hs ((z_Sm_lt hlt).mp q))]
          rfl
      · rw [if_neg h12, if_neg (fun q => h12 q.2)]
        rfl
  · rw [if_neg hlt]
    by_cases hdg : z_Dg2 (b p) = true
    · rw [if_pos hdg]
      have ekd : z_kd b n p = (if z_we b n p - p ≤ 9 then 4 else 1) := if_pos hdg
      rw [ekd]
      by_cases h9 : z_we b n p - p ≤ 9
      · rw [if_pos h9, if_pos h9]
        rfl
      · rw [if_neg h9, if_neg h9]
        rfl
    · rw [if_neg hdg]
      have ekd : z_kd b n p = z_k1 b p (z_we b n p - p) := if_neg hdg
      have ewe : z_we b n p = (if b p = 45 ∧ p + 1 < n ∧ b (p + 1) = 62 then p + 2 else p + 1) := (if_neg hlt).trans (if_neg hdg)
      rw [ekd]
      by_cases ha : b p = 45 ∧ p + 1 < n ∧ b (p + 1) = 62
      · rw [if_pos ha] at ewe ⊢
        have hm : z_mt 19 b p (z_we b n p - p) = true := by
          rw [z_mt_iff, ewe]
          refine ⟨by show 2 = _; omega, fun j hj => ?_⟩
          have hj2 : j < 2 := hj
          rcases (by omega : j = 0 ∨ j = 1) with e | e
          · subst e
            exact ha.1
          · subst e
            exact ha.2.2
        have e : z_k1 b p (z_we b n p - p) = 19 := z_rs_some (by decide) (by decide) hm 37 (Nat.le_refl _) (by decide)
        rw [e]
        rfl
      · rw [if_neg ha] at ewe ⊢
        rw [ewe, show p + 1 - p = 1 by omega]
        by_cases hs : z_Sg (nI (b p)) = true
        · rw [if_pos hs]
          obtain ⟨k, k37, k5, k1, k2⟩ := z_sg_ex (b p) hb hs
          have hm : z_mt k b p 1 = true := by
            rw [z_mt_iff, k1]
            refine ⟨rfl, fun j hj => ?_⟩
            have hj2 : j < 1 := hj
            have : j = 0 := by omega
            subst this
            rfl
          have e : z_k1 b p 1 = k := z_rs_some k37 k5 hm 37 (Nat.le_refl _) (by omega)
          rw [e, k2]
        · rw [if_neg hs]
          have hno : ∀ k, k < 37 → z_mt k b p 1 = false := by
            intro k hk
            refine Bool.eq_false_iff.mpr (fun q => hs ?_)
            obtain ⟨a1, a2⟩ := z_mt_first (Nat.le_refl _) q
            rw [a2]
            exact z_sg_one k hk a1
          have e : z_k1 b p 1 = _ := z_rs_none hno 37 (Nat.le_refl _)
          rw [e, if_neg (fun q => hlt q.1)]
          rfl
