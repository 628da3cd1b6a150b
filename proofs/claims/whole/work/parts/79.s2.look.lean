/-! Lexing (reference): look, next, whole. -/
section ZLX8
variable {L : Nat} {xs : Nat → Int32} {fv : Value} {f w : Nat} {c : Nat × Nat} {A : Nat → List (Nat × Int32)} {E : List (Nat × Option Nat)} {N : Nat → Nat} {V : Nat → Nat → Int32} {W : Nat} {g : List z_E} {B : Nat → List (Nat × Int32)} {M : Nat → List (Nat × Int64)} {U : Nat → Nat → Int32}
theorem s143 {b : Nat → Nat} {n p : Nat} (hT : z_Tr (B 44) b n) (hK : z_Ky (B 45)) (hU6 : U 41 6 = nI n) (hU : U 41 8 = nI p) (hp2 : p ≤ 2000) (hRm : z_Rm (hC A E N V W ++ (hR B M U ++ g), c)) (hf : 3 ≤ f) (hw : 200 ≤ w) : z_Ln L xs fv f w 143 0 [(0, .ref 148)] [] (hC A E N V W ++ (hR B M U ++ g), c) (.inl none) (hC A E N V W ++ (hR B M (z_U3 U (z_lw b n p) (nI (z_ll b n p)) (z_lv2 b n p (U 41 10))) ++ g), c) := by
  have hn := hT.1
  have m142 : z_pg.2.1 142 ≤ 40 := by decide +kernel
  have m144 : z_pg.2.1 144 ≤ 40 := by decide +kernel
  have m145 : z_pg.2.1 145 ≤ 40 := by decide +kernel
  have m146 : z_pg.2.1 146 ≤ 40 := by decide +kernel
  have m147 : z_pg.2.1 147 ≤ 40 := by decide +kernel
  have m148 : z_pg.2.1 148 ≤ 40 := by decide +kernel
  have e9 : z_v U 41 9 1 = z_U3 U (U 41 7) (nI 1) (U 41 10) := by
    have := z_U3_9 (U := U) (a := U 41 7) (b := U 41 9) (d := U 41 10) (x := 1)
    rw [z_U3_self] at this
    exact this
  refine b143_0 (v := z_ra b n p) hRm (by omega) (by omega) (by rw [hU]; exact s142 hT hU6 (by omega)) ?_
  by_cases h : p < n
  · obtain ⟨hb, -⟩ := hT.2 p h
    obtain ⟨q1, q2, q3, q4⟩ := z_Qr_bc (b p) hb
    obtain ⟨i45, -, -, -⟩ := z_nI_in (b p) hb
    obtain ⟨w1, w2⟩ := z_we_le (b := b) h
    have era : z_ra b n p = nI (b p) := if_pos h
    have ell : z_ll b n p = z_we b n p - p := if_pos h
    have elw : z_lw b n p = _ := if_neg (fun q => q h)
    rw [era, ell, elw]
    clear elw ell era
    refine b143_8t q4 ?_
    rw [e9]
    have hUU : ∀ a x d, (z_U3 U a x d) 41 8 = nI p := fun _ _ _ => hU
    by_cases hlt : z_Lt2 (b p) = true
    · rw [if_pos hlt]
      have hdg : ¬ (p < n ∧ z_Dg2 (b p) = true) := by
        intro q
        have h1 := hlt
        have h2 := q.2
        unfold z_Lt2 at h1
        unfold z_Dg2 at h2
        simp at h1 h2
        omega
      have elv : z_lv2 b n p (U 41 10) = U 41 10 := if_neg hdg
      rw [elv]
      have ewe : z_we b n p = z_go (fun c => z_Lt2 c || z_Dg2 c) b n (p + 1) := if_pos hlt
      obtain ⟨l, hl⟩ : ∃ l, l = z_we b n p - p := ⟨_, rfl⟩
      rw [← hl]
      have hpl : p + l = z_we b n p := by omega
      have body : z_Ln L xs fv f w 143 41 [(0, .ref 148), (1, .int (nI (b p)))] [] (hC A E N V W ++ (hR B M (z_U3 U (U 41 7) (nI 1) (U 41 10)) ++ g), c) (.inl none) (hC A E N V W ++ (hR B M (z_U3 U (if l ≤ 12 then (if z_kf b p l 17 ≤ 0 then (if z_Sm2 (b p) = true then 1 else 2) else z_kf b p l 17) else 5) (nI l) (U 41 10)) ++ g), c) := by
        refine s143c hT hU6 hU hRm (by omega) (by omega) l ?_ n 1 (by omega) h (by rw [← ewe, hpl])
        refine b143_111 (v := z_kf b p l 17) hRm (by omega) (by omega) (s147 hT (hUU _ _ _) rfl (by omega) hK) ?_
        by_cases h12 : l ≤ 12
        · rw [if_pos h12]
          refine b143_115t (nI_le (b := 12) h12 (by omega)) ?_
          by_cases h0 : z_kf b p l 17 ≤ 0
          · rw [if_pos h0]
            refine b143_130t h0 (b143_138 hRm (by omega) (by omega) s144 ?_)
            cases hs : z_Sm2 (b p) with
            | true =>
              rw [if_pos rfl]
              refine b143_142f (z_B1_t (q1.trans hs)) (b143_145 (b143_150 ?_))
              rw [z_U3_7]
              exact b143_321
            | false =>
              rw [if_neg (by decide)]
              refine b143_142t (z_B1_f (q1.trans hs)) (b143_149 (b143_150 ?_))
              rw [z_U3_7]
              exact b143_321
          · rw [if_neg h0]
            refine b143_130f h0 (b143_134 (b143_150 ?_))
            rw [z_U3_7]
            exact b143_321
        · rw [if_neg h12]
          refine b143_115f (nI_ge (a := 12) (by omega) (by omega)) (b143_126 (b143_150 ?_))
          rw [z_U3_7]
          exact b143_321
      refine b143_27 hRm (by omega) (by omega) s144 ?_
      cases hs : z_Sm2 (b p) with
      | true => exact b143_31t (z_B1_t (q1.trans hs)) (by rw [hs] at body; exact body)
      | false =>
        have hg : z_Gr2 (b p) = true := by
          rw [z_Lt_or, hs] at hlt
          exact hlt
        exact b143_31f (fun q => q (z_B1_f (q1.trans hs))) (b143_34 hRm (by omega) (by omega) s145 (b143_38f (z_B1_t (q2.trans hg)) (by rw [hs] at body; exact body)))
    · rw [if_neg hlt]
      have hsg : z_Sm2 (b p) = false ∧ z_Gr2 (b p) = false := by
        rw [z_Lt_or] at hlt
        exact Bool.or_eq_false_iff.mp (Bool.eq_false_iff.mpr hlt)
      refine b143_27 hRm (by omega) (by omega) s144 (b143_31f (fun q => q (z_B1_f (q1.trans hsg.1))) (b143_34 hRm (by omega) (by omega) s145 (b143_38t (z_B1_f (q2.trans hsg.2)) ?_)))
      refine b143_156 hRm (by omega) (by omega) s146 ?_
      by_cases hdg : z_Dg2 (b p) = true
      · rw [if_pos hdg]
        have elv : z_lv2 b n p (U 41 10) = z_nr b p (min (z_we b n p - p) 9) := if_pos ⟨h, hdg⟩
        rw [elv]
        have ewe : z_we b n p = z_go z_Dg2 b n (p + 1) := (if_neg hlt).trans (if_pos hdg)
        obtain ⟨l, hl⟩ : ∃ l, l = z_we b n p - p := ⟨_, rfl⟩
        rw [← hl]
        have hpl : p + l = z_we b n p := by omega
        refine b143_160f (z_B1_t (q3.trans hdg)) (b143_163 ?_)
        rw [z_U3_10, z_U3_9]
        refine s143d hT hU6 hU hRm (by omega) (by omega) l ?_ n 0 (by omega) (by omega) (by rw [Nat.add_zero, z_go_t h hdg, ← ewe, hpl])
        by_cases h9 : l ≤ 9
        · rw [if_pos h9]
          refine b143_250t (nI_le (b := 9) h9 (by omega)) (b143_264 (b143_265 ?_))
          rw [z_U3_7]
          exact b143_321
        · rw [if_neg h9]
          refine b143_250f (nI_ge (a := 9) (by omega) (by omega)) (b143_260 (b143_265 ?_))
          rw [z_U3_7]
          exact b143_321
      · rw [if_neg hdg]
        have elv : z_lv2 b n p (U 41 10) = U 41 10 := if_neg (fun q => hdg q.2)
        rw [elv]
        have ewe : z_we b n p = (if b p = 45 ∧ p + 1 < n ∧ b (p + 1) = 62 then p + 2 else p + 1) := (if_neg hlt).trans (if_neg hdg)
        rw [ewe]
        refine b143_160t (z_B1_f (q3.trans (Bool.eq_false_iff.mpr hdg))) ?_
        by_cases ha : b p = 45 ∧ p + 1 < n ∧ b (p + 1) = 62
        · rw [if_pos ha, if_pos ha, show p + 2 - p = 2 by omega]
          have ev : z_ra b n (p + 1) = 62 := by
            unfold z_ra
            rw [if_pos ha.2.1, ha.2.2]
            rfl
          refine b143_271f (fun q => q (i45.mpr ha.1)) (b143_277 (v := z_ra b n (p + 1)) hRm (by omega) (by omega) (by rw [hUU, nI_1]; exact s142 hT hU6 (by omega)) (b143_287f (fun q => q ev) (b143_292 ?_)))
          rw [z_U3_7, z_U3_9]
          exact b143_321
        · rw [if_neg ha, if_neg ha, show p + 1 - p = 1 by omega]
          have sig : z_Ln L xs fv f w 143 305 [(0, .ref 148), (1, .int (nI (b p)))] [] (hC A E N V W ++ (hR B M (z_U3 U (U 41 7) (nI 1) (U 41 10)) ++ g), c) (.inl none) (hC A E N V W ++ (hR B M (z_U3 U (if z_Sg (nI (b p)) = true then nI (b p) else 5) (nI 1) (U 41 10)) ++ g), c) := by
            refine b143_305 hRm (by omega) (by omega) s148 ?_
            cases hs : z_Sg (nI (b p)) with
            | true =>
              rw [if_pos rfl]
              refine b143_310f (z_B1_t rfl) (b143_313 (b143_318 ?_))
              rw [z_U3_7]
              exact b143_321
            | false =>
              rw [if_neg (by decide)]
              refine b143_310t (z_B1_f rfl) (b143_317 (b143_318 ?_))
              rw [z_U3_7]
              exact b143_321
          by_cases h45 : b p = 45
          · refine b143_271f (fun q => q (i45.mpr h45)) (b143_277 (v := z_ra b n (p + 1)) hRm (by omega) (by omega) (by rw [hUU, nI_1]; exact s142 hT hU6 (by omega)) (b143_287t (fun q => ha ⟨h45, ?_⟩) sig))
            unfold z_ra at q
            by_cases h1 : p + 1 < n
            · rw [if_pos h1] at q
              exact ⟨h1, (z_nI_in _ (hT.2 _ h1).1).2.1.mp q⟩
            · rw [if_neg h1] at q
              exact absurd q (by decide)
          · exact b143_271t (fun q => h45 (i45.mp q)) sig
  · have era : z_ra b n p = -1 := if_neg h
    have ell : z_ll b n p = 1 := if_neg h
    have elw : z_lw b n p = 0 := if_pos h
    have elv : z_lv2 b n p (U 41 10) = U 41 10 := if_neg (fun q => h q.1)
    rw [era, ell, elw, elv]
    refine b143_8f (fun q => q rfl) ?_
    rw [e9]
    refine b143_19 ?_
    rw [z_U3_7]
    exact b143_321
end ZLX8
