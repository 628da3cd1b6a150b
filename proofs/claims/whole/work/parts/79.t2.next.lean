/-! Lexing: the class's toNext and the reference's next, together. -/
/-- the class looks at word j, which is t -/
def z_Vn (V : Nat → Nat → Int32) (j : Nat) (t : Nat × Nat × Int32) : Nat → Nat → Int32 := z_v (z_v (z_v V 3 7 (nI j)) 3 9 (nI t.1)) 3 10 t.2.2
/-- the class has a fault -/
def z_Vf (V : Nat → Nat → Int32) (k p : Int32) : Nat → Nat → Int32 := z_v (z_v V 2 0 k) 2 1 p
theorem z_fitW {y : Nat} : z_fit (z_fty 2 8) (.ref y) = true := by
  unfold z_fit
  rw [Bool.and_eq_true]
  exact ⟨decide_eq_true rfl, rfl⟩
section ZLXT
variable {L : Nat} {xs : Nat → Int32} {fv : Value} {f w : Nat} {c : Nat × Nat} {A : Nat → List (Nat × Int32)} {E : List (Nat × Option Nat)} {N : Nat → Nat} {V : Nat → Nat → Int32} {W : Nat} {g : List z_E}
theorem s49a {o : z_V} {T' : z_Y} {toks : List (Nat × Nat × Int32)} {j : Nat} {t : Nat × Nat × Int32} (hTk : z_TkC E (A 6) (A 7) toks) (ht : toks[j]? = some t) (hlen : toks.length ≤ 1501) (hcur : V 3 7 + 1 = nI j) (hlt : ¬ V 3 6 - 1 ≤ V 3 7) (kk : z_Ln L xs fv f w 49 62 [(0, .ref 110)] [] (hC A E N (z_Vn V j t) t.2.1 ++ g, c) o T') : z_Ln L xs fv f w 49 0 [(0, .ref 110)] [] (hC A E N V W ++ g, c) o T' := by
  have hj : j < toks.length := (List.getElem?_eq_some_iff.mp ht).1
  obtain ⟨t1, t2, t3, t4⟩ := hTk j t ht
  have cj : (nI j).toNatClampNeg = j := nI_clamp (by omega)
  have ij : z_in (nI j) 1501 = true := z_inI (by omega) (by decide)
  refine b49_0f hlt (b49_13 ?_)
  rw [hcur]
  refine b49_23 (u := t.2.1) ij (by show z_fn none E (nI j).toNatClampNeg = _; rw [cj, t1]) (by omega) (b49_33 z_fitW (b49_36 ij ?_))
  have e6 : z_fn 0 (A 6) ((z_v V 3 7 (nI j)) 3 7).toNatClampNeg = nI t.1 := by
    show z_fn 0 (A 6) (nI j).toNatClampNeg = _
    rw [cj, t3]
  rw [e6]
  refine b49_49 ij ?_
  have e7 : z_fn 0 (A 7) ((z_v (z_v V 3 7 (nI j)) 3 9 (nI t.1)) 3 7).toNatClampNeg = t.2.2 := by
    show z_fn 0 (A 7) (nI j).toNatClampNeg = _
    rw [cj, t4]
  rw [e7]
  exact kk
/-- on to a word -/
theorem s49 {toks : List (Nat × Nat × Int32)} {j : Nat} {t : Nat × Nat × Int32} (hTk : z_TkC E (A 6) (A 7) toks) (ht : toks[j]? = some t) (hlen : toks.length ≤ 1501) (hcur : V 3 7 + 1 = nI j) (hlt : ¬ V 3 6 - 1 ≤ V 3 7) (h1 : ¬ t.2.1 = 1) : z_Ln L xs fv f w 49 0 [(0, .ref 110)] [] (hC A E N V W ++ g, c) (.inl none) (hC A E N (z_Vn V j t) t.2.1 ++ g, c) :=
  s49a hTk ht hlen hcur hlt (b49_62t (hTk j t ht).2.1 (fun q => h1 (Option.some.inj q)) b49_84)
/-- on to what is no word -/
theorem s49x {toks : List (Nat × Nat × Int32)} {j : Nat} {t : Nat × Nat × Int32} (hTk : z_TkC E (A 6) (A 7) toks) (ht : toks[j]? = some t) (hlen : toks.length ≤ 1501) (hcur : V 3 7 + 1 = nI j) (hlt : ¬ V 3 6 - 1 ≤ V 3 7) (h1 : t.2.1 = 1) (hRm : z_Rm (hC A E N V W ++ g, c)) (h1c : c.1 + 1 ≤ 601024) (h2c : c.2 + 6 ≤ 7293034) (hf : 7 ≤ f) (hw : 250 ≤ w) : z_Ln L xs fv f w 49 0 [(0, .ref 110)] [] (hC A E N V W ++ g, c) (.inr 10) (hC A E N (z_Vf (z_Vn V j t) 2 (nI t.1)) t.2.1 ++ g, c.1 + 1, c.2 + 6) := by
  have m50 : z_pg.2.1 50 ≤ 60 := by decide +kernel
  exact s49a hTk ht hlen hcur hlt (b49_62f (hTk j t ht).2.1 (by rw [h1]) (b49_72x hRm (by omega) (by omega) (b50_0 (by omega) (by omega) h1c h2c)))
theorem s48 {toks : List (Nat × Nat × Int32)} {t : Nat × Nat × Int32} (hTk : z_TkC E (A 6) (A 7) toks) (ht : toks[0]? = some t) (hlen : toks.length ≤ 1501) (hlt : ¬ V 3 6 - 1 ≤ -1) (h1 : ¬ t.2.1 = 1) (hRm : z_Rm (hC A E N V W ++ g, c)) (hf : 7 ≤ f) (hw : 350 ≤ w) : z_Ln L xs fv f w 48 0 [(0, .ref 110)] [] (hC A E N V W ++ g, c) (.inl none) (hC A E N (z_Vn V 0 t) t.2.1 ++ g, c) := by
  have m49 : z_pg.2.1 49 ≤ 60 := by decide +kernel
  have e : z_Vn (z_v V 3 7 (-1)) 0 t = z_Vn V 0 t := by
    unfold z_Vn
    rw [z_vv]
  rw [← e]
  exact b48_0 hRm (by omega) (by omega) (s49 (V := z_v V 3 7 (-1)) hTk ht hlen (show (-1 : Int32) + 1 = nI 0 by decide) hlt h1) b48_9
theorem s48x {toks : List (Nat × Nat × Int32)} {t : Nat × Nat × Int32} (hTk : z_TkC E (A 6) (A 7) toks) (ht : toks[0]? = some t) (hlen : toks.length ≤ 1501) (hlt : ¬ V 3 6 - 1 ≤ -1) (h1 : t.2.1 = 1) (hRm : z_Rm (hC A E N V W ++ g, c)) (h1c : c.1 + 1 ≤ 601024) (h2c : c.2 + 6 ≤ 7293034) (hf : 8 ≤ f) (hw : 350 ≤ w) : z_Ln L xs fv f w 48 0 [(0, .ref 110)] [] (hC A E N V W ++ g, c) (.inr 10) (hC A E N (z_Vf (z_Vn V 0 t) 2 (nI t.1)) t.2.1 ++ g, c.1 + 1, c.2 + 6) := by
  have m49 : z_pg.2.1 49 ≤ 60 := by decide +kernel
  have e : z_Vn (z_v V 3 7 (-1)) 0 t = z_Vn V 0 t := by
    unfold z_Vn
    rw [z_vv]
  rw [← e]
  exact b48_0x hRm (by omega) (by omega) (s49x (V := z_v V 3 7 (-1)) hTk ht hlen (show (-1 : Int32) + 1 = nI 0 by decide) hlt h1 hRm h1c h2c (by omega) (by omega))
/-- a word that cannot stand here -/
theorem s52 (hRm : z_Rm (hC A E N V W ++ g, c)) (h1c : c.1 + 1 ≤ 601024) (h2c : c.2 + 6 ≤ 7293034) (hf : 7 ≤ f) (hw : 250 ≤ w) : z_Ln L xs fv f w 52 0 [(0, .ref 131)] [] (hC A E N V W ++ g, c) (.inr 10) (hC A E N (z_Vf V 1 (V 3 9)) W ++ g, c.1 + 1, c.2 + 6) := by
  have m50 : z_pg.2.1 50 ≤ 60 := by decide +kernel
  exact b52_0x hRm (by omega) (by omega) (b50_0 (by omega) (by omega) h1c h2c)
end ZLXT
/-- both look at one word: j, t -/
def z_Wj (b : Nat → Nat) (n j : Nat) (t : Nat × Nat × Int32) (V : Nat → Nat → Int32) (W : Nat) (U : Nat → Nat → Int32) : Prop := (z_ts b n)[j]? = some t ∧ V 3 6 = nI (z_ts b n).length ∧ V 3 7 = nI j ∧ W = t.2.1 ∧ V 3 9 = nI t.1 ∧ V 3 10 = t.2.2 ∧ U 41 8 = nI t.1 ∧ U 41 7 = z_wco t.2.1 ∧ U 41 9 = nI (z_ll b n t.1) ∧ (t.2.1 = 4 → U 41 10 = t.2.2)
theorem z_kd4 {b : Nat → Nat} {n p : Nat} (h : p < n) (h4 : z_kd b n p = 4) : z_Dg2 (b p) = true ∧ z_we b n p - p ≤ 9 := by
  obtain ⟨w1, w2⟩ := z_we_le (b := b) h
  by_cases hd : z_Dg2 (b p) = true
  · refine ⟨hd, ?_⟩
    have e : z_kd b n p = (if z_we b n p - p ≤ 9 then 4 else 1) := if_pos hd
    by_cases h9 : z_we b n p - p ≤ 9
    · exact h9
    · rw [e, if_neg h9] at h4
      cases h4
  · exfalso
    have e : z_kd b n p = z_k1 b p (z_we b n p - p) := if_neg hd
    rw [e] at h4
    rcases z_k1_or (b := b) (p := p) (l := z_we b n p - p) (by omega) with ⟨k, k5, -, -, e2⟩ | ⟨-, e2⟩
    · omega
    · rw [h4] at e2
      revert e2
      split
      · split <;> intro e2 <;> omega
      · intro e2
        omega
/-- what the reference sees where the class's word j is -/
theorem z_see {b : Nat → Nat} {n j : Nat} {t : Nat × Nat × Int32} (hb : ∀ p, p < n → b p < 256) (ht : (z_ts b n)[j]? = some t) (hp : ∀ i, j = i + 1 → ¬ ((z_ts b n).getD i (0, 0, 0)).2.1 = 1) : t.1 = z_ex b n (z_ts b n) j ∧ z_lw b n t.1 = z_wco t.2.1 ∧ t.1 ≤ n ∧ (t.2.1 = 4 → ∀ d, z_lv2 b n t.1 d = t.2.2) := by
  rcases z_ts_ok ht with ⟨h1, h2, h3, h4⟩ | ⟨h1, -, h2⟩
  · have ek : t.2.1 = z_kd b n t.1 := congrArg (fun x => x.2.1) h3
    have ev : t.2.2 = z_va b n t.1 (z_we b n t.1 - t.1) ((z_ts b n).take j) (z_kd b n t.1) := congrArg (fun x => x.2.2) h3
    refine ⟨h4, ?_, Nat.le_of_lt h1, fun k4 d => ?_⟩
    · rw [ek]
      exact z_agree h1 (hb _ h1)
    · rw [ek] at k4
      obtain ⟨d1, d2⟩ := z_kd4 h1 k4
      obtain ⟨w1, w2⟩ := z_we_le (b := b) h1
      have e1 : z_lv2 b n t.1 d = z_nr b t.1 (min (z_we b n t.1 - t.1) 9) := if_pos ⟨h1, d1⟩
      have e2 : z_va b n t.1 (z_we b n t.1 - t.1) ((z_ts b n).take j) (z_kd b n t.1) = z_nu b t.1 (z_we b n t.1 - t.1) := if_pos d1
      rw [e1, ev, e2, show min (z_we b n t.1 - t.1) 9 = z_we b n t.1 - t.1 by omega]
      refine z_nr_nu _ (fun i hi => ⟨hb _ (by omega), ?_⟩)
      by_cases hi0 : i = 0
      · subst hi0
        exact d1
      · exact z_go_in (n := n) n (t.1 + 1) (by omega) (t.1 + i) (by omega) (by rw [← z_we_dg d1]; omega)
  · subst h1
    refine ⟨?_, if_pos (Nat.lt_irrefl n), Nat.le_refl _, fun k4 => by cases k4⟩
    rcases h2 with h2 | ⟨i, i1, i2⟩
    · exact h2.symm
    · exact absurd i2 (hp i i1)
/-- both go on -/
theorem z_Wj_next {b : Nat → Nat} {n j : Nat} {t : Nat × Nat × Int32} {V : Nat → Nat → Int32} {W : Nat} {U : Nat → Nat → Int32} (hb : ∀ p, p < n → b p < 256) (h : z_Wj b n j t V W U) (h0 : ¬ t.2.1 = 0) (h1 : ¬ t.2.1 = 1) : ∃ t', (z_ts b n)[j + 1]? = some t' ∧ t.1 < n ∧ t'.1 = z_nx b n (t.1 + z_ll b n t.1) ∧ z_Wj b n (j + 1) t' (z_Vn V (j + 1) t') t'.2.1 (z_U3 (z_v U 41 8 (nI (z_nx b n (t.1 + z_ll b n t.1)))) (z_lw b n (z_nx b n (t.1 + z_ll b n t.1))) (nI (z_ll b n (z_nx b n (t.1 + z_ll b n t.1)))) (z_lv2 b n (z_nx b n (t.1 + z_ll b n t.1)) (U 41 10))) := by
  obtain ⟨q1, q2, q3, q4, q5, q6, q7, q8, q9, q10⟩ := h
  obtain ⟨t', ht'⟩ := z_ts_next q1 h0
  have eg : (z_ts b n).getD j (0, 0, 0) = t := by
    rw [List.getD_eq_getElem?_getD, q1]
    rfl
  have htn : t.1 < n := by
    rcases z_ts_ok q1 with ⟨r, -⟩ | ⟨r, -⟩
    · exact r
    · subst r
      exact absurd rfl h0
  obtain ⟨w1, w2⟩ := z_we_le (b := b) htn
  have ell : z_ll b n t.1 = z_we b n t.1 - t.1 := if_pos htn
  have epl : t.1 + z_ll b n t.1 = z_we b n t.1 := by omega
  obtain ⟨s1, s2, s3, s4⟩ := z_see hb ht' (fun i hi => by
    have : i = j := by omega
    subst this
    rw [eg]
    exact h1)
  have ex : z_ex b n (z_ts b n) (j + 1) = z_nx b n (z_we b n t.1) := by
    show z_nx b n (z_we b n ((z_ts b n).getD j (0, 0, 0)).1) = _
    rw [eg]
  rw [ex] at s1
  rw [epl, ← s1]
  exact ⟨t', ht', htn, rfl, ht', q2, rfl, rfl, rfl, rfl, rfl, s2, rfl, fun k4 => s4 k4 _⟩
