/-! Lexing (class): kinds, numbers, names. -/
/-- the kind of the word of l bytes at p that is no number -/
def z_k1 (b : Nat → Nat) (p l : Nat) : Nat := z_rs b p l (if z_Lt2 (b p) = true ∧ l ≤ 12 then (if 97 ≤ b p ∧ b p < 128 then 2 else 3) else 1) 37
/-- its kind -/
def z_kd (b : Nat → Nat) (n p : Nat) : Nat := if z_Dg2 (b p) = true then (if z_we b n p - p ≤ 9 then 4 else 1) else z_k1 b p (z_we b n p - p)
/-- the number that k digits at p make -/
def z_nu (b : Nat → Nat) (p : Nat) : Nat → Int32
  | 0 => 0
  | k + 1 => z_nu b p k * 10 + (z_bc (b (p + k)) - 48)
/-- l bytes at e are those at p, and a word ends behind them -/
def z_sm2 (b : Nat → Nat) (e p : Nat) : Nat → Bool
  | 0 => true
  | k + 1 => z_sm2 b e p k && decide (b (e + k) = b (p + k))
def z_sw (b : Nat → Nat) (n e p l : Nat) : Bool := z_sm2 b e p l && decide (z_we b n e = e + l)
theorem z_rs_lt {b : Nat → Nat} {p l d : Nat} (hd : d < 37) : ∀ j, z_rs b p l d j < 37 := by
  intro j
  induction j with
  | zero => exact hd
  | succ j ih =>
    unfold z_rs
    split
    · omega
    · exact ih
theorem z_kd_lt (b : Nat → Nat) (n p : Nat) : z_kd b n p < 37 := by
  unfold z_kd z_k1
  split
  · split <;> omega
  · refine z_rs_lt ?_ 37
    split
    · split <;> omega
    · omega
theorem z_sm2_no {b : Nat → Nat} {e p k : Nat} (h : ¬ b (e + k) = b (p + k)) : ∀ l, k < l → z_sm2 b e p l = false := by
  intro l
  induction l with
  | zero => intro h; omega
  | succ l ih =>
    intro hl
    show (z_sm2 b e p l && decide (b (e + l) = b (p + l))) = false
    by_cases hk : k = l
    · subst hk
      rw [decide_eq_false h, Bool.and_false]
    · rw [ih (by omega), Bool.false_and]
section ZLX2
variable {L : Nat} {xs : Nat → Int32} {fv : Value} {f w : Nat} {c : Nat × Nat} {A : Nat → List (Nat × Int32)} {E : List (Nat × Option Nat)} {N : Nat → Nat} {V : Nat → Nat → Int32} {W : Nat} {g : List z_E}
theorem s35 {b : Nat → Nat} {n p l : Nat} (hT : z_Tx (A 4) b n) (hl : 1 ≤ l) (hp : p + l ≤ n) (hRm : z_Rm (hC A E N V W ++ g, c)) (hf : 5 ≤ f) (hw : 500 ≤ w) : z_Ln L xs fv f w 35 0 [(0, .ref 110), (1, .int (nI p)), (2, .int (nI (p + l)))] [] (hC A E N V W ++ g, c) (.inl (some (.ref (z_k1 b p l)))) (hC A E N V W ++ g, c) := by
  have m31 : z_pg.2.1 31 = 1 := rfl
  obtain ⟨hn, ht⟩ := id hT
  obtain ⟨e1, e2⟩ := ht p (by omega)
  have cp : (nI p).toNatClampNeg = p := nI_clamp (by omega)
  have ip : z_in (nI p) 1500 = true := z_inI (by omega) (by decide)
  have ex : z_fn 0 (A 4) (nI p).toNatClampNeg = z_bc (b p) := by rw [cp, e2]
  have es : nI (p + l) - nI p = nI l := by rw [pk_sub (by omega), show p + l - p = l by omega]
  refine b35_0 ⟨hRm, by omega, by omega⟩ (z_Ln.lv (z_le.cons rfl rfl (z_le.cons rfl rfl (z_le.cons rfl rfl (z_le.cons rfl rfl (z_le.cons rfl rfl (z_le.cons rfl rfl z_le.nil)))))) (sp_0 hT hl hp hRm hf hw ?_))
  refine b35_60 (v := z_B1 (z_Lt2 (b p))) ip hRm (by omega) (by omega) (by rw [ex]; exact s31 e1) ?_
  cases hlt : z_Lt2 (b p) with
  | false =>
    rw [if_neg (fun q => by cases q.1)]
    exact b35_69t (z_B1_f rfl) b35_80
  | true =>
    refine b35_69f (z_B1_t rfl) ?_
    by_cases h12 : l ≤ 12
    · rw [if_pos ⟨rfl, h12⟩]
      refine b35_72t (by rw [es]; exact nI_le (b := 12) h12 (by decide)) ?_
      have q97 := (z_eq_bc (b p) e1).2.2.2.2
      by_cases h97 : 97 ≤ b p ∧ b p < 128
      · rw [if_pos h97]
        exact b35_84f ip (by rw [ex]; exact fun q => (q97.mp q) h97) (b35_95 b35_104)
      · rw [if_neg h97]
        exact b35_84t ip (by rw [ex]; exact q97.mpr h97) (b35_101 b35_104)
    · rw [if_neg (fun q => h12 q.2)]
      exact b35_72f (by rw [es]; exact nI_ge (a := 12) (by omega) (by omega)) b35_80
theorem s34a {b : Nat → Nat} {n p l : Nat} (hT : z_Tx (A 4) b n) (hp : p + l ≤ n) : ∀ m k, k + m = l → z_Ln L xs fv f w 34 5 [(0, .ref 110), (1, .int (nI p)), (2, .int (nI (p + l))), (3, .int (z_nu b p k)), (4, .int (nI (p + k)))] [] (hC A E N V W ++ g, c) (.inl (some (.int (z_nu b p l)))) (hC A E N V W ++ g, c) := by
  obtain ⟨hn, ht⟩ := hT
  intro m
  induction m with
  | zero =>
    intro k hk
    have : k = l := by omega
    subst this
    exact b34_5t (nI_le (Nat.le_refl _) (by omega)) b34_33
  | succ m ih =>
    intro k hk
    obtain ⟨e1, e2⟩ := ht (p + k) (by omega)
    refine b34_5f (nI_ge (by omega) (by omega)) (b34_11 (z_inI (by omega) (by decide)) ?_)
    rw [nI_clamp (by omega), e2, nI_1]
    exact ih (k + 1) (by omega)
theorem s34 {b : Nat → Nat} {n p l : Nat} (hT : z_Tx (A 4) b n) (hp : p + l ≤ n) : z_Ln L xs fv f w 34 0 [(0, .ref 110), (1, .int (nI p)), (2, .int (nI (p + l)))] [] (hC A E N V W ++ g, c) (.inl (some (.int (z_nu b p l)))) (hC A E N V W ++ g, c) := b34_0 (s34a hT hp l 0 (by omega))
theorem s45a {b : Nat → Nat} {n e p l : Nat} (hT : z_Tx (A 4) b n) (hV : V 3 2 = nI n) (hep : e < p) (hp : p + l ≤ n) (hl : 1 ≤ l) (hRm : z_Rm (hC A E N V W ++ g, c)) (hf : 2 ≤ f) (hw : 80 ≤ w) : ∀ m k, k + m = l → z_sm2 b e p k = true → z_Ln L xs fv f w 45 8 [(0, .ref 110), (1, .int (nI e)), (2, .int (nI p)), (3, .int (nI (p + l))), (4, .int (nI l)), (5, .int (nI k))] [] (hC A E N V W ++ g, c) (.inl (some (.int (z_B1 (z_sw b n e p l))))) (hC A E N V W ++ g, c) := by
  have m30 : z_pg.2.1 30 = 3 := rfl
  obtain ⟨hn, ht⟩ := id hT
  intro m
  induction m with
  | zero =>
    intro k hk hs
    have : k = l := by omega
    subst this
    have hle := z_we_le (b := b) (n := n) (p := e) (by omega)
    refine b45_8t (nI_le (Nat.le_refl _) (by omega)) (b45_44 (v := nI (z_we b n e)) hRm (by omega) (by omega) (s30 hT hV hRm (by omega) (by omega) (by omega)) ?_)
    unfold z_sw
    rw [hs, Bool.true_and]
    by_cases hq : z_we b n e = e + k
    · rw [decide_eq_true hq]
      exact b45_49f (by rw [nI_add, hq]; exact not_not_intro rfl) (b45_56 (b45_61 (Or.inr rfl)))
    · rw [decide_eq_false hq]
      exact b45_49t (by rw [nI_add]; exact fun q => hq ((nI_eq (by omega) (by omega)).mp q)) (b45_60 (b45_61 (Or.inl rfl)))
  | succ m ih =>
    intro k hk hs
    obtain ⟨e1, e2⟩ := ht (e + k) (by omega)
    obtain ⟨p1, p2⟩ := ht (p + k) (by omega)
    refine b45_8f (nI_ge (by omega) (by omega)) ?_
    have i1 : z_in (nI e + nI k) 1500 = true := z_inA (by omega)
    have i2 : z_in (nI p + nI k) 1500 = true := z_inA (by omega)
    have q := z_in_bc (b (e + k)) e1 (b (p + k)) p1
    have x1 : z_fn 0 (A 4) (nI e + nI k).toNatClampNeg = z_bc (b (e + k)) := by rw [nI_add, nI_clamp (by omega), e2]
    have x2 : z_fn 0 (A 4) (nI p + nI k).toNatClampNeg = z_bc (b (p + k)) := by rw [nI_add, nI_clamp (by omega), p2]
    by_cases hq : b (e + k) = b (p + k)
    · refine b45_15t i1 i2 (by rw [x1, x2]; exact q.mpr hq) (b45_38 ?_)
      rw [nI_1]
      refine ih (k + 1) (by omega) ?_
      show (z_sm2 b e p k && decide (b (e + k) = b (p + k))) = true
      rw [hs, decide_eq_true hq]
      rfl
    · have hz : z_sw b n e p l = false := by
        unfold z_sw
        rw [z_sm2_no hq l (by omega), Bool.false_and]
      rw [hz]
      exact b45_15f i1 i2 (by rw [x1, x2]; exact fun y => hq (q.mp y)) b45_36
theorem s45 {b : Nat → Nat} {n e p l : Nat} (hT : z_Tx (A 4) b n) (hV : V 3 2 = nI n) (hep : e < p) (hp : p + l ≤ n) (hl : 1 ≤ l) (hRm : z_Rm (hC A E N V W ++ g, c)) (hf : 2 ≤ f) (hw : 80 ≤ w) : z_Ln L xs fv f w 45 0 [(0, .ref 110), (1, .int (nI e)), (2, .int (nI p)), (3, .int (nI (p + l)))] [] (hC A E N V W ++ g, c) (.inl (some (.int (z_B1 (z_sw b n e p l))))) (hC A E N V W ++ g, c) := by
  refine b45_0 ?_
  have es : nI (p + l) - nI p = nI l := by rw [pk_sub (by omega), show p + l - p = l by omega]
  rw [es]
  exact s45a hT hV hep hp hl hRm hf hw l 0 (by omega) rfl
end ZLX2
