/-! Lexing (reference): small methods, keyword. -/
def z_Qr (lo hi x : Int32) : Bool := !decide (x < lo) && !decide (hi < x)
def z_sgs : List Int32 := [40, 41, 123, 125, 58, 59, 44, 61, 60, 43, 45, 42, 33, 124]
def z_Sg (x : Int32) : Bool := z_sgs.contains x
/-- the byte at p, or NONE -/
def z_ra (b : Nat → Nat) (n p : Nat) : Int32 := if p < n then nI (b p) else -1
theorem z_Qr_bc : ∀ c, c < 256 → (z_Qr 97 122 (nI c) = z_Sm2 c ∧ z_Qr 65 90 (nI c) = z_Gr2 c ∧ z_Qr 48 57 (nI c) = z_Dg2 c ∧ ¬ nI c = -1) := by decide +kernel
theorem z_Qr_no : z_Qr 97 122 (-1) = false ∧ z_Qr 65 90 (-1) = false ∧ z_Qr 48 57 (-1) = false := by decide
theorem z_nI_in : ∀ c, c < 256 → ((nI c = 45 ↔ c = 45) ∧ (nI c = 62 ↔ c = 62) ∧ (nI c = 32 ↔ c = 32) ∧ (nI c = 10 ↔ c = 10)) := by decide +kernel
/-- the keys, and where each begins -/
def z_kl : List Nat := [101, 102, 102, 101, 99, 116, 0, 108, 101, 116, 0, 114, 101, 99, 0, 105, 110, 0, 105, 102, 0, 116, 104, 101, 110, 0, 101, 108, 115, 101, 0, 102, 110, 0, 104, 97, 110, 100, 108, 101, 0, 119, 105, 116, 104, 0, 114, 101, 116, 117, 114, 110, 0, 101, 110, 100, 0, 116, 114, 117, 101, 0, 102, 97, 108, 115, 101, 0, 105, 110, 116, 0, 98, 111, 111, 108, 0, 117, 110, 105, 116, 0]
def z_kfs : List Nat := [0, 7, 11, 15, 18, 21, 26, 31, 34, 41, 46, 53, 57, 62, 68, 72, 77, 82]
def z_Ky (t : List (Nat × Int32)) : Prop := ∀ i, i < 82 → z_fn 0 t i = nI (z_kl.getD i 0)
theorem z_kl_ok : ∀ k, k < 17 → (z_kfs.getD k 0 + (z_wls.getD (20 + k) []).length < 82 ∧ z_kfs.getD (k + 1) 0 = z_kfs.getD k 0 + ((z_wls.getD (20 + k) []).length + 1) ∧ z_kl.getD (z_kfs.getD k 0 + (z_wls.getD (20 + k) []).length) 0 = 0 ∧ ∀ j, j < (z_wls.getD (20 + k) []).length → (z_kl.getD (z_kfs.getD k 0 + j) 0 = (z_wls.getD (20 + k) []).getD j 0 ∧ 0 < (z_wls.getD (20 + k) []).getD j 0 ∧ (z_wls.getD (20 + k) []).getD j 0 < 256)) := by decide +kernel
/-- the key that the word of l bytes at p is, from the (17 - m)th on -/
def z_kf (b : Nat → Nat) (p l : Nat) : Nat → Int32
  | 0 => -1
  | m + 1 => if z_mt (36 - m) b p l = true then nI (316 - m) else z_kf b p l m
section ZLX5
variable {L : Nat} {xs : Nat → Int32} {fv : Value} {f w : Nat} {c : Nat × Nat} {A : Nat → List (Nat × Int32)} {E : List (Nat × Option Nat)} {N : Nat → Nat} {V : Nat → Nat → Int32} {W : Nat} {g : List z_E} {B : Nat → List (Nat × Int32)} {M : Nat → List (Nat × Int64)} {U : Nat → Nat → Int32}
theorem s144 {x : Int32} : z_Ln L xs fv f w 144 0 [(0, .int x)] [] (hC A E N V W ++ (hR B M U ++ g), c) (.inl (some (.int (z_B1 (z_Qr 97 122 x))))) (hC A E N V W ++ (hR B M U ++ g), c) := by
  by_cases h1 : x < 97
  · have e : z_Qr 97 122 x = false := by
      unfold z_Qr
      rw [decide_eq_true h1]
      rfl
    rw [e]
    exact b144_0t h1 (b144_16 (b144_17 (Or.inl rfl)))
  · by_cases h2 : 122 < x
    · have e : z_Qr 97 122 x = false := by
        unfold z_Qr
        rw [decide_eq_true h2, Bool.not_true, Bool.and_false]
      rw [e]
      exact b144_0f h1 (b144_6t h2 (b144_16 (b144_17 (Or.inl rfl))))
    · have e : z_Qr 97 122 x = true := by
        unfold z_Qr
        rw [decide_eq_false h1, decide_eq_false h2]
        rfl
      rw [e]
      exact b144_0f h1 (b144_6f h2 (b144_12 (b144_17 (Or.inr rfl))))
theorem s145 {x : Int32} : z_Ln L xs fv f w 145 0 [(0, .int x)] [] (hC A E N V W ++ (hR B M U ++ g), c) (.inl (some (.int (z_B1 (z_Qr 65 90 x))))) (hC A E N V W ++ (hR B M U ++ g), c) := by
  by_cases h1 : x < 65
  · have e : z_Qr 65 90 x = false := by
      unfold z_Qr
      rw [decide_eq_true h1]
      rfl
    rw [e]
    exact b145_0t h1 (b145_16 (b145_17 (Or.inl rfl)))
  · by_cases h2 : 90 < x
    · have e : z_Qr 65 90 x = false := by
        unfold z_Qr
        rw [decide_eq_true h2, Bool.not_true, Bool.and_false]
      rw [e]
      exact b145_0f h1 (b145_6t h2 (b145_16 (b145_17 (Or.inl rfl))))
    · have e : z_Qr 65 90 x = true := by
        unfold z_Qr
        rw [decide_eq_false h1, decide_eq_false h2]
        rfl
      rw [e]
      exact b145_0f h1 (b145_6f h2 (b145_12 (b145_17 (Or.inr rfl))))
theorem s146 {x : Int32} : z_Ln L xs fv f w 146 0 [(0, .int x)] [] (hC A E N V W ++ (hR B M U ++ g), c) (.inl (some (.int (z_B1 (z_Qr 48 57 x))))) (hC A E N V W ++ (hR B M U ++ g), c) := by
  by_cases h1 : x < 48
  · have e : z_Qr 48 57 x = false := by
      unfold z_Qr
      rw [decide_eq_true h1]
      rfl
    rw [e]
    exact b146_0t h1 (b146_16 (b146_17 (Or.inl rfl)))
  · by_cases h2 : 57 < x
    · have e : z_Qr 48 57 x = false := by
        unfold z_Qr
        rw [decide_eq_true h2, Bool.not_true, Bool.and_false]
      rw [e]
      exact b146_0f h1 (b146_6t h2 (b146_16 (b146_17 (Or.inl rfl))))
    · have e : z_Qr 48 57 x = true := by
        unfold z_Qr
        rw [decide_eq_false h1, decide_eq_false h2]
        rfl
      rw [e]
      exact b146_0f h1 (b146_6f h2 (b146_12 (b146_17 (Or.inr rfl))))
theorem s148 {x : Int32} : z_Ln L xs fv f w 148 0 [(0, .int x)] [] (hC A E N V W ++ (hR B M U ++ g), c) (.inl (some (.int (z_B1 (z_Sg x))))) (hC A E N V W ++ (hR B M U ++ g), c) := by
  have yes : z_Sg x = true → z_Ln L xs fv f w 148 84 [(0, .int x)] [] (hC A E N V W ++ (hR B M U ++ g), c) (.inl (some (.int (z_B1 (z_Sg x))))) (hC A E N V W ++ (hR B M U ++ g), c) := by
    intro h
    rw [h]
    exact b148_84 (b148_89 (Or.inr rfl))
  by_cases h0 : x = 40
  · exact b148_0t h0 (yes (by rw [h0]; decide))
  by_cases h1 : x = 41
  · exact b148_0f h0 (b148_6t h1 (yes (by rw [h1]; decide)))
  by_cases h2 : x = 123
  · exact b148_0f h0 (b148_6f h1 (b148_12t h2 (yes (by rw [h2]; decide))))
  by_cases h3 : x = 125
  · exact b148_0f h0 (b148_6f h1 (b148_12f h2 (b148_18t h3 (yes (by rw [h3]; decide)))))
  by_cases h4 : x = 58
  · exact b148_0f h0 (b148_6f h1 (b148_12f h2 (b148_18f h3 (b148_24t h4 (yes (by rw [h4]; decide))))))
  by_cases h5 : x = 59
  · exact b148_0f h0 (b148_6f h1 (b148_12f h2 (b148_18f h3 (b148_24f h4 (b148_30t h5 (yes (by rw [h5]; decide)))))))
  by_cases h6 : x = 44
  · exact b148_0f h0 (b148_6f h1 (b148_12f h2 (b148_18f h3 (b148_24f h4 (b148_30f h5 (b148_36t h6 (yes (by rw [h6]; decide))))))))
  by_cases h7 : x = 61
  · exact b148_0f h0 (b148_6f h1 (b148_12f h2 (b148_18f h3 (b148_24f h4 (b148_30f h5 (b148_36f h6 (b148_42t h7 (yes (by rw [h7]; decide)))))))))
  by_cases h8 : x = 60
  · exact b148_0f h0 (b148_6f h1 (b148_12f h2 (b148_18f h3 (b148_24f h4 (b148_30f h5 (b148_36f h6 (b148_42f h7 (b148_48t h8 (yes (by rw [h8]; decide))))))))))
  by_cases h9 : x = 43
  · exact b148_0f h0 (b148_6f h1 (b148_12f h2 (b148_18f h3 (b148_24f h4 (b148_30f h5 (b148_36f h6 (b148_42f h7 (b148_48f h8 (b148_54t h9 (yes (by rw [h9]; decide)))))))))))
  by_cases h10 : x = 45
  · exact b148_0f h0 (b148_6f h1 (b148_12f h2 (b148_18f h3 (b148_24f h4 (b148_30f h5 (b148_36f h6 (b148_42f h7 (b148_48f h8 (b148_54f h9 (b148_60t h10 (yes (by rw [h10]; decide))))))))))))
  by_cases h11 : x = 42
  · exact b148_0f h0 (b148_6f h1 (b148_12f h2 (b148_18f h3 (b148_24f h4 (b148_30f h5 (b148_36f h6 (b148_42f h7 (b148_48f h8 (b148_54f h9 (b148_60f h10 (b148_66t h11 (yes (by rw [h11]; decide)))))))))))))
  by_cases h12 : x = 33
  · exact b148_0f h0 (b148_6f h1 (b148_12f h2 (b148_18f h3 (b148_24f h4 (b148_30f h5 (b148_36f h6 (b148_42f h7 (b148_48f h8 (b148_54f h9 (b148_60f h10 (b148_66f h11 (b148_72t h12 (yes (by rw [h12]; decide))))))))))))))
  by_cases h13 : x = 124
  · exact b148_0f h0 (b148_6f h1 (b148_12f h2 (b148_18f h3 (b148_24f h4 (b148_30f h5 (b148_36f h6 (b148_42f h7 (b148_48f h8 (b148_54f h9 (b148_60f h10 (b148_66f h11 (b148_72f h12 (b148_78f (fun q => q h13) (yes (by rw [h13]; decide)))))))))))))))
  · have e : z_Sg x = false := by
      unfold z_Sg z_sgs
      simp [h0, h1, h2, h3, h4, h5, h6, h7, h8, h9, h10, h11, h12, h13]
    rw [e]
    exact b148_0f h0 (b148_6f h1 (b148_12f h2 (b148_18f h3 (b148_24f h4 (b148_30f h5 (b148_36f h6 (b148_42f h7 (b148_48f h8 (b148_54f h9 (b148_60f h10 (b148_66f h11 (b148_72f h12 (b148_78t h13 (b148_88 (b148_89 (Or.inl rfl))))))))))))))))
theorem s142 {b : Nat → Nat} {n p : Nat} (hT : z_Tr (B 44) b n) (hU : U 41 6 = nI n) (hp : p ≤ 3000) : z_Ln L xs fv f w 142 0 [(0, .ref 148), (1, .int (nI p))] [] (hC A E N V W ++ (hR B M U ++ g), c) (.inl (some (.int (z_ra b n p)))) (hC A E N V W ++ (hR B M U ++ g), c) := by
  obtain ⟨hn, ht⟩ := id hT
  by_cases h : p < n
  · have e : z_ra b n p = z_fn 0 (B 44) (nI p).toNatClampNeg := by
      unfold z_ra
      rw [if_pos h, nI_clamp (by omega)]
      exact (ht p h).2.symm
    rw [e]
    exact b142_0f (by rw [hU]; exact nI_ge h (by omega)) (b142_8 (z_inI (by omega) (by decide)) b142_18)
  · have e : z_ra b n p = -1 := if_neg h
    rw [e]
    exact b142_0t (by rw [hU]; exact nI_le (by omega) (by omega)) (b142_17 b142_18)
theorem s147a {r l : Nat} {x2 : Int32} {o : z_V} {T' : z_Y} (hK : z_Ky (B 45)) (hr : r + l < 82) (h0 : z_kl.getD (r + l) 0 = 0) (hj : ∀ j, j < l → 0 < z_kl.getD (r + j) 0 ∧ z_kl.getD (r + j) 0 < 256) (kk : z_Ln L xs fv f w 147 29 [(0, .ref 148), (1, .int (nI r)), (2, .int x2), (3, .int (nI l))] [] (hC A E N V W ++ (hR B M U ++ g), c) o T') : ∀ m j, j + m = l → z_Ln L xs fv f w 147 12 [(0, .ref 148), (1, .int (nI r)), (2, .int x2), (3, .int (nI j))] [] (hC A E N V W ++ (hR B M U ++ g), c) o T' := by
  intro m
  induction m with
  | zero =>
    intro j h
    have hjl : j = l := by omega
    subst hjl
    refine b147_12t (by rw [nI_add]; exact z_inI hr (by decide)) ?_ kk
    rw [nI_add, nI_clamp (by omega), hK _ hr, h0]
    decide
  | succ m ih =>
    intro j h
    obtain ⟨p1, p2⟩ := hj j (by omega)
    refine b147_12f (by rw [nI_add]; exact z_inI (by omega) (by decide)) ?_ (b147_23 ?_)
    · rw [nI_add, nI_clamp (by omega), hK _ (by omega)]
      exact nI_ge (a := 0) p1 (by omega)
    · rw [nI_1]
      exact ih (j + 1) (by omega)
theorem z_all_range {P : Nat → Bool} {l : Nat} : ∀ m j, j + m = l → (∀ i, i < j → P i = true) → ((∀ i, j ≤ i → i < l → P i = true) ↔ (List.range l).all P = true) := by
  intro m j h hb
  rw [List.all_eq_true]
  constructor
  · intro q i hi
    have := List.mem_range.mp hi
    by_cases hij : i < j
    · exact hb i hij
    · exact q i (by omega) this
  · intro q i _ hi
    exact q i (List.mem_range.mpr hi)
/-- bytes compared from j on -/
def z_cmp (b : Nat → Nat) (p r : Nat) : Nat → Nat → Bool
  | 0, _ => true
  | m + 1, j => decide (b (p + j) = z_kl.getD (r + j) 0) && z_cmp b p r m (j + 1)
theorem s147b {b : Nat → Nat} {n p r l : Nat} {x2 : Int32} {o : z_V} {T' : z_Y} (hT : z_Tr (B 44) b n) (hU : U 41 8 = nI p) (hp : p + l ≤ n) (hK : z_Ky (B 45)) (hr : r + l < 82) (hj : ∀ j, j < l → z_kl.getD (r + j) 0 < 256) (kk : ∀ v : Bool, ∀ j : Nat, v = z_cmp b p r l 0 → z_Ln L xs fv f w 147 95 [(0, .ref 148), (1, .int (nI r)), (2, .int x2), (3, .int (nI l)), (4, .int (z_B1 v)), (5, .int (nI j))] [] (hC A E N V W ++ (hR B M U ++ g), c) o T') : ∀ m j, j + m = l → z_cmp b p r l 0 = z_cmp b p r m j → z_Ln L xs fv f w 147 47 [(0, .ref 148), (1, .int (nI r)), (2, .int x2), (3, .int (nI l)), (4, .int 1), (5, .int (nI j))] [] (hC A E N V W ++ (hR B M U ++ g), c) o T' := by
  obtain ⟨hn, ht⟩ := id hT
  intro m
  induction m with
  | zero =>
    intro j h hc
    exact b147_47t (nI_le (by omega) (by omega)) (kk true j hc.symm)
  | succ m ih =>
    intro j h hc
    have hc2 : z_cmp b p r (m + 1) j = (decide (b (p + j) = z_kl.getD (r + j) 0) && z_cmp b p r m (j + 1)) := rfl
    rw [hc2] at hc
    obtain ⟨e1, e2⟩ := ht (p + j) (by omega)
    have q1 : z_fn 0 (B 44) (U 41 8 + nI j).toNatClampNeg = nI (b (p + j)) := by rw [hU, nI_add, nI_clamp (by omega), e2]
    have q2 : z_fn 0 (B 45) (nI r + nI j).toNatClampNeg = nI (z_kl.getD (r + j) 0) := by rw [nI_add, nI_clamp (by omega), hK _ (by omega)]
    have i1 : z_in (U 41 8 + nI j) 1500 = true := by rw [hU, nI_add]; exact z_inI (by omega) (by decide)
    have i2 : z_in (nI r + nI j) 82 = true := by rw [nI_add]; exact z_inI (by omega) (by decide)
    have hk := hj j (by omega)
    refine b147_47f (nI_ge (by omega) (by omega)) (b147_53f (by decide) ?_)
    by_cases heq : b (p + j) = z_kl.getD (r + j) 0
    · rw [decide_eq_true heq, Bool.true_and] at hc
      refine b147_58f i1 i2 (fun q => q (by rw [q1, q2, heq])) (b147_82 (b147_87 ?_))
      rw [nI_1]
      exact ih (j + 1) (by omega) hc
    · rw [decide_eq_false heq, Bool.false_and] at hc
      refine b147_58t i1 i2 (fun q => heq ?_) (b147_86 (b147_87 ?_))
      · rw [q1, q2] at q
        have q' := congrArg Int32.toNatClampNeg q
        rwa [nI_clamp (by omega), nI_clamp (by omega)] at q'
      · rw [nI_1]
        by_cases hl : l ≤ j + 1
        · exact b147_47t (nI_le hl (by omega)) (kk false (j + 1) hc.symm)
        · exact b147_47f (nI_ge (by omega) (by omega)) (b147_53t rfl (kk false (j + 1) hc.symm))
end ZLX5
