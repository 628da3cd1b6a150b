/-! Lexing (class): the text is split ahead. -/
/-- the word at p, with what it is worth behind the words toks -/
def z_tw (b : Nat → Nat) (n p : Nat) (toks : List (Nat × Nat × Int32)) : Nat × Nat × Int32 := (p, z_kd b n p, z_va b n p (z_we b n p - p) toks (z_kd b n p))
/-- all words from p on, behind the words toks -/
def z_tks (b : Nat → Nat) (n : Nat) : Nat → Nat → List (Nat × Nat × Int32) → List (Nat × Nat × Int32)
  | 0, _, toks => toks ++ [(n, 0, 0)]
  | m + 1, p, toks => if p < n then (if b p = 32 ∨ b p = 10 then z_tks b n m (p + 1) toks else (if z_kd b n p = 1 then (toks ++ [z_tw b n p toks]) ++ [(n, 0, 0)] else z_tks b n m (z_we b n p) (toks ++ [z_tw b n p toks]))) else toks ++ [(n, 0, 0)]
theorem z_tks_end {b : Nat → Nat} {n p : Nat} {toks : List (Nat × Nat × Int32)} (h : ¬ p < n) : ∀ m, z_tks b n m p toks = toks ++ [(n, 0, 0)] := by
  intro m
  cases m with
  | zero => rfl
  | succ m => exact if_neg h
theorem z_tks_sp {b : Nat → Nat} {n p : Nat} {toks : List (Nat × Nat × Int32)} (h : p < n) (hs : b p = 32 ∨ b p = 10) (m : Nat) : z_tks b n (m + 1) p toks = z_tks b n m (p + 1) toks := (if_pos h).trans (if_pos hs)
theorem z_tks_bad {b : Nat → Nat} {n p : Nat} {toks : List (Nat × Nat × Int32)} (h : p < n) (hs : ¬ (b p = 32 ∨ b p = 10)) (hk : z_kd b n p = 1) (m : Nat) : z_tks b n (m + 1) p toks = (toks ++ [z_tw b n p toks]) ++ [(n, 0, 0)] := (if_pos h).trans ((if_neg hs).trans (if_pos hk))
theorem z_tks_wd {b : Nat → Nat} {n p : Nat} {toks : List (Nat × Nat × Int32)} (h : p < n) (hs : ¬ (b p = 32 ∨ b p = 10)) (hk : ¬ z_kd b n p = 1) (m : Nat) : z_tks b n (m + 1) p toks = z_tks b n m (z_we b n p) (toks ++ [z_tw b n p toks]) := (if_pos h).trans ((if_neg hs).trans (if_neg hk))
theorem z_tks_len {b : Nat → Nat} {n : Nat} : ∀ m p toks, p ≤ n → toks.length ≤ p → (z_tks b n m p toks).length ≤ n + 1 := by
  intro m
  induction m with
  | zero =>
    intro p toks hp hl
    show (toks ++ [(n, 0, 0)]).length ≤ n + 1
    rw [List.length_append, List.length_singleton]
    omega
  | succ m ih =>
    intro p toks hp hl
    by_cases h : p < n
    · by_cases hs : b p = 32 ∨ b p = 10
      · rw [z_tks_sp h hs]
        exact ih (p + 1) toks h (by omega)
      · obtain ⟨w1, w2⟩ := z_we_le (b := b) h
        have hl2 : (toks ++ [z_tw b n p toks]).length = toks.length + 1 := by rw [List.length_append, List.length_singleton]
        by_cases hk : z_kd b n p = 1
        · rw [z_tks_bad h hs hk, List.length_append, hl2, List.length_singleton]
          omega
        · rw [z_tks_wd h hs hk]
          exact ih _ _ w2 (by omega)
    · rw [z_tks_end h, List.length_append, List.length_singleton]
      omega
theorem z_vv {α : Type} {V : Nat → Nat → α} {k j : Nat} {x y : α} : z_v (z_v V k j x) k j y = z_v V k j y := by
  funext a b
  unfold z_v
  by_cases h : a = k
  · by_cases h2 : b = j
    · simp [h, h2]
    · simp [h, h2]
  · simp [h]
section ZLX4
variable {L : Nat} {xs : Nat → Int32} {c : Nat × Nat} {A : Nat → List (Nat × Int32)} {E : List (Nat × Option Nat)} {N : Nat → Nat} {V : Nat → Nat → Int32} {W : Nat} {g : List z_E}
theorem s29e {n : Nat} {toks : List (Nat × Nat × Int32)} (hV : V 3 2 = nI n) (hTk : z_TkC E (A 6) (A 7) toks) (hlen : toks.length ≤ 1500) :
    ∃ (A' : Nat → List (Nat × Int32)) (E' : List (Nat × Option Nat)), (∀ k, k ≠ 6 → k ≠ 7 → A' k = A k) ∧ z_TkC E' (A' 6) (A' 7) (toks ++ [(n, 0, 0)]) ∧ ∀ (fv : Value) (f w : Nat) (x1 x2 : Int32), z_Ln L xs fv f w 29 89 [(0, .ref 110), (1, .int x1), (2, .int x2)] [] (hC A E N (z_v V 3 6 (nI toks.length)) W ++ g, c) (.inl none) (hC A' E' N (z_v V 3 6 (nI (toks ++ [(n, 0, 0)]).length)) W ++ g, c) := by
  refine ⟨z_u (z_u A 6 ((toks.length, nI n) :: A 6)) 7 ((toks.length, 0) :: A 7), (toks.length, some 0) :: E, ?_, ?_, ?_⟩
  · intro k k6 k7
    unfold z_u
    rw [if_neg k7, if_neg k6]
  · have a6 : z_u (z_u A 6 ((toks.length, nI n) :: A 6)) 7 ((toks.length, 0) :: A 7) 6 = (toks.length, nI n) :: A 6 := rfl
    have a7 : z_u (z_u A 6 ((toks.length, nI n) :: A 6)) 7 ((toks.length, 0) :: A 7) 7 = (toks.length, 0) :: A 7 := rfl
    rw [a6, a7]
    exact z_TkC_add hTk (by decide) z_fn1 z_fn1 z_fn1 (fun i hi => z_fnc (by omega)) (fun i hi => z_fnc (by omega)) (fun i hi => z_fnc (by omega))
  · intro fv f w x1 x2
    have cc : (nI toks.length).toNatClampNeg = toks.length := nI_clamp (by omega)
    have ic : z_in (nI toks.length) 1501 = true := z_inI (by omega) (by decide)
    have key := b29_89 (L := L) (xs := xs) (fv := fv) (f := f) (w := w) (c := c) (A := A) (E := E) (N := N) (V := z_v V 3 6 (nI toks.length)) (W := W) (g := g) (x1 := x1) (x2 := x2) ic ic ic
    have e1 : (z_v V 3 6 (nI toks.length)) 3 6 = nI toks.length := rfl
    have e2 : (z_v V 3 6 (nI toks.length)) 3 2 = nI n := hV
    rw [e1, e2, z_vv, nI_1, cc] at key
    rw [List.length_append, List.length_singleton]
    exact key
theorem s29a {b : Nat → Nat} {n : Nat} (hV : V 3 2 = nI n) (hRm : ∀ A E V, z_Rm (hC A E N V W ++ g, c)) : ∀ (m p : Nat) (toks : List (Nat × Nat × Int32)) (A : Nat → List (Nat × Int32)) (E : List (Nat × Option Nat)), n - p ≤ m → p ≤ n → toks.length ≤ p → (∀ t ∈ toks, t.1 < p) → z_Tx (A 4) b n → z_TkC E (A 6) (A 7) toks →
    ∃ (A' : Nat → List (Nat × Int32)) (E' : List (Nat × Option Nat)), (∀ k, k ≠ 6 → k ≠ 7 → A' k = A k) ∧ z_TkC E' (A' 6) (A' 7) (z_tks b n m p toks) ∧ ∀ (fv : Value) (f w : Nat), 7 ≤ f → 700 ≤ w → z_Ln L xs fv f w 29 9 [(0, .ref 110), (1, .int (nI p)), (2, .int 1)] [] (hC A E N (z_v V 3 6 (nI toks.length)) W ++ g, c) (.inl none) (hC A' E' N (z_v V 3 6 (nI (z_tks b n m p toks).length)) W ++ g, c) := by
  have m30 : z_pg.2.1 30 ≤ 60 := by decide +kernel
  have m33 : z_pg.2.1 33 ≤ 60 := by decide +kernel
  have done : ∀ (m p : Nat) (toks : List (Nat × Nat × Int32)) (A : Nat → List (Nat × Int32)) (E : List (Nat × Option Nat)), ¬ p < n → p ≤ n → n ≤ 1500 → toks.length ≤ p → z_TkC E (A 6) (A 7) toks →
    ∃ (A' : Nat → List (Nat × Int32)) (E' : List (Nat × Option Nat)), (∀ k, k ≠ 6 → k ≠ 7 → A' k = A k) ∧ z_TkC E' (A' 6) (A' 7) (z_tks b n m p toks) ∧ ∀ (fv : Value) (f w : Nat), 7 ≤ f → 700 ≤ w → z_Ln L xs fv f w 29 9 [(0, .ref 110), (1, .int (nI p)), (2, .int 1)] [] (hC A E N (z_v V 3 6 (nI toks.length)) W ++ g, c) (.inl none) (hC A' E' N (z_v V 3 6 (nI (z_tks b n m p toks).length)) W ++ g, c) := by
    intro m p toks A E h hp hn hl hTk
    rw [z_tks_end h]
    obtain ⟨A', E', q1, q2, q3⟩ := s29e (L := L) (xs := xs) (c := c) (N := N) (W := W) (g := g) hV hTk (by omega)
    refine ⟨A', E', q1, q2, fun fv f w hf hw => b29_9t ?_ (q3 fv f w _ _)⟩
    show V 3 2 ≤ nI p
    rw [hV]
    exact nI_le (by omega) (by omega)
  intro m
  induction m with
  | zero =>
    intro p toks A E hm hp hl hpl hT hTk
    exact done 0 p toks A E (by omega) hp hT.1 hl hTk
  | succ m ih =>
    intro p toks A E hm hp hl hpl hT hTk
    by_cases h : p < n
    · obtain ⟨hn, ht⟩ := id hT
      obtain ⟨e1, e2⟩ := ht p h
      have cp : (nI p).toNatClampNeg = p := nI_clamp (by omega)
      have ip : z_in (nI p) 1500 = true := z_inI (by omega) (by decide)
      have ex : z_fn 0 (A 4) (nI p).toNatClampNeg = z_bc (b p) := by rw [cp, e2]
      obtain ⟨-, -, c32, c10, -⟩ := z_eq_bc (b p) e1
      have h9 : ¬ (z_v V 3 6 (nI toks.length)) 3 2 ≤ nI p := by
        show ¬ V 3 2 ≤ nI p
        rw [hV]
        exact nI_ge h (by omega)
      by_cases hs : b p = 32 ∨ b p = 10
      · obtain ⟨A', E', q1, q2, q3⟩ := ih (p + 1) toks A E (by omega) h (by omega) (fun t ht => Nat.lt_succ_of_lt (hpl t ht)) hT hTk
        rw [z_tks_sp h hs]
        refine ⟨A', E', q1, q2, fun fv f w hf hw => b29_9f h9 (b29_17f (by decide) ?_)⟩
        have nx := q3 fv f w hf hw
        rw [← nI_1] at nx
        by_cases h32 : b p = 32
        · exact b29_21t ip (by rw [ex]; exact c32.mpr h32) (b29_43 nx)
        · exact b29_21f ip (by rw [ex]; exact fun q => h32 (c32.mp q)) (b29_32f ip (by rw [ex]; exact fun q => q (c10.mpr (hs.resolve_left h32))) (b29_43 nx))
      · obtain ⟨w1, w2⟩ := z_we_le (b := b) h
        have hpw : p + (z_we b n p - p) = z_we b n p := by omega
        obtain ⟨A1, E1, q1, q2, q3⟩ := s33 (L := L) (xs := xs) (c := c) (A := A) (E := E) (N := N) (V := z_v V 3 6 (nI toks.length)) (W := W) (g := g) (b := b) (n := n) (p := p) (l := z_we b n p - p) (toks := toks) hT hV (by omega) (by omega) rfl hTk rfl (by omega) hpl (hRm _ _ _)
        have hl2 : (toks ++ [z_tw b n p toks]).length = toks.length + 1 := by rw [List.length_append, List.length_singleton]
        have q2' : z_TkC E1 (A1 6) (A1 7) (toks ++ [z_tw b n p toks]) := q2
        rw [hpw, z_vv, ← hl2] at q3
        obtain ⟨t1, t2, t3, t4⟩ := q2' toks.length (z_tw b n p toks) (by rw [List.getElem?_append_right (Nat.le_refl _), Nat.sub_self]; rfl)
        have t1' : z_fn none E1 toks.length = some (z_kd b n p) := t1
        have kd37 : z_kd b n p < 37 := t2
        have hT1 : z_Tx (A1 4) b n := by rw [q1 4 (by decide) (by decide)]; exact hT
        have hm1 : nI (toks.length + 1) - 1 = nI toks.length := by rw [show (1 : Int32) = nI 1 from rfl, pk_sub (by omega), Nat.add_sub_cancel]
        have pre : ∀ (fv : Value) (f w : Nat) (o : z_V) (T' : z_Y), 7 ≤ f → 700 ≤ w → z_Ln L xs fv f w 29 72 [(0, .ref 110), (1, .int (nI p)), (2, .int 1), (3, .int (nI (z_we b n p)))] [.ref (z_kd b n p)] (hC A1 E1 N (z_v V 3 6 (nI (toks ++ [z_tw b n p toks]).length)) W ++ g, c) o T' → z_Ln L xs fv f w 29 9 [(0, .ref 110), (1, .int (nI p)), (2, .int 1)] [] (hC A E N (z_v V 3 6 (nI toks.length)) W ++ g, c) o T' := by
          intro fv f w o T' hf hw kk
          have ei : (z_v V 3 6 (nI (toks ++ [z_tw b n p toks]).length)) 3 6 - 1 = nI toks.length := by
            show nI (toks ++ [z_tw b n p toks]).length - 1 = _
            rw [hl2, hm1]
          have k49 := b29_49 (L := L) (xs := xs) (fv := fv) (f := f) (w := w) (c := c) (o := o) (T' := T') (A := A) (E := E) (N := N) (V := z_v V 3 6 (nI toks.length)) (W := W) (g := g) (x1 := nI p) (x2 := 1) (v := nI (z_we b n p)) (hRm _ _ _) (by omega) (by omega) (s30 hT hV (hRm _ _ _) (by omega) (by omega) h) (b29_54 (hRm _ _ _) (by omega) (by omega) (q3 fv (f - 1) _ (by omega) (by omega)) (b29_61 (by rw [ei]; exact z_inI (by omega) (by decide)) (by rw [ei, nI_clamp (by omega)]; exact t1') (by omega) kk))
          exact b29_9f h9 (b29_17f (by decide) (b29_21f ip (by rw [ex]; exact fun q => hs (Or.inl (c32.mp q))) (b29_32t ip (by rw [ex]; exact fun q => hs (Or.inr (c10.mp q))) k49)))
        by_cases hk : z_kd b n p = 1
        · rw [z_tks_bad h hs hk]
          obtain ⟨A', E', r1, r2, r3⟩ := s29e (L := L) (xs := xs) (c := c) (N := N) (W := W) (g := g) hV q2' (by omega)
          refine ⟨A', E', fun k k6 k7 => (r1 k k6 k7).trans (q1 k k6 k7), r2, fun fv f w hf hw => pre fv f w _ _ hf hw (b29_72t kd37 (by rw [hk]) (b29_82 (b29_83 ?_)))⟩
          by_cases hwn : V 3 2 ≤ nI (z_we b n p)
          · exact b29_9t hwn (r3 fv f w _ _)
          · exact b29_9f hwn (b29_17t rfl (r3 fv f w _ _))
        · rw [z_tks_wd h hs hk]
          obtain ⟨A', E', r1, r2, r3⟩ := ih (z_we b n p) (toks ++ [z_tw b n p toks]) A1 E1 (by omega) w2 (by omega) (by
            intro t ht
            rcases List.mem_append.mp ht with ht | ht
            · exact Nat.lt_trans (hpl t ht) w1
            · rw [List.mem_singleton.mp ht]
              exact w1) hT1 q2'
          exact ⟨A', E', fun k k6 k7 => (r1 k k6 k7).trans (q1 k k6 k7), r2, fun fv f w hf hw => pre fv f w _ _ hf hw (b29_72f kd37 (fun q => hk (Option.some.inj q)) (b29_78 (b29_83 (r3 fv f w hf hw))))⟩
    · exact done (m + 1) p toks A E h hp hT.1 hl hTk
theorem s29 {b : Nat → Nat} {n : Nat} (hT : z_Tx (A 4) b n) (hV : V 3 2 = nI n) (hRm : z_Rm (hC A E N V W ++ g, c)) :
    ∃ (A' : Nat → List (Nat × Int32)) (E' : List (Nat × Option Nat)), (∀ k, k ≠ 6 → k ≠ 7 → A' k = A k) ∧ z_TkC E' (A' 6) (A' 7) (z_tks b n n 0 []) ∧ ∀ (fv : Value) (f w : Nat), 7 ≤ f → 700 ≤ w → z_Ln L xs fv f w 29 0 [(0, .ref 110)] [] (hC A E N V W ++ g, c) (.inl none) (hC A' E' N (z_v V 3 6 (nI (z_tks b n n 0 []).length)) W ++ g, c) := by
  obtain ⟨A', E', q1, q2, q3⟩ := s29a (L := L) (xs := xs) (c := c) (N := N) (V := V) (W := W) (g := g) (b := b) (n := n) hV (fun _ _ _ => hRm) n 0 [] A E (by omega) (Nat.zero_le _) (Nat.le_refl _) (fun t ht => by cases ht) hT (fun i t ht => by cases ht)
  exact ⟨A', E', q1, q2, fun fv f w hf hw => b29_0 (q3 fv f w hf hw)⟩
end ZLX4
