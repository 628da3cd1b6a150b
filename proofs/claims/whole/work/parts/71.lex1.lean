/-! Lexing: bytes, letters, digits, the end of a word (class); bytes, letters, digits (reference). -/
def z_bc (c : Nat) : Int32 := (nI c).toInt8.toInt32
def z_Lt2 (c : Nat) : Bool := (decide (97 ≤ c) && decide (c ≤ 122)) || (decide (65 ≤ c) && decide (c ≤ 90))
def z_Sm2 (c : Nat) : Bool := decide (97 ≤ c) && decide (c ≤ 122)
def z_Gr2 (c : Nat) : Bool := decide (65 ≤ c) && decide (c ≤ 90)
def z_Dg2 (c : Nat) : Bool := decide (48 ≤ c) && decide (c ≤ 57)
def z_B1 (b : Bool) : Int32 := if b = true then 1 else 0
theorem z_B1_or (b : Bool) : z_B1 b = 0 ∨ z_B1 b = 1 := by cases b <;> decide
theorem z_B1_t {b : Bool} (h : b = true) : ¬ z_B1 b = 0 := by rw [h]; decide
theorem z_B1_f {b : Bool} (h : b = false) : z_B1 b = 0 := by rw [h]; decide
theorem z_Lt_bc : ∀ c, c < 256 → (z_Lt2 c = true ↔ ((¬ z_bc c < 97 ∧ z_bc c ≤ 122) ∨ (¬ z_bc c < 65 ∧ ¬ 90 < z_bc c))) := by decide +kernel
theorem z_Dg_bc : ∀ c, c < 256 → (z_Dg2 c = true ↔ (¬ z_bc c < 48 ∧ ¬ 57 < z_bc c)) := by decide +kernel
theorem z_eq_bc : ∀ c, c < 256 → (z_bc c = 45 ↔ c = 45) ∧ (z_bc c = 62 ↔ c = 62) ∧ (z_bc c = 32 ↔ c = 32) ∧ (z_bc c = 10 ↔ c = 10) ∧ (z_bc c < 97 ↔ ¬ (97 ≤ c ∧ c < 128)) := by decide +kernel
theorem z_in_bc : ∀ c, c < 256 → ∀ d, d < 256 → (z_bc c = z_bc d ↔ c = d) := by
  intro c hc d hd
  constructor
  · intro h
    have h1 := sc_k8 c hc
    have h2 := sc_k8 d hd
    have h3 : nI c = nI d := by
      rw [← h1, ← h2]
      show z_bc c &&& 255 = z_bc d &&& 255
      rw [h]
    exact (nI_eq (by omega) (by omega)).mp h3
  · intro h
    rw [h]
/-- the text: n bytes b -/
def z_Tx (t : List (Nat × Int32)) (b : Nat → Nat) (n : Nat) : Prop := n ≤ 1500 ∧ ∀ p, p < n → b p < 256 ∧ z_fn 0 t p = z_bc (b p)
def z_Tr (t : List (Nat × Int32)) (b : Nat → Nat) (n : Nat) : Prop := n ≤ 1500 ∧ ∀ p, p < n → b p < 256 ∧ z_fn 0 t p = nI (b p)
/-- how far a property goes on -/
def z_rn (P : Nat → Bool) (b : Nat → Nat) (n : Nat) : Nat → Nat → Nat
  | 0, q => q
  | k + 1, q => if q < n ∧ P (b q) = true then z_rn P b n k (q + 1) else q
def z_go (P : Nat → Bool) (b : Nat → Nat) (n q : Nat) : Nat := z_rn P b n (n - q) q
theorem z_go_t {P : Nat → Bool} {b : Nat → Nat} {n q : Nat} (h : q < n) (hP : P (b q) = true) : z_go P b n q = z_go P b n (q + 1) := by
  unfold z_go
  obtain ⟨k, hk⟩ : ∃ k, n - q = k + 1 := ⟨n - q - 1, by omega⟩
  have h2 : n - (q + 1) = k := by omega
  rw [hk, h2]
  show (if q < n ∧ P (b q) = true then z_rn P b n k (q + 1) else q) = _
  rw [if_pos ⟨h, hP⟩]
theorem z_go_f {P : Nat → Bool} {b : Nat → Nat} {n q : Nat} (h : ¬ (q < n ∧ P (b q) = true)) : z_go P b n q = q := by
  unfold z_go
  cases n - q with
  | zero => rfl
  | succ k =>
    show (if q < n ∧ P (b q) = true then z_rn P b n k (q + 1) else q) = _
    rw [if_neg h]
theorem z_go_le {P : Nat → Bool} {b : Nat → Nat} {n : Nat} : ∀ k q, n - q ≤ k → q ≤ n → q ≤ z_go P b n q ∧ z_go P b n q ≤ n := by
  intro k
  induction k with
  | zero =>
    intro q h1 h2
    rw [z_go_f (by omega)]
    omega
  | succ k ih =>
    intro q h1 h2
    by_cases h : q < n ∧ P (b q) = true
    · rw [z_go_t h.1 h.2]
      have := ih (q + 1) (by omega) (by omega)
      omega
    · rw [z_go_f h]
      omega
/-- where the word ends that begins at p -/
def z_we (b : Nat → Nat) (n p : Nat) : Nat := if z_Lt2 (b p) = true then z_go (fun c => z_Lt2 c || z_Dg2 c) b n (p + 1) else if z_Dg2 (b p) = true then z_go z_Dg2 b n (p + 1) else if b p = 45 ∧ p + 1 < n ∧ b (p + 1) = 62 then p + 2 else p + 1
theorem z_we_le {b : Nat → Nat} {n p : Nat} (h : p < n) : p < z_we b n p ∧ z_we b n p ≤ n := by
  unfold z_we
  split
  · have := z_go_le (P := fun c => z_Lt2 c || z_Dg2 c) (b := b) (n := n) (n - (p + 1)) (p + 1) (Nat.le_refl _) (by omega)
    omega
  · split
    · have := z_go_le (P := z_Dg2) (b := b) (n := n) (n - (p + 1)) (p + 1) (Nat.le_refl _) (by omega)
      omega
    · split
      · omega
      · omega
section ZLEX
variable {L : Nat} {xs : Nat → Int32} {fv : Value} {f w : Nat} {c : Nat × Nat} {A : Nat → List (Nat × Int32)} {E : List (Nat × Option Nat)} {N : Nat → Nat} {V : Nat → Nat → Int32} {W : Nat} {g : List z_E} {B : Nat → List (Nat × Int32)} {M : Nat → List (Nat × Int64)} {U : Nat → Nat → Int32}
theorem s31 {e : Nat} (he : e < 256) : z_Ln L xs fv f w 31 0 [(0, .int (z_bc e))] [] (hC A E N V W ++ g, c) (.inl (some (.int (z_B1 (z_Lt2 e))))) (hC A E N V W ++ g, c) := by
  have k := z_Lt_bc e he
  have yes : (z_Lt2 e = true) → z_Ln L xs fv f w 31 24 [(0, .int (z_bc e))] [] (hC A E N V W ++ g, c) (.inl (some (.int (z_B1 (z_Lt2 e))))) (hC A E N V W ++ g, c) := by
    intro h
    rw [h]
    exact b31_24 (b31_29 (Or.inr rfl))
  have no : (z_Lt2 e = false) → z_Ln L xs fv f w 31 28 [(0, .int (z_bc e))] [] (hC A E N V W ++ g, c) (.inl (some (.int (z_B1 (z_Lt2 e))))) (hC A E N V W ++ g, c) := by
    intro h
    rw [h]
    exact b31_28 (b31_29 (Or.inl rfl))
  have nf : ∀ {P : Prop}, (z_Lt2 e = true ↔ P) → ¬ P → z_Lt2 e = false := by
    intro P h1 h2
    cases hx : z_Lt2 e with
    | false => rfl
    | true => exact absurd (h1.mp hx) h2
  have low : ¬ (¬ z_bc e < 97 ∧ z_bc e ≤ 122) → z_Ln L xs fv f w 31 12 [(0, .int (z_bc e))] [] (hC A E N V W ++ g, c) (.inl (some (.int (z_B1 (z_Lt2 e))))) (hC A E N V W ++ g, c) := by
    intro hn
    by_cases h3 : z_bc e < 65
    · exact b31_12t h3 (no (nf k (fun q => q.elim hn (fun q => q.1 h3))))
    · by_cases h4 : 90 < z_bc e
      · exact b31_12f h3 (b31_18t h4 (no (nf k (fun q => q.elim hn (fun q => q.2 h4)))))
      · exact b31_12f h3 (b31_18f h4 (yes (k.mpr (Or.inr ⟨h3, h4⟩))))
  by_cases h1 : z_bc e < 97
  · exact b31_0t h1 (low (fun q => q.1 h1))
  · by_cases h2 : z_bc e ≤ 122
    · exact b31_0f h1 (b31_6t h2 (yes (k.mpr (Or.inl ⟨h1, h2⟩))))
    · exact b31_0f h1 (b31_6f h2 (low (fun q => h2 q.2)))
theorem s32 {e : Nat} (he : e < 256) : z_Ln L xs fv f w 32 0 [(0, .int (z_bc e))] [] (hC A E N V W ++ g, c) (.inl (some (.int (z_B1 (z_Dg2 e))))) (hC A E N V W ++ g, c) := by
  have k := z_Dg_bc e he
  have no : (z_Dg2 e = false) → z_Ln L xs fv f w 32 16 [(0, .int (z_bc e))] [] (hC A E N V W ++ g, c) (.inl (some (.int (z_B1 (z_Dg2 e))))) (hC A E N V W ++ g, c) := by
    intro h
    rw [h]
    exact b32_16 (b32_17 (Or.inl rfl))
  have nf : ∀ {P : Prop}, (z_Dg2 e = true ↔ P) → ¬ P → z_Dg2 e = false := by
    intro P h1 h2
    cases hx : z_Dg2 e with
    | false => rfl
    | true => exact absurd (h1.mp hx) h2
  by_cases h1 : z_bc e < 48
  · exact b32_0t h1 (no (nf k (fun q => q.1 h1)))
  · by_cases h2 : 57 < z_bc e
    · exact b32_0f h1 (b32_6t h2 (no (nf k (fun q => q.2 h2))))
    · refine b32_0f h1 (b32_6f h2 ?_)
      rw [k.mpr ⟨h1, h2⟩]
      exact b32_12 (b32_17 (Or.inr rfl))
/-- endOfWord: the loop over letters and digits -/
theorem s30a {b : Nat → Nat} {n : Nat} {x1 : Int32} (hT : z_Tx (A 4) b n) (hV : V 3 2 = nI n) (hRm : z_Rm (hC A E N V W ++ g, c)) (hf : 1 ≤ f) (hw : 40 ≤ w) : ∀ k q, n - q ≤ k → q ≤ n → z_Ln L xs fv f w 30 16 [(0, .ref 110), (1, .int x1), (2, .int (nI q))] [] (hC A E N V W ++ g, c) (.inl (some (.int (nI (z_go (fun c => z_Lt2 c || z_Dg2 c) b n q))))) (hC A E N V W ++ g, c) := by
  have m31 : z_pg.2.1 31 = 1 := rfl
  have m32 : z_pg.2.1 32 = 1 := rfl
  obtain ⟨hn, ht⟩ := hT
  intro k
  induction k with
  | zero =>
    intro q h1 h2
    rw [z_go_f (by omega)]
    exact b30_16t (by rw [hV]; exact nI_le (by omega) (by omega)) b30_125
  | succ k ih =>
    intro q h1 h2
    by_cases hq : q < n
    · obtain ⟨e1, e2⟩ := ht q hq
      have cq : (nI q).toNatClampNeg = q := nI_clamp (by omega)
      have iq : z_in (nI q) 1500 = true := z_inI (by omega) (by decide)
      have ex : z_fn 0 (A 4) (nI q).toNatClampNeg = z_bc (b q) := by rw [cq, e2]
      refine b30_16f (by rw [hV]; exact nI_ge hq (by omega)) (b30_24 (v := z_B1 (z_Lt2 (b q))) iq hRm hf (by omega) (by rw [ex]; exact s31 e1) ?_)
      have again : (z_Lt2 (b q) || z_Dg2 (b q)) = true → z_Ln L xs fv f w 30 48 [(0, .ref 110), (1, .int x1), (2, .int (nI q))] [] (hC A E N V W ++ g, c) (.inl (some (.int (nI (z_go (fun c => z_Lt2 c || z_Dg2 c) b n q))))) (hC A E N V W ++ g, c) := by
        intro hP
        rw [z_go_t hq hP]
        refine b30_48 ?_
        rw [nI_1]
        exact ih (q + 1) (by omega) (by omega)
      cases hl : z_Lt2 (b q) with
      | true => exact b30_33t (z_B1_t rfl) (again (by rw [hl]; rfl))
      | false =>
        refine b30_33f (not_not_intro (z_B1_f rfl)) (b30_36 (v := z_B1 (z_Dg2 (b q))) iq hRm hf (by omega) (by rw [ex]; exact s32 e1) ?_)
        cases hd : z_Dg2 (b q) with
        | true => exact b30_45f (z_B1_t rfl) (again (by rw [hl, hd]; rfl))
        | false =>
          rw [z_go_f (by rw [hl, hd]; simp)]
          exact b30_45t (z_B1_f rfl) b30_125
    · rw [z_go_f (by omega)]
      exact b30_16t (by rw [hV]; exact nI_le (by omega) (by omega)) b30_125
theorem s30b {b : Nat → Nat} {n : Nat} {x1 : Int32} (hT : z_Tx (A 4) b n) (hV : V 3 2 = nI n) (hRm : z_Rm (hC A E N V W ++ g, c)) (hf : 1 ≤ f) (hw : 40 ≤ w) : ∀ k q, n - q ≤ k → q ≤ n → z_Ln L xs fv f w 30 66 [(0, .ref 110), (1, .int x1), (2, .int (nI q))] [] (hC A E N V W ++ g, c) (.inl (some (.int (nI (z_go z_Dg2 b n q))))) (hC A E N V W ++ g, c) := by
  have m32 : z_pg.2.1 32 = 1 := rfl
  obtain ⟨hn, ht⟩ := hT
  intro k
  induction k with
  | zero =>
    intro q h1 h2
    rw [z_go_f (by omega)]
    exact b30_66t (by rw [hV]; exact nI_le (by omega) (by omega)) b30_125
  | succ k ih =>
    intro q h1 h2
    by_cases hq : q < n
    · obtain ⟨e1, e2⟩ := ht q hq
      have cq : (nI q).toNatClampNeg = q := nI_clamp (by omega)
      have iq : z_in (nI q) 1500 = true := z_inI (by omega) (by decide)
      have ex : z_fn 0 (A 4) (nI q).toNatClampNeg = z_bc (b q) := by rw [cq, e2]
      refine b30_66f (by rw [hV]; exact nI_ge hq (by omega)) (b30_74 (v := z_B1 (z_Dg2 (b q))) iq hRm hf (by omega) (by rw [ex]; exact s32 e1) ?_)
      cases hd : z_Dg2 (b q) with
      | true =>
        rw [z_go_t hq hd]
        refine b30_83f (z_B1_t rfl) (b30_86 ?_)
        rw [nI_1]
        exact ih (q + 1) (by omega) (by omega)
      | false =>
        rw [z_go_f (by rw [hd]; simp)]
        exact b30_83t (z_B1_f rfl) b30_125
    · rw [z_go_f (by omega)]
      exact b30_66t (by rw [hV]; exact nI_le (by omega) (by omega)) b30_125
/-- endOfWord -/
theorem s30 {b : Nat → Nat} {n p : Nat} (hT : z_Tx (A 4) b n) (hV : V 3 2 = nI n) (hRm : z_Rm (hC A E N V W ++ g, c)) (hf : 1 ≤ f) (hw : 40 ≤ w) (hp : p < n) : z_Ln L xs fv f w 30 0 [(0, .ref 110), (1, .int (nI p))] [] (hC A E N V W ++ g, c) (.inl (some (.int (nI (z_we b n p))))) (hC A E N V W ++ g, c) := by
  have m31 : z_pg.2.1 31 = 1 := rfl
  have m32 : z_pg.2.1 32 = 1 := rfl
  obtain ⟨hn, ht⟩ := id hT
  obtain ⟨e1, e2⟩ := ht p hp
  have cp : (nI p).toNatClampNeg = p := nI_clamp (by omega)
  have ip : z_in (nI p) 1500 = true := z_inI (by omega) (by decide)
  have ex : z_fn 0 (A 4) (nI p).toNatClampNeg = z_bc (b p) := by rw [cp, e2]
  refine b30_0 (v := z_B1 (z_Lt2 (b p))) ip hRm hf (by omega) (by rw [ex]; exact s31 e1) ?_
  unfold z_we
  cases hl : z_Lt2 (b p) with
  | true =>
    rw [if_pos rfl, nI_1]
    exact b30_13f (z_B1_t rfl) (s30a hT hV hRm hf hw (n - (p + 1)) (p + 1) (Nat.le_refl _) (by omega))
  | false =>
    rw [if_neg (by decide), nI_1]
    refine b30_13t (z_B1_f rfl) (b30_54 (v := z_B1 (z_Dg2 (b p))) ip hRm hf (by omega) (by rw [ex]; exact s32 e1) ?_)
    cases hd : z_Dg2 (b p) with
    | true =>
      rw [if_pos rfl]
      exact b30_63f (z_B1_t rfl) (s30b hT hV hRm hf hw (n - (p + 1)) (p + 1) (Nat.le_refl _) (by omega))
    | false =>
      rw [if_neg (by decide)]
      refine b30_63t (z_B1_f rfl) ?_
      have q45 := (z_eq_bc (b p) e1).1
      by_cases h45 : b p = 45
      · refine b30_92f ip (by rw [ex]; exact not_not_intro (q45.mpr h45)) ?_
        by_cases hn1 : p + 1 < n
        · obtain ⟨d1, d2⟩ := ht (p + 1) hn1
          have q62 := (z_eq_bc (b (p + 1)) d1).2.1
          have cp1 : (nI (p + 1)).toNatClampNeg = p + 1 := nI_clamp (by omega)
          have ip1 : z_in (nI (p + 1)) 1500 = true := z_inI (by omega) (by decide)
          refine b30_103f (by rw [hV]; exact nI_ge hn1 (by omega)) ?_
          by_cases h62 : b (p + 1) = 62
          · rw [if_pos ⟨h45, hn1, h62⟩]
            refine b30_111f ip1 (by rw [cp1, d2]; exact not_not_intro (q62.mpr h62)) (b30_122 ?_)
            rw [nI_1]
            exact b30_125
          · rw [if_neg (fun q => h62 q.2.2)]
            exact b30_111t ip1 (by rw [cp1, d2]; exact fun q => h62 (q62.mp q)) b30_125
        · rw [if_neg (fun q => hn1 q.2.1)]
          exact b30_103t (by rw [hV]; exact nI_le (by omega) (by omega)) b30_125
      · rw [if_neg (fun q => h45 q.1)]
        exact b30_92t ip (by rw [ex]; exact fun q => h45 (q45.mp q)) b30_125
end ZLEX
