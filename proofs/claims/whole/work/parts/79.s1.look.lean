/-! Lexing (reference): look, next. -/
/-- word, wide and value put -/
def z_U3 (U : Nat → Nat → Int32) (a b d : Int32) : Nat → Nat → Int32 := fun k j => if k = 41 then (if j = 7 then a else if j = 9 then b else if j = 10 then d else U k j) else U k j
theorem z_U3_self {U : Nat → Nat → Int32} : z_U3 U (U 41 7) (U 41 9) (U 41 10) = U := by
  funext k j
  unfold z_U3
  by_cases h : k = 41
  · subst h
    by_cases h1 : j = 7
    · simp [h1]
    · by_cases h2 : j = 9
      · simp [h2]
      · by_cases h3 : j = 10
        · simp [h3]
        · simp [h1, h2, h3]
  · simp [h]
theorem z_U3_7 {U : Nat → Nat → Int32} {a b d x : Int32} : z_v (z_U3 U a b d) 41 7 x = z_U3 U x b d := by
  funext k j
  unfold z_U3 z_v
  by_cases h : k = 41
  · by_cases h1 : j = 7
    · simp [h, h1]
    · simp [h, h1]
  · simp [h]
theorem z_U3_9 {U : Nat → Nat → Int32} {a b d x : Int32} : z_v (z_U3 U a b d) 41 9 x = z_U3 U a x d := by
  funext k j
  unfold z_U3 z_v
  by_cases h : k = 41
  · by_cases h1 : j = 9
    · simp [h, h1]
    · simp [h, h1]
  · simp [h]
theorem z_U3_10 {U : Nat → Nat → Int32} {a b d x : Int32} : z_v (z_U3 U a b d) 41 10 x = z_U3 U a b x := by
  funext k j
  unfold z_U3 z_v
  by_cases h : k = 41
  · by_cases h1 : j = 10
    · simp [h, h1]
    · simp [h, h1]
  · simp [h]
theorem z_Qra {b : Nat → Nat} {n q : Nat} {t : List (Nat × Int32)} (hT : z_Tr t b n) : z_Qr 97 122 (z_ra b n q) = (decide (q < n) && z_Sm2 (b q)) ∧ z_Qr 65 90 (z_ra b n q) = (decide (q < n) && z_Gr2 (b q)) ∧ z_Qr 48 57 (z_ra b n q) = (decide (q < n) && z_Dg2 (b q)) := by
  unfold z_ra
  by_cases h : q < n
  · obtain ⟨e1, e2, e3, -⟩ := z_Qr_bc (b q) (hT.2 q h).1
    rw [if_pos h, decide_eq_true h, Bool.true_and, Bool.true_and, Bool.true_and]
    exact ⟨e1, e2, e3⟩
  · rw [if_neg h, decide_eq_false h, Bool.false_and, Bool.false_and, Bool.false_and]
    exact z_Qr_no
theorem z_Lt_or (c : Nat) : z_Lt2 c = (z_Sm2 c || z_Gr2 c) := rfl
/-- the number that the reference makes of k digits at p -/
def z_nr (b : Nat → Nat) (p : Nat) : Nat → Int32
  | 0 => 0
  | k + 1 => ((10 * z_nr b p k) + nI (b (p + k))) - 48
/-- what look tells of the place p: its word, its wide and its value -/
def z_lw (b : Nat → Nat) (n p : Nat) : Int32 := if ¬ p < n then 0 else if z_Lt2 (b p) = true then (if z_we b n p - p ≤ 12 then (if z_kf b p (z_we b n p - p) 17 ≤ 0 then (if z_Sm2 (b p) = true then 1 else 2) else z_kf b p (z_we b n p - p) 17) else 5) else if z_Dg2 (b p) = true then (if z_we b n p - p ≤ 9 then 3 else 5) else if b p = 45 ∧ p + 1 < n ∧ b (p + 1) = 62 then 4 else if z_Sg (nI (b p)) = true then nI (b p) else 5
def z_ll (b : Nat → Nat) (n p : Nat) : Nat := if p < n then z_we b n p - p else 1
def z_lv2 (b : Nat → Nat) (n p : Nat) (d : Int32) : Int32 := if p < n ∧ z_Dg2 (b p) = true then z_nr b p (min (z_we b n p - p) 9) else d
section ZLX7
variable {L : Nat} {xs : Nat → Int32} {fv : Value} {f w : Nat} {c : Nat × Nat} {A : Nat → List (Nat × Int32)} {E : List (Nat × Option Nat)} {N : Nat → Nat} {V : Nat → Nat → Int32} {W : Nat} {g : List z_E} {B : Nat → List (Nat × Int32)} {M : Nat → List (Nat × Int64)} {U : Nat → Nat → Int32}
theorem s143b {b : Nat → Nat} {n p i : Nat} {a d : Int32} (hT : z_Tr (B 44) b n) (hU6 : U 41 6 = nI n) (hU : U 41 8 = nI p) (hp : p + i ≤ 3000) : z_Ln L xs fv f w 142 0 [(0, .ref 148), (1, .int ((z_U3 U a (nI i) d) 41 8 + (z_U3 U a (nI i) d) 41 9))] [] (hC A E N V W ++ (hR B M (z_U3 U a (nI i) d) ++ g), c) (.inl (some (.int (z_ra b n (p + i))))) (hC A E N V W ++ (hR B M (z_U3 U a (nI i) d) ++ g), c) := by
  have e : (z_U3 U a (nI i) d) 41 8 + (z_U3 U a (nI i) d) 41 9 = nI (p + i) := by
    show U 41 8 + nI i = _
    rw [hU, nI_add]
  rw [e]
  exact s142 hT hU6 hp
theorem s143c {b : Nat → Nat} {n p : Nat} {x1 a d : Int32} {o : z_V} {T' : z_Y} (hT : z_Tr (B 44) b n) (hU6 : U 41 6 = nI n) (hU : U 41 8 = nI p) (hRm : z_Rm (hC A E N V W ++ (hR B M U ++ g), c)) (hf : 2 ≤ f) (hw : 100 ≤ w) (e : Nat) (kk : z_Ln L xs fv f w 143 111 [(0, .ref 148), (1, .int x1)] [] (hC A E N V W ++ (hR B M (z_U3 U a (nI e) d) ++ g), c) o T') : ∀ k i, n - (p + i) ≤ k → p + i ≤ n → z_go (fun c => z_Lt2 c || z_Dg2 c) b n (p + i) = p + e → z_Ln L xs fv f w 143 41 [(0, .ref 148), (1, .int x1)] [] (hC A E N V W ++ (hR B M (z_U3 U a (nI i) d) ++ g), c) o T' := by
  have hn := hT.1
  have m142 : z_pg.2.1 142 ≤ 40 := by decide +kernel
  have m144 : z_pg.2.1 144 ≤ 40 := by decide +kernel
  have m145 : z_pg.2.1 145 ≤ 40 := by decide +kernel
  have m146 : z_pg.2.1 146 ≤ 40 := by decide +kernel
  intro k
  induction k with
  | zero =>
    intro i hk hi hg
    rw [z_go_f (fun q => by omega)] at hg
    have hie : i = e := by omega
    subst hie
    obtain ⟨q1, q2, q3⟩ := z_Qra (q := p + i) hT
    rw [decide_eq_false (by omega), Bool.false_and] at q1 q2 q3
    refine b143_41 hRm (by omega) (by omega) (s143b hT hU6 hU (by omega)) (b143_54 hRm (by omega) (by omega) s144 (b143_57f (fun q => q (z_B1_f q1)) ?_))
    refine b143_60 hRm (by omega) (by omega) (s143b hT hU6 hU (by omega)) (b143_73 hRm (by omega) (by omega) s145 (b143_76f (fun q => q (z_B1_f q2)) ?_))
    exact b143_79 hRm (by omega) (by omega) (s143b hT hU6 hU (by omega)) (b143_92 hRm (by omega) (by omega) s146 (b143_95t (z_B1_f q3) kk))
  | succ k ih =>
    intro i hk hi hg
    obtain ⟨q1, q2, q3⟩ := z_Qra (q := p + i) hT
    by_cases hP : p + i < n ∧ (z_Lt2 (b (p + i)) || z_Dg2 (b (p + i))) = true
    · rw [z_go_t hP.1 hP.2] at hg
      rw [decide_eq_true hP.1, Bool.true_and] at q1 q2 q3
      have nx : z_Ln L xs fv f w 143 98 [(0, .ref 148), (1, .int x1)] [] (hC A E N V W ++ (hR B M (z_U3 U a (nI i) d) ++ g), c) o T' := by
        refine b143_98 ?_
        rw [z_U3_9]
        show z_Ln L xs fv f w 143 41 [(0, .ref 148), (1, .int x1)] [] (hC A E N V W ++ (hR B M (z_U3 U a (nI i + 1) d) ++ g), c) o T'
        rw [nI_1]
        exact ih (i + 1) (by omega) (by omega) hg
      refine b143_41 hRm (by omega) (by omega) (s143b hT hU6 hU (by omega)) (b143_54 hRm (by omega) (by omega) s144 ?_)
      cases h1 : z_Sm2 (b (p + i)) with
      | true => exact b143_57t (z_B1_t (q1.trans h1)) nx
      | false =>
        refine b143_57f (fun q => q (z_B1_f (q1.trans h1))) (b143_60 hRm (by omega) (by omega) (s143b hT hU6 hU (by omega)) (b143_73 hRm (by omega) (by omega) s145 ?_))
        cases h2 : z_Gr2 (b (p + i)) with
        | true => exact b143_76t (z_B1_t (q2.trans h2)) nx
        | false =>
          have h3 : z_Dg2 (b (p + i)) = true := by
            have := hP.2
            rw [z_Lt_or, h1, h2] at this
            exact this
          exact b143_76f (fun q => q (z_B1_f (q2.trans h2))) (b143_79 hRm (by omega) (by omega) (s143b hT hU6 hU (by omega)) (b143_92 hRm (by omega) (by omega) s146 (b143_95f (z_B1_t (q3.trans h3)) nx)))
    · rw [z_go_f hP] at hg
      have hie : i = e := by omega
      subst hie
      have z1 : z_Qr 97 122 (z_ra b n (p + i)) = false ∧ z_Qr 65 90 (z_ra b n (p + i)) = false ∧ z_Qr 48 57 (z_ra b n (p + i)) = false := by
        rw [q1, q2, q3]
        by_cases h : p + i < n
        · have h0 : (z_Lt2 (b (p + i)) || z_Dg2 (b (p + i))) = false := by
            cases hh : (z_Lt2 (b (p + i)) || z_Dg2 (b (p + i))) with
            | true => exact absurd ⟨h, hh⟩ hP
            | false => rfl
          rw [z_Lt_or, Bool.or_eq_false_iff, Bool.or_eq_false_iff] at h0
          rw [h0.1.1, h0.1.2, h0.2, Bool.and_false]
          exact ⟨rfl, rfl, rfl⟩
        · rw [decide_eq_false h, Bool.false_and, Bool.false_and, Bool.false_and]
          exact ⟨rfl, rfl, rfl⟩
      refine b143_41 hRm (by omega) (by omega) (s143b hT hU6 hU (by omega)) (b143_54 hRm (by omega) (by omega) s144 (b143_57f (fun q => q (z_B1_f z1.1)) ?_))
      refine b143_60 hRm (by omega) (by omega) (s143b hT hU6 hU (by omega)) (b143_73 hRm (by omega) (by omega) s145 (b143_76f (fun q => q (z_B1_f z1.2.1)) ?_))
      exact b143_79 hRm (by omega) (by omega) (s143b hT hU6 hU (by omega)) (b143_92 hRm (by omega) (by omega) s146 (b143_95t (z_B1_f z1.2.2) kk))
theorem s143d {b : Nat → Nat} {n p : Nat} {x1 a : Int32} {o : z_V} {T' : z_Y} (hT : z_Tr (B 44) b n) (hU6 : U 41 6 = nI n) (hU : U 41 8 = nI p) (hRm : z_Rm (hC A E N V W ++ (hR B M U ++ g), c)) (hf : 2 ≤ f) (hw : 100 ≤ w) (e : Nat) (kk : z_Ln L xs fv f w 143 250 [(0, .ref 148), (1, .int x1)] [] (hC A E N V W ++ (hR B M (z_U3 U a (nI e) (z_nr b p (min e 9))) ++ g), c) o T') : ∀ k i, n - (p + i) ≤ k → p + i ≤ n → z_go z_Dg2 b n (p + i) = p + e → z_Ln L xs fv f w 143 173 [(0, .ref 148), (1, .int x1)] [] (hC A E N V W ++ (hR B M (z_U3 U a (nI i) (z_nr b p (min i 9))) ++ g), c) o T' := by
  have hn := hT.1
  have m142 : z_pg.2.1 142 ≤ 40 := by decide +kernel
  have m146 : z_pg.2.1 146 ≤ 40 := by decide +kernel
  have stop : ∀ i, p + i ≤ n → z_Qr 48 57 (z_ra b n (p + i)) = false → i = e → z_Ln L xs fv f w 143 173 [(0, .ref 148), (1, .int x1)] [] (hC A E N V W ++ (hR B M (z_U3 U a (nI i) (z_nr b p (min i 9))) ++ g), c) o T' := by
    intro i hi h0 hie
    subst hie
    exact b143_173 hRm (by omega) (by omega) (s143b hT hU6 hU (by omega)) (b143_186 hRm (by omega) (by omega) s146 (b143_189t (z_B1_f h0) kk))
  intro k
  induction k with
  | zero =>
    intro i hk hi hg
    rw [z_go_f (fun q => by omega)] at hg
    obtain ⟨-, -, q3⟩ := z_Qra (q := p + i) hT
    rw [decide_eq_false (by omega), Bool.false_and] at q3
    exact stop i hi q3 (by omega)
  | succ k ih =>
    intro i hk hi hg
    obtain ⟨-, -, q3⟩ := z_Qra (q := p + i) hT
    by_cases hP : p + i < n ∧ z_Dg2 (b (p + i)) = true
    · rw [z_go_t hP.1 hP.2] at hg
      rw [decide_eq_true hP.1, Bool.true_and, hP.2] at q3
      have nx := ih (i + 1) (by omega) (by omega) hg
      refine b143_173 hRm (by omega) (by omega) (s143b hT hU6 hU (by omega)) (b143_186 hRm (by omega) (by omega) s146 (b143_189f (z_B1_t q3) ?_))
      by_cases h9 : 9 ≤ i
      · refine b143_192t (nI_le (a := 9) h9 (by omega)) (b143_230 (b143_234 ?_))
        rw [z_U3_10, z_U3_9]
        show z_Ln L xs fv f w 143 173 [(0, .ref 148), (1, .int x1)] [] (hC A E N V W ++ (hR B M (z_U3 U a (nI i + 1) (z_nr b p (min i 9))) ++ g), c) o T'
        rw [nI_1]
        rw [show min (i + 1) 9 = 9 by omega] at nx
        rw [show min i 9 = 9 by omega]
        exact nx
      · have ei : (z_U3 U a (nI i) (z_nr b p (min i 9))) 41 8 + (z_U3 U a (nI i) (z_nr b p (min i 9))) 41 9 = nI (p + i) := by
          show U 41 8 + nI i = _
          rw [hU, nI_add]
        refine b143_192f (nI_ge (b := 9) (by omega) (by omega)) (b143_202 (by rw [ei]; exact z_inI (by omega) (by decide)) (b143_234 ?_))
        rw [z_U3_10, z_U3_9, ei, nI_clamp (by omega), (hT.2 (p + i) hP.1).2]
        show z_Ln L xs fv f w 143 173 [(0, .ref 148), (1, .int x1)] [] (hC A E N V W ++ (hR B M (z_U3 U a (nI i + 1) (((10 * z_nr b p (min i 9)) + nI (b (p + i))) - 48)) ++ g), c) o T'
        rw [nI_1]
        rw [show min (i + 1) 9 = i + 1 by omega] at nx
        rw [show min i 9 = i by omega]
        exact nx
    · rw [z_go_f hP] at hg
      refine stop i hi ?_ (by omega)
      rw [q3]
      by_cases h : p + i < n
      · cases hh : z_Dg2 (b (p + i)) with
        | true => exact absurd ⟨h, hh⟩ hP
        | false => exact Bool.and_false _
      · rw [decide_eq_false h, Bool.false_and]
end ZLX7
