/-! Reading, both together, said shortly: the next word, a word that must stand here, a row. -/
/-- both look at word j, which is t, and nothing is wrong -/
def z_J (b : Nat → Nat) (n j : Nat) (t : Nat × Nat × Int32) (S : z_CS) (R : z_RS) : Prop := z_Jt b n S.2.1 S.1 R.1 R.2.2 ∧ z_Wj b n j t S.2.2.2.1 S.2.2.2.2.1 R.2.2 ∧ ¬ t.2.1 = 1 ∧ R.2.2 41 11 = 0 ∧ z_Rk S.2.2.1 S.2.2.2.2.2
/-- but for the word all is as it was -/
def z_Kw (S S' : z_CS) : Prop := S'.1 = S.1 ∧ S'.2.1 = S.2.1 ∧ S'.2.2.1 = S.2.2.1 ∧ z_Vw S.2.2.2.1 S'.2.2.2.1 ∧ S'.2.2.2.2.2 = S.2.2.2.2.2
def z_Lw (R R' : z_RS) : Prop := R'.1 = R.1 ∧ R'.2.1 = R.2.1 ∧ z_Uw R.2.2 R'.2.2
/-- what reading writes, of the class -/
def z_rdA (k : Nat) : Bool := (decide (9 ≤ k) && decide (k ≤ 12)) || (decide (14 ≤ k) && decide (k ≤ 19)) || (decide (21 ≤ k) && decide (k ≤ 23)) || (decide (25 ≤ k) && decide (k ≤ 26))
def z_rdV (k j : Nat) : Bool := (decide (k = 3) && (decide (7 ≤ j) && decide (j ≤ 10))) || (decide (k = 8) && decide (j = 4)) || decide (k = 13) || (decide (k = 20) && decide (j = 3)) || (decide (k = 24) && decide (j = 7))
/-- but for what reading writes all is as it was; what was made since, of rows that grew -/
def z_XC (S S' : z_CS) : Prop := (∀ k, z_rdA k = false → S'.1 k = S.1 k) ∧ S'.2.1 = S.2.1 ∧ (∀ k, (¬ k ≤ 12 ∧ ¬ (14 ≤ k ∧ k ≤ 19)) → S'.2.2.1 k = S.2.2.1 k) ∧ (∀ k j, z_rdV k j = false → S'.2.2.2.1 k j = S.2.2.2.1 k j) ∧ z_Gw S.2.2.1 S'.2.2.1 S.2.2.2.2.2 S'.2.2.2.2.2
/-- the class has ended with fault x at y -/
def z_Xd (x y : Int32) (S S' : z_CS) : Prop := ∃ S1, z_XC S S1 ∧ z_Rk S1.2.2.1 S1.2.2.2.2.2 ∧ S'.1 = S1.1 ∧ S'.2.1 = S1.2.1 ∧ S'.2.2.1 = S1.2.2.1 ∧ S'.2.2.2.1 = z_Vf S1.2.2.2.1 x y ∧ S'.2.2.2.2.2 = (S1.2.2.2.2.2.1 + 1, S1.2.2.2.2.2.2 + 6) ∧ S'.2.2.2.2.1 < 107
theorem z_XC.rf {S : z_CS} : z_XC S S := ⟨fun _ _ => rfl, rfl, fun _ _ => rfl, fun _ _ _ => rfl, z_Gw.rf⟩
theorem z_XC.tr {S S' S'' : z_CS} (h : z_XC S S') (h' : z_XC S' S'') : z_XC S S'' := ⟨fun k q => (h'.1 k q).trans (h.1 k q), h'.2.1.trans h.2.1, fun k q => (h'.2.2.1 k q).trans (h.2.2.1 k q), fun k j q => (h'.2.2.2.1 k j q).trans (h.2.2.2.1 k j q), h.2.2.2.2.tr h'.2.2.2.2⟩
theorem z_Xd.tr {x y : Int32} {S S1 S' : z_CS} (h : z_XC S S1) (h' : z_Xd x y S1 S') : z_Xd x y S S' := by
  obtain ⟨S2, k1, k2⟩ := h'
  exact ⟨S2, h.tr k1, k2⟩
theorem z_Kw.rf {S : z_CS} : z_Kw S S := ⟨rfl, rfl, rfl, z_Vw_rfl, rfl⟩
theorem z_Kw.tr {S S' S'' : z_CS} (h : z_Kw S S') (h' : z_Kw S' S'') : z_Kw S S'' := ⟨h'.1.trans h.1, h'.2.1.trans h.2.1, h'.2.2.1.trans h.2.2.1, z_Vw_tr h.2.2.2.1 h'.2.2.2.1, h'.2.2.2.2.trans h.2.2.2.2⟩
theorem z_Lw.rf {R : z_RS} : z_Lw R R := ⟨rfl, rfl, z_Uw_rfl⟩
theorem z_Lw.tr {R R' R'' : z_RS} (h : z_Lw R R') (h' : z_Lw R' R'') : z_Lw R R'' := ⟨h'.1.trans h.1, h'.2.1.trans h.2.1, z_Uw_tr h.2.2 h'.2.2⟩
theorem z_rdV3 {k j : Nat} (h : z_rdV k j = false) : ¬ (k = 3 ∧ 7 ≤ j ∧ j ≤ 10) := by
  rintro ⟨h1, h2, h3⟩
  unfold z_rdV at h
  rw [decide_eq_true h1, decide_eq_true h2, decide_eq_true h3] at h
  simp at h
theorem z_Kw.xc {S S' : z_CS} (h : z_Kw S S') : z_XC S S' := by
  obtain ⟨h1, h2, h3, h4, h5⟩ := h
  refine ⟨fun k _ => by rw [h1], h2, fun k _ => by rw [h3], fun k j q => h4 k j (z_rdV3 q), ?_⟩
  rw [h3, h5]
  exact z_Gw.rf
theorem z_XC.n {S : z_CS} {i : Nat} {t : Nat × Nat × Int32} {W : Nat} : z_Kw S (S.1, S.2.1, S.2.2.1, z_Vn S.2.2.2.1 i t, W, S.2.2.2.2.2) := ⟨rfl, rfl, rfl, z_Vw_n, rfl⟩
/-- the reference looks at what is no word, at p -/
def z_Bw (p : Int32) (U : Nat → Nat → Int32) : Prop := U 41 11 = 0 ∧ U 41 7 = 5 ∧ U 41 8 = p
theorem z_Bw.q {p : Int32} {U : Nat → Nat → Int32} (h : z_Bw p U) : z_Qd 2 p U := Or.inr ⟨rfl, h.1, h.2.1, h.2.2⟩
/-- on to the next word -/
theorem jn {b : Nat → Nat} {n j : Nat} {t : Nat × Nat × Int32} {S : z_CS} {R : z_RS} (hJ : z_J b n j t S R) (h0 : ¬ t.2.1 = 0) : ∃ t' R', z_Rr 14 141 0 [(0, .ref 148)] [] R none R' ∧ z_Lw R R' ∧ (z_ts b n)[j + 1]? = some t' ∧ ((¬ t'.2.1 = 1 ∧ ∃ S', z_Cr 14 49 0 [(0, .ref 110)] [] S (.inl none) S' ∧ z_Kw S S' ∧ z_J b n (j + 1) t' S' R') ∨ (t'.2.1 = 1 ∧ ∃ S', z_Cr 14 49 0 [(0, .ref 110)] [] S (.inr 10) S' ∧ z_Xd 2 (nI t'.1) S S' ∧ z_Bw (nI t'.1) R'.2.2)) := by
  obtain ⟨A, E, N, V, W, c⟩ := S
  obtain ⟨B, M, U⟩ := R
  obtain ⟨hT, hWj, h1, hf, hr⟩ := hJ
  obtain ⟨t', U', a0, a1, a2, a3, a4, a5, a6⟩ := j49 hT hWj h1 h0
  obtain ⟨rm, r1, r2⟩ := hr.rm
  refine ⟨t', (B, M, U'), fun L xs fv f w c A E N V W g hm hl => a4 L xs fv f w c A E N V W g M hm (by have := hl.1; omega) (by have := hl.2; omega), ⟨rfl, rfl, a2⟩, a0, ?_⟩
  rcases a5 with hb | ⟨hb, hx⟩
  · refine Or.inl ⟨hb, (A, E, N, z_Vn V (j + 1) t', t'.2.1, c), fun L xs fv f w g hg hl => a6 hb L xs fv f w c N g r1 r2 (by have := hl.1; omega) (by have := hl.2; omega), z_XC.n (S := (A, E, N, V, W, c)), z_Jt_U hT a2, a1, hb, a3.trans hf, hr⟩
  · refine Or.inr ⟨hb, (A, E, N, z_Vf (z_Vn V (j + 1) t') 2 (nI t'.1), t'.2.1, (c.1 + 1, c.2 + 6)), fun L xs fv f w g hg hl => hx L xs fv f w c N g r1 r2 (by have := hl.1; omega) (by have := hl.2; omega), ⟨(A, E, N, z_Vn V (j + 1) t', t'.2.1, c), (z_XC.n (S := (A, E, N, V, W, c))).xc, hr, rfl, rfl, rfl, rfl, rfl, (by show t'.2.1 < 107; rw [hb]; decide)⟩, a3.trans hf, ?_, a1.2.2.2.2.2.2.1⟩
    show U' 41 7 = 5
    rw [a1.2.2.2.2.2.2.2.1, hb]
    rfl
/-- a word that must stand here -/
theorem jx {b : Nat → Nat} {n j : Nat} {t : Nat × Nat × Int32} {S : z_CS} {R : z_RS} (hJ : z_J b n j t S R) (k : Nat) (hk : k < 37) (hk0 : ¬ k = 0) (hk1 : ¬ k = 1) : (∃ t' S' R', t.2.1 = k ∧ z_Cr 14 54 0 [(0, .ref 131), (1, .ref k)] [] S (.inl none) S' ∧ z_Rr 14 154 0 [(0, .ref 148), (1, .int (z_wco k))] [] R none R' ∧ z_Kw S S' ∧ z_Lw R R' ∧ z_J b n (j + 1) t' S' R') ∨ (∃ x y S' R', z_Cr 14 54 0 [(0, .ref 131), (1, .ref k)] [] S (.inr 10) S' ∧ z_Rr 14 154 0 [(0, .ref 148), (1, .int (z_wco k))] [] R none R' ∧ z_Xd x y S S' ∧ z_Lw R R' ∧ z_Qd x y R'.2.2) := by
  obtain ⟨A, E, N, V, W, c⟩ := S
  obtain ⟨B, M, U⟩ := R
  obtain ⟨hT, hWj, h1, hf, hr⟩ := hJ
  obtain ⟨rm, r1, r2⟩ := hr.rm
  rcases j54 hT hWj h1 hk hk0 hk1 hf with ⟨t', U', a0, hb, a1, a2, a3, a4, a5⟩ | ⟨V', W', U', x, y, a1, a2, a3, a4, a5⟩
  · refine Or.inl ⟨t', (A, E, N, z_Vn V (j + 1) t', t'.2.1, c), (B, M, U'), a0, fun L xs fv f w g hg hl => a4 L xs fv f w c N g r1 r2 (by have := hl.1; omega) (by have := hl.2; omega), fun L xs fv f w c A E N V W g hm hl => a5 L xs fv f w c A E N V W g M hm (by have := hl.1; omega) (by have := hl.2; omega), z_XC.n (S := (A, E, N, V, W, c)), ⟨rfl, rfl, a2⟩, z_Jt_U hT a2, a1, hb, a3, hr⟩
  · refine Or.inr ⟨x, y, (A, E, N, z_Vf V' x y, W', (c.1 + 1, c.2 + 6)), (B, M, U'), fun L xs fv f w g hg hl => a4 L xs fv f w c N g r1 r2 (by have := hl.1; omega) (by have := hl.2; omega), fun L xs fv f w c A E N V W g hm hl => a5 L xs fv f w c A E N V W g M hm (by have := hl.1; omega) (by have := hl.2; omega), ⟨(A, E, N, V', W', c), z_Kw.xc ⟨rfl, rfl, rfl, a1.1, rfl⟩, hr, rfl, rfl, rfl, rfl, rfl, a1.2⟩, ⟨rfl, rfl, a2⟩, a3⟩
/-- a row, or none -/
theorem jr {b : Nat → Nat} {n j m : Nat} {ep : Nat → Nat} {t : Nat × Nat × Int32} {S : z_CS} {R : z_RS} (hJ : z_J b n j t S R) (hD : z_De b n m ep S.1 R.1 S.2.2.2.1 R.2.2) : (∃ v j' t' S' R', j ≤ j' ∧ z_Cr 14 57 0 [(0, .ref 131)] [] S (.inl (some (.int v))) S' ∧ z_Rr 14 156 0 [(0, .ref 148)] [] R (some (.int v)) R' ∧ z_Kw S S' ∧ z_Lw R R' ∧ z_J b n j' t' S' R') ∨ (∃ x y v S' R', z_Cr 14 57 0 [(0, .ref 131)] [] S (.inr 10) S' ∧ z_Rr 14 156 0 [(0, .ref 148)] [] R (some (.int v)) R' ∧ z_Xd x y S S' ∧ z_Lw R R' ∧ z_Qd x y R'.2.2) := by
  obtain ⟨A, E, N, V, W, c⟩ := S
  obtain ⟨B, M, U⟩ := R
  obtain ⟨hT, hWj, h1, hf, hr⟩ := hJ
  obtain ⟨rm, r1, r2⟩ := hr.rm
  rcases j57 hT hWj h1 hD hf with ⟨v, j', t', V', U', hb, a1, a0, av, a2, a3, a4, a5⟩ | ⟨V', W', U', x, y, v, a1, a2, a3, a4, a5⟩
  · refine Or.inl ⟨v, j', t', (A, E, N, V', t'.2.1, c), (B, M, U'), a0, fun L xs fv f w g hg hl => a4 L xs fv f w c N g r1 r2 (by have := hl.1; omega) (by have := hl.2; omega), fun L xs fv f w c A E N V W g hm hl => a5 L xs fv f w c A E N V W g M hm (by have := hl.1; omega) (by have := hl.2; omega), ⟨rfl, rfl, rfl, av, rfl⟩, ⟨rfl, rfl, a2⟩, z_Jt_U hT a2, a1, hb, a3, hr⟩
  · refine Or.inr ⟨x, y, v, (A, E, N, z_Vf V' x y, W', (c.1 + 1, c.2 + 6)), (B, M, U'), fun L xs fv f w g hg hl => a4 L xs fv f w c N g r1 r2 (by have := hl.1; omega) (by have := hl.2; omega), fun L xs fv f w c A E N V W g hm hl => a5 L xs fv f w c A E N V W g M hm (by have := hl.1; omega) (by have := hl.2; omega), ⟨(A, E, N, V', W', c), z_Kw.xc ⟨rfl, rfl, rfl, a1.1, rfl⟩, hr, rfl, rfl, rfl, rfl, rfl, a1.2⟩, ⟨rfl, rfl, a2⟩, a3⟩
/-- an effect; the class stays at it, the reference goes on -/
theorem je {b : Nat → Nat} {n j m : Nat} {ep : Nat → Nat} {t : Nat × Nat × Int32} {S : z_CS} {R : z_RS} (hJ : z_J b n j t S R) (hD : z_De b n m ep S.1 R.1 S.2.2.2.1 R.2.2) : (∃ i t' R', i < m ∧ t.2.1 = 3 ∧ z_Cr 14 58 0 [(0, .ref 131)] [] S (.inl (some (.int (nI i)))) S ∧ z_Rr 14 157 0 [(0, .ref 148)] [] R (some (.int (nI i))) R' ∧ z_Lw R R' ∧ (z_ts b n)[j + 1]? = some t' ∧ ((¬ t'.2.1 = 1 ∧ ∃ S', z_Cr 14 49 0 [(0, .ref 110)] [] S (.inl none) S' ∧ z_Kw S S' ∧ z_J b n (j + 1) t' S' R') ∨ (t'.2.1 = 1 ∧ ∃ S', z_Cr 14 49 0 [(0, .ref 110)] [] S (.inr 10) S' ∧ z_Xd 2 (nI t'.1) S S' ∧ z_Bw (nI t'.1) R'.2.2))) ∨ (∃ x y S' R', z_Cr 14 58 0 [(0, .ref 131)] [] S (.inr 10) S' ∧ z_Rr 14 157 0 [(0, .ref 148)] [] R (some (.int (-1))) R' ∧ z_Xd x y S S' ∧ z_Lw R R' ∧ z_Qd x y R'.2.2) := by
  obtain ⟨A, E, N, V, W, c⟩ := S
  obtain ⟨B, M, U⟩ := R
  obtain ⟨hT, hWj, h1, hf, hr⟩ := hJ
  obtain ⟨rm, r1, r2⟩ := hr.rm
  rcases j58 hT hWj h1 hD hf with ⟨i, t', U', a0, ht, a1, a2, a3, a4, a5, a6, a7⟩ | ⟨U', x, y, a2, a3, a4, a5⟩
  · refine Or.inl ⟨i, t', (B, M, U'), a0, ht, fun L xs fv f w g hg hl => a1 L xs fv f w c N g r1 r2 (by have := hl.1; omega) (by have := hl.2; omega), fun L xs fv f w c A E N V W g hm hl => a7 L xs fv f w c A E N V W g M hm (by have := hl.1; omega) (by have := hl.2; omega), ⟨rfl, rfl, a3⟩, a2.1, ?_⟩
    by_cases hb : t'.2.1 = 1
    · refine Or.inr ⟨hb, (A, E, N, z_Vf (z_Vn V (j + 1) t') 2 (nI t'.1), t'.2.1, (c.1 + 1, c.2 + 6)), fun L xs fv f w g hg hl => a6 hb L xs fv f w c N g r1 r2 (by have := hl.1; omega) (by have := hl.2; omega), ⟨(A, E, N, z_Vn V (j + 1) t', t'.2.1, c), (z_XC.n (S := (A, E, N, V, W, c))).xc, hr, rfl, rfl, rfl, rfl, rfl, (by show t'.2.1 < 107; rw [hb]; decide)⟩, a4, ?_, a2.2.2.2.2.2.2.1⟩
      show U' 41 7 = 5
      rw [a2.2.2.2.2.2.2.2.1, hb]
      rfl
    · exact Or.inl ⟨hb, (A, E, N, z_Vn V (j + 1) t', t'.2.1, c), fun L xs fv f w g hg hl => a5 hb L xs fv f w c N g r1 r2 (by have := hl.1; omega) (by have := hl.2; omega), z_XC.n (S := (A, E, N, V, W, c)), z_Jt_U hT a3, a2, hb, a4, hr⟩
  · refine Or.inr ⟨x, y, (A, E, N, z_Vf V x y, W, (c.1 + 1, c.2 + 6)), (B, M, U'), fun L xs fv f w g hg hl => a4 L xs fv f w c N g r1 r2 (by have := hl.1; omega) (by have := hl.2; omega), fun L xs fv f w c A E N V W g hm hl => a5 L xs fv f w c A E N V W g M hm (by have := hl.1; omega) (by have := hl.2; omega), ⟨(A, E, N, V, W, c), z_XC.rf, hr, rfl, rfl, rfl, rfl, rfl, (by have e : W = t.2.1 := hWj.2.2.2.1; show W < 107; rw [e]; exact Nat.lt_of_lt_of_le (hT.2.2.1 j t hWj.1).2.1 (by decide))⟩, ⟨rfl, rfl, a2⟩, a3⟩
