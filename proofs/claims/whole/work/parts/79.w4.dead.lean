/-! Reading, once the class has ended: what the reference still does. And faults told by both. -/
/-- the fault is told -/
def z_Td (k p : Int32) (U : Nat → Nat → Int32) : Prop := ¬ U 41 11 ≤ 0 ∧ U 41 11 = k ∧ U 41 12 = p
theorem z_Td.q {k p : Int32} {U : Nat → Nat → Int32} (h : z_Td k p U) : z_Qd k p U := Or.inl h
theorem z_Td.n0 {k p : Int32} {U : Nat → Nat → Int32} (h : z_Td k p U) : ¬ U 41 11 = 0 := fun e => h.1 (by rw [e]; decide)
theorem z_Td_F {k p : Int32} {U : Nat → Nat → Int32} (h : ¬ k ≤ 0) : z_Td k p (z_UF U k p) := ⟨h, rfl, rfl⟩
/-- but for what reading a type writes all is as it was, of the reference -/
def z_Xr (R R' : z_RS) : Prop := (∀ k, ¬ (46 ≤ k ∧ k ≤ 48) → ¬ (55 ≤ k ∧ k ≤ 56) → R'.1 k = R.1 k) ∧ R'.2.1 = R.2.1 ∧ (∀ k j, ¬ (k = 41 ∧ 7 ≤ j ∧ j ≤ 13) → R'.2.2 k j = R.2.2 k j) ∧ (R'.2.2 41 11 = 0 → R.2.2 41 11 = 0 ∧ R'.2.2 41 12 = R.2.2 41 12)
theorem z_Xr.rf {R : z_RS} : z_Xr R R := ⟨fun _ _ _ => rfl, rfl, fun _ _ _ => rfl, fun h => ⟨h, rfl⟩⟩
theorem z_Xr.tr {R R' R'' : z_RS} (h : z_Xr R R') (h' : z_Xr R' R'') : z_Xr R R'' := ⟨fun k q r => (h'.1 k q r).trans (h.1 k q r), h'.2.1.trans h.2.1, fun k j q => (h'.2.2.1 k j q).trans (h.2.2.1 k j q), fun e => ⟨(h.2.2.2 (h'.2.2.2 e).1).1, (h'.2.2.2 e).2.trans (h.2.2.2 (h'.2.2.2 e).1).2⟩⟩
theorem z_Lw.xr {R R' : z_RS} (h : z_Lw R R') : z_Xr R R' := ⟨fun k _ _ => by rw [h.1], h.2.1, fun k j q => h.2.2.1 k j (fun r => q ⟨r.1, r.2.1, by omega⟩), h.2.2.2⟩
theorem z_Cr.up {l l' mi pc : Nat} {lv : List (Nat × Value)} {st : List Value} {S S' : z_CS} {o : z_V} (h : z_Cr l mi pc lv st S o S') (hl : l ≤ l') : z_Cr l' mi pc lv st S o S' := fun L xs fv f w g hg q => h L xs fv f w g hg (q.le hl)
theorem z_Rr.up {l l' mi pc : Nat} {lv : List (Nat × Value)} {st : List Value} {R R' : z_RS} {v : Option Value} (h : z_Rr l mi pc lv st R v R') (hl : l ≤ l') : z_Rr l' mi pc lv st R v R' := fun L xs fv f w c A E N V W g hm q => h L xs fv f w c A E N V W g hm (q.le hl)
section ZDE
variable {R : z_RS} {k p : Int32}
theorem d150 {l : Nat} {x y : Int32} (h : z_Td k p R.2.2) : z_Rr l 150 0 [(0, .ref 148), (1, .int x), (2, .int y)] [] R none R := fun _ _ _ _ _ _ _ _ _ _ _ _ _ _ => s150f h.1
theorem f150 {l : Nat} {x y : Int32} (h : R.2.2 41 11 = 0) : z_Rr l 150 0 [(0, .ref 148), (1, .int x), (2, .int y)] [] R none (R.1, R.2.1, z_UF R.2.2 x y) := fun _ _ _ _ _ _ _ _ _ _ _ _ _ _ => s150 h
theorem z_Lw_F {x y : Int32} (hx : ¬ x = 0) : z_Lw R (R.1, R.2.1, z_UF R.2.2 x y) := ⟨rfl, rfl, z_Uw_F hx⟩
theorem d151 {l : Nat} (h : z_Qd k p R.2.2) : ∃ R', z_Rr (l + 1) 151 0 [(0, .ref 148)] [] R none R' ∧ z_Lw R R' ∧ z_Td k p R'.2.2 := by
  obtain ⟨B, M, U⟩ := R
  have h : z_Qd k p U := h
  rcases h with h | ⟨h1, h2, h3, h4⟩
  · refine ⟨(B, M, U), fun L xs fv f w c A E N V W g hm hl => ?_, z_Lw.rf, h⟩
    by_cases h5 : U 41 7 = 5
    · exact b151_0f (fun q => q h5) (b151_9 (b151_14 hm hl.f1 (hl.w1 150 (by decide)) (s150f h.1) b151_21))
    · exact b151_0t h5 (b151_13 (b151_14 hm hl.f1 (hl.w1 150 (by decide)) (s150f h.1) b151_21))
  · refine ⟨(B, M, z_UF U 2 (U 41 8)), fun L xs fv f w c A E N V W g hm hl => ?_, z_Lw_F (R := (B, M, U)) (by decide), ?_⟩
    · exact b151_0f (fun q => q h3) (b151_9 (b151_14 hm hl.f1 (hl.w1 150 (by decide)) (s150 h2) b151_21))
    · rw [h1, ← h4]
      exact z_Td_F (by decide)
/-- a word that cannot stand here -/
theorem f151 {l : Nat} (h : R.2.2 41 11 = 0) (h5 : ¬ R.2.2 41 7 = 5) : z_Rr (l + 1) 151 0 [(0, .ref 148)] [] R none (R.1, R.2.1, z_UF R.2.2 1 (R.2.2 41 8)) := fun L xs fv f w c A E N V W g hm hl => b151_0t h5 (b151_13 (b151_14 hm hl.f1 (hl.w1 150 (by decide)) (s150 h) b151_21))
theorem d154 {x : Int32} (h : z_Qd k p R.2.2) (hx : ¬ x = 5) : ∃ R', z_Rr 14 154 0 [(0, .ref 148), (1, .int x)] [] R none R' ∧ z_Lw R R' ∧ z_Td k p R'.2.2 := by
  obtain ⟨B, M, U⟩ := R
  have h : z_Qd k p U := h
  rcases h with h | ⟨h1, h2, h3, h4⟩
  · exact ⟨(B, M, U), fun L xs fv f w c A E N V W g hm hl => s154f h.1, z_Lw.rf, h⟩
  · refine ⟨(B, M, z_UF U 2 (U 41 8)), fun L xs fv f w c A E N V W g hm hl => ?_, z_Lw_F (R := (B, M, U)) (by decide), ?_⟩
    · have := s154b (L := L) (xs := xs) (fv := fv) (f := f) (w := w) (c := c) (A := A) (E := E) (N := N) (V := V) (W := W) (g := g) (B := B) (M := M) (U := U) (x := x) h2 (by rw [h3]; exact fun q => hx q.symm) hm (by have := hl.1; omega) (by have := hl.2; omega)
      rw [if_pos h3] at this
      exact this
    · rw [h1, ← h4]
      exact z_Td_F (by decide)
theorem d157 (h : z_Qd k p R.2.2) : ∃ R', z_Rr 14 157 0 [(0, .ref 148)] [] R (some (.int (-1))) R' ∧ z_Lw R R' ∧ z_Td k p R'.2.2 := by
  obtain ⟨B, M, U⟩ := R
  have h : z_Qd k p U := h
  rcases h with h | ⟨h1, h2, h3, h4⟩
  · exact ⟨(B, M, U), fun L xs fv f w c A E N V W g hm hl => s157f h.1, z_Lw.rf, h⟩
  · refine ⟨(B, M, z_UF U 2 (U 41 8)), fun L xs fv f w c A E N V W g hm hl => ?_, z_Lw_F (R := (B, M, U)) (by decide), ?_⟩
    · have := s157c (L := L) (xs := xs) (fv := fv) (f := f) (w := w) (c := c) (A := A) (E := E) (N := N) (V := V) (W := W) (g := g) (B := B) (M := M) (U := U) h2 (by rw [h3]; decide) hm (by have := hl.1; omega) (by have := hl.2; omega)
      rw [if_pos h3] at this
      exact this
    · rw [h1, ← h4]
      exact z_Td_F (by decide)
theorem d156 (h : z_Qd k p R.2.2) : ∃ v R', z_Rr 14 156 0 [(0, .ref 148)] [] R (some (.int v)) R' ∧ z_Lw R R' ∧ z_Qd k p R'.2.2 := by
  obtain ⟨B, M, U⟩ := R
  have h : z_Qd k p U := h
  obtain ⟨U', v, a1, a2, a3⟩ := q156 (B := B) h
  exact ⟨v, (B, M, U'), fun L xs fv f w c A E N V W g hm hl => a3 L xs fv f w c A E N V W g M hm (by have := hl.1; omega) (by have := hl.2; omega), ⟨rfl, rfl, a2⟩, a1⟩
theorem d155_2 {x1 : Int32} {Q : Option Value → z_RS → Prop} (h : z_Qd k p R.2.2) (hQ : ∀ v R', z_Qd k p R'.2.2 → z_Xr R R' → Q (some (.int v)) R') : z_WR 16 155 2 [(0, .ref 148), (1, .int x1)] [] R Q := by
  obtain ⟨B, M, U⟩ := R
  have h : z_Qd k p U := h
  refine t155_2 ?_
  unfold p155_2
  rcases h with h | ⟨hk, h0, h7, h8⟩
  · rw [if_neg (z_Td.n0 h)]
    exact hQ 0 _ (Or.inl h) z_Xr.rf
  · rw [if_pos h0]
    unfold p155_9
    rw [if_pos h7]
    unfold p155_34
    rw [if_pos (by rw [h0]; decide)]
    unfold p155_43
    rw [if_neg (by rw [h7]; decide)]
    unfold p155_58
    rw [if_neg (by rw [h7]; decide)]
    unfold p155_73
    rw [if_neg (by rw [h7]; decide)]
    unfold p155_88
    rw [if_neg (by rw [h7]; decide)]
    obtain ⟨R', a1, a2, a3⟩ := d151 (R := (B, M, U)) (l := 14) (Or.inr ⟨hk, h0, h7, h8⟩)
    refine ⟨none, R', a1, rfl, ?_⟩
    unfold p155_114
    rw [if_neg a3.1]
    exact hQ 0 R' a3.q a2.xr
theorem z_Xr_B {B B' : Nat → List (Nat × Int32)} {M : Nat → List (Nat × Int64)} {U : Nat → Nat → Int32} (h : ∀ k, ¬ (46 ≤ k ∧ k ≤ 48) → ¬ (55 ≤ k ∧ k ≤ 56) → B' k = B k) : z_Xr (B, M, U) (B', M, U) := ⟨h, rfl, fun _ _ _ => rfl, fun h => ⟨h, rfl⟩⟩
theorem d155_136 {d : Nat} {x2 x3 : Int32} {Q : Option Value → z_RS → Prop} (hd : d ≤ 50) (h : z_Qd k p R.2.2) (hQ : ∀ v R', z_Qd k p R'.2.2 → z_Xr R R' → Q (some (.int v)) R') : z_WR 16 155 136 [(0, .ref 148), (1, .int (nI d)), (2, .int x2), (3, .int x3)] [] R Q := by
  have out : z_WR 16 155 2 [(0, .ref 148), (1, .int (nI d))] [] R Q := d155_2 h hQ
  obtain ⟨B, M, U⟩ := R
  have h : z_Qd k p U := h
  refine t155_136 ?_
  unfold p155_136
  by_cases h3 : x3 = 0
  · rw [if_pos h3]
    exact out
  · rw [if_neg h3]
    unfold p155_140
    rcases id h with ht | ⟨hk, h0, h7, h8⟩
    · rw [if_neg (z_Td.n0 ht)]
      exact out
    · rw [if_pos h0]
      unfold p155_147
      by_cases hd0 : nI d = 0
      · rw [if_pos hd0]
        exact hQ x2 _ h z_Xr.rf
      · rw [if_neg hd0]
        have d0 : 0 < d := by
          rcases Nat.eq_zero_or_pos d with e | e
          · rw [e] at hd0
            exact absurd rfl hd0
          · exact e
        have e1 : nI d - 1 = nI (d - 1) := by
          rw [show (1 : Int32) = nI 1 from rfl, pk_sub (by omega)]
        have zi : z_in (nI d - 1) 51 = true := by
          rw [e1]
          exact z_inI (by omega) (by decide)
        refine ⟨zi, ?_⟩
        by_cases hh : z_fn 0 (B 56) (nI d - 1).toNatClampNeg = 0
        · rw [if_pos hh]
          refine ⟨zi, zi, ?_⟩
          obtain ⟨R', a1, a2, a3⟩ := d154 (R := ((z_u (z_u B 55 (((nI d - 1).toNatClampNeg, x2) :: B 55)) 56 (((nI d - 1).toNatClampNeg, z_nar .boolean 1) :: B 56)), M, U)) (x := 4) h (by decide)
          refine ⟨none, R', a1.up (by decide), rfl, ?_⟩
          unfold p155_228
          have xr : z_Xr (B, M, U) R' := (z_Xr_B (fun k q r => by rw [z_un (by omega), z_un (by omega)])).tr a2.xr
          refine t155_136 ?_
          unfold p155_136
          rw [if_pos rfl]
          exact d155_2 a3.q (fun v R2 b1 b2 => hQ v R2 b1 (xr.tr b2))
        · rw [if_neg hh]
          obtain ⟨v, R', a1, a2, a3⟩ := d156 (R := (B, M, U)) h
          refine ⟨_, R', a1.up (by decide), v, rfl, ?_⟩
          obtain ⟨R2, b1, b2, b3⟩ := d154 (R := R') (x := 41) a3 (by decide)
          refine ⟨none, R2, b1.up (by decide), rfl, ?_⟩
          unfold p155_176
          rw [if_neg b3.1]
          exact hQ 0 R2 b3.q (a2.tr b2).xr
end ZDE
theorem z_J.w {b : Nat → Nat} {n j : Nat} {t : Nat × Nat × Int32} {S : z_CS} {R : z_RS} (h : z_J b n j t S R) : S.2.2.2.2.1 < 107 := by
  rw [h.2.1.2.2.2.1]
  exact Nat.lt_of_lt_of_le (h.1.2.2.1 j t h.2.1.1).2.1 (by decide)
section ZDC
variable {S : z_CS} {k p : Int32}
/-- the class refuses -/
theorem c50 {l : Nat} (hr : z_Rk S.2.2.1 S.2.2.2.2.2) (hW : S.2.2.2.2.1 < 107) : ∃ S', z_Cr l 50 0 [(0, .ref 109), (1, .int k), (2, .int p)] [] S (.inr 10) S' ∧ z_Xd k p S S' := by
  obtain ⟨A, E, N, V, W, c⟩ := S
  obtain ⟨rm, r1, r2⟩ := hr.rm
  exact ⟨(A, E, N, z_Vf V k p, W, (c.1 + 1, c.2 + 6)), fun L xs fv f w g hg hl => b50_0 (by have := hl.1; omega) (by have := hl.2; omega) r1 r2, (A, E, N, V, W, c), z_XC.rf, hr, rfl, rfl, rfl, rfl, rfl, hW⟩
theorem c52 {l : Nat} (hr : z_Rk S.2.2.1 S.2.2.2.2.2) (hW : S.2.2.2.2.1 < 107) : ∃ S', z_Cr (l + 2) 52 0 [(0, .ref 131)] [] S (.inr 10) S' ∧ z_Xd 1 (S.2.2.2.1 3 9) S S' := by
  obtain ⟨A, E, N, V, W, c⟩ := S
  obtain ⟨rm, r1, r2⟩ := hr.rm
  exact ⟨(A, E, N, z_Vf V 1 (V 3 9), W, (c.1 + 1, c.2 + 6)), fun L xs fv f w g hg hl => s52 rm r1 r2 (by have := hl.1; omega) (by have := hl.2; omega), (A, E, N, V, W, c), z_XC.rf, hr, rfl, rfl, rfl, rfl, rfl, hW⟩
end ZDC
