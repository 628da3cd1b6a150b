/-! Reading programs: what tells operands and operators, of both; the reference's steps there. -/
/-- a word that begins an operand -/
def z_atm (k : Nat) : Bool := decide (k = 2) || decide (k = 4) || decide (k = 5) || decide (k = 32) || decide (k = 33)
/-- the class's operator of a word -/
def z_opr (k : Nat) : Int32 := if k = 12 then 13 else if k = 13 then 12 else if k = 14 then 9 else if k = 15 then 10 else if k = 16 then 11 else -1
/-- how tightly an operator binds -/
def z_rnk (o : Int32) : Int32 := if o = 11 then 2 else if o = 9 then 1 else if o = 10 then 1 else 0
section ZY8
variable {S : z_CS} {R : z_RS} {l kd d : Nat}
theorem z_atm_w : ∀ k, k < 37 → (z_atm k = true ↔ (z_wco k = 3 ∨ z_wco k = 312 ∨ z_wco k = 313 ∨ z_wco k = 40 ∨ z_wco k = 1)) := by decide +kernel
theorem r170 (hw : R.2.2 41 7 = z_wco kd) (hk : kd < 37) : z_Rr (l + 1) 170 0 [(0, .ref 148)] [] R (some (.int (if z_atm kd = true then 1 else 0))) R := by
  refine z_WR.get (fun Q hq => t170_0 (B := R.1) (M := R.2.1) (U := R.2.2) ?_)
  have ha := z_atm_w kd hk
  rw [← hw] at ha
  by_cases h : z_atm kd = true
  · rw [if_pos h] at hq
    have y : p170_45 l R.1 R.2.1 R.2.2 Q := ⟨Or.inr rfl, hq⟩
    unfold p170_0
    by_cases q1 : R.2.2 41 7 = 3
    · exact z_ifp q1 y
    refine z_ifn q1 ?_
    by_cases q2 : R.2.2 41 7 = 312
    · exact z_ifp q2 y
    refine z_ifn q2 ?_
    by_cases q3 : R.2.2 41 7 = 313
    · exact z_ifp q3 y
    refine z_ifn q3 ?_
    by_cases q4 : R.2.2 41 7 = 40
    · exact z_ifp q4 y
    refine z_ifn q4 ?_
    by_cases q5 : R.2.2 41 7 = 1
    · exact z_ifp q5 y
    rcases ha.mp h with q | q | q | q | q
    · exact absurd q q1
    · exact absurd q q2
    · exact absurd q q3
    · exact absurd q q4
    · exact absurd q q5
  · rw [if_neg h] at hq
    have nn : ∀ c, (R.2.2 41 7 = 3 ∨ R.2.2 41 7 = 312 ∨ R.2.2 41 7 = 313 ∨ R.2.2 41 7 = 40 ∨ R.2.2 41 7 = 1) → c := fun c q => absurd (ha.mpr q) h
    exact z_ifn (fun q => nn _ (Or.inl q)) (z_ifn (fun q => nn _ (Or.inr (Or.inl q))) (z_ifn (fun q => nn _ (Or.inr (Or.inr (Or.inl q)))) (z_ifn (fun q => nn _ (Or.inr (Or.inr (Or.inr (Or.inl q))))) (z_ifn (fun q => nn _ (Or.inr (Or.inr (Or.inr (Or.inr q))))) ⟨Or.inl rfl, hq⟩))))
theorem z_WC.get {mi pc : Nat} {lv : List (Nat × Value)} {st : List Value} {S S' : z_CS} {o : z_V} (h : ∀ Q : z_V → z_CS → Prop, Q o S' → z_WC l mi pc lv st S Q) : z_Cr l mi pc lv st S o S' := by
  obtain ⟨o2, S2, k1, k2, k3⟩ := h (fun o2 S2 => o2 = o ∧ S2 = S') ⟨rfl, rfl⟩
  rw [← k2, ← k3]
  exact k1
theorem c77 (hW : S.2.2.2.2.1 = kd) (hk : kd < 37) (hr : z_Rk S.2.2.1 S.2.2.2.2.2) : z_Cr (l + 1) 77 0 [(0, .ref 131)] [] S (.inl (some (.int (if z_atm kd = true then 1 else 0)))) S := by
  refine z_WC.get (fun Q hq => t77_0 (A := S.1) (E := S.2.1) (N := S.2.2.1) (V := S.2.2.2.1) (W := S.2.2.2.2.1) (c := S.2.2.2.2.2) ?_)
  refine ⟨hr.rm.1, by rw [hW]; exact hk, ?_⟩
  rw [hW]
  by_cases q1 : kd = 2
  · have e : (if z_atm kd = true then (1 : Int32) else 0) = 1 := by
      rw [q1]
      rfl
    rw [e] at hq
    exact z_ifp q1 (by rw [← hW]; exact hq)
  refine z_ifn q1 ?_
  by_cases q2 : kd = 4
  · have e : (if z_atm kd = true then (1 : Int32) else 0) = 1 := by
      rw [q2]
      rfl
    rw [e] at hq
    exact z_ifp q2 (by rw [← hW]; exact hq)
  refine z_ifn q2 ?_
  by_cases q3 : kd = 5
  · have e : (if z_atm kd = true then (1 : Int32) else 0) = 1 := by
      rw [q3]
      rfl
    rw [e] at hq
    exact z_ifp q3 (by rw [← hW]; exact hq)
  refine z_ifn q3 ?_
  by_cases q4 : kd = 32
  · have e : (if z_atm kd = true then (1 : Int32) else 0) = 1 := by
      rw [q4]
      rfl
    rw [e] at hq
    exact z_ifp q4 (by rw [← hW]; exact hq)
  refine z_ifn q4 ?_
  by_cases q5 : kd = 33
  · have e : (if z_atm kd = true then (1 : Int32) else 0) = 1 := by
      rw [q5]
      rfl
    rw [e] at hq
    exact z_ifp q5 (by rw [← hW]; exact hq)
  refine z_ifn q5 ?_
  have : z_atm kd = false := by
    unfold z_atm
    rw [decide_eq_false q1, decide_eq_false q2, decide_eq_false q3, decide_eq_false q4, decide_eq_false q5]
    rfl
  rw [if_neg (by rw [this]; decide)] at hq
  rw [← hW]
  exact hq
theorem c79 (hW : S.2.2.2.2.1 = kd) (hk : kd < 37) (hr : z_Rk S.2.2.1 S.2.2.2.2.2) : z_Cr (l + 1) 79 0 [(0, .ref 131)] [] S (.inl (some (.int (z_opr kd)))) S := by
  refine z_WC.get (fun Q hq => t79_0 (A := S.1) (E := S.2.1) (N := S.2.2.1) (V := S.2.2.2.1) (W := S.2.2.2.2.1) (c := S.2.2.2.2.2) ?_)
  refine ⟨hr.rm.1, by rw [hW]; exact hk, ?_⟩
  unfold z_opr at hq
  rw [hW]
  by_cases q1 : kd = 12
  · rw [if_pos q1] at hq
    exact z_ifp q1 (by rw [← hW]; exact hq)
  rw [if_neg q1] at hq
  refine z_ifn q1 ?_
  by_cases q2 : kd = 13
  · rw [if_pos q2] at hq
    exact z_ifp q2 (by rw [← hW]; exact hq)
  rw [if_neg q2] at hq
  refine z_ifn q2 ?_
  by_cases q3 : kd = 14
  · rw [if_pos q3] at hq
    exact z_ifp q3 (by rw [← hW]; exact hq)
  rw [if_neg q3] at hq
  refine z_ifn q3 ?_
  by_cases q4 : kd = 15
  · rw [if_pos q4] at hq
    exact z_ifp q4 (by rw [← hW]; exact hq)
  rw [if_neg q4] at hq
  refine z_ifn q4 ?_
  by_cases q5 : kd = 16
  · rw [if_pos q5] at hq
    exact z_ifp q5 (by rw [← hW]; exact hq)
  rw [if_neg q5] at hq
  refine z_ifn q5 ?_
  rw [← hW]
  exact hq
theorem c80 {o : Int32} : z_Cr (l + 1) 80 0 [(0, .int o)] [] S (.inl (some (.int (z_rnk o)))) S := by
  refine z_WC.get (fun Q hq => t80_0 (A := S.1) (E := S.2.1) (N := S.2.2.1) (V := S.2.2.2.1) (W := S.2.2.2.2.1) (c := S.2.2.2.2.2) ?_)
  unfold z_rnk at hq
  unfold p80_0
  by_cases q1 : o = 11
  · rw [if_pos q1] at hq
    exact z_ifp q1 hq
  rw [if_neg q1] at hq
  refine z_ifn q1 ?_
  unfold p80_8
  by_cases q2 : o = 9
  · rw [if_pos q2] at hq
    exact z_ifp q2 hq
  rw [if_neg q2] at hq
  refine z_ifn q2 ?_
  unfold p80_14
  by_cases q3 : o = 10
  · rw [if_pos q3] at hq
    exact z_ifp q3 hq
  rw [if_neg q3] at hq
  exact z_ifn q3 hq
/-- the reference wants an operand -/
theorem rW (h0 : R.2.2 41 11 = 0) (h53 : R.2.2 41 53 = 1) (h52 : R.2.2 41 52 = nI (d + 1)) : ∀ Q, p169_0 18 R.1 R.2.1 R.2.2 (nI d) (fun x R1 => x = none ∧ z_Hq Q R1) → z_Hq Q R := by
  intro Q h
  have e1 : R.2.2 41 52 - 1 = nI d := by rw [h52]; exact nI_pred d
  refine t140_79 (B := R.1) (M := R.2.1) (U := R.2.2) (z_ifp h0 (z_ifn (by rw [h53]; decide) ?_))
  unfold p140_94
  refine z_ifn (by rw [h53]; decide) (z_ifp h53 ?_)
  unfold p140_131
  rw [e1]
  exact (t169_0 (l := 18) h).im (fun v R1 hv => ⟨hv.1, hv.2⟩)
/-- the reference stands behind an operand -/
theorem rA (h0 : R.2.2 41 11 = 0) (h53 : R.2.2 41 53 = 2) (h52 : R.2.2 41 52 = nI (d + 1)) : ∀ Q, p173_0 18 R.1 R.2.1 R.2.2 (nI d) (fun x R1 => x = none ∧ z_Hq Q R1) → z_Hq Q R := by
  intro Q h
  have e1 : R.2.2 41 52 - 1 = nI d := by rw [h52]; exact nI_pred d
  refine t140_79 (B := R.1) (M := R.2.1) (U := R.2.2) (z_ifp h0 (z_ifn (by rw [h53]; decide) ?_))
  unfold p140_94
  refine z_ifn (by rw [h53]; decide) (z_ifn (by rw [h53]; decide) (z_ifp h53 ?_))
  unfold p140_144
  rw [e1]
  exact (t173_0 (l := 18) h).im (fun v R1 hv => ⟨hv.1, hv.2⟩)
/-- the first operand of a call -/
theorem r171a {v p : Int32} (hd : d < 50) (h0 : R.2.2 41 11 = 0) (h95 : z_fn 0 (R.1 95) d = -1) (h93 : z_fn 0 (R.1 93) d = -1) : z_Rr (l + 1) 171 0 [(0, .ref 148), (1, .int (nI d)), (2, .int v), (3, .int p)] [] R none (z_u (z_u R.1 93 ((d, v) :: R.1 93)) 94 ((d, p) :: R.1 94), R.2.1, z_v R.2.2 41 53 2) := by
  obtain ⟨zi, zc⟩ := z_i50 (d := d + 1) (i := d) (by omega) (Nat.lt_succ_self d)
  refine z_WR.get (fun Q hq => t171_0 (B := R.1) (M := R.2.1) (U := R.2.2) (z_ifp (by rw [h0]; decide) ?_))
  unfold p171_8
  rw [zc, h95]
  refine ⟨zi, z_ifp (by decide) ?_⟩
  unfold p171_63
  rw [zc, h93]
  refine ⟨zi, z_ifp (by decide) ?_⟩
  unfold p171_101
  rw [zc]
  exact ⟨zi, zi, hq⟩
/-- what an effect is told with -/
theorem r171c {m : Nat} {v p : Int32} (hd : d < 50) (h0 : R.2.2 41 11 = 0) (hm : m < 600) (h95 : z_fn 0 (R.1 95) d = nI m) : z_Rr (l + 1) 171 0 [(0, .ref 148), (1, .int (nI d)), (2, .int v), (3, .int p)] [] R none (z_u (z_u (z_u (z_u R.1 58 ((m, v) :: R.1 58)) 61 ((m, p) :: R.1 61)) 95 ((d, -1) :: R.1 95)) 96 ((d, z_nar .boolean 1) :: R.1 96), R.2.1, z_v R.2.2 41 53 2) := by
  obtain ⟨zi, zc⟩ := z_i50 (d := d + 1) (i := d) (by omega) (Nat.lt_succ_self d)
  obtain ⟨zj, zk⟩ := z_o6_in hm
  refine z_WR.get (fun Q hq => t171_0 (B := R.1) (M := R.2.1) (U := R.2.2) (z_ifp (by rw [h0]; decide) ?_))
  unfold p171_8
  rw [zc, h95]
  refine ⟨zi, z_ifn (nI_pos (by omega)) ?_⟩
  unfold p171_22
  rw [zc, h95, zk]
  exact ⟨zi, zj, zi, zj, zi, zi, hq⟩
end ZY8
