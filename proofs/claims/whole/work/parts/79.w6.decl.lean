/-! Reading declarations, both together. -/
/-- but for what reading writes all is as it was, of the reference -/
def z_XR (R R' : z_RS) : Prop := (∀ k, k ≤ 45 → R'.1 k = R.1 k) ∧ R'.2.1 = R.2.1 ∧ (∀ k j, ¬ (k = 41 ∧ 7 ≤ j ∧ j ≤ 75) → R'.2.2 k j = R.2.2 k j) ∧ (R'.2.2 41 11 = 0 → R.2.2 41 11 = 0 ∧ R'.2.2 41 12 = R.2.2 41 12)
theorem z_XR.rf {R : z_RS} : z_XR R R := ⟨fun _ _ => rfl, rfl, fun _ _ _ => rfl, fun h => ⟨h, rfl⟩⟩
theorem z_XR.tr {R R' R'' : z_RS} (h : z_XR R R') (h' : z_XR R' R'') : z_XR R R'' := ⟨fun k q => (h'.1 k q).trans (h.1 k q), h'.2.1.trans h.2.1, fun k j q => (h'.2.2.1 k j q).trans (h.2.2.1 k j q), fun e => ⟨(h.2.2.2 (h'.2.2.2 e).1).1, (h'.2.2.2 e).2.trans (h.2.2.2 (h'.2.2.2 e).1).2⟩⟩
theorem z_Xr.xR {R R' : z_RS} (h : z_Xr R R') : z_XR R R' := ⟨fun k q => h.1 k (by omega) (by omega), h.2.1, fun k j q => h.2.2.1 k j (fun r => q ⟨r.1, r.2.1, by omega⟩), h.2.2.2⟩
theorem z_Lw.xR {R R' : z_RS} (h : z_Lw R R') : z_XR R R' := h.xr.xR
theorem z_XR_BU {B B' : Nat → List (Nat × Int32)} {M : Nat → List (Nat × Int64)} {U U' : Nat → Nat → Int32} (h : ∀ k, k ≤ 45 → B' k = B k) (h2 : ∀ k j, ¬ (k = 41 ∧ 13 ≤ j ∧ j ≤ 75) → U' k j = U k j) : z_XR (B, M, U) (B', M, U') := ⟨h, rfl, fun k j q => h2 k j (fun r => q ⟨r.1, by omega, r.2.2⟩), fun e => ⟨(h2 41 11 (by omega)).symm.trans e, h2 41 12 (by omega)⟩⟩
theorem z_WR.get {l mi pc : Nat} {lv : List (Nat × Value)} {st : List Value} {R R' : z_RS} {v : Option Value} (h : ∀ Q : Option Value → z_RS → Prop, Q v R' → z_WR l mi pc lv st R Q) : z_Rr l mi pc lv st R v R' := by
  obtain ⟨v2, R2, k1, k2, k3⟩ := h (fun v2 R2 => v2 = v ∧ R2 = R') ⟨rfl, rfl⟩
  rw [← k2, ← k3]
  exact k1
theorem z_WR.getd {l mi pc : Nat} {lv : List (Nat × Value)} {st : List Value} {R : z_RS} {P : z_RS → Prop} (h : ∀ Q : Option Value → z_RS → Prop, (∀ R', P R' → Q none R') → z_WR l mi pc lv st R Q) : ∃ R', z_Rr l mi pc lv st R none R' ∧ P R' := by
  obtain ⟨v2, R2, k1, k2, k3⟩ := h (fun v2 R2 => v2 = none ∧ P R2) (fun R' q => ⟨rfl, q⟩)
  rw [k2] at k1
  exact ⟨R2, k1, k3⟩
section ZDD
variable {R : z_RS} {k p : Int32} {Q : Option Value → z_RS → Prop}
theorem d155 (h : z_Qd k p R.2.2) : ∃ v R', z_Rr 16 155 0 [(0, .ref 148)] [] R (some (.int v)) R' ∧ z_Qd k p R'.2.2 ∧ z_Xr R R' := by
  obtain ⟨v3, R3, l1, ⟨w, l2⟩, l3, l4⟩ := t155_0 (l := 15) (B := R.1) (M := R.2.1) (U := R.2.2) (Q := fun v2 R2 => (∃ v, v2 = some (.int v)) ∧ z_Qd k p R2.2.2 ∧ z_Xr R R2) (d155_2 h (fun v R' a1 a2 => ⟨⟨v, rfl⟩, a1, a2⟩))
  rw [l2] at l1
  exact ⟨w, R3, l1, l3, l4⟩
theorem d149_138 {x1 y0 : Int32} {i : Nat} (hi : i < 8) (h : z_Qd k p R.2.2) (hQ : ∀ R', z_Qd k p R'.2.2 → z_XR R R' → Q none R') : p149_138 16 R.1 R.2.1 R.2.2 x1 y0 (nI i) Q := by
  refine ⟨z_inI hi (by decide), ?_⟩
  obtain ⟨R', a1, a2, a3⟩ := d154 (R := ((z_u R.1 54 (((nI i).toNatClampNeg, y0) :: R.1 54)), R.2.1, R.2.2)) (x := 59) h (by decide)
  refine ⟨none, R', a1.up (by decide), rfl, hQ R' a3.q ?_⟩
  exact (z_XR_BU (B := R.1) (M := R.2.1) (U := R.2.2) (fun q r => z_un (by omega)) (fun _ _ _ => rfl)).tr a2.xR
theorem d149_129 {i : Nat} (hi : i < 8) (h : z_Qd k p R.2.2) (hQ : ∀ R', z_Qd k p R'.2.2 → z_XR R R' → Q none R') : p149_129 16 R.1 R.2.1 R.2.2 (nI i) Q := by
  obtain ⟨v, R', a1, a2, a3⟩ := d155 h
  exact ⟨_, R', a1, v, rfl, d149_138 (R := R') hi a2 (fun R2 b1 b2 => hQ R2 b1 (a3.xR.tr b2))⟩
theorem d149_123 {y0 : Int32} {i : Nat} (hi : i < 8) (h : z_Qd k p R.2.2) (hQ : ∀ R', z_Qd k p R'.2.2 → z_XR R R' → Q none R') : p149_123 16 R.1 R.2.1 R.2.2 (nI i) y0 (nI i) Q := by
  refine ⟨z_inI hi (by decide), ?_⟩
  obtain ⟨R', a1, a2, a3⟩ := d154 (R := ((z_u R.1 53 (((nI i).toNatClampNeg, y0) :: R.1 53)), R.2.1, R.2.2)) (x := 4) h (by decide)
  refine ⟨none, R', a1.up (by decide), rfl, d149_129 (R := R') hi a3.q (fun R2 b1 b2 => hQ R2 b1 ?_)⟩
  exact (z_XR_BU (B := R.1) (M := R.2.1) (U := R.2.2) (fun q r => z_un (by omega)) (fun _ _ _ => rfl)).tr (a2.xR.tr b2)
theorem d149_114 {i : Nat} (hi : i < 8) (h : z_Qd k p R.2.2) (hQ : ∀ R', z_Qd k p R'.2.2 → z_XR R R' → Q none R') : p149_114 16 R.1 R.2.1 R.2.2 (nI i) Q := by
  obtain ⟨v, R', a1, a2, a3⟩ := d155 h
  exact ⟨_, R', a1, v, rfl, d149_123 (R := R') hi a2 (fun R2 b1 b2 => hQ R2 b1 (a3.xR.tr b2))⟩
theorem d149_108 {i : Nat} (hi : i < 8) (h : z_Qd k p R.2.2) (hQ : ∀ R', z_Qd k p R'.2.2 → z_XR R R' → Q none R') : p149_108 16 R.1 R.2.1 R.2.2 (nI i) Q := by
  obtain ⟨R', a1, a2, a3⟩ := d154 (R := R) (x := 58) h (by decide)
  exact ⟨none, R', a1.up (by decide), rfl, d149_114 (R := R') hi a3.q (fun R2 b1 b2 => hQ R2 b1 (a2.xR.tr b2))⟩
end ZDD
/-- the types of the effects declared, of both -/
def z_Et (τ : z_TT) (m : Nat) (A B : Nat → List (Nat × Int32)) : Prop := ∀ i, i < m → z_Tq τ (z_fn 0 (A 22) i) (z_fn 0 (B 53) i) ∧ z_Tq τ (z_fn 0 (A 23) i) (z_fn 0 (B 54) i)
/-- whether the effect looked at is declared -/
theorem jf {b : Nat → Nat} {n j m : Nat} {ep : Nat → Nat} {t : Nat × Nat × Int32} {S : z_CS} {R : z_RS} (hJ : z_J b n j t S R) (hD : z_De b n m ep S.1 R.1 S.2.2.2.1 R.2.2) (h3 : t.2.1 = 3) : ∃ v, z_Cr 14 53 0 [(0, .ref 127), (1, .int (S.2.2.2.1 3 10))] [] S (.inl (some (.int v))) S ∧ z_Rr 14 152 0 [(0, .ref 148)] [] R (some (.int v)) R ∧ (v = -1 ∨ (¬ v = -1 ∧ ¬ v < 0)) := by
  obtain ⟨A, E, N, V, W, c⟩ := S
  obtain ⟨B, M, U⟩ := R
  obtain ⟨⟨hb, hn, hTk, hTr, hKy, hU6⟩, hWj, h1, hf, hr⟩ := hJ
  obtain ⟨q1, q2, q3, q4, q5, q6, q7, q8, q9, q10⟩ := hWj
  obtain ⟨d1, d2, d3, d4⟩ := id hD
  have q6 : V 3 10 = t.2.2 := q6
  have q7 : U 41 8 = nI t.1 := q7
  have q9 : U 41 9 = nI (z_ll b n t.1) := q9
  have d2 : V 20 3 = nI m := d2
  have d3 : U 41 19 = nI m := d3
  have hTr : z_Tr (B 44) b n := hTr
  obtain ⟨tn, -⟩ := z_ts_name q1 (Or.inr h3)
  obtain ⟨w1, w2⟩ := z_we_le (b := b) tn
  have ell : z_ll b n t.1 = z_we b n t.1 - t.1 := if_pos tn
  have hfe := z_De_find hn hD q1 (Or.inr h3)
  have hE : ∀ i, i < m → z_fn 0 (B 51) i = nI (ep i) ∧ z_fn 0 (B 52) i = nI (z_ll b n (ep i)) ∧ ep i + z_ll b n (ep i) ≤ n := by
    intro i hi
    obtain ⟨k, u, u1, u2, u3, u4, u5, u6⟩ := d4 i hi
    obtain ⟨un, -⟩ := z_ts_name u1 (Or.inr u2)
    obtain ⟨v1, v2⟩ := z_we_le (b := b) un
    have el2 : z_ll b n u.1 = z_we b n u.1 - u.1 := if_pos un
    rw [u3] at v1 v2 el2
    exact ⟨u5, u6, by omega⟩
  refine ⟨z_fs (fun i => decide (z_fn 0 (A 21) i = t.2.2)) m 0, fun L xs fv f w g hg hl => ?_, fun L xs fv f w c A' E N V W g hm hl => ?_, ?_⟩
  · show z_Ln L xs fv f w 53 0 [(0, .ref 127), (1, .int (V 3 10))] [] _ _ _
    rw [q6]
    exact s53 d1 d2
  · have := s152 (L := L) (xs := xs) (fv := fv) (f := f) (w := w) (c := c) (A := A') (E := E) (N := N) (V := V) (W := W) (g := g) (B := B) (M := M) (U := U) hTr d1 d3 q7 q9 (by omega) hE hm (by have := hl.1; omega) (by have := hl.2; omega)
    rw [← hfe] at this
    exact this
  · rcases z_fs_or (P := fun i => decide (z_fn 0 (A 21) i = t.2.2)) m 0 with hno | ⟨i, -, i2, -, i4⟩
    · exact Or.inl hno
    · rw [i4]
      refine Or.inr ⟨fun q => ?_, nI_pos (by omega)⟩
      have := nI_pos' (n := i) (by omega)
      rw [q] at this
      exact absurd this (by decide)
theorem z_J.put {b : Nat → Nat} {n j k q : Nat} {t : Nat × Nat × Int32} {S : z_CS} {R : z_RS} {x y : List (Nat × Int32)} (h : z_J b n j t S R) (hk : k ≠ 6 ∧ k ≠ 7) (hq : q ≠ 44 ∧ q ≠ 45) : z_J b n j t (z_u S.1 k x, S.2.1, S.2.2.1, S.2.2.2.1, S.2.2.2.2.1, S.2.2.2.2.2) (z_u R.1 q y, R.2.1, R.2.2) := by
  refine h.cg rfl ?_ ?_ (fun _ => rfl) rfl ?_ ?_ (fun _ _ _ => rfl) h.2.2.2.2
  · show z_u S.1 k x 6 = S.1 6
    rw [z_un hk.1.symm]
  · show z_u S.1 k x 7 = S.1 7
    rw [z_un hk.2.symm]
  · show z_u R.1 q y 44 = R.1 44
    rw [z_un hq.1.symm]
  · show z_u R.1 q y 45 = R.1 45
    rw [z_un hq.2.symm]
theorem z_De_add {b : Nat → Nat} {n m j : Nat} {ep : Nat → Nat} {t : Nat × Nat × Int32} {A A' B B' : Nat → List (Nat × Int32)} {V V' U U' : Nat → Nat → Int32} (h : z_De b n m ep A B V U) (hm : m < 8) (ht : (z_ts b n)[j]? = some t) (h3 : t.2.1 = 3) (h1 : A' 21 = (m, t.2.2) :: A 21) (h2 : B' 51 = (m, nI t.1) :: B 51) (h4 : B' 52 = (m, nI (z_ll b n t.1)) :: B 52) (h5 : V' 20 3 = nI (m + 1)) (h6 : U' 41 19 = nI (m + 1)) : z_De b n (m + 1) (fun i => if i = m then t.1 else ep i) A' B' V' U' := by
  refine ⟨by omega, h5, h6, fun i hi => ?_⟩
  rw [h1, h2, h4]
  by_cases e : i = m
  · subst e
    have e1 : (fun i' => if i' = i then t.1 else ep i') i = t.1 := if_pos rfl
    rw [e1]
    exact ⟨j, t, ht, h3, rfl, by rw [z_fcs], by rw [z_fcs], by rw [z_fcs]⟩
  · have e1 : (fun i' => if i' = m then t.1 else ep i') i = ep i := if_neg e
    obtain ⟨k, u, u1, u2, u3, u4, u5, u6⟩ := h.2.2.2 i (by omega)
    rw [e1, z_fcn e, z_fcn e, z_fcn e]
    exact ⟨k, u, u1, u2, u3, u4, u5, u6⟩
theorem z_XC_AV {S : z_CS} {A' : Nat → List (Nat × Int32)} {V' : Nat → Nat → Int32} (h1 : ∀ k, z_rdA k = false → A' k = S.1 k) (h2 : ∀ k j, z_rdV k j = false → V' k j = S.2.2.2.1 k j) : z_XC S (A', S.2.1, S.2.2.1, V', S.2.2.2.2.1, S.2.2.2.2.2) := ⟨h1, rfl, fun _ _ => rfl, h2, z_Gw.rf⟩
theorem z_rdA_u {A : Nat → List (Nat × Int32)} {x : List (Nat × Int32)} {i k : Nat} (hi : z_rdA i = true) (h : z_rdA k = false) : z_u A i x k = A k := z_un (fun e => by rw [e, hi] at h; cases h)
theorem z_rdV_v {V : Nat → Nat → Int32} {x : Int32} {i r k j : Nat} (hi : z_rdV i r = true) (h : z_rdV k j = false) : z_v V i r x k j = V k j := z_vn (fun e => by rw [e.1, e.2, hi] at h; cases h)
/-- what declarations leave as it was -/
def z_Df (S S' : z_CS) (R R' : z_RS) : Prop := (∀ k j, ¬ (k = 3 ∧ 7 ≤ j ∧ j ≤ 10) → ¬ (k = 8 ∧ j = 4) → ¬ (k = 20 ∧ j = 3) → S'.2.2.2.1 k j = S.2.2.2.1 k j) ∧ (∀ k, ¬ (9 ≤ k ∧ k ≤ 12) → S'.2.2.1 k = S.2.2.1 k) ∧ ∀ j, 20 ≤ j → R'.2.2 41 j = R.2.2 41 j
theorem j51 {b : Nat → Nat} {n m : Nat} {ep : Nat → Nat} {S : z_CS} {R : z_RS} {j : Nat} {t : Nat × Nat × Int32} {τ : z_TT} (hJ : z_J b n j t S R) (ht0 : ¬ t.2.1 = 0) (hD : z_De b n m ep S.1 R.1 S.2.2.2.1 R.2.2) (hTC : z_TyC S.1 S.2.2.1 S.2.2.2.1 τ.1.1 τ.1.2) (hTR : z_TyR R.1 R.2.2 τ.2.1 τ.2.2) (hE : z_Et τ m S.1 R.1) (hB : 2 * τ.1.2 ≤ 6 + j ∧ 2 * τ.2.2 ≤ 6 + j) : ∃ o S', z_Cr 68 51 0 [(0, .ref 131)] [] S o S' ∧ z_oj o (fun v => ∃ (j' : Nat) (t' : Nat × Nat × Int32) (τ' : z_TT) (ep' : Nat → Nat) (R' : z_RS), v = none ∧ z_J b n j' t' S' R' ∧ j < j' ∧ z_De b n (m + 1) ep' S'.1 R'.1 S'.2.2.2.1 R'.2.2 ∧ z_TyC S'.1 S'.2.2.1 S'.2.2.2.1 τ'.1.1 τ'.1.2 ∧ z_TyR R'.1 R'.2.2 τ'.2.1 τ'.2.2 ∧ (2 * τ'.1.2 + j ≤ 2 * τ.1.2 + j' ∧ 2 * τ'.2.2 + j ≤ 2 * τ.2.2 + j') ∧ z_Et τ' (m + 1) S'.1 R'.1 ∧ z_XC S S' ∧ z_XR R R' ∧ z_Df S S' R R' ∧ z_Rr 17 149 0 [(0, .ref 148)] [] R none R') (∃ x y R', z_Xd x y S S' ∧ z_Rr 17 149 0 [(0, .ref 148)] [] R none R' ∧ z_Qd x y R'.2.2 ∧ z_XR R R') := by
  have h0 := hJ.2.2.2.1
  have h1 := hJ.2.2.1
  have hr := hJ.2.2.2.2
  have m8 := hD.1
  have hV3 : S.2.2.2.1 20 3 = nI m := hD.2.1
  have hU19 : R.2.2 41 19 = nI m := hD.2.2.1
  have e8 : S.2.2.2.1 3 9 = R.2.2 41 8 := hJ.2.1.2.2.2.2.1.trans hJ.2.1.2.2.2.2.2.2.1.symm
  have w0 : z_WC 68 51 0 [(0, .ref 131)] [] S (fun o S' => z_oj o (fun v => ∃ (j' : Nat) (t' : Nat × Nat × Int32) (τ' : z_TT) (ep' : Nat → Nat) (R' : z_RS), v = none ∧ z_J b n j' t' S' R' ∧ j < j' ∧ z_De b n (m + 1) ep' S'.1 R'.1 S'.2.2.2.1 R'.2.2 ∧ z_TyC S'.1 S'.2.2.1 S'.2.2.2.1 τ'.1.1 τ'.1.2 ∧ z_TyR R'.1 R'.2.2 τ'.2.1 τ'.2.2 ∧ (2 * τ'.1.2 + j ≤ 2 * τ.1.2 + j' ∧ 2 * τ'.2.2 + j ≤ 2 * τ.2.2 + j') ∧ z_Et τ' (m + 1) S'.1 R'.1 ∧ z_XC S S' ∧ z_XR R R' ∧ z_Df S S' R R' ∧ z_Rr 17 149 0 [(0, .ref 148)] [] R none R') (∃ x y R', z_Xd x y S S' ∧ z_Rr 17 149 0 [(0, .ref 148)] [] R none R' ∧ z_Qd x y R'.2.2 ∧ z_XR R R')) := by
    obtain ⟨A, E, N, V, W, c⟩ := S
    obtain ⟨B, M, U⟩ := R
    have h0 : U 41 11 = 0 := h0
    have hV3 : V 20 3 = nI m := hV3
    have hU19 : U 41 19 = nI m := hU19
    have e8 : V 3 9 = U 41 8 := e8
    refine t51_0 ?_
    unfold p51_0
    by_cases q8 : m = 8
    · -- a ninth
      obtain ⟨S', a1, a2⟩ := c50 (S := (A, E, N, V, W, c)) (k := 4) (p := V 3 9) (l := 67) hr hJ.w
      rw [if_pos (by rw [hV3, q8]; rfl)]
      refine ⟨hr.rm.1, .inr 10, S', a1, rfl, rfl, 4, V 3 9, (B, M, z_UF U 4 (U 41 8)), a2, z_WR.get (fun Q hq => t149_0 ?_), ?_, (z_Lw_F (R := (B, M, U)) (by decide)).xR⟩
      · unfold p149_0
        rw [if_pos (by rw [hU19, q8]; rfl)]
        refine ⟨none, _, f150 (R := (B, M, U)) h0, rfl, ?_⟩
        unfold p149_18
        refine z_ifn (show ¬ (4 : Int32) ≤ 0 by decide) ?_
        exact hq
      · rw [e8]
        exact z_Qd_F (by decide)
    · have n8 : ¬ nI m = 8 := fun q => q8 ((nI_eq (a := m) (b := 8) (by omega) (by omega)).mp q)
      have zm : z_in (nI m) 8 = true := z_inI (by omega) (by decide)
      have cm : (nI m).toNatClampNeg = m := nI_clamp (by omega)
      rw [if_neg (by rw [hV3]; exact n8)]
      refine ⟨hr.rm.1, ?_⟩
      obtain ⟨t1, R1, n1, n2, n3, n4⟩ := jn hJ ht0
      have ref1 : ∀ Q, p149_30 16 R1.1 R1.2.1 R1.2.2 Q → z_WR 17 149 0 [(0, .ref 148)] [] (B, M, U) Q := by
        intro Q h
        refine t149_0 ?_
        unfold p149_0
        rw [if_neg (by rw [hU19]; exact n8)]
        unfold p149_18
        rw [if_pos (by rw [h0]; decide)]
        exact ⟨none, R1, n1.up (by decide), rfl, h⟩
      -- what the reference does where it is told
      have told1 : ∀ (x y : Int32) R2, z_Rr 16 151 0 [(0, .ref 148)] [] R1 none R2 → ¬ R1.2.2 41 7 = 2 → z_Td x y R2.2.2 → z_Rr 17 149 0 [(0, .ref 148)] [] (B, M, U) none R2 := by
        intro x y R2 g1 g2 g3
        refine z_WR.get (fun Q hq => ref1 Q ?_)
        unfold p149_30
        rw [if_neg g2]
        refine ⟨none, R2, g1, rfl, ?_⟩
        unfold p149_42 p149_61
        rw [if_neg g3.1]
        exact hq
      rcases n4 with ⟨nb, S1, m1, m2, J1⟩ | ⟨nb, S1, m1, m2, m3⟩
      case inr =>
        obtain ⟨R2, g1, g2, g3⟩ := d151 (R := R1) (l := 15) m3.q
        refine ⟨.inr 10, S1, m1.up (by decide), rfl, rfl, _, _, R2, m2, told1 _ _ R2 g1 ?_ g3, g3.q, (n2.tr g2).xR⟩
        rw [m3.2.1]
        decide
      refine ⟨.inl none, S1, m1.up (by decide), rfl, ?_⟩
      have hr1 := J1.2.2.2.2
      have t37 := J1.len.2
      have hW1 : S1.2.2.2.2.1 = t1.2.1 := J1.2.1.2.2.2.1
      have hw1 : R1.2.2 41 7 = z_wco t1.2.1 := J1.2.1.2.2.2.2.2.2.2.1
      have cv1 : z_cv 37 (.ref S1.2.2.2.2.1) := by
        show S1.2.2.2.2.1 < 37
        rw [hW1]
        exact t37
      have h01 : R1.2.2 41 11 = 0 := J1.2.2.2.1
      have e81 : S1.2.2.2.1 3 9 = R1.2.2 41 8 := J1.2.1.2.2.2.2.1.trans J1.2.1.2.2.2.2.2.2.1.symm
      refine ⟨cv1, ?_⟩
      by_cases c3 : t1.2.1 = 3
      case neg =>
        obtain ⟨S2, a1, a2⟩ := c52 (S := S1) (l := 65) hr1 J1.w
        rw [if_neg (fun q => c3 (by rw [← hW1]; exact Option.some.inj q))]
        refine ⟨hr1.rm.1, .inr 10, S2, a1, rfl, rfl, 1, _, (R1.1, R1.2.1, z_UF R1.2.2 1 (R1.2.2 41 8)), a2.tr m2.xc, told1 1 _ _ (f151 (R := R1) (l := 15) h01 ?_) ?_ (z_Td_F (p := R1.2.2 41 8) (by decide)), ?_, (n2.tr (z_Lw_F (R := R1) (by decide))).xR⟩
        · rw [hw1]
          exact fun q => nb ((z_wco_5 _ t37).mp q)
        · rw [hw1]
          exact z_wco_n (i := 3) t37 (by decide) c3
        · rw [e81]
          exact z_Qd_F (by decide)
      rw [if_pos (by rw [hW1, c3])]
      have hD1 : z_De b n m ep S1.1 R1.1 S1.2.2.2.1 R1.2.2 := hD.x m2.xt n2.xr
      obtain ⟨v, f1, f2, f3⟩ := jf J1 hD1 c3
      refine ⟨hr1.rm.1, .inl (some (.int v)), S1, f1.up (by decide), v, rfl, ?_⟩
      have ref2 : ∀ Q, p149_49 16 R1.1 R1.2.1 R1.2.2 v Q → z_WR 17 149 0 [(0, .ref 148)] [] (B, M, U) Q := by
        intro Q h
        refine ref1 Q ?_
        unfold p149_30
        rw [if_pos (by rw [hw1, c3]; rfl)]
        exact ⟨_, R1, f2.up (by decide), v, rfl, h⟩
      unfold p51_65
      rcases f3 with f3 | ⟨f3, f4⟩
      case inr =>
        obtain ⟨S2, a1, a2⟩ := c50 (S := S1) (k := 3) (p := S1.2.2.2.1 3 9) (l := 67) hr1 J1.w
        rw [if_neg f3]
        refine ⟨hr1.rm.1, .inr 10, S2, a1, rfl, rfl, 3, _, (R1.1, R1.2.1, z_UF R1.2.2 3 (R1.2.2 41 8)), a2.tr m2.xc, z_WR.get (fun Q hq => ref2 Q ?_), ?_, (n2.tr (z_Lw_F (R := R1) (by decide))).xR⟩
        · unfold p149_49
          rw [if_neg f4]
          refine ⟨none, _, f150 (R := R1) h01, rfl, ?_⟩
          unfold p149_61
          refine z_ifn (show ¬ (3 : Int32) ≤ 0 by decide) ?_
          exact hq
        · rw [e81]
          exact z_Qd_F (by decide)
      rw [if_pos f3]
      have v1 : S1.2.2.2.1 20 3 = nI m := hD1.2.1
      have u1 : R1.2.2 41 19 = nI m := hD1.2.2.1
      have J1' : z_J b n (j + 1) t1 (z_u S1.1 21 ((m, S1.2.2.2.1 3 10) :: S1.1 21), S1.2.1, S1.2.2.1, z_v S1.2.2.2.1 20 3 (nI (m + 1)), S1.2.2.2.2.1, S1.2.2.2.2.2) (z_u (z_u R1.1 51 ((m, R1.2.2 41 8) :: R1.1 51)) 52 ((m, R1.2.2 41 9) :: R1.1 52), R1.2.1, z_v R1.2.2 41 19 (nI (m + 1))) := by
        refine J1.cg rfl ?_ ?_ ?_ rfl ?_ ?_ ?_ hr1
        · show z_u S1.1 21 ((m, S1.2.2.2.1 3 10) :: S1.1 21) 6 = S1.1 6
          rw [z_un (by decide)]
        · show z_u S1.1 21 ((m, S1.2.2.2.1 3 10) :: S1.1 21) 7 = S1.1 7
          rw [z_un (by decide)]
        · intro i
          show z_v S1.2.2.2.1 20 3 (nI (m + 1)) 3 i = S1.2.2.2.1 3 i
          rw [z_vn (by omega)]
        · show z_u (z_u R1.1 51 ((m, R1.2.2 41 8) :: R1.1 51)) 52 ((m, R1.2.2 41 9) :: R1.1 52) 44 = R1.1 44
          rw [z_un (by decide), z_un (by decide)]
        · show z_u (z_u R1.1 51 ((m, R1.2.2 41 8) :: R1.1 51)) 52 ((m, R1.2.2 41 9) :: R1.1 52) 45 = R1.1 45
          rw [z_un (by decide), z_un (by decide)]
        · intro i _ _
          show z_v R1.2.2 41 19 (nI (m + 1)) 41 i = R1.2.2 41 i
          rw [z_vn (by omega)]
      have De1 : z_De b n (m + 1) (fun i => if i = m then t1.1 else ep i) (z_u S1.1 21 ((m, S1.2.2.2.1 3 10) :: S1.1 21)) (z_u (z_u R1.1 51 ((m, R1.2.2 41 8) :: R1.1 51)) 52 ((m, R1.2.2 41 9) :: R1.1 52)) (z_v S1.2.2.2.1 20 3 (nI (m + 1))) (z_v R1.2.2 41 19 (nI (m + 1))) := z_De_add hD1 (by omega) J1.2.1.1 c3 (by rw [z_uk, J1.2.1.2.2.2.2.2.1]) (by rw [z_un (by decide), z_uk, J1.2.1.2.2.2.2.2.2.1]) (by rw [z_uk, J1.2.1.2.2.2.2.2.2.2.2.1]) z_vk z_vk
      obtain ⟨t2, R2, n5, n6, n7, n8'⟩ := jn J1' (by omega)
      have ref3 : ∀ Q, p149_108 16 R2.1 R2.2.1 R2.2.2 (nI m) Q → z_WR 17 149 0 [(0, .ref 148)] [] (B, M, U) Q := by
        intro Q h
        refine ref2 Q ?_
        unfold p149_49
        rw [if_pos (by rw [f3]; decide)]
        unfold p149_61
        rw [if_pos (by rw [h01]; decide)]
        unfold p149_69
        rw [u1, cm, nI_1]
        exact ⟨zm, zm, none, R2, n5.up (by decide), rfl, h⟩
      have xr12 : z_XR (B, M, U) R2 := n2.xR.tr ((z_XR_BU (B := R1.1) (M := R1.2.1) (U := R1.2.2) (fun q r => by rw [z_un (by omega), z_un (by omega)]) (fun q r s => z_vn (by omega))).tr n6.xR)
      have xc1 : z_XC (A, E, N, V, W, c) (z_u S1.1 21 ((m, S1.2.2.2.1 3 10) :: S1.1 21), S1.2.1, S1.2.2.1, z_v S1.2.2.2.1 20 3 (nI (m + 1)), S1.2.2.2.2.1, S1.2.2.2.2.2) := m2.xc.tr (z_XC_AV (S := S1) (fun q r => z_rdA_u rfl r) (fun q r s => z_rdV_v rfl s))
      unfold p51_84
      rw [v1, cm, nI_1]
      refine ⟨zm, hr1.rm.1, ?_⟩
      rcases n8' with ⟨nb2, S2, m4, m5, J2⟩ | ⟨nb2, S2, m4, m5, m6⟩
      case inr =>
        obtain ⟨R9, g1, g2, g3⟩ := z_WR.getd (P := fun R' => z_Qd 2 (nI t2.1) R'.2.2 ∧ z_XR (B, M, U) R') (fun Q hq => ref3 Q (d149_108 (R := R2) (by omega) m6.q (fun R' a1 a2 => hq R' ⟨a1, xr12.tr a2⟩)))
        exact ⟨.inr 10, S2, m4.up (by decide), rfl, rfl, _, _, R9, m5.tr xc1, g1, g2, g3⟩
      refine ⟨.inl none, S2, m4.up (by decide), rfl, ?_⟩
      have xc2 := xc1.tr m5.xc
      have De2 : z_De b n (m + 1) (fun i => if i = m then t1.1 else ep i) S2.1 R2.1 S2.2.2.2.1 R2.2.2 := De1.x (S := (z_u S1.1 21 ((m, S1.2.2.2.1 3 10) :: S1.1 21), S1.2.1, S1.2.2.1, z_v S1.2.2.2.1 20 3 (nI (m + 1)), S1.2.2.2.2.1, S1.2.2.2.2.2)) (R := (z_u (z_u R1.1 51 ((m, R1.2.2 41 8) :: R1.1 51)) 52 ((m, R1.2.2 41 9) :: R1.1 52), R1.2.1, z_v R1.2.2 41 19 (nI (m + 1)))) m5.xt n6.xr
      have TC1 : z_TyC S1.1 S1.2.2.1 S1.2.2.2.1 τ.1.1 τ.1.2 := hTC.kw m2
      have TC2 : z_TyC S2.1 S2.2.2.1 S2.2.2.2.1 τ.1.1 τ.1.2 := (TC1.cg (A' := z_u S1.1 21 ((m, S1.2.2.2.1 3 10) :: S1.1 21)) (V' := z_v S1.2.2.2.1 20 3 (nI (m + 1))) (N' := S1.2.2.1) (fun q r s => z_un (by omega)) (fun _ _ _ => rfl) (z_vn (by decide))).kw (S := (z_u S1.1 21 ((m, S1.2.2.2.1 3 10) :: S1.1 21), S1.2.1, S1.2.2.1, z_v S1.2.2.2.1 20 3 (nI (m + 1)), S1.2.2.2.2.1, S1.2.2.2.2.2)) m5
      have TR1 : z_TyR R1.1 R1.2.2 τ.2.1 τ.2.2 := hTR.lw n2
      have TR2 : z_TyR R2.1 R2.2.2 τ.2.1 τ.2.2 := (TR1.cg (B' := z_u (z_u R1.1 51 ((m, R1.2.2 41 8) :: R1.1 51)) 52 ((m, R1.2.2 41 9) :: R1.1 52)) (U' := z_v R1.2.2 41 19 (nI (m + 1))) (by rw [z_un (by decide), z_un (by decide)]) (by rw [z_un (by decide), z_un (by decide)]) (by rw [z_un (by decide), z_un (by decide)]) (z_vn (by decide))).lw (R := (z_u (z_u R1.1 51 ((m, R1.2.2 41 8) :: R1.1 51)) 52 ((m, R1.2.2 41 9) :: R1.1 52), R1.2.1, z_v R1.2.2 41 19 (nI (m + 1)))) n6
      have hr2 := J2.2.2.2.2
      refine ⟨hr2.rm.1, ?_⟩
      -- the colon
      rcases jx J2 9 (by decide) (by decide) (by decide) with ⟨t3, S3, R3, tk3, a1, a2, a3, a4, J3⟩ | ⟨x, y, S3, R3, a1, a2, a3, a4, a5⟩
      case inr =>
        obtain ⟨R9, g1, g2, g3⟩ := z_WR.getd (P := fun R' => z_Qd x y R'.2.2 ∧ z_XR (B, M, U) R') (fun Q hq => ref3 Q ⟨none, R3, a2.up (by decide), rfl, d149_114 (R := R3) (by omega) a5 (fun R' b1 b2 => hq R' ⟨b1, xr12.tr (a4.xR.tr b2)⟩)⟩)
        exact ⟨.inr 10, S3, a1.up (by decide), rfl, rfl, x, y, R9, a3.tr xc2, g1, g2, g3⟩
      refine ⟨.inl none, S3, a1.up (by decide), rfl, ?_⟩
      have ref4 : ∀ Q, p149_114 16 R3.1 R3.2.1 R3.2.2 (nI m) Q → z_WR 17 149 0 [(0, .ref 148)] [] (B, M, U) Q := fun Q h => ref3 Q ⟨none, R3, a2.up (by decide), rfl, h⟩
      have xr3 := xr12.tr a4.xR
      have xc3 := xc2.tr a3.xc
      have hr3 := J3.2.2.2.2
      refine ⟨hr3.rm.1, ?_⟩
      have De3 := De2.x a3.xt a4.xr
      -- the argument's type
      obtain ⟨o4, S4, k1, k2⟩ := jt J3 De3 (TC2.kw a3) (TR2.lw a4) ⟨by omega, by omega⟩
      refine ⟨o4, S4, k1.up (by decide), ?_⟩
      rcases o4 with v4 | e4
      case inr =>
        obtain ⟨rfl, x, y, v, R4, b1, b2, b3, b4⟩ := k2
        obtain ⟨R9, g1, g2, g3⟩ := z_WR.getd (P := fun R' => z_Qd x y R'.2.2 ∧ z_XR (B, M, U) R') (fun Q hq => ref4 Q ⟨_, R4, b2, v, rfl, d149_123 (R := R4) (by omega) b3 (fun R' c1 c2 => hq R' ⟨c1, xr3.tr (b4.xR.tr c2)⟩)⟩)
        exact ⟨rfl, rfl, x, y, R9, b1.tr xc3, g1, g2, g3⟩
      obtain ⟨x4, y4, j4, t4, τ4, R4, rfl, J4, lj4, te4, TC4, TR4, inc4, tq4, xt4, xr4, run4⟩ := k2
      refine ⟨x4, rfl, ?_⟩
      have ref5 : ∀ Q, p149_123 16 R4.1 R4.2.1 R4.2.2 (nI m) y4 (nI m) Q → z_WR 17 149 0 [(0, .ref 148)] [] (B, M, U) Q := fun Q h => ref4 Q ⟨_, R4, run4, y4, rfl, h⟩
      have hr4 := J4.2.2.2.2
      have De4 := De3.x xt4 xr4
      have xr4' := xr3.tr xr4.xR
      have xc4 := xc3.tr xt4.xc
      have J4' : z_J b n j4 t4 (z_u S4.1 22 ((m, x4) :: S4.1 22), S4.2.1, S4.2.2.1, S4.2.2.2.1, S4.2.2.2.2.1, S4.2.2.2.2.2) (z_u R4.1 53 ((m, y4) :: R4.1 53), R4.2.1, R4.2.2) := J4.put (by decide) (by decide)
      have xc4' : z_XC (A, E, N, V, W, c) (z_u S4.1 22 ((m, x4) :: S4.1 22), S4.2.1, S4.2.2.1, S4.2.2.2.1, S4.2.2.2.2.1, S4.2.2.2.2.2) := xc4.tr (z_XC_AV (S := S4) (fun q r => z_rdA_u rfl r) (fun q r s => rfl))
      have xr4'' : z_XR (B, M, U) (z_u R4.1 53 ((m, y4) :: R4.1 53), R4.2.1, R4.2.2) := xr4'.tr (z_XR_BU (B := R4.1) (M := R4.2.1) (U := R4.2.2) (fun q r => z_un (by omega)) (fun q r s => rfl))
      unfold p51_148
      rw [cm]
      refine ⟨zm, hr4.rm.1, ?_⟩
      rcases jx J4' 19 (by decide) (by decide) (by decide) with ⟨t5, S5, R5, tk5, a6, a7, a8, a9, J5⟩ | ⟨x, y, S5, R5, a6, a7, a8, a9, a10⟩
      case inr =>
        obtain ⟨R9, g1, g2, g3⟩ := z_WR.getd (P := fun R' => z_Qd x y R'.2.2 ∧ z_XR (B, M, U) R') (fun Q hq => ref5 Q (by
          unfold p149_123
          rw [cm]
          exact ⟨zm, none, R5, a7.up (by decide), rfl, d149_129 (R := R5) (by omega) a10 (fun R' c1 c2 => hq R' ⟨c1, xr4''.tr (a9.xR.tr c2)⟩)⟩))
        exact ⟨.inr 10, S5, a6.up (by decide), rfl, rfl, x, y, R9, a8.tr xc4', g1, g2, g3⟩
      refine ⟨.inl none, S5, a6.up (by decide), rfl, ?_⟩
      have ref6 : ∀ Q, p149_129 16 R5.1 R5.2.1 R5.2.2 (nI m) Q → z_WR 17 149 0 [(0, .ref 148)] [] (B, M, U) Q := fun Q h => ref5 Q (by
        unfold p149_123
        rw [cm]
        exact ⟨zm, none, R5, a7.up (by decide), rfl, h⟩)
      have hr5 := J5.2.2.2.2
      refine ⟨hr5.rm.1, ?_⟩
      have De4' : z_De b n (m + 1) (fun i => if i = m then t1.1 else ep i) (z_u S4.1 22 ((m, x4) :: S4.1 22)) (z_u R4.1 53 ((m, y4) :: R4.1 53)) S4.2.2.2.1 R4.2.2 := De4.cg (z_un (by decide)) (z_un (by decide)) (z_un (by decide)) rfl rfl
      have De5 : z_De b n (m + 1) (fun i => if i = m then t1.1 else ep i) S5.1 R5.1 S5.2.2.2.1 R5.2.2 := De4'.x (S := (z_u S4.1 22 ((m, x4) :: S4.1 22), S4.2.1, S4.2.2.1, S4.2.2.2.1, S4.2.2.2.2.1, S4.2.2.2.2.2)) (R := (z_u R4.1 53 ((m, y4) :: R4.1 53), R4.2.1, R4.2.2)) a8.xt a9.xr
      have TC5 : z_TyC S5.1 S5.2.2.1 S5.2.2.2.1 τ4.1.1 τ4.1.2 := (TC4.cg (A' := z_u S4.1 22 ((m, x4) :: S4.1 22)) (V' := S4.2.2.2.1) (N' := S4.2.2.1) (fun q r s => z_un (by omega)) (fun _ _ _ => rfl) rfl).kw (S := (z_u S4.1 22 ((m, x4) :: S4.1 22), S4.2.1, S4.2.2.1, S4.2.2.2.1, S4.2.2.2.2.1, S4.2.2.2.2.2)) a8
      have TR5 : z_TyR R5.1 R5.2.2 τ4.2.1 τ4.2.2 := (TR4.cg (B' := z_u R4.1 53 ((m, y4) :: R4.1 53)) (U' := R4.2.2) (z_un (by decide)) (z_un (by decide)) (z_un (by decide)) rfl).lw (R := (z_u R4.1 53 ((m, y4) :: R4.1 53), R4.2.1, R4.2.2)) a9
      have xr5 := xr4''.tr a9.xR
      have xc5 := xc4'.tr a8.xc
      obtain ⟨o6, S6, k3, k4⟩ := jt J5 De5 TC5 TR5 ⟨by omega, by omega⟩
      refine ⟨o6, S6, k3.up (by decide), ?_⟩
      rcases o6 with v6 | e6
      case inr =>
        obtain ⟨rfl, x, y, v, R6, b1, b2, b3, b4⟩ := k4
        obtain ⟨R9, g1, g2, g3⟩ := z_WR.getd (P := fun R' => z_Qd x y R'.2.2 ∧ z_XR (B, M, U) R') (fun Q hq => ref6 Q ⟨_, R6, b2, v, rfl, d149_138 (R := R6) (by omega) b3 (fun R' c1 c2 => hq R' ⟨c1, xr5.tr (b4.xR.tr c2)⟩)⟩)
        exact ⟨rfl, rfl, x, y, R9, b1.tr xc5, g1, g2, g3⟩
      obtain ⟨x6, y6, j6, t6, τ6, R6, rfl, J6, lj6, te6, TC6, TR6, inc6, tq6, xt6, xr6, run6⟩ := k4
      refine ⟨x6, rfl, ?_⟩
      have ref7 : ∀ Q, p149_138 16 R6.1 R6.2.1 R6.2.2 (nI m) y6 (nI m) Q → z_WR 17 149 0 [(0, .ref 148)] [] (B, M, U) Q := fun Q h => ref6 Q ⟨_, R6, run6, y6, rfl, h⟩
      have hr6 := J6.2.2.2.2
      have De6 := De5.x xt6 xr6
      have J6' : z_J b n j6 t6 (z_u S6.1 23 ((m, x6) :: S6.1 23), S6.2.1, S6.2.2.1, S6.2.2.2.1, S6.2.2.2.2.1, S6.2.2.2.2.2) (z_u R6.1 54 ((m, y6) :: R6.1 54), R6.2.1, R6.2.2) := J6.put (by decide) (by decide)
      have xc6' : z_XC (A, E, N, V, W, c) (z_u S6.1 23 ((m, x6) :: S6.1 23), S6.2.1, S6.2.2.1, S6.2.2.2.1, S6.2.2.2.2.1, S6.2.2.2.2.2) := xc5.tr (xt6.xc.tr (z_XC_AV (S := S6) (fun q r => z_rdA_u rfl r) (fun q r s => rfl)))
      have xr6' : z_XR (B, M, U) (z_u R6.1 54 ((m, y6) :: R6.1 54), R6.2.1, R6.2.2) := xr5.tr (xr6.xR.tr (z_XR_BU (B := R6.1) (M := R6.2.1) (U := R6.2.2) (fun q r => z_un (by omega)) (fun q r s => rfl)))
      unfold p51_169
      rw [cm]
      refine ⟨zm, hr6.rm.1, ?_⟩
      rcases jx J6' 10 (by decide) (by decide) (by decide) with ⟨t7, S7, R7, tk7, a11, a12, a13, a14, J7⟩ | ⟨x, y, S7, R7, a11, a12, a13, a14, a15⟩
      case inr =>
        refine ⟨.inr 10, S7, a11.up (by decide), rfl, rfl, x, y, R7, a13.tr xc6', z_WR.get (fun Q hq => ref7 Q ?_), a15, xr6'.tr a14.xR⟩
        unfold p149_138
        rw [cm]
        exact ⟨zm, none, R7, a12.up (by decide), rfl, hq⟩
      refine ⟨.inl none, S7, a11.up (by decide), rfl, ?_⟩
      have De6' : z_De b n (m + 1) (fun i => if i = m then t1.1 else ep i) (z_u S6.1 23 ((m, x6) :: S6.1 23)) (z_u R6.1 54 ((m, y6) :: R6.1 54)) S6.2.2.2.1 R6.2.2 := De6.cg (z_un (by decide)) (z_un (by decide)) (z_un (by decide)) rfl rfl
      refine ⟨j6 + 1, t7, τ6, _, R7, rfl, J7, by omega, De6'.x (S := (z_u S6.1 23 ((m, x6) :: S6.1 23), S6.2.1, S6.2.2.1, S6.2.2.2.1, S6.2.2.2.2.1, S6.2.2.2.2.2)) (R := (z_u R6.1 54 ((m, y6) :: R6.1 54), R6.2.1, R6.2.2)) a13.xt a14.xr, ?_, ?_, ⟨by omega, by omega⟩, ?_, xc6'.tr a13.xc, xr6'.tr a14.xR, ⟨fun k' j' q1 q2 q3 => ?_, fun k' q1 => ?_, fun j' q1 => ?_⟩, z_WR.get (fun Q hq => ref7 Q ?_)⟩
      · exact (TC6.cg (A' := z_u S6.1 23 ((m, x6) :: S6.1 23)) (V' := S6.2.2.2.1) (N' := S6.2.2.1) (fun q r s => z_un (by omega)) (fun _ _ _ => rfl) rfl).kw (S := (z_u S6.1 23 ((m, x6) :: S6.1 23), S6.2.1, S6.2.2.1, S6.2.2.2.1, S6.2.2.2.2.1, S6.2.2.2.2.2)) a13
      · exact (TR6.cg (B' := z_u R6.1 54 ((m, y6) :: R6.1 54)) (U' := R6.2.2) (z_un (by decide)) (z_un (by decide)) (z_un (by decide)) rfl).lw (R := (z_u R6.1 54 ((m, y6) :: R6.1 54), R6.2.1, R6.2.2)) a14
      · have s22 : S7.1 22 = (m, x4) :: A 22 := by
          have q1 : S7.1 22 = z_u S6.1 23 ((m, x6) :: S6.1 23) 22 := by rw [a13.1]
          have q2 : S5.1 22 = z_u S4.1 22 ((m, x4) :: S4.1 22) 22 := by rw [a8.1]
          have q3 : S2.1 22 = z_u S1.1 21 ((m, S1.2.2.2.1 3 10) :: S1.1 21) 22 := by rw [m5.1]
          rw [q1, z_un (by decide), xt6.1 22 (by decide), q2, z_uk, xt4.1 22 (by decide), a3.1, q3, z_un (by decide), m2.1]
        have s23 : S7.1 23 = (m, x6) :: A 23 := by
          have q1 : S7.1 23 = z_u S6.1 23 ((m, x6) :: S6.1 23) 23 := by rw [a13.1]
          have q2 : S5.1 23 = z_u S4.1 22 ((m, x4) :: S4.1 22) 23 := by rw [a8.1]
          have q3 : S2.1 23 = z_u S1.1 21 ((m, S1.2.2.2.1 3 10) :: S1.1 21) 23 := by rw [m5.1]
          rw [q1, z_uk, xt6.1 23 (by decide), q2, z_un (by decide), xt4.1 23 (by decide), a3.1, q3, z_un (by decide), m2.1]
        have b53 : R7.1 53 = (m, y4) :: B 53 := by
          have q1 : R7.1 53 = z_u R6.1 54 ((m, y6) :: R6.1 54) 53 := by rw [a14.1]
          have q2 : R5.1 53 = z_u R4.1 53 ((m, y4) :: R4.1 53) 53 := by rw [a9.1]
          have q3 : R2.1 53 = z_u (z_u R1.1 51 ((m, R1.2.2 41 8) :: R1.1 51)) 52 ((m, R1.2.2 41 9) :: R1.1 52) 53 := by rw [n6.1]
          rw [q1, z_un (by decide), xr6.1 53 (by decide) (by decide), q2, z_uk, xr4.1 53 (by decide) (by decide), a4.1, q3, z_un (by decide), z_un (by decide), n2.1]
        have b54 : R7.1 54 = (m, y6) :: B 54 := by
          have q1 : R7.1 54 = z_u R6.1 54 ((m, y6) :: R6.1 54) 54 := by rw [a14.1]
          have q2 : R5.1 54 = z_u R4.1 53 ((m, y4) :: R4.1 53) 54 := by rw [a9.1]
          have q3 : R2.1 54 = z_u (z_u R1.1 51 ((m, R1.2.2 41 8) :: R1.1 51)) 52 ((m, R1.2.2 41 9) :: R1.1 52) 54 := by rw [n6.1]
          rw [q1, z_uk, xr6.1 54 (by decide) (by decide), q2, z_un (by decide), xr4.1 54 (by decide) (by decide), a4.1, q3, z_un (by decide), z_un (by decide), n2.1]
        intro i hi
        rw [s22, s23, b53, b54]
        by_cases e : i = m
        · subst e
          rw [z_fcs, z_fcs, z_fcs, z_fcs]
          exact ⟨tq4.x TC4.1 TR4.1 te6, tq6⟩
        · rw [z_fcn e, z_fcn e, z_fcn e, z_fcn e]
          obtain ⟨g1, g2⟩ := hE i (by omega)
          exact ⟨g1.x hTC.1 hTR.1 (te4.tr te6), g2.x hTC.1 hTR.1 (te4.tr te6)⟩
      · have r2 : S2.2.2.2.1 k' j' = z_v S1.2.2.2.1 20 3 (nI (m + 1)) k' j' := m5.2.2.2.1 k' j' q1
        have r5 : S5.2.2.2.1 k' j' = S4.2.2.2.1 k' j' := a8.2.2.2.1 k' j' q1
        have r7 : S7.2.2.2.1 k' j' = S6.2.2.2.1 k' j' := a13.2.2.2.1 k' j' q1
        rw [r7, xt6.2.2.2.1 k' j' q1 q2, r5, xt4.2.2.2.1 k' j' q1 q2, a3.2.2.2.1 k' j' q1, r2, z_vn q3]
        exact m2.2.2.2.1 k' j' q1
      · have r2 : S2.2.2.1 = S1.2.2.1 := m5.2.2.1
        have r5 : S5.2.2.1 = S4.2.2.1 := a8.2.2.1
        have r7 : S7.2.2.1 = S6.2.2.1 := a13.2.2.1
        rw [r7, xt6.2.2.1 k' q1, r5, xt4.2.2.1 k' q1, a3.2.2.1, r2]
        exact congrFun m2.2.2.1 k'
      · have r2 : R2.2.2 41 j' = z_v R1.2.2 41 19 (nI (m + 1)) 41 j' := n6.2.2.1 41 j' (by omega)
        have r5 : R5.2.2 41 j' = R4.2.2 41 j' := a9.2.2.1 41 j' (by omega)
        have r7 : R7.2.2 41 j' = R6.2.2 41 j' := a14.2.2.1 41 j' (by omega)
        rw [r7, xr6.2.2.1 41 j' (by omega), r5, xr4.2.2.1 41 j' (by omega), a4.2.2.1 41 j' (by omega), r2, z_vn (by omega)]
        exact n2.2.2.1 41 j' (by omega)
      · unfold p149_138
        rw [cm]
        exact ⟨zm, none, R7, a12.up (by decide), rfl, hq⟩
  exact w0
