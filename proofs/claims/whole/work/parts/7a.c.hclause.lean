/-! Checking, both together: a clause of a handle. -/
def z_rro (k j : Nat) (v : Int32) (R : z_RS) : z_RS := (z_u R.1 k ((j, v) :: R.1 k), R.2.1, R.2.2)
section ZAC
variable {b : Nat → Nat} {n me : Nat} {τ0 : z_TT} {ce : Nat} {S0 : z_CS} {R0 : z_RS} {w : Nat} {u v : z_Bd} {m x s d : Nat} {p row : Int32} {τs : z_TT} {H ρ mo0 cc0 P N : Nat} {κ : Nat → Nat} {Ss : z_CS} {Rs : z_RS} {X : Nat} {τ : z_TT} {mo cc st : Nat} {c : Int32} {S : z_CS} {R : z_RS} {Φ : z_V → z_CS → z_RS → Prop}
theorem z_rro_o {k j q : Nat} {y : Int32} (h : q ≠ k) : (z_rro k j y R).1 q = R.1 q := z_un h
theorem z_rro_k {k j : Nat} {y : Int32} : (z_rro k j y R).1 k = (j, y) :: R.1 k := z_uk
theorem z_XU_rro {k j : Nat} {y : Int32} (hk : 98 ≤ k ∧ k ≤ 109) : z_XU R (z_rro k j y R) := ⟨fun q a c => z_rro_o (by omega), fun _ _ => rfl, fun _ _ _ => rfl⟩
theorem z_KR.rro {T : Nat → Nat × Nat × Int32} {mT c' P' k j : Nat} {y : Int32} (h : z_KR R0 T mT c' P' R) (hk : 98 ≤ k ∧ k ≤ 109) : z_KR R0 T mT c' P' (z_rro k j y R) := ⟨h.1.kp (fun q a c => z_rro_o (by omega)) rfl, h.2.1.tr (z_XU_rro hk), h.2.2.1, h.2.2.2.1, h.2.2.2.2⟩
theorem z_Fl.rro {k j c' P' : Nat} {y : Int32} (hk : (k = 105 ∧ P' ≤ j) ∨ (106 ≤ k ∧ k ≤ 109 ∧ u.1.1 ≤ j ∧ j < u.1.2)) : z_Fl u c' P' R (z_rro k j y R) := by
  refine ⟨fun q a e i f => by rw [z_rro_o (by omega)], fun q a e i f => ?_, fun q a e i f => ?_⟩
  · by_cases h : q = k
    · rw [h, z_rro_k, z_fcn (by omega)]
    · rw [z_rro_o h]
  · by_cases h : q = k
    · rw [h, z_rro_k, z_fcn (by omega)]
    · rw [z_rro_o h]
theorem z_Fk.r36 {a e H' ρ' N' k j : Nat} {y : Int32} (hk : k = 36 ∨ k = 37) (hj : ρ' < j) : z_Fk a e H' ρ' N' S (z_row k j y S) := by
  refine ⟨fun q a1 c1 i f => by rw [z_row_o (by omega)], fun q a1 c1 i f => by rw [z_row_o (by omega)], fun q a1 i f => ?_, fun i f => by rw [z_row_o (by omega)], fun q a1 i f => by rw [z_row_o (by omega)]⟩
  by_cases h : q = k
  · rw [h, z_row_k, z_fcn (by omega)]
  · rw [z_row_o h]
theorem n_hclause {i y g ef l : Nat} {q' : Int32} {r' : List (Nat × Nat)} (hs : z_Hs b n me τ0 ce S0 R0 w u m x s d p row τs H ρ mo0 cc0 P N κ Ss Rs) (hl : z_Hl b n τ0 S0 R0 u m x s row τs H ρ mo0 cc0 P N κ Ss Rs w d ((i, y) :: r') l X (nI i) τ mo cc st c S R) (h16l : z_fn 0 (S0.1 16) l = nI X) (hΦ : z_Fd S0 R0 Φ) (hsX : s < X) (hXy : X < y) (hyd : y < d) (hi : i < 300) (w1 : z_S1 u m v) (hxv : x < v.1.1) (hgv : v.1.1 ≤ g ∧ g < v.1.2) (hoX : z_fn 0 (S0.1 14) X = 24) (hn1 : z_Nm b n (z_fn 0 (R0.1 73) i) (z_fn 0 (S0.1 15) X) (z_fn 0 (R0.1 74) i)) (hn2 : z_Nm b n (z_fn 0 (R0.1 75) i) (z_fn 0 (S0.1 18) X) (z_fn 0 (R0.1 76) i)) (h17X : z_fn 0 (S0.1 17) X = z_fn 0 (R0.1 71) i) (hef : ef < me) (h71 : z_fn 0 (R0.1 71) i = nI ef) (h19X : z_fn 0 (S0.1 19) X = z_fn 0 (R0.1 72) i) (h77 : z_fn 0 (R0.1 77) i = nI g) (hoy : z_fn 0 (S0.1 14) y = 25) (hq' : z_fn 0 (R0.1 79) i = q') (hq2 : q' = -1 ∨ ∃ i', i' < 300 ∧ q' = nI i')
    (ih : z_Kn b n τ0 ce S0 R0 (w - 4) v g (X + 1) y (z_fn 0 (R0.1 78) i))
    (next : ∀ τ' mo' cc' st' c' S' R', z_Hl b n τ0 S0 R0 u m x s row τs H ρ mo0 cc0 P N κ Ss Rs w d r' X (y + 1) q' τ' mo' cc' st' c' S' R' → z_JC Φ m P (z_ko κ N) (y + 1) S' R') : z_JC Φ m P (z_ko κ N) X S R := by
  obtain ⟨h1, ⟨um, mu, hu6, hu3, x6⟩, ⟨hdc, hsd⟩, ⟨ho, h17, hoe, h19⟩, ⟨hk, h58, h70⟩, hN, hfl, hjs, hb, hw⟩ := hs
  have hwm := hw.mod
  have hwc := hw.1
  obtain ⟨hj, te, fk, fl, ⟨ccl, ccb, tb, tb'⟩, ⟨htp, h105, st3, stb⟩, ⟨a36, a37, b109, tqa⟩, ⟨e29, e30⟩, ⟨a33, a35, a14, a15⟩, ag, rm, cxX, cv⟩ := hl
  have h0 := h1.1
  have ce5 := h0.2.1
  have m6 : m < 600 := by omega
  have g6 : g < 600 := by have := w1.1.2; omega
  have cm : (nI m).toNatClampNeg = m := nI_clamp (by omega)
  have cg : (nI g).toNatClampNeg = g := nI_clamp (by omega)
  have ci : (nI i).toNatClampNeg = i := nI_clamp (by omega)
  have cX : (nI X).toNatClampNeg = X := nI_clamp (by omega)
  have cy : (nI y).toNatClampNeg = y := nI_clamp (by omega)
  have zm : z_in (nI m) 600 = true := z_inI m6 (by decide)
  have zg : z_in (nI g) 600 = true := z_inI g6 (by decide)
  have zi : z_in (nI i) 300 = true := z_inI hi (by decide)
  have ef8 : ef < 8 := by have := h1.2.2.1.2; omega
  have cf : (nI ef).toNatClampNeg = ef := nI_clamp (by omega)
  have zf : z_in (nI ef) 8 = true := z_inI ef8 (by decide)
  have hP : P + 1 < 700 := by
    have := hb.2.1
    have := w1.1.1
    have := w1.1.2
    have := w1.2.2
    omega
  have cP : (nI P).toNatClampNeg = P := nI_clamp (by omega)
  have zP : z_in (nI P) 700 = true := z_inI (by omega) (by decide)
  have n128 : N + 1 < 120 := by have := hb.1.2.1; omega
  have ρ64 : ρ + 1 < 64 := by have := hb.1.2.2; omega
  have H256 : H + 3 < 256 := by have := hb.1.1; omega
  have hXc : X < ce := by omega
  have hyc : y < ce := by omega
  have hC := hj.1
  have hCs := hjs.1
  have cρ1 : (nI (ρ + 1)).toNatClampNeg = ρ + 1 := nI_clamp (by omega)
  have zρ1 : z_in (nI (ρ + 1)) 64 = true := z_inI ρ64 (by decide)
  have cH1 : (nI (H + 1)).toNatClampNeg = H + 1 := nI_clamp (by omega)
  have zH1 : z_in (nI (H + 1)) 256 = true := z_inI (by omega) (by decide)
  have v16 : S.2.2.2.1 27 16 = nI (ρ + 1) := hC.2.2.2.2.1.2.2
  have eo : z_fn 0 (S.1 14) X = 24 := (hC.2.2.2.1 14 (by decide) X (Nat.le_refl _)).trans hoX
  have s17 : z_fn 0 (S.1 17) X = nI ef := by
    rw [hC.2.2.1.1 17 (by decide) (by decide) (by decide), h17X, h71]
  have cl : ∀ Q, p103_0 61 S.1 S.2.1 S.2.2.1 S.2.2.2.1 S.2.2.2.2.1 S.2.2.2.2.2 (nI X) (z_cx (z_cx Q (fun x S1 => x = none ∧ z_WC 64 82 31 [(0, .ref 134), (1, .int (nI (X + 1)))] [] S1 Q)) (fun x S1 => x = none ∧ p97_313 62 S1.1 S1.2.1 S1.2.2.1 S1.2.2.2.1 S1.2.2.2.2.1 S1.2.2.2.2.2 (nI X) (z_cx Q (fun x S1 => x = none ∧ z_WC 64 82 31 [(0, .ref 134), (1, .int (nI (X + 1)))] [] S1 Q)))) → z_WC 64 82 31 [(0, .ref 134), (1, .int (nI X))] [] S Q := by
    intro Q hQ
    refine k97 (o := 24) hC h0 hXc hoX (by decide) (by decide) ?_
    refine t97_0 (A := S.1) (E := S.2.1) (N := S.2.2.1) (V := S.2.2.2.1) (W := S.2.2.2.2.1) (c := S.2.2.2.2.2) ?_
    unfold p97_0
    rw [cX, eo]
    refine ⟨hC.in h0 hXc (by decide) (by decide), ?_⟩
    rw [if_neg (by decide), if_neg (by decide), if_neg (by decide), if_neg (by decide), if_neg (by decide), if_neg (by decide), if_neg (by decide), if_pos rfl]
    exact ⟨hC.2.1.rm.1, t103_0 (l := 61) hQ⟩
  have X0 := hj.2.1.2.1
  have re : ∀ Q, (if ((c >>> (nI ef &&& 31)) &&& 1) = 0 then p194_104 7 R.1 R.2.1 R.2.2 (nI m) (z_ko κ N) (nI P) (nI i) (nI ef) Q else p194_108 7 R.1 R.2.1 R.2.2 (nI m) (z_ko κ N) (nI P) (nI i) (nI ef) Q) → z_WR 8 194 0 [(0, .ref 148), (1, .int (nI m)), (2, .int (z_ko κ N)), (3, .int (nI P))] [] R Q := by
    intro Q hQ
    refine t194_0 (l := 7) (B := R.1) (M := R.2.1) (U := R.2.2) ?_
    unfold p194_0
    rw [cP, h105]
    refine ⟨zP, ?_⟩
    rw [if_pos (show (0 : Int32) ≤ nI i from nI_le (a := 0) (Nat.zero_le _) (by omega))]
    unfold p194_80
    rw [ci, cm, X0.1 71 (by decide) (by decide), h71, b109]
    exact ⟨zi, zm, hQ⟩
  by_cases hbit : ((c >>> (nI ef &&& 31)) &&& 1) = 0
  rotate_left
  · refine z_JC.dead (x := 8) (y := z_fn 0 (R0.1 72) i) hΦ hC.2.2.1 X0 (fun Q hQ => cl Q ?_) (fun Q hQ => re Q ?_)
    · unfold p103_0
      rw [v16, cρ1, cX, s17, a37, if_neg hbit]
      refine ⟨hC.in h0 hXc (by decide) (by decide), zρ1, ?_⟩
      unfold p103_26
      rw [cX, hC.2.2.1.1 19 (by decide) (by decide) (by decide), h19X]
      exact ⟨hC.in h0 hXc (by decide) (by decide), hC.2.1.rm.1, k50q hC.2.1 (fun S' hy => ⟨rfl, rfl, hQ S' hy⟩)⟩
    · rw [if_neg hbit]
      unfold p194_108 p194_109
      rw [ci, X0.1 72 (by decide) (by decide)]
      refine ⟨zi, r190f (l := 6) (R := R) (G := fun R1 => p194_121 7 R1.1 R1.2.1 R1.2.2 (nI m) (z_ko κ N) (nI P) (nI i) (nI ef) Q) hj.2.1.2.2.2.2.1 ?_⟩
      have td : z_Td 8 (z_fn 0 (R0.1 72) i) (z_UF R.2.2 8 (z_fn 0 (R0.1 72) i)) := z_Td_F (by decide)
      unfold p194_121
      rw [if_neg td.1]
      exact ⟨zm, zm, hQ _ td ((z_XU_F (R := R)).tr ⟨fun k q1 q2 => z_un (by omega), fun _ _ => rfl, fun _ _ _ => rfl⟩)⟩
  -- types
  obtain ⟨c', hc'⟩ : ∃ c' : Int32, c' = c ||| (1 <<< (nI ef &&& 31)) := ⟨_, rfl⟩
  obtain ⟨q1t, q2t⟩ := h1.2.2.1.1 ef hef
  have tA : z_Tqd 50 τ (z_fn 0 (S0.1 22) ef) (z_fn 0 (R0.1 53) ef) := z_Tqd.x h1.2.2.2.1 h1.2.2.2.2 hj.2.2.1 q1t.d
  have tG : z_Tq τ (z_fn 0 (S0.1 23) ef) (z_fn 0 (R0.1 54) ef) := z_Tq.x h1.2.2.2.1 h1.2.2.2.2 hj.2.2.1 q2t
  obtain ⟨a, a', ea, ea', la, la', da, ada⟩ := id tG
  obtain ⟨r, r', er, er', lr, lr', dr, adr⟩ := id tqa
  have cf1 : z_cf (S0.1 14) (X + 1) = z_cf (S0.1 14) X + 1 := z_cf_1 (Or.inr (Or.inr hoX))
  have cfX := z_cf_le (a := S0.1 14) (show X + 1 ≤ ce by omega)
  have cfy := z_cf_le (a := S0.1 14) (show y ≤ ce by omega)
  have cfy1 := z_cf_le (a := S0.1 14) (show y ≤ y + 1 from Nat.le_succ y)
  have b1 : τ.1.2 < 1450 := by have := hb.2.2.2.1; omega
  have b2 : τ.2.2 < 1450 := by have := hb.2.2.2.2; omega
  have cc200 : cc + 2 + 2 * (ce - (X + 1)) ≤ 190000 := by have := hb.2.2.1; omega
  -- the reference
  obtain ⟨Rh, hRh⟩ : ∃ Y : z_RS, Y = z_rro 109 m c' R := ⟨_, rfl⟩
  have hRh' : z_KR R0 τ.2.1 τ.2.2 cc (P + 1) Rh := by rw [hRh]; exact hj.2.1.rro (by decide)
  obtain ⟨Rb, hRb⟩ : ∃ Y : z_RS, Y = z_bnd cc (z_fn 0 (R0.1 73) i) (z_fn 0 (R0.1 74) i) (z_fn 0 (R0.1 53) ef) (z_ko κ N) Rh := ⟨_, rfl⟩
  have hRb' : z_KR R0 τ.2.1 τ.2.2 (cc + 1) (P + 1) Rb := by rw [hRb]; exact hRh'.bnd
  obtain ⟨T2, m2, q2, R2, run2, hR2, to2, oR2, oU2⟩ := r158x (l := 6) (e := row) hRb' (by omega) la' lr'
  obtain ⟨Rc, hRc⟩ : ∃ Y : z_RS, Y = z_bnd (cc + 1) (z_fn 0 (R0.1 75) i) (z_fn 0 (R0.1 76) i) (nI q2) (nI cc) R2 := ⟨_, rfl⟩
  have hRc' : z_KR R0 T2 m2 (cc + 2) (P + 1) Rc := by rw [hRc]; exact hR2.bnd
  obtain ⟨Ra, hRa⟩ : ∃ Y : z_RS, Y = z_pil (P + 1) g (nI (cc + 1)) Rc := ⟨_, rfl⟩
  have hRa' : z_KR R0 T2 m2 (cc + 2) (P + 1 + 1) Ra := by rw [hRa]; exact hRc'.pil
  have re1 : ∀ Q, z_WR 10 183 19 [(0, .ref 148)] [] Ra Q → z_WR 8 194 0 [(0, .ref 148), (1, .int (nI m)), (2, .int (z_ko κ N)), (3, .int (nI P))] [] R (fun x R1 => x = none ∧ z_WR 10 183 19 [(0, .ref 148)] [] R1 Q) := by
    intro Q hQ
    refine re _ ?_
    rw [if_pos hbit]
    unfold p194_104 p194_109
    refine ⟨zi, r190 (l := 6) (R := R) (G := fun R1 => p194_121 7 R1.1 R1.2.1 R1.2.2 (nI m) (z_ko κ N) (nI P) (nI i) (nI ef) _) ?_⟩
    have f0 : R.2.2 41 11 ≤ 0 := by rw [hj.2.1.2.2.2.2.1]; decide
    unfold p194_121
    rw [if_pos f0, cm, b109, ← hc']
    refine ⟨zm, zm, ?_⟩
    show p194_146 7 (z_rro 109 m c' R).1 (z_rro 109 m c' R).2.1 (z_rro 109 m c' R).2.2 (nI m) (z_ko κ N) (nI P) (nI i) (nI ef) _
    rw [← hRh]
    have Xh := hRh'.2.1
    unfold p194_146
    rw [ci, cf, Xh.1 73 (by decide) (by decide), Xh.1 74 (by decide) (by decide), Xh.1 53 (by decide) (by decide)]
    refine ⟨zi, zi, zf, r186 (l := 6) (R := Rh) (cc := cc) (G := fun v R2 => p194_172 7 R2.1 R2.2.1 R2.2.2 (nI m) (z_ko κ N) (nI P) (nI i) (nI ef) v _) hRh'.2.2.1 (by omega) ?_⟩
    rw [← hRb]
    have Xb := hRb'.2.1
    have b108 : z_fn 0 (Rb.1 108) m = nI r' := by
      rw [hRb, z_bnd_o (by decide), hRh, z_rro_o (by decide)]
      exact er'
    unfold p194_172
    rw [ci, cf, cm, Xb.1 54 (by decide) (by decide), Xb.1 70 (by decide) (by decide), Xb.1 75 (by decide) (by decide), Xb.1 76 (by decide) (by decide), Xb.1 77 (by decide) (by decide), ea', b108, h70, h77]
    refine ⟨zi, zi, zi, zf, zm, zm, _, _, run2, nI q2, rfl, ?_⟩
    unfold p194_220
    refine r186 (l := 6) (R := R2) (cc := cc + 1) (G := fun v R2 => p194_225 7 R2.1 R2.2.1 R2.2.2 (nI m) (z_ko κ N) (nI P) (nI i) (nI ef) (nI cc) v (nI g) _) hR2.2.2.1 (by omega) ?_
    rw [← hRc]
    unfold p194_225
    rw [hRa] at hQ
    exact r184 (l := 6) (R := Rc) (G := fun R2 => p194_228 7 R2.1 R2.2.1 R2.2.2 (nI m) (z_ko κ N) (nI P) (nI i) (nI ef) (nI cc) _) hRc'.2.2.2.1 hP ⟨rfl, hQ⟩
  -- the class
  obtain ⟨nm, hnm⟩ : ∃ nm : Int32, nm = z_fn 0 (S0.1 15) X := ⟨_, rfl⟩
  obtain ⟨nm2, hnm2⟩ : ∃ nm2 : Int32, nm2 = z_fn 0 (S0.1 18) X := ⟨_, rfl⟩
  obtain ⟨tA1, htA1⟩ : ∃ t : Int32, t = z_fn 0 (S0.1 22) ef := ⟨_, rfl⟩
  obtain ⟨Sr, hSr⟩ : ∃ Y : z_CS, Y = z_row 37 (ρ + 1) c' S := ⟨_, rfl⟩
  have hCr : z_KC S0 X τ.1.1 τ.1.2 (H + 2) (ρ + 1) mo Sr := by rw [hSr]; exact hC.wr (Or.inr (Or.inr rfl))
  have oSr : ∀ k, k ≠ 37 → Sr.1 k = S.1 k := fun k q => by rw [hSr, z_row_o q]
  obtain ⟨moa, hmoa⟩ : ∃ y, y = max mo (N + 1) := ⟨_, rfl⟩
  obtain ⟨mob, hmob⟩ : ∃ y, y = max moa (N + 1 + 1) := ⟨_, rfl⟩
  have hNX : N = (z_ctx S0.1 X).1.length := by rw [cxX]; exact hN
  obtain ⟨Sb, hSb⟩ : ∃ Y : z_CS, Y = z_bnc N (ρ + 1) nm tA1 moa Sr := ⟨_, rfl⟩
  have hCb : z_KCx S0 X (nm :: (z_ctx S0.1 X).1, (z_ctx S0.1 X).2) τ.1.1 τ.1.2 (H + 2) (ρ + 1) moa Sb := by
    rw [hSb]
    exact z_KCx.bnx hCr hNX (by omega) hmoa
  have hNb : N + 1 = (nm :: (z_ctx S0.1 X).1).length := by rw [List.length_cons, ← hNX]
  have oSb : ∀ k, k ≠ 31 → k ≠ 32 → k ≠ 35 → k ≠ 37 → Sb.1 k = S.1 k := fun k q1 q2 q3 q4 => by rw [hSb, z_bnc_o q1 q2 q3, oSr k q4]
  have ib : ∀ k, 14 ≤ k → k ≤ 19 → z_in (nI X) (Sb.2.2.1 k) = true := fun k q1 q2 => by
    rw [hSb, hSr]
    exact hC.in h0 hXc q1 q2
  refine cl _ ?_
  unfold p103_0
  rw [v16, cρ1, cX, s17, a37, if_pos hbit]
  refine ⟨hC.in h0 hXc (by decide) (by decide), zρ1, ?_⟩
  unfold p103_44
  rw [v16, cρ1, cX, cf, a37, ← hc', hC.2.2.2.1 15 (by decide) X (Nat.le_refl _), ← hnm, hC.2.2.1.1 22 (by decide) (by decide) (by decide), ← htA1]
  refine ⟨zρ1, zρ1, hC.in h0 hXc (by decide) (by decide), zf, hC.2.1.rm.1, ?_⟩
  have eSr : ((z_u S.1 37 ((ρ + 1, c') :: S.1 37)), S.2.1, S.2.2.1, S.2.2.2.1, S.2.2.2.2.1, S.2.2.2.2.2) = Sr := by rw [hSr]; rfl
  rw [eSr]
  refine k87x (lv := 60) (x := z_ctx S0.1 X) (G := fun S1 => p103_81 61 S1.1 S1.2.1 S1.2.2.1 S1.2.2.2.1 S1.2.2.2.2.1 S1.2.2.2.2.2 (nI X) (nI ef) _) hCr hNX (by omega) hmoa ρ64 ?_
  rw [← hSb]
  have v7b : Sb.2.2.2.1 27 7 - 1 = nI (H + 1) := by rw [hCb.2.2.2.2.1.1]; exact nI_pred (H + 1)
  have sb18 : z_fn 0 (Sb.1 18) X = nm2 := by
    rw [oSb 18 (by decide) (by decide) (by decide) (by decide), hC.2.2.2.1 18 (by decide) X (Nat.le_refl _), hnm2]
  have sb23 : z_fn 0 (Sb.1 23) ef = nI a := by
    rw [oSb 23 (by decide) (by decide) (by decide) (by decide), hC.2.2.1.1 23 (by decide) (by decide) (by decide), ea]
  have sb28 : z_fn 0 (Sb.1 28) (H + 1) = nI r := by
    rw [oSb 28 (by decide) (by decide) (by decide) (by decide), er]
  have sb36 : z_fn 0 (Sb.1 36) (ρ + 1) = row := by
    rw [oSb 36 (by decide) (by decide) (by decide) (by decide), a36]
  show p103_81 61 Sb.1 Sb.2.1 Sb.2.2.1 Sb.2.2.2.1 Sb.2.2.2.2.1 Sb.2.2.2.2.2 (nI X) (nI ef) _
  unfold p103_81
  rw [hCb.2.2.2.2.1.2.2, cρ1, v7b, cH1, cX, cf, sb18, sb23, sb28, sb36]
  refine ⟨zH1, ib 18 (by decide) (by decide), zf, zρ1, hCb.2.1.rm.1, k59 (l := 60) (x := (nm :: (z_ctx S0.1 X).1, (z_ctx S0.1 X).2)) (G := fun v S2 => p103_129 61 S2.1 S2.2.1 S2.2.2.1 S2.2.2.2.1 S2.2.2.2.2.1 S2.2.2.2.2.2 (nI X) (nI ef) (nI r) v nm2 _) hCb h0 (by omega) la lr ada ?_⟩
  intro T1 m1 q1 S2 hC2 to1 oA2
  obtain ⟨Sc, hSc⟩ : ∃ Y : z_CS, Y = z_bnc (N + 1) (ρ + 1) nm2 (nI q1) mob S2 := ⟨_, rfl⟩
  have hCc : z_KCx S0 X (nm2 :: nm :: (z_ctx S0.1 X).1, (z_ctx S0.1 X).2) T1 m1 (H + 2) (ρ + 1) mob Sc := by
    rw [hSc]
    exact hC2.bnx hNb (by omega) hmob
  show p103_129 61 S2.1 S2.2.1 S2.2.2.1 S2.2.2.2.1 S2.2.2.2.2.1 S2.2.2.2.2.2 (nI X) (nI ef) (nI r) (nI q1) nm2 _
  refine ⟨hC2.2.1.rm.1, k87x (lv := 60) (G := fun S1 => p103_132 61 S1.1 S1.2.1 S1.2.2.1 S1.2.2.2.1 S1.2.2.2.2.1 S1.2.2.2.2.2 (nI X) (nI ef) (nI r) _) hC2 hNb (by omega) hmob ρ64 ?_⟩
  rw [← hSc]
  refine ⟨rfl, rfl, ?_⟩
  show z_JC Φ m P (z_ko κ N) (X + 1) Sc R
  refine z_JC.jg ?_ re1
  obtain ⟨te2, tq2⟩ := z_To.tq (τ := τ) hC.1.1 hj.2.1.1.1 hC2.1.1 hR2.1.1 to1 to2 la lr la' lr' da dr (D := 51) (by have := ada.1; omega) adr
  obtain ⟨τ', hτ'⟩ : ∃ Y : z_TT, Y = ((T1, m1), (T2, m2)) := ⟨_, rfl⟩
  rw [← hτ'] at te2 tq2
  have t1e : τ'.1.1 = T1 ∧ τ'.1.2 = m1 ∧ τ'.2.1 = T2 ∧ τ'.2.2 = m2 := by rw [hτ']; exact ⟨rfl, rfl, rfl, rfl⟩
  have cxc : z_ctx S0.1 (X + 1) = (nm2 :: nm :: (z_ctx S0.1 X).1, (z_ctx S0.1 X).2) := by
    rw [z_ctx_s hoX, hnm, hnm2]
    rfl
  have hlc : (z_ctx S0.1 (X + 1)).1.length = N + 2 := by
    rw [cxc, hNX]
    rfl
  obtain ⟨κ1, hκ1⟩ : ∃ Y, Y = z_kp κ N cc := ⟨_, rfl⟩
  obtain ⟨κ2, hκ2⟩ : ∃ Y, Y = z_kp κ1 (N + 1) (cc + 1) := ⟨_, rfl⟩
  have ko1 : z_ko κ1 (N + 1) = nI cc := by
    rw [hκ1]
    show nI (z_kp κ N cc N) = nI cc
    rw [z_kp_n]
  have hjc : z_Kj b n τ0 S0 R0 (X + 1) τ' (H + 2) (ρ + 1) mob (cc + 2) (P + 1 + 1) κ2 Sc Ra := by
    have k0 : z_Kq b n τ N κ cc Sr Rh := (hj.q hNX).cg (fun k q1 q2 j _ => by rw [oSr k (by omega)]) (fun k q1 q2 j _ => by rw [hRh, z_rro_o (by omega)]) (Nat.le_refl _)
    have k1 : z_Kq b n τ (N + 1) κ1 (cc + 1) Sb Rb := by
      rw [hκ1, hRb]
      exact k0.bnd (nm := nm) (ty := tA1) (by rw [hSb, z_bnc_31]) (by rw [hSb, z_bnc_32]) (by rw [hnm]; exact hn1) (by rw [htA1]; exact tA.le (by decide))
    have k2 : z_Kq b n τ' (N + 1) κ1 (cc + 1) S2 R2 := (k1.te hC.1.1 hj.2.1.1.1 te2).cg (fun k q1 q2 j _ => by rw [oA2 k (by omega)]) (fun k q1 q2 j _ => by rw [oR2 k (by omega)]) (Nat.le_refl _)
    have k3 : z_Kq b n τ' (N + 2) κ2 (cc + 2) Sc Rc := by
      rw [hκ2, hRc, ← ko1]
      exact k2.bnd (nm := nm2) (ty := nI q1) (by rw [hSc, z_bnc_31]) (by rw [hSc, z_bnc_32]) (by rw [hnm2]; exact hn2) tq2
    have k4 : z_Kq b n τ' (N + 2) κ2 (cc + 2) Sc Ra := k3.cg (fun k _ _ j _ => rfl) (fun k q1 q2 j _ => by rw [hRa, z_pil_o (by omega)]) (Nat.le_refl _)
    refine k4.j hlc.symm ?_ ?_ (hj.2.2.1.tr te2)
    · unfold z_KC
      rw [cxc, t1e.1, t1e.2.1]
      exact hCc.mv (Nat.le_succ X)
    · rw [t1e.2.2.1, t1e.2.2.2]
      exact hRa'
  have hko : z_ko κ2 (z_ctx S0.1 (X + 1)).1.length = nI (cc + 1) := by
    rw [hlc, hκ2]
    show nI (z_kp κ1 (N + 1) (cc + 1) (N + 1)) = nI (cc + 1)
    rw [z_kp_n]
  have m1b := to1.2.1
  have m2b := to2.2.1
  refine ih Φ hΦ τ' (H + 2) (ρ + 1) mob (cc + 2) (P + 1) κ2 Sc Ra hjc (by rw [hko, hRa]; exact z_pil_tk) ⟨⟨by have := hb.1.1; omega, by rw [hlc]; have := hb.1.2.1; omega, by have := hb.1.2.2; omega⟩, ?_, cc200, ?_⟩ ?_
  · have := hb.2.1
    have := w1.1.1
    have := w1.1.2
    have := w1.2.2
    omega
  · have := hb.2.2.2.1
    have := hb.2.2.2.2
    rw [t1e.2.1, t1e.2.2.2]
    constructor <;> omega
  intro τ1 mo1 cc1 S1 R1 hke1
  obtain ⟨hj1, te1, fk1, fl1, ⟨mo01, cc01, cc1b, tb1, tb1'⟩, ⟨p1, ty1, ef1⟩, ag1, rm1, cx1, tj1⟩ := hke1
  rw [hlc] at fk1
  rw [t1e.2.1] at tb1
  rw [t1e.2.2.2] at tb1'
  have hC1 := hj1.1
  -- what stays of the class
  have oSc : ∀ k, ¬ (9 ≤ k ∧ k ≤ 12) → k ≠ 31 → k ≠ 32 → k ≠ 35 → k ≠ 37 → Sc.1 k = S.1 k := fun k q0 q1 q2 q3 q4 => by rw [hSc, z_bnc_o q1 q2 q3, oA2 k q0, oSb k q1 q2 q3 q4]
  have sc37 : z_fn 0 (Sc.1 37) (ρ + 1) = c' := by
    rw [hSc, z_bnc_o (by decide) (by decide) (by decide), oA2 37 (by decide), hSb, z_bnc_o (by decide) (by decide) (by decide), hSr, z_row_k, z_fcs]
  have sc35 : z_fn 0 (Sc.1 35) ρ = nI mo0 := by
    rw [hSc, z_bnc_35, z_fcn (by omega), oA2 35 (by decide), hSb, z_bnc_35, z_fcn (by omega), oSr 35 (by decide)]
    exact a35
  have g28 : ∀ k, 28 ≤ k → k ≤ 30 → ∀ j, j < H + 2 → z_fn 0 (S1.1 k) j = z_fn 0 (S.1 k) j := fun k q1 q2 j q3 => by
    rw [fk1.1 k q1 q2 j q3, oSc k (by omega) (by omega) (by omega) (by omega) (by omega)]
  have g36 : z_fn 0 (S1.1 36) (ρ + 1) = row := by
    rw [fk1.2.2.1 36 (by decide) (ρ + 1) (Nat.le_refl _), oSc 36 (by decide) (by decide) (by decide) (by decide) (by decide)]
    exact a36
  have g37 : z_fn 0 (S1.1 37) (ρ + 1) = c' := by
    rw [fk1.2.2.1 37 (by decide) (ρ + 1) (Nat.le_refl _)]
    exact sc37
  have g33 : z_fn 0 (S1.1 33) (ρ + 1) = nI s := by
    rw [fk1.2.2.1 33 (by decide) (ρ + 1) (Nat.le_refl _), oSc 33 (by decide) (by decide) (by decide) (by decide) (by decide)]
    exact a33
  have g35 : z_fn 0 (S1.1 35) ρ = nI mo0 := by
    rw [fk1.2.2.2.1 ρ (Nat.lt_succ_self _)]
    exact sc35
  have gr : ∀ k, k = 14 ∨ k = 15 ∨ k = 18 → ∀ j, j ≤ X → z_fn 0 (S1.1 k) j = z_fn 0 (S.1 k) j := fun k q1 j q2 => by
    rw [fk1.2.2.2.2 k q1 j (by omega), oSc k (by omega) (by omega) (by omega) (by omega) (by omega)]
  -- what stays of the reference
  have oRp : ∀ k, 102 ≤ k → k ≤ 105 → ∀ j, j ≤ P → z_fn 0 (Ra.1 k) j = z_fn 0 (R.1 k) j := fun k q1 q2 j q4 => by
    have e1 : z_fn 0 (Ra.1 k) j = z_fn 0 (Rc.1 k) j := by
      rw [hRa]
      rcases (show k = 102 ∨ k = 103 ∨ k = 104 ∨ k = 105 by omega) with rfl | rfl | rfl | rfl
      · rw [z_pil_102, z_fcn (by omega)]
      · rw [z_pil_103, z_fcn (by omega)]
      · rw [z_pil_104, z_fcn (by omega)]
      · rw [z_pil_o (by decide)]
    rw [e1, hRc, z_bnd_o (by omega), oR2 k (by omega), hRb, z_bnd_o (by omega), hRh, z_rro_o (by omega)]
  have oRm : ∀ k, 106 ≤ k → k ≤ 108 → Ra.1 k = R.1 k := fun k q1 q2 => by
    rw [hRa, z_pil_o (by omega), hRc, z_bnd_o (by omega), oR2 k (by omega), hRb, z_bnd_o (by omega), hRh, z_rro_o (by omega)]
  have ra109 : z_fn 0 (Ra.1 109) m = c' := by
    rw [hRa, z_pil_o (by decide), hRc, z_bnd_o (by decide), oR2 109 (by decide), hRb, z_bnd_o (by decide), hRh, z_rro_k, z_fcs]
  have r109 : z_fn 0 (R1.1 109) m = c' := by
    rw [fl1.2.2 109 (by decide) (by decide) m w1.2.2]
    exact ra109
  have r108 : z_fn 0 (R1.1 108) m = z_fn 0 (R.1 108) m := by
    rw [fl1.2.2 108 (by decide) (by decide) m w1.2.2, oRm 108 (by decide) (by decide)]
  have r107 : z_fn 0 (R1.1 107) x = z_fn 0 (R.1 107) x := by
    rw [fl1.2.2 107 (by decide) (by decide) x (by omega), oRm 107 (by decide) (by decide)]
  have r102 : ∀ k, 102 ≤ k → k ≤ 105 → z_fn 0 (R1.1 k) P = z_fn 0 (R.1 k) P := fun k q1 q2 => by
    rw [fl1.2.1 k q1 q2 P (Nat.lt_succ_self _), oRp k q1 q2 P (Nat.le_refl _)]
  have hp1 : z_tpk P m st (z_ko κ N) R1 := ⟨by rw [r102 102 (by decide) (by decide)]; exact htp.1, by rw [r102 103 (by decide) (by decide)]; exact htp.2.1, by rw [r102 104 (by decide) (by decide)]; exact htp.2.2⟩
  have r105 : z_fn 0 (R1.1 105) P = nI i := by rw [r102 105 (by decide) (by decide)]; exact h105
  -- the class at the end of the clause
  have cxy : z_ctx S0.1 y = (nm2 :: nm :: (z_ctx S0.1 s).1, N :: (z_ctx S0.1 s).2) := by
    rw [cx1, cxc, cxX]
  have cxy1 : z_ctx S0.1 (y + 1) = ((z_ctx S0.1 s).1, N :: (z_ctx S0.1 s).2) := by
    rw [z_ctx_s hoy, cxy]
    rfl
  have hCx1 : z_KCx S0 y (nm2 :: nm :: (z_ctx S0.1 s).1, N :: (z_ctx S0.1 s).2) τ1.1.1 τ1.1.2 (H + 3) (ρ + 1) mo1 S1 := by
    have q := hC1
    unfold z_KC at q
    rw [cxy] at q
    exact q
  have eoy : z_fn 0 (S1.1 14) y = 25 := (hC1.2.2.2.1 14 (by decide) y (Nat.le_refl _)).trans hoy
  have v71 : S1.2.2.2.1 27 7 - 1 = nI (H + 2) := by rw [hCx1.2.2.2.2.1.1]; exact nI_pred (H + 2)
  have v72 : S1.2.2.2.1 27 7 - 2 = nI (H + 1) := by
    rw [hCx1.2.2.2.2.1.1]
    exact pk_sub (a := H + 3) (b := 2) (by omega)
  have s28 : z_fn 0 (S1.1 28) (H + 1) = nI r := by rw [g28 28 (by decide) (by decide) (H + 1) (by omega)]; exact er
  have cly0 : ∀ Q, z_WC 61 93 0 [(0, .ref 134), (1, .int (nI (H + 2))), (2, .int (nI r))] [] S1 (z_cx (z_cx (z_cx Q (fun x S1 => x = none ∧ z_WC 64 82 31 [(0, .ref 134), (1, .int (nI (y + 1)))] [] S1 Q)) (fun x S1 => x = none ∧ p97_320 62 S1.1 S1.2.1 S1.2.2.1 S1.2.2.2.1 S1.2.2.2.2.1 S1.2.2.2.2.2 (nI y) (z_cx Q (fun x S1 => x = none ∧ z_WC 64 82 31 [(0, .ref 134), (1, .int (nI (y + 1)))] [] S1 Q)))) (fun x S2 => x = none ∧ p104_21 61 S2.1 S2.2.1 S2.2.2.1 S2.2.2.2.1 S2.2.2.2.2.1 S2.2.2.2.2.2 (z_cx (z_cx Q (fun x S1 => x = none ∧ z_WC 64 82 31 [(0, .ref 134), (1, .int (nI (y + 1)))] [] S1 Q)) (fun x S1 => x = none ∧ p97_320 62 S1.1 S1.2.1 S1.2.2.1 S1.2.2.2.1 S1.2.2.2.2.1 S1.2.2.2.2.2 (nI y) (z_cx Q (fun x S1 => x = none ∧ z_WC 64 82 31 [(0, .ref 134), (1, .int (nI (y + 1)))] [] S1 Q)))))) → z_WC 64 82 31 [(0, .ref 134), (1, .int (nI y))] [] S1 Q := by
    intro Q hQ
    refine k97 (o := 25) hC1 h0 hyc hoy (by decide) (by decide) ?_
    refine t97_0 (A := S1.1) (E := S1.2.1) (N := S1.2.2.1) (V := S1.2.2.2.1) (W := S1.2.2.2.2.1) (c := S1.2.2.2.2.2) ?_
    unfold p97_0
    rw [cy, eoy]
    refine ⟨hC1.in h0 hyc (by decide) (by decide), ?_⟩
    rw [if_neg (by decide), if_neg (by decide), if_neg (by decide), if_neg (by decide), if_neg (by decide), if_neg (by decide), if_neg (by decide), if_neg (by decide), if_pos rfl]
    refine ⟨hC1.2.1.rm.1, t104_0 (l := 61) ?_⟩
    unfold p104_0
    rw [v71, v72, cH1, s28]
    exact ⟨zH1, hC1.2.1.rm.1, hQ⟩
  -- types
  have TC1 := hC1.1
  have TR1 := hj1.2.1.1
  have te02 : z_Te τ τ1 := te2.tr te1
  obtain ⟨f, f', ec, ec', lc, lc', dc, -⟩ := id ty1
  have lr1 : r < τ1.1.2 := Nat.lt_of_lt_of_le lr te02.1.1
  have lr1' : r' < τ1.2.2 := Nat.lt_of_lt_of_le lr' te02.2.1
  have dr1 : z_dt τ1.1.1 r = z_dt τ1.2.1 r' := by
    rw [z_dt_e hC.1.1 te02.1.2 lr, z_dt_e hj.2.1.1.1 te02.2.2 lr', dr]
  have fx := z_ftt_x TC1.1 TR1.1 _ f r (Nat.le_refl _) lc lr1 f' r' lc' lr1' dc dr1
  -- the reference behind the clause
  have X1 := hj1.2.1.2.1.tr (z_XU_stg (R := R1) (P := P) (st := st))
  have tyS : z_TyR (z_stg P st R1).1 (z_stg P st R1).2.2 τ1.2.1 τ1.2.2 := (hj1.2.1.stg).1
  obtain ⟨vv, B', M', hrr, hv, hB, hM⟩ := w189x (l := 7) (R := z_stg P st R1) tyS lc' lr1'
  obtain ⟨E1, hE1⟩ : ∃ E : Int32, E = z_fn 0 (R1.1 107) g := ⟨_, rfl⟩
  have ns : ∀ k, k < 3 → ¬ nI st = nI k := fun k hk e => by
    have := (nI_eq (a := st) (b := k) (by omega) (by omega)).mp e
    omega
  have rey0 : ∀ Q, p193_189 8 B' M' (z_stg P st R1).2.2 (nI m) (nI st) (z_ko κ N) (nI P) (nI i) vv (fun x R1 => x = none ∧ z_WR 10 183 19 [(0, .ref 148)] [] R1 Q) → z_WR 10 183 19 [(0, .ref 148)] [] R1 Q := by
    intro Q hQ
    refine r183 hj1.2.1 (by omega) hp1 m6 hk ?_
    show p183_200 9 (z_stg P st R1).1 (z_stg P st R1).2.1 (z_stg P st R1).2.2 (nI P) (nI m) (nI st) (z_ko κ N) Q
    refine t193_0 (l := 8) (B := (z_stg P st R1).1) (M := (z_stg P st R1).2.1) (U := (z_stg P st R1).2.2) ?_
    unfold p193_0
    rw [if_neg (show ¬ nI st = 0 from ns 0 (by decide))]
    unfold p193_18
    rw [if_neg (show ¬ nI st = 1 from ns 1 (by decide))]
    unfold p193_64
    rw [if_neg (show ¬ nI st = 2 from ns 2 (by decide))]
    unfold p193_157
    rw [cP, cm, z_stg_o (k := 105) (by decide), r105, ci, X1.1 77 (by decide) (by decide), h77, cg, z_stg_o (k := 106) (by decide), z_stg_o (k := 108) (by decide), ec', r108, er']
    exact ⟨zP, zi, zg, zm, _, _, hrr, vv, rfl, hQ⟩
  have bb : ∀ k, 57 ≤ k → k ≤ 79 → B' k = R0.1 k := fun k q1 q2 => (hB k (by omega)).trans (X1.1 k (by omega) (by omega))
  have bo : ∀ k, 98 ≤ k → k ≤ 109 → k ≠ 103 → B' k = R1.1 k := fun k q1 q2 q3 => (hB k (by omega)).trans (z_stg_o q3)
  have xx : z_XU R1 (B', M', (z_stg P st R1).2.2) := z_XU_stg.tr (z_XU_fit hB hM)
  have f0 : (z_stg P st R1).2.2 41 11 = 0 := hj1.2.1.2.2.2.2.1
  have r82 : (z_stg P st R1).2.2 41 82 = nI (P + 1) := hj1.2.1.2.2.2.1
  have hRf := ((hj1.2.1.stg (st := st) (p := P)).fit hB hM)
  obtain ⟨pc, hpc⟩ : ∃ y : Int32, y = z_fn 0 (R0.1 78) i := ⟨_, rfl⟩
  rw [← hpc] at p1
  have b78 : z_fn 0 (B' 78) i = pc := by rw [bb 78 (by decide) (by decide), hpc]
  have b107 : z_fn 0 (B' 107) g = E1 := by rw [bo 107 (by decide) (by decide) (by decide), hE1]
  have b70 : z_fn 0 (B' 70) m = row := by rw [bb 70 (by decide) (by decide), h70]
  have b77 : z_fn 0 (B' 77) i = nI g := by rw [bb 77 (by decide) (by decide), h77]
  have b79 : z_fn 0 (B' 79) i = q' := by rw [bb 79 (by decide) (by decide), hq']
  have dead : ∀ (x1 : Int32) Q, (x1 = 6 ∨ x1 = 7) → (∀ R', z_Td x1 pc R'.2.2 → z_XU R1 R' → Q none R') → p193_243 8 B' M' (z_UF (z_stg P st R1).2.2 x1 pc) (nI m) (nI st) (z_ko κ N) (nI P) (nI i) (fun x R1 => x = none ∧ z_WR 10 183 19 [(0, .ref 148)] [] R1 Q) := by
    intro x1 Q hx1 hQ
    have td : z_Td x1 pc (z_UF (z_stg P st R1).2.2 x1 pc) := z_Td_F (by rcases hx1 with rfl | rfl <;> decide)
    unfold p193_243
    rw [ci, cP, b79]
    have u82 : z_UF (z_stg P st R1).2.2 x1 pc 41 82 = nI (P + 1) := by
      show z_v (z_v (z_stg P st R1).2.2 41 11 x1) 41 12 pc 41 82 = _
      rw [z_vn (by decide), z_vn (by decide)]
      exact r82
    refine ⟨zi, zP, d194 (l := 6) (x := x) (R := z_rro 105 P q' (B', M', z_UF (z_stg P st R1).2.2 x1 pc)) (q := q') m6 x6 (by omega) ?_ ?_ hq2 u82 td ?_⟩
    · rw [z_rro_o (by decide)]
      show z_fn 0 (B' 58) m = nI x
      rw [bb 58 (by decide) (by decide), h58]
    · rw [z_rro_k, z_fcs]
    · intro R' t1 t2
      exact ⟨rfl, rfl, r183d (l := 9) t1 (hQ R' t1 (((xx.tr (z_XU_F (R := (B', M', (z_stg P st R1).2.2)))).tr (z_XU_rro (by decide))).tr t2))⟩
  by_cases hf : z_ftt τ1.1.1 f r
  rotate_left
  · have hf' : ¬ z_ftt τ1.2.1 f' r' := fun q => hf (fx.mpr q)
    refine z_JG.dead (x := 6) (y := pc) hΦ hC1.2.2.1 hj1.2.1.2.1 (fun Q hQ => cly0 Q ?_) (fun Q hQ => rey0 Q ?_)
    · exact k93f (l := 60) (by decide) hC1 (by omega) ec lc lr1 hf (fun S' hy => ⟨rfl, rfl, hQ S' (by rw [← p1]; exact hy)⟩)
    · rcases hv with ⟨-, q⟩ | ⟨rfl, -⟩
      · exact absurd q hf'
      · unfold p193_189
        rw [ci, b78]
        refine ⟨zi, r190f (l := 7) (R := (B', M', (z_stg P st R1).2.2)) (G := fun R1 => p193_201 8 R1.1 R1.2.1 R1.2.2 (nI m) (nI st) (z_ko κ N) (nI P) (nI i) _) f0 ?_⟩
        show p193_201 8 B' M' (z_UF (z_stg P st R1).2.2 6 pc) (nI m) (nI st) (z_ko κ N) (nI P) (nI i) (fun x R1 => x = none ∧ z_WR 10 183 19 [(0, .ref 148)] [] R1 Q)
        have td : z_Td 6 pc (z_UF (z_stg P st R1).2.2 6 pc) := z_Td_F (by decide)
        have d2 := dead 6 Q (Or.inl rfl) hQ
        unfold p193_201
        rw [ci, b77]
        refine ⟨zi, zg, zm, ?_⟩
        split
        · unfold p193_226 p193_231
          exact ⟨zi, r190d (l := 7) (R := (B', M', z_UF (z_stg P st R1).2.2 6 pc)) (G := fun R1 => p193_243 8 R1.1 R1.2.1 R1.2.2 (nI m) (nI st) (z_ko κ N) (nI P) (nI i) _) td d2⟩
        · unfold p193_230 p193_231
          exact ⟨zi, r190d (l := 7) (R := (B', M', z_UF (z_stg P st R1).2.2 6 pc)) (G := fun R1 => p193_243 8 R1.1 R1.2.1 R1.2.2 (nI m) (nI st) (z_ko κ N) (nI P) (nI i) _) td d2⟩
  have hv1 : vv = 1 := by
    rcases hv with ⟨q, -⟩ | ⟨-, q⟩
    · exact q
    · exact absurd (fx.mp hf) q
  subst hv1
  have rf : ∀ Q, (if (E1 &&& (row ^^^ (-1))) = 0 then p193_226 8 B' M' (z_stg P st R1).2.2 (nI m) (nI st) (z_ko κ N) (nI P) (nI i) (fun x R1 => x = none ∧ z_WR 10 183 19 [(0, .ref 148)] [] R1 Q) else p193_230 8 B' M' (z_stg P st R1).2.2 (nI m) (nI st) (z_ko κ N) (nI P) (nI i) (fun x R1 => x = none ∧ z_WR 10 183 19 [(0, .ref 148)] [] R1 Q)) → z_WR 10 183 19 [(0, .ref 148)] [] R1 Q := by
    intro Q hQ
    refine rey0 Q ?_
    unfold p193_189
    refine ⟨zi, r190 (l := 7) (R := (B', M', (z_stg P st R1).2.2)) (G := fun R1 => p193_201 8 R1.1 R1.2.1 R1.2.2 (nI m) (nI st) (z_ko κ N) (nI P) (nI i) _) ?_⟩
    show p193_201 8 B' M' (z_stg P st R1).2.2 (nI m) (nI st) (z_ko κ N) (nI P) (nI i) (fun x R1 => x = none ∧ z_WR 10 183 19 [(0, .ref 148)] [] R1 Q)
    unfold p193_201
    rw [ci, b77, cg, cm, b107, b70]
    exact ⟨zi, zg, zm, hQ⟩
  have v16' : S1.2.2.2.1 27 16 = nI (ρ + 1) := hCx1.2.2.2.2.1.2.2
  by_cases hr : (E1 &&& (row ^^^ (-1))) = 0
  rotate_left
  · refine z_JG.dead (x := 7) (y := pc) hΦ hC1.2.2.1 hj1.2.1.2.1 (fun Q hQ => cly0 Q ?_) (fun Q hQ => rf Q ?_)
    · refine k93 (l := 60) (G := fun S2 => p104_21 61 S2.1 S2.2.1 S2.2.2.1 S2.2.2.2.1 S2.2.2.2.2.1 S2.2.2.2.2.2 _) (by decide) hC1 (by omega) ec lc lr1 hf ?_
      unfold p104_21
      rw [v16', cρ1, g36, v71]
      exact ⟨zρ1, hC1.2.1.rm.1, k102f (lv := 60) hC1.2.1 (by omega) (by rw [ef1, ← hE1]; exact hr) (fun S' hy => ⟨rfl, rfl, hQ S' (by rw [← p1]; exact hy)⟩)⟩
    · rw [if_neg hr]
      unfold p193_230 p193_231
      rw [ci, b78]
      exact ⟨zi, r190f (l := 7) (R := (B', M', (z_stg P st R1).2.2)) (G := fun R1 => p193_243 8 R1.1 R1.2.1 R1.2.2 (nI m) (nI st) (z_ko κ N) (nI P) (nI i) _) f0 (dead 7 Q (Or.inr rfl) hQ)⟩
  -- both go on
  obtain ⟨R3, hR3⟩ : ∃ Y : z_RS, Y = z_rro 105 P q' (B', M', (z_stg P st R1).2.2) := ⟨_, rfl⟩
  have hR3' : z_KR R0 τ1.2.1 τ1.2.2 cc1 (P + 1) R3 := by rw [hR3]; exact hRf.rro (by decide)
  have rey : ∀ Q, z_WR 8 194 0 [(0, .ref 148), (1, .int (nI m)), (2, .int (z_ko κ N)), (3, .int (nI P))] [] R3 (fun x R1 => x = none ∧ z_WR 10 183 19 [(0, .ref 148)] [] R1 Q) → z_WR 10 183 19 [(0, .ref 148)] [] R1 Q := by
    intro Q hQ
    refine rf Q ?_
    rw [if_pos hr]
    unfold p193_226 p193_231
    refine ⟨zi, r190 (l := 7) (R := (B', M', (z_stg P st R1).2.2)) (G := fun R1 => p193_243 8 R1.1 R1.2.1 R1.2.2 (nI m) (nI st) (z_ko κ N) (nI P) (nI i) _) ?_⟩
    show p193_243 8 B' M' (z_stg P st R1).2.2 (nI m) (nI st) (z_ko κ N) (nI P) (nI i) (fun x R1 => x = none ∧ z_WR 10 183 19 [(0, .ref 148)] [] R1 Q)
    unfold p193_243
    rw [ci, cP, b79]
    rw [hR3] at hQ
    exact ⟨zi, zP, z_WR.im hQ (fun x R1 q => ⟨q.1, rfl, q.2⟩)⟩
  have fle : ∀ y, y ∈ N :: (z_ctx S0.1 s).2 → y ≤ (z_ctx S0.1 s).1.length := by
    intro y hy
    rcases List.mem_cons.mp hy with q | q
    · rw [q, hN]
      exact Nat.le_refl _
    · exact hCs.2.2.2.2.2.2.1.2.2 y q
  have hCp := (hCx1.pop (H + 2)).fgt (fun y hy => Nat.le_trans (fle y hy) (Nat.le_succ _))
  have hCq := hCp.fgt fle
  obtain ⟨S3, hS3⟩ : ∃ Y : z_CS, Y = (S1.1, S1.2.1, S1.2.2.1, z_v (z_v S1.2.2.2.1 27 7 (nI (H + 2))) 27 10 (nI (z_ctx S0.1 s).1.length), S1.2.2.2.2.1, S1.2.2.2.2.2) := ⟨_, rfl⟩
  have hC3 : z_KC S0 (y + 1) τ1.1.1 τ1.1.2 (H + 2) (ρ + 1) mo1 S3 := by
    have e1 : z_v (z_v (z_v S1.2.2.2.1 27 7 (nI (H + 2))) 27 10 (nI (nm :: (z_ctx S0.1 s).1).length)) 27 10 (nI (z_ctx S0.1 s).1.length) = z_v (z_v S1.2.2.2.1 27 7 (nI (H + 2))) 27 10 (nI (z_ctx S0.1 s).1.length) := z_vv
    unfold z_KC
    rw [cxy1, hS3, ← e1]
    exact hCq.mv (Nat.le_succ y)
  have s3 : S3.1 = S1.1 := by rw [hS3]
  have cly : ∀ Q, z_WC 64 82 31 [(0, .ref 134), (1, .int (nI (y + 1)))] [] S3 Q → z_WC 64 82 31 [(0, .ref 134), (1, .int (nI y))] [] S1 Q := by
    intro Q hQ
    refine cly0 Q ?_
    refine k93 (l := 60) (G := fun S2 => p104_21 61 S2.1 S2.2.1 S2.2.2.1 S2.2.2.2.1 S2.2.2.2.2.1 S2.2.2.2.2.2 _) (by decide) hC1 (by omega) ec lc lr1 hf ?_
    unfold p104_21
    rw [v16', cρ1, g36, v71]
    refine ⟨zρ1, hC1.2.1.rm.1, k102 (lv := 60) (G := fun S2 => p104_40 61 S2.1 S2.2.1 S2.2.2.1 S2.2.2.2.1 S2.2.2.2.2.1 S2.2.2.2.2.2 _) (by omega) (by rw [ef1, ← hE1]; exact hr) ?_⟩
    have v10 : S1.2.2.2.1 27 10 - 2 = nI (z_ctx S0.1 s).1.length := by
      rw [hCx1.2.2.2.2.1.2.1]
      exact pk_sub (a := (z_ctx S0.1 s).1.length + 2) (b := 2) (by omega)
    unfold p104_40
    rw [v71, v10, ← hS3]
    exact ⟨rfl, rfl, hQ⟩
  refine z_JG.jc (z_JC.cl (next τ1 mo1 cc1 (st + 1) c' S3 R3 ?_) cly) rey
  have kq1 : z_Kq b n τ1 N κ cc1 S1 R1 := by
    have q := hj1.q (N := N + 2) (by rw [cxy, hN]; rfl)
    rw [hκ2] at q
    have q' : z_Kq b n τ1 (N + 1) κ1 cc1 S1 R1 := z_Kq.fgt q
    rw [hκ1] at q'
    exact q'.fgt
  have o3 : ∀ k, 98 ≤ k → k ≤ 109 → k ≠ 103 → k ≠ 105 → R3.1 k = R1.1 k := fun k q1 q2 q3 q4 => by
    rw [hR3, z_rro_o q4]
    exact bo k q1 q2 q3
  have fkc : z_Fk s (y + 1) H ρ N S Sc := by
    have q1 : z_Fk s (y + 1) H ρ N S Sr := by
      rw [hSr]
      exact z_Fk.r36 (Or.inr rfl) (Nat.lt_succ_self ρ)
    have q2 : z_Fk s (y + 1) H ρ N Sr Sb := by
      rw [hSb]
      exact (z_Fk.bnc (ρ := ρ + 1) (Nat.le_refl N)).wk (Nat.le_refl _) (Nat.le_succ ρ) (Nat.le_refl _) (Nat.le_refl _) (Nat.le_refl _)
    have q3 : z_Fk s (y + 1) H ρ N S2 Sc := by
      rw [hSc]
      exact (z_Fk.bnc (ρ := ρ + 1) (Nat.le_succ N)).wk (Nat.le_refl _) (Nat.le_succ ρ) (Nat.le_refl _) (Nat.le_refl _) (Nat.le_refl _)
    exact ((q1.tr q2).tr (z_Fk.eqA oA2)).tr q3
  have flc : z_Fl u cc0 P R R3 := by
    have f1 : z_Fl u cc0 P R Rh := by
      rw [hRh]
      exact z_Fl.rro (Or.inr ⟨by decide, by decide, um, mu⟩)
    have f2 : z_Fl u cc0 P Rh Rb := by
      rw [hRb]
      exact z_Fl.bnd ccl
    have f3 : z_Fl u cc0 P Rb R2 := ⟨fun k a b j c => by rw [oR2 k (by omega)], fun k a b j c => by rw [oR2 k (by omega)], fun k a b j c => by rw [oR2 k (by omega)]⟩
    have f4 : z_Fl u cc0 P R2 Ra := by
      rw [hRa, hRc]
      exact (z_Fl.bnd (by omega)).tr (z_Fl.pil (Nat.le_succ _))
    have f5 : z_Fl u cc0 P R1 R3 := by
      rw [hR3]
      exact ((z_Fl.stg (Nat.le_refl _)).tr (z_Fl_fit (R := z_stg P st R1) hB)).tr (z_Fl.rro (Or.inl ⟨rfl, Nat.le_refl _⟩))
    exact ((((f1.tr f2).tr f3).tr f4).tr (fl1.wk (by omega) (Nat.le_succ _) ⟨w1.1.1, w1.1.2⟩)).tr f5
  have moc1 : mo ≤ moa := by rw [hmoa]; exact Nat.le_max_left _ _
  have moc2 : moa ≤ mob := by rw [hmob]; exact Nat.le_max_left _ _
  have moc : mo ≤ mo1 := by omega
  refine ⟨?_, (te.tr te2).tr te1, ?_, fl.tr flc, ⟨by omega, by omega, by omega, by omega⟩, ⟨⟨?_, ?_, ?_⟩, ?_, by omega, by omega⟩, ⟨?_, ?_, ?_, ?_⟩, ⟨?_, ?_⟩, ⟨?_, ?_, ?_, ?_⟩, ?_, ?_, cxy1, ?_⟩
  · refine (kq1.cg (S' := S3) (R' := R3) (fun k a b j c => by rw [s3]) (fun k a b j c => by rw [o3 k (by omega) (by omega) (by omega) (by omega)]) (Nat.le_refl _)).j (by rw [cxy1]; exact hN) hC3 hR3' hj1.2.2.1
  · exact (((fk.wk (Nat.le_refl _) (Nat.le_refl _) (Nat.le_refl _) (Nat.le_refl _) (by omega)).tr fkc).tr (fk1.wk (by omega) (Nat.le_succ ρ) (by omega) (by omega) (by omega))).tr (z_Fk.eqA (fun k _ => by rw [s3]))
  · rw [o3 102 (by decide) (by decide) (by decide) (by decide)]
    exact hp1.1
  · rw [hR3, z_rro_o (by decide)]
    show z_fn 0 (B' 103) P = nI (st + 1)
    rw [hB 103 (by decide), z_stg_103, z_fcs]
  · rw [o3 104 (by decide) (by decide) (by decide) (by decide)]
    exact hp1.2.2
  · rw [hR3, z_rro_k, z_fcs]
  · rw [s3]
    exact g36
  · rw [s3]
    exact g37
  · rw [o3 109 (by decide) (by decide) (by decide) (by decide)]
    exact r109
  · rw [s3, g28 28 (by decide) (by decide) (H + 1) (by omega), o3 108 (by decide) (by decide) (by decide) (by decide), r108]
    exact tqa.x hC.1.1 hj.2.1.1.1 te02
  · rw [s3, g28 29 (by decide) (by decide) H (by omega), o3 107 (by decide) (by decide) (by decide) (by decide), r107]
    exact e29
  · rw [s3, g28 30 (by decide) (by decide) H (by omega)]
    exact e30
  · rw [s3]
    exact g33
  · rw [s3]
    exact g35
  · rw [s3, gr 14 (by decide) s (by omega)]
    exact a14
  · rw [s3, gr 15 (by decide) s (by omega)]
    exact a15
  · intro j j1 j2
    rw [s3]
    by_cases q1 : j < X
    · exact (ag j j1 q1).e (fun q hq => gr q hq j (by omega))
    · by_cases q2 : j = X
      · rw [q2]
        refine z_ag.sm (by rw [hoX]; decide) (fun q hq => ?_)
        rw [gr q hq X (Nat.le_refl _)]
        exact hC.2.2.2.1 q hq X (Nat.le_refl _)
      · by_cases q3 : j < y
        · exact ag1 j (by omega) q3
        · have ej : j = y := by omega
          rw [ej]
          exact z_ag.sm (by rw [hoy]; decide) (fun q hq => hC1.2.2.2.1 q hq y (Nat.le_refl _))
  · intro j j1 j2 jl
    by_cases q1 : j ≤ X
    · exact Nat.le_trans (rm j j1 q1 jl) moc
    · by_cases q2 : j ≤ y
      · exact rm1 j (by omega) q2 jl
      · have ej : j = y + 1 := by omega
        rw [ej]
        exact hC3.2.2.2.2.2.2.2.2.1
  · have b15 := hC.1.2.1.1
    have b15' := TC1.2.1.1
    have st1 : z_shx τ1 (z_fn 0 (S3.1 28) (H + 1)) = z_shx τ (z_fn 0 (S.1 28) (H + 1)) := by
      rw [s3, g28 28 (by decide) (by decide) (H + 1) (by omega)]
      exact z_shx_e hC.1.1 b15 te02 tqa
    have lm : τ0.1.2 ≤ 1500 := Nat.le_trans hj.2.2.1.1.1 b15
    have sq : z_shx τ' (nI q1) = z_fz (z_shx τ0 (z_fn 0 (S0.1 23) ef)) (z_shx τ (z_fn 0 (S.1 28) (H + 1))) := by
      have q15 : q1 < 1500 := by have := to1.2.1; have := to1.2.2.2.2.1; omega
      rw [z_shx_n q15, t1e.1, z_sh_s hC2.1.1 to1.2.2.2.1 to1.2.2.2.2.1, to1.2.2.2.2.2]
      show z_fz (z_sh T1 a) (z_sh T1 r) = _
      rw [z_sh_e hC.1.1 to1.2.2.1 la, z_sh_e hC.1.1 to1.2.2.1 lr, er, z_shx_n (by omega), ← z_shx_e h1.2.2.2.1 lm hj.2.2.1 q2t.d, ea, z_shx_n (by omega)]
    have sa : z_shx τ' tA1 = z_shx τ0 (z_fn 0 (S0.1 22) ef) := by
      rw [htA1]
      exact z_shx_e h1.2.2.2.1 lm (hj.2.2.1.tr te2) q1t.d
    have sg : z_gl τ' (Sc.1 32) N = z_gl τs (Ss.1 32) N := by
      have q := hjs.gl (S' := Sc) (i' := s) (te.tr te2) (fun j hj' => by
        rw [← hN] at hj'
        rw [hSc, z_bnc_32, z_fcn (by omega), oA2 32 (by decide), hSb, z_bnc_32, z_fcn (by omega), oSr 32 (by decide)]
        exact fk.2.1 32 (by decide) (by decide) j hj') rfl
      rw [← hN] at q
      exact q
    have g2 : z_gl τ' (Sc.1 32) (N + 2) = z_fz (z_shx τ0 (z_fn 0 (S0.1 23) ef)) (z_shx τ (z_fn 0 (S.1 28) (H + 1))) :: z_shx τ0 (z_fn 0 (S0.1 22) ef) :: z_gl τs (Ss.1 32) N := by
      rw [show N + 2 = N + 1 + 1 from rfl, z_gl_s, z_gl_s, sg]
      have e1 : z_fn 0 (Sc.1 32) (N + 1) = nI q1 := by rw [hSc, z_bnc_32, z_fcs]
      have e2 : z_fn 0 (Sc.1 32) N = tA1 := by rw [hSc, z_bnc_32, z_fcn (by omega), oA2 32 (by decide), hSb, z_bnc_32, z_fcs]
      rw [e1, e2, sq, sa]
    rw [hlc, g2] at tj1
    have sr : z_shx τ1 (z_fn 0 (S1.1 28) (H + 2)) = z_shx τ (z_fn 0 (S.1 28) (H + 1)) := by
      rw [ec, er, z_shx_n (by omega), z_shx_n (by omega), z_sh_ftt TC1.1 _ f r (Nat.le_refl _) lc lr1 hf]
      exact z_sh_e hC.1.1 te02.1.2 lr
    rw [sr] at tj1
    rw [st1]
    exact fun k hk' hcv => cv k hk' ⟨ef, ⟨rfl, hi, hXy, hyd⟩, h16l, hoX, hn1, hn2, h17X, ⟨ef8, h71, hbit, g, g6, h77, v, w1, hw, tj1 k (by omega)⟩, hoy, by rw [hq', ← hc']; exact hcv⟩
end ZAC
