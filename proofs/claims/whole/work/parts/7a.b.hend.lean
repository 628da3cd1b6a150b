/-! Checking, both together: handle, its end. -/
theorem z_dem (a r c : Int32) : (a &&& ((r ||| c) ^^^ (-1))) = ((a &&& (c ^^^ (-1))) &&& (r ^^^ (-1))) := by
  apply Int32.toBitVec_inj.mp
  apply BitVec.eq_of_getLsbD_eq
  intro i hi
  have h1 : (Int32.toBitVec (-1)) = BitVec.allOnes 32 := by decide
  simp only [Int32.toBitVec_and, Int32.toBitVec_or, Int32.toBitVec_xor, h1, BitVec.getLsbD_and, BitVec.getLsbD_or, BitVec.getLsbD_xor, BitVec.getLsbD_allOnes, hi, decide_true]
  cases a.toBitVec.getLsbD i <;> cases r.toBitVec.getLsbD i <;> cases c.toBitVec.getLsbD i <;> rfl
/-- what a handle is checked with -/
def z_Hs (b : Nat → Nat) (n me : Nat) (τ0 : z_TT) (ce : Nat) (S0 : z_CS) (R0 : z_RS) (w : Nat) (u : z_Bd) (m x s d : Nat) (p row : Int32) (τs : z_TT) (H ρ mo0 cc0 P N : Nat) (κ : Nat → Nat) (Ss : z_CS) (Rs : z_RS) : Prop :=
  z_K1 b n me τ0 ce S0 R0 ∧ (u.1.1 ≤ m ∧ m < u.1.2 ∧ u.1.2 ≤ 600 ∧ u.2.2 ≤ 300 ∧ x < 600) ∧ (d + 1 ≤ ce ∧ s < d) ∧ (z_fn 0 (S0.1 14) s = 21 ∧ z_fn 0 (S0.1 17) s = nI d ∧ z_fn 0 (S0.1 14) d = 26 ∧ z_fn 0 (S0.1 19) d = p) ∧ (z_fn 0 (R0.1 57) m = 4 ∧ z_fn 0 (R0.1 58) m = nI x ∧ z_fn 0 (R0.1 70) m = row) ∧ N = (z_ctx S0.1 s).1.length ∧ z_fl S0.1 (s + 1) d ∧ z_Kj b n τ0 S0 R0 s τs H ρ mo0 cc0 (P + 1) κ Ss Rs ∧ z_Bk S0 ce w u s τs H ρ cc0 P ∧ z_wle 4 w
/-- both, ahead of a clause or of the end -/
def z_Hl (b : Nat → Nat) (n : Nat) (τ0 : z_TT) (S0 : z_CS) (R0 : z_RS) (u : z_Bd) (m x s : Nat) (row : Int32) (τs : z_TT) (H ρ mo0 cc0 P N : Nat) (κ : Nat → Nat) (Ss : z_CS) (Rs : z_RS) (w d : Nat) (rr : List (Nat × Nat)) (l : Nat) (X : Nat) (q : Int32) (τ : z_TT) (mo cc st : Nat) (c : Int32) (S : z_CS) (R : z_RS) : Prop :=
  z_Kj b n τ0 S0 R0 X τ (H + 2) (ρ + 1) mo cc (P + 1) κ S R ∧ z_Te τs τ ∧ z_Fk s X H ρ N Ss S ∧ z_Fl u cc0 P Rs R ∧
  (cc0 ≤ cc ∧ cc ≤ cc0 + 2 * (X - s) ∧ τ.1.2 + z_cf (S0.1 14) s ≤ τs.1.2 + z_cf (S0.1 14) X ∧ τ.2.2 + z_cf (S0.1 14) s ≤ τs.2.2 + z_cf (S0.1 14) X) ∧
  (z_tpk P m st (z_ko κ N) R ∧ z_fn 0 (R.1 105) P = q ∧ 3 ≤ st ∧ st ≤ X + 3) ∧
  (z_fn 0 (S.1 36) (ρ + 1) = row ∧ z_fn 0 (S.1 37) (ρ + 1) = c ∧ z_fn 0 (R.1 109) m = c ∧ z_Tqd 51 τ (z_fn 0 (S.1 28) (H + 1)) (z_fn 0 (R.1 108) m)) ∧
  (z_fn 0 (S.1 29) H = z_fn 0 (R.1 107) x ∧ z_fn 0 (S.1 30) H = z_fn 0 (R0.1 61) m) ∧
  (z_fn 0 (S.1 33) (ρ + 1) = nI s ∧ z_fn 0 (S.1 35) ρ = nI mo0 ∧ z_fn 0 (S.1 14) s = 21 ∧ z_fn 0 (S.1 15) s = nI N) ∧
  (∀ j, s < j → j < X → z_ag S0.1 S.1 j) ∧ (∀ j, s < j → j ≤ X → (z_ctx S0.1 j).2.length = ρ + 2 → (z_ctx S0.1 j).1.length ≤ mo) ∧
  z_ctx S0.1 X = ((z_ctx S0.1 s).1, N :: (z_ctx S0.1 s).2) ∧
  ∀ f, d ≤ s + f → z_Cv b n 8 τ0 S0.1 R0.1 u m (fun c v x s e Γ t => z_wle c w ∧ z_Ct b n 8 τ0 S0.1 R0.1 f (w - c) v x s e Γ t) d (z_gl τs (Ss.1 32) N) (z_shx τ (z_fn 0 (S.1 28) (H + 1))) rr c q l X → z_Cu b n 8 τ0 S0.1 R0.1 u (fun c v x s e Γ t => z_wle c w ∧ z_Ct b n 8 τ0 S0.1 R0.1 f (w - c) v x s e Γ t) m s (d + 1) (z_gl τs (Ss.1 32) N) (z_shx τ (z_fn 0 (S.1 28) (H + 1)))
/-- the class at instruction X, the reference at its next clause -/
def z_JC (Φ : z_V → z_CS → z_RS → Prop) (m P : Nat) (kx : Int32) (X : Nat) (S : z_CS) (R : z_RS) : Prop := z_WC 64 82 31 [(0, .ref 134), (1, .int (nI X))] [] S (fun o S' => z_WR 8 194 0 [(0, .ref 148), (1, .int (nI m)), (2, .int kx), (3, .int (nI P))] [] R (fun x R1 => x = none ∧ z_WR 10 183 19 [(0, .ref 148)] [] R1 (fun v R' => v = none ∧ Φ o S' R')))
section ZAB
variable {b : Nat → Nat} {n me : Nat} {τ0 : z_TT} {ce : Nat} {S0 : z_CS} {R0 : z_RS} {w : Nat} {u : z_Bd} {m x s d : Nat} {p row : Int32} {τs : z_TT} {H ρ mo0 cc0 P N : Nat} {κ : Nat → Nat} {Ss : z_CS} {Rs : z_RS} {X : Nat} {τ : z_TT} {mo cc st : Nat} {c : Int32} {S : z_CS} {R : z_RS} {Φ : z_V → z_CS → z_RS → Prop}
theorem z_JC.cl {kx : Int32} {X' : Nat} {S' : z_CS} (h : z_JC Φ m P kx X' S' R) (k : ∀ Q, z_WC 64 82 31 [(0, .ref 134), (1, .int (nI X'))] [] S' Q → z_WC 64 82 31 [(0, .ref 134), (1, .int (nI X))] [] S Q) : z_JC Φ m P kx X S R := k _ h
/-- from where the reference comes to its next clause -/
theorem z_JG.jc {kx : Int32} {R1 : z_RS} (h : z_JC Φ m P kx X S R1) (k : ∀ Q, z_WR 8 194 0 [(0, .ref 148), (1, .int (nI m)), (2, .int kx), (3, .int (nI P))] [] R1 (fun x R1 => x = none ∧ z_WR 10 183 19 [(0, .ref 148)] [] R1 Q) → z_WR 10 183 19 [(0, .ref 148)] [] R Q) : z_JG Φ X S R := z_WC.im h (fun o S1 q => k _ q)
theorem z_JC.jg {kx : Int32} {R1 : z_RS} (h : z_JG Φ X S R1) (k : ∀ Q, z_WR 10 183 19 [(0, .ref 148)] [] R1 Q → z_WR 8 194 0 [(0, .ref 148), (1, .int (nI m)), (2, .int kx), (3, .int (nI P))] [] R (fun x R1 => x = none ∧ z_WR 10 183 19 [(0, .ref 148)] [] R1 Q)) : z_JC Φ m P kx X S R := z_WC.im h (fun o S1 q => k _ q)
theorem z_JC.dead {kx : Int32} {x y : Int32} (hΦ : z_Fd S0 R0 Φ) (hS : z_XK S0 S) (hR' : z_XU R0 R) (c : ∀ Q, (∀ S', z_Yd x y S S' → Q (.inr 10) S') → z_WC 64 82 31 [(0, .ref 134), (1, .int (nI X))] [] S Q) (r : ∀ Q, (∀ R', z_Td x y R'.2.2 → z_XU R R' → Q none R') → z_WR 8 194 0 [(0, .ref 148), (1, .int (nI m)), (2, .int kx), (3, .int (nI P))] [] R Q) : z_JC Φ m P kx X S R :=
  c _ (fun S' hy => r _ (fun R' ht hx => ⟨rfl, r183d (l := 9) ht ⟨rfl, hΦ x y S' R' (hy.of hS) ht (hR'.tr hx)⟩⟩))
/-- the reference at its next clause, once a fault is told -/
theorem d194 {l : Nat} {q a y kx : Int32} {Q : Option Value → z_RS → Prop} (m6 : m < 600) (x6 : x < 600) (hP : P < 700) (h58 : z_fn 0 (R.1 58) m = nI x) (hq : z_fn 0 (R.1 105) P = q) (hq2 : q = -1 ∨ ∃ i, i < 300 ∧ q = nI i) (h82 : R.2.2 41 82 = nI (P + 1)) (td : z_Td a y R.2.2) (k : ∀ R', z_Td a y R'.2.2 → z_XU R R' → Q none R') : z_WR (l + 2) 194 0 [(0, .ref 148), (1, .int (nI m)), (2, .int kx), (3, .int (nI P))] [] R Q := by
  have cm : (nI m).toNatClampNeg = m := nI_clamp (by omega)
  have cP : (nI P).toNatClampNeg = P := nI_clamp (by omega)
  have zm : z_in (nI m) 600 = true := z_inI m6 (by decide)
  have zx : z_in (nI x) 600 = true := z_inI x6 (by decide)
  have zP : z_in (nI P) 700 = true := z_inI hP (by decide)
  refine t194_0 (l := l + 1) (B := R.1) (M := R.2.1) (U := R.2.2) ?_
  unfold p194_0
  rw [cP, hq]
  refine ⟨zP, ?_⟩
  rcases hq2 with rfl | ⟨i, hi, rfl⟩
  · rw [if_neg (by decide)]
    unfold p194_13
    rw [cm, h58]
    have k2 : ∀ v, p194_51 (l + 1) R.1 R.2.1 R.2.2 (nI m) kx (nI P) (-1) v Q := by
      intro v
      unfold p194_51
      refine ⟨zm, r190d (l := l) (R := R) (G := fun R1 => p194_62 (l + 1) R1.1 R1.2.1 R1.2.2 (nI m) kx (nI P) (-1) Q) td ?_⟩
      unfold p194_62
      refine ⟨zm, zm, r187 (l := l) (R := R) (P := P) (G := fun R1 => p194_79 (l + 1) R1.1 R1.2.1 R1.2.2 (nI m) kx (nI P) (-1) Q) h82 m6 ?_⟩
      exact k _ ⟨td.1, td.2.1, td.2.2⟩ z_XU_typ
    refine ⟨zm, zx, zm, zm, ?_⟩
    split
    · exact k2 1
    · exact k2 0
  · have ci : (nI i).toNatClampNeg = i := nI_clamp (by omega)
    have zi : z_in (nI i) 300 = true := z_inI hi (by decide)
    rw [if_pos (show (0 : Int32) ≤ nI i from nI_le (a := 0) (Nat.zero_le _) (by omega))]
    unfold p194_80
    have k2 : ∀ v e, p194_109 (l + 1) R.1 R.2.1 R.2.2 (nI m) kx (nI P) (nI i) e v Q := by
      intro v e
      unfold p194_109
      refine ⟨zi, r190d (l := l) (R := R) (G := fun R1 => p194_121 (l + 1) R1.1 R1.2.1 R1.2.2 (nI m) kx (nI P) (nI i) e Q) td ?_⟩
      unfold p194_121
      rw [if_neg td.1]
      refine ⟨zm, zm, k _ td ⟨fun k q1 q2 => z_un (by omega), fun _ _ => rfl, fun _ _ _ => rfl⟩⟩
    refine ⟨zi, zm, ?_⟩
    split
    · exact k2 1 _
    · exact k2 0 _
/-- the end of a handle -/
theorem n_hend {l : Nat} (hs : z_Hs b n me τ0 ce S0 R0 w u m x s d p row τs H ρ mo0 cc0 P N κ Ss Rs) (hl : z_Hl b n τ0 S0 R0 u m x s row τs H ρ mo0 cc0 P N κ Ss Rs w d [] l d (-1) τ mo cc st c S R) (h16l : z_fn 0 (S0.1 16) l = 0) (hΦ : z_Fd S0 R0 Φ)
    (fin : ∀ τ' mo' cc' S' R', z_Ke b n τ0 S0 R0 w u m s (d + 1) p τs H ρ mo0 cc0 P κ Ss Rs τ' mo' cc' S' R' → z_JG Φ (d + 1) S' R') : z_JC Φ m P (z_ko κ N) d S R := by
  obtain ⟨h1, ⟨um, mu, hu6, hu3, x6⟩, ⟨hdc, hsd⟩, ⟨ho, h17, hoe, h19⟩, ⟨hk, h58, h70⟩, hN, hfl, hjs, hb, hw⟩ := hs
  have hwm := hw.mod
  have hwc := hw.1
  obtain ⟨hj, te, fk, fl, ⟨ccl, ccb, tb, tb'⟩, ⟨htp, h105, st3, stb⟩, ⟨a36, a37, b109, tqa⟩, ⟨e29, e30⟩, ⟨a33, a35, a14, a15⟩, ag, rm, cxX, cv⟩ := hl
  have h0 := h1.1
  have ce5 := h0.2.1
  have m6 : m < 600 := by omega
  have cm : (nI m).toNatClampNeg = m := nI_clamp (by omega)
  have cx' : (nI x).toNatClampNeg = x := nI_clamp (by omega)
  have cd : (nI d).toNatClampNeg = d := nI_clamp (by omega)
  have zm : z_in (nI m) 600 = true := z_inI m6 (by decide)
  have zx : z_in (nI x) 600 = true := z_inI x6 (by decide)
  have hP : P < 700 := by have := hb.2.1; omega
  have cP : (nI P).toNatClampNeg = P := nI_clamp (by omega)
  have zP : z_in (nI P) 700 = true := z_inI hP (by decide)
  have ρ64 : ρ + 1 < 64 := by have := hb.1.2.2; omega
  have H256 : H + 2 < 256 := by have := hb.1.1; omega
  have hd : d < ce := by omega
  have hC := hj.1
  have hCs := hjs.1
  have cρ1 : (nI (ρ + 1)).toNatClampNeg = ρ + 1 := nI_clamp (by omega)
  have zρ1 : z_in (nI (ρ + 1)) 64 = true := z_inI ρ64 (by decide)
  have cH1 : (nI (H + 1)).toNatClampNeg = H + 1 := nI_clamp (by omega)
  have zH1 : z_in (nI (H + 1)) 256 = true := z_inI (by omega) (by decide)
  have v16 : S.2.2.2.1 27 16 = nI (ρ + 1) := hC.2.2.2.2.1.2.2
  have v71 : S.2.2.2.1 27 7 - 1 = nI (H + 1) := by rw [hC.2.2.2.2.1.1]; exact nI_pred (H + 1)
  have v72 : S.2.2.2.1 27 7 - 2 = nI H := by
    rw [hC.2.2.2.2.1.1]
    exact pk_sub (a := H + 2) (b := 2) (by omega)
  have eo : z_fn 0 (S.1 14) d = 26 := (hC.2.2.2.1 14 (by decide) d (Nat.le_refl _)).trans hoe
  have cl : ∀ Q, p105_0 61 S.1 S.2.1 S.2.2.1 S.2.2.2.1 S.2.2.2.2.1 S.2.2.2.2.2 (nI d) (z_cx (z_cx Q (fun x S1 => x = none ∧ z_WC 64 82 31 [(0, .ref 134), (1, .int (nI (d + 1)))] [] S1 Q)) (fun x S1 => x = none ∧ p97_328 62 S1.1 S1.2.1 S1.2.2.1 S1.2.2.2.1 S1.2.2.2.2.1 S1.2.2.2.2.2 (nI d) (z_cx Q (fun x S1 => x = none ∧ z_WC 64 82 31 [(0, .ref 134), (1, .int (nI (d + 1)))] [] S1 Q)))) → z_WC 64 82 31 [(0, .ref 134), (1, .int (nI d))] [] S Q := by
    intro Q hQ
    refine k97 (o := 26) hC h0 hd hoe (by decide) (by decide) ?_
    refine t97_0 (A := S.1) (E := S.2.1) (N := S.2.2.1) (V := S.2.2.2.1) (W := S.2.2.2.2.1) (c := S.2.2.2.2.2) ?_
    unfold p97_0
    rw [cd, eo]
    refine ⟨hC.in h0 hd (by decide) (by decide), ?_⟩
    rw [if_neg (by decide), if_neg (by decide), if_neg (by decide), if_neg (by decide), if_neg (by decide), if_neg (by decide), if_neg (by decide), if_neg (by decide), if_neg (by decide), if_pos rfl]
    exact ⟨hC.2.1.rm.1, t105_0 (l := 61) hQ⟩
  have X0 := hj.2.1.2.1
  obtain ⟨E, hE⟩ : ∃ E : Int32, E = z_fn 0 (R.1 107) x := ⟨_, rfl⟩
  have re : ∀ Q, (if ((E &&& (c ^^^ (-1))) &&& (row ^^^ (-1))) = 0 then p194_46 7 R.1 R.2.1 R.2.2 (nI m) (z_ko κ N) (nI P) (-1) Q else p194_50 7 R.1 R.2.1 R.2.2 (nI m) (z_ko κ N) (nI P) (-1) Q) → z_WR 8 194 0 [(0, .ref 148), (1, .int (nI m)), (2, .int (z_ko κ N)), (3, .int (nI P))] [] R Q := by
    intro Q hQ
    refine t194_0 (l := 7) (B := R.1) (M := R.2.1) (U := R.2.2) ?_
    unfold p194_0
    rw [cP, h105]
    refine ⟨zP, ?_⟩
    rw [if_neg (by decide)]
    unfold p194_13
    rw [cm, X0.1 58 (by decide) (by decide), h58, cx', X0.1 70 (by decide) (by decide), h70, b109, ← hE]
    exact ⟨zm, zx, zm, zm, hQ⟩
  have em := z_dem E row c
  by_cases hr : ((E &&& (c ^^^ (-1))) &&& (row ^^^ (-1))) = 0
  rotate_left
  · refine z_JC.dead (x := 7) (y := z_fn 0 (R0.1 61) m) hΦ hC.2.2.1 X0 (fun Q hQ => cl Q ?_) (fun Q hQ => re Q ?_)
    · unfold p105_0
      rw [v16, cρ1, v72, a36, a37]
      exact ⟨zρ1, zρ1, hC.2.1.rm.1, k102f (lv := 60) hC.2.1 (by omega) (by rw [e29, ← hE, em]; exact hr) (fun S' hy => ⟨rfl, rfl, hQ S' (by rw [← e30]; exact hy)⟩)⟩
    · rw [if_neg hr]
      unfold p194_50 p194_51
      rw [cm, X0.1 61 (by decide) (by decide)]
      refine ⟨zm, r190f (l := 6) (R := R) (G := fun R1 => p194_62 7 R1.1 R1.2.1 R1.2.2 (nI m) (z_ko κ N) (nI P) (-1) Q) hj.2.1.2.2.2.2.1 ?_⟩
      have td : z_Td 7 (z_fn 0 (R0.1 61) m) (z_UF R.2.2 7 (z_fn 0 (R0.1 61) m)) := z_Td_F (by decide)
      have u82 : z_UF R.2.2 7 (z_fn 0 (R0.1 61) m) 41 82 = nI (P + 1) := by
        show z_v (z_v R.2.2 41 11 7) 41 12 (z_fn 0 (R0.1 61) m) 41 82 = _
        rw [z_vn (by decide), z_vn (by decide)]
        exact hj.2.1.2.2.2.1
      unfold p194_62
      refine ⟨zm, zm, r187 (l := 6) (R := (R.1, R.2.1, z_UF R.2.2 7 (z_fn 0 (R0.1 61) m))) (P := P) (G := fun R1 => p194_79 7 R1.1 R1.2.1 R1.2.2 (nI m) (z_ko κ N) (nI P) (-1) Q) u82 m6 ?_⟩
      exact hQ _ ⟨td.1, td.2.1, td.2.2⟩ (z_XU_F.tr z_XU_typ)
  -- the reference
  obtain ⟨tz', htz'⟩ : ∃ tz' : Int32, tz' = z_fn 0 (R.1 108) m := ⟨_, rfl⟩
  obtain ⟨tz, htz⟩ : ∃ tz : Int32, tz = z_fn 0 (S.1 28) (H + 1) := ⟨_, rfl⟩
  have re2 : ∀ Q, z_WR 10 183 19 [(0, .ref 148)] [] (z_typ P m tz' row R) Q → z_WR 8 194 0 [(0, .ref 148), (1, .int (nI m)), (2, .int (z_ko κ N)), (3, .int (nI P))] [] R (fun x R1 => x = none ∧ z_WR 10 183 19 [(0, .ref 148)] [] R1 Q) := by
    intro Q hQ
    refine re _ ?_
    rw [if_pos hr]
    unfold p194_46 p194_51
    refine ⟨zm, r190 (l := 6) (R := R) (G := fun R1 => p194_62 7 R1.1 R1.2.1 R1.2.2 (nI m) (z_ko κ N) (nI P) (-1) _) ?_⟩
    unfold p194_62
    rw [cm, X0.1 70 (by decide) (by decide), h70, ← htz']
    exact ⟨zm, zm, r187 (l := 6) (R := R) (P := P) (G := fun R1 => p194_79 7 R1.1 R1.2.1 R1.2.2 (nI m) (z_ko κ N) (nI P) (-1) _) hj.2.1.2.2.2.1 m6 ⟨rfl, hQ⟩⟩
  refine z_JC.jg ?_ re2
  -- the class
  refine cl _ ?_
  unfold p105_0
  rw [v16, cρ1, v72, a36, a37]
  refine ⟨zρ1, zρ1, hC.2.1.rm.1, k102 (lv := 60) (G := fun S1 => p105_29 61 S1.1 S1.2.1 S1.2.2.1 S1.2.2.2.1 S1.2.2.2.2.1 S1.2.2.2.2.2 (nI d) _) (by omega) (by rw [e29, ← hE, em]; exact hr) ?_⟩
  unfold p105_29
  rw [v16, cρ1, v72, v71, cH1, a36, ← htz]
  have hCp := hC.pop H
  obtain ⟨Sp, hSp⟩ : ∃ X : z_CS, X = (S.1, S.2.1, S.2.2.1, z_v S.2.2.2.1 27 7 (nI H), S.2.2.2.2.1, S.2.2.2.2.2) := ⟨_, rfl⟩
  rw [← hSp] at hCp ⊢
  have sp : Sp.1 = S.1 := by rw [hSp]
  refine ⟨zH1, zρ1, hC.2.1.rm.1, k84 (l := 60) (G := fun S1 => p105_66 61 S1.1 S1.2.1 S1.2.2.1 S1.2.2.2.1 S1.2.2.2.2.1 S1.2.2.2.2.2 (nI d) tz _) hCp h0 hd (by omega) ?_⟩
  rw [h19]
  have hCh := hCp.hold tz row p
  obtain ⟨Sh, hSh⟩ : ∃ X : z_CS, X = z_hold H tz row p Sp := ⟨_, rfl⟩
  rw [← hSh] at hCh ⊢
  have hChx : z_KCx S0 d ((z_ctx S0.1 s).1, N :: (z_ctx S0.1 s).2) τ.1.1 τ.1.2 (H + 1) (ρ + 1) mo Sh := by
    rw [← cxX]
    exact hCh
  have oSh : ∀ k, ¬ (28 ≤ k ∧ k ≤ 30) → Sh.1 k = S.1 k := fun k q => by rw [hSh, z_hold_o q, sp]
  have moN : N ≤ mo := by
    have q := rm d hsd (Nat.le_refl _) (by
      rw [cxX]
      show (N :: (z_ctx S0.1 s).2).length = ρ + 2
      rw [List.length_cons, hCs.2.2.2.2.2.2.1.1])
    rw [cxX] at q
    rw [hN]
    exact q
  show p105_66 61 Sh.1 Sh.2.1 Sh.2.2.1 Sh.2.2.2.1 Sh.2.2.2.2.1 Sh.2.2.2.2.2 (nI d) tz _
  refine ⟨hCh.2.1.rm.1, k100 (lv := 60) (o := s) (G := fun S3 => p105_70 61 S3.1 S3.2.1 S3.2.2.1 S3.2.2.2.1 S3.2.2.2.2.1 S3.2.2.2.2.2 (nI d) tz _) hChx h0 (by rw [oSh 33 (by decide)]; exact a33) (by omega) ρ64 moN ?_⟩
  obtain ⟨S3, hS3⟩ : ∃ X : z_CS, X = z_cloz s (mo - N) ρ Sh := ⟨_, rfl⟩
  rw [← hS3]
  refine ⟨rfl, rfl, ?_⟩
  show z_WC 64 82 31 [(0, .ref 134), (1, .int (nI (d + 1)))] [] S3 _
  have cxe : z_ctx S0.1 (d + 1) = z_ctx S0.1 s := by
    rw [z_ctx_s hoe, cxX]
    rfl
  have hC3 : z_KC S0 (d + 1) τ.1.1 τ.1.2 (H + 1) ρ mo0 S3 := by
    unfold z_KC
    rw [cxe, hS3]
    exact (hChx.cls (by rw [oSh 35 (by decide)]; exact a35) ⟨hCs.2.2.2.2.2.2.2.2.1, hCs.2.2.2.2.2.2.2.2.2⟩ hCs.2.2.2.2.2.2.1.2.2 hsd).mv (Nat.le_succ d)
  have hR3 := hj.2.1.typ (m := m) (ty := tz') (ef := row)
  have o3 : ∀ k, ¬ (28 ≤ k ∧ k ≤ 30) → k ≠ 18 → S3.1 k = S.1 k := fun k q1 q2 => by rw [hS3, z_cloz_o q2, oSh k q1]
  have kq : z_Kq b n τ N κ cc S R := hj.q (N := N) (by rw [cxX]; exact hN)
  have cfd := z_cf_le (a := S0.1 14) (show d ≤ d + 1 from Nat.le_succ d)
  have fk3 : z_Fk s (d + 1) H ρ N S S3 := by
    have q1 : z_Fk s (d + 1) H ρ N S Sh := by
      rw [hSh]
      exact (z_Fk.eqA (fun k _ => by rw [sp])).tr (z_Fk.hold (Nat.le_refl _))
    have q2 : z_Fk s (d + 1) H ρ N Sh S3 := by
      rw [hS3]
      exact z_Fk.cls ⟨Nat.le_refl _, by omega⟩
    exact q1.tr q2
  have sH : ∀ k, 28 ≤ k → k ≤ 30 → S3.1 k = Sh.1 k := fun k q1 q2 => by rw [hS3, z_cloz_o (by omega)]
  refine fin τ mo0 cc S3 (z_typ P m tz' row R) ⟨?_, te, by rw [← hN]; exact (fk.wk (Nat.le_refl _) (Nat.le_refl _) (Nat.le_refl _) (Nat.le_refl _) (Nat.le_succ _)).tr fk3, fl.tr (z_Fl.typ ⟨um, mu⟩), ⟨Nat.le_refl _, ccl, by omega, by omega, by omega⟩, ⟨?_, ?_, ?_⟩, ?_, ?_, cxe, by rw [sH 28 (by decide) (by decide), hSh, z_hold_28, z_fcs, htz, ← hN]; exact z_Cw.mk (by omega) ⟨um, mu⟩ (fun f hf => cv f (by omega) ⟨rfl, h16l, rfl⟩)⟩
  · refine (kq.cg (S' := S3) (R' := z_typ P m tz' row R) (fun k a b j c => ?_) (fun k a b j c => ?_) (Nat.le_refl _)).j (by rw [cxe]; exact hN) hC3 hR3 hj.2.2.1
    · rw [o3 k (by omega) (by omega)]
    · rw [z_typ_o (by omega)]
  · rw [sH 30 (by decide) (by decide), hSh, z_hold_30, z_fcs]
  · rw [sH 28 (by decide) (by decide), hSh, z_hold_28, z_fcs, z_typ_106, z_fcs, htz, htz']
    exact tqa
  · rw [sH 29 (by decide) (by decide), hSh, z_hold_29, z_fcs, z_typ_107, z_fcs]
  · intro j j1 j2
    by_cases q0 : j = s
    · rw [q0]
      refine ⟨fun _ => by rw [o3 14 (by decide) (by decide), a14, ho], fun q => ?_, fun q => ?_, fun _ => ⟨by rw [o3 15 (by decide) (by decide), a15, hN], d, mo - N, h17, ?_, ?_, ?_⟩, fun q => absurd (Or.inr (Or.inr (Or.inr (Or.inr ho)))) q, fun q => absurd (Or.inr (Or.inr ho)) q⟩
      · rw [ho] at q
        exact absurd q (by decide)
      · rw [ho] at q
        exact absurd q (by decide)
      · rw [hS3, z_cloz_18, z_fcs]
      · have := hC.2.2.2.2.2.2.2.2.2
        omega
      · intro j3 j4 j5 j6
        have q := rm j3 j4 j5 (by rw [j6, hCs.2.2.2.2.2.2.1.1])
        omega
    · by_cases q2 : j < d
      · refine (ag j (by omega) q2).e (fun q hq => ?_)
        by_cases q8 : q = 18
        · rw [q8, hS3, z_cloz_18, z_fcn q0, oSh 18 (by decide)]
        · rw [o3 q (by omega) q8]
      · have ej : j = d := by omega
        rw [ej]
        refine z_ag.sm (by rw [hoe]; decide) (fun q hq => ?_)
        have h4 := hC.2.2.2.1 q hq d (Nat.le_refl _)
        by_cases q8 : q = 18
        · rw [q8, hS3, z_cloz_18, z_fcn (by omega), oSh 18 (by decide), ← q8]
          exact h4
        · rw [o3 q (by omega) q8]
          exact h4
  · intro j j1 j2 jl
    have base : (z_ctx S0.1 s).1.length ≤ mo0 := hCs.2.2.2.2.2.2.2.2.1
    by_cases q0 : j = s
    · rw [q0]
      exact base
    · by_cases q2 : j ≤ d
      · have q := (hfl.2.1 j (by omega) q2).1
        have q3 : z_ctx S0.1 (s + 1) = z_ctx S0.1 d := hfl.2.2.symm
        rw [q3, cxX, jl] at q
        have q' : (N :: (z_ctx S0.1 s).2).length ≤ ρ + 1 := q
        rw [List.length_cons, hCs.2.2.2.2.2.2.1.1] at q'
        omega
      · have ej : j = d + 1 := by omega
        rw [ej, cxe]
        exact base
end ZAB
