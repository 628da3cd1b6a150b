/-! Checking, both together: if. -/
section ZTA
variable {b : Nat → Nat} {n me : Nat} {τ0 : z_TT} {ce : Nat} {S0 : z_CS} {R0 : z_RS} {w : Nat} {u v1 v2 v3 : z_Bd} {m s e g h x y z : Nat} {p : Int32}
/-- two types are one in both tables alike -/
theorem z_Tqd.same {D : Nat} {τ : z_TT} {a b a' b' : Int32} (h1 : z_Tw τ.1.1 τ.1.2) (h2 : z_Tw τ.2.1 τ.2.2) (b1 : τ.1.2 ≤ 1500) (b2 : τ.2.2 ≤ 1500) (h : z_Tqd D τ a a') (h' : z_Tqd D τ b b') : a = b ↔ a' = b' := by
  obtain ⟨i, i', rfl, rfl, l1, l2, e, -⟩ := h
  obtain ⟨j, j', rfl, rfl, m1, m2, e', -⟩ := h'
  rw [nI_eq (by omega) (by omega), nI_eq (by omega) (by omega)]
  constructor
  · intro q
    subst q
    exact z_dt_inj h2 i' l2 j' m2 (e.symm.trans e')
  · intro q
    subst q
    exact z_dt_inj h1 i l1 j m1 (e.trans e'.symm)
theorem n_if (h1 : z_K1 b n me τ0 ce S0 R0) (hm : u.1.1 ≤ m ∧ m < u.1.2) (hu6 : u.1.2 ≤ 600) (he : e ≤ ce) (hsg : s < g) (hgh : g + 1 < h) (hhe : h + 1 < e - 1) (hk : z_fn 0 (R0.1 57) m = 2) (w1 : z_S1 u m v1) (w2 : z_S1 u m v2) (w3 : z_S1 u m v3) (w12 : v1.1.2 ≤ v2.1.1) (w23 : v2.1.2 ≤ v3.1.1) (w13 : v1.1.2 ≤ v3.1.1) (hxv : v1.1.1 ≤ x ∧ x < v1.1.2) (hyv : v2.1.1 ≤ y ∧ y < v2.1.2) (hzv : v3.1.1 ≤ z ∧ z < v3.1.2) (h58 : z_fn 0 (R0.1 58) m = nI x) (h59 : z_fn 0 (R0.1 59) m = nI y) (h60 : z_fn 0 (R0.1 60) m = nI z) (hog : z_fn 0 (S0.1 14) g = 6) (hg15 : z_fn 0 (S0.1 15) g = nI (h + 1)) (hh15 : z_fn 0 (S0.1 15) h = nI (e - 1)) (hoh : z_fn 0 (S0.1 14) h = 7) (ho : z_fn 0 (S0.1 14) (e - 1) = 8) (h19 : z_fn 0 (S0.1 19) (e - 1) = p) (hw : z_wle 4 w)
    (ihx : z_Kn b n τ0 ce S0 R0 (w - 0) v1 x s g (z_fn 0 (R0.1 61) m)) (ihy : z_Kn b n τ0 ce S0 R0 (w - 4) v2 y (g + 1) h (z_fn 0 (R0.1 62) m)) (ihz : z_Kn b n τ0 ce S0 R0 (w - 4) v3 z (h + 1) (e - 1) (z_fn 0 (R0.1 63) m)) : z_Kn b n τ0 ce S0 R0 w u m s e p := by
  have hwm := hw.mod
  have hwc := hw.1
  intro Φ hΦ τ H ρ mo cc P κ S R hj hp hb fin
  obtain ⟨d, rfl⟩ : ∃ d, e = d + 1 := ⟨e - 1, by omega⟩
  simp only [Nat.add_sub_cancel] at hhe ho h19 ihz
  obtain ⟨N, hN⟩ : ∃ N, N = (z_ctx S0.1 s).1.length := ⟨_, rfl⟩
  have h0 := h1.1
  have m6 : m < 600 := by omega
  have x6 : x < 600 := by have := w1.1.2; omega
  have y6 : y < 600 := by have := w2.1.2; omega
  have z6 : z < 600 := by have := w3.1.2; omega
  have cm : (nI m).toNatClampNeg = m := nI_clamp (by omega)
  have cx' : (nI x).toNatClampNeg = x := nI_clamp (by omega)
  have cy' : (nI y).toNatClampNeg = y := nI_clamp (by omega)
  have cz' : (nI z).toNatClampNeg = z := nI_clamp (by omega)
  have zm : z_in (nI m) 600 = true := z_inI m6 (by decide)
  have zx : z_in (nI x) 600 = true := z_inI x6 (by decide)
  have zy : z_in (nI y) 600 = true := z_inI y6 (by decide)
  have zz : z_in (nI z) 600 = true := z_inI z6 (by decide)
  have hP : P + 1 < 700 := by
    have := hb.2.1
    have := w1.1.1
    have := w1.1.2
    have := w1.2.2
    omega
  have re1 : ∀ Q, z_WR 10 183 19 [(0, .ref 148)] [] (z_pil (P + 1) x (z_ko κ N) (z_stg P 0 R)) Q → z_WR 10 183 19 [(0, .ref 148)] [] R Q := by
    intro Q hQ
    rw [← hN] at hp
    refine r183 hj.2.1 (by omega) hp m6 hk ?_
    show p183_178 9 (z_stg P 0 R).1 (z_stg P 0 R).2.1 (z_stg P 0 R).2.2 (nI P) (nI m) (nI 0) (z_ko κ N) Q
    have e58 : (z_stg P 0 R).1 58 = R0.1 58 := (hj.2.1.2.1.tr z_XU_stg).1 58 (by decide) (by decide)
    refine t191_0 (l := 8) (B := (z_stg P 0 R).1) (M := (z_stg P 0 R).2.1) (U := (z_stg P 0 R).2.2) ?_
    unfold p191_0
    rw [if_pos (show nI 0 = (0 : Int32) from rfl)]
    unfold p191_4
    rw [cm, e58, h58]
    exact ⟨zm, r184 (l := 7) (G := fun R1 => p191_15 8 R1.1 R1.2.1 R1.2.2 (nI m) (nI 0) (z_ko κ N) _) hj.2.1.2.2.2.1 hP ⟨rfl, hQ⟩⟩
  refine z_JG.re ?_ re1
  refine ihx Φ hΦ τ H ρ mo cc (P + 1) κ S _ hj.pil (by rw [← hN]; exact z_pil_tk) ⟨⟨by have := hb.1.1; omega, by have := hb.1.2.1; omega, by have := hb.1.2.2; omega⟩, ?_, hb.2.2.1, hb.2.2.2⟩ ?_
  · have := hb.2.1
    have := w1.1.1
    have := w1.1.2
    have := w1.2.2
    omega
  intro τ1 mo1 cc1 S1 R1 hke1
  obtain ⟨hj1, te1, fk1, fl1, ⟨mo01, cc01, cc1b, tb1, tb1'⟩, ⟨p1, ty1, ef1⟩, ag1, rm1, cx1, tj1⟩ := hke1
  rw [← hN] at fk1
  have hp1 := z_tpk.aft hp fl1
  rw [← hN] at hp1
  have gce : g < ce := by omega
  have cg' : (nI g).toNatClampNeg = g := nI_clamp (by have := h0.2.1; omega)
  have hC1 := hj1.1
  have e71 : S1.2.2.2.1 27 7 - 1 = nI H := by rw [hC1.2.2.2.2.1.1]; exact nI_pred H
  have H256 : H + 3 ≤ 256 := by have := hb.1.1; omega
  have i1 := ty1.lo hC1.1.1 hj1.2.1.1.1 hC1.1.2.1.1 hj1.2.1.1.2.1 (t := 1) (by decide)
  have i1 : z_fn 0 (S1.1 28) H = 1 ↔ z_fn 0 (R1.1 106) x = 1 := i1
  have cxg : z_ctx S0.1 (g + 1) = z_ctx S0.1 g := z_ctx_id (o := 6) hog (Or.inr (Or.inl ⟨by decide, by decide⟩))
  -- the class at the test
  have clg : ∀ Q, z_WC 62 89 0 [(0, .ref 134), (1, .int (nI H)), (2, .int 1)] [] S1 (z_cx (z_cx Q (fun x S1 => x = none ∧ z_WC 64 82 31 [(0, .ref 134), (1, .int (nI (g + 1)))] [] S1 Q)) (fun x S1 => x = none ∧ z_cx Q (fun x S1 => x = none ∧ z_WC 64 82 31 [(0, .ref 134), (1, .int (nI (g + 1)))] [] S1 Q) (.inl none) S1)) → z_WC 64 82 31 [(0, .ref 134), (1, .int (nI g))] [] S1 Q := by
    intro Q hQ
    refine k83 (o := 6) hC1 h0 gce hog (by decide) ?_
    refine t83_0 (A := S1.1) (E := S1.2.1) (N := S1.2.2.1) (V := S1.2.2.2.1) (W := S1.2.2.2.2.1) (c := S1.2.2.2.2.2) ?_
    have eo : z_fn 0 (S1.1 14) g = 6 := (hC1.2.2.2.1 14 (by decide) g (Nat.le_refl _)).trans hog
    unfold p83_0
    rw [cg', eo]
    refine ⟨hC1.in h0 gce (by decide) (by decide), ?_⟩
    rw [if_neg (by decide), if_neg (by decide), if_neg (by decide), if_neg (by decide), if_pos rfl]
    unfold p83_156
    rw [e71]
    exact ⟨hC1.2.1.rm.1, hQ⟩
  have X1 := hj1.2.1.2.1.tr (z_XU_stg (R := R1) (P := P) (st := 1))
  have ref1 : ∀ Q, p191_23 8 (z_stg P 1 R1).1 (z_stg P 1 R1).2.1 (z_stg P 1 R1).2.2 (nI m) (nI 1) (z_ko κ N) (fun x R2 => x = none ∧ z_WR 10 183 19 [(0, .ref 148)] [] R2 Q) → z_WR 10 183 19 [(0, .ref 148)] [] R1 Q := by
    intro Q hQ
    refine r183 hj1.2.1 (by omega) hp1 m6 hk ?_
    show p183_178 9 (z_stg P 1 R1).1 (z_stg P 1 R1).2.1 (z_stg P 1 R1).2.2 (nI P) (nI m) (nI 1) (z_ko κ N) Q
    refine t191_0 (l := 8) (B := (z_stg P 1 R1).1) (M := (z_stg P 1 R1).2.1) (U := (z_stg P 1 R1).2.2) ?_
    unfold p191_0
    rw [if_neg (by decide)]
    unfold p191_18
    rw [if_pos (show nI 1 = (1 : Int32) from rfl)]
    exact hQ
  have f01 : (z_stg P 1 R1).2.2 41 11 = 0 := hj1.2.1.2.2.2.2.1
  by_cases c1 : z_fn 0 (S1.1 28) H = 1
  · have d1 := i1.mp c1
    have clg2 : ∀ Q, z_WC 64 82 31 [(0, .ref 134), (1, .int (nI (g + 1)))] [] S1 Q → z_WC 64 82 31 [(0, .ref 134), (1, .int (nI g))] [] S1 Q := fun Q hQ => clg Q (k89 (l := 61) (G := fun S1 => z_cx Q (fun x S1 => x = none ∧ z_WC 64 82 31 [(0, .ref 134), (1, .int (nI (g + 1)))] [] S1 Q) (.inl none) S1) (by omega) c1 ⟨rfl, hQ⟩)
    have re2 : ∀ Q, z_WR 10 183 19 [(0, .ref 148)] [] (z_pil (P + 1) y (z_ko κ N) (z_stg P 1 R1)) Q → z_WR 10 183 19 [(0, .ref 148)] [] R1 Q := by
      intro Q hQ
      refine ref1 Q ?_
      unfold p191_23
      rw [cm, X1.1 58 (by decide) (by decide), h58, cx', z_stg_o (by decide), if_pos d1]
      refine ⟨zm, zx, ?_⟩
      unfold p191_39 p191_44
      refine ⟨zm, r190 (l := 7) ?_⟩
      unfold p191_55
      rw [cm, X1.1 59 (by decide) (by decide), h59]
      exact ⟨zm, r184 (l := 7) (G := fun R2 => p191_66 8 R2.1 R2.2.1 R2.2.2 (nI m) (nI 1) (z_ko κ N) _) hj1.2.1.2.2.2.1 hP ⟨rfl, hQ⟩⟩
    refine z_JG.cl (z_JG.re ?_ re2) clg2
    have cfg := z_cf_le (a := S0.1 14) (show g ≤ g + 1 from Nat.le_succ g)
    refine ihy Φ hΦ τ1 (H + 1) ρ mo1 cc1 (P + 1) κ S1 _ (hj1.adv cxg).pil (by rw [cxg, cx1, ← hN]; exact z_pil_tk) ⟨⟨by have := hb.1.1; omega, by rw [cxg, cx1]; have := hb.1.2.1; omega, by have := hb.1.2.2; omega⟩, ?_, ?_, ?_⟩ ?_
    · have := hb.2.1
      have := w2.1.1
      have := w2.1.2
      have := w2.2.2
      omega
    · have := hb.2.2.1
      omega
    · have := hb.2.2.2.1
      have := hb.2.2.2.2
      constructor <;> omega
    intro τ2 mo2 cc2 S2 R2 hke2
    obtain ⟨hj2, te2, fk2, fl2, ⟨mo12, cc12, cc2b, tb2, tb2'⟩, ⟨p2, ty2, ef2⟩, ag2, rm2, cx2, tj2⟩ := hke2
    rw [cxg, cx1, ← hN] at fk2
    have hp2 := z_tpk.aft hp1 fl2
    have hC2 := hj2.1
    have hce : h < ce := by omega
    have ch' : (nI h).toNatClampNeg = h := nI_clamp (by have := h0.2.1; omega)
    have cxh : z_ctx S0.1 (h + 1) = z_ctx S0.1 h := z_ctx_id (o := 7) hoh (Or.inr (Or.inl ⟨by decide, by decide⟩))
    have clh : ∀ Q, z_WC 64 82 31 [(0, .ref 134), (1, .int (nI (h + 1)))] [] S2 Q → z_WC 64 82 31 [(0, .ref 134), (1, .int (nI h))] [] S2 Q := by
      intro Q hQ
      refine k83 (o := 7) hC2 h0 hce hoh (by decide) ?_
      refine t83_0 (A := S2.1) (E := S2.2.1) (N := S2.2.2.1) (V := S2.2.2.2.1) (W := S2.2.2.2.2.1) (c := S2.2.2.2.2.2) ?_
      have eo : z_fn 0 (S2.1 14) h = 7 := (hC2.2.2.2.1 14 (by decide) h (Nat.le_refl _)).trans hoh
      unfold p83_0
      rw [ch', eo]
      refine ⟨hC2.in h0 hce (by decide) (by decide), ?_⟩
      rw [if_neg (by decide), if_neg (by decide), if_neg (by decide), if_neg (by decide), if_neg (by decide), if_neg (by decide), if_neg (by decide), if_neg (by decide), if_neg (by decide), if_neg (by decide), if_neg (by decide), if_neg (by decide), if_neg (by decide), if_neg (by decide)]
      exact ⟨rfl, hQ⟩
    have re3 : ∀ Q, z_WR 10 183 19 [(0, .ref 148)] [] (z_pil (P + 1) z (z_ko κ N) (z_stg P 2 R2)) Q → z_WR 10 183 19 [(0, .ref 148)] [] R2 Q := by
      intro Q hQ
      refine r183 hj2.2.1 (by omega) hp2 m6 hk ?_
      show p183_178 9 (z_stg P 2 R2).1 (z_stg P 2 R2).2.1 (z_stg P 2 R2).2.2 (nI P) (nI m) (nI 2) (z_ko κ N) Q
      have e60 : (z_stg P 2 R2).1 60 = R0.1 60 := (hj2.2.1.2.1.tr z_XU_stg).1 60 (by decide) (by decide)
      refine t191_0 (l := 8) (B := (z_stg P 2 R2).1) (M := (z_stg P 2 R2).2.1) (U := (z_stg P 2 R2).2.2) ?_
      unfold p191_0
      rw [if_neg (by decide)]
      unfold p191_18
      rw [if_neg (by decide)]
      unfold p191_69
      rw [if_pos (show nI 2 = (2 : Int32) from rfl)]
      unfold p191_74
      rw [cm, e60, h60]
      exact ⟨zm, r184 (l := 7) (G := fun R3 => p191_85 8 R3.1 R3.2.1 R3.2.2 (nI m) (nI 2) (z_ko κ N) _) hj2.2.1.2.2.2.1 hP ⟨rfl, hQ⟩⟩
    refine z_JG.cl (z_JG.re ?_ re3) clh
    have cfh := z_cf_le (a := S0.1 14) (show h ≤ h + 1 from Nat.le_succ h)
    refine ihz Φ hΦ τ2 (H + 2) ρ mo2 cc2 (P + 1) κ S2 _ (hj2.adv cxh).pil (by rw [cxh, cx2, cxg, cx1, ← hN]; exact z_pil_tk) ⟨⟨by have := hb.1.1; omega, by rw [cxh, cx2, cxg, cx1]; have := hb.1.2.1; omega, by have := hb.1.2.2; omega⟩, ?_, ?_, ?_⟩ ?_
    · have := hb.2.1
      have := w3.1.1
      have := w3.1.2
      have := w3.2.2
      omega
    · have := hb.2.2.1
      omega
    · have := hb.2.2.2.1
      have := hb.2.2.2.2
      constructor <;> omega
    intro τ3 mo3 cc3 S3 R3 hke3
    obtain ⟨hj3, te3, fk3, fl3, ⟨mo23, cc23, cc3b, tb3, tb3'⟩, ⟨p3, ty3, ef3⟩, ag3, rm3, cx3, tj3⟩ := hke3
    rw [cxh, cx2, cxg, cx1, ← hN] at fk3
    have hp3 := z_tpk.aft hp2 fl3
    have hC := hj3.1
    have hdc : d < ce := by omega
    have cd : (nI d).toNatClampNeg = d := nI_clamp (by have := h0.2.1; omega)
    have isy : ∀ q, 106 ≤ q → q ≤ 107 → z_fn 0 (R3.1 q) y = z_fn 0 (R2.1 q) y := fun q a c => by rw [fl3.2.2 q a (by omega) y (by omega), z_pil_o (by omega), z_stg_o (by omega)]
    have isx : ∀ q, 106 ≤ q → q ≤ 107 → z_fn 0 (R3.1 q) x = z_fn 0 (R1.1 q) x := fun q a c => by rw [fl3.2.2 q a (by omega) x (by omega), z_pil_o (by omega), z_stg_o (by omega), fl2.2.2 q a (by omega) x (by omega), z_pil_o (by omega), z_stg_o (by omega)]
    have hdy : ∀ q, 28 ≤ q → q ≤ 30 → z_fn 0 (S3.1 q) (H + 1) = z_fn 0 (S2.1 q) (H + 1) := fun q a c => fk3.1 q a c (H + 1) (Nat.lt_succ_self _)
    have hdx : ∀ q, 28 ≤ q → q ≤ 30 → z_fn 0 (S3.1 q) H = z_fn 0 (S1.1 q) H := fun q a c => (fk3.1 q a c H (by omega)).trans (fk2.1 q a c H (Nat.lt_succ_self _))
    have T3 := hC.1
    have TR3 := hj3.2.1.1
    have ty2' : z_Tqd 51 τ3 (z_fn 0 (S3.1 28) (H + 1)) (z_fn 0 (R3.1 106) y) := by
      rw [isy 106 (by decide) (by decide), hdy 28 (by decide) (by decide)]
      exact ty2.x hC2.1.1 hj2.2.1.1.1 te3
    have i3 := ty3.same T3.1 TR3.1 T3.2.1.1 TR3.2.1 ty2'
    have eo : z_fn 0 (S3.1 14) d = 8 := (hC.2.2.2.1 14 (by decide) d (Nat.le_refl _)).trans ho
    have v1' : S3.2.2.2.1 27 7 - 1 = nI (H + 2) := by rw [hC.2.2.2.2.1.1]; exact nI_pred (H + 2)
    have v2' : S3.2.2.2.1 27 7 - 2 = nI (H + 1) := by rw [hC.2.2.2.2.1.1]; exact pk_sub (a := H + 3) (b := 2) (by omega)
    have ch1 : (nI (H + 1)).toNatClampNeg = H + 1 := nI_clamp (by omega)
    have ch2 : (nI (H + 2)).toNatClampNeg = H + 2 := nI_clamp (by omega)
    have zh1 : z_in (nI (H + 1)) 256 = true := z_inI (by omega) (by decide)
    have zh2 : z_in (nI (H + 2)) 256 = true := z_inI (by omega) (by decide)
    have cl : ∀ Q, z_WC 62 89 0 [(0, .ref 134), (1, .int (nI (H + 2))), (2, .int (z_fn 0 (S3.1 28) (H + 1)))] [] S3 (z_cx (z_cx Q (fun x S1 => x = none ∧ z_WC 64 82 31 [(0, .ref 134), (1, .int (nI (d + 1)))] [] S1 Q)) (fun x S1 => x = none ∧ p83_191 62 S1.1 S1.2.1 S1.2.2.1 S1.2.2.2.1 S1.2.2.2.2.1 S1.2.2.2.2.2 (nI d) (z_cx Q (fun x S1 => x = none ∧ z_WC 64 82 31 [(0, .ref 134), (1, .int (nI (d + 1)))] [] S1 Q)))) → z_WC 64 82 31 [(0, .ref 134), (1, .int (nI d))] [] S3 Q := by
      intro Q hQ
      refine k83 (o := 8) hC h0 hdc ho (by decide) ?_
      refine t83_0 (A := S3.1) (E := S3.2.1) (N := S3.2.2.1) (V := S3.2.2.2.1) (W := S3.2.2.2.2.1) (c := S3.2.2.2.2.2) ?_
      unfold p83_0
      rw [cd, eo]
      refine ⟨hC.in h0 hdc (by decide) (by decide), ?_⟩
      rw [if_neg (by decide), if_neg (by decide), if_neg (by decide), if_neg (by decide), if_neg (by decide), if_pos rfl]
      unfold p83_170
      rw [v1', v2', ch1]
      exact ⟨zh1, hC.2.1.rm.1, hQ⟩
    have X := hj3.2.1.2.1.tr (z_XU_stg (R := R3) (P := P) (st := 3))
    have e106 : (z_stg P 3 R3).1 106 = R3.1 106 := z_stg_o (by decide)
    have e107 : (z_stg P 3 R3).1 107 = R3.1 107 := z_stg_o (by decide)
    have e58 : (z_stg P 3 R3).1 58 = R0.1 58 := X.1 58 (by decide) (by decide)
    have e59 : (z_stg P 3 R3).1 59 = R0.1 59 := X.1 59 (by decide) (by decide)
    have e60 : (z_stg P 3 R3).1 60 = R0.1 60 := X.1 60 (by decide) (by decide)
    have e63 : (z_stg P 3 R3).1 63 = R0.1 63 := X.1 63 (by decide) (by decide)
    have f0 : (z_stg P 3 R3).2.2 41 11 = 0 := hj3.2.1.2.2.2.2.1
    have r82 : (z_stg P 3 R3).2.2 41 82 = nI (P + 1) := hj3.2.1.2.2.2.1
    have re : ∀ Q, (if z_fn 0 (R3.1 106) z = z_fn 0 (R3.1 106) y then p191_119 8 (z_stg P 3 R3).1 (z_stg P 3 R3).2.1 (z_stg P 3 R3).2.2 (nI m) (nI 3) (z_ko κ N) 1 (fun x R1 => x = none ∧ z_WR 10 183 19 [(0, .ref 148)] [] R1 Q) else p191_119 8 (z_stg P 3 R3).1 (z_stg P 3 R3).2.1 (z_stg P 3 R3).2.2 (nI m) (nI 3) (z_ko κ N) 0 (fun x R1 => x = none ∧ z_WR 10 183 19 [(0, .ref 148)] [] R1 Q)) → z_WR 10 183 19 [(0, .ref 148)] [] R3 Q := by
      intro Q hQ
      refine r183 hj3.2.1 (by omega) hp3 m6 hk ?_
      show p183_178 9 (z_stg P 3 R3).1 (z_stg P 3 R3).2.1 (z_stg P 3 R3).2.2 (nI P) (nI m) (nI 3) (z_ko κ N) Q
      refine t191_0 (l := 8) (B := (z_stg P 3 R3).1) (M := (z_stg P 3 R3).2.1) (U := (z_stg P 3 R3).2.2) ?_
      unfold p191_0
      rw [if_neg (by decide)]
      unfold p191_18
      rw [if_neg (by decide)]
      unfold p191_69
      rw [if_neg (by decide)]
      unfold p191_88
      rw [cm, e60, e59, h60, h59, cz', cy', e106]
      exact ⟨zm, zz, zm, zy, hQ⟩
    by_cases c3 : z_fn 0 (S3.1 28) (H + 2) = z_fn 0 (S3.1 28) (H + 1)
    · have d3 := i3.mp c3
      obtain ⟨E, hE⟩ : ∃ E : Int32, E = (z_fn 0 (R3.1 107) x ||| z_fn 0 (R3.1 107) y) ||| z_fn 0 (R3.1 107) z := ⟨_, rfl⟩
      obtain ⟨ty, hty⟩ : ∃ ty : Int32, ty = z_fn 0 (S3.1 28) (H + 2) := ⟨_, rfl⟩
      obtain ⟨ty', hty'⟩ : ∃ ty' : Int32, ty' = z_fn 0 (R3.1 106) y := ⟨_, rfl⟩
      have re3' : ∀ Q, z_WR 10 183 19 [(0, .ref 148)] [] (z_typ P m ty' E (z_stg P 3 R3)) Q → z_WR 10 183 19 [(0, .ref 148)] [] R3 Q := by
        intro Q hQ
        refine re Q ?_
        rw [if_pos d3]
        unfold p191_119
        refine ⟨zm, r190 (l := 7) ?_⟩
        unfold p191_130
        rw [cm, e58, e59, e60, h58, h59, h60, cx', cy', cz', e106, e107, ← hE, ← hty']
        exact ⟨zm, zy, zm, zx, zm, zy, zm, zz, r187 (l := 7) (P := P) (G := fun R1 => p191_181 8 R1.1 R1.2.1 R1.2.2 (nI m) (nI 3) (z_ko κ N) (fun x R1 => x = none ∧ z_WR 10 183 19 [(0, .ref 148)] [] R1 Q)) r82 m6 ⟨rfl, hQ⟩⟩
      refine z_JG.re ?_ re3'
      refine cl _ (k89 (l := 61) (G := fun S1 => p83_191 62 S1.1 S1.2.1 S1.2.2.1 S1.2.2.2.1 S1.2.2.2.2.1 S1.2.2.2.2.2 (nI d) _) (by omega) c3 ?_)
      unfold p83_191
      rw [v1', ch2, ← hty]
      refine ⟨zh2, hC.2.1.rm.1, ?_⟩
      refine k88 (l := 60) (p := 3) (G := fun S1 => p83_208 62 S1.1 S1.2.1 S1.2.2.1 S1.2.2.2.1 S1.2.2.2.2.1 S1.2.2.2.2.2 (nI d) _) hC h0 hdc H256 (by decide) (by omega) ?_
      intro S4 s1 s2 s3 hC4
      rw [h19]
      have ez : z_orr (S3.1 29) (H + 3) 3 = E := by
        show ((0 ||| z_fn 0 (S3.1 29) (H + 2)) ||| z_fn 0 (S3.1 29) (H + 1)) ||| z_fn 0 (S3.1 29) H = E
        rw [Int32.zero_or, ef3, hdy 29 (by decide) (by decide), ef2, hdx 29 (by decide) (by decide), ef1, hE, isx 107 (by decide) (by decide), isy 107 (by decide) (by decide), Int32.or_comm _ (z_fn 0 (R1.1 107) x), Int32.or_comm (z_fn 0 (R3.1 107) z), Int32.or_assoc]
      rw [ez]
      have hC4 : z_KC S0 d τ3.1.1 τ3.1.2 H ρ mo3 S4 := hC4
      refine ⟨rfl, ?_⟩
      show z_WC 64 82 31 [(0, .ref 134), (1, .int (nI (d + 1)))] [] (z_hold H ty E p S4) _
      have cxd : z_ctx S0.1 (d + 1) = z_ctx S0.1 d := z_ctx_id (o := 8) ho (Or.inr (Or.inl ⟨by decide, by decide⟩))
      have cxs : z_ctx S0.1 d = z_ctx S0.1 s := cx3.trans (cxh.trans (cx2.trans (cxg.trans cx1)))
      have hC5 := (hC4.hold ty E p).adv cxd
      have hR5 := (hj3.2.1.stg (st := 3) (p := P)).typ (m := m) (ty := ty') (ef := E)
      have o4 : ∀ q, ¬ (28 ≤ q ∧ q ≤ 30) → (z_hold H ty E p S4).1 q = S3.1 q := fun q a => by rw [z_hold_o a, s1]
      have fk4 : z_Fk s (d + 1) H ρ N S3 (z_hold H ty E p S4) := by
        refine ⟨fun k a b j c => ?_, fun k a b j c => by rw [o4 k (by omega)], fun k a j c => by rw [o4 k (by omega)], fun j c => by rw [o4 35 (by decide)], fun k a j c => by rw [o4 k (by omega)]⟩
        rw [(z_Fk.hold (s := s) (e := d + 1) (ρ := ρ) (N := N) (Nat.le_refl H)).1 k a b j c, s1]
      have f1 := fk1.wk (s := s) (e := d + 1) (Nat.le_refl H) (Nat.le_refl ρ) (Nat.le_refl N) (Nat.le_refl s) (by omega)
      have f2 := fk2.wk (s := s) (e := d + 1) (Nat.le_succ H) (Nat.le_refl ρ) (Nat.le_refl N) (by omega) (by omega)
      have f3 := fk3.wk (s := s) (e := d + 1) (show H ≤ H + 2 by omega) (Nat.le_refl ρ) (Nat.le_refl N) (by omega) (by omega)
      have fla := z_Fl.pils (u := u) w1.1 (Nat.le_refl cc) fl1
      have flb := z_Fl.pils (u := u) w2.1 cc01 fl2
      have flc := z_Fl.pils (u := u) w3.1 (Nat.le_trans cc01 cc12) fl3
      have cfd := z_cf_le (a := S0.1 14) (show d ≤ d + 1 from Nat.le_succ d)
      have ct : z_Cw b n 8 τ0 S0.1 R0.1 w u m s (d + 1) (z_gl τ (S.1 32) (z_ctx S0.1 s).1.length) (z_shx τ3 ty) := by
        have g1 := hj.gl te1 (fun j hj => fk1.2.1 32 (by decide) (by decide) j (by rw [hN]; exact hj)) (cxg.trans cx1)
        have g2 := hj1.gl te2 (fun j hj => fk2.2.1 32 (by decide) (by decide) j (by rw [hN, ← cx1]; exact hj)) (cxh.trans (cx2.trans cxg))
        rw [cxg] at g1
        rw [g2, g1] at tj3
        rw [cxg, g1] at tj2
        have s1 : z_shx τ1 (z_fn 0 (S1.1 28) H) = z_bz 1 := by
          rw [c1]
          exact z_shx_lo (t := 1) (by decide)
        have s3 : z_shx τ3 (z_fn 0 (S3.1 28) (H + 2)) = z_shx τ3 ty := by rw [hty]
        have s2 : z_shx τ2 (z_fn 0 (S2.1 28) (H + 1)) = z_shx τ3 ty := by
          rw [← s3, c3, hdy 28 (by decide) (by decide)]
          exact (z_shx_e hC2.1.1 hC2.1.2.1.1 te3 ty2).symm
        rw [s1] at tj1
        rw [s2] at tj2
        rw [s3] at tj3
        exact z_Cw.mk (by omega) hm (fun f hf => Or.inr (Or.inr (Or.inr (Or.inr (Or.inr (Or.inr (Or.inl ⟨hk, x, y, z, g, h, v1, v2, v3, ⟨x6, y6, z6, w1, w2, w3, w12, w23, w13⟩, h58, h59, h60, hsg, hgh, hhe, ⟨z_wle.z, tj1 f (by omega)⟩, hog, hg15, ⟨hw, tj2 f (by omega)⟩, hoh, hh15, ⟨hw, tj3 f (by show d ≤ _; omega)⟩, ho⟩)))))))
      refine fin τ3 mo3 cc3 _ _ ⟨⟨hC5, hR5, hj3.2.2.1, ?_, ?_⟩, (te1.tr te2).tr te3, by rw [← hN]; exact ((f1.tr f2).tr f3).tr fk4, ((fla.tr flb).tr flc).tr ((z_Fl.stg (Nat.le_refl _)).tr (z_Fl.typ hm)), ⟨by omega, by omega, by omega, by omega, by omega⟩, ⟨?_, ?_, ?_⟩, ?_, ?_, cxd.trans cxs, by rw [z_hold_28, z_fcs]; exact ct⟩
      · rw [cxd]
        intro j hj
        rw [o4 31 (by decide), z_typ_o (by decide), z_typ_o (by decide), z_typ_o (by decide), z_stg_o (by decide), z_stg_o (by decide), z_stg_o (by decide)]
        exact hj3.2.2.2.1 j hj
      · rw [cxd]
        intro j hj
        rw [o4 32 (by decide), z_typ_o (by decide), z_stg_o (by decide)]
        exact hj3.2.2.2.2 j hj
      · rw [z_hold_30, z_fcs]
      · rw [z_hold_28, z_fcs, z_typ_106, z_fcs, hty, hty', c3]
        exact ty2'
      · rw [z_hold_29, z_fcs, z_typ_107, z_fcs]
      · intro j j1 j2
        by_cases q1 : j < g
        · refine (ag1 j j1 q1).e (fun q hq => ?_)
          rw [o4 q (by omega), fk3.2.2.2.2 q hq j (by omega)]
          exact fk2.2.2.2.2 q hq j (by omega)
        · by_cases q0 : j = g
          · rw [q0]
            refine z_ag.sm (by rw [hog]; decide) (fun q hq => ?_)
            rw [o4 q (by omega), fk3.2.2.2.2 q hq g (by omega), fk2.2.2.2.2 q hq g (by omega)]
            exact hC1.2.2.2.1 q hq g (Nat.le_refl _)
          · by_cases q2 : j < h
            · refine (ag2 j (by omega) q2).e (fun q hq => ?_)
              rw [o4 q (by omega)]
              exact fk3.2.2.2.2 q hq j (by omega)
            · by_cases q3 : j = h
              · rw [q3]
                refine z_ag.sm (by rw [hoh]; decide) (fun q hq => ?_)
                rw [o4 q (by omega), fk3.2.2.2.2 q hq h (by omega)]
                exact hC2.2.2.2.1 q hq h (Nat.le_refl _)
              · by_cases q4 : j < d
                · exact (ag3 j (by omega) q4).e (fun q hq => by rw [o4 q (by omega)])
                · have ej : j = d := by omega
                  rw [ej]
                  refine z_ag.sm (by rw [ho]; decide) (fun q hq => ?_)
                  rw [o4 q (by omega)]
                  exact hC.2.2.2.1 q hq d (Nat.le_refl _)
      · intro j j1 j2 jl
        by_cases q1 : j ≤ g
        · exact Nat.le_trans (rm1 j j1 q1 jl) (Nat.le_trans mo12 mo23)
        · by_cases q2 : j ≤ h
          · exact Nat.le_trans (rm2 j (by omega) q2 jl) mo23
          · by_cases q3 : j ≤ d
            · exact rm3 j (by omega) q3 jl
            · have ej : j = d + 1 := by omega
              rw [ej, cxd]
              exact hC.2.2.2.2.2.2.2.2.1
    · have d3 : ¬ z_fn 0 (R3.1 106) z = z_fn 0 (R3.1 106) y := fun q => c3 (i3.mpr q)
      refine z_JG.dead (x := 6) (y := z_fn 0 (R0.1 63) m) hΦ hC.2.2.1 hj3.2.1.2.1 (fun Q hQ => cl Q (k89f (l := 61) hC.2.1 (by omega) c3 (fun S' hy => ⟨rfl, hQ S' (by rw [← p3]; exact hy)⟩))) (fun Q hQ => re Q ?_)
      rw [if_neg d3]
      unfold p191_119
      rw [cm, e63]
      have td : z_Td 6 (z_fn 0 (R0.1 63) m) (z_UF (z_stg P 3 R3).2.2 6 (z_fn 0 (R0.1 63) m)) := z_Td_F (by decide)
      refine ⟨zm, r190f (l := 7) f0 ?_⟩
      show p191_130 8 (z_stg P 3 R3).1 (z_stg P 3 R3).2.1 (z_UF (z_stg P 3 R3).2.2 6 (z_fn 0 (R0.1 63) m)) (nI m) (nI 3) (z_ko κ N) (fun x R2 => x = none ∧ z_WR 10 183 19 [(0, .ref 148)] [] R2 Q)
      unfold p191_130
      rw [cm, e58, e59, e60, h58, h59, h60]
      have td2 : ∀ ty ee, z_Td 6 (z_fn 0 (R0.1 63) m) (z_typ P m ty ee ((z_stg P 3 R3).1, (z_stg P 3 R3).2.1, z_UF (z_stg P 3 R3).2.2 6 (z_fn 0 (R0.1 63) m))).2.2 := fun _ _ => ⟨td.1, td.2.1, td.2.2⟩
      refine ⟨zm, zy, zm, zx, zm, zy, zm, zz, r187 (l := 7) (R := ((z_stg P 3 R3).1, (z_stg P 3 R3).2.1, z_UF (z_stg P 3 R3).2.2 6 (z_fn 0 (R0.1 63) m))) (P := P) (G := fun R2 => p191_181 8 R2.1 R2.2.1 R2.2.2 (nI m) (nI 3) (z_ko κ N) _) r82 m6 ⟨rfl, ?_⟩⟩
      exact r183d (l := 9) (td2 _ _) (hQ _ (td2 _ _) ((z_XU_stg.tr z_XU_F).tr z_XU_typ))
  · have d1 : ¬ z_fn 0 (R1.1 106) x = 1 := fun q => c1 (i1.mpr q)
    refine z_JG.dead (x := 6) (y := z_fn 0 (R0.1 61) m) hΦ hC1.2.2.1 hj1.2.1.2.1 (fun Q hQ => clg Q (k89f (l := 61) hC1.2.1 (by omega) c1 (fun S' hy => ⟨rfl, hQ S' (by rw [← p1]; exact hy)⟩))) (fun Q hQ => ref1 Q ?_)
    unfold p191_23
    rw [cm, X1.1 58 (by decide) (by decide), h58, cx', z_stg_o (by decide), if_neg d1]
    refine ⟨zm, zx, ?_⟩
    unfold p191_43 p191_44
    rw [cm, X1.1 61 (by decide) (by decide)]
    have td : z_Td 6 (z_fn 0 (R0.1 61) m) (z_UF (z_stg P 1 R1).2.2 6 (z_fn 0 (R0.1 61) m)) := z_Td_F (by decide)
    refine ⟨zm, r190f (l := 7) f01 ?_⟩
    show p191_55 8 (z_stg P 1 R1).1 (z_stg P 1 R1).2.1 (z_UF (z_stg P 1 R1).2.2 6 (z_fn 0 (R0.1 61) m)) (nI m) (nI 1) (z_ko κ N) (fun x R2 => x = none ∧ z_WR 10 183 19 [(0, .ref 148)] [] R2 Q)
    unfold p191_55
    rw [cm, X1.1 59 (by decide) (by decide), h59]
    have td2 : z_Td 6 (z_fn 0 (R0.1 61) m) (z_pil (P + 1) y (z_ko κ N) ((z_stg P 1 R1).1, (z_stg P 1 R1).2.1, z_UF (z_stg P 1 R1).2.2 6 (z_fn 0 (R0.1 61) m))).2.2 := ⟨td.1, td.2.1, td.2.2⟩
    refine ⟨zm, r184 (l := 7) (R := ((z_stg P 1 R1).1, (z_stg P 1 R1).2.1, z_UF (z_stg P 1 R1).2.2 6 (z_fn 0 (R0.1 61) m))) (P := P + 1) (G := fun R2 => p191_66 8 R2.1 R2.2.1 R2.2.2 (nI m) (nI 1) (z_ko κ N) _) hj1.2.1.2.2.2.1 hP ⟨rfl, ?_⟩⟩
    exact r183d (l := 9) td2 (hQ _ td2 ((z_XU_stg.tr z_XU_F).tr z_XU_pil))
end ZTA
