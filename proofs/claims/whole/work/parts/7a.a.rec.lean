/-! Checking, both together: rec. -/
section ZAA
variable {b : Nat → Nat} {n me : Nat} {τ0 : z_TT} {ce : Nat} {S0 : z_CS} {R0 : z_RS} {w : Nat} {u v1 v2 : z_Bd} {m s e g x y : Nat} {p : Int32}
/-- what lies under the part that is checked, two names bound -/
theorem z_tpk.of {P st P' : Nat} {kx : Int32} {v : z_Bd} {cc : Nat} {R Ra R' : z_RS} (h : z_tpk P m st kx R) (h2 : z_fn 0 (Ra.1 102) P = z_fn 0 (R.1 102) P) (h3 : z_fn 0 (Ra.1 103) P = nI (st + 1)) (h4 : z_fn 0 (Ra.1 104) P = z_fn 0 (R.1 104) P) (hF : z_Fl v cc P' Ra R') (hP : P < P') : z_tpk P m (st + 1) kx R' := by
  refine ⟨?_, ?_, ?_⟩
  · rw [hF.2.1 102 (by decide) (by decide) P hP, h2]
    exact h.1
  · rw [hF.2.1 103 (by decide) (by decide) P hP, h3]
  · rw [hF.2.1 104 (by decide) (by decide) P hP, h4]
    exact h.2.2
theorem n_rec (h1 : z_K1 b n me τ0 ce S0 R0) (hm : u.1.1 ≤ m ∧ m < u.1.2) (hu6 : u.1.2 ≤ 600) (he : e ≤ ce) (hsg : s + 1 < g) (hge : g + 2 < e - 1) (hk : z_fn 0 (R0.1 57) m = 1) (w1 : z_S1 u m v1) (w2 : z_S1 u m v2) (w3 : v1.1.2 ≤ v2.1.1) (hxv : v1.1.1 ≤ x ∧ x < v1.1.2) (hyv : v2.1.1 ≤ y ∧ y < v2.1.2) (h58 : z_fn 0 (R0.1 58) m = nI x) (h59 : z_fn 0 (R0.1 59) m = nI y) (ho : z_fn 0 (S0.1 14) s = 19) (hnm : z_Nm b n (z_fn 0 (R0.1 64) m) (z_fn 0 (S0.1 15) s) (z_fn 0 (R0.1 65) m)) (hnm2 : z_Nm b n (z_fn 0 (R0.1 66) m) (z_fn 0 (S0.1 18) s) (z_fn 0 (R0.1 67) m)) (hfq : z_Fq τ0 (z_fn 0 (S0.1 16) s) (z_fn 0 (R0.1 68) m) (z_fn 0 (R0.1 69) m) (z_fn 0 (R0.1 70) m)) (h17 : z_fn 0 (S0.1 17) s = nI g) (hog : z_fn 0 (S0.1 14) g = 20) (hob : z_fn 0 (S0.1 14) (g + 1) = 4) (hnm3 : z_Nm b n (z_fn 0 (R0.1 64) m) (z_fn 0 (S0.1 15) (g + 1)) (z_fn 0 (R0.1 65) m)) (hoe : z_fn 0 (S0.1 14) (e - 1) = 5) (h19 : z_fn 0 (S0.1 19) (e - 1) = p) (hw : z_wle 4 w) (hfl : z_fl S0.1 (s + 1) g)
    (ihx : z_Kn b n τ0 ce S0 R0 (w - 4) v1 x (s + 1) g (z_fn 0 (R0.1 61) m)) (ihy : z_Kn b n τ0 ce S0 R0 (w - 4) v2 y (g + 2) (e - 1) (z_fn 0 (R0.1 62) m)) : z_Kn b n τ0 ce S0 R0 w u m s e p := by
  have hwm := hw.mod
  have hwc := hw.1
  intro Φ hΦ τ H ρ mo cc P κ S R hj hp hb fin
  obtain ⟨d, rfl⟩ : ∃ d, e = d + 1 := ⟨e - 1, by omega⟩
  simp only [Nat.add_sub_cancel] at hge hoe h19 ihy
  obtain ⟨N, hN⟩ : ∃ N, N = (z_ctx S0.1 s).1.length := ⟨_, rfl⟩
  have h0 := h1.1
  have ce5 := h0.2.1
  have m6 : m < 600 := by omega
  have x6 : x < 600 := by have := w1.1.2; omega
  have y6 : y < 600 := by have := w2.1.2; omega
  have cm : (nI m).toNatClampNeg = m := nI_clamp (by omega)
  have cx' : (nI x).toNatClampNeg = x := nI_clamp (by omega)
  have cy' : (nI y).toNatClampNeg = y := nI_clamp (by omega)
  have zm : z_in (nI m) 600 = true := z_inI m6 (by decide)
  have zx : z_in (nI x) 600 = true := z_inI x6 (by decide)
  have zy : z_in (nI y) 600 = true := z_inI y6 (by decide)
  have hP : P + 1 < 700 := by
    have := hb.2.1
    have := w1.1.1
    have := w1.1.2
    have := w1.2.2
    omega
  have hs : s < ce := by omega
  have hgc : g < ce := by omega
  have ci : (nI s).toNatClampNeg = s := nI_clamp (by omega)
  have n128 : N + 1 < 120 := by have := hb.1.2.1; omega
  have ρ64 : ρ + 1 < 62 := by have := hb.1.2.2; omega
  have H256 : H + 2 < 256 := by have := hb.1.1; omega
  have hC := hj.1
  obtain ⟨nm, hnm'⟩ : ∃ nm : Int32, nm = z_fn 0 (S0.1 15) s := ⟨_, rfl⟩
  obtain ⟨nm2, hnm2'⟩ : ∃ nm2 : Int32, nm2 = z_fn 0 (S0.1 18) s := ⟨_, rfl⟩
  obtain ⟨row, hrow⟩ : ∃ row : Int32, row = z_fn 0 (R0.1 70) m := ⟨_, rfl⟩
  obtain ⟨t, a, r, t1, t2, et, t3, tl, tT, et1, et2, l1, l2, d1, d2⟩ := hfq.cut h1.2.2.2.1 h1.2.2.2.2
  rw [← hrow] at tT
  have te0 := hj.2.2.1
  have ta : a < t := by have q := (h1.2.2.2.1.2 t t3 tl).1; rw [tT] at q; exact q
  have tr : r < t := by have q := (h1.2.2.2.1.2 t t3 tl).2.1; rw [tT] at q; exact q
  have cρ1 : (nI (ρ + 1)).toNatClampNeg = ρ + 1 := nI_clamp (by omega)
  have zρ1 : z_in (nI (ρ + 1)) 64 = true := z_inI (by omega) (by decide)
  have e15 : z_fn 0 (S.1 15) s = nm := by
    rw [hnm']
    exact hC.2.2.2.1 15 (by decide) s (Nat.le_refl _)
  have e18 : z_fn 0 (S.1 18) s = nm2 := by
    rw [hnm2']
    exact hC.2.2.2.1 18 (by decide) s (Nat.le_refl _)
  have e16 : z_fn 0 (S.1 16) s = nI t := by
    rw [hC.2.2.1.1 16 (by decide) (by decide) (by decide), et]
  have tl' : t < τ.1.2 := Nat.lt_of_lt_of_le tl te0.1.1
  have tT' : τ.1.1 t = (a, r, row) := (te0.1.2 t t3 tl).trans tT
  -- the class opens
  obtain ⟨So, hSo⟩ : ∃ X : z_CS, X = z_opn (ρ + 1) N (nI s) S := ⟨_, rfl⟩
  obtain ⟨Sb, hSb⟩ : ∃ X : z_CS, X = z_bnc N (ρ + 1) nm (nI t) (N + 1) So := ⟨_, rfl⟩
  obtain ⟨Sc, hSc⟩ : ∃ X : z_CS, X = z_bnc (N + 1) (ρ + 1) nm2 (nI a) (N + 2) Sb := ⟨_, rfl⟩
  have hCo : z_KCx S0 s ((z_ctx S0.1 s).1, N :: (z_ctx S0.1 s).2) τ.1.1 τ.1.2 H (ρ + 1) N So := by
    rw [hSo, hN]
    exact z_KCx.opn hC (by omega)
  have mx1 : N + 1 = max N (N + 1) := (Nat.max_eq_right (Nat.le_succ _)).symm
  have mx2 : N + 2 = max (N + 1) (N + 1 + 1) := (Nat.max_eq_right (Nat.le_succ _)).symm
  have hCb : z_KCx S0 s (nm :: (z_ctx S0.1 s).1, N :: (z_ctx S0.1 s).2) τ.1.1 τ.1.2 H (ρ + 1) (N + 1) Sb := by
    rw [hSb]
    exact hCo.bnx hN (by omega) mx1
  have hNb : N + 1 = (nm :: (z_ctx S0.1 s).1).length := by rw [List.length_cons, hN]
  have hCc : z_KCx S0 s (nm2 :: nm :: (z_ctx S0.1 s).1, N :: (z_ctx S0.1 s).2) τ.1.1 τ.1.2 H (ρ + 1) (N + 2) Sc := by
    rw [hSc]
    exact hCb.bnx hNb (by omega) mx2
  obtain ⟨Sa, hSa⟩ : ∃ X : z_CS, X = z_row 15 s (nI N) Sc := ⟨_, rfl⟩
  have oSa : ∀ k, ¬ (31 ≤ k ∧ k ≤ 37) → k ≠ 15 → Sa.1 k = S.1 k := by
    intro k q1 q2
    rw [hSa, z_row_o q2, hSc, z_bnc_o (by omega) (by omega) (by omega), hSb, z_bnc_o (by omega) (by omega) (by omega), hSo, z_opn_o (by omega)]
  have oSb : ∀ k, ¬ (31 ≤ k ∧ k ≤ 37) → Sb.1 k = S.1 k := by
    intro k q1
    rw [hSb, z_bnc_o (by omega) (by omega) (by omega), hSo, z_opn_o (by omega)]
  have cls : ∀ Q, z_WC 64 82 31 [(0, .ref 134), (1, .int (nI (s + 1)))] [] Sa Q → z_WC 64 82 31 [(0, .ref 134), (1, .int (nI s))] [] S Q := by
    intro Q hQ
    refine k97 (o := 19) hC h0 hs ho (by decide) (by decide) ?_
    refine t97_0 (A := S.1) (E := S.2.1) (N := S.2.2.1) (V := S.2.2.2.1) (W := S.2.2.2.2.1) (c := S.2.2.2.2.2) ?_
    have eo : z_fn 0 (S.1 14) s = 19 := (hC.2.2.2.1 14 (by decide) s (Nat.le_refl _)).trans ho
    unfold p97_0
    rw [ci, eo]
    refine ⟨hC.in h0 hs (by decide) (by decide), ?_⟩
    rw [if_neg (by decide), if_neg (by decide), if_pos rfl]
    refine ⟨hC.2.1.rm.1, k98x (lv := 61) (x := z_ctx S0.1 s) (G := fun S1 => p97_125 62 S1.1 S1.2.1 S1.2.2.1 S1.2.2.2.1 S1.2.2.2.2.1 S1.2.2.2.2.2 (nI s) _) hC hN (by omega) ?_⟩
    rw [← hSo]
    have io : ∀ k, 14 ≤ k → k ≤ 19 → z_in (nI s) (So.2.2.1 k) = true := fun k q1 q2 => by rw [hSo]; exact hC.in h0 hs q1 q2
    have ib : ∀ k, 14 ≤ k → k ≤ 19 → z_in (nI s) (Sb.2.2.1 k) = true := fun k q1 q2 => by rw [hSb]; exact io k q1 q2
    have ic : ∀ k, 14 ≤ k → k ≤ 19 → z_in (nI s) (Sc.2.2.1 k) = true := fun k q1 q2 => by rw [hSc]; exact ib k q1 q2
    show p97_125 62 So.1 So.2.1 So.2.2.1 So.2.2.2.1 So.2.2.2.2.1 So.2.2.2.2.2 (nI s) _
    unfold p97_125
    rw [ci, show So.1 15 = S.1 15 by rw [hSo, z_opn_o (by decide)], show So.1 16 = S.1 16 by rw [hSo, z_opn_o (by decide)], e15, e16]
    refine ⟨io 15 (by decide) (by decide), io 16 (by decide) (by decide), hCo.2.1.rm.1, ?_⟩
    refine k87x (lv := 61) (G := fun S1 => p97_147 62 S1.1 S1.2.1 S1.2.2.1 S1.2.2.2.1 S1.2.2.2.2.1 S1.2.2.2.2.2 (nI s) _) hCo hN (by omega) mx1 (by omega) ?_
    rw [← hSb]
    show p97_147 62 Sb.1 Sb.2.1 Sb.2.2.1 Sb.2.2.2.1 Sb.2.2.2.2.1 Sb.2.2.2.2.2 (nI s) _
    unfold p97_147
    rw [ci, oSb 18 (by decide), oSb 16 (by decide), e18, e16]
    refine ⟨ib 18 (by decide) (by decide), ib 16 (by decide) (by decide), hCb.2.1.rm.1, ?_⟩
    refine k92x (lv := 61) (G := fun v S1 => p97_173 62 S1.1 S1.2.1 S1.2.2.1 S1.2.2.2.1 S1.2.2.2.2.1 S1.2.2.2.2.2 (nI s) v nm2 _) hCb tl' t3 ?_
    rw [tT']
    refine ⟨hCb.2.1.rm.1, k87x (lv := 61) (G := fun S1 => p97_176 62 S1.1 S1.2.1 S1.2.2.1 S1.2.2.2.1 S1.2.2.2.2.1 S1.2.2.2.2.2 (nI s) _) hCb hNb (by omega) mx2 (by omega) ?_⟩
    rw [← hSc]
    show p97_176 62 Sc.1 Sc.2.1 Sc.2.2.1 Sc.2.2.2.1 Sc.2.2.2.2.1 Sc.2.2.2.2.2 (nI s) _
    unfold p97_176
    rw [hCc.2.2.2.2.1.2.2, cρ1, ci, hCc.fF]
    rw [hSa] at hQ
    exact ⟨zρ1, ic 15 (by decide) (by decide), rfl, hQ⟩
  -- the reference opens
  have X0 := hj.2.1.2.1.tr (z_XU_stg (R := R) (P := P) (st := 0))
  have cc200 : cc + 2 < 190000 := by have := hb.2.2.1; omega
  have bR : τ.2.2 < 1500 := by
    have := hb.2.2.2.2
    have := z_cf_le (a := S0.1 14) (show s ≤ ce by omega)
    omega
  have l1' : t1 < τ.2.2 := Nat.lt_of_lt_of_le l1 te0.2.1
  have l2' : t2 < τ.2.2 := Nat.lt_of_lt_of_le l2 te0.2.1
  obtain ⟨T2, m2, q2, R2, run2, hR2, to2, oR2, oU2⟩ := r158x (l := 7) (e := row) (hj.2.1.stg (st := 0) (p := P)) bR l1' l2'
  obtain ⟨τa, hτa⟩ : ∃ X : z_TT, X = (τ.1, (T2, m2)) := ⟨_, rfl⟩
  have tea : z_Te τ τa := by
    rw [hτa]
    exact ⟨⟨Nat.le_refl _, fun _ _ _ => rfl⟩, to2.1, to2.2.2.1⟩
  have tqf : z_Tqd 51 τa (nI t) (nI q2) := by
    refine ⟨t, q2, rfl, rfl, by rw [hτa]; exact tl', by rw [hτa]; exact to2.2.2.2.2.1, ?_, ?_⟩
    · rw [hτa]
      show z_dt τ.1.1 t = z_dt T2 q2
      rw [z_dt_s hC.1.1 t3 tl', tT', z_dt_s hR2.1.1 to2.2.2.2.1 to2.2.2.2.2.1, to2.2.2.2.2.2, z_dt_e hj.2.1.1.1 to2.2.2.1 l1', z_dt_e hj.2.1.1.1 to2.2.2.1 l2', z_dt_e h1.2.2.2.1 te0.1.2 (show a < τ0.1.2 by omega), z_dt_e h1.2.2.2.1 te0.1.2 (show r < τ0.1.2 by omega), z_dt_e h1.2.2.2.2 te0.2.2 l1, z_dt_e h1.2.2.2.2 te0.2.2 l2, d1, d2]
    · rw [hτa]
      exact z_Tv.all hC.1.1 hC.1.2.1.2 t tl'
  have tqa : z_Tqd 51 τa (nI a) (nI t1) := by
    have q : z_Tqd 51 τ0 (nI a) (nI t1) := ⟨a, t1, rfl, rfl, by omega, l1, d1, by
      have q := (hC.1.2.1.2 t t3 tl').1
      rw [tT', z_ad_e h1.2.2.2.1 te0.1.2 (show a < τ0.1.2 by omega)] at q
      exact Nat.le_trans q (by decide)⟩
    exact (q.x h1.2.2.2.1 h1.2.2.2.2 te0).x hC.1.1 hj.2.1.1.1 tea
  obtain ⟨Rb, hRb⟩ : ∃ X : z_RS, X = z_bnd cc (z_fn 0 (R0.1 64) m) (z_fn 0 (R0.1 65) m) (nI q2) (z_ko κ N) R2 := ⟨_, rfl⟩
  obtain ⟨Rc, hRc⟩ : ∃ X : z_RS, X = z_bnd (cc + 1) (z_fn 0 (R0.1 66) m) (z_fn 0 (R0.1 67) m) (nI t1) (nI cc) Rb := ⟨_, rfl⟩
  obtain ⟨Ra, hRa⟩ : ∃ X : z_RS, X = z_pil (P + 1) x (nI (cc + 1)) Rc := ⟨_, rfl⟩
  have hRb' : z_KR R0 T2 m2 (cc + 1) (P + 1) Rb := by rw [hRb]; exact hR2.bnd
  have hRc' : z_KR R0 T2 m2 (cc + 2) (P + 1) Rc := by rw [hRc]; exact hRb'.bnd
  have hRa' : z_KR R0 T2 m2 (cc + 2) (P + 1 + 1) Ra := by rw [hRa]; exact hRc'.pil
  have hp0 : z_tpk P m 0 (z_ko κ N) R := by
    rw [hN]
    exact hp
  have re1 : ∀ Q, z_WR 10 183 19 [(0, .ref 148)] [] Ra Q → z_WR 10 183 19 [(0, .ref 148)] [] R Q := by
    intro Q hQ
    rw [hRa] at hQ
    refine r183 hj.2.1 (by omega) hp0 m6 hk ?_
    show p183_167 9 (z_stg P 0 R).1 (z_stg P 0 R).2.1 (z_stg P 0 R).2.2 (nI P) (nI m) (nI 0) (z_ko κ N) Q
    refine t188_0 (l := 8) (B := (z_stg P 0 R).1) (M := (z_stg P 0 R).2.1) (U := (z_stg P 0 R).2.2) ?_
    unfold p188_0
    rw [if_neg (by decide)]
    unfold p188_33
    rw [if_neg (by decide)]
    unfold p188_111
    rw [cm, X0.1 64 (by decide) (by decide), X0.1 65 (by decide) (by decide), X0.1 68 (by decide) (by decide), X0.1 69 (by decide) (by decide), X0.1 70 (by decide) (by decide), et1, et2, ← hrow]
    refine ⟨zm, zm, zm, zm, zm, _, _, run2, nI q2, rfl, ?_⟩
    refine r186 (l := 7) (R := R2) (cc := cc) (G := fun v R2 => p188_150 8 R2.1 R2.2.1 R2.2.2 (nI m) (nI 0) (z_ko κ N) v _) hR2.2.2.1 (by omega) ?_
    rw [← hRb]
    unfold p188_150
    rw [if_pos (show nI 0 = (0 : Int32) from rfl)]
    unfold p188_156
    have X1 := hRb'.2.1
    rw [cm, X1.1 58 (by decide) (by decide), X1.1 66 (by decide) (by decide), X1.1 67 (by decide) (by decide), X1.1 68 (by decide) (by decide), h58, et1]
    refine ⟨zm, zm, zm, zm, r186 (l := 7) (R := Rb) (cc := cc + 1) (G := fun v R2 => p188_187 8 R2.1 R2.2.1 R2.2.2 (nI m) (nI 0) (z_ko κ N) (nI cc) v (nI x) _) hRb'.2.2.1 (by omega) ?_⟩
    rw [← hRc]
    exact r184 (l := 7) (R := Rc) (G := fun R2 => p188_190 8 R2.1 R2.2.1 R2.2.2 (nI m) (nI 0) (z_ko κ N) (nI cc) _) hRc'.2.2.2.1 hP ⟨rfl, hQ⟩
  refine z_JG.cl (z_JG.re ?_ re1) cls
  have cxs : z_ctx S0.1 (s + 1) = (nm2 :: nm :: (z_ctx S0.1 s).1, N :: (z_ctx S0.1 s).2) := by
    rw [z_ctx_s ho, hnm', hnm2', hN]
    rfl
  have hls : (z_ctx S0.1 (s + 1)).1.length = N + 2 := by
    rw [cxs, hN]
    rfl
  obtain ⟨κ1, hκ1⟩ : ∃ X, X = z_kp κ N cc := ⟨_, rfl⟩
  obtain ⟨κ2, hκ2⟩ : ∃ X, X = z_kp κ1 (N + 1) (cc + 1) := ⟨_, rfl⟩
  have ko1 : z_ko κ1 (N + 1) = nI cc := by
    rw [hκ1]
    show nI (z_kp κ N cc N) = nI cc
    rw [z_kp_n]
  have hjc : z_Kj b n τ0 S0 R0 (s + 1) τa H (ρ + 1) (N + 2) (cc + 2) (P + 1 + 1) κ2 Sa Ra := by
    have k0 : z_Kq b n τa N κ cc S R2 := ((hj.q hN).te hC.1.1 hj.2.1.1.1 tea).cg (fun k _ _ j _ => rfl) (fun k q1 q2 j _ => by rw [oR2 k (by omega), z_stg_o (by omega)]) (Nat.le_refl _)
    have k1 : z_Kq b n τa (N + 1) κ1 (cc + 1) Sb Rb := by
      rw [hκ1, hRb]
      exact k0.bnd (nm := nm) (ty := nI t) (by rw [hSb, z_bnc_31, hSo, z_opn_o (by decide)]) (by rw [hSb, z_bnc_32, hSo, z_opn_o (by decide)]) (by rw [hnm']; exact hnm) tqf
    have k2 : z_Kq b n τa (N + 2) κ2 (cc + 2) Sa Rc := by
      rw [hκ2, hRc, ← ko1]
      exact k1.bnd (nm := nm2) (ty := nI a) (by rw [hSa, z_row_o (by decide), hSc, z_bnc_31]) (by rw [hSa, z_row_o (by decide), hSc, z_bnc_32]) (by rw [hnm2']; exact hnm2) tqa
    have k3 : z_Kq b n τa (N + 2) κ2 (cc + 2) Sa Ra := k2.cg (fun k _ _ j _ => rfl) (fun k q1 q2 j _ => by rw [hRa, z_pil_o (by omega)]) (Nat.le_refl _)
    refine k3.j hls.symm ?_ ?_ (te0.tr tea)
    · have q : z_KC S0 (s + 1) τ.1.1 τ.1.2 H (ρ + 1) (N + 2) Sc := by
        unfold z_KC
        rw [cxs]
        exact hCc.mv (Nat.le_succ s)
      rw [hSa, hτa]
      exact q.row (Or.inr (Or.inl rfl)) (Nat.lt_succ_self s)
    · rw [hτa]
      exact hRa'
  have hko : z_ko κ2 (z_ctx S0.1 (s + 1)).1.length = nI (cc + 1) := by
    rw [hls, hκ2]
    show nI (z_kp κ1 (N + 1) (cc + 1) (N + 1)) = nI (cc + 1)
    rw [z_kp_n]
  have cf1 : z_cf (S0.1 14) (s + 1) = z_cf (S0.1 14) s + 1 := z_cf_1 (Or.inr (Or.inl ho))
  have cfg := z_cf_le (a := S0.1 14) (show g ≤ g + 2 by omega)
  have cfd := z_cf_le (a := S0.1 14) (show d ≤ d + 1 from Nat.le_succ d)
  have cfc := z_cf_le (a := S0.1 14) (show g ≤ ce by omega)
  have cfc2 := z_cf_le (a := S0.1 14) (show d ≤ ce by omega)
  have a1 : τa.1 = τ.1 := by rw [hτa]
  have a2 : τa.2.2 = m2 := by rw [hτa]
  have m2b := to2.2.1
  refine ihx Φ hΦ τa H (ρ + 1) (N + 2) (cc + 2) (P + 1) κ2 Sa Ra hjc (by rw [hko, hRa]; exact z_pil_tk) ⟨⟨by have := hb.1.1; omega, by rw [hls]; have := hb.1.2.1; omega, by have := hb.1.2.2; omega⟩, ?_, ?_, ?_⟩ ?_
  · have := hb.2.1
    have := w1.1.1
    have := w1.1.2
    have := w1.2.2
    omega
  · have := hb.2.2.1
    omega
  · have := hb.2.2.2.1
    have := hb.2.2.2.2
    rw [a1, a2]
    constructor <;> omega
  intro τ1 mo1 cc1 S1 R1 hke1
  obtain ⟨hj1, te1, fk1, fl1, ⟨mo01, cc01, cc1b, tb1, tb1'⟩, ⟨p1, ty1, ef1⟩, ag1, rm1, cx1, tj1⟩ := hke1
  rw [hls] at fk1
  rw [a1] at tb1
  rw [a2] at tb1'
  have hp1 : z_tpk P m 1 (z_ko κ N) R1 := by
    refine hp0.of (Ra := Ra) ?_ ?_ ?_ fl1 (Nat.lt_succ_self _)
    · rw [hRa, z_pil_102, z_fcn (by omega), hRc, z_bnd_o (by decide), hRb, z_bnd_o (by decide), oR2 102 (by decide), z_stg_o (by decide)]
    · rw [hRa, z_pil_103, z_fcn (by omega), hRc, z_bnd_o (by decide), hRb, z_bnd_o (by decide), oR2 103 (by decide), z_stg_103, z_fcs]
    · rw [hRa, z_pil_104, z_fcn (by omega), hRc, z_bnd_o (by decide), hRb, z_bnd_o (by decide), oR2 104 (by decide), z_stg_o (by decide)]
  have hC1 := hj1.1
  have cg : (nI g).toNatClampNeg = g := nI_clamp (by omega)
  have b1 : τ1.1.2 < 1500 := by have := hb.2.2.2.1; omega
  have b2 : τ1.2.2 < 1500 := by have := hb.2.2.2.2; omega
  -- types
  have TC1 := hC1.1
  have TR1 := hj1.2.1.1
  obtain ⟨c, c', ec, ec', lc, lc', dc, -⟩ := id ty1
  have te01 := hj1.2.2.1
  have tl1 : t < τ1.1.2 := Nat.lt_of_lt_of_le tl te01.1.1
  have tT1 : τ1.1.1 t = (a, r, row) := (te01.1.2 t t3 tl).trans tT
  have lr1 : r < τ1.1.2 := by omega
  have l11 : t1 < τ1.2.2 := Nat.lt_of_lt_of_le l1 te01.2.1
  have l21 : t2 < τ1.2.2 := Nat.lt_of_lt_of_le l2 te01.2.1
  have dr1 : z_dt τ1.1.1 r = z_dt τ1.2.1 t2 := by
    rw [z_dt_e h1.2.2.2.1 te01.1.2 (show r < τ0.1.2 by omega), z_dt_e h1.2.2.2.2 te01.2.2 l2, d2]
  have fx := z_ftt_x TC1.1 TR1.1 _ c r (Nat.le_refl _) lc lr1 c' t2 lc' l21 dc dr1
  have q2l : q2 < τ1.2.2 := Nat.lt_of_lt_of_le to2.2.2.2.2.1 (by have q := te1.2.1; rw [a2] at q; exact q)
  have q2T : τ1.2.1 q2 = (t1, t2, row) := by
    have q := te1.2.2 q2 to2.2.2.2.1 (by rw [a2]; exact to2.2.2.2.2.1)
    rw [q, hτa]
    exact to2.2.2.2.2.2
  -- the class at the end of the body
  have cxg : z_ctx S0.1 g = (nm2 :: nm :: (z_ctx S0.1 s).1, N :: (z_ctx S0.1 s).2) := cx1.trans cxs
  have cxg1 : z_ctx S0.1 (g + 1) = z_ctx S0.1 s := by
    rw [z_ctx_s hog, cxg]
    rfl
  have hCx1 : z_KCx S0 g (nm2 :: nm :: (z_ctx S0.1 s).1, N :: (z_ctx S0.1 s).2) τ1.1.1 τ1.1.2 (H + 1) (ρ + 1) mo1 S1 := by
    have q := hC1
    unfold z_KC at q
    rw [cxg] at q
    exact q
  have eog : z_fn 0 (S1.1 14) g = 20 := (hC1.2.2.2.1 14 (by decide) g (Nat.le_refl _)).trans hog
  have cH : (nI H).toNatClampNeg = H := nI_clamp (by omega)
  have zH : z_in (nI H) 256 = true := z_inI (by omega) (by decide)
  have cN : (nI N).toNatClampNeg = N := nI_clamp (by omega)
  have zN : z_in (nI N) 128 = true := z_inI (by omega) (by decide)
  have v7 : S1.2.2.2.1 27 7 - 1 = nI H := by rw [hCx1.2.2.2.2.1.1]; exact nI_pred H
  have a32 : z_fn 0 (S1.1 32) N = nI t := by
    rw [fk1.2.1 32 (by decide) (by decide) N (by omega), hSa, z_row_o (by decide), hSc, z_bnc_32, z_fcn (by omega), hSb, z_bnc_32, z_fcs]
  have fle : ∀ y, y ∈ N :: (z_ctx S0.1 s).2 → y ≤ (z_ctx S0.1 s).1.length := by
    intro y hy
    rcases List.mem_cons.mp hy with q | q
    · rw [q, hN]
      exact Nat.le_refl _
    · exact hC.2.2.2.2.2.2.1.2.2 y q
  have m35 : z_fn 0 (S1.1 35) ρ = nI mo := by
    rw [fk1.2.2.2.1 ρ (Nat.lt_succ_self _), hSa, z_row_o (by decide), hSc, z_bnc_35, z_fcn (by omega), hSb, z_bnc_35, z_fcn (by omega), hSo, z_opn_35, z_fcn (by omega)]
    exact hC.2.2.2.2.2.2.2.1
  have a33 : z_fn 0 (S1.1 33) (ρ + 1) = nI s := by
    rw [fk1.2.2.1 33 (by decide) (ρ + 1) (Nat.le_refl _), hSa, z_row_o (by decide), hSc, z_bnc_o (by decide) (by decide) (by decide), hSb, z_bnc_o (by decide) (by decide) (by decide), hSo, z_opn_33, z_fcs]
  have moN : N ≤ mo1 := by omega
  have cl : ∀ Q, p101_30 61 S1.1 S1.2.1 S1.2.2.1 S1.2.2.2.1 S1.2.2.2.2.1 S1.2.2.2.2.2 (nI g) (nI t) (nI r) (nI H) (z_cx (z_cx Q (fun x S1 => x = none ∧ z_WC 64 82 31 [(0, .ref 134), (1, .int (nI (g + 1)))] [] S1 Q)) (fun x S1 => x = none ∧ p97_202 62 S1.1 S1.2.1 S1.2.2.1 S1.2.2.2.1 S1.2.2.2.2.1 S1.2.2.2.2.2 (nI g) (z_cx Q (fun x S1 => x = none ∧ z_WC 64 82 31 [(0, .ref 134), (1, .int (nI (g + 1)))] [] S1 Q)))) → z_WC 64 82 31 [(0, .ref 134), (1, .int (nI g))] [] S1 Q := by
    intro Q hQ
    refine k97 (o := 20) hC1 h0 hgc hog (by decide) (by decide) ?_
    refine t97_0 (A := S1.1) (E := S1.2.1) (N := S1.2.2.1) (V := S1.2.2.2.1) (W := S1.2.2.2.2.1) (c := S1.2.2.2.2.2) ?_
    unfold p97_0
    rw [cg, eog]
    refine ⟨hC1.in h0 hgc (by decide) (by decide), ?_⟩
    rw [if_neg (by decide), if_neg (by decide), if_neg (by decide), if_pos rfl]
    refine ⟨hC1.2.1.rm.1, t101_0 (l := 61) ?_⟩
    unfold p101_0
    rw [hCx1.2.2.2.2.1.2.2, cρ1, hCx1.fF, cN, v7, a32]
    refine ⟨zρ1, zN, hC1.2.1.rm.1, k95 (l := 60) (G := fun v S2 => p101_30 61 S2.1 S2.2.1 S2.2.2.1 S2.2.2.2.1 S2.2.2.2.2.1 S2.2.2.2.2.2 (nI g) (nI t) v (nI H) _) hC1 tl1 t3 ?_⟩
    rw [tT1]
    exact hQ
  -- the reference behind the body
  have X1 := hj1.2.1.2.1.tr (z_XU_stg (R := R1) (P := P) (st := 1))
  have tyS : z_TyR (z_stg P 1 R1).1 (z_stg P 1 R1).2.2 τ1.2.1 τ1.2.2 := (hj1.2.1.stg).1
  obtain ⟨v, B', M', hrr, hv, hB, hM⟩ := w189x (l := 7) (R := z_stg P 1 R1) tyS lc' l21
  obtain ⟨E1, hE1⟩ : ∃ E : Int32, E = z_fn 0 (R1.1 107) x := ⟨_, rfl⟩
  have re : ∀ Q, p188_60 8 B' M' (z_stg P 1 R1).2.2 (nI m) (nI 1) (z_ko κ N) v (fun x R1 => x = none ∧ z_WR 10 183 19 [(0, .ref 148)] [] R1 Q) → z_WR 10 183 19 [(0, .ref 148)] [] R1 Q := by
    intro Q hQ
    refine r183 hj1.2.1 (by omega) hp1 m6 hk ?_
    show p183_167 9 (z_stg P 1 R1).1 (z_stg P 1 R1).2.1 (z_stg P 1 R1).2.2 (nI P) (nI m) (nI 1) (z_ko κ N) Q
    refine t188_0 (l := 8) (B := (z_stg P 1 R1).1) (M := (z_stg P 1 R1).2.1) (U := (z_stg P 1 R1).2.2) ?_
    unfold p188_0
    rw [if_neg (by decide)]
    unfold p188_33
    rw [if_pos (show nI 1 = (1 : Int32) from rfl)]
    unfold p188_38
    rw [cm, X1.1 58 (by decide) (by decide), X1.1 69 (by decide) (by decide), h58, cx', z_stg_o (k := 106) (by decide), ec', et2]
    exact ⟨zm, zx, zm, _, _, hrr, v, rfl, hQ⟩
  have bb : ∀ k, 57 ≤ k → k ≤ 70 → B' k = R0.1 k := fun k q1 q2 => (hB k (by omega)).trans (X1.1 k (by omega) (by omega))
  have b107 : B' 107 = R1.1 107 := (hB 107 (by decide)).trans (z_stg_o (by decide))
  have xx : z_XU R1 (B', M', (z_stg P 1 R1).2.2) := z_XU_stg.tr (z_XU_fit hB hM)
  have f0 : (z_stg P 1 R1).2.2 41 11 = 0 := hj1.2.1.2.2.2.2.1
  have r82 : (z_stg P 1 R1).2.2 41 82 = nI (P + 1) := hj1.2.1.2.2.2.1
  have r77 : (z_stg P 1 R1).2.2 41 77 = nI cc1 := hj1.2.1.2.2.1
  have cc1l : cc1 + 1 < 190000 := by have := hb.2.2.1; omega
  have hRf := ((hj1.2.1.stg (st := 1) (p := P)).fit hB hM)
  have b70 : B' 70 = R0.1 70 := bb 70 (by decide) (by decide)
  have b58 : B' 58 = R0.1 58 := bb 58 (by decide) (by decide)
  have b61 : B' 61 = R0.1 61 := bb 61 (by decide) (by decide)
  -- once a fault is told
  have dead : ∀ (x1 : Int32) Q, (x1 = 6 ∨ x1 = 7) → (∀ R', z_Td x1 (z_fn 0 (R0.1 61) m) R'.2.2 → z_XU R1 R' → Q none R') → p188_111 8 B' M' (z_UF (z_stg P 1 R1).2.2 x1 (z_fn 0 (R0.1 61) m)) (nI m) (nI 1) (z_ko κ N) (fun x R1 => x = none ∧ z_WR 10 183 19 [(0, .ref 148)] [] R1 Q) := by
    intro x1 Q hx1 hQ
    have td : z_Td x1 (z_fn 0 (R0.1 61) m) (z_UF (z_stg P 1 R1).2.2 x1 (z_fn 0 (R0.1 61) m)) := z_Td_F (by rcases hx1 with rfl | rfl <;> decide)
    unfold p188_111
    rw [cm, bb 64 (by decide) (by decide), bb 65 (by decide) (by decide), bb 68 (by decide) (by decide), bb 69 (by decide) (by decide), b70, et1, et2, ← hrow]
    have tyF : z_TyR B' (z_UF (z_stg P 1 R1).2.2 x1 (z_fn 0 (R0.1 61) m)) τ1.2.1 τ1.2.2 := hRf.1.kp (fun _ _ _ => rfl) (by
      show z_v (z_v (z_stg P 1 R1).2.2 41 11 x1) 41 12 (z_fn 0 (R0.1 61) m) 41 13 = (z_stg P 1 R1).2.2 41 13
      rw [z_vn (by decide), z_vn (by decide)])
    refine ⟨zm, zm, zm, zm, zm, r158h (l := 7) (R := (B', M', z_UF (z_stg P 1 R1).2.2 x1 (z_fn 0 (R0.1 61) m))) tyF l11 l21 to2.2.2.2.1 q2l q2T ⟨nI q2, rfl, ?_⟩⟩
    have u77 : z_UF (z_stg P 1 R1).2.2 x1 (z_fn 0 (R0.1 61) m) 41 77 = nI cc1 := by
      show z_v (z_v (z_stg P 1 R1).2.2 41 11 x1) 41 12 (z_fn 0 (R0.1 61) m) 41 77 = _
      rw [z_vn (by decide), z_vn (by decide)]
      exact r77
    refine r186 (l := 7) (R := (B', M', z_UF (z_stg P 1 R1).2.2 x1 (z_fn 0 (R0.1 61) m))) (cc := cc1) (G := fun v R2 => p188_150 8 R2.1 R2.2.1 R2.2.2 (nI m) (nI 1) (z_ko κ N) v _) u77 (by omega) ?_
    unfold p188_150
    rw [if_neg (by decide)]
    unfold p188_193
    have td2 : ∀ q wd ty nx, z_Td x1 (z_fn 0 (R0.1 61) m) (z_bnd cc1 q wd ty nx (B', M', z_UF (z_stg P 1 R1).2.2 x1 (z_fn 0 (R0.1 61) m))).2.2 := fun _ _ _ _ => ⟨td.1, td.2.1, td.2.2⟩
    rw [if_neg (td2 _ _ _ _).n0]
    exact ⟨rfl, r183d (l := 9) (td2 _ _ _ _) (hQ _ (td2 _ _ _ _) ((xx.tr (z_XU_F (R := (B', M', (z_stg P 1 R1).2.2)))).tr z_XU_bnd))⟩
  by_cases hf : z_ftt τ1.1.1 c r
  rotate_left
  · have hf' : ¬ z_ftt τ1.2.1 c' t2 := fun q => hf (fx.mpr q)
    refine z_JG.dead (x := 6) (y := z_fn 0 (R0.1 61) m) hΦ hC1.2.2.1 hj1.2.1.2.1 (fun Q hQ => cl Q ?_) (fun Q hQ => re Q ?_)
    · unfold p101_30
      exact ⟨hC1.2.1.rm.1, k93f (l := 60) (by decide) hC1 (by omega) ec lc lr1 hf (fun S' hy => ⟨rfl, rfl, hQ S' (by rw [← p1]; exact hy)⟩)⟩
    · rcases hv with ⟨-, q⟩ | ⟨rfl, -⟩
      · exact absurd q hf'
      · unfold p188_60
        rw [cm, b61]
        refine ⟨zm, r190f (l := 7) (R := (B', M', (z_stg P 1 R1).2.2)) f0 ?_⟩
        show p188_71 8 B' M' (z_UF (z_stg P 1 R1).2.2 6 (z_fn 0 (R0.1 61) m)) (nI m) (nI 1) (z_ko κ N) (fun x R1 => x = none ∧ z_WR 10 183 19 [(0, .ref 148)] [] R1 Q)
        have td : z_Td 6 (z_fn 0 (R0.1 61) m) (z_UF (z_stg P 1 R1).2.2 6 (z_fn 0 (R0.1 61) m)) := z_Td_F (by decide)
        have d2 := dead 6 Q (Or.inl rfl) hQ
        unfold p188_71
        rw [cm, b58, h58]
        refine ⟨zm, zx, zm, ?_⟩
        split
        · unfold p188_95 p188_100
          exact ⟨zm, r190d (l := 7) (R := (B', M', z_UF (z_stg P 1 R1).2.2 6 (z_fn 0 (R0.1 61) m))) (G := fun R1 => p188_111 8 R1.1 R1.2.1 R1.2.2 (nI m) (nI 1) (z_ko κ N) _) td d2⟩
        · unfold p188_99 p188_100
          exact ⟨zm, r190d (l := 7) (R := (B', M', z_UF (z_stg P 1 R1).2.2 6 (z_fn 0 (R0.1 61) m))) (G := fun R1 => p188_111 8 R1.1 R1.2.1 R1.2.2 (nI m) (nI 1) (z_ko κ N) _) td d2⟩
  have hv1 : v = 1 := by
    rcases hv with ⟨q, -⟩ | ⟨-, q⟩
    · exact q
    · exact absurd (fx.mp hf) q
  subst hv1
  have rf : ∀ Q, p188_71 8 B' M' (z_stg P 1 R1).2.2 (nI m) (nI 1) (z_ko κ N) (fun x R1 => x = none ∧ z_WR 10 183 19 [(0, .ref 148)] [] R1 Q) → z_WR 10 183 19 [(0, .ref 148)] [] R1 Q := by
    intro Q hQ
    refine re Q ?_
    unfold p188_60
    exact ⟨zm, r190 (l := 7) (R := (B', M', (z_stg P 1 R1).2.2)) (G := fun R1 => p188_71 8 R1.1 R1.2.1 R1.2.2 (nI m) (nI 1) (z_ko κ N) _) hQ⟩
  have clf : ∀ Q, p101_48 61 S1.1 S1.2.1 S1.2.2.1 S1.2.2.2.1 S1.2.2.2.2.1 S1.2.2.2.2.2 (nI g) (nI t) row (nI H) (z_cx (z_cx Q (fun x S1 => x = none ∧ z_WC 64 82 31 [(0, .ref 134), (1, .int (nI (g + 1)))] [] S1 Q)) (fun x S1 => x = none ∧ p97_202 62 S1.1 S1.2.1 S1.2.2.1 S1.2.2.2.1 S1.2.2.2.2.1 S1.2.2.2.2.2 (nI g) (z_cx Q (fun x S1 => x = none ∧ z_WC 64 82 31 [(0, .ref 134), (1, .int (nI (g + 1)))] [] S1 Q)))) → z_WC 64 82 31 [(0, .ref 134), (1, .int (nI g))] [] S1 Q := by
    intro Q hQ
    refine cl Q ?_
    unfold p101_30
    refine ⟨hC1.2.1.rm.1, k93 (l := 60) (G := fun S1 => p101_33 61 S1.1 S1.2.1 S1.2.2.1 S1.2.2.2.1 S1.2.2.2.2.1 S1.2.2.2.2.2 (nI g) (nI t) _) (by decide) hC1 (by omega) ec lc lr1 hf ?_⟩
    unfold p101_33
    refine ⟨hC1.2.1.rm.1, k25 (l := 60) (G := fun v S2 => p101_48 61 S2.1 S2.2.1 S2.2.2.1 S2.2.2.2.1 S2.2.2.2.2.1 S2.2.2.2.2.2 (nI g) (nI t) v ((S1.2.2.2.1 27 7) - 1) _) hC1 tl1 t3 ?_⟩
    rw [tT1, v7]
    exact hQ
  by_cases hr : (E1 &&& (row ^^^ (-1))) = 0
  rotate_left
  · refine z_JG.dead (x := 7) (y := z_fn 0 (R0.1 61) m) hΦ hC1.2.2.1 hj1.2.1.2.1 (fun Q hQ => clf Q ?_) (fun Q hQ => rf Q ?_)
    · unfold p101_48
      exact ⟨hC1.2.1.rm.1, k102f (lv := 60) hC1.2.1 (by omega) (by rw [ef1, ← hE1]; exact hr) (fun S' hy => ⟨rfl, rfl, hQ S' (by rw [← p1]; exact hy)⟩)⟩
    · unfold p188_71
      rw [cm, b58, h58, b70, cx', b107, ← hE1, ← hrow, if_neg hr]
      refine ⟨zm, zx, zm, ?_⟩
      unfold p188_99 p188_100
      rw [cm, b61]
      exact ⟨zm, r190f (l := 7) (R := (B', M', (z_stg P 1 R1).2.2)) (G := fun R1 => p188_111 8 R1.1 R1.2.1 R1.2.2 (nI m) (nI 1) (z_ko κ N) _) f0 (dead 7 Q (Or.inr rfl) hQ)⟩
  -- both go on
  obtain ⟨Rd, hRd⟩ : ∃ X : z_RS, X = z_bnd cc1 (z_fn 0 (R0.1 64) m) (z_fn 0 (R0.1 65) m) (nI q2) (z_ko κ N) (B', M', (z_stg P 1 R1).2.2) := ⟨_, rfl⟩
  have hRd' : z_KR R0 τ1.2.1 τ1.2.2 (cc1 + 1) (P + 1) Rd := by rw [hRd]; exact hRf.bnd
  obtain ⟨Re, hRe⟩ : ∃ X : z_RS, X = z_pil (P + 1) y (nI cc1) Rd := ⟨_, rfl⟩
  have hRe' : z_KR R0 τ1.2.1 τ1.2.2 (cc1 + 1) (P + 1 + 1) Re := by rw [hRe]; exact hRd'.pil
  have re2 : ∀ Q, z_WR 10 183 19 [(0, .ref 148)] [] Re Q → z_WR 10 183 19 [(0, .ref 148)] [] R1 Q := by
    intro Q hQ
    refine rf Q ?_
    unfold p188_71
    rw [cm, b58, h58, b70, cx', b107, ← hE1, ← hrow, if_pos hr]
    refine ⟨zm, zx, zm, ?_⟩
    unfold p188_95 p188_100
    refine ⟨zm, r190 (l := 7) (R := (B', M', (z_stg P 1 R1).2.2)) (G := fun R1 => p188_111 8 R1.1 R1.2.1 R1.2.2 (nI m) (nI 1) (z_ko κ N) _) ?_⟩
    show p188_111 8 B' M' (z_stg P 1 R1).2.2 (nI m) (nI 1) (z_ko κ N) (fun x R1 => x = none ∧ z_WR 10 183 19 [(0, .ref 148)] [] R1 Q)
    unfold p188_111
    rw [cm, bb 64 (by decide) (by decide), bb 65 (by decide) (by decide), bb 68 (by decide) (by decide), bb 69 (by decide) (by decide), b70, et1, et2, ← hrow]
    refine ⟨zm, zm, zm, zm, zm, r158h (l := 7) (R := (B', M', (z_stg P 1 R1).2.2)) hRf.1 l11 l21 to2.2.2.2.1 q2l q2T ⟨nI q2, rfl, ?_⟩⟩
    refine r186 (l := 7) (R := (B', M', (z_stg P 1 R1).2.2)) (cc := cc1) (G := fun v R2 => p188_150 8 R2.1 R2.2.1 R2.2.2 (nI m) (nI 1) (z_ko κ N) v _) r77 (by omega) ?_
    rw [← hRd]
    unfold p188_150
    rw [if_neg (by decide)]
    unfold p188_193
    rw [if_pos hRd'.2.2.2.2.1]
    unfold p188_200
    rw [cm, hRd'.2.1.1 59 (by decide) (by decide), h59]
    rw [hRe] at hQ
    exact ⟨zm, r184 (l := 7) (R := Rd) (G := fun R2 => p188_212 8 R2.1 R2.2.1 R2.2.2 (nI m) (nI 1) (z_ko κ N) (nI cc1) _) hRd'.2.2.2.1 hP ⟨rfl, hQ⟩⟩
  -- the class closes the region
  obtain ⟨pg, hpg⟩ : ∃ pg : Int32, pg = z_fn 0 (S0.1 19) g := ⟨_, rfl⟩
  have hCp := (hCx1.pop H).fgt (fun y hy => Nat.le_trans (fle y hy) (Nat.le_succ _))
  have hCq := hCp.fgt fle
  obtain ⟨S2b, hS2b⟩ : ∃ X : z_CS, X = (S1.1, S1.2.1, S1.2.2.1, z_v (z_v S1.2.2.2.1 27 7 (nI H)) 27 10 (nI (z_ctx S0.1 s).1.length), S1.2.2.2.2.1, S1.2.2.2.2.2) := ⟨_, rfl⟩
  have hC2 : z_KCx S0 g ((z_ctx S0.1 s).1, N :: (z_ctx S0.1 s).2) τ1.1.1 τ1.1.2 H (ρ + 1) mo1 S2b := by
    have e1 : z_v (z_v (z_v S1.2.2.2.1 27 7 (nI H)) 27 10 (nI (nm :: (z_ctx S0.1 s).1).length)) 27 10 (nI (z_ctx S0.1 s).1.length) = z_v (z_v S1.2.2.2.1 27 7 (nI H)) 27 10 (nI (z_ctx S0.1 s).1.length) := z_vv
    rw [hS2b, ← e1]
    exact hCq
  obtain ⟨S3, hS3⟩ : ∃ X : z_CS, X = z_cloz s (mo1 - N) ρ S2b := ⟨_, rfl⟩
  have sb : S2b.1 = S1.1 := by rw [hS2b]
  have hC3 : z_KC S0 (g + 1) τ1.1.1 τ1.1.2 H ρ mo S3 := by
    unfold z_KC
    rw [cxg1, hS3]
    exact (hC2.cls (by rw [sb]; exact m35) ⟨hC.2.2.2.2.2.2.2.2.1, hC.2.2.2.2.2.2.2.2.2⟩ (fun y hy => fle y (List.mem_cons_of_mem _ hy)) (by omega)).mv (Nat.le_succ g)
  obtain ⟨S4, hS4⟩ : ∃ X : z_CS, X = z_hold H (nI t) 0 pg S3 := ⟨_, rfl⟩
  have hC4 : z_KC S0 (g + 1) τ1.1.1 τ1.1.2 (H + 1) ρ mo S4 := by
    rw [hS4]
    exact hC3.hold (nI t) 0 pg
  have clg : ∀ Q, z_WC 64 82 31 [(0, .ref 134), (1, .int (nI (g + 1)))] [] S4 Q → z_WC 64 82 31 [(0, .ref 134), (1, .int (nI g))] [] S1 Q := by
    intro Q hQ
    refine clf Q ?_
    unfold p101_48
    refine ⟨hC1.2.1.rm.1, k102 (lv := 60) (G := fun S1 => p101_51 61 S1.1 S1.2.1 S1.2.2.1 S1.2.2.2.1 S1.2.2.2.2.1 S1.2.2.2.2.2 (nI g) (nI t) _) (by omega) (by rw [ef1, ← hE1]; exact hr) ?_⟩
    have v10 : S1.2.2.2.1 27 10 - 2 = nI (z_ctx S0.1 s).1.length := by
      rw [hCx1.2.2.2.2.1.2.1]
      exact pk_sub (a := (z_ctx S0.1 s).1.length + 2) (b := 2) (by omega)
    unfold p101_51
    rw [v7, v10, ← hS2b]
    refine ⟨hC1.2.1.rm.1, k100 (lv := 60) (o := s) (G := fun S3 => p101_75 61 S3.1 S3.2.1 S3.2.2.1 S3.2.2.2.1 S3.2.2.2.2.1 S3.2.2.2.2.2 (nI g) (nI t) _) hC2 h0 (by rw [sb]; exact a33) hs (by omega) moN ?_⟩
    rw [← hS3]
    show p101_75 61 S3.1 S3.2.1 S3.2.2.1 S3.2.2.2.1 S3.2.2.2.2.1 S3.2.2.2.2.2 (nI g) (nI t) _
    refine ⟨hC3.2.1.rm.1, k84 (l := 60) (G := fun S4 => p101_82 61 S4.1 S4.2.1 S4.2.2.1 S4.2.2.2.1 S4.2.2.2.2.1 S4.2.2.2.2.2 (nI g) (nI t) _) hC3 h0 hgc (by omega) ?_⟩
    rw [← hpg, ← hS4]
    exact ⟨rfl, rfl, hQ⟩
  -- the name is bound
  obtain ⟨nm3, hnm3'⟩ : ∃ nm3 : Int32, nm3 = z_fn 0 (S0.1 15) (g + 1) := ⟨_, rfl⟩
  obtain ⟨mo', hmo'⟩ : ∃ mo', mo' = max mo (N + 1) := ⟨_, rfl⟩
  have hNg : N = (z_ctx S0.1 (g + 1)).1.length := by rw [cxg1]; exact hN
  obtain ⟨F, hF0, hF2, clb⟩ := k86 (nm := nm3) (ty := nI t) hC4 h0 (show g + 1 < ce by omega) hob hNg (by omega) (by omega) (by omega) hmo' hnm3' (by rw [hS4, z_hold_28, z_fcs])
  obtain ⟨S5, hS5⟩ : ∃ X : z_CS, X = z_row 15 (g + 1) (nI (N - F)) (z_bnc N ρ nm3 (nI t) mo' S4) := ⟨_, rfl⟩
  rw [← hS5] at clb
  refine z_JG.cl (z_JG.cl (z_JG.re ?_ re2) clb) clg
  have cxb : z_ctx S0.1 (g + 2) = (nm3 :: (z_ctx S0.1 s).1, (z_ctx S0.1 s).2) := by
    rw [show g + 2 = g + 1 + 1 from rfl, z_ctx_s hob, hnm3', cxg1]
    rfl
  have hlg : (z_ctx S0.1 (g + 2)).1.length = N + 1 := by
    rw [cxb, hN]
    rfl
  have o3 : ∀ q, q ≠ 18 → S3.1 q = S1.1 q := fun q c => by rw [hS3, z_cloz_o c, sb]
  have o4 : ∀ q, q ≠ 18 → ¬ (28 ≤ q ∧ q ≤ 30) → S4.1 q = S1.1 q := fun q c e => by rw [hS4, z_hold_o e, o3 q c]
  have kq1 : z_Kq b n τ1 N κ cc1 S1 R1 := by
    have q := hj1.q (N := N + 2) (by rw [cxg, hN]; rfl)
    rw [hκ2] at q
    have q' : z_Kq b n τ1 (N + 1) κ1 cc1 S1 R1 := z_Kq.fgt q
    rw [hκ1] at q'
    exact q'.fgt
  have hjy : z_Kj b n τ0 S0 R0 (g + 2) τ1 (H + 1) ρ mo' (cc1 + 1) (P + 1 + 1) (z_kp κ N cc1) S5 Re := by
    have k0 : z_Kq b n τ1 N κ cc1 S4 (B', M', (z_stg P 1 R1).2.2) := kq1.cg (fun k q1 q2 j _ => by rw [o4 k (by omega) (by omega)]) (fun k q1 q2 j _ => by
      show z_fn 0 (B' k) j = _
      rw [hB k (by omega), z_stg_o (by omega)]) (Nat.le_refl _)
    have k1 : z_Kq b n τ1 (N + 1) (z_kp κ N cc1) (cc1 + 1) S5 Rd := by
      rw [hRd]
      exact k0.bnd (nm := nm3) (ty := nI t) (by rw [hS5, z_row_o (by decide), z_bnc_31]) (by rw [hS5, z_row_o (by decide), z_bnc_32]) (by rw [hnm3']; exact hnm3) (tqf.x (by rw [hτa]; exact hC.1.1) (by rw [hτa]; exact hR2.1.1) te1)
    have k2 : z_Kq b n τ1 (N + 1) (z_kp κ N cc1) (cc1 + 1) S5 Re := k1.cg (fun k _ _ j _ => rfl) (fun k q1 q2 j _ => by rw [hRe, z_pil_o (by omega)]) (Nat.le_refl _)
    refine k2.j hlg.symm ?_ hRe' te01
    have q : z_KC S0 (g + 2) τ1.1.1 τ1.1.2 (H + 1) ρ mo' (z_bnc N ρ nm3 (nI t) mo' S4) := by
      unfold z_KC
      rw [cxb, ← cxg1]
      exact (z_KCx.bnx hC4 hNg (by omega) hmo').mv (Nat.le_succ _)
    rw [hS5]
    exact q.row (Or.inr (Or.inl rfl)) (Nat.lt_succ_self (g + 1))
  have hkoy : z_ko (z_kp κ N cc1) (z_ctx S0.1 (g + 2)).1.length = nI cc1 := by
    rw [hlg]
    show nI (z_kp κ N cc1 N) = nI cc1
    rw [z_kp_n]
  refine ihy Φ hΦ τ1 (H + 1) ρ mo' (cc1 + 1) (P + 1) (z_kp κ N cc1) S5 Re hjy (by rw [hkoy, hRe]; exact z_pil_tk) ⟨⟨by have := hb.1.1; omega, by rw [hlg]; have := hb.1.2.1; omega, by have := hb.1.2.2; omega⟩, ?_, ?_, ?_⟩ ?_
  · have := hb.2.1
    have := w2.1.1
    have := w2.1.2
    have := w2.2.2
    omega
  · have := hb.2.2.1
    omega
  · have := hb.2.2.2.1
    have := hb.2.2.2.2
    constructor <;> omega
  intro τ2 mo2 cc2 S6 R6 hke2
  obtain ⟨hj2, te2, fk2, fl2, ⟨mo12, cc12, cc2b, tb2, tb2'⟩, ⟨p2, ty2, ef2⟩, ag2, rm2, cx2, tj2⟩ := hke2
  rw [hlg] at fk2
  have hC6 := hj2.1
  have hdc : d < ce := by omega
  have hp2 : z_tpk P m 2 (z_ko κ N) R6 := by
    refine hp1.of (Ra := Re) ?_ ?_ ?_ fl2 (Nat.lt_succ_self _)
    · rw [hRe, z_pil_102, z_fcn (by omega), hRd, z_bnd_o (by decide)]
      show z_fn 0 (B' 102) P = _
      rw [hB 102 (by decide), z_stg_o (by decide)]
    · rw [hRe, z_pil_103, z_fcn (by omega), hRd, z_bnd_o (by decide)]
      show z_fn 0 (B' 103) P = _
      rw [hB 103 (by decide), z_stg_103, z_fcs]
    · rw [hRe, z_pil_104, z_fcn (by omega), hRd, z_bnd_o (by decide)]
      show z_fn 0 (B' 104) P = _
      rw [hB 104 (by decide), z_stg_o (by decide)]
  have X := hj2.2.1.2.1.tr (z_XU_stg (R := R6) (P := P) (st := 2))
  have r82' : (z_stg P 2 R6).2.2 41 82 = nI (P + 1) := hj2.2.1.2.2.2.1
  obtain ⟨E, hE⟩ : ∃ E : Int32, E = z_fn 0 (R6.1 107) y := ⟨_, rfl⟩
  obtain ⟨tz, htz⟩ : ∃ tz : Int32, tz = z_fn 0 (S6.1 28) (H + 1) := ⟨_, rfl⟩
  obtain ⟨tz', htz'⟩ : ∃ tz' : Int32, tz' = z_fn 0 (R6.1 106) y := ⟨_, rfl⟩
  have re3 : ∀ Q, z_WR 10 183 19 [(0, .ref 148)] [] (z_typ P m tz' E (z_stg P 2 R6)) Q → z_WR 10 183 19 [(0, .ref 148)] [] R6 Q := by
    intro Q hQ
    refine r183 hj2.2.1 (by omega) hp2 m6 hk ?_
    show p183_167 9 (z_stg P 2 R6).1 (z_stg P 2 R6).2.1 (z_stg P 2 R6).2.2 (nI P) (nI m) (nI 2) (z_ko κ N) Q
    refine t188_0 (l := 8) (B := (z_stg P 2 R6).1) (M := (z_stg P 2 R6).2.1) (U := (z_stg P 2 R6).2.2) ?_
    unfold p188_0
    rw [if_pos (show nI 2 = (2 : Int32) from rfl)]
    unfold p188_5
    rw [cm, X.1 59 (by decide) (by decide), h59, cy', z_stg_o (k := 106) (by decide), z_stg_o (k := 107) (by decide), ← hE, ← htz']
    exact ⟨zm, zy, zm, zy, r187 (l := 7) (P := P) (G := fun R1 => p188_32 8 R1.1 R1.2.1 R1.2.2 (nI m) (nI 2) (z_ko κ N) _) r82' m6 ⟨rfl, hQ⟩⟩
  refine z_JG.re ?_ re3
  have hH29 : z_fn 0 (S6.1 29) H = 0 := by
    rw [fk2.1 29 (by decide) (by decide) H (Nat.lt_succ_self _), hS5, z_row_o (by decide), z_bnc_o (by decide) (by decide) (by decide), hS4, z_hold_29, z_fcs]
  have cxd : z_ctx S0.1 d = (nm3 :: (z_ctx S0.1 s).1, (z_ctx S0.1 s).2) := cx2.trans cxb
  have cxe : z_ctx S0.1 (d + 1) = z_ctx S0.1 s := by
    rw [z_ctx_s hoe, cxd]
    rfl
  refine k126 (E := E) (tz := tz) hC6 h0 hdc hoe cxd (fun y hy => fle y (List.mem_cons_of_mem _ hy)) (by omega) htz (by rw [ef2, hH29, Int32.zero_or, Int32.or_zero, hE]) h19 ?_
  intro S7 s7 hC7
  have hC8 := hC7.hold tz E p
  have hR8 := (hj2.2.1.stg (st := 2) (p := P)).typ (m := m) (ty := tz') (ef := E)
  have o8 : ∀ q, ¬ (28 ≤ q ∧ q ≤ 30) → (z_hold H tz E p S7).1 q = S6.1 q := fun q a => by rw [z_hold_o a, s7]
  have o5 : ∀ q, q ≠ 15 → ¬ (31 ≤ q ∧ q ≤ 35) → S5.1 q = S4.1 q := fun q c e => by rw [hS5, z_row_o c, z_bnc_o (by omega) (by omega) (by omega)]
  have fka : z_Fk s (d + 1) H ρ N S Sa := by
    rw [hSa, hSc, hSb, hSo]
    exact (((z_Fk.opn (Nat.lt_succ_self ρ)).tr ((z_Fk.bnc (ρ := ρ + 1) (Nat.le_refl N)).wk (Nat.le_refl _) (Nat.le_succ ρ) (Nat.le_refl _) (Nat.le_refl _) (Nat.le_refl _))).tr ((z_Fk.bnc (ρ := ρ + 1) (Nat.le_succ N)).wk (Nat.le_refl _) (Nat.le_succ ρ) (Nat.le_refl _) (Nat.le_refl _) (Nat.le_refl _))).tr (z_Fk.row (Or.inr (Or.inl rfl)) ⟨Nat.le_refl _, by omega⟩)
  have fkb : z_Fk s (d + 1) H ρ N S1 S4 := by
    have q0 : z_Fk s (d + 1) H ρ N S1 S2b := z_Fk.eqA (fun k _ => by rw [sb])
    have q : z_Fk s (d + 1) H ρ N S2b S3 := by
      rw [hS3]
      exact z_Fk.cls ⟨Nat.le_refl _, by omega⟩
    rw [hS4]
    exact (q0.tr q).tr (z_Fk.hold (Nat.le_refl _))
  have fkc0 : z_Fk (g + 1) (g + 2) H ρ N S4 S5 := by
    rw [hS5]
    exact (z_Fk.bnc (Nat.le_refl N)).tr (z_Fk.row (Or.inr (Or.inl rfl)) ⟨by omega, by omega⟩)
  have fkc : z_Fk s (d + 1) H ρ N S4 S5 := fkc0.wk (Nat.le_refl _) (Nat.le_refl _) (Nat.le_refl _) (by omega) (by omega)
  have fkd : z_Fk s (d + 1) H ρ N S6 (z_hold H tz E p S7) := (z_Fk.eqA (fun k _ => by rw [s7])).tr (z_Fk.hold (Nat.le_refl _))
  have fk : z_Fk s (d + 1) H ρ N S (z_hold H tz E p S7) := ((((fka.tr (fk1.wk (Nat.le_refl _) (Nat.le_succ ρ) (by omega) (Nat.le_succ s) (by omega))).tr fkb).tr fkc).tr (fk2.wk (Nat.le_succ _) (Nat.le_refl _) (Nat.le_succ N) (by omega) (Nat.le_succ d))).tr fkd
  have fl : z_Fl u cc P R (z_typ P m tz' E (z_stg P 2 R6)) := by
    have f0 : z_Fl u cc P (z_stg P 0 R) R2 := ⟨fun k a b j c => by rw [oR2 k (by omega)], fun k a b j c => by rw [oR2 k (by omega)], fun k a b j c => by rw [oR2 k (by omega)]⟩
    have f1 : z_Fl u cc P R2 Ra := by
      rw [hRa, hRc, hRb]
      exact ((z_Fl.bnd (Nat.le_refl _)).tr (z_Fl.bnd (Nat.le_succ _))).tr (z_Fl.pil (Nat.le_succ _))
    have f2 : z_Fl u cc P R1 Re := by
      rw [hRe, hRd]
      exact (((z_Fl.stg (Nat.le_refl _)).tr (z_Fl_fit (R := z_stg P 1 R1) hB)).tr (z_Fl.bnd (by omega))).tr (z_Fl.pil (Nat.le_succ _))
    exact (((((((z_Fl.stg (Nat.le_refl _)).tr f0).tr f1).tr (fl1.wk (by omega) (Nat.le_succ _) ⟨w1.1.1, w1.1.2⟩)).tr f2).tr (fl2.wk (by omega) (Nat.le_succ _) ⟨w2.1.1, w2.1.2⟩)).tr (z_Fl.stg (Nat.le_refl _))).tr (z_Fl.typ hm)
  have kq2 : z_Kq b n τ2 N κ cc2 S6 R6 := (hj2.q (N := N + 1) (by rw [cxd, hN]; rfl)).fgt
  have mox : mo ≤ mo' := by rw [hmo']; exact Nat.le_max_left _ _
  have ct : z_Cw b n 8 τ0 S0.1 R0.1 w u m s (d + 1) (z_gl τ (S.1 32) (z_ctx S0.1 s).1.length) (z_shx τ2 (z_fn 0 (S6.1 28) (H + 1))) := by
    have t15 : t < 1500 := by have := hC.1.2.1.1; omega
    have sa : ∀ i, τa.1.1 i = τ.1.1 i := fun i => by rw [hτa]
    have eA : ∀ x, z_shx τa x = z_shx τ x := fun x => by
      unfold z_shx
      rw [hτa]
    have e0 := z_gl_e (τ := τ) (a := S.1 32) (a' := S.1 32) N (fun j _ => rfl)
    have eG : z_gl τa (S.1 32) N = z_gl τ (S.1 32) N := by
      have q : ∀ k, z_gl τa (S.1 32) k = z_gl τ (S.1 32) k := by
        intro k
        induction k with
        | zero => rfl
        | succ k ih => rw [z_gl_s, z_gl_s, ih, eA]
      exact q N
    have sF : z_shx τ (nI t) = z_fz (z_shx τ (nI a)) (z_shx τ (nI r)) := by
      rw [z_shx_n t15, z_shx_n (by omega), z_shx_n (by omega), z_sh_s hC.1.1 t3 tl', tT']
    have g2 : z_gl τa (Sa.1 32) (N + 2) = z_shx τ (nI a) :: z_shx τ (nI t) :: z_gl τ (S.1 32) (z_ctx S0.1 s).1.length := by
      rw [show N + 2 = N + 1 + 1 from rfl, z_gl_s, z_gl_s, hSa, z_row_o (by decide), hSc, z_bnc_32, z_fcs, z_fcn (by omega), hSb, z_bnc_32, z_fcs, eA, eA, ← hN, ← eG]
      exact congrArg (_ :: _ :: ·) (z_gl_e N (fun j hj => by rw [z_fcn (by omega), z_fcn (by omega), hSo, z_opn_o (by decide)]))
    rw [hls, g2, sF] at tj1
    have s1 : z_shx τ1 (z_fn 0 (S1.1 28) H) = z_shx τ (nI r) := by
      rw [ec, z_shx_n (by omega), z_shx_n (by omega), z_sh_ftt TC1.1 _ c r (Nat.le_refl _) lc lr1 hf]
      have q := z_sh_e (T := τ.1.1) (T' := τ1.1.1) hC.1.1 (fun i a1' a2' => (te1.1.2 i a1' (by rw [a1]; exact a2')).trans (sa i)) (t := r) (by omega)
      exact q
    rw [s1] at tj1
    have s4 : ∀ j, j < N → z_fn 0 (S4.1 32) j = z_fn 0 (S.1 32) j := fun j hj => by
      rw [o4 32 (by decide) (by decide), fk1.2.1 32 (by decide) (by decide) j (by omega), hSa, z_row_o (by decide), hSc, z_bnc_32, z_fcn (by omega), hSb, z_bnc_32, z_fcn (by omega), hSo, z_opn_o (by decide)]
    have g3 : z_gl τ1 (S5.1 32) (N + 1) = z_shx τ (nI t) :: z_gl τ (S.1 32) (z_ctx S0.1 s).1.length := by
      have q1 : z_gl τ1 (S.1 32) N = z_gl τ (S.1 32) N := by
        rw [← eG]
        exact z_gl_t (τ := τa) (τ' := τ1) (B := R2.1 100) (κ := κ) (by rw [hτa]; exact hC.1.1) (by rw [hτa]; exact hC.1.2.1.1) te1 N (fun j hj' => (((hj.q hN).te hC.1.1 hj.2.1.1.1 tea).cg (S' := S) (R' := R2) (fun k _ _ j _ => rfl) (fun k q1 q2 j _ => by rw [oR2 k (by omega), z_stg_o (by omega)]) (Nat.le_refl _)).2 j hj')
      have q2 : z_shx τ1 (nI t) = z_shx τ (nI t) := by
        rw [z_shx_n t15, z_shx_n t15]
        exact z_sh_e (T := τ.1.1) (T' := τ1.1.1) hC.1.1 (fun i a1' a2' => (te1.1.2 i a1' (by rw [a1]; exact a2')).trans (sa i)) tl'
      rw [z_gl_s, hS5, z_row_o (by decide), z_bnc_32, z_fcs, q2, ← hN, ← q1]
      exact congrArg (_ :: ·) (z_gl_e N (fun j hj => by rw [z_fcn (by omega), s4 j hj]))
    rw [hlg, g3, sF] at tj2
    exact z_Cw.mk (by omega) hm (fun f hf' => Or.inr (Or.inr (Or.inr (Or.inr (Or.inr (Or.inl ⟨hk, x, y, g, _, _, v1, v2, ⟨x6, y6, w1, w2, w3⟩, h58, h59, hsg, hge, ho, hnm, hnm2, ⟨hw, tj1 f (by omega)⟩, h17, hog, hob, hnm3, ⟨hw, tj2 f (by show d ≤ _; omega)⟩, hoe⟩))))))
  refine fin τ2 mo2 cc2 _ _ ⟨?_, (tea.tr te1).tr te2, by rw [← hN]; exact fk, fl, ⟨by omega, by omega, by omega, by omega, by omega⟩, ⟨?_, ?_, ?_⟩, ?_, ?_, cxe, by rw [z_hold_28, z_fcs, htz]; exact ct⟩
  · refine (kq2.cg (S' := z_hold H tz E p S7) (R' := z_typ P m tz' E (z_stg P 2 R6)) (fun k a b j c => ?_) (fun k a b j c => ?_) (Nat.le_refl _)).j (by rw [cxe]; exact hN) hC8 hR8 hj2.2.2.1
    · rw [o8 k (by omega)]
    · rw [z_typ_o (by omega), z_stg_o (by omega)]
  · rw [z_hold_30, z_fcs]
  · rw [z_hold_28, z_fcs, z_typ_106, z_fcs, htz, htz']
    exact ty2
  · rw [z_hold_29, z_fcs, z_typ_107, z_fcs]
  · intro j j1 j2
    by_cases q9 : j = s
    · rw [q9]
      have g15 : z_fn 0 ((z_hold H tz E p S7).1 15) s = nI N := by
        rw [o8 15 (by decide), fk2.2.2.2.2 15 (by decide) s (by omega), hS5, z_row_k, z_fcn (by omega), z_bnc_o (by decide) (by decide) (by decide), o4 15 (by decide) (by decide), fk1.2.2.2.2 15 (by decide) s (by omega), hSa, z_row_k, z_fcs]
      have g14 : z_fn 0 ((z_hold H tz E p S7).1 14) s = z_fn 0 (S0.1 14) s := by
        rw [o8 14 (by decide), fk2.2.2.2.2 14 (by decide) s (by omega), o5 14 (by decide) (by decide), o4 14 (by decide) (by decide), fk1.2.2.2.2 14 (by decide) s (by omega), oSa 14 (by decide) (by decide)]
        exact hC.2.2.2.1 14 (by decide) s (Nat.le_refl _)
      have g18 : z_fn 0 ((z_hold H tz E p S7).1 18) s = nI (mo1 - N) := by
        rw [o8 18 (by decide), fk2.2.2.2.2 18 (by decide) s (by omega), o5 18 (by decide) (by decide), hS4, z_hold_o (by decide), hS3, z_cloz_18, z_fcs]
      refine ⟨fun _ => g14, fun q => ?_, fun q => ?_, fun _ => ⟨by rw [g15, hN], g, mo1 - N, h17, g18, ?_, ?_⟩, fun q => absurd (Or.inr (Or.inr (Or.inr (Or.inl ho)))) q, fun q => absurd (Or.inr (Or.inl ho)) q⟩
      · rw [ho] at q
        exact absurd q (by decide)
      · rw [ho] at q
        exact absurd q (by decide)
      · have := hC1.2.2.2.2.2.2.2.2.2
        omega
      · intro j3 j4 j5 j6
        have q := rm1 j3 j4 j5 (by rw [j6, hC.2.2.2.2.2.2.1.1])
        omega
    · by_cases q8 : j < g + 1
      · have s4 : ∀ q, q = 14 ∨ q = 15 ∨ q = 18 → z_fn 0 ((z_hold H tz E p S7).1 q) j = z_fn 0 (S1.1 q) j := by
          intro q hq
          rw [o8 q (by omega), fk2.2.2.2.2 q hq j (by omega), fkc0.2.2.2.2 q hq j (by omega)]
          by_cases q1 : q = 18
          · rw [q1, hS4, z_hold_o (by decide), hS3, z_cloz_18, z_fcn q9, sb]
          · rw [o4 q q1 (by omega)]
        by_cases q7 : j < g
        · exact (ag1 j (by omega) q7).e s4
        · have ej : j = g := by omega
          rw [ej] at s4 ⊢
          refine z_ag.sm (by rw [hog]; decide) (fun q hq => ?_)
          rw [s4 q hq]
          exact hC1.2.2.2.1 q hq g (Nat.le_refl _)
      · by_cases q7 : j = g + 1
        · rw [q7]
          have g15 : z_fn 0 ((z_hold H tz E p S7).1 15) (g + 1) = nI (N - F) := by
            rw [o8 15 (by decide), fk2.2.2.2.2 15 (by decide) (g + 1) (by omega), hS5, z_row_k, z_fcs]
          have gk : ∀ q, q = 14 ∨ q = 18 → z_fn 0 ((z_hold H tz E p S7).1 q) (g + 1) = z_fn 0 (S0.1 q) (g + 1) := by
            intro q hq
            rw [o8 q (by omega), fk2.2.2.2.2 q (by omega) (g + 1) (by omega), o5 q (by omega) (by omega)]
            exact hC4.2.2.2.1 q (by omega) (g + 1) (Nat.le_refl _)
          refine ⟨fun _ => gk 14 (Or.inl rfl), fun q => ?_, fun _ => by rw [g15, hF0, hNg], fun q => ?_, fun q => absurd (Or.inr (Or.inl hob)) q, fun _ => gk 18 (Or.inr rfl)⟩
          · rw [hob] at q
            exact absurd q (by decide)
          · rw [hob] at q
            exact absurd q (by decide)
        · by_cases q6 : j < d
          · exact (ag2 j (by omega) q6).e (fun q hq => by rw [o8 q (by omega)])
          · have ej : j = d := by omega
            rw [ej]
            refine z_ag.sm (by rw [hoe]; decide) (fun q hq => ?_)
            rw [o8 q (by omega)]
            exact hC6.2.2.2.1 q hq d (Nat.le_refl _)
  · intro j j1 j2 jl
    have base : (z_ctx S0.1 s).1.length ≤ mo2 := Nat.le_trans hC.2.2.2.2.2.2.2.2.1 (by omega)
    by_cases q9 : j = s
    · rw [q9]
      exact base
    · by_cases q8 : j ≤ g
      · have q := (hfl.2.1 j (by omega) q8).1
        rw [cxs, jl] at q
        have q' : (N :: (z_ctx S0.1 s).2).length ≤ ρ + 1 := q
        rw [List.length_cons, hC.2.2.2.2.2.2.1.1] at q'
        omega
      · by_cases q7 : j = g + 1
        · rw [q7, cxg1]
          exact base
        · by_cases q6 : j ≤ d
          · exact rm2 j (by omega) q6 jl
          · have ej : j = d + 1 := by omega
            rw [ej, cxe]
            exact base
end ZAA
