/-! Checking, both together: a call. -/
section ZSA
variable {b : Nat → Nat} {n : Nat} {τ0 τ : z_TT} {S0 S : z_CS} {R0 R : z_RS} {i H ρ mo cc P : Nat} {κ : Nat → Nat} {T : Nat → Nat × Nat × Int32} {mT : Nat}
theorem z_Kj.adv (h : z_Kj b n τ0 S0 R0 i τ H ρ mo cc P κ S R) (e : z_ctx S0.1 (i + 1) = z_ctx S0.1 i) : z_Kj b n τ0 S0 R0 (i + 1) τ H ρ mo cc P κ S R := by
  obtain ⟨h1, h2, h3, h4, h5⟩ := h
  refine ⟨h1.adv e, h2, h3, ?_, ?_⟩
  · rw [e]; exact h4
  · rw [e]; exact h5
theorem z_KC.ti (h : z_KC S0 i T mT H ρ mo S) {a k : Nat} (ha : a < mT) (k9 : 9 ≤ k) (k12 : k ≤ 11) : z_in (nI a) (S.2.2.1 k) = true := by
  have b := h.2.1.1 k (by unfold z_gk; rcases (show k = 9 ∨ k = 10 ∨ k = 11 by omega) with rfl | rfl | rfl <;> rfl)
  have c := z_mxl_b k
  have q := h.1.2.2.2.1
  refine z_inI ?_ (by omega)
  rcases (show k = 9 ∨ k = 10 ∨ k = 11 by omega) with rfl | rfl | rfl <;> omega
theorem k92 {l a : Nat} {Q : z_V → z_CS → Prop} {G : Int32 → z_CS → Prop} (h : z_KC S0 i T mT H ρ mo S) (ha : a < mT) (a3 : 3 ≤ a) (k : G (nI (T a).1) S) : z_WC (l + 1) 92 0 [(0, .ref 115), (1, .int (nI a))] [] S (z_cx Q (fun x S1 => ∃ v : Int32, x = some (.int v) ∧ G v S1)) := by
  have ca : (nI a).toNatClampNeg = a := nI_clamp (by have := h.1.2.1.1; omega)
  refine t92_0 (A := S.1) (E := S.2.1) (N := S.2.2.1) (V := S.2.2.2.1) (W := S.2.2.2.2.1) (c := S.2.2.2.2.2) ?_
  unfold p92_0
  rw [ca, (h.1.2.2.2.2.2 a a3 ha).1]
  exact ⟨h.ti ha (by decide) (by decide), _, rfl, k⟩
theorem k95 {l a : Nat} {Q : z_V → z_CS → Prop} {G : Int32 → z_CS → Prop} (h : z_KC S0 i T mT H ρ mo S) (ha : a < mT) (a3 : 3 ≤ a) (k : G (nI (T a).2.1) S) : z_WC (l + 1) 95 0 [(0, .ref 115), (1, .int (nI a))] [] S (z_cx Q (fun x S1 => ∃ v : Int32, x = some (.int v) ∧ G v S1)) := by
  have ca : (nI a).toNatClampNeg = a := nI_clamp (by have := h.1.2.1.1; omega)
  refine t95_0 (A := S.1) (E := S.2.1) (N := S.2.2.1) (V := S.2.2.2.1) (W := S.2.2.2.2.1) (c := S.2.2.2.2.2) ?_
  unfold p95_0
  rw [ca, (h.1.2.2.2.2.2 a a3 ha).2.1]
  exact ⟨h.ti ha (by decide) (by decide), _, rfl, k⟩
theorem k25 {l a : Nat} {Q : z_V → z_CS → Prop} {G : Int32 → z_CS → Prop} (h : z_KC S0 i T mT H ρ mo S) (ha : a < mT) (a3 : 3 ≤ a) (k : G (T a).2.2 S) : z_WC (l + 1) 25 0 [(0, .ref 115), (1, .int (nI a))] [] S (z_cx Q (fun x S1 => ∃ v : Int32, x = some (.int v) ∧ G v S1)) := by
  have ca : (nI a).toNatClampNeg = a := nI_clamp (by have := h.1.2.1.1; omega)
  refine t25_0 (A := S.1) (E := S.2.1) (N := S.2.2.1) (V := S.2.2.2.1) (W := S.2.2.2.2.1) (c := S.2.2.2.2.2) ?_
  unfold p25_0
  rw [ca, (h.1.2.2.2.2.2 a a3 ha).2.2]
  exact ⟨h.ti ha (by decide) (by decide), _, rfl, k⟩
end ZSA
section ZSB
variable {b : Nat → Nat} {n me : Nat} {τ0 : z_TT} {ce : Nat} {S0 : z_CS} {R0 : z_RS} {w : Nat} {u v1 v2 : z_Bd} {m s e g x y : Nat} {p : Int32}
theorem n_call (h1 : z_K1 b n me τ0 ce S0 R0) (hm : u.1.1 ≤ m ∧ m < u.1.2) (hu6 : u.1.2 ≤ 600) (he : e ≤ ce) (hsg : s < g) (hge : g + 1 < e - 1) (hk : z_fn 0 (R0.1 57) m = 10) (w1 : z_S1 u m v1) (w2 : z_S1 u m v2) (w3 : v1.1.2 ≤ v2.1.1) (hxv : v1.1.1 ≤ x ∧ x < v1.1.2) (hyv : v2.1.1 ≤ y ∧ y < v2.1.2) (h58 : z_fn 0 (R0.1 58) m = nI x) (h59 : z_fn 0 (R0.1 59) m = nI y) (hog : z_fn 0 (S0.1 14) g = 14) (ho : z_fn 0 (S0.1 14) (e - 1) = 15) (h19 : z_fn 0 (S0.1 19) (e - 1) = p) (hw : z_wle 1 w)
    (ihx : z_Kn b n τ0 ce S0 R0 (w - 0) v1 x s g (z_fn 0 (R0.1 61) m)) (ihy : z_Kn b n τ0 ce S0 R0 (w - 1) v2 y (g + 1) (e - 1) (z_fn 0 (R0.1 62) m)) : z_Kn b n τ0 ce S0 R0 w u m s e p := by
  have hwm := hw.mod
  have hwc := hw.1
  intro Φ hΦ τ H ρ mo cc P κ S R hj hp hb fin
  obtain ⟨d, rfl⟩ : ∃ d, e = d + 1 := ⟨e - 1, by omega⟩
  simp only [Nat.add_sub_cancel] at hge ho h19 ihy
  obtain ⟨N, hN⟩ : ∃ N, N = (z_ctx S0.1 s).1.length := ⟨_, rfl⟩
  have h0 := h1.1
  have m6 : m < 600 := by omega
  have x6 : x < 600 := by have := w1.1.2; omega
  have y6 : y < 600 := by have := w2.1.2; omega
  have cm : (nI m).toNatClampNeg = m := nI_clamp (by omega)
  have cx' : (nI x).toNatClampNeg = x := nI_clamp (by omega)
  have cy' : (nI y).toNatClampNeg = y := nI_clamp (by omega)
  have zm : z_in (nI m) 600 = true := z_inI m6 (by decide)
  have zx : z_in (nI x) 600 = true := z_inI x6 (by decide)
  have zy : z_in (nI y) 600 = true := z_inI y6 (by decide)
  have hP : P + 1 < 700 := by
    have := hb.2.1
    have := w1.1.1
    have := w1.1.2
    have := w1.2.2
    omega
  have re1 : ∀ Q, z_WR 10 183 19 [(0, .ref 148)] [] (z_pil (P + 1) x (z_ko κ N) (z_stg P 0 R)) Q → z_WR 10 183 19 [(0, .ref 148)] [] R Q := by
    intro Q hQ
    rw [← hN] at hp
    refine r183 hj.2.1 (by omega) hp m6 hk ?_
    show p183_212 9 (z_stg P 0 R).1 (z_stg P 0 R).2.1 (z_stg P 0 R).2.2 (nI P) (nI m) (nI 0) (z_ko κ N) Q
    have e58 : (z_stg P 0 R).1 58 = R0.1 58 := (hj.2.1.2.1.tr z_XU_stg).1 58 (by decide) (by decide)
    refine t195_0 (l := 8) (B := (z_stg P 0 R).1) (M := (z_stg P 0 R).2.1) (U := (z_stg P 0 R).2.2) ?_
    unfold p195_0
    rw [if_pos (show nI 0 = (0 : Int32) from rfl)]
    unfold p195_4
    rw [cm, e58, h58]
    exact ⟨zm, r184 (l := 7) (G := fun R1 => p195_15 8 R1.1 R1.2.1 R1.2.2 (nI m) (nI 0) (z_ko κ N) _) hj.2.1.2.2.2.1 hP ⟨rfl, hQ⟩⟩
  refine z_JG.re ?_ re1
  refine ihx Φ hΦ τ H ρ mo cc (P + 1) κ S _ hj.pil (by rw [← hN]; exact z_pil_tk) ⟨⟨by have := hb.1.1; omega, by have := hb.1.2.1; omega, by have := hb.1.2.2; omega⟩, ?_, hb.2.2.1, hb.2.2.2⟩ ?_
  · have := hb.2.1
    have := w1.1.1
    have := w1.1.2
    have := w1.2.2
    omega
  intro τ1 mo1 cc1 S1 R1 hke1
  obtain ⟨hj1, te1, fk1, fl1, ⟨mo01, cc01, cc1b, tb1, tb1'⟩, ⟨p1, ty1, ef1⟩, ag1, rm1, cx1, tj1⟩ := hke1
  rw [← hN] at fk1
  have hp1 := z_tpk.aft hp fl1
  rw [← hN] at hp1
  have gce : g < ce := by omega
  have cg' : (nI g).toNatClampNeg = g := nI_clamp (by have := h0.2.1; omega)
  have hC1 := hj1.1
  have e71 : S1.2.2.2.1 27 7 - 1 = nI H := by rw [hC1.2.2.2.2.1.1]; exact nI_pred H
  have H256 : H + 2 ≤ 256 := by have := hb.1.1; omega
  have cH : (nI H).toNatClampNeg = H := nI_clamp (by omega)
  have zH : z_in (nI H) 256 = true := z_inI (by omega) (by decide)
  obtain ⟨a, a', ea, ea', la, la', da, -⟩ := id ty1
  have a15 : a < 1500 := by have := hC1.1.2.1.1; omega
  have a15' : a' < 1500 := by have := hj1.2.1.1.2.1; omega
  have a33 : a < 3 ↔ a' < 3 := by
    rcases z_dt_c hC1.1.1 hj1.2.1.1.1 la la' da with ⟨q1, q2⟩ | ⟨q1, q2, -⟩ <;> omega
  have cxg : z_ctx S0.1 (g + 1) = z_ctx S0.1 g := z_ctx_id (o := 14) hog (Or.inr (Or.inl ⟨by decide, by decide⟩))
  -- the class at the callee
  have clg : ∀ Q, p83_247 62 S1.1 S1.2.1 S1.2.2.1 S1.2.2.2.1 S1.2.2.2.2.1 S1.2.2.2.2.2 (nI g) (if 3 ≤ a then 1 else 0) (z_cx Q (fun x S1 => x = none ∧ z_WC 64 82 31 [(0, .ref 134), (1, .int (nI (g + 1)))] [] S1 Q)) → z_WC 64 82 31 [(0, .ref 134), (1, .int (nI g))] [] S1 Q := by
    intro Q hQ
    refine k83 (o := 14) hC1 h0 gce hog (by decide) ?_
    refine t83_0 (A := S1.1) (E := S1.2.1) (N := S1.2.2.1) (V := S1.2.2.2.1) (W := S1.2.2.2.2.1) (c := S1.2.2.2.2.2) ?_
    have eo : z_fn 0 (S1.1 14) g = 14 := (hC1.2.2.2.1 14 (by decide) g (Nat.le_refl _)).trans hog
    unfold p83_0
    rw [cg', eo]
    refine ⟨hC1.in h0 gce (by decide) (by decide), ?_⟩
    rw [if_neg (by decide), if_neg (by decide), if_neg (by decide), if_neg (by decide), if_neg (by decide), if_neg (by decide), if_neg (by decide), if_neg (by decide), if_neg (by decide), if_neg (by decide), if_neg (by decide), if_pos rfl]
    unfold p83_229
    rw [e71, cH, ea]
    refine ⟨zH, hC1.2.1.rm.1, w23 (l := 61) (S := S1) (by omega) ?_⟩
    intro v hv
    refine ⟨v, rfl, ?_⟩
    rcases hv with ⟨rfl, q⟩ | ⟨rfl, q⟩
    · rw [if_pos q] at hQ
      exact hQ
    · rw [if_neg (by omega)] at hQ
      exact hQ
  have X1 := hj1.2.1.2.1.tr (z_XU_stg (R := R1) (P := P) (st := 1))
  have ref1 : ∀ Q, p195_41 8 (z_stg P 1 R1).1 (z_stg P 1 R1).2.1 (z_stg P 1 R1).2.2 (nI m) (nI 1) (z_ko κ N) (nI a') (if 3 ≤ a then 1 else 0) (fun x R2 => x = none ∧ z_WR 10 183 19 [(0, .ref 148)] [] R2 Q) → z_WR 10 183 19 [(0, .ref 148)] [] R1 Q := by
    intro Q hQ
    refine r183 hj1.2.1 (by omega) hp1 m6 hk ?_
    show p183_212 9 (z_stg P 1 R1).1 (z_stg P 1 R1).2.1 (z_stg P 1 R1).2.2 (nI P) (nI m) (nI 1) (z_ko κ N) Q
    refine t195_0 (l := 8) (B := (z_stg P 1 R1).1) (M := (z_stg P 1 R1).2.1) (U := (z_stg P 1 R1).2.2) ?_
    unfold p195_0
    rw [if_neg (by decide)]
    unfold p195_16
    rw [cm, X1.1 58 (by decide) (by decide), h58, cx', z_stg_o (by decide), ea']
    refine ⟨zm, zx, ?_⟩
    by_cases q : 3 ≤ a
    · rw [if_pos q] at hQ
      rw [if_neg (show ¬ nI a' ≤ 2 from nI_ge (b := a') (a := 2) (by omega) (by omega))]
      exact hQ
    · rw [if_neg q] at hQ
      rw [if_pos (show nI a' ≤ 2 from nI_le (b := 2) (by omega) (by decide))]
      exact hQ
  have f01 : (z_stg P 1 R1).2.2 41 11 = 0 := hj1.2.1.2.2.2.2.1
  by_cases a3 : 3 ≤ a
  · rw [if_pos a3] at clg ref1
    have clg2 : ∀ Q, z_WC 64 82 31 [(0, .ref 134), (1, .int (nI (g + 1)))] [] S1 Q → z_WC 64 82 31 [(0, .ref 134), (1, .int (nI g))] [] S1 Q := by
      intro Q hQ
      refine clg Q ?_
      unfold p83_247
      rw [if_neg (by decide)]
      exact ⟨rfl, hQ⟩
    have re2 : ∀ Q, z_WR 10 183 19 [(0, .ref 148)] [] (z_pil (P + 1) y (z_ko κ N) (z_stg P 1 R1)) Q → z_WR 10 183 19 [(0, .ref 148)] [] R1 Q := by
      intro Q hQ
      refine ref1 Q ?_
      unfold p195_41
      refine ⟨zm, r190 (l := 7) ?_⟩
      unfold p195_52
      rw [if_pos (show (z_stg P 1 R1).2.2 41 11 ≤ 0 by rw [f01]; decide)]
      unfold p195_60
      rw [if_pos (show nI 1 = (1 : Int32) from rfl)]
      unfold p195_65
      rw [cm, X1.1 59 (by decide) (by decide), h59]
      exact ⟨zm, r184 (l := 7) (G := fun R2 => p195_76 8 R2.1 R2.2.1 R2.2.2 (nI m) (nI 1) (z_ko κ N) (nI a') _) hj1.2.1.2.2.2.1 hP ⟨rfl, hQ⟩⟩
    refine z_JG.cl (z_JG.re ?_ re2) clg2
    have cfl := z_cf_le (a := S0.1 14) (show g ≤ g + 1 from Nat.le_succ g)
    refine ihy Φ hΦ τ1 (H + 1) ρ mo1 cc1 (P + 1) κ S1 _ (hj1.adv cxg).pil (by rw [cxg, cx1, ← hN]; exact z_pil_tk) ⟨⟨by have := hb.1.1; omega, by rw [cxg, cx1]; have := hb.1.2.1; omega, by have := hb.1.2.2; omega⟩, ?_, ?_, ?_⟩ ?_
    · have := hb.2.1
      have := w2.1.1
      have := w2.1.2
      have := w2.2.2
      omega
    · have := hb.2.2.1
      omega
    · have := hb.2.2.2.1
      have := hb.2.2.2.2
      constructor <;> omega
    intro τ2 mo2 cc2 S2 R2 hke2
    obtain ⟨hj2, te2, fk2, fl2, ⟨mo12, cc12, cc2b, tb2, tb2'⟩, ⟨p2, ty2, ef2⟩, ag2, rm2, cx2, tj2⟩ := hke2
    rw [cxg, cx1, ← hN] at fk2
    have hp2 := z_tpk.aft hp1 fl2
    have hC := hj2.1
    have hdc : d < ce := by omega
    have cd : (nI d).toNatClampNeg = d := nI_clamp (by have := h0.2.1; omega)
    have xv2 : ¬ (v2.1.1 ≤ x ∧ x < v2.1.2) := by omega
    have isx : ∀ q, 106 ≤ q → q ≤ 107 → z_fn 0 (R2.1 q) x = z_fn 0 (R1.1 q) x := fun q a c => by rw [fl2.2.2 q a (by omega) x xv2, z_pil_o (by omega), z_stg_o (by omega)]
    have hdx : ∀ q, 28 ≤ q → q ≤ 30 → z_fn 0 (S2.1 q) H = z_fn 0 (S1.1 q) H := fun q a c => fk2.1 q a c H (Nat.lt_succ_self _)
    have T2 := hC.1
    have TR2 := hj2.2.1.1
    have ea2 : z_fn 0 (S2.1 28) H = nI a := (hdx 28 (by decide) (by decide)).trans ea
    have ea2' : z_fn 0 (R2.1 106) x = nI a' := (isx 106 (by decide) (by decide)).trans ea'
    have la2 : a < τ2.1.2 := Nat.lt_of_lt_of_le la te2.1.1
    have la2' : a' < τ2.2.2 := Nat.lt_of_lt_of_le la' te2.2.1
    have da2 : z_dt τ2.1.1 a = z_dt τ2.2.1 a' := by
      rw [z_dt_e hC1.1.1 te2.1.2 la, z_dt_e hj1.2.1.1.1 te2.2.2 la']
      exact da
    have a3' : 3 ≤ a' := by omega
    obtain ⟨row, dar, dre⟩ : (τ2.1.1 a).2.2 = (τ2.2.1 a').2.2 ∧ z_dt τ2.1.1 (τ2.1.1 a).1 = z_dt τ2.2.1 (τ2.2.1 a').1 ∧ z_dt τ2.1.1 (τ2.1.1 a).2.1 = z_dt τ2.2.1 (τ2.2.1 a').2.1 := by
      rcases z_dt_c T2.1 TR2.1 la2 la2' da2 with ⟨q1, q2⟩ | ⟨q1, q2, q3⟩
      · omega
      · exact q3
    obtain ⟨i1, i2, -⟩ := T2.1.2 a a3 la2
    obtain ⟨i1', i2', -⟩ := TR2.1.2 a' a3' la2'
    have l1 : (τ2.1.1 a).1 < τ2.1.2 := by omega
    have l2 : (τ2.1.1 a).2.1 < τ2.1.2 := by omega
    have l1' : (τ2.2.1 a').1 < τ2.2.2 := by omega
    have l2' : (τ2.2.1 a').2.1 < τ2.2.2 := by omega
    obtain ⟨c, c', ec, ec', lc, lc', dc, -⟩ := id ty2
    have fx := z_ftt_x T2.1 TR2.1 _ c (τ2.1.1 a).1 (Nat.le_refl _) lc l1 c' (τ2.2.1 a').1 lc' l1' dc dar
    obtain ⟨r46, r47, r48⟩ := TR2.2.2.2 a' a3' la2'
    have ca' : (nI a').toNatClampNeg = a' := nI_clamp (by omega)
    have za' : z_in (nI a') 1500 = true := z_inI a15' (by decide)
    have eo : z_fn 0 (S2.1 14) d = 15 := (hC.2.2.2.1 14 (by decide) d (Nat.le_refl _)).trans ho
    have e71' : S2.2.2.2.1 27 7 - 1 = nI (H + 1) := by rw [hC.2.2.2.2.1.1]; exact nI_pred (H + 1)
    have e72 : S2.2.2.2.1 27 7 - 2 = nI H := by rw [hC.2.2.2.2.1.1]; exact pk_sub (a := H + 2) (b := 2) (by omega)
    -- the class comes to the call
    have cl : ∀ Q, p91_27 61 S2.1 S2.2.1 S2.2.2.1 S2.2.2.2.1 S2.2.2.2.2.1 S2.2.2.2.2.2 (nI d) (nI a) (nI (τ2.1.1 a).1) (nI (H + 1)) (z_cx (z_cx Q (fun x S1 => x = none ∧ z_WC 64 82 31 [(0, .ref 134), (1, .int (nI (d + 1)))] [] S1 Q)) (fun x S1 => x = none ∧ z_cx Q (fun x S1 => x = none ∧ z_WC 64 82 31 [(0, .ref 134), (1, .int (nI (d + 1)))] [] S1 Q) (.inl none) S1)) → z_WC 64 82 31 [(0, .ref 134), (1, .int (nI d))] [] S2 Q := by
      intro Q hQ
      refine k83 (o := 15) hC h0 hdc ho (by decide) ?_
      refine t83_0 (A := S2.1) (E := S2.2.1) (N := S2.2.2.1) (V := S2.2.2.2.1) (W := S2.2.2.2.2.1) (c := S2.2.2.2.2.2) ?_
      unfold p83_0
      rw [cd, eo]
      refine ⟨hC.in h0 hdc (by decide) (by decide), ?_⟩
      rw [if_neg (by decide), if_neg (by decide), if_neg (by decide), if_neg (by decide), if_neg (by decide), if_neg (by decide), if_neg (by decide), if_neg (by decide), if_neg (by decide), if_neg (by decide), if_neg (by decide), if_neg (by decide), if_pos rfl]
      refine ⟨hC.2.1.rm.1, t91_0 (l := 61) ?_⟩
      unfold p91_0
      rw [e71', e72, cH, ea2]
      exact ⟨zH, hC.2.1.rm.1, k92 (l := 60) (G := fun v S1 => p91_27 61 S1.1 S1.2.1 S1.2.2.1 S1.2.2.2.1 S1.2.2.2.2.1 S1.2.2.2.2.2 (nI d) (nI a) v (nI (H + 1)) _) hC la2 a3 hQ⟩
    -- the reference comes to it
    have X := hj2.2.1.2.1.tr (z_XU_stg (R := R2) (P := P) (st := 2))
    have e106 : (z_stg P 2 R2).1 106 = R2.1 106 := z_stg_o (by decide)
    have e46 : (z_stg P 2 R2).1 46 = R2.1 46 := z_stg_o (by decide)
    have f0 : (z_stg P 2 R2).2.2 41 11 = 0 := hj2.2.1.2.2.2.2.1
    have r82 : (z_stg P 2 R2).2.2 41 82 = nI (P + 1) := hj2.2.1.2.2.2.1
    have tyS : z_TyR (z_stg P 2 R2).1 (z_stg P 2 R2).2.2 τ2.2.1 τ2.2.2 := (hj2.2.1.stg).1
    obtain ⟨v, B', M', hrr, hv, hB, hM⟩ := w189x (l := 7) (R := z_stg P 2 R2) tyS lc' l1'
    have re : ∀ Q, p195_100 8 B' M' (z_stg P 2 R2).2.2 (nI m) (nI 2) (z_ko κ N) (nI a') v (fun x R1 => x = none ∧ z_WR 10 183 19 [(0, .ref 148)] [] R1 Q) → z_WR 10 183 19 [(0, .ref 148)] [] R2 Q := by
      intro Q hQ
      refine r183 hj2.2.1 (by omega) hp2 m6 hk ?_
      show p183_212 9 (z_stg P 2 R2).1 (z_stg P 2 R2).2.1 (z_stg P 2 R2).2.2 (nI P) (nI m) (nI 2) (z_ko κ N) Q
      refine t195_0 (l := 8) (B := (z_stg P 2 R2).1) (M := (z_stg P 2 R2).2.1) (U := (z_stg P 2 R2).2.2) ?_
      unfold p195_0
      rw [if_neg (by decide)]
      unfold p195_16
      rw [cm, X.1 58 (by decide) (by decide), h58, cx', e106, ea2']
      refine ⟨zm, zx, ?_⟩
      rw [if_neg (show ¬ nI a' ≤ 2 from nI_ge (b := a') (a := 2) (by omega) (by omega))]
      unfold p195_36 p195_41
      refine ⟨zm, r190 (l := 7) ?_⟩
      unfold p195_52
      rw [if_pos (show (z_stg P 2 R2).2.2 41 11 ≤ 0 by rw [f0]; decide)]
      unfold p195_60
      rw [if_neg (by decide)]
      unfold p195_77
      rw [cm, X.1 59 (by decide) (by decide), h59, cy', e106, ec', ca', e46, r46]
      exact ⟨zm, zy, za', _, _, hrr, v, rfl, hQ⟩
    have b62 : B' 62 = R0.1 62 := (hB 62 (by decide)).trans (X.1 62 (by decide) (by decide))
    have b58 : B' 58 = R0.1 58 := (hB 58 (by decide)).trans (X.1 58 (by decide) (by decide))
    have b59 : B' 59 = R0.1 59 := (hB 59 (by decide)).trans (X.1 59 (by decide) (by decide))
    have b47 : B' 47 = R2.1 47 := (hB 47 (by decide)).trans (z_stg_o (by decide))
    have b48 : B' 48 = R2.1 48 := (hB 48 (by decide)).trans (z_stg_o (by decide))
    have b107 : B' 107 = R2.1 107 := (hB 107 (by decide)).trans (z_stg_o (by decide))
    have xx : z_XU R2 (B', M', (z_stg P 2 R2).2.2) := z_XU_stg.tr (z_XU_fit hB hM)
    by_cases hf : z_ftt τ2.1.1 c (τ2.1.1 a).1
    · have hv1 : v = 1 := by
        rcases hv with ⟨q, -⟩ | ⟨-, q⟩
        · exact q
        · exact absurd (fx.mp hf) q
      subst hv1
      obtain ⟨E, hE⟩ : ∃ E : Int32, E = (z_fn 0 (R2.1 107) x ||| z_fn 0 (R2.1 107) y) ||| (τ2.2.1 a').2.2 := ⟨_, rfl⟩
      have re3 : ∀ Q, z_WR 10 183 19 [(0, .ref 148)] [] (z_typ P m (nI (τ2.2.1 a').2.1) E (B', M', (z_stg P 2 R2).2.2)) Q → z_WR 10 183 19 [(0, .ref 148)] [] R2 Q := by
        intro Q hQ
        refine re Q ?_
        unfold p195_100
        refine ⟨zm, r190 (l := 7) (R := (B', M', (z_stg P 2 R2).2.2)) ?_⟩
        show p195_111 8 B' M' (z_stg P 2 R2).2.2 (nI m) (nI 2) (z_ko κ N) (nI a') (fun x R1 => x = none ∧ z_WR 10 183 19 [(0, .ref 148)] [] R1 Q)
        unfold p195_111
        rw [cm, b58, b59, h58, h59, cx', cy', b107, ca', b47, b48, r47, r48, ← hE]
        exact ⟨za', zm, zx, zm, zy, za', r187 (l := 7) (R := (B', M', (z_stg P 2 R2).2.2)) (P := P) (G := fun R1 => p195_154 8 R1.1 R1.2.1 R1.2.2 (nI m) (nI 2) (z_ko κ N) (nI a') (fun x R1 => x = none ∧ z_WR 10 183 19 [(0, .ref 148)] [] R1 Q)) r82 m6 ⟨rfl, hQ⟩⟩
      refine z_JG.re ?_ re3
      refine cl _ ?_
      refine ⟨hC.2.1.rm.1, k93 (l := 60) (G := fun S1 => p91_30 61 S1.1 S1.2.1 S1.2.2.1 S1.2.2.2.1 S1.2.2.2.2.1 S1.2.2.2.2.2 (nI d) (nI a) _) (by decide) hC (by omega) ec lc l1 hf ?_⟩
      unfold p91_30
      rw [e72, cH]
      refine ⟨zH, hC.2.1.rm.1, k25 (l := 60) (G := fun v S1 => p91_50 61 S1.1 S1.2.1 S1.2.2.1 S1.2.2.2.1 S1.2.2.2.2.1 S1.2.2.2.2.2 (nI d) (nI a) v (z_fn 0 (S2.1 29) H) (nI H) _) hC la2 a3 ?_⟩
      unfold p91_50
      rw [cH]
      obtain ⟨E1, hE1⟩ : ∃ E1 : Int32, E1 = z_fn 0 (S2.1 29) H ||| (τ2.1.1 a).2.2 := ⟨_, rfl⟩
      rw [← hE1]
      have hC' := hC.wr (k := 29) (j := H) (x := E1) (Or.inl rfl)
      refine ⟨zH, hC.2.1.rm.1, k95 (l := 60) (S := z_row 29 H E1 S2) (G := fun v S1 => p91_62 61 S1.1 S1.2.1 S1.2.2.1 S1.2.2.2.1 S1.2.2.2.2.1 S1.2.2.2.2.2 (nI d) (nI a) v 2 _) hC' la2 a3 ?_⟩
      refine ⟨hC.2.1.rm.1, ?_⟩
      refine k88 (l := 59) (S := z_row 29 H E1 S2) (p := 2) (G := fun S1 => p91_66 61 S1.1 S1.2.1 S1.2.2.1 S1.2.2.2.1 S1.2.2.2.2.1 S1.2.2.2.2.2 (nI d) (nI a) _) hC' h0 hdc H256 (by decide) (by omega) ?_
      intro S3 s1 s2 s3 hC3
      rw [h19]
      have ez : z_orr ((z_row 29 H E1 S2).1 29) (H + 2) 2 = E := by
        show (0 ||| z_fn 0 ((z_row 29 H E1 S2).1 29) (H + 1)) ||| z_fn 0 ((z_row 29 H E1 S2).1 29) H = E
        rw [z_row_k, z_fcs, z_fcn (by omega), Int32.zero_or, ef2, hE1, hdx 29 (by decide) (by decide), ef1, hE, isx 107 (by decide) (by decide), row, Int32.or_comm (z_fn 0 (R1.1 107) x) (z_fn 0 (R2.1 107) y), Int32.or_assoc]
      rw [ez]
      have hC3 : z_KC S0 d τ2.1.1 τ2.1.2 H ρ mo2 S3 := hC3
      refine ⟨rfl, rfl, ?_⟩
      show z_WC 64 82 31 [(0, .ref 134), (1, .int (nI (d + 1)))] [] (z_hold H (nI (τ2.1.1 a).2.1) E p S3) _
      have cxd : z_ctx S0.1 (d + 1) = z_ctx S0.1 d := z_ctx_id (o := 15) ho (Or.inr (Or.inl ⟨by decide, by decide⟩))
      have cxs : z_ctx S0.1 d = z_ctx S0.1 s := cx2.trans (cxg.trans cx1)
      have hC4 := (hC3.hold (nI (τ2.1.1 a).2.1) E p).adv cxd
      have hR4 := ((hj2.2.1.stg (st := 2) (p := P)).fit hB hM).typ (m := m) (ty := nI (τ2.2.1 a').2.1) (ef := E)
      have o4 : ∀ q, ¬ (28 ≤ q ∧ q ≤ 30) → (z_hold H (nI (τ2.1.1 a).2.1) E p S3).1 q = S2.1 q := fun q a => by rw [z_hold_o a, s1, z_row_o (by omega)]
      have fk3 : z_Fk s (d + 1) H ρ N S2 (z_hold H (nI (τ2.1.1 a).2.1) E p S3) := by
        refine ⟨fun k a b j c => ?_, fun k a b j c => by rw [o4 k (by omega)], fun k a j c => by rw [o4 k (by omega)], fun j c => by rw [o4 35 (by decide)], fun k a j c => by rw [o4 k (by omega)]⟩
        rw [(z_Fk.hold (s := s) (e := d + 1) (ρ := ρ) (N := N) (Nat.le_refl H)).1 k a b j c, s1]
        by_cases q : k = 29
        · rw [q, z_row_k, z_fcn (by omega)]
        · rw [z_row_o q]
      have f1 := fk1.wk (s := s) (e := d + 1) (Nat.le_refl H) (Nat.le_refl ρ) (Nat.le_refl N) (Nat.le_refl s) (by omega)
      have f2 := fk2.wk (s := s) (e := d + 1) (Nat.le_succ H) (Nat.le_refl ρ) (Nat.le_refl N) (by omega) (by omega)
      have fla := z_Fl.pils (u := u) w1.1 (Nat.le_refl cc) fl1
      have flb := z_Fl.pils (u := u) w2.1 cc01 fl2
      have oR : ∀ q, ¬ (46 ≤ q ∧ q ≤ 49) → q ≠ 103 → ¬ (106 ≤ q ∧ q ≤ 107) → (z_typ P m (nI (τ2.2.1 a').2.1) E (B', M', (z_stg P 2 R2).2.2)).1 q = R2.1 q := fun q a b c => by
        rw [z_typ_o c]
        exact (hB q (by omega)).trans (z_stg_o b)
      have cfg := z_cf_le (a := S0.1 14) (show g ≤ g + 1 from Nat.le_succ g)
      have cfd := z_cf_le (a := S0.1 14) (show d ≤ d + 1 from Nat.le_succ d)
      have ct : z_Cw b n 8 τ0 S0.1 R0.1 w u m s (d + 1) (z_gl τ (S.1 32) (z_ctx S0.1 s).1.length) (z_shx τ2 (nI (τ2.1.1 a).2.1)) := by
        have b15 := T2.2.1.1
        rw [hj.gl te1 (fun j hj => fk1.2.1 32 (by decide) (by decide) j (by rw [hN]; exact hj)) (cxg.trans cx1)] at tj2
        have s1 : z_shx τ1 (z_fn 0 (S1.1 28) H) = z_fz (z_sh τ2.1.1 (τ2.1.1 a).1) (z_sh τ2.1.1 (τ2.1.1 a).2.1) := by
          rw [← z_sh_s T2.1 a3 la2, z_sh_e hC1.1.1 te2.1.2 la, ea, z_shx_n (by omega)]
        have s2 : z_shx τ2 (z_fn 0 (S2.1 28) (H + 1)) = z_sh τ2.1.1 (τ2.1.1 a).1 := by
          rw [ec, z_shx_n (by omega)]
          exact z_sh_ftt T2.1 _ c (τ2.1.1 a).1 (Nat.le_refl _) lc l1 hf
        rw [s1] at tj1
        rw [s2] at tj2
        rw [z_shx_n (by omega)]
        exact z_Cw.mk (by omega) hm (fun f hf => Or.inr (Or.inr (Or.inr (Or.inr (Or.inr (Or.inr (Or.inr (Or.inr (Or.inr (Or.inr (Or.inl ⟨hk, x, y, g, _, v1, v2, ⟨x6, y6, w1, w2, w3⟩, h58, h59, hsg, hge, ⟨z_wle.z, tj1 f (by omega)⟩, hog, ⟨hw, tj2 f (by show d ≤ _; omega)⟩, ho⟩)))))))))))
      refine fin τ2 mo2 cc2 _ _ ⟨⟨hC4, hR4, hj2.2.2.1, ?_, ?_⟩, te1.tr te2, by rw [← hN]; exact (f1.tr f2).tr fk3, (fla.tr flb).tr (((z_Fl.stg (Nat.le_refl _)).tr (z_Fl_fit (R := z_stg P 2 R2) hB)).tr (z_Fl.typ hm)), ⟨by omega, by omega, by omega, by omega, by omega⟩, ⟨?_, ?_, ?_⟩, ?_, ?_, cxd.trans cxs, by rw [z_hold_28, z_fcs]; exact ct⟩
      · rw [cxd]
        intro j hj
        rw [o4 31 (by decide), oR 101 (by decide) (by decide) (by decide), oR 98 (by decide) (by decide) (by decide), oR 99 (by decide) (by decide) (by decide)]
        exact hj2.2.2.2.1 j hj
      · rw [cxd]
        intro j hj
        rw [o4 32 (by decide), oR 100 (by decide) (by decide) (by decide)]
        exact hj2.2.2.2.2 j hj
      · rw [z_hold_30, z_fcs]
      · rw [z_hold_28, z_fcs, z_typ_106, z_fcs]
        exact ⟨_, _, rfl, rfl, l2, l2', dre, z_Tv.all T2.1 T2.2.1.2 _ l2⟩
      · rw [z_hold_29, z_fcs, z_typ_107, z_fcs]
      · intro j j1 j2
        by_cases q1 : j < g
        · refine (ag1 j j1 q1).e (fun q hq => ?_)
          rw [o4 q (by omega)]
          exact fk2.2.2.2.2 q hq j (by omega)
        · by_cases q0 : j = g
          · rw [q0]
            refine z_ag.sm (by rw [hog]; decide) (fun q hq => ?_)
            rw [o4 q (by omega), fk2.2.2.2.2 q hq g (by omega)]
            exact hC1.2.2.2.1 q hq g (Nat.le_refl _)
          · by_cases q2 : j < d
            · exact (ag2 j (by omega) q2).e (fun q hq => by rw [o4 q (by omega)])
            · have ej : j = d := by omega
              rw [ej]
              refine z_ag.sm (by rw [ho]; decide) (fun q hq => ?_)
              rw [o4 q (by omega)]
              exact hC.2.2.2.1 q hq d (Nat.le_refl _)
      · intro j j1 j2 jl
        by_cases q1 : j ≤ g
        · exact Nat.le_trans (rm1 j j1 q1 jl) mo12
        · by_cases q2 : j ≤ d
          · exact rm2 j (by omega) q2 jl
          · have ej : j = d + 1 := by omega
            rw [ej, cxd]
            exact hC.2.2.2.2.2.2.2.2.1
    · have hf' : ¬ z_ftt τ2.2.1 c' (τ2.2.1 a').1 := fun q => hf (fx.mpr q)
      refine z_JG.dead (x := 6) (y := z_fn 0 (R0.1 62) m) hΦ hC.2.2.1 hj2.2.1.2.1 (fun Q hQ => cl Q ?_) (fun Q hQ => re Q ?_)
      · exact ⟨hC.2.1.rm.1, k93f (l := 60) (by decide) hC (by omega) ec lc l1 hf (fun S' hy => ⟨rfl, rfl, hQ S' (by rw [← p2]; exact hy)⟩)⟩
      · rcases hv with ⟨-, q⟩ | ⟨rfl, -⟩
        · exact absurd q hf'
        · unfold p195_100
          rw [cm, b62]
          refine ⟨zm, r190f (l := 7) (R := (B', M', (z_stg P 2 R2).2.2)) f0 ?_⟩
          show p195_111 8 B' M' (z_UF (z_stg P 2 R2).2.2 6 (z_fn 0 (R0.1 62) m)) (nI m) (nI 2) (z_ko κ N) (nI a') (fun x R1 => x = none ∧ z_WR 10 183 19 [(0, .ref 148)] [] R1 Q)
          unfold p195_111
          rw [cm, b58, b59, h58, h59]
          refine ⟨za', zm, zx, zm, zy, za', r187 (l := 7) (R := (B', M', z_UF (z_stg P 2 R2).2.2 6 (z_fn 0 (R0.1 62) m))) (P := P) (G := fun R1 => p195_154 8 R1.1 R1.2.1 R1.2.2 (nI m) (nI 2) (z_ko κ N) (nI a') (fun x R1 => x = none ∧ z_WR 10 183 19 [(0, .ref 148)] [] R1 Q)) r82 m6 ?_⟩
          have td : z_Td 6 (z_fn 0 (R0.1 62) m) (z_UF (z_stg P 2 R2).2.2 6 (z_fn 0 (R0.1 62) m)) := z_Td_F (by decide)
          have td2 : ∀ ty ee, z_Td 6 (z_fn 0 (R0.1 62) m) (z_typ P m ty ee (B', M', z_UF (z_stg P 2 R2).2.2 6 (z_fn 0 (R0.1 62) m))).2.2 := fun _ _ => ⟨td.1, td.2.1, td.2.2⟩
          exact ⟨rfl, r183d (l := 9) (td2 _ _) (hQ _ (td2 _ _) ((xx.tr (z_XU_F (R := (B', M', (z_stg P 2 R2).2.2)))).tr z_XU_typ))⟩
  · rw [if_neg a3] at clg ref1
    refine z_JG.dead (x := 6) (y := z_fn 0 (R0.1 61) m) hΦ hC1.2.2.1 hj1.2.1.2.1 (fun Q hQ => clg Q ?_) (fun Q hQ => ref1 Q ?_)
    · unfold p83_247
      rw [if_pos rfl]
      unfold p83_250
      rw [e71, cH, p1]
      exact ⟨zH, hC1.2.1.rm.1, k50q hC1.2.1 (fun S' hy => ⟨rfl, hQ S' hy⟩)⟩
    · unfold p195_41
      rw [cm, X1.1 61 (by decide) (by decide)]
      have td : z_Td 6 (z_fn 0 (R0.1 61) m) (z_UF (z_stg P 1 R1).2.2 6 (z_fn 0 (R0.1 61) m)) := z_Td_F (by decide)
      refine ⟨zm, r190f (l := 7) f01 ?_⟩
      unfold p195_52
      rw [if_neg (show ¬ z_UF (z_stg P 1 R1).2.2 6 (z_fn 0 (R0.1 61) m) 41 11 ≤ 0 from td.1)]
      exact ⟨rfl, r183d (l := 9) (R := ((z_stg P 1 R1).1, (z_stg P 1 R1).2.1, z_UF (z_stg P 1 R1).2.2 6 (z_fn 0 (R0.1 61) m))) td (hQ _ td (z_XU_stg.tr z_XU_F))⟩
end ZSB
