/-! Checking, both together: handle. -/
section ZAD
variable {b : Nat → Nat} {n me : Nat} {τ0 : z_TT} {ce : Nat} {S0 : z_CS} {R0 : z_RS} {w : Nat} {u v1 v2 : z_Bd} {m x y s d e g h : Nat} {p row : Int32} {Pp : Nat → Nat → Nat → Int32 → Prop}
theorem z_Cc.q {A B : Nat → List (Nat × Int32)} {X l : Nat} {q : Int32} {r : List (Nat × Nat)} (hu : u.2.2 ≤ 300) (h : z_Cc b n me A B u Pp d r q l X) : q = -1 ∨ ∃ i, i < 300 ∧ q = nI i := by
  cases r with
  | nil => exact Or.inl h.1
  | cons a r =>
    obtain ⟨i, y⟩ := a
    exact Or.inr ⟨i, by have := h.1.2.2.1; omega, h.1.1⟩
/-- the clauses of a handle -/
theorem n_hloop {τs : z_TT} {H ρ mo0 cc0 P N : Nat} {κ : Nat → Nat} {Ss : z_CS} {Rs : z_RS} {Φ : z_V → z_CS → z_RS → Prop} (hs : z_Hs b n me τ0 ce S0 R0 w u m x s d p row τs H ρ mo0 cc0 P N κ Ss Rs) (hΦ : z_Fd S0 R0 Φ)
    (fin : ∀ τ' mo' cc' S' R', z_Ke b n τ0 S0 R0 w u m s (d + 1) p τs H ρ mo0 cc0 P κ Ss Rs τ' mo' cc' S' R' → z_JG Φ (d + 1) S' R')
    (hP : ∀ g' x' y' p', Pp g' x' y' p' → ∃ v : z_Bd, z_S1 u m v ∧ x < v.1.1 ∧ (v.1.1 ≤ g' ∧ g' < v.1.2) ∧ z_Kn b n τ0 ce S0 R0 (w - 4) v g' x' y' p') : ∀ (r : List (Nat × Nat)) (q : Int32) (l X : Nat) (τ : z_TT) (mo cc st : Nat) (c : Int32) (S : z_CS) (R : z_RS), s < X → z_Cc b n me S0.1 R0.1 u Pp d r q l X → z_Hl b n τ0 S0 R0 u m x s row τs H ρ mo0 cc0 P N κ Ss Rs w d r l X q τ mo cc st c S R → z_JC Φ m P (z_ko κ N) X S R := by
  intro r
  induction r with
  | nil =>
    intro q l X τ mo cc st c S R hsX hc hl
    obtain ⟨rfl, h16, rfl⟩ := hc
    exact n_hend hs hl h16 hΦ fin
  | cons a r ih =>
    intro q l X τ mo cc st c S R hsX hc hl
    obtain ⟨i, y'⟩ := a
    obtain ⟨⟨rfl, i1, i2, i3, i4⟩, h6, h7, h8, h9, h10, ⟨ef, h11, h12⟩, h13, ⟨g', h14, h15⟩, h16, h17⟩ := hc
    obtain ⟨v, k1, k2, k3, k4⟩ := hP _ _ _ _ h15
    have u3 := hs.2.1.2.2.2.1
    exact n_hclause hs hl h6 hΦ hsX i3 i4 (by omega) k1 k2 k3 h7 h8 h9 h10 h11 h12 h13 h14 h16 rfl (z_Cc.q u3 h17) k4 (fun τ' mo' cc' st' c' S' R' hl' => ih _ _ _ _ _ _ _ _ _ _ (by omega) h17 hl')
theorem n_handle {r : List (Nat × Nat)} (h1 : z_K1 b n me τ0 ce S0 R0) (hm : u.1.1 ≤ m ∧ m < u.1.2) (hu6 : u.1.2 ≤ 600) (hu3 : u.2.2 ≤ 300) (he : e ≤ ce) (hsg : s + 1 < g) (hgh : g + 1 < h) (hhe : h < e - 1) (hk : z_fn 0 (R0.1 57) m = 4) (w1 : z_S1 u m v1) (w2 : z_S1 u m v2) (w3 : v1.1.2 ≤ v2.1.1) (hxv : v1.1.1 ≤ x ∧ x < v1.1.2) (hyv : v2.1.1 ≤ y ∧ y < v2.1.2) (h58 : z_fn 0 (R0.1 58) m = nI x) (h59 : z_fn 0 (R0.1 59) m = nI y) (ho : z_fn 0 (S0.1 14) s = 21) (h17 : z_fn 0 (S0.1 17) s = nI (e - 1)) (hog : z_fn 0 (S0.1 14) g = 22) (hnm : z_Nm b n (z_fn 0 (R0.1 64) m) (z_fn 0 (S0.1 15) g) (z_fn 0 (R0.1 65) m)) (h16 : z_fn 0 (S0.1 16) g = z_fn 0 (R0.1 70) m) (hoh : z_fn 0 (S0.1 14) h = 23) (hoe : z_fn 0 (S0.1 14) (e - 1) = 26) (hcc : z_Cc b n me S0.1 R0.1 u Pp (e - 1) r (z_fn 0 (R0.1 60) m) s (h + 1)) (h19 : z_fn 0 (S0.1 19) (e - 1) = p) (hw : z_wle 4 w) (hfl : z_fl S0.1 (s + 1) (e - 1))
    (hP : ∀ g' x' y' p', Pp g' x' y' p' → ∃ v : z_Bd, z_S1 u m v ∧ x < v.1.1 ∧ (v.1.1 ≤ g' ∧ g' < v.1.2) ∧ z_Kn b n τ0 ce S0 R0 (w - 4) v g' x' y' p')
    (ihx : z_Kn b n τ0 ce S0 R0 (w - 4) v1 x (s + 1) g (z_fn 0 (R0.1 61) m)) (ihy : z_Kn b n τ0 ce S0 R0 (w - 4) v2 y (g + 1) h (z_fn 0 (R0.1 62) m)) : z_Kn b n τ0 ce S0 R0 w u m s e p := by
  have hwm := hw.mod
  have hwc := hw.1
  intro Φ hΦ τ H ρ mo cc P κ S R hj hp hb fin
  obtain ⟨d, rfl⟩ : ∃ d, e = d + 1 := ⟨e - 1, by omega⟩
  simp only [Nat.add_sub_cancel] at hhe h17 hoe hcc h19 hfl
  obtain ⟨N, hN⟩ : ∃ N, N = (z_ctx S0.1 s).1.length := ⟨_, rfl⟩
  obtain ⟨row, hrow⟩ : ∃ row : Int32, row = z_fn 0 (R0.1 70) m := ⟨_, rfl⟩
  have h0 := h1.1
  have ce5 := h0.2.1
  have m6 : m < 600 := by omega
  have x6 : x < 600 := by have := w1.1.2; omega
  have y6 : y < 600 := by have := w2.1.2; omega
  have cm : (nI m).toNatClampNeg = m := nI_clamp (by omega)
  have cx' : (nI x).toNatClampNeg = x := nI_clamp (by omega)
  have cy' : (nI y).toNatClampNeg = y := nI_clamp (by omega)
  have zm : z_in (nI m) 600 = true := z_inI m6 (by decide)
  have zx : z_in (nI x) 600 = true := z_inI x6 (by decide)
  have zy : z_in (nI y) 600 = true := z_inI y6 (by decide)
  have hP1 : P + 1 < 700 := by
    have := hb.2.1
    have := w1.1.1
    have := w1.1.2
    have := w1.2.2
    omega
  have cP : (nI P).toNatClampNeg = P := nI_clamp (by omega)
  have zP : z_in (nI P) 700 = true := z_inI (by omega) (by decide)
  have hsc : s < ce := by omega
  have hgc : g < ce := by omega
  have hhc : h < ce := by omega
  have ci : (nI s).toNatClampNeg = s := nI_clamp (by omega)
  have cg : (nI g).toNatClampNeg = g := nI_clamp (by omega)
  have ch : (nI h).toNatClampNeg = h := nI_clamp (by omega)
  have n128 : N < 119 := by have := hb.1.2.1; omega
  have ρ64 : ρ + 1 < 64 := by have := hb.1.2.2; omega
  have H256 : H + 2 < 256 := by have := hb.1.1; omega
  have hC := hj.1
  have hp0 : z_tpk P m 0 (z_ko κ N) R := by
    rw [hN]
    exact hp
  have hs : z_Hs b n me τ0 ce S0 R0 w u m x s d p row τ H ρ mo cc P N κ S R := ⟨h1, ⟨hm.1, hm.2, hu6, hu3, x6⟩, ⟨he, by omega⟩, ⟨ho, h17, hoe, h19⟩, ⟨hk, h58, hrow.symm⟩, hN, hfl, hj, hb, hw⟩
  have cρ1 : (nI (ρ + 1)).toNatClampNeg = ρ + 1 := nI_clamp (by omega)
  have zρ1 : z_in (nI (ρ + 1)) 64 = true := z_inI ρ64 (by decide)
  -- the class opens
  obtain ⟨So, hSo⟩ : ∃ X : z_CS, X = z_opn (ρ + 1) N (nI s) S := ⟨_, rfl⟩
  have hCo : z_KCx S0 s ((z_ctx S0.1 s).1, N :: (z_ctx S0.1 s).2) τ.1.1 τ.1.2 H (ρ + 1) N So := by
    rw [hSo, hN]
    exact z_KCx.opn hC (by omega)
  obtain ⟨Sa, hSa⟩ : ∃ X : z_CS, X = z_row 15 s (nI N) So := ⟨_, rfl⟩
  have cls : ∀ Q, z_WC 64 82 31 [(0, .ref 134), (1, .int (nI (s + 1)))] [] Sa Q → z_WC 64 82 31 [(0, .ref 134), (1, .int (nI s))] [] S Q := by
    intro Q hQ
    refine k97 (o := 21) hC h0 hsc ho (by decide) (by decide) ?_
    refine t97_0 (A := S.1) (E := S.2.1) (N := S.2.2.1) (V := S.2.2.2.1) (W := S.2.2.2.2.1) (c := S.2.2.2.2.2) ?_
    have eo : z_fn 0 (S.1 14) s = 21 := (hC.2.2.2.1 14 (by decide) s (Nat.le_refl _)).trans ho
    unfold p97_0
    rw [ci, eo]
    refine ⟨hC.in h0 hsc (by decide) (by decide), ?_⟩
    rw [if_neg (by decide), if_neg (by decide), if_neg (by decide), if_neg (by decide), if_pos rfl]
    refine ⟨hC.2.1.rm.1, k98x (lv := 61) (x := z_ctx S0.1 s) (G := fun S1 => p97_210 62 S1.1 S1.2.1 S1.2.2.1 S1.2.2.2.1 S1.2.2.2.2.1 S1.2.2.2.2.2 (nI s) _) hC hN (by omega) ?_⟩
    rw [← hSo]
    have io : ∀ k, 14 ≤ k → k ≤ 19 → z_in (nI s) (So.2.2.1 k) = true := fun k q1 q2 => by rw [hSo]; exact hC.in h0 hsc q1 q2
    show p97_210 62 So.1 So.2.1 So.2.2.1 So.2.2.2.1 So.2.2.2.2.1 So.2.2.2.2.2 (nI s) _
    unfold p97_210
    rw [hCo.2.2.2.2.1.2.2, cρ1, ci, hCo.fF]
    rw [hSa] at hQ
    exact ⟨zρ1, io 15 (by decide) (by decide), rfl, hQ⟩
  -- the reference piles the body
  have X0 := hj.2.1.2.1.tr (z_XU_stg (R := R) (P := P) (st := 0))
  obtain ⟨Ra, hRa⟩ : ∃ X : z_RS, X = z_pil (P + 1) x (z_ko κ N) (z_stg P 0 R) := ⟨_, rfl⟩
  have re1 : ∀ Q, z_WR 10 183 19 [(0, .ref 148)] [] Ra Q → z_WR 10 183 19 [(0, .ref 148)] [] R Q := by
    intro Q hQ
    rw [hRa] at hQ
    refine r183 hj.2.1 (by omega) hp0 m6 hk ?_
    show p183_200 9 (z_stg P 0 R).1 (z_stg P 0 R).2.1 (z_stg P 0 R).2.2 (nI P) (nI m) (nI 0) (z_ko κ N) Q
    refine t193_0 (l := 8) (B := (z_stg P 0 R).1) (M := (z_stg P 0 R).2.1) (U := (z_stg P 0 R).2.2) ?_
    unfold p193_0
    rw [if_pos (show nI 0 = (0 : Int32) from rfl)]
    unfold p193_4
    rw [cm, X0.1 58 (by decide) (by decide), h58]
    exact ⟨zm, r184 (l := 7) (R := z_stg P 0 R) (G := fun R1 => p193_15 8 R1.1 R1.2.1 R1.2.2 (nI m) (nI 0) (z_ko κ N) (nI P) _) hj.2.1.2.2.2.1 hP1 ⟨rfl, hQ⟩⟩
  refine z_JG.cl (z_JG.re ?_ re1) cls
  have cxs : z_ctx S0.1 (s + 1) = ((z_ctx S0.1 s).1, N :: (z_ctx S0.1 s).2) := by
    rw [z_ctx_s ho, hN]
    rfl
  have hls : (z_ctx S0.1 (s + 1)).1.length = N := by
    rw [cxs, hN]
  have hjc : z_Kj b n τ0 S0 R0 (s + 1) τ H (ρ + 1) N cc (P + 1 + 1) κ Sa Ra := by
    have k0 : z_Kq b n τ N κ cc Sa Ra := (hj.q hN).cg (fun k q1 q2 j _ => by rw [hSa, z_row_o (by omega), hSo, z_opn_o (by omega)]) (fun k q1 q2 j _ => by rw [hRa, z_pil_o (by omega), z_stg_o (by omega)]) (Nat.le_refl _)
    refine k0.j hls.symm ?_ ?_ hj.2.2.1
    · have q : z_KC S0 (s + 1) τ.1.1 τ.1.2 H (ρ + 1) N So := by
        unfold z_KC
        rw [cxs]
        exact hCo.mv (Nat.le_succ s)
      rw [hSa]
      exact q.row (Or.inr (Or.inl rfl)) (Nat.lt_succ_self s)
    · rw [hRa]
      exact hj.2.1.stg.pil
  have cfs := z_cf_le (a := S0.1 14) (show s ≤ s + 1 from Nat.le_succ s)
  have cfg := z_cf_le (a := S0.1 14) (show g ≤ g + 1 from Nat.le_succ g)
  have cfh := z_cf_le (a := S0.1 14) (show h ≤ h + 1 from Nat.le_succ h)
  refine ihx Φ hΦ τ H (ρ + 1) N cc (P + 1) κ Sa Ra hjc (by rw [hls, hRa]; exact z_pil_tk) ⟨⟨by have := hb.1.1; omega, by rw [hls]; have := hb.1.2.1; omega, by have := hb.1.2.2; omega⟩, ?_, ?_, ?_⟩ ?_
  · have := hb.2.1
    have := w1.1.1
    have := w1.1.2
    have := w1.2.2
    omega
  · have := hb.2.2.1
    omega
  · have := hb.2.2.2.1
    have := hb.2.2.2.2
    constructor <;> omega
  intro τ1 mo1 cc1 S1 R1 hke1
  obtain ⟨hj1, te1, fk1, fl1, ⟨mo01, cc01, cc1b, tb1, tb1'⟩, ⟨p1, ty1, ef1⟩, ag1, rm1, cx1, tj1⟩ := hke1
  rw [hls] at fk1
  have hp1 : z_tpk P m 1 (z_ko κ N) R1 := by
    rw [hRa] at fl1
    exact z_tpk.aft hp0 fl1
  have hC1 := hj1.1
  have cxg : z_ctx S0.1 g = ((z_ctx S0.1 s).1, N :: (z_ctx S0.1 s).2) := cx1.trans cxs
  -- the class binds the answer of the body
  obtain ⟨nm, hnm'⟩ : ∃ nm : Int32, nm = z_fn 0 (S0.1 15) g := ⟨_, rfl⟩
  obtain ⟨ty, hty⟩ : ∃ ty : Int32, ty = z_fn 0 (S1.1 28) H := ⟨_, rfl⟩
  obtain ⟨ty', hty'⟩ : ∃ ty' : Int32, ty' = z_fn 0 (R1.1 106) x := ⟨_, rfl⟩
  obtain ⟨Sr, hSr⟩ : ∃ X : z_CS, X = z_row 36 (ρ + 1) row S1 := ⟨_, rfl⟩
  have hCr : z_KC S0 g τ1.1.1 τ1.1.2 (H + 1) (ρ + 1) mo1 Sr := by rw [hSr]; exact hC1.wr (Or.inr (Or.inl rfl))
  obtain ⟨moa, hmoa⟩ : ∃ y, y = max mo1 (N + 1) := ⟨_, rfl⟩
  have hNg : N = (z_ctx S0.1 g).1.length := by rw [cxg]; exact hN
  obtain ⟨Sb, hSb⟩ : ∃ X : z_CS, X = z_bnc N (ρ + 1) nm ty moa Sr := ⟨_, rfl⟩
  have hCb : z_KCx S0 g (nm :: (z_ctx S0.1 g).1, (z_ctx S0.1 g).2) τ1.1.1 τ1.1.2 (H + 1) (ρ + 1) moa Sb := by
    rw [hSb]
    exact z_KCx.bnx hCr hNg (by omega) hmoa
  have cH : (nI H).toNatClampNeg = H := nI_clamp (by omega)
  have zH : z_in (nI H) 256 = true := z_inI (by omega) (by decide)
  have clg : ∀ Q, z_WC 64 82 31 [(0, .ref 134), (1, .int (nI (g + 1)))] [] Sb Q → z_WC 64 82 31 [(0, .ref 134), (1, .int (nI g))] [] S1 Q := by
    intro Q hQ
    refine k97 (o := 22) hC1 h0 hgc hog (by decide) (by decide) ?_
    refine t97_0 (A := S1.1) (E := S1.2.1) (N := S1.2.2.1) (V := S1.2.2.2.1) (W := S1.2.2.2.2.1) (c := S1.2.2.2.2.2) ?_
    have eo : z_fn 0 (S1.1 14) g = 22 := (hC1.2.2.2.1 14 (by decide) g (Nat.le_refl _)).trans hog
    have v7 : S1.2.2.2.1 27 7 - 1 = nI H := by rw [hC1.2.2.2.2.1.1]; exact nI_pred H
    unfold p97_0
    rw [cg, eo]
    refine ⟨hC1.in h0 hgc (by decide) (by decide), ?_⟩
    rw [if_neg (by decide), if_neg (by decide), if_neg (by decide), if_neg (by decide), if_neg (by decide), if_pos rfl]
    unfold p97_231
    rw [hC1.2.2.2.2.1.2.2, cρ1, cg, v7, cH, hC1.2.2.1.1 16 (by decide) (by decide) (by decide), h16, ← hrow, hC1.2.2.2.1 15 (by decide) g (Nat.le_refl _), ← hnm', ← hty]
    have eSr : ((z_u S1.1 36 ((ρ + 1, row) :: S1.1 36)), S1.2.1, S1.2.2.1, S1.2.2.2.1, S1.2.2.2.2.1, S1.2.2.2.2.2) = Sr := by rw [hSr]; rfl
    rw [eSr]
    refine ⟨hC1.in h0 hgc (by decide) (by decide), zρ1, hC1.in h0 hgc (by decide) (by decide), zH, hC1.2.1.rm.1, ?_⟩
    refine k87x (lv := 61) (x := z_ctx S0.1 g) (G := fun S1 => p97_273 62 S1.1 S1.2.1 S1.2.2.1 S1.2.2.2.1 S1.2.2.2.2.1 S1.2.2.2.2.2 (nI g) _) hCr hNg (by omega) hmoa ρ64 ?_
    rw [← hSb]
    exact ⟨rfl, hQ⟩
  -- the reference binds it
  have X1 := hj1.2.1.2.1.tr (z_XU_stg (R := R1) (P := P) (st := 1))
  have cc200 : cc1 + 1 < 190000 := by have := hb.2.2.1; omega
  obtain ⟨Rb, hRb⟩ : ∃ X : z_RS, X = z_pil (P + 1) y (nI cc1) (z_bnd cc1 (z_fn 0 (R0.1 64) m) (z_fn 0 (R0.1 65) m) ty' (z_ko κ N) (z_stg P 1 R1)) := ⟨_, rfl⟩
  have re2 : ∀ Q, z_WR 10 183 19 [(0, .ref 148)] [] Rb Q → z_WR 10 183 19 [(0, .ref 148)] [] R1 Q := by
    intro Q hQ
    rw [hRb] at hQ
    refine r183 hj1.2.1 (by omega) hp1 m6 hk ?_
    show p183_200 9 (z_stg P 1 R1).1 (z_stg P 1 R1).2.1 (z_stg P 1 R1).2.2 (nI P) (nI m) (nI 1) (z_ko κ N) Q
    refine t193_0 (l := 8) (B := (z_stg P 1 R1).1) (M := (z_stg P 1 R1).2.1) (U := (z_stg P 1 R1).2.2) ?_
    unfold p193_0
    rw [if_neg (by decide)]
    unfold p193_18
    rw [if_pos (show nI 1 = (1 : Int32) from rfl)]
    unfold p193_23
    rw [cm, X1.1 58 (by decide) (by decide), X1.1 59 (by decide) (by decide), X1.1 64 (by decide) (by decide), X1.1 65 (by decide) (by decide), h58, h59, cx', z_stg_o (k := 106) (by decide), ← hty']
    refine ⟨zm, zm, zm, zm, zx, r186 (l := 7) (R := z_stg P 1 R1) (cc := cc1) (G := fun v R2 => p193_58 8 R2.1 R2.2.1 R2.2.2 (nI m) (nI 1) (z_ko κ N) (nI P) v (nI y) _) hj1.2.1.2.2.1 (by omega) ?_⟩
    exact r184 (l := 7) (G := fun R2 => p193_61 8 R2.1 R2.2.1 R2.2.2 (nI m) (nI 1) (z_ko κ N) (nI P) _) (z_bnd_U (by decide) |>.trans hj1.2.1.2.2.2.1) hP1 ⟨rfl, hQ⟩
  refine z_JG.cl (z_JG.re ?_ re2) clg
  have cxb : z_ctx S0.1 (g + 1) = (nm :: (z_ctx S0.1 s).1, N :: (z_ctx S0.1 s).2) := by
    rw [z_ctx_s hog, hnm', cxg]
    rfl
  have hlg : (z_ctx S0.1 (g + 1)).1.length = N + 1 := by
    rw [cxb, hN]
    rfl
  have hjy : z_Kj b n τ0 S0 R0 (g + 1) τ1 (H + 1) (ρ + 1) moa (cc1 + 1) (P + 1 + 1) (z_kp κ N cc1) Sb Rb := by
    have k0 : z_Kq b n τ1 N κ cc1 Sr (z_stg P 1 R1) := (hj1.q hNg).cg (fun k q1 q2 j _ => by rw [hSr, z_row_o (by omega)]) (fun k q1 q2 j _ => by rw [z_stg_o (by omega)]) (Nat.le_refl _)
    have k1 := k0.bnd (S' := Sb) (nm := nm) (ty := ty) (ty' := ty') (by rw [hSb, z_bnc_31]) (by rw [hSb, z_bnc_32]) (by rw [hnm']; exact hnm) (by rw [hty, hty']; exact ty1)
    have k2 : z_Kq b n τ1 (N + 1) (z_kp κ N cc1) (cc1 + 1) Sb Rb := k1.cg (fun k _ _ j _ => rfl) (fun k q1 q2 j _ => by rw [hRb, z_pil_o (by omega)]) (Nat.le_refl _)
    refine k2.j hlg.symm ?_ ?_ hj1.2.2.1
    · unfold z_KC
      rw [cxb]
      have q := hCb.mv (Nat.le_succ g)
      rw [cxg] at q
      exact q
    · rw [hRb]
      exact (hj1.2.1.stg.bnd).pil
  have hko : z_ko (z_kp κ N cc1) (z_ctx S0.1 (g + 1)).1.length = nI cc1 := by
    rw [hlg]
    show nI (z_kp κ N cc1 N) = nI cc1
    rw [z_kp_n]
  refine ihy Φ hΦ τ1 (H + 1) (ρ + 1) moa (cc1 + 1) (P + 1) (z_kp κ N cc1) Sb Rb hjy (by rw [hko, hRb]; exact z_pil_tk) ⟨⟨by have := hb.1.1; omega, by rw [hlg]; have := hb.1.2.1; omega, by have := hb.1.2.2; omega⟩, ?_, ?_, ?_⟩ ?_
  · have := hb.2.1
    have := w2.1.1
    have := w2.1.2
    have := w2.2.2
    omega
  · have := hb.2.2.1
    omega
  · have := hb.2.2.2.1
    have := hb.2.2.2.2
    constructor <;> omega
  intro τ2 mo2 cc2 S2 R2 hke2
  obtain ⟨hj2, te2, fk2, fl2, ⟨mo12, cc12, cc2b, tb2, tb2'⟩, ⟨p2, ty2, ef2⟩, ag2, rm2, cx2, tj2⟩ := hke2
  rw [hlg] at fk2
  have hp2 : z_tpk P m 2 (z_ko κ N) R2 := by
    rw [hRb] at fl2
    exact hp1.bnd fl2
  have hC2 := hj2.1
  have cxh : z_ctx S0.1 h = (nm :: (z_ctx S0.1 s).1, N :: (z_ctx S0.1 s).2) := cx2.trans cxb
  have cxh1 : z_ctx S0.1 (h + 1) = ((z_ctx S0.1 s).1, N :: (z_ctx S0.1 s).2) := by
    rw [z_ctx_s hoh, cxh]
    rfl
  have hCx2 : z_KCx S0 h (nm :: (z_ctx S0.1 s).1, N :: (z_ctx S0.1 s).2) τ2.1.1 τ2.1.2 (H + 2) (ρ + 1) mo2 S2 := by
    have q := hC2
    unfold z_KC at q
    rw [cxh] at q
    exact q
  -- what stays of the class
  have oSb : ∀ k, k ≠ 31 → k ≠ 32 → k ≠ 35 → k ≠ 36 → Sb.1 k = S1.1 k := fun k q1 q2 q3 q4 => by rw [hSb, z_bnc_o q1 q2 q3, hSr, z_row_o q4]
  have sb36 : z_fn 0 (Sb.1 36) (ρ + 1) = row := by
    rw [hSb, z_bnc_o (by decide) (by decide) (by decide), hSr, z_row_k, z_fcs]
  have g36 : z_fn 0 (S2.1 36) (ρ + 1) = row := by
    rw [fk2.2.2.1 36 (by decide) (ρ + 1) (Nat.le_refl _)]
    exact sb36
  have g37 : z_fn 0 (S2.1 37) (ρ + 1) = 0 := by
    rw [fk2.2.2.1 37 (by decide) (ρ + 1) (Nat.le_refl _), oSb 37 (by decide) (by decide) (by decide) (by decide), fk1.2.2.1 37 (by decide) (ρ + 1) (Nat.le_refl _), hSa, z_row_o (by decide), hSo, z_opn_37, z_fcs]
  have g33 : z_fn 0 (S2.1 33) (ρ + 1) = nI s := by
    rw [fk2.2.2.1 33 (by decide) (ρ + 1) (Nat.le_refl _), oSb 33 (by decide) (by decide) (by decide) (by decide), fk1.2.2.1 33 (by decide) (ρ + 1) (Nat.le_refl _), hSa, z_row_o (by decide), hSo, z_opn_33, z_fcs]
  have g35 : z_fn 0 (S2.1 35) ρ = nI mo := by
    rw [fk2.2.2.2.1 ρ (Nat.lt_succ_self _), hSb, z_bnc_35, z_fcn (by omega), hSr, z_row_o (by decide), fk1.2.2.2.1 ρ (Nat.lt_succ_self _), hSa, z_row_o (by decide), hSo, z_opn_35, z_fcn (by omega)]
    exact hC.2.2.2.2.2.2.2.1
  have g28 : ∀ k, 28 ≤ k → k ≤ 30 → z_fn 0 (S2.1 k) H = z_fn 0 (S1.1 k) H := fun k q1 q2 => by
    rw [fk2.1 k q1 q2 H (Nat.lt_succ_self _), oSb k (by omega) (by omega) (by omega) (by omega)]
  have gr : ∀ k, k = 14 ∨ k = 15 ∨ k = 18 → ∀ j, j ≤ g → z_fn 0 (S2.1 k) j = z_fn 0 (S1.1 k) j := fun k q1 j q2 => by
    rw [fk2.2.2.2.2 k q1 j (by omega), oSb k (by omega) (by omega) (by omega) (by omega)]
  -- what stays of the reference
  have isx : ∀ k, 106 ≤ k → k ≤ 107 → z_fn 0 (R2.1 k) x = z_fn 0 (R1.1 k) x := fun k q1 q2 => by
    rw [fl2.2.2 k q1 (by omega) x (by omega), hRb, z_pil_o (by omega), z_bnd_o (by omega), z_stg_o (by omega)]
  -- the class at the end of return
  have v7 : S2.2.2.2.1 27 7 - 1 = nI (H + 1) := by rw [hCx2.2.2.2.2.1.1]; exact nI_pred (H + 1)
  have clh0 : ∀ Q, z_WC 62 102 0 [(0, .ref 134), (1, .int (nI (H + 1))), (2, .int row)] [] S2 (z_cx (z_cx Q (fun x S1 => x = none ∧ z_WC 64 82 31 [(0, .ref 134), (1, .int (nI (h + 1)))] [] S1 Q)) (fun x S1 => x = none ∧ p97_295 62 S1.1 S1.2.1 S1.2.2.1 S1.2.2.2.1 S1.2.2.2.2.1 S1.2.2.2.2.2 (nI h) (z_cx Q (fun x S1 => x = none ∧ z_WC 64 82 31 [(0, .ref 134), (1, .int (nI (h + 1)))] [] S1 Q)))) → z_WC 64 82 31 [(0, .ref 134), (1, .int (nI h))] [] S2 Q := by
    intro Q hQ
    refine k97 (o := 23) hC2 h0 hhc hoh (by decide) (by decide) ?_
    refine t97_0 (A := S2.1) (E := S2.2.1) (N := S2.2.2.1) (V := S2.2.2.2.1) (W := S2.2.2.2.2.1) (c := S2.2.2.2.2.2) ?_
    have eo : z_fn 0 (S2.1 14) h = 23 := (hC2.2.2.2.1 14 (by decide) h (Nat.le_refl _)).trans hoh
    unfold p97_0
    rw [ch, eo]
    refine ⟨hC2.in h0 hhc (by decide) (by decide), ?_⟩
    rw [if_neg (by decide), if_neg (by decide), if_neg (by decide), if_neg (by decide), if_neg (by decide), if_neg (by decide), if_pos rfl]
    unfold p97_276
    rw [hCx2.2.2.2.2.1.2.2, cρ1, g36, v7]
    exact ⟨zρ1, hC2.2.1.rm.1, hQ⟩
  -- the reference behind return
  obtain ⟨E, hE⟩ : ∃ E : Int32, E = z_fn 0 (R2.1 107) y := ⟨_, rfl⟩
  obtain ⟨tz', htz'⟩ : ∃ tz' : Int32, tz' = z_fn 0 (R2.1 106) y := ⟨_, rfl⟩
  obtain ⟨Rh, hRh⟩ : ∃ X : z_RS, X = z_rro 109 m 0 (z_rro 108 m tz' (z_stg P 2 R2)) := ⟨_, rfl⟩
  have hRh' : z_KR R0 τ2.2.1 τ2.2.2 cc2 (P + 1) Rh := by rw [hRh]; exact (hj2.2.1.stg.rro (by decide)).rro (by decide)
  have X2 := hj2.2.1.2.1.tr (z_XU_stg (R := R2) (P := P) (st := 2))
  have re3 : ∀ Q, (if (E &&& (row ^^^ (-1))) = 0 then p193_117 8 Rh.1 Rh.2.1 Rh.2.2 (nI m) (nI 2) (z_ko κ N) (nI P) (fun x R1 => x = none ∧ z_WR 10 183 19 [(0, .ref 148)] [] R1 Q) else p193_121 8 Rh.1 Rh.2.1 Rh.2.2 (nI m) (nI 2) (z_ko κ N) (nI P) (fun x R1 => x = none ∧ z_WR 10 183 19 [(0, .ref 148)] [] R1 Q)) → z_WR 10 183 19 [(0, .ref 148)] [] R2 Q := by
    intro Q hQ
    refine r183 hj2.2.1 (by omega) hp2 m6 hk ?_
    show p183_200 9 (z_stg P 2 R2).1 (z_stg P 2 R2).2.1 (z_stg P 2 R2).2.2 (nI P) (nI m) (nI 2) (z_ko κ N) Q
    refine t193_0 (l := 8) (B := (z_stg P 2 R2).1) (M := (z_stg P 2 R2).2.1) (U := (z_stg P 2 R2).2.2) ?_
    unfold p193_0
    rw [if_neg (by decide)]
    unfold p193_18
    rw [if_neg (by decide)]
    unfold p193_64
    rw [if_pos (show nI 2 = (2 : Int32) from rfl)]
    unfold p193_69
    rw [cm, X2.1 59 (by decide) (by decide), X2.1 70 (by decide) (by decide), h59, cy', z_stg_o (k := 106) (by decide), z_stg_o (k := 107) (by decide), ← htz', ← hE, ← hrow]
    rw [hRh] at hQ
    refine ⟨zm, zy, zm, zm, zm, zy, zm, ?_⟩
    exact hQ
  have rh58 : z_fn 0 (Rh.1 58) m = nI x := by rw [hRh'.2.1.1 58 (by decide) (by decide)]; exact h58
  have u3 : u.2.2 ≤ 300 := hu3
  have hq2 := z_Cc.q u3 hcc
  by_cases hr : (E &&& (row ^^^ (-1))) = 0
  rotate_left
  · refine z_JG.dead (x := 7) (y := z_fn 0 (R0.1 62) m) hΦ hC2.2.2.1 hj2.2.1.2.1 (fun Q hQ => clh0 Q ?_) (fun Q hQ => re3 Q ?_)
    · exact k102f (lv := 61) hC2.2.1 (by omega) (by rw [ef2, ← hE]; exact hr) (fun S' hy => ⟨rfl, hQ S' (by rw [← p2]; exact hy)⟩)
    · rw [if_neg hr]
      unfold p193_121 p193_122
      rw [cm, hRh'.2.1.1 62 (by decide) (by decide)]
      refine ⟨zm, r190f (l := 7) (R := Rh) (G := fun R1 => p193_133 8 R1.1 R1.2.1 R1.2.2 (nI m) (nI 2) (z_ko κ N) (nI P) _) hRh'.2.2.2.2.1 ?_⟩
      have td : z_Td 7 (z_fn 0 (R0.1 62) m) (z_UF Rh.2.2 7 (z_fn 0 (R0.1 62) m)) := z_Td_F (by decide)
      show p193_133 8 Rh.1 Rh.2.1 (z_UF Rh.2.2 7 (z_fn 0 (R0.1 62) m)) (nI m) (nI 2) (z_ko κ N) (nI P) (fun x R1 => x = none ∧ z_WR 10 183 19 [(0, .ref 148)] [] R1 Q)
      unfold p193_133
      rw [cm, cP, hRh'.2.1.1 60 (by decide) (by decide)]
      have u82 : z_UF Rh.2.2 7 (z_fn 0 (R0.1 62) m) 41 82 = nI (P + 1) := by
        show z_v (z_v Rh.2.2 41 11 7) 41 12 (z_fn 0 (R0.1 62) m) 41 82 = _
        rw [z_vn (by decide), z_vn (by decide)]
        exact hRh'.2.2.2.1
      refine ⟨zm, zP, d194 (l := 6) (x := x) (R := z_rro 105 P (z_fn 0 (R0.1 60) m) (Rh.1, Rh.2.1, z_UF Rh.2.2 7 (z_fn 0 (R0.1 62) m))) (q := z_fn 0 (R0.1 60) m) m6 x6 (by omega) ?_ ?_ hq2 u82 td ?_⟩
      · rw [z_rro_o (by decide)]
        exact rh58
      · rw [z_rro_k, z_fcs]
      · intro R' t1 t2
        have xh : z_XU R2 Rh := by
          rw [hRh]
          exact (z_XU_stg.tr (z_XU_rro (by decide))).tr (z_XU_rro (by decide))
        exact ⟨rfl, rfl, r183d (l := 9) t1 (hQ R' t1 (((xh.tr z_XU_F).tr (z_XU_rro (by decide))).tr t2))⟩
  obtain ⟨R3, hR3⟩ : ∃ X : z_RS, X = z_rro 105 P (z_fn 0 (R0.1 60) m) Rh := ⟨_, rfl⟩
  have hR3' : z_KR R0 τ2.2.1 τ2.2.2 cc2 (P + 1) R3 := by rw [hR3]; exact hRh'.rro (by decide)
  have reh : ∀ Q, z_WR 8 194 0 [(0, .ref 148), (1, .int (nI m)), (2, .int (z_ko κ N)), (3, .int (nI P))] [] R3 (fun x R1 => x = none ∧ z_WR 10 183 19 [(0, .ref 148)] [] R1 Q) → z_WR 10 183 19 [(0, .ref 148)] [] R2 Q := by
    intro Q hQ
    refine re3 Q ?_
    rw [if_pos hr]
    unfold p193_117 p193_122
    refine ⟨zm, r190 (l := 7) (R := Rh) (G := fun R1 => p193_133 8 R1.1 R1.2.1 R1.2.2 (nI m) (nI 2) (z_ko κ N) (nI P) _) ?_⟩
    unfold p193_133
    rw [cm, cP, hRh'.2.1.1 60 (by decide) (by decide)]
    rw [hR3] at hQ
    exact ⟨zm, zP, z_WR.im hQ (fun x R1 q => ⟨q.1, rfl, q.2⟩)⟩
  have fle : ∀ y, y ∈ N :: (z_ctx S0.1 s).2 → y ≤ (z_ctx S0.1 s).1.length := by
    intro y hy
    rcases List.mem_cons.mp hy with q | q
    · rw [q, hN]
      exact Nat.le_refl _
    · exact hC.2.2.2.2.2.2.1.2.2 y q
  obtain ⟨S3, hS3⟩ : ∃ X : z_CS, X = (S2.1, S2.2.1, S2.2.2.1, z_v S2.2.2.2.1 27 10 (nI (z_ctx S0.1 s).1.length), S2.2.2.2.2.1, S2.2.2.2.2.2) := ⟨_, rfl⟩
  have hC3 : z_KC S0 (h + 1) τ2.1.1 τ2.1.2 (H + 2) (ρ + 1) mo2 S3 := by
    unfold z_KC
    rw [cxh1, hS3]
    exact (hCx2.fgt fle).mv (Nat.le_succ h)
  have s3 : S3.1 = S2.1 := by rw [hS3]
  have clh : ∀ Q, z_WC 64 82 31 [(0, .ref 134), (1, .int (nI (h + 1)))] [] S3 Q → z_WC 64 82 31 [(0, .ref 134), (1, .int (nI h))] [] S2 Q := by
    intro Q hQ
    refine clh0 Q ?_
    refine k102 (lv := 61) (G := fun S2 => p97_295 62 S2.1 S2.2.1 S2.2.2.1 S2.2.2.2.1 S2.2.2.2.2.1 S2.2.2.2.2.2 (nI h) _) (by omega) (by rw [ef2, ← hE]; exact hr) ?_
    have v10 : S2.2.2.2.1 27 10 - 1 = nI (z_ctx S0.1 s).1.length := by
      rw [hCx2.2.2.2.2.1.2.1]
      exact nI_pred _
    unfold p97_295
    rw [v10]
    rw [hS3] at hQ
    exact ⟨rfl, hQ⟩
  refine z_JG.jc (z_JC.cl (n_hloop hs hΦ fin hP r (z_fn 0 (R0.1 60) m) s (h + 1) τ2 mo2 cc2 3 0 S3 R3 (by omega) hcc ?_) clh) reh
  have kq2 : z_Kq b n τ2 N κ cc2 S2 R2 := (hj2.q (N := N + 1) (by rw [cxh, hN]; rfl)).fgt
  have o3 : ∀ k, k ≠ 103 → k ≠ 105 → k ≠ 108 → k ≠ 109 → R3.1 k = R2.1 k := fun k q1 q2 q3 q4 => by
    rw [hR3, z_rro_o q2, hRh, z_rro_o q4, z_rro_o q3, z_stg_o q1]
  have fka : z_Fk s (h + 1) H ρ N S Sa := by
    rw [hSa, hSo]
    exact (z_Fk.opn (Nat.lt_succ_self ρ)).tr (z_Fk.row (Or.inr (Or.inl rfl)) ⟨Nat.le_refl _, by omega⟩)
  have fkb : z_Fk s (h + 1) H ρ N S1 Sb := by
    have q1 : z_Fk s (h + 1) H ρ N S1 Sr := by
      rw [hSr]
      exact z_Fk.r36 (Or.inl rfl) (Nat.lt_succ_self ρ)
    have q2 : z_Fk s (h + 1) H ρ N Sr Sb := by
      rw [hSb]
      exact (z_Fk.bnc (ρ := ρ + 1) (Nat.le_refl N)).wk (Nat.le_refl _) (Nat.le_succ ρ) (Nat.le_refl _) (Nat.le_refl _) (Nat.le_refl _)
    exact q1.tr q2
  have fla : z_Fl u cc P R Ra := by
    rw [hRa]
    exact (z_Fl.stg (Nat.le_refl _)).tr (z_Fl.pil (Nat.le_succ _))
  have flb : z_Fl u cc P R1 Rb := by
    rw [hRb]
    exact ((z_Fl.stg (Nat.le_refl _)).tr (z_Fl.bnd cc01)).tr (z_Fl.pil (Nat.le_succ _))
  have flc : z_Fl u cc P R2 R3 := by
    rw [hR3, hRh]
    exact (((z_Fl.stg (Nat.le_refl _)).tr (z_Fl.rro (Or.inr ⟨by decide, by decide, hm.1, hm.2⟩))).tr (z_Fl.rro (Or.inr ⟨by decide, by decide, hm.1, hm.2⟩))).tr (z_Fl.rro (Or.inl ⟨rfl, Nat.le_refl _⟩))
  have moa1 : mo1 ≤ moa := by rw [hmoa]; exact Nat.le_max_left _ _
  refine ⟨?_, te1.tr te2, ?_, ?_, ⟨by omega, by omega, by omega, by omega⟩, ⟨⟨?_, ?_, ?_⟩, ?_, by decide, by omega⟩, ⟨?_, ?_, ?_, ?_⟩, ⟨?_, ?_⟩, ⟨?_, ?_, ?_, ?_⟩, ?_, ?_, cxh1, ?_⟩
  · exact (kq2.cg (S' := S3) (R' := R3) (fun k a b j c => by rw [s3]) (fun k a b j c => by rw [o3 k (by omega) (by omega) (by omega) (by omega)]) (Nat.le_refl _)).j (by rw [cxh1]; exact hN) hC3 hR3' hj2.2.2.1
  · exact (((fka.tr (fk1.wk (Nat.le_refl _) (Nat.le_succ ρ) (Nat.le_refl _) (Nat.le_succ s) (by omega))).tr fkb).tr (fk2.wk (by omega) (Nat.le_succ ρ) (by omega) (by omega) (by omega))).tr (z_Fk.eqA (fun k _ => by rw [s3]))
  · exact (((fla.tr (fl1.wk (Nat.le_refl _) (Nat.le_succ _) ⟨w1.1.1, w1.1.2⟩)).tr flb).tr (fl2.wk (by omega) (Nat.le_succ _) ⟨w2.1.1, w2.1.2⟩)).tr flc
  · rw [o3 102 (by decide) (by decide) (by decide) (by decide)]
    exact hp2.1
  · rw [hR3, z_rro_o (by decide), hRh, z_rro_o (by decide), z_rro_o (by decide), z_stg_103, z_fcs]
  · rw [o3 104 (by decide) (by decide) (by decide) (by decide)]
    exact hp2.2.2
  · rw [hR3, z_rro_k, z_fcs]
  · rw [s3]
    exact g36
  · rw [s3]
    exact g37
  · rw [hR3, z_rro_o (by decide), hRh, z_rro_k, z_fcs]
  · rw [s3, hR3, z_rro_o (by decide), hRh, z_rro_o (by decide), z_rro_k, z_fcs, htz']
    exact ty2
  · rw [s3, g28 29 (by decide) (by decide), o3 107 (by decide) (by decide) (by decide) (by decide), isx 107 (by decide) (by decide)]
    exact ef1
  · rw [s3, g28 30 (by decide) (by decide)]
    exact p1
  · rw [s3]
    exact g33
  · rw [s3]
    exact g35
  · rw [s3, gr 14 (by decide) s (by omega), fk1.2.2.2.2 14 (by decide) s (by omega), hSa, z_row_o (by decide), hSo, z_opn_o (by decide), hC.2.2.2.1 14 (by decide) s (Nat.le_refl _)]
    exact ho
  · rw [s3, gr 15 (by decide) s (by omega), fk1.2.2.2.2 15 (by decide) s (by omega), hSa, z_row_k, z_fcs]
  · intro j j1 j2
    rw [s3]
    by_cases q1 : j < g
    · exact (ag1 j (by omega) q1).e (fun q hq => gr q hq j (by omega))
    · by_cases q2 : j = g
      · rw [q2]
        refine z_ag.sm (by rw [hog]; decide) (fun q hq => ?_)
        rw [gr q hq g (Nat.le_refl _)]
        exact hC1.2.2.2.1 q hq g (Nat.le_refl _)
      · by_cases q3 : j < h
        · exact ag2 j (by omega) q3
        · have ej : j = h := by omega
          rw [ej]
          exact z_ag.sm (by rw [hoh]; decide) (fun q hq => hC2.2.2.2.1 q hq h (Nat.le_refl _))
  · intro j j1 j2 jl
    by_cases q1 : j ≤ g
    · exact Nat.le_trans (rm1 j (by omega) q1 jl) (by omega)
    · by_cases q2 : j ≤ h
      · exact rm2 j (by omega) q2 jl
      · have ej : j = h + 1 := by omega
        rw [ej]
        exact hC3.2.2.2.2.2.2.2.2.1
  · have g1 : z_gl τ (Sa.1 32) N = z_gl τ (S.1 32) N := z_gl_e N (fun j hj' => by rw [hSa, z_row_o (by decide), hSo, z_opn_o (by decide)])
    rw [hls, g1] at tj1
    have g2 : z_gl τ1 (S1.1 32) N = z_gl τ (S.1 32) N := by
      have q := hjc.gl (S' := S1) (i' := s + 1) te1 (fun j hj' => fk1.2.1 32 (by decide) (by decide) j (by rw [hls] at hj'; exact hj')) rfl
      rw [hls, g1] at q
      exact q
    have g3 : z_gl τ1 (Sb.1 32) (N + 1) = z_shx τ1 (z_fn 0 (S1.1 28) H) :: z_gl τ (S.1 32) N := by
      rw [← g2, z_gl_s, hSb, z_bnc_32, z_fcs, hty]
      exact congrArg (_ :: ·) (z_gl_e N (fun j hj' => by rw [z_fcn (by omega), hSr, z_row_o (by decide)]))
    rw [hlg, g3] at tj2
    rw [s3]
    exact fun k hk' hcv => Or.inr (Or.inr (Or.inr (Or.inr (Or.inr (Or.inr (Or.inr (Or.inr (Or.inl ⟨hk, x, y, g, h, r, _, v1, v2, ⟨x6, y6, w1, w2, w3⟩, h58, h59, hsg, hgh, hhe, ho, h17, ⟨hw, tj1 k (by omega)⟩, hog, hnm, ⟨hw, tj2 k (by omega)⟩, hoh, hoe, hcv⟩))))))))
end ZAD
