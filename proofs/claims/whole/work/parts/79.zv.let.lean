/-! Checking, both together: let. -/
section ZV
variable {b : Nat → Nat} {n me : Nat} {τ0 : z_TT} {ce : Nat} {S0 : z_CS} {R0 : z_RS} {w : Nat} {u v1 v2 : z_Bd} {m s e g x y : Nat} {p : Int32}
/-- one cell more -/
def z_kp (κ : Nat → Nat) (N cc : Nat) (j : Nat) : Nat := if j = N then cc else κ j
theorem z_kp_ko {κ : Nat → Nat} {N cc : Nat} : ∀ j, j ≤ N → z_ko (z_kp κ N cc) j = z_ko κ j := by
  intro j hj
  cases j with
  | zero => rfl
  | succ j =>
    show nI (z_kp κ N cc j) = nI (κ j)
    unfold z_kp
    rw [if_neg (by omega)]
theorem z_kp_n {κ : Nat → Nat} {N cc : Nat} : z_kp κ N cc N = cc := if_pos rfl
theorem z_kp_o {κ : Nat → Nat} {N cc j : Nat} (h : j < N) : z_kp κ N cc j = κ j := if_neg (by omega)
/-- both bind a name: what both hold then -/
theorem z_Kj.bnd {τ : z_TT} {i i' H ρ mo cc P : Nat} {κ : Nat → Nat} {S : z_CS} {R : z_RS} {q nm wd ty ty' : Int32} (h : z_Kj b n τ0 S0 R0 i τ H ρ mo cc P κ S R) (hi : i ≤ i') (hx : z_ctx S0.1 i' = (nm :: (z_ctx S0.1 i).1, (z_ctx S0.1 i).2)) (hq : z_Nm b n q nm wd) (ht : z_Tqd 51 τ ty ty') {N mo' : Nat} (hN : N = (z_ctx S0.1 i).1.length) (h128 : N < 128) (hmo : mo' = max mo (N + 1)) : z_Kj b n τ0 S0 R0 i' τ H ρ mo' (cc + 1) P (z_kp κ N cc) (z_bnc N ρ nm ty mo' S) (z_bnd cc q wd ty' (z_ko κ N) R) := by
  obtain ⟨h1, h2, h3, h4, h5⟩ := h
  subst hN hmo
  refine ⟨?_, h2.bnd, h3, ?_, ?_⟩
  · unfold z_KC
    rw [hx]
    exact (z_KCx.bnc h1 h128).mv hi
  · rw [hx]
    intro j hj
    have hj : j < (z_ctx S0.1 i).1.length + 1 := hj
    rw [z_bnd_101, z_bnd_98, z_bnd_99, z_bnc_31]
    by_cases e : j = (z_ctx S0.1 i).1.length
    · subst e
      rw [z_kp_n, z_fcs, z_fcs, z_fcs, z_fcs, z_kp_ko _ (Nat.le_refl _)]
      exact ⟨Nat.lt_succ_self _, rfl, hq⟩
    · obtain ⟨c1, c2, c3⟩ := h4 j (by omega)
      rw [z_kp_o (by omega), z_fcn (by omega), z_fcn (by omega), z_fcn (by omega), z_fcn (by omega), z_kp_ko _ (by omega)]
      exact ⟨by omega, c2, c3⟩
  · rw [hx]
    intro j hj
    have hj : j < (z_ctx S0.1 i).1.length + 1 := hj
    rw [z_bnd_100, z_bnc_32]
    by_cases e : j = (z_ctx S0.1 i).1.length
    · subst e
      rw [z_kp_n, z_fcs, z_fcs]
      exact ht
    · obtain ⟨c1, c2, c3⟩ := h4 j (by omega)
      rw [z_kp_o (by omega), z_fcn (by omega), z_fcn (by omega)]
      exact h5 j (by omega)
/-- the name is forgotten again -/
theorem z_Ch.fgt {R : z_RS} {a : List (Nat × Int32)} {κ : Nat → Nat} {cc c N : Nat} (h : z_Ch b n R.1 a (z_kp κ N c) cc (N + 1)) : z_Ch b n R.1 a κ cc N := by
  intro j hj
  have q := h j (by omega)
  rw [z_kp_o hj, z_kp_ko _ (by omega)] at q
  exact q
theorem n_let (h1 : z_K1 b n me τ0 ce S0 R0) (hm : u.1.1 ≤ m ∧ m < u.1.2) (hu6 : u.1.2 ≤ 600) (he : e ≤ ce) (hsg : s < g) (hge : g + 1 < e - 1) (hk : z_fn 0 (R0.1 57) m = 0) (w1 : z_S1 u m v1) (w2 : z_S1 u m v2) (w3 : v1.1.2 ≤ v2.1.1) (hxv : v1.1.1 ≤ x ∧ x < v1.1.2) (hyv : v2.1.1 ≤ y ∧ y < v2.1.2) (h58 : z_fn 0 (R0.1 58) m = nI x) (h59 : z_fn 0 (R0.1 59) m = nI y) (hog : z_fn 0 (S0.1 14) g = 4) (hnm : z_Nm b n (z_fn 0 (R0.1 64) m) (z_fn 0 (S0.1 15) g) (z_fn 0 (R0.1 65) m)) (ho : z_fn 0 (S0.1 14) (e - 1) = 5) (h19 : z_fn 0 (S0.1 19) (e - 1) = p) (hw : z_wle 4 w)
    (ihx : z_Kn b n τ0 ce S0 R0 (w - 0) v1 x s g (z_fn 0 (R0.1 61) m)) (ihy : z_Kn b n τ0 ce S0 R0 (w - 4) v2 y (g + 1) (e - 1) (z_fn 0 (R0.1 62) m)) : z_Kn b n τ0 ce S0 R0 w u m s e p := by
  have hwm := hw.mod
  have hwc := hw.1
  intro Φ hΦ τ H ρ mo cc P κ S R hj hp hb fin
  obtain ⟨d, rfl⟩ : ∃ d, e = d + 1 := ⟨e - 1, by omega⟩
  simp only [Nat.add_sub_cancel] at hge ho h19 ihy
  obtain ⟨N, hN⟩ : ∃ N, N = (z_ctx S0.1 s).1.length := ⟨_, rfl⟩
  have h0 := h1.1
  have m6 : m < 600 := by omega
  have x6 : x < 600 := by have := w1.1.2; omega
  have y6 : y < 600 := by have := w2.1.2; omega
  have cm : (nI m).toNatClampNeg = m := nI_clamp (by omega)
  have cx' : (nI x).toNatClampNeg = x := nI_clamp (by omega)
  have cy' : (nI y).toNatClampNeg = y := nI_clamp (by omega)
  have zm : z_in (nI m) 600 = true := z_inI m6 (by decide)
  have zx : z_in (nI x) 600 = true := z_inI x6 (by decide)
  have zy : z_in (nI y) 600 = true := z_inI y6 (by decide)
  have hP : P + 1 < 700 := by
    have := hb.2.1
    have := w1.1.1
    have := w1.1.2
    have := w1.2.2
    omega
  have re1 : ∀ Q, z_WR 10 183 19 [(0, .ref 148)] [] (z_pil (P + 1) x (z_ko κ N) (z_stg P 0 R)) Q → z_WR 10 183 19 [(0, .ref 148)] [] R Q := by
    intro Q hQ
    rw [← hN] at hp
    refine r183 hj.2.1 (by omega) hp m6 hk ?_
    show p183_156 9 (z_stg P 0 R).1 (z_stg P 0 R).2.1 (z_stg P 0 R).2.2 (nI P) (nI m) (nI 0) (z_ko κ N) Q
    have e58 : (z_stg P 0 R).1 58 = R0.1 58 := (hj.2.1.2.1.tr z_XU_stg).1 58 (by decide) (by decide)
    refine t185_0 (l := 8) (B := (z_stg P 0 R).1) (M := (z_stg P 0 R).2.1) (U := (z_stg P 0 R).2.2) ?_
    unfold p185_0
    rw [if_pos (show nI 0 = (0 : Int32) from rfl)]
    unfold p185_4
    rw [cm, e58, h58]
    exact ⟨zm, r184 (l := 7) (G := fun R1 => p185_15 8 R1.1 R1.2.1 R1.2.2 (nI m) (nI 0) (z_ko κ N) _) hj.2.1.2.2.2.1 hP ⟨rfl, hQ⟩⟩
  refine z_JG.re ?_ re1
  refine ihx Φ hΦ τ H ρ mo cc (P + 1) κ S _ hj.pil (by rw [← hN]; exact z_pil_tk) ⟨⟨by have := hb.1.1; omega, by have := hb.1.2.1; omega, by have := hb.1.2.2; omega⟩, ?_, hb.2.2.1, hb.2.2.2⟩ ?_
  · have := hb.2.1
    have := w1.1.1
    have := w1.1.2
    have := w1.2.2
    omega
  intro τ1 mo1 cc1 S1 R1 hke1
  obtain ⟨hj1, te1, fk1, fl1, ⟨mo01, cc01, cc1b, tb1, tb1'⟩, ⟨p1, ty1, ef1⟩, ag1, rm1, cx1, tj1⟩ := hke1
  rw [← hN] at fk1
  have hp1 := z_tpk.aft hp fl1
  rw [← hN] at hp1
  have gce : g < ce := by omega
  have cg' : (nI g).toNatClampNeg = g := nI_clamp (by have := h0.2.1; omega)
  have hC1 := hj1.1
  have e71 : S1.2.2.2.1 27 7 - 1 = nI H := by rw [hC1.2.2.2.2.1.1]; exact nI_pred H
  have H256 : H + 2 ≤ 256 := by have := hb.1.1; omega
  have cH : (nI H).toNatClampNeg = H := nI_clamp (by omega)
  have zH : z_in (nI H) 256 = true := z_inI (by omega) (by decide)
  have Ng : N = (z_ctx S0.1 g).1.length := by rw [cx1]; exact hN
  have n128 : N < 120 := by have := hb.1.2.1; omega
  have ρ64 : ρ < 64 := by have := hb.1.2.2; omega
  have cρ : (nI ρ).toNatClampNeg = ρ := nI_clamp (by omega)
  have zρ : z_in (nI ρ) 64 = true := z_inI ρ64 (by decide)
  obtain ⟨F, hF0, hF1, hF2⟩ : ∃ F, (z_ctx S0.1 g).2.headD 0 = F ∧ z_fn 0 (S1.1 34) ρ = nI F ∧ F ≤ N := by
    have hF := hC1.2.2.2.2.2.2.1
    cases hl : (z_ctx S0.1 g).2 with
    | nil =>
      rw [hl] at hF
      exact absurd hF.1 (by show ¬ 0 = ρ + 1; omega)
    | cons f r =>
      rw [hl] at hF
      have e : r.length = ρ := by
        have q := hF.1
        rw [List.length_cons] at q
        omega
      refine ⟨f, rfl, ?_, by rw [Ng]; exact hF.2.2 f (List.mem_cons_self ..)⟩
      rw [← e]
      exact hF.2.1.1
  obtain ⟨ty, hty⟩ : ∃ ty : Int32, ty = z_fn 0 (S1.1 28) H := ⟨_, rfl⟩
  obtain ⟨nm, hnm'⟩ : ∃ nm : Int32, nm = z_fn 0 (S0.1 15) g := ⟨_, rfl⟩
  obtain ⟨mo1', hmo1'⟩ : ∃ mo1', mo1' = max mo1 (N + 1) := ⟨_, rfl⟩
  have cxg : z_ctx S0.1 (g + 1) = (nm :: (z_ctx S0.1 g).1, (z_ctx S0.1 g).2) := by
    rw [z_ctx_s hog, hnm']
    rfl
  have e15 : z_fn 0 (S1.1 15) g = nm := by
    rw [hnm']
    exact hC1.2.2.2.1 15 (by decide) g (Nat.le_refl _)
  have v10 : S1.2.2.2.1 27 10 = nI N := by rw [Ng]; exact hC1.2.2.2.2.1.2.1
  have v16 : S1.2.2.2.1 27 16 = nI ρ := hC1.2.2.2.2.1.2.2
  have clg : ∀ Q, z_WC 64 82 31 [(0, .ref 134), (1, .int (nI (g + 1)))] [] (z_row 15 g (nI (N - F)) (z_bnc N ρ nm ty mo1' S1)) Q → z_WC 64 82 31 [(0, .ref 134), (1, .int (nI g))] [] S1 Q := by
    intro Q hQ
    refine k83 (o := 4) hC1 h0 gce hog (by decide) ?_
    refine t83_0 (A := S1.1) (E := S1.2.1) (N := S1.2.2.1) (V := S1.2.2.2.1) (W := S1.2.2.2.2.1) (c := S1.2.2.2.2.2) ?_
    have eo : z_fn 0 (S1.1 14) g = 4 := (hC1.2.2.2.1 14 (by decide) g (Nat.le_refl _)).trans hog
    unfold p83_0
    rw [cg', eo]
    refine ⟨hC1.in h0 gce (by decide) (by decide), ?_⟩
    rw [if_neg (by decide), if_neg (by decide), if_pos rfl]
    refine ⟨hC1.2.1.rm.1, t86_0 (l := 61) ?_⟩
    unfold p86_0
    rw [cg', e15, e71, cH, ← hty, v10, v16, cρ, hF1, pk_sub hF2]
    refine ⟨zρ, hC1.in h0 gce (by decide) (by decide), zH, hC1.2.1.rm.1, ?_⟩
    refine k87 (l := 60) (x := z_ctx S0.1 g) (G := fun S2 => p86_39 61 S2.1 S2.2.1 S2.2.2.1 S2.2.2.2.1 S2.2.2.2.2.1 S2.2.2.2.2.2 (nI g) (nI (N - F)) _) hC1 (by omega) ρ64 ?_
    rw [← Ng, ← hmo1']
    unfold p86_39
    rw [cg']
    exact ⟨hC1.in h0 gce (by decide) (by decide), rfl, rfl, hQ⟩
  have X1 := hj1.2.1.2.1.tr (z_XU_stg (R := R1) (P := P) (st := 1))
  obtain ⟨ty', hty'⟩ : ∃ ty' : Int32, ty' = z_fn 0 (R1.1 106) x := ⟨_, rfl⟩
  have cc200 : cc1 < 200000 := by have := hb.2.2.1; omega
  have re2 : ∀ Q, z_WR 10 183 19 [(0, .ref 148)] [] (z_pil (P + 1) y (nI cc1) (z_bnd cc1 (z_fn 0 (R0.1 64) m) (z_fn 0 (R0.1 65) m) ty' (z_ko κ N) (z_stg P 1 R1))) Q → z_WR 10 183 19 [(0, .ref 148)] [] R1 Q := by
    intro Q hQ
    refine r183 hj1.2.1 (by omega) hp1 m6 hk ?_
    show p183_156 9 (z_stg P 1 R1).1 (z_stg P 1 R1).2.1 (z_stg P 1 R1).2.2 (nI P) (nI m) (nI 1) (z_ko κ N) Q
    refine t185_0 (l := 8) (B := (z_stg P 1 R1).1) (M := (z_stg P 1 R1).2.1) (U := (z_stg P 1 R1).2.2) ?_
    unfold p185_0
    rw [if_neg (by decide)]
    unfold p185_18
    rw [if_pos (show nI 1 = (1 : Int32) from rfl)]
    unfold p185_23
    rw [cm, X1.1 58 (by decide) (by decide), X1.1 59 (by decide) (by decide), X1.1 64 (by decide) (by decide), X1.1 65 (by decide) (by decide), h58, h59, cx', z_stg_o (by decide), ← hty']
    refine ⟨zm, zm, zm, zm, zx, r186 (l := 7) (R := z_stg P 1 R1) (cc := cc1) (G := fun v R2 => p185_58 8 R2.1 R2.2.1 R2.2.2 (nI m) (nI 1) (z_ko κ N) v (nI y) _) hj1.2.1.2.2.1 cc200 ?_⟩
    exact r184 (l := 7) (G := fun R2 => p185_61 8 R2.1 R2.2.1 R2.2.2 (nI m) (nI 1) (z_ko κ N) _) (z_bnd_U (by decide) |>.trans hj1.2.1.2.2.2.1) hP ⟨rfl, hQ⟩
  refine z_JG.cl (z_JG.re ?_ re2) clg
  have hjs : z_Kj b n τ0 S0 R0 g τ1 (H + 1) ρ mo1 cc1 (P + 1) κ S1 (z_stg P 1 R1) := by
    refine ⟨hj1.1, hj1.2.1.stg, hj1.2.2.1, fun j hj => ?_, fun j hj => ?_⟩
    · rw [z_stg_o (by decide), z_stg_o (by decide), z_stg_o (by decide)]
      exact hj1.2.2.2.1 j hj
    · rw [z_stg_o (by decide)]
      exact hj1.2.2.2.2 j hj
  have hjb := z_Kj.bnd (i' := g + 1) (nm := nm) (ty := ty) (ty' := ty') (mo' := mo1') hjs (Nat.le_succ g) cxg (by rw [hnm']; exact hnm) (by rw [hty, hty']; exact ty1) Ng (by omega) hmo1'
  have hjc : z_Kj b n τ0 S0 R0 (g + 1) τ1 (H + 1) ρ mo1' (cc1 + 1) (P + 1 + 1) (z_kp κ N cc1) (z_row 15 g (nI (N - F)) (z_bnc N ρ nm ty mo1' S1)) (z_pil (P + 1) y (nI cc1) (z_bnd cc1 (z_fn 0 (R0.1 64) m) (z_fn 0 (R0.1 65) m) ty' (z_ko κ N) (z_stg P 1 R1))) := by
    refine ⟨hjb.1.row (Or.inr (Or.inl rfl)) (Nat.lt_succ_self g), hjb.2.1.pil, hjb.2.2.1, fun j hj => ?_, fun j hj => ?_⟩
    · rw [z_row_o (by decide), z_pil_o (by decide), z_pil_o (by decide), z_pil_o (by decide)]
      exact hjb.2.2.2.1 j hj
    · rw [z_row_o (by decide), z_pil_o (by decide)]
      exact hjb.2.2.2.2 j hj
  have hlg : (z_ctx S0.1 (g + 1)).1.length = N + 1 := by
    rw [cxg, Ng]
    rfl
  have hko : z_ko (z_kp κ N cc1) (z_ctx S0.1 (g + 1)).1.length = nI cc1 := by
    rw [hlg]
    show nI (z_kp κ N cc1 N) = nI cc1
    rw [z_kp_n]
  have cfg := z_cf_le (a := S0.1 14) (show g ≤ g + 1 from Nat.le_succ g)
  refine ihy Φ hΦ τ1 (H + 1) ρ mo1' (cc1 + 1) (P + 1) (z_kp κ N cc1) _ _ hjc (by rw [hko]; exact z_pil_tk) ⟨⟨by have := hb.1.1; omega, by rw [hlg]; have := hb.1.2.1; omega, by have := hb.1.2.2; omega⟩, ?_, ?_, ?_⟩ ?_
  · have := hb.2.1
    have := w2.1.1
    have := w2.1.2
    have := w2.2.2
    omega
  · have := hb.2.2.1
    omega
  · have := hb.2.2.2.1
    have := hb.2.2.2.2
    constructor <;> omega
  intro τ2 mo2 cc2 S2 R2 hke2
  obtain ⟨hj2, te2, fk2, fl2, ⟨mo12, cc12, cc2b, tb2, tb2'⟩, ⟨p2, ty2, ef2⟩, ag2, rm2, cx2, tj2⟩ := hke2
  rw [hlg] at fk2
  have hC := hj2.1
  have hdc : d < ce := by omega
  have cd : (nI d).toNatClampNeg = d := nI_clamp (by have := h0.2.1; omega)
  have hp2 : z_tpk P m 2 (z_ko κ N) R2 := by
    refine ⟨?_, ?_, ?_⟩
    · rw [fl2.2.1 102 (by decide) (by decide) P (Nat.lt_succ_self _), z_pil_102, z_fcn (by omega), z_bnd_o (by decide), z_stg_o (by decide)]
      exact hp1.1
    · rw [fl2.2.1 103 (by decide) (by decide) P (Nat.lt_succ_self _), z_pil_103, z_fcn (by omega), z_bnd_o (by decide), z_stg_103, z_fcs]
    · rw [fl2.2.1 104 (by decide) (by decide) P (Nat.lt_succ_self _), z_pil_104, z_fcn (by omega), z_bnd_o (by decide), z_stg_o (by decide)]
      exact hp1.2.2
  have isx : ∀ q, 106 ≤ q → q ≤ 107 → z_fn 0 (R2.1 q) x = z_fn 0 (R1.1 q) x := fun q a c => by rw [fl2.2.2 q a (by omega) x (by omega), z_pil_o (by omega), z_bnd_o (by omega), z_stg_o (by omega)]
  have hdx : ∀ q, 28 ≤ q → q ≤ 30 → z_fn 0 (S2.1 q) H = z_fn 0 (S1.1 q) H := fun q a c => by rw [fk2.1 q a c H (Nat.lt_succ_self _), z_row_o (by omega), z_bnc_o (by omega) (by omega) (by omega)]
  have cxd : z_ctx S0.1 (d + 1) = z_ctx S0.1 g := by
    rw [z_ctx_s ho, cx2, cxg]
    rfl
  have cxs : z_ctx S0.1 (d + 1) = z_ctx S0.1 s := cxd.trans cx1
  have eo : z_fn 0 (S2.1 14) d = 5 := (hC.2.2.2.1 14 (by decide) d (Nat.le_refl _)).trans ho
  have v71 : S2.2.2.2.1 27 7 - 1 = nI (H + 1) := by rw [hC.2.2.2.2.1.1]; exact nI_pred (H + 1)
  have ch1 : (nI (H + 1)).toNatClampNeg = H + 1 := nI_clamp (by omega)
  have zh1 : z_in (nI (H + 1)) 256 = true := z_inI (by omega) (by decide)
  have vN : S2.2.2.2.1 27 10 - 1 = nI N := by
    rw [hC.2.2.2.2.1.2.1, cx2, hlg]
    exact nI_pred N
  obtain ⟨S2b, hS2b⟩ : ∃ X : z_CS, X = (S2.1, S2.2.1, S2.2.2.1, z_v S2.2.2.2.1 27 10 (nI N), S2.2.2.2.2.1, S2.2.2.2.2.2) := ⟨_, rfl⟩
  have hCb : z_KC S0 (d + 1) τ2.1.1 τ2.1.2 (H + 2) ρ mo2 S2b := by
    obtain ⟨a1, a2, a3, a4, a5, a6, a7, a8⟩ := id hC
    rw [cx2, cxg] at a6 a7 a8
    have ov : ∀ k j, ¬ (k = 27 ∧ j = 10) → z_v S2.2.2.2.1 27 10 (nI N) k j = S2.2.2.2.1 k j := fun k j q => z_vn q
    unfold z_KC
    rw [cxd, hS2b]
    refine ⟨a1.kp (fun _ _ _ => rfl) (ov 8 4 (by decide)), a2, ⟨a3.1, a3.2.1, a3.2.2.1, fun k j q r => (ov k j (fun e => r e.1)).trans (a3.2.2.2.1 k j q r), a3.2.2.2.2.1, a3.2.2.2.2.2⟩, fun k q j c => a4 k q j (by omega), ⟨(ov 27 7 (by decide)).trans a5.1, ?_, (ov 27 16 (by decide)).trans a5.2.2⟩, a6.2, ⟨a7.1, a7.2.1, hC1.2.2.2.2.2.2.1.2.2⟩, a8.1, Nat.le_trans (Nat.le_succ _) a8.2.1, a8.2.2⟩
    show z_v S2.2.2.2.1 27 10 (nI N) 27 10 = _
    rw [z_vk, Ng]
  have X := hj2.2.1.2.1.tr (z_XU_stg (R := R2) (P := P) (st := 2))
  have e106 : (z_stg P 2 R2).1 106 = R2.1 106 := z_stg_o (by decide)
  have e107 : (z_stg P 2 R2).1 107 = R2.1 107 := z_stg_o (by decide)
  have r82 : (z_stg P 2 R2).2.2 41 82 = nI (P + 1) := hj2.2.1.2.2.2.1
  obtain ⟨E, hE⟩ : ∃ E : Int32, E = z_fn 0 (R2.1 107) x ||| z_fn 0 (R2.1 107) y := ⟨_, rfl⟩
  obtain ⟨tz, htz⟩ : ∃ tz : Int32, tz = z_fn 0 (S2.1 28) (H + 1) := ⟨_, rfl⟩
  obtain ⟨tz', htz'⟩ : ∃ tz' : Int32, tz' = z_fn 0 (R2.1 106) y := ⟨_, rfl⟩
  have re3 : ∀ Q, z_WR 10 183 19 [(0, .ref 148)] [] (z_typ P m tz' E (z_stg P 2 R2)) Q → z_WR 10 183 19 [(0, .ref 148)] [] R2 Q := by
    intro Q hQ
    refine r183 hj2.2.1 (by omega) hp2 m6 hk ?_
    show p183_156 9 (z_stg P 2 R2).1 (z_stg P 2 R2).2.1 (z_stg P 2 R2).2.2 (nI P) (nI m) (nI 2) (z_ko κ N) Q
    refine t185_0 (l := 8) (B := (z_stg P 2 R2).1) (M := (z_stg P 2 R2).2.1) (U := (z_stg P 2 R2).2.2) ?_
    unfold p185_0
    rw [if_neg (by decide)]
    unfold p185_18
    rw [if_neg (by decide)]
    unfold p185_64
    rw [cm, X.1 58 (by decide) (by decide), X.1 59 (by decide) (by decide), h58, h59, cx', cy', e106, e107, ← hE, ← htz']
    exact ⟨zm, zy, zm, zx, zm, zy, r187 (l := 7) (P := P) (G := fun R1 => p185_103 8 R1.1 R1.2.1 R1.2.2 (nI m) (nI 2) (z_ko κ N) _) r82 m6 ⟨rfl, hQ⟩⟩
  refine z_JG.re ?_ re3
  have cld : ∀ Q, z_WC 62 88 0 [(0, .ref 134), (1, .int (nI 2)), (2, .int tz), (3, .int (nI d))] [] S2b (z_cx (z_cx Q (fun x S1 => x = none ∧ z_WC 64 82 31 [(0, .ref 134), (1, .int (nI (d + 1)))] [] S1 Q)) (fun x S1 => x = none ∧ z_cx Q (fun x S1 => x = none ∧ z_WC 64 82 31 [(0, .ref 134), (1, .int (nI (d + 1)))] [] S1 Q) (.inl none) S1)) → z_WC 64 82 31 [(0, .ref 134), (1, .int (nI d))] [] S2 Q := by
    intro Q hQ
    refine k83 (o := 5) hC h0 hdc ho (by decide) ?_
    refine t83_0 (A := S2.1) (E := S2.2.1) (N := S2.2.2.1) (V := S2.2.2.2.1) (W := S2.2.2.2.2.1) (c := S2.2.2.2.2.2) ?_
    unfold p83_0
    rw [cd, eo]
    refine ⟨hC.in h0 hdc (by decide) (by decide), ?_⟩
    rw [if_neg (by decide), if_neg (by decide), if_neg (by decide), if_pos rfl]
    unfold p83_126
    rw [v71, ch1, ← htz, vN, ← hS2b]
    exact ⟨zh1, hC.2.1.rm.1, hQ⟩
  refine cld _ ?_
  refine k88 (l := 60) (p := 2) (G := fun S1 => z_cx _ _ (.inl none) S1) hCb h0 hdc H256 (by decide) (by omega) ?_
  intro S3 s1 s2 s3 hC3
  have hC3 : z_KC S0 (d + 1) τ2.1.1 τ2.1.2 H ρ mo2 S3 := hC3
  have s1 : S3.1 = S2.1 := s1.trans (by rw [hS2b])
  have ez : z_orr (S2b.1 29) (H + 2) 2 = E := by
    rw [hS2b]
    show (0 ||| z_fn 0 (S2.1 29) (H + 1)) ||| z_fn 0 (S2.1 29) H = E
    rw [Int32.zero_or, ef2, hdx 29 (by decide) (by decide), ef1, hE, isx 107 (by decide) (by decide), Int32.or_comm]
  rw [h19, ez]
  refine ⟨rfl, ?_⟩
  show z_WC 64 82 31 [(0, .ref 134), (1, .int (nI (d + 1)))] [] (z_hold H tz E p S3) _
  have hC4 := hC3.hold tz E p
  have hR4 := (hj2.2.1.stg (st := 2) (p := P)).typ (m := m) (ty := tz') (ef := E)
  have o4 : ∀ q, ¬ (28 ≤ q ∧ q ≤ 30) → (z_hold H tz E p S3).1 q = S2.1 q := fun q a => by rw [z_hold_o a, s1]
  have fk4 : z_Fk s (d + 1) H ρ N S2 (z_hold H tz E p S3) := by
    refine ⟨fun k a b j c => ?_, fun k a b j c => by rw [o4 k (by omega)], fun k a j c => by rw [o4 k (by omega)], fun j c => by rw [o4 35 (by decide)], fun k a j c => by rw [o4 k (by omega)]⟩
    rw [(z_Fk.hold (s := s) (e := d + 1) (ρ := ρ) (N := N) (Nat.le_refl H)).1 k a b j c, s1]
  have f1 := fk1.wk (s := s) (e := d + 1) (Nat.le_refl H) (Nat.le_refl ρ) (Nat.le_refl N) (Nat.le_refl s) (by omega)
  have fb : z_Fk s (d + 1) H ρ N S1 (z_row 15 g (nI (N - F)) (z_bnc N ρ nm ty mo1' S1)) := (z_Fk.bnc (Nat.le_refl _)).tr (z_Fk.row (Or.inr (Or.inl rfl)) ⟨by omega, by omega⟩)
  have f2 := fk2.wk (s := s) (e := d + 1) (Nat.le_succ H) (Nat.le_refl ρ) (Nat.le_succ N) (by omega) (by omega)
  have fla := z_Fl.pils (u := u) w1.1 (Nat.le_refl cc) fl1
  have flb : z_Fl u cc P R1 R2 := (((z_Fl.stg (Nat.le_refl _)).tr (z_Fl.bnd cc01)).tr (z_Fl.pil (Nat.le_succ _))).tr (fl2.wk (by omega) (Nat.le_succ _) w2.1)
  have cfd := z_cf_le (a := S0.1 14) (show d ≤ d + 1 from Nat.le_succ d)
  have mox : mo1 ≤ mo1' := by rw [hmo1']; exact Nat.le_max_left _ _
  have ct : z_Cw b n 8 τ0 S0.1 R0.1 w u m s (d + 1) (z_gl τ (S.1 32) (z_ctx S0.1 s).1.length) (z_shx τ2 (z_fn 0 (S2.1 28) (H + 1))) := by
    have g1 := hj.gl te1 (fun j hj => fk1.2.1 32 (by decide) (by decide) j (by rw [hN]; exact hj)) cx1
    rw [← Ng] at g1
    have g2 : z_gl τ1 ((z_row 15 g (nI (N - F)) (z_bnc N ρ nm ty mo1' S1)).1 32) (N + 1) = z_shx τ1 (z_fn 0 (S1.1 28) H) :: z_gl τ (S.1 32) (z_ctx S0.1 s).1.length := by
      rw [← g1, z_gl_s, z_row_o (by decide), z_bnc_32, z_fcs, hty]
      exact congrArg (_ :: ·) (z_gl_e N (fun j hj => by rw [z_fcn (by omega)]))
    rw [hlg, g2] at tj2
    exact z_Cw.mk (by omega) hm (fun f hf => Or.inr (Or.inr (Or.inr (Or.inr (Or.inl ⟨hk, x, y, g, _, v1, v2, ⟨x6, y6, w1, w2, w3⟩, h58, h59, hsg, hge, ⟨z_wle.z, tj1 f (by omega)⟩, hog, hnm, ⟨hw, tj2 f (by show d ≤ _; omega)⟩, ho⟩)))))
  refine fin τ2 mo2 cc2 _ _ ⟨⟨hC4, hR4, hj2.2.2.1, ?_, ?_⟩, te1.tr te2, by rw [← hN]; exact ((f1.tr fb).tr f2).tr fk4, (fla.tr flb).tr ((z_Fl.stg (Nat.le_refl _)).tr (z_Fl.typ hm)), ⟨by omega, by omega, by omega, by omega, by omega⟩, ⟨?_, ?_, ?_⟩, ?_, ?_, cxs, by rw [z_hold_28, z_fcs, htz]; exact ct⟩
  · rw [cxs, ← hN]
    have q := hj2.2.2.2.1
    rw [cx2, hlg] at q
    have q := z_Ch.fgt q
    intro j hj
    rw [o4 31 (by decide), z_typ_o (by decide), z_typ_o (by decide), z_typ_o (by decide), z_stg_o (by decide), z_stg_o (by decide), z_stg_o (by decide)]
    exact q j hj
  · rw [cxs, ← hN]
    intro j hj
    have q := hj2.2.2.2.2 j (by rw [cx2, hlg]; omega)
    rw [z_kp_o hj] at q
    rw [o4 32 (by decide), z_typ_o (by decide), z_stg_o (by decide)]
    exact q
  · rw [z_hold_30, z_fcs]
  · rw [z_hold_28, z_fcs, z_typ_106, z_fcs, htz, htz']
    exact ty2
  · rw [z_hold_29, z_fcs, z_typ_107, z_fcs]
  · intro j j1 j2
    by_cases q1 : j < g
    · refine (ag1 j j1 q1).e (fun q hq => ?_)
      rw [o4 q (by omega), fk2.2.2.2.2 q hq j (by omega)]
      have fr : z_Fk g (g + 1) H ρ N S1 (z_row 15 g (nI (N - F)) (z_bnc N ρ nm ty mo1' S1)) := (z_Fk.bnc (Nat.le_refl _)).tr (z_Fk.row (Or.inr (Or.inl rfl)) ⟨Nat.le_refl _, Nat.lt_succ_self _⟩)
      exact fr.2.2.2.2 q hq j (by omega)
    · by_cases q0 : j = g
      · rw [q0]
        have g15 : z_fn 0 ((z_hold H tz E p S3).1 15) g = nI (N - F) := by
          rw [o4 15 (by decide), fk2.2.2.2.2 15 (by decide) g (by omega), z_row_k, z_fcs]
        have gk : ∀ q, q = 14 ∨ q = 18 → z_fn 0 ((z_hold H tz E p S3).1 q) g = z_fn 0 (S0.1 q) g := by
          intro q hq
          rw [o4 q (by omega), fk2.2.2.2.2 q (by omega) g (by omega), z_row_o (by omega), z_bnc_o (by omega) (by omega) (by omega)]
          exact hC1.2.2.2.1 q (by omega) g (Nat.le_refl _)
        refine ⟨fun _ => gk 14 (Or.inl rfl), fun q => ?_, fun _ => by rw [g15, hF0, Ng], fun q => ?_, fun q => absurd (Or.inr (Or.inl hog)) q, fun _ => gk 18 (Or.inr rfl)⟩
        · rw [hog] at q
          exact absurd q (by decide)
        · rw [hog] at q
          exact absurd q (by decide)
      · by_cases q2 : j < d
        · exact (ag2 j (by omega) q2).e (fun q hq => by rw [o4 q (by omega)])
        · have ej : j = d := by omega
          rw [ej]
          refine z_ag.sm (by rw [ho]; decide) (fun q hq => ?_)
          rw [o4 q (by omega)]
          exact hC.2.2.2.1 q hq d (Nat.le_refl _)
  · intro j j1 j2 jl
    by_cases q1 : j ≤ g
    · exact Nat.le_trans (rm1 j j1 q1 jl) (Nat.le_trans mox mo12)
    · by_cases q2 : j ≤ d
      · exact rm2 j (by omega) q2 jl
      · have ej : j = d + 1 := by omega
        rw [ej]
        exact hCb.2.2.2.2.2.2.2.2.1
end ZV
