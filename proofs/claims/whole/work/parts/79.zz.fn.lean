/-! Checking, both together: fn. -/
section ZZF
variable {b : Nat → Nat} {n me : Nat} {τ0 : z_TT} {ce : Nat} {S0 : z_CS} {R0 : z_RS} {w : Nat} {u v1 : z_Bd} {m s e x : Nat} {p : Int32}
/-- what lies under the part that is checked -/
theorem z_tpk.bnd {P st cc x' : Nat} {q wd ty nx kx kx' : Int32} {v : z_Bd} {R R' : z_RS} (h : z_tpk P m st kx R) (hF : z_Fl v (cc + 1) (P + 1) (z_pil (P + 1) x' kx' (z_bnd cc q wd ty nx (z_stg P st R))) R') : z_tpk P m (st + 1) kx R' := by
  refine ⟨?_, ?_, ?_⟩
  · rw [hF.2.1 102 (by decide) (by decide) P (Nat.lt_succ_self _), z_pil_102, z_fcn (by omega), z_bnd_o (by decide), z_stg_o (by decide)]
    exact h.1
  · rw [hF.2.1 103 (by decide) (by decide) P (Nat.lt_succ_self _), z_pil_103, z_fcn (by omega), z_bnd_o (by decide), z_stg_103, z_fcs]
  · rw [hF.2.1 104 (by decide) (by decide) P (Nat.lt_succ_self _), z_pil_104, z_fcn (by omega), z_bnd_o (by decide), z_stg_o (by decide)]
    exact h.2.2
theorem n_fn (h1 : z_K1 b n me τ0 ce S0 R0) (hm : u.1.1 ≤ m ∧ m < u.1.2) (hu6 : u.1.2 ≤ 600) (he : e ≤ ce) (hse : s + 1 < e - 1) (hk : z_fn 0 (R0.1 57) m = 3) (w1 : z_S1 u m v1) (hxv : v1.1.1 ≤ x ∧ x < v1.1.2) (h58 : z_fn 0 (R0.1 58) m = nI x) (ho : z_fn 0 (S0.1 14) s = 17) (hnm : z_Nm b n (z_fn 0 (R0.1 64) m) (z_fn 0 (S0.1 15) s) (z_fn 0 (R0.1 65) m)) (htp : z_Tq τ0 (z_fn 0 (S0.1 16) s) (z_fn 0 (R0.1 68) m)) (h17 : z_fn 0 (S0.1 17) s = nI (e - 1)) (hoe : z_fn 0 (S0.1 14) (e - 1) = 18) (h19 : z_fn 0 (S0.1 19) (e - 1) = p) (hw : z_wle 4 w) (hfl : z_fl S0.1 (s + 1) (e - 1))
    (ihx : z_Kn b n τ0 ce S0 R0 (w - 4) v1 x (s + 1) (e - 1) (z_fn 0 (R0.1 61) m)) : z_Kn b n τ0 ce S0 R0 w u m s e p := by
  have hwm := hw.mod
  have hwc := hw.1
  intro Φ hΦ τ H ρ mo cc P κ S R hj hp hb fin
  obtain ⟨d, rfl⟩ : ∃ d, e = d + 1 := ⟨e - 1, by omega⟩
  simp only [Nat.add_sub_cancel] at hse hoe h19 ihx hfl h17
  obtain ⟨N, hN⟩ : ∃ N, N = (z_ctx S0.1 s).1.length := ⟨_, rfl⟩
  have h0 := h1.1
  have ce5 := h0.2.1
  have m6 : m < 600 := by omega
  have x6 : x < 600 := by have := w1.1.2; omega
  have cm : (nI m).toNatClampNeg = m := nI_clamp (by omega)
  have cx' : (nI x).toNatClampNeg = x := nI_clamp (by omega)
  have zm : z_in (nI m) 600 = true := z_inI m6 (by decide)
  have zx : z_in (nI x) 600 = true := z_inI x6 (by decide)
  have hP : P + 1 < 700 := by
    have := hb.2.1
    have := w1.1.1
    have := w1.1.2
    have := w1.2.2
    omega
  have hs : s < ce := by omega
  have ci : (nI s).toNatClampNeg = s := nI_clamp (by omega)
  have n128 : N < 120 := by have := hb.1.2.1; omega
  have ρ64 : ρ + 1 < 62 := by have := hb.1.2.2; omega
  have H256 : H + 1 < 256 := by have := hb.1.1; omega
  have hC := hj.1
  obtain ⟨nm, hnm'⟩ : ∃ nm : Int32, nm = z_fn 0 (S0.1 15) s := ⟨_, rfl⟩
  obtain ⟨ty, hty⟩ : ∃ ty : Int32, ty = z_fn 0 (S0.1 16) s := ⟨_, rfl⟩
  obtain ⟨ty', hty'⟩ : ∃ ty' : Int32, ty' = z_fn 0 (R0.1 68) m := ⟨_, rfl⟩
  have cρ1 : (nI (ρ + 1)).toNatClampNeg = ρ + 1 := nI_clamp (by omega)
  have zρ1 : z_in (nI (ρ + 1)) 64 = true := z_inI (by omega) (by decide)
  have e15 : z_fn 0 (S.1 15) s = nm := by
    rw [hnm']
    exact hC.2.2.2.1 15 (by decide) s (Nat.le_refl _)
  have e16 : z_fn 0 (S.1 16) s = ty := by
    rw [hty, hC.2.2.1.1 16 (by decide) (by decide) (by decide)]
  have hCo : z_KCx S0 s ((z_ctx S0.1 s).1, N :: (z_ctx S0.1 s).2) τ.1.1 τ.1.2 H (ρ + 1) N (z_opn (ρ + 1) N (nI s) S) := by
    rw [hN]
    exact z_KCx.opn hC (by omega)
  have hCb : z_KCx S0 s (nm :: (z_ctx S0.1 s).1, N :: (z_ctx S0.1 s).2) τ.1.1 τ.1.2 H (ρ + 1) (N + 1) (z_bnc N (ρ + 1) nm ty (N + 1) (z_opn (ρ + 1) N (nI s) S)) := z_KCx.fnb hC hN (by omega)
  obtain ⟨Sa, hSa⟩ : ∃ X : z_CS, X = z_row 15 s (nI N) (z_bnc N (ρ + 1) nm ty (N + 1) (z_opn (ρ + 1) N (nI s) S)) := ⟨_, rfl⟩
  have cls : ∀ Q, z_WC 64 82 31 [(0, .ref 134), (1, .int (nI (s + 1)))] [] Sa Q → z_WC 64 82 31 [(0, .ref 134), (1, .int (nI s))] [] S Q := by
    intro Q hQ
    rw [hSa] at hQ
    refine k97 (o := 17) hC h0 hs ho (by decide) (by decide) ?_
    refine t97_0 (A := S.1) (E := S.2.1) (N := S.2.2.1) (V := S.2.2.2.1) (W := S.2.2.2.2.1) (c := S.2.2.2.2.2) ?_
    have eo : z_fn 0 (S.1 14) s = 17 := (hC.2.2.2.1 14 (by decide) s (Nat.le_refl _)).trans ho
    unfold p97_0
    rw [ci, eo]
    refine ⟨hC.in h0 hs (by decide) (by decide), ?_⟩
    rw [if_pos rfl]
    refine ⟨hC.2.1.rm.1, k98 (l := 61) (x := z_ctx S0.1 s) (G := fun S1 => p97_69 62 S1.1 S1.2.1 S1.2.2.1 S1.2.2.2.1 S1.2.2.2.2.1 S1.2.2.2.2.2 (nI s) _) hC (by omega) ?_⟩
    rw [← hN]
    show p97_69 62 (z_opn (ρ + 1) N (nI s) S).1 (z_opn (ρ + 1) N (nI s) S).2.1 (z_opn (ρ + 1) N (nI s) S).2.2.1 (z_opn (ρ + 1) N (nI s) S).2.2.2.1 (z_opn (ρ + 1) N (nI s) S).2.2.2.2.1 (z_opn (ρ + 1) N (nI s) S).2.2.2.2.2 (nI s) _
    unfold p97_69
    rw [ci, z_opn_o (k := 15) (by decide), z_opn_o (k := 16) (by decide), e15, e16]
    refine ⟨hC.in h0 hs (by decide) (by decide), hC.in h0 hs (by decide) (by decide), hC.2.1.rm.1, ?_⟩
    refine k87 (l := 61) (x := ((z_ctx S0.1 s).1, N :: (z_ctx S0.1 s).2)) (G := fun S1 => p97_91 62 S1.1 S1.2.1 S1.2.2.1 S1.2.2.2.1 S1.2.2.2.2.1 S1.2.2.2.2.2 (nI s) _) hCo (show (z_ctx S0.1 s).1.length < 128 by omega) (by omega) ?_
    show p97_91 62 (z_bnc (z_ctx S0.1 s).1.length (ρ + 1) nm ty (max N ((z_ctx S0.1 s).1.length + 1)) (z_opn (ρ + 1) N (nI s) S)).1 (z_bnc (z_ctx S0.1 s).1.length (ρ + 1) nm ty (max N ((z_ctx S0.1 s).1.length + 1)) (z_opn (ρ + 1) N (nI s) S)).2.1 (z_bnc (z_ctx S0.1 s).1.length (ρ + 1) nm ty (max N ((z_ctx S0.1 s).1.length + 1)) (z_opn (ρ + 1) N (nI s) S)).2.2.1 (z_bnc (z_ctx S0.1 s).1.length (ρ + 1) nm ty (max N ((z_ctx S0.1 s).1.length + 1)) (z_opn (ρ + 1) N (nI s) S)).2.2.2.1 (z_bnc (z_ctx S0.1 s).1.length (ρ + 1) nm ty (max N ((z_ctx S0.1 s).1.length + 1)) (z_opn (ρ + 1) N (nI s) S)).2.2.2.2.1 (z_bnc (z_ctx S0.1 s).1.length (ρ + 1) nm ty (max N ((z_ctx S0.1 s).1.length + 1)) (z_opn (ρ + 1) N (nI s) S)).2.2.2.2.2 (nI s) _
    rw [← hN, Nat.max_eq_right (Nat.le_succ N)]
    unfold p97_91
    rw [hCb.2.2.2.2.1.2.2, cρ1, ci, hCb.fF]
    exact ⟨zρ1, hC.in h0 hs (by decide) (by decide), rfl, hQ⟩
  have X0 := hj.2.1.2.1.tr (z_XU_stg (R := R) (P := P) (st := 0))
  have cc200 : cc < 190000 := by have := hb.2.2.1; omega
  obtain ⟨Ra, hRa⟩ : ∃ X : z_RS, X = z_pil (P + 1) x (nI cc) (z_bnd cc (z_fn 0 (R0.1 64) m) (z_fn 0 (R0.1 65) m) ty' (z_ko κ N) (z_stg P 0 R)) := ⟨_, rfl⟩
  have re1 : ∀ Q, z_WR 10 183 19 [(0, .ref 148)] [] Ra Q → z_WR 10 183 19 [(0, .ref 148)] [] R Q := by
    intro Q hQ
    rw [hRa] at hQ
    rw [← hN] at hp
    refine r183 hj.2.1 (by omega) hp m6 hk ?_
    show p183_189 9 (z_stg P 0 R).1 (z_stg P 0 R).2.1 (z_stg P 0 R).2.2 (nI P) (nI m) (nI 0) (z_ko κ N) Q
    refine t192_0 (l := 8) (B := (z_stg P 0 R).1) (M := (z_stg P 0 R).2.1) (U := (z_stg P 0 R).2.2) ?_
    unfold p192_0
    rw [if_pos (show nI 0 = (0 : Int32) from rfl)]
    unfold p192_4
    rw [cm, X0.1 58 (by decide) (by decide), X0.1 64 (by decide) (by decide), X0.1 65 (by decide) (by decide), X0.1 68 (by decide) (by decide), h58, ← hty']
    refine ⟨zm, zm, zm, zm, r186 (l := 7) (R := z_stg P 0 R) (cc := cc) (G := fun v R2 => p192_34 8 R2.1 R2.2.1 R2.2.2 (nI m) (nI 0) (z_ko κ N) v (nI x) _) hj.2.1.2.2.1 (by omega) ?_⟩
    exact r184 (l := 7) (G := fun R2 => p192_37 8 R2.1 R2.2.1 R2.2.2 (nI m) (nI 0) (z_ko κ N) _) (z_bnd_U (by decide) |>.trans hj.2.1.2.2.2.1) hP ⟨rfl, hQ⟩
  refine z_JG.cl (z_JG.re ?_ re1) cls
  have cxs : z_ctx S0.1 (s + 1) = (nm :: (z_ctx S0.1 s).1, N :: (z_ctx S0.1 s).2) := by
    rw [z_ctx_s ho, hnm', hN]
    rfl
  have hls : (z_ctx S0.1 (s + 1)).1.length = N + 1 := by
    rw [cxs, hN]
    rfl
  have tq0 : z_Tq τ ty ty' := by
    rw [hty, hty']
    exact htp.x h1.2.2.2.1 h1.2.2.2.2 hj.2.2.1
  have hjc : z_Kj b n τ0 S0 R0 (s + 1) τ H (ρ + 1) (N + 1) (cc + 1) (P + 1 + 1) (z_kp κ N cc) Sa Ra := by
    have q1 := (hj.q hN).bnd (S' := Sa) (R := R) (nm := nm) (ty := ty) (ty' := ty') (by rw [hSa, z_row_o (by decide), z_bnc_31, z_opn_o (by decide)]) (by rw [hSa, z_row_o (by decide), z_bnc_32, z_opn_o (by decide)]) (by rw [hnm']; exact hnm) (tq0.d.le (by decide))
    have q2 : z_Kq b n τ (N + 1) (z_kp κ N cc) (cc + 1) Sa Ra := by
      refine q1.cg (fun k _ _ j _ => rfl) (fun k a c j _ => ?_) (Nat.le_refl _)
      rw [hRa, z_pil_o (by omega)]
      rcases (show k = 98 ∨ k = 99 ∨ k = 100 ∨ k = 101 by omega) with rfl | rfl | rfl | rfl
      · rw [z_bnd_98, z_bnd_98, z_stg_o (by decide)]
      · rw [z_bnd_99, z_bnd_99, z_stg_o (by decide)]
      · rw [z_bnd_100, z_bnd_100, z_stg_o (by decide)]
      · rw [z_bnd_101, z_bnd_101, z_stg_o (by decide)]
    refine q2.j hls.symm ?_ ?_ hj.2.2.1
    · have q : z_KC S0 (s + 1) τ.1.1 τ.1.2 H (ρ + 1) (N + 1) (z_bnc N (ρ + 1) nm ty (N + 1) (z_opn (ρ + 1) N (nI s) S)) := by
        unfold z_KC
        rw [cxs]
        exact hCb.mv (Nat.le_succ s)
      rw [hSa]
      exact q.row (Or.inr (Or.inl rfl)) (Nat.lt_succ_self s)
    · rw [hRa]
      exact (hj.2.1.stg.bnd).pil
  have hko : z_ko (z_kp κ N cc) (z_ctx S0.1 (s + 1)).1.length = nI cc := by
    rw [hls]
    show nI (z_kp κ N cc N) = nI cc
    rw [z_kp_n]
  have cf1 : z_cf (S0.1 14) (s + 1) = z_cf (S0.1 14) s + 1 := z_cf_1 (Or.inl ho)
  have cfd := z_cf_le (a := S0.1 14) (show d ≤ d + 1 from Nat.le_succ d)
  have cfc := z_cf_le (a := S0.1 14) (show d ≤ ce by omega)
  refine ihx Φ hΦ τ H (ρ + 1) (N + 1) (cc + 1) (P + 1) (z_kp κ N cc) Sa Ra hjc (by rw [hko, hRa]; exact z_pil_tk) ⟨⟨by have := hb.1.1; omega, by rw [hls]; have := hb.1.2.1; omega, by have := hb.1.2.2; omega⟩, ?_, ?_, ?_⟩ ?_
  · have := hb.2.1
    have := w1.1.1
    have := w1.1.2
    have := w1.2.2
    omega
  · have := hb.2.2.1
    omega
  · have := hb.2.2.2.1
    have := hb.2.2.2.2
    constructor <;> omega
  intro τ1 mo1 cc1 S1 R1 hke1
  obtain ⟨hj1, te1, fk1, fl1, ⟨mo01, cc01, cc1b, tb1, tb1'⟩, ⟨p1, ty1, ef1⟩, ag1, rm1, cx1, tj1⟩ := hke1
  rw [hls] at fk1
  have hp1 : z_tpk P m 1 (z_ko κ N) R1 := by
    rw [← hN] at hp
    rw [hRa] at fl1
    exact hp.bnd fl1
  have hC1 := hj1.1
  have hdc : d < ce := by omega
  have cd : (nI d).toNatClampNeg = d := nI_clamp (by omega)
  have b1 : τ1.1.2 < 1500 := by have := hb.2.2.2.1; omega
  have b2 : τ1.2.2 < 1500 := by have := hb.2.2.2.2; omega
  obtain ⟨r, r', er, er', lr, lr', dr, adr⟩ := ty1
  obtain ⟨a, a', ea, ea', la, la', da, ada⟩ := (tq0.x hC.1.1 hj.2.1.1.1 te1)
  obtain ⟨E, hE⟩ : ∃ E : Int32, E = z_fn 0 (R1.1 107) x := ⟨_, rfl⟩
  obtain ⟨T2, m2, q2, R2, run2, hR2, to2, oR2, oU2⟩ := r158x (l := 7) (e := E) (hj1.2.1.stg (st := 1) (p := P)) b2 la' lr'
  have X1 := hj1.2.1.2.1.tr (z_XU_stg (R := R1) (P := P) (st := 1))
  have re2 : ∀ Q, z_WR 10 183 19 [(0, .ref 148)] [] (z_typ P m (nI q2) 0 R2) Q → z_WR 10 183 19 [(0, .ref 148)] [] R1 Q := by
    intro Q hQ
    refine r183 hj1.2.1 (by omega) hp1 m6 hk ?_
    show p183_189 9 (z_stg P 1 R1).1 (z_stg P 1 R1).2.1 (z_stg P 1 R1).2.2 (nI P) (nI m) (nI 1) (z_ko κ N) Q
    refine t192_0 (l := 8) (B := (z_stg P 1 R1).1) (M := (z_stg P 1 R1).2.1) (U := (z_stg P 1 R1).2.2) ?_
    unfold p192_0
    rw [if_neg (by decide)]
    unfold p192_40
    rw [cm, X1.1 58 (by decide) (by decide), X1.1 68 (by decide) (by decide), h58, cx', z_stg_o (k := 106) (by decide), z_stg_o (k := 107) (by decide), ← hty', ea', er', ← hE]
    refine ⟨zm, zm, zx, zm, zx, _, _, run2, nI q2, rfl, ?_⟩
    exact r187 (l := 7) (P := P) (G := fun R1 => p192_78 8 R1.1 R1.2.1 R1.2.2 (nI m) (nI 1) (z_ko κ N) _) hR2.2.2.2.1 m6 ⟨rfl, hQ⟩
  refine z_JG.re ?_ re2
  -- the class at the end
  have cxd : z_ctx S0.1 d = (nm :: (z_ctx S0.1 s).1, N :: (z_ctx S0.1 s).2) := cx1.trans cxs
  have cxe : z_ctx S0.1 (d + 1) = z_ctx S0.1 s := by
    rw [z_ctx_s hoe, cxd]
    rfl
  have hCx1 : z_KCx S0 d (nm :: (z_ctx S0.1 s).1, N :: (z_ctx S0.1 s).2) τ1.1.1 τ1.1.2 (H + 1) (ρ + 1) mo1 S1 := by
    have q := hC1
    unfold z_KC at q
    rw [cxd] at q
    exact q
  have eo : z_fn 0 (S1.1 14) d = 18 := (hC1.2.2.2.1 14 (by decide) d (Nat.le_refl _)).trans hoe
  have cH : (nI H).toNatClampNeg = H := nI_clamp (by omega)
  have zH : z_in (nI H) 256 = true := z_inI (by omega) (by decide)
  have cN : (nI N).toNatClampNeg = N := nI_clamp (by omega)
  have zN : z_in (nI N) 128 = true := z_inI (by omega) (by decide)
  have v7 : S1.2.2.2.1 27 7 - 1 = nI H := by rw [hCx1.2.2.2.2.1.1]; exact nI_pred H
  have a32 : z_fn 0 (S1.1 32) N = nI a := by
    rw [fk1.2.1 32 (by decide) (by decide) N (Nat.lt_succ_self _), hSa, z_row_o (by decide), z_bnc_32, z_fcs, ea]
  have hCp := hCx1.pop H
  have fle : ∀ y, y ∈ N :: (z_ctx S0.1 s).2 → y ≤ (z_ctx S0.1 s).1.length := by
    intro y hy
    rcases List.mem_cons.mp hy with q | q
    · rw [q, hN]
      exact Nat.le_refl _
    · exact hC.2.2.2.2.2.2.1.2.2 y q
  have m35 : z_fn 0 (S1.1 35) ρ = nI mo := by
    rw [fk1.2.2.2.1 ρ (Nat.lt_succ_self _), hSa, z_row_o (by decide), z_bnc_35, z_fcn (by omega), z_opn_35, z_fcn (by omega)]
    exact hC.2.2.2.2.2.2.2.1
  have a33 : z_fn 0 (S1.1 33) (ρ + 1) = nI s := by
    rw [fk1.2.2.1 33 (by decide) (ρ + 1) (Nat.le_refl _), hSa, z_row_o (by decide), z_bnc_o (by decide) (by decide) (by decide), z_opn_33, z_fcs]
  have moN : N ≤ mo1 := by omega
  refine k97 (o := 18) hC1 h0 hdc hoe (by decide) (by decide) ?_
  refine t97_0 (A := S1.1) (E := S1.2.1) (N := S1.2.2.1) (V := S1.2.2.2.1) (W := S1.2.2.2.2.1) (c := S1.2.2.2.2.2) ?_
  unfold p97_0
  rw [cd, eo]
  refine ⟨hC1.in h0 hdc (by decide) (by decide), ?_⟩
  rw [if_neg (by decide), if_pos rfl]
  refine ⟨hC1.2.1.rm.1, t99_0 (l := 61) ?_⟩
  unfold p99_0
  rw [hCx1.2.2.2.2.1.2.2, cρ1, hCx1.fF, cN, v7, cH, a32, er, ef1, ← hE]
  refine ⟨zρ1, zN, zH, zH, hC1.2.1.rm.1, k59 (l := 60) (x := (nm :: (z_ctx S0.1 s).1, N :: (z_ctx S0.1 s).2)) (G := fun v S2 => p99_51 61 S2.1 S2.2.1 S2.2.2.1 S2.2.2.2.1 S2.2.2.2.2.1 S2.2.2.2.2.2 (nI d) (nI a) v _) hCp h0 b1 la lr ada ?_⟩
  intro T1 m1 q1 S2 hC2 to1 oA2
  have hC2f := hC2.fgt fle
  show p99_51 61 S2.1 S2.2.1 S2.2.2.1 S2.2.2.2.1 S2.2.2.2.2.1 S2.2.2.2.2.2 (nI d) (nI a) (nI q1) _
  have v10 : S2.2.2.2.1 27 10 - 1 = nI (z_ctx S0.1 s).1.length := by
    rw [hC2.2.2.2.2.1.2.1]
    exact nI_pred _
  unfold p99_51
  rw [v10]
  obtain ⟨S2b, hS2b⟩ : ∃ X : z_CS, X = (S2.1, S2.2.1, S2.2.2.1, z_v S2.2.2.2.1 27 10 (nI (z_ctx S0.1 s).1.length), S2.2.2.2.2.1, S2.2.2.2.2.2) := ⟨_, rfl⟩
  rw [← hS2b] at hC2f ⊢
  have sb : S2b.1 = S2.1 := by rw [hS2b]
  have oAb : ∀ k, ¬ (9 ≤ k ∧ k ≤ 12) → S2b.1 k = S1.1 k := fun k hk => by rw [sb]; exact oA2 k hk
  refine ⟨hC2.2.1.rm.1, k100 (lv := 60) (o := s) (G := fun S3 => p99_66 61 S3.1 S3.2.1 S3.2.2.1 S3.2.2.2.1 S3.2.2.2.2.1 S3.2.2.2.2.2 (nI d) (nI a) (nI q1) _) hC2f h0 (by rw [oAb 33 (by decide)]; exact a33) hs (by omega) moN ?_⟩
  obtain ⟨S3, hS3⟩ : ∃ X : z_CS, X = z_cloz s (mo1 - N) ρ S2b := ⟨_, rfl⟩
  rw [← hS3]
  have hC3 : z_KC S0 (d + 1) T1 m1 H ρ mo S3 := by
    unfold z_KC
    rw [cxe, hS3]
    exact (hC2f.cls (by rw [oAb 35 (by decide)]; exact m35) ⟨hC.2.2.2.2.2.2.2.2.1, hC.2.2.2.2.2.2.2.2.2⟩ (fun y hy => fle y (List.mem_cons_of_mem _ hy)) (by omega)).mv (Nat.le_succ d)
  show p99_66 61 S3.1 S3.2.1 S3.2.2.1 S3.2.2.2.1 S3.2.2.2.2.1 S3.2.2.2.2.2 (nI d) (nI a) (nI q1) _
  refine ⟨hC3.2.1.rm.1, k84 (l := 60) (G := fun S4 => p99_73 61 S4.1 S4.2.1 S4.2.2.1 S4.2.2.2.1 S4.2.2.2.2.1 S4.2.2.2.2.2 (nI d) (nI a) (nI q1) _) hC3 h0 hdc (by omega) ?_⟩
  rw [h19]
  refine ⟨rfl, rfl, ?_⟩
  show z_WC 64 82 31 [(0, .ref 134), (1, .int (nI (d + 1)))] [] (z_hold H (nI q1) 0 p S3) _
  have hC4 := hC3.hold (nI q1) 0 p
  obtain ⟨te2, tq2⟩ := z_To.tq (τ := τ1) hC1.1.1 hj1.2.1.1.1 hC2.1.1 hR2.1.1 to1 to2 la lr la' lr' da dr (D := 51) (by have := ada.1; omega) adr
  have hR4 := hR2.typ (m := m) (ty := nI q2) (ef := 0)
  have o3 : ∀ q, ¬ (9 ≤ q ∧ q ≤ 12) → q ≠ 18 → S3.1 q = S1.1 q := fun q a c => by rw [hS3, z_cloz_o c, oAb q a]
  have o4 : ∀ q, ¬ (9 ≤ q ∧ q ≤ 12) → q ≠ 18 → ¬ (28 ≤ q ∧ q ≤ 30) → (z_hold H (nI q1) 0 p S3).1 q = S1.1 q := fun q a c e => by rw [z_hold_o e, o3 q a c]
  have fka : z_Fk s (d + 1) H ρ N S Sa := by
    rw [hSa]
    exact ((z_Fk.opn (Nat.lt_succ_self ρ)).tr ((z_Fk.bnc (ρ := ρ + 1) (Nat.le_refl N)).wk (Nat.le_refl _) (Nat.le_succ ρ) (Nat.le_refl _) (Nat.le_refl _) (Nat.le_refl _))).tr (z_Fk.row (Or.inr (Or.inl rfl)) ⟨Nat.le_refl _, by omega⟩)
  have fkb : z_Fk s (d + 1) H ρ N S1 (z_hold H (nI q1) 0 p S3) := by
    have q : z_Fk s (d + 1) H ρ N S2b S3 := by
      rw [hS3]
      exact z_Fk.cls ⟨Nat.le_refl _, by omega⟩
    exact ((z_Fk.eqA oAb).tr q).tr (z_Fk.hold (Nat.le_refl _))
  have fk : z_Fk s (d + 1) H ρ N S (z_hold H (nI q1) 0 p S3) := (fka.tr (fk1.wk (Nat.le_refl _) (Nat.le_succ ρ) (Nat.le_succ N) (Nat.le_succ s) (Nat.le_succ d))).tr fkb
  have fl : z_Fl u cc P R (z_typ P m (nI q2) 0 R2) := by
    have f1 : z_Fl u cc P R Ra := by
      rw [hRa]
      exact ((z_Fl.stg (Nat.le_refl _)).tr (z_Fl.bnd (Nat.le_refl _))).tr (z_Fl.pil (Nat.le_succ _))
    have f2 : z_Fl u cc P (z_stg P 1 R1) R2 := ⟨fun k a b j c => by rw [oR2 k (by omega)], fun k a b j c => by rw [oR2 k (by omega)], fun k a b j c => by rw [oR2 k (by omega)]⟩
    exact (((f1.tr (fl1.wk (Nat.le_succ _) (Nat.le_succ _) ⟨w1.1.1, w1.1.2⟩)).tr (z_Fl.stg (Nat.le_refl _))).tr f2).tr (z_Fl.typ hm)
  have kq1 : z_Kq b n τ1 N κ cc1 S1 R1 := (hj1.q (N := N + 1) (by rw [cxd, hN]; rfl)).fgt
  have ct : z_Cw b n 8 τ0 S0.1 R0.1 w u m s (d + 1) (z_gl τ (S.1 32) (z_ctx S0.1 s).1.length) (z_shx ((T1, m1), (T2, m2)) (nI q1)) := by
    have q15 : q1 < 1500 := by have := to1.2.1; have := to1.2.2.2.2.1; omega
    have g2 : z_gl τ (Sa.1 32) (N + 1) = z_shx τ ty :: z_gl τ (S.1 32) (z_ctx S0.1 s).1.length := by
      rw [← hN, z_gl_s, hSa, z_row_o (by decide), z_bnc_32, z_fcs, z_opn_o (by decide)]
      exact congrArg (_ :: ·) (z_gl_e N (fun j hj => by rw [z_fcn (by omega)]))
    rw [hls, g2] at tj1
    have sT : z_shx ((T1, m1), (T2, m2)) (nI q1) = z_fz (z_shx τ ty) (z_shx τ1 (z_fn 0 (S1.1 28) H)) := by
      rw [z_shx_n q15]
      show z_sh T1 q1 = _
      rw [z_sh_s hC2.1.1 to1.2.2.2.1 to1.2.2.2.2.1, to1.2.2.2.2.2]
      show z_fz (z_sh T1 a) (z_sh T1 r) = _
      rw [z_sh_e hC1.1.1 to1.2.2.1 la, z_sh_e hC1.1.1 to1.2.2.1 lr, er, z_shx_n (by omega), ← z_shx_e hC.1.1 hC.1.2.1.1 te1 tq0.d, ea, z_shx_n (by omega)]
    rw [sT]
    exact z_Cw.mk (by omega) hm (fun f hf => Or.inr (Or.inr (Or.inr (Or.inr (Or.inr (Or.inr (Or.inr (Or.inl ⟨hk, x, _, _, v1, ⟨x6, w1⟩, h58, hse, ho, hnm, h17, ⟨hw, tj1 f (by show d ≤ _; omega)⟩, hoe, rfl⟩))))))))
  refine fin ((T1, m1), (T2, m2)) mo cc1 _ _ ⟨?_, te1.tr te2, by rw [← hN]; exact fk, fl, ⟨Nat.le_refl _, by omega, by omega, ?_, ?_⟩, ⟨?_, ?_, ?_⟩, ?_, ?_, cxe, by rw [z_hold_28, z_fcs]; exact ct⟩
  · refine ((kq1.te hC1.1.1 hj1.2.1.1.1 te2).cg (S' := z_hold H (nI q1) 0 p S3) (R' := z_typ P m (nI q2) 0 R2) (fun k a b j c => ?_) (fun k a b j c => ?_) (Nat.le_refl _)).j (by rw [cxe]; exact hN) hC4 hR4 ((hj.2.2.1.tr te1).tr te2)
    · rw [o4 k (by omega) (by omega) (by omega)]
    · rw [z_typ_o (by omega), oR2 k (by omega), z_stg_o (by omega)]
  · have := to1.2.1
    show m1 + _ ≤ _
    omega
  · have := to2.2.1
    show m2 + _ ≤ _
    omega
  · rw [z_hold_30, z_fcs]
  · rw [z_hold_28, z_fcs, z_typ_106, z_fcs]
    exact tq2
  · rw [z_hold_29, z_fcs, z_typ_107, z_fcs]
  · intro j j1 j2
    by_cases q0 : j = s
    · rw [q0]
      have g15 : z_fn 0 ((z_hold H (nI q1) 0 p S3).1 15) s = nI N := by
        rw [o4 15 (by decide) (by decide) (by decide), fk1.2.2.2.2 15 (by decide) s (by omega), hSa, z_row_k, z_fcs]
      have g14 : z_fn 0 ((z_hold H (nI q1) 0 p S3).1 14) s = z_fn 0 (S0.1 14) s := by
        rw [o4 14 (by decide) (by decide) (by decide), fk1.2.2.2.2 14 (by decide) s (by omega), hSa, z_row_o (by decide), z_bnc_o (by decide) (by decide) (by decide), z_opn_o (by decide)]
        exact hC.2.2.2.1 14 (by decide) s (Nat.le_refl _)
      have g18 : z_fn 0 ((z_hold H (nI q1) 0 p S3).1 18) s = nI (mo1 - N) := by
        rw [z_hold_o (by decide), hS3, z_cloz_18, z_fcs]
      refine ⟨fun _ => g14, fun q => ?_, fun q => ?_, fun _ => ⟨by rw [g15, hN], d, mo1 - N, h17, g18, ?_, ?_⟩, fun q => absurd (Or.inr (Or.inr (Or.inl ho))) q, fun q => absurd (Or.inl ho) q⟩
      · rw [ho] at q
        exact absurd q (by decide)
      · rw [ho] at q
        exact absurd q (by decide)
      · have := hC1.2.2.2.2.2.2.2.2.2
        omega
      · intro j3 j4 j5 j6
        have q := rm1 j3 j4 j5 (by rw [j6, hC.2.2.2.2.2.2.1.1])
        omega
    · by_cases q2 : j < d
      · refine (ag1 j (by omega) q2).e (fun q hq => ?_)
        by_cases q8 : q = 18
        · rw [q8, z_hold_o (by decide), hS3, z_cloz_18, z_fcn q0, oAb 18 (by decide)]
        · rw [o4 q (by omega) q8 (by omega)]
      · have ej : j = d := by omega
        rw [ej]
        refine z_ag.sm (by rw [hoe]; decide) (fun q hq => ?_)
        have h4 := hC1.2.2.2.1 q hq d (Nat.le_refl _)
        by_cases q8 : q = 18
        · rw [q8, z_hold_o (by decide), hS3, z_cloz_18, z_fcn (by omega), oAb 18 (by decide), ← q8]
          exact h4
        · rw [o4 q (by omega) q8 (by omega)]
          exact h4
  · intro j j1 j2 jl
    by_cases q0 : j = s
    · rw [q0]
      exact hC.2.2.2.2.2.2.2.2.1
    · by_cases q2 : j ≤ d
      · have q := (hfl.2.1 j (by omega) q2).1
        rw [cxs, jl] at q
        have q' : (N :: (z_ctx S0.1 s).2).length ≤ ρ + 1 := q
        rw [List.length_cons, hC.2.2.2.2.2.2.1.1] at q'
        omega
      · have ej : j = d + 1 := by omega
        rw [ej, cxe]
        exact hC.2.2.2.2.2.2.2.2.1
end ZZF
