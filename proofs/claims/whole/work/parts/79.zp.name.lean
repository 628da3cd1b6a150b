/-! Checking, both together: a name. -/
def z_row (k j : Nat) (x : Int32) (S : z_CS) : z_CS := (z_u S.1 k ((j, x) :: S.1 k), S.2.1, S.2.2.1, S.2.2.2.1, S.2.2.2.2.1, S.2.2.2.2.2)
section ZPA
variable {S0 S : z_CS} {i ce : Nat} {T : Nat → Nat × Nat × Int32} {mT H ρ mo : Nat}
/-- an instruction that was passed is written -/
theorem z_KC.row (h : z_KC S0 i T mT H ρ mo S) {k j : Nat} {x : Int32} (hk : k = 14 ∨ k = 15 ∨ k = 18) (hj : j < i) : z_KC S0 i T mT H ρ mo (z_row k j x S) := by
  obtain ⟨h1, h2, h3, h4, h5, h6, h7, h8⟩ := h
  have o : ∀ q, q ≠ k → z_u S.1 k ((j, x) :: S.1 k) q = S.1 q := fun q hq => z_un hq
  refine ⟨h1.kp (fun q a b => o q (by omega)) rfl, h2, ⟨fun q a b c => (o q (by omega)).trans (h3.1 q a b c), h3.2⟩, fun q a r c => ?_, h5, ?_, ⟨h7.1, ?_⟩, ?_, h8.2⟩
  · show z_fn 0 (z_u S.1 k ((j, x) :: S.1 k) q) r = _
    by_cases e : q = k
    · rw [e, z_uk, z_fcn (by omega), ← e]
      exact h4 q a r c
    · rw [o q e]
      exact h4 q a r c
  · show z_Na (z_u S.1 k ((j, x) :: S.1 k) 31) _
    rw [o 31 (by omega)]
    exact h6
  · refine ⟨?_, h7.2.2⟩
    show z_Nf (z_u S.1 k ((j, x) :: S.1 k) 34) _
    rw [o 34 (by omega)]
    exact h7.2.1
  · show z_fn 0 (z_u S.1 k ((j, x) :: S.1 k) 35) ρ = _
    rw [o 35 (by omega)]
    exact h8.1
theorem z_Fk.row {s e N : Nat} {k j : Nat} {x : Int32} (hk : k = 14 ∨ k = 15 ∨ k = 18) (hj : s ≤ j ∧ j < e) : z_Fk s e H ρ N S (z_row k j x S) := by
  have o : ∀ q, q ≠ k → z_u S.1 k ((j, x) :: S.1 k) q = S.1 q := fun q hq => z_un hq
  refine ⟨fun q a b r c => ?_, fun q a b r c => ?_, fun q a r c => ?_, fun r c => ?_, fun q a r c => ?_⟩
  · show z_fn 0 (z_u S.1 k ((j, x) :: S.1 k) q) r = _
    rw [o q (by omega)]
  · show z_fn 0 (z_u S.1 k ((j, x) :: S.1 k) q) r = _
    rw [o q (by omega)]
  · show z_fn 0 (z_u S.1 k ((j, x) :: S.1 k) q) r = _
    rw [o q (by omega)]
  · show z_fn 0 (z_u S.1 k ((j, x) :: S.1 k) 35) r = _
    rw [o 35 (by omega)]
  · show z_fn 0 (z_u S.1 k ((j, x) :: S.1 k) q) r = _
    by_cases e : q = k
    · rw [e, z_uk, z_fcn (by intro e2; subst e2; exact c hj)]
    · rw [o q e]
end ZPA
theorem z_row_o {S : z_CS} {k j q : Nat} {x : Int32} (h : q ≠ k) : (z_row k j x S).1 q = S.1 q := z_un h
theorem z_row_k {S : z_CS} {k j : Nat} {x : Int32} : (z_row k j x S).1 k = (j, x) :: S.1 k := z_uk
section ZPB
variable {b : Nat → Nat} {n me : Nat} {τ0 : z_TT} {ce : Nat} {S0 S : z_CS} {R0 R : z_RS} {w : Nat} {u : z_Bd} {m s e : Nat} {p : Int32}
/-- both end by one fault -/
theorem z_JG.dead {Φ : z_V → z_CS → z_RS → Prop} {i : Nat} {x y : Int32} (hΦ : z_Fd S0 R0 Φ) (hS : z_XK S0 S) (hR' : z_XU R0 R) (c : ∀ Q, (∀ S', z_Yd x y S S' → Q (.inr 10) S') → z_WC 64 82 31 [(0, .ref 134), (1, .int (nI i))] [] S Q) (r : ∀ Q, (∀ R', z_Td x y R'.2.2 → z_XU R R' → Q none R') → z_WR 10 183 19 [(0, .ref 148)] [] R Q) : z_JG Φ i S R :=
  c _ (fun S' hy => r _ (fun R' ht hx => ⟨rfl, hΦ x y S' R' (hy.of hS) ht (hR'.tr hx)⟩))
/-- the class refuses, inside a method -/
theorem k50q {l : Nat} {k q : Int32} {Q : z_V → z_CS → Prop} {K : Option Value → z_CS → Prop} (hr : z_Rk S.2.2.1 S.2.2.2.2.2) (h : ∀ S', z_Yd k q S S' → Q (.inr 10) S') : z_WC l 50 0 [(0, .ref 109), (1, .int k), (2, .int q)] [] S (z_cx Q K) := by
  obtain ⟨S', h1, h2⟩ := k50 (l := l) (k := k) (p := q) hr
  exact ⟨_, S', h1, rfl, h S' h2⟩
theorem n_name (h1 : z_K1 b n me τ0 ce S0 R0) (hm : u.1.1 ≤ m ∧ m < u.1.2) (hm6 : m < 600) (hs : s < ce) (hk : z_fn 0 (R0.1 57) m = 15) (ho : z_fn 0 (S0.1 14) s = 1) (hnm : z_Nm b n (z_fn 0 (R0.1 64) m) (z_fn 0 (S0.1 15) s) (z_fn 0 (R0.1 65) m)) (h16 : z_fn 0 (S0.1 16) s = z_fn 0 (R0.1 64) m) (h19 : z_fn 0 (S0.1 19) s = p) : z_Kn b n τ0 ce S0 R0 w u m s (s + 1) p := by
  intro Φ hΦ τ H ρ mo cc P κ S R hj hp hb fin
  obtain ⟨hC, hR', hte, hch, hty⟩ := id hj
  have h0 := h1.1
  have cx : z_ctx S0.1 (s + 1) = z_ctx S0.1 s := z_ctx_id (o := 1) ho (Or.inl (by decide))
  have ci : (nI s).toNatClampNeg = s := nI_clamp (by have := h0.2.1; omega)
  have cm : (nI m).toNatClampNeg = m := nI_clamp (by omega)
  have eo : z_fn 0 (S.1 14) s = 1 := (hC.2.2.2.1 14 (by decide) s (Nat.le_refl _)).trans ho
  have e15 : z_fn 0 (S.1 15) s = z_fn 0 (S0.1 15) s := hC.2.2.2.1 15 (by decide) s (Nat.le_refl _)
  have e16 : S.1 16 = S0.1 16 := hC.2.2.1.1 16 (by decide) (by decide) (by decide)
  obtain ⟨N, hN⟩ : ∃ N, N = (z_ctx S0.1 s).1.length := ⟨_, rfl⟩
  have n128 : N ≤ 128 := by have := hb.1.2.1; omega
  have hV10 : S.2.2.2.1 27 10 = nI N := by rw [hN]; exact hC.2.2.2.2.1.2.1
  have hwh := hC.2.2.2.2.2.1.wh (v := z_fn 0 (S0.1 15) s)
  rw [← hN] at hwh hp hch hty
  have hP7 : P < 700 := by have := hb.2.1; omega
  have cc2 : cc ≤ 200000 := by have := hb.2.2.1; omega
  -- the class, up to what it found
  have cl : ∀ Q, p85_35 61 S.1 S.2.1 S.2.2.1 S.2.2.2.1 S.2.2.2.2.1 S.2.2.2.2.2 (nI s) (z_kf2 id (z_wh (S.1 31) (z_fn 0 (S0.1 15) s) N)) (z_cx (z_cx Q (fun x S1 => x = none ∧ z_WC 64 82 31 [(0, .ref 134), (1, .int (nI (s + 1)))] [] S1 Q)) (fun x S1 => x = none ∧ p83_115 62 S1.1 S1.2.1 S1.2.2.1 S1.2.2.2.1 S1.2.2.2.2.1 S1.2.2.2.2.2 (nI s) (z_cx Q (fun x S1 => x = none ∧ z_WC 64 82 31 [(0, .ref 134), (1, .int (nI (s + 1)))] [] S1 Q)))) → z_WC 64 82 31 [(0, .ref 134), (1, .int (nI s))] [] S Q := by
    intro Q hQ
    refine k83 (o := 1) hC h0 hs ho (by decide) ?_
    refine t83_0 (A := S.1) (E := S.2.1) (N := S.2.2.1) (V := S.2.2.2.1) (W := S.2.2.2.2.1) (c := S.2.2.2.2.2) ?_
    unfold p83_0
    rw [ci, eo]
    refine ⟨hC.in h0 hs (by decide) (by decide), ?_⟩
    rw [if_neg (by decide), if_pos rfl]
    exact ⟨hC.2.1.rm.1, w85 n128 hV10 (hC.in h0 hs (by decide) (by decide)) e15 ci hQ⟩
  -- the reference, up to what it found
  have X := hR'.2.1.tr (z_XU_stg (R := R) (P := P) (st := 0))
  have e64 : (z_stg P 0 R).1 64 = R0.1 64 := X.1 64 (by decide) (by decide)
  have e65 : (z_stg P 0 R).1 65 = R0.1 65 := X.1 65 (by decide) (by decide)
  have e44 : (z_stg P 0 R).1 44 = R0.1 44 := X.1 44 (by decide) (by decide)
  have chs : z_Ch b n (z_stg P 0 R).1 (S.1 31) κ cc N := by
    intro j hj
    rw [z_stg_o (by decide), z_stg_o (by decide), z_stg_o (by decide)]
    exact hch j hj
  have re : ∀ Q, p183_282 9 (z_stg P 0 R).1 (z_stg P 0 R).2.1 (z_stg P 0 R).2.2 (nI P) (nI m) (nI 0) (z_ko κ N) (z_kf2 κ (z_wh (S.1 31) (z_fn 0 (S0.1 15) s) N)) Q → z_WR 10 183 19 [(0, .ref 148)] [] R Q := by
    intro Q hQ
    refine r183 hR' hP7 hp hm6 hk ?_
    show p183_264 9 (z_stg P 0 R).1 (z_stg P 0 R).2.1 (z_stg P 0 R).2.2 (nI P) (nI m) (nI 0) (z_ko κ N) Q
    unfold p183_264
    rw [cm, e64, e65]
    refine ⟨z_inI hm6 (by decide), z_inI hm6 (by decide), ?_⟩
    exact w197 (l := 8) (R := z_stg P 0 R) (by rw [e44]; exact h1.2.1) hnm chs cc2 ⟨_, rfl, hQ⟩
  have hr8 := hC.2.1
  cases hw : z_wh (S.1 31) (z_fn 0 (S0.1 15) s) N with
  | none =>
    rw [hw] at cl re
    refine z_JG.dead (x := 5) (y := z_fn 0 (R0.1 64) m) hΦ hC.2.2.1 hR'.2.1 (fun Q hQ => cl Q ?_) (fun Q hQ => re Q ?_)
    · unfold p85_35
      rw [if_neg (show ¬ (0 : Int32) ≤ z_kf2 id none from (by decide : ¬ (0 : Int32) ≤ -1))]
      unfold p85_39
      rw [ci, e16, h16]
      exact ⟨hC.in h0 hs (by decide) (by decide), hr8.rm.1, k50q hr8 (fun S' hy => ⟨rfl, rfl, hQ S' hy⟩)⟩
    · unfold p183_282
      rw [if_pos (show z_kf2 κ none < 0 from (by decide : (-1 : Int32) < 0))]
      unfold p183_294 p183_295
      rw [cm, e64]
      refine ⟨z_inI hm6 (by decide), r190f (l := 8) hR'.2.2.2.2.1 ?_⟩
      unfold p183_305
      rw [if_neg (show ¬ (0 : Int32) ≤ z_kf2 κ none from (by decide : ¬ (0 : Int32) ≤ -1))]
      unfold p183_312 p183_323
      refine r187 (l := 8) (P := P) ?_ hm6 ?_
      · show z_UF R.2.2 5 (z_fn 0 (R0.1 64) m) 41 82 = nI (P + 1)
        exact hR'.2.2.2.1
      · have td : z_Td 5 (z_fn 0 (R0.1 64) m) (z_UF R.2.2 5 (z_fn 0 (R0.1 64) m)) := z_Td_F (by decide)
        refine r183d (l := 9) (x := 5) (y := z_fn 0 (R0.1 64) m) ⟨?_, ?_, ?_⟩ (hQ _ ⟨?_, ?_, ?_⟩ ?_)
        · exact td.1
        · exact td.2.1
        · exact td.2.2
        · exact td.1
        · exact td.2.1
        · exact td.2.2
        · exact (z_XU_stg.tr z_XU_F).tr z_XU_typ
  | some k =>
    rw [hw] at cl re
    obtain ⟨k1, k2⟩ := z_wh_lt N k hw
    obtain ⟨c1, c2, c3⟩ := hch k k1
    have hF := hC.2.2.2.2.2.2.1
    -- the floor
    obtain ⟨F, hF0, hF1, hF2⟩ : ∃ F, (z_ctx S0.1 s).2.headD 0 = F ∧ z_fn 0 (S.1 34) ρ = nI F ∧ F ≤ 128 := by
      cases hl : (z_ctx S0.1 s).2 with
      | nil =>
        rw [hl] at hF
        exact absurd hF.1 (by show ¬ 0 = ρ + 1; omega)
      | cons x r =>
        rw [hl] at hF
        have e : r.length = ρ := by
          have q := hF.1
          rw [List.length_cons] at q
          omega
        refine ⟨x, rfl, ?_, Nat.le_trans (hF.2.2 x (List.mem_cons_self ..)) (by rw [← hN]; exact n128)⟩
        rw [← e]
        exact hF.2.1.1
    have c16 : (nI ρ).toNatClampNeg = ρ := nI_clamp (by have := hb.1.2.2; omega)
    have z16 : z_in (nI ρ) 64 = true := z_inI (by have := hb.1.2.2; omega) (by decide)
    have ck : (nI k).toNatClampNeg = k := nI_clamp (by omega)
    have z14 : z_in (nI s) (S.2.2.1 14) = true := hC.in h0 hs (by decide) (by decide)
    have z15 : z_in (nI s) (S.2.2.1 15) = true := hC.in h0 hs (by decide) (by decide)
    -- floors are few
    obtain ⟨o2, a2, hoa⟩ : ∃ o2 a2 : Int32, (k < F ∧ o2 = 3 ∧ a2 = nI k) ∨ (F ≤ k ∧ o2 = 2 ∧ a2 = nI (k - F)) := by
      by_cases q : k < F
      · exact ⟨_, _, Or.inl ⟨q, rfl, rfl⟩⟩
      · exact ⟨_, _, Or.inr ⟨by omega, rfl, rfl⟩⟩
    have cl2 : ∀ Q, z_WC 64 82 31 [(0, .ref 134), (1, .int (nI (s + 1)))] [] (z_row 15 s a2 (z_row 14 s o2 (z_hold H (z_fn 0 (S.1 32) k) 0 p S))) Q → z_WC 64 82 31 [(0, .ref 134), (1, .int (nI s))] [] S Q := by
      intro Q hQ
      refine cl Q ?_
      unfold p85_35
      rw [if_pos (show (0 : Int32) ≤ z_kf2 id (some k) from nI_pos' (n := k) (by omega))]
      unfold p85_56
      rw [show z_kf2 id (some k) = nI k from rfl, ck]
      refine ⟨z_inI (by omega) (by decide), hr8.rm.1, k84 (l := 60) (G := fun S1 => p85_68 61 S1.1 S1.2.1 S1.2.2.1 S1.2.2.2.1 S1.2.2.2.2.1 S1.2.2.2.2.2 (nI s) (nI k) _) hC h0 hs (by have := hb.1.1; omega) ?_⟩
      rw [h19]
      have v16 : (z_hold H (z_fn 0 (S.1 32) k) 0 p S).2.2.2.1 27 16 = nI ρ := (show z_v S.2.2.2.1 27 7 (nI (H + 1)) 27 16 = S.2.2.2.1 27 16 from z_vn (by decide)).trans hC.2.2.2.2.1.2.2
      have a34 : (z_hold H (z_fn 0 (S.1 32) k) 0 p S).1 34 = S.1 34 := z_hold_o (by decide)
      unfold p85_68
      rw [v16, c16, a34, hF1]
      refine ⟨z16, ?_⟩
      rcases hoa with ⟨q, rfl, rfl⟩ | ⟨q, rfl, rfl⟩
      · rw [if_pos (nI_lt q (by omega))]
        unfold p85_85 p85_86
        rw [if_pos rfl]
        unfold p85_103 p85_104
        rw [if_pos rfl]
        unfold p85_131 p85_132
        rw [ci]
        exact ⟨z14, z15, rfl, rfl, hQ⟩
      · rw [if_neg (nI_nlt q (by omega))]
        unfold p85_81 p85_86
        rw [if_neg (by decide)]
        unfold p85_99 p85_104
        rw [if_neg (by decide)]
        unfold p85_117 p85_132
        rw [ci, v16, c16]
        refine ⟨z14, z16, z15, rfl, rfl, ?_⟩
        have e34 : z_fn 0 (z_u (z_hold H (z_fn 0 (S.1 32) k) 0 p S).1 14 ((s, 2) :: (z_hold H (z_fn 0 (S.1 32) k) 0 p S).1 14) 34) ρ = nI F := by
          rw [z_un (by decide), a34, hF1]
        rw [e34, pk_sub q]
        exact hQ
    have re2 : ∀ Q, z_WR 10 183 19 [(0, .ref 148)] [] (z_typ P m (z_fn 0 (R.1 100) (κ k)) 0 (z_stg P 0 R)) Q → z_WR 10 183 19 [(0, .ref 148)] [] R Q := by
      intro Q hQ
      refine re Q ?_
      have cκ : (nI (κ k)).toNatClampNeg = κ k := nI_clamp (by omega)
      unfold p183_282
      rw [show z_kf2 κ (some k) = nI (κ k) from rfl, if_neg (nI_pos (by omega))]
      unfold p183_290 p183_295
      refine ⟨z_inI hm6 (by decide), r190 (l := 8) ?_⟩
      unfold p183_305
      rw [if_pos (nI_pos' (by omega))]
      unfold p183_316
      rw [cκ, z_stg_o (by decide)]
      exact ⟨z_inI (by omega) (by decide), r187 (l := 8) (G := fun R1 => p183_327 9 R1.1 R1.2.1 R1.2.2 (nI P) (nI m) (nI 0) (z_ko κ N) (nI (κ k)) Q) hR'.2.2.2.1 hm6 hQ⟩
    refine z_JG.cl (z_JG.re (fin τ mo cc _ _ ?_) re2) cl2
    have hC1 := (((hC.hold (z_fn 0 (S.1 32) k) 0 p).adv cx).row (k := 14) (x := o2) (Or.inl rfl) (Nat.lt_succ_self s)).row (k := 15) (x := a2) (Or.inr (Or.inl rfl)) (Nat.lt_succ_self s)
    have hR1 := (hR'.stg (st := 0) (p := P)).typ (m := m) (ty := z_fn 0 (R.1 100) (κ k)) (ef := 0)
    have o31 : ∀ q, ¬ (28 ≤ q ∧ q ≤ 30) → q ≠ 14 → q ≠ 15 → (z_row 15 s a2 (z_row 14 s o2 (z_hold H (z_fn 0 (S.1 32) k) 0 p S))).1 q = S.1 q := fun q a b c => by rw [z_row_o c, z_row_o b, z_hold_o a]
    have fk : z_Fk s (s + 1) H ρ (z_ctx S0.1 s).1.length S (z_row 15 s a2 (z_row 14 s o2 (z_hold H (z_fn 0 (S.1 32) k) 0 p S))) := ((z_Fk.hold (Nat.le_refl _)).tr (z_Fk.row (Or.inl rfl) ⟨Nat.le_refl _, Nat.lt_succ_self _⟩)).tr (z_Fk.row (Or.inr (Or.inl rfl)) ⟨Nat.le_refl _, Nat.lt_succ_self _⟩)
    have ct : z_Cw b n 8 τ0 S0.1 R0.1 w u m s (s + 1) (z_gl τ (S.1 32) (z_ctx S0.1 s).1.length) (z_shx τ (z_fn 0 ((z_row 15 s a2 (z_row 14 s o2 (z_hold H (z_fn 0 (S.1 32) k) 0 p S))).1 28) H)) := by
      rw [z_row_o (by decide), z_row_o (by decide), z_hold_28, z_fcs]
      refine z_Cw.mk (Nat.lt_succ_self s) hm (fun f _ => Or.inr (Or.inr (Or.inr (Or.inl ⟨hk, rfl, ho, hnm, k, ?_, ?_⟩))))
      · rw [← hwh]
        exact hw
      · rw [← hN]
        exact z_gi_gl N k k1
    refine ⟨⟨hC1, hR1, hte, ?_, ?_⟩, z_Te.rf, fk, (z_Fl.stg (Nat.le_refl _)).tr (z_Fl.typ hm), ⟨Nat.le_refl _, Nat.le_refl _, by omega, Nat.add_le_add_left (z_cf_le (Nat.le_succ _)) _, Nat.add_le_add_left (z_cf_le (Nat.le_succ _)) _⟩, ⟨?_, ?_, ?_⟩, ?_, ?_, cx, ct⟩
    · rw [cx, ← hN]
      intro j hj
      rw [o31 31 (by decide) (by decide) (by decide), z_typ_o (by decide), z_typ_o (by decide), z_typ_o (by decide), z_stg_o (by decide), z_stg_o (by decide), z_stg_o (by decide)]
      exact hch j hj
    · rw [cx, ← hN]
      intro j hj
      rw [o31 32 (by decide) (by decide) (by decide), z_typ_o (by decide), z_stg_o (by decide)]
      exact hty j hj
    · rw [z_row_o (by decide), z_row_o (by decide), z_hold_30, z_fcs]
    · rw [z_row_o (by decide), z_row_o (by decide), z_hold_28, z_fcs, z_typ_106, z_fcs]
      exact hty k k1
    · rw [z_row_o (by decide), z_row_o (by decide), z_hold_29, z_fcs, z_typ_107, z_fcs]
    · intro j j1 j2
      have ej : j = s := by omega
      rw [ej]
      have g14 : z_fn 0 ((z_row 15 s a2 (z_row 14 s o2 (z_hold H (z_fn 0 (S.1 32) k) 0 p S))).1 14) s = o2 := by rw [z_row_o (by decide), z_row_k, z_fcs]
      have g15 : z_fn 0 ((z_row 15 s a2 (z_row 14 s o2 (z_hold H (z_fn 0 (S.1 32) k) 0 p S))).1 15) s = a2 := by rw [z_row_k, z_fcs]
      have g18 : z_fn 0 ((z_row 15 s a2 (z_row 14 s o2 (z_hold H (z_fn 0 (S.1 32) k) 0 p S))).1 18) s = z_fn 0 (S0.1 18) s := by
        rw [o31 18 (by decide) (by decide) (by decide)]
        exact hC.2.2.2.1 18 (by decide) s (Nat.le_refl _)
      refine ⟨fun q => absurd ho q, fun _ => ⟨k, by rw [← hwh, hw], ?_⟩, fun q => ?_, fun q => ?_, fun q => absurd (Or.inl ho) q, fun _ => g18⟩
      · rw [hF0, g14, g15]
        rcases hoa with ⟨q, rfl, rfl⟩ | ⟨q, rfl, rfl⟩
        · exact Or.inr ⟨q, rfl, rfl⟩
        · exact Or.inl ⟨q, rfl, rfl⟩
      · rw [ho] at q
        exact absurd q (by decide)
      · rw [ho] at q
        exact absurd q (by decide)
    · intro j j1 j2 _
      have q := hC.2.2.2.2.2.2.2.2.1
      rcases (show j = s ∨ j = s + 1 by omega) with rfl | rfl
      · exact q
      · rw [cx]
        exact q
end ZPB
