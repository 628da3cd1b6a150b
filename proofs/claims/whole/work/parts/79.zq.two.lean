/-! Checking, both together: operators. -/
section ZQA
variable {b : Nat → Nat} {n me : Nat} {τ0 τ : z_TT} {ce : Nat} {S0 S : z_CS} {R0 R R' : z_RS} {w : Nat} {u v : z_Bd} {m s e i x st H ρ mo cc P : Nat} {p kx kx' : Int32} {κ : Nat → Nat}
/-- the reference piles a part of node m -/
theorem z_Kj.pil (h : z_Kj b n τ0 S0 R0 i τ H ρ mo cc (P + 1) κ S R) : z_Kj b n τ0 S0 R0 i τ H ρ mo cc (P + 1 + 1) κ S (z_pil (P + 1) x kx' (z_stg P st R)) := by
  obtain ⟨h1, h2, h3, h4, h5⟩ := h
  refine ⟨h1, (h2.stg).pil, h3, fun j hj => ?_, fun j hj => ?_⟩
  · rw [z_pil_o (by decide), z_pil_o (by decide), z_pil_o (by decide), z_stg_o (by decide), z_stg_o (by decide), z_stg_o (by decide)]
    exact h4 j hj
  · rw [z_pil_o (by decide), z_stg_o (by decide)]
    exact h5 j hj
theorem z_tpk.aft (h : z_tpk P m st kx R) (hF : z_Fl v cc (P + 1) (z_pil (P + 1) x kx' (z_stg P st R)) R') : z_tpk P m (st + 1) kx R' := by
  refine ⟨?_, ?_, ?_⟩
  · rw [hF.2.1 102 (by decide) (by decide) P (Nat.lt_succ_self _), z_pil_102, z_fcn (by omega), z_stg_o (by decide)]
    exact h.1
  · rw [hF.2.1 103 (by decide) (by decide) P (Nat.lt_succ_self _), z_pil_103, z_fcn (by omega), z_stg_103, z_fcs]
  · rw [hF.2.1 104 (by decide) (by decide) P (Nat.lt_succ_self _), z_pil_104, z_fcn (by omega), z_stg_o (by decide)]
    exact h.2.2
theorem z_Fl.pils (hu : u.1.1 ≤ v.1.1 ∧ v.1.2 ≤ u.1.2) {cc' : Nat} (hc : cc' ≤ cc) (hF : z_Fl v cc (P + 1) (z_pil (P + 1) x kx' (z_stg P st R)) R') : z_Fl u cc' P R R' := ((z_Fl.stg (Nat.le_refl _)).tr (z_Fl.pil (Nat.le_succ _))).tr (hF.wk hc (Nat.le_succ _) hu)
/-- one type stands for another in both tables alike -/
theorem z_Tqd.lo {D : Nat} {τ : z_TT} {y y' : Int32} (h1 : z_Tw τ.1.1 τ.1.2) (h2 : z_Tw τ.2.1 τ.2.2) (b1 : τ.1.2 ≤ 1500) (b2 : τ.2.2 ≤ 1500) (h : z_Tqd D τ y y') {t : Nat} (ht : t < 3) : y = nI t ↔ y' = nI t := by
  obtain ⟨a, a', rfl, rfl, l1, l2, e, -⟩ := h
  rw [nI_eq (by omega) (by omega), nI_eq (by omega) (by omega)]
  rcases z_dt_c h1 h2 l1 l2 e with ⟨-, e1⟩ | ⟨g1, g2, -⟩
  · rw [e1]
  · constructor <;> intro q <;> omega
/-- the class wants a type, and it is -/
theorem k89 {l q : Nat} {ty : Int32} {Q : z_V → z_CS → Prop} {G : z_CS → Prop} (hq : q < 256) (h : z_fn 0 (S.1 28) q = ty) (k : G S) : z_WC (l + 1) 89 0 [(0, .ref 134), (1, .int (nI q)), (2, .int ty)] [] S (z_cx Q (fun x S1 => x = none ∧ G S1)) := by
  have cq : (nI q).toNatClampNeg = q := nI_clamp (by omega)
  refine t89_0 (A := S.1) (E := S.2.1) (N := S.2.2.1) (V := S.2.2.2.1) (W := S.2.2.2.2.1) (c := S.2.2.2.2.2) ?_
  unfold p89_0
  rw [cq, if_pos h]
  exact ⟨z_inI hq (by decide), rfl, k⟩
theorem k89f {l q : Nat} {ty : Int32} {Q : z_V → z_CS → Prop} {K : Option Value → z_CS → Prop} (hr : z_Rk S.2.2.1 S.2.2.2.2.2) (hq : q < 256) (h : ¬ z_fn 0 (S.1 28) q = ty) (k : ∀ S', z_Yd 6 (z_fn 0 (S.1 30) q) S S' → Q (.inr 10) S') : z_WC (l + 1) 89 0 [(0, .ref 134), (1, .int (nI q)), (2, .int ty)] [] S (z_cx Q K) := by
  have cq : (nI q).toNatClampNeg = q := nI_clamp (by omega)
  refine t89_0 (A := S.1) (E := S.2.1) (N := S.2.2.1) (V := S.2.2.2.1) (W := S.2.2.2.2.1) (c := S.2.2.2.2.2) ?_
  unfold p89_0
  rw [cq, if_neg h]
  unfold p89_10
  rw [cq]
  exact ⟨z_inI hq (by decide), z_inI hq (by decide), hr.rm.1, k50q hr (fun S' hy => ⟨rfl, k S' hy⟩)⟩
/-- operands, of the class -/
theorem k90 {l h : Nat} {ty : Int32} {Q : z_V → z_CS → Prop} {G : z_CS → Prop} (hK : ∃ T mT ρ mo i, z_KC S0 i T mT (h + 2) ρ mo S) (hh : h + 2 ≤ 256) (h1 : z_fn 0 (S.1 28) h = 0) (h2 : z_fn 0 (S.1 28) (h + 1) = 0) {j : Nat} (k : z_WC (l + 2) 88 0 [(0, .ref 134), (1, .int (nI 2)), (2, .int ty), (3, .int (nI j))] [] S (z_cx Q (fun x S1 => x = none ∧ G S1)) ) : z_WC (l + 3) 90 0 [(0, .ref 134), (1, .int ty), (2, .int (nI j))] [] S (z_cx Q (fun x S1 => x = none ∧ G S1)) := by
  obtain ⟨T, mT, ρ, mo, i, hK⟩ := hK
  have e7 := hK.2.2.2.2.1.1
  have e1 : S.2.2.2.1 27 7 - 1 = nI (h + 1) := by rw [e7]; exact nI_pred (h + 1)
  have e2 : S.2.2.2.1 27 7 - 2 = nI h := by rw [e7]; exact pk_sub (a := h + 2) (b := 2) (by omega)
  refine t90_0 (A := S.1) (E := S.2.1) (N := S.2.2.1) (V := S.2.2.2.1) (W := S.2.2.2.2.1) (c := S.2.2.2.2.2) ?_
  unfold p90_0
  rw [e2]
  refine ⟨hK.2.1.rm.1, k89 (l := l + 1) (G := fun S1 => p90_11 (l + 2) S1.1 S1.2.1 S1.2.2.1 S1.2.2.2.1 S1.2.2.2.2.1 S1.2.2.2.2.2 ty (nI j) (z_cx Q (fun x S1 => x = none ∧ G S1))) (by omega) h1 ?_⟩
  unfold p90_11
  rw [e1]
  refine ⟨hK.2.1.rm.1, k89 (l := l + 1) (G := fun S1 => p90_22 (l + 2) S1.1 S1.2.1 S1.2.2.1 S1.2.2.2.1 S1.2.2.2.2.1 S1.2.2.2.2.2 ty (nI j) (z_cx Q (fun x S1 => x = none ∧ G S1))) (by omega) h2 ?_⟩
  refine ⟨hK.2.1.rm.1, z_WC.im k (fun o S1 q => ?_)⟩
  cases o with
  | inl a => exact ⟨q.1, rfl, q.2⟩
  | inr a => exact ⟨q.1, q⟩
theorem k90f1 {l h : Nat} {ty : Int32} {Q : z_V → z_CS → Prop} {K : Option Value → z_CS → Prop} (hK : ∃ T mT ρ mo i, z_KC S0 i T mT (h + 2) ρ mo S) (hh : h + 2 ≤ 256) (h1 : ¬ z_fn 0 (S.1 28) h = 0) {j : Nat} (k : ∀ S', z_Yd 6 (z_fn 0 (S.1 30) h) S S' → Q (.inr 10) S') : z_WC (l + 3) 90 0 [(0, .ref 134), (1, .int ty), (2, .int (nI j))] [] S (z_cx Q K) := by
  obtain ⟨T, mT, ρ, mo, i, hK⟩ := hK
  have e7 := hK.2.2.2.2.1.1
  have e2 : S.2.2.2.1 27 7 - 2 = nI h := by rw [e7]; exact pk_sub (a := h + 2) (b := 2) (by omega)
  refine t90_0 (A := S.1) (E := S.2.1) (N := S.2.2.1) (V := S.2.2.2.1) (W := S.2.2.2.2.1) (c := S.2.2.2.2.2) ?_
  unfold p90_0
  rw [e2]
  exact ⟨hK.2.1.rm.1, k89f (l := l + 1) hK.2.1 (by omega) h1 (fun S' hy => ⟨rfl, k S' hy⟩)⟩
theorem k90f2 {l h : Nat} {ty : Int32} {Q : z_V → z_CS → Prop} {K : Option Value → z_CS → Prop} (hK : ∃ T mT ρ mo i, z_KC S0 i T mT (h + 2) ρ mo S) (hh : h + 2 ≤ 256) (h1 : z_fn 0 (S.1 28) h = 0) (h2 : ¬ z_fn 0 (S.1 28) (h + 1) = 0) {j : Nat} (k : ∀ S', z_Yd 6 (z_fn 0 (S.1 30) (h + 1)) S S' → Q (.inr 10) S') : z_WC (l + 3) 90 0 [(0, .ref 134), (1, .int ty), (2, .int (nI j))] [] S (z_cx Q K) := by
  obtain ⟨T, mT, ρ, mo, i, hK⟩ := hK
  have e7 := hK.2.2.2.2.1.1
  have e1 : S.2.2.2.1 27 7 - 1 = nI (h + 1) := by rw [e7]; exact nI_pred (h + 1)
  have e2 : S.2.2.2.1 27 7 - 2 = nI h := by rw [e7]; exact pk_sub (a := h + 2) (b := 2) (by omega)
  refine t90_0 (A := S.1) (E := S.2.1) (N := S.2.2.1) (V := S.2.2.2.1) (W := S.2.2.2.2.1) (c := S.2.2.2.2.2) ?_
  unfold p90_0
  rw [e2]
  refine ⟨hK.2.1.rm.1, k89 (l := l + 1) (G := fun S1 => p90_11 (l + 2) S1.1 S1.2.1 S1.2.2.1 S1.2.2.2.1 S1.2.2.2.2.1 S1.2.2.2.2.2 ty (nI j) (z_cx Q K)) (by omega) h1 ?_⟩
  unfold p90_11
  rw [e1]
  exact ⟨hK.2.1.rm.1, k89f (l := l + 1) hK.2.1 (by omega) h2 (fun S' hy => ⟨rfl, k S' hy⟩)⟩
end ZQA
section ZQB
variable {b : Nat → Nat} {n me : Nat} {τ0 : z_TT} {ce : Nat} {S0 : z_CS} {R0 : z_RS} {w : Nat} {u v1 v2 : z_Bd} {m s e g x y : Nat} {p : Int32}
/-- the reference, a fault told: what is left of an operator's stage -/
theorem q198 {R : z_RS} {l : Nat} {a c x2 x3 : Int32} {Q : Option Value → z_RS → Prop} (hX : z_XU R0 R) (ht : z_Td a c R.2.2) (hm : m < 600) (hx : x < 600) (hy : y < 600) (h58 : z_fn 0 (R0.1 58) m = nI x) (h59 : z_fn 0 (R0.1 59) m = nI y) (h82 : ∃ P, R.2.2 41 82 = nI (P + 1)) (hQ : ∀ R', z_Td a c R'.2.2 → z_XU R R' → Q none R') : p198_92 (l + 1) R.1 R.2.1 R.2.2 (nI m) x2 x3 Q := by
  obtain ⟨P, h82⟩ := h82
  have cm : (nI m).toNatClampNeg = m := nI_clamp (by omega)
  have zm : z_in (nI m) 600 = true := z_inI hm (by decide)
  have zx : z_in (nI x) 600 = true := z_inI hx (by decide)
  have zy : z_in (nI y) 600 = true := z_inI hy (by decide)
  have e58 : R.1 58 = R0.1 58 := hX.1 58 (by decide) (by decide)
  have e59 : R.1 59 = R0.1 59 := hX.1 59 (by decide) (by decide)
  have fin : ∀ y0, p198_121 (l + 1) R.1 R.2.1 R.2.2 (nI m) x2 x3 y0 (nI m) Q := by
    intro y0
    unfold p198_121
    rw [cm, e58, e59, h58, h59]
    refine ⟨zm, zx, zm, zy, r187 (l := l) (P := P) (G := fun R1 => p198_147 (l + 1) R1.1 R1.2.1 R1.2.2 (nI m) x2 x3 Q) h82 hm (hQ _ ⟨?_, ?_, ?_⟩ z_XU_typ)⟩
    · exact ht.1
    · exact ht.2.1
    · exact ht.2.2
  unfold p198_92
  refine ⟨zm, ?_⟩
  split
  · exact fin 1
  · unfold p198_105
    refine ⟨zm, ?_⟩
    split
    · exact fin 1
    · exact fin 0
theorem n_two {k : Nat} (k5 : 5 ≤ k) (k9 : k ≤ 9) (h1 : z_K1 b n me τ0 ce S0 R0) (hm : u.1.1 ≤ m ∧ m < u.1.2) (hu6 : u.1.2 ≤ 600) (he : e ≤ ce) (hsg : s < g) (hge : g < e - 1) (hk : z_fn 0 (R0.1 57) m = nI k) (w1 : z_S1 u m v1) (w2 : z_S1 u m v2) (w3 : v1.1.2 ≤ v2.1.1) (hxv : v1.1.1 ≤ x ∧ x < v1.1.2) (hyv : v2.1.1 ≤ y ∧ y < v2.1.2) (h58 : z_fn 0 (R0.1 58) m = nI x) (h59 : z_fn 0 (R0.1 59) m = nI y) (ho : z_fn 0 (S0.1 14) (e - 1) = nI (k + 4)) (h19 : z_fn 0 (S0.1 19) (e - 1) = p) (hw : z_wle 1 w)
    (ihx : z_Kn b n τ0 ce S0 R0 (w - 0) v1 x s g (z_fn 0 (R0.1 61) m)) (ihy : z_Kn b n τ0 ce S0 R0 (w - 1) v2 y g (e - 1) (z_fn 0 (R0.1 62) m)) : z_Kn b n τ0 ce S0 R0 w u m s e p := by
  have hwm := hw.mod
  have hwc := hw.1
  intro Φ hΦ τ H ρ mo cc P κ S R hj hp hb fin
  obtain ⟨d, rfl⟩ : ∃ d, e = d + 1 := ⟨e - 1, by omega⟩
  simp only [Nat.add_sub_cancel] at hge ho h19 ihy
  obtain ⟨N, hN⟩ : ∃ N, N = (z_ctx S0.1 s).1.length := ⟨_, rfl⟩
  have m6 : m < 600 := by omega
  have x6 : x < 600 := by have := w1.1.2; omega
  have y6 : y < 600 := by have := w2.1.2; omega
  have cm : (nI m).toNatClampNeg = m := nI_clamp (by omega)
  have cx' : (nI x).toNatClampNeg = x := nI_clamp (by omega)
  have cy' : (nI y).toNatClampNeg = y := nI_clamp (by omega)
  have zm : z_in (nI m) 600 = true := z_inI m6 (by decide)
  have zx : z_in (nI x) 600 = true := z_inI x6 (by decide)
  have zy : z_in (nI y) 600 = true := z_inI y6 (by decide)
  have hP : P + 1 < 700 := by
    have := hb.2.1
    have := w1.1.1
    have := w1.1.2
    have := w1.2.2
    omega
  have disp : ∀ st (R : z_RS) Q, p183_330 9 R.1 R.2.1 R.2.2 (nI P) (nI m) (nI st) (z_ko κ N) Q → z_d183 (nI k) P m st (z_ko κ N) R Q := by
    intro st R Q h
    have q : ∀ c, c < 100 → k ≠ c → ¬ nI k = nI c := fun c hc ne e => ne ((nI_eq (by omega) (by omega)).mp e)
    unfold z_d183
    rw [if_neg (show ¬ nI k = 0 from q 0 (by decide) (by omega)), if_neg (show ¬ nI k = 1 from q 1 (by decide) (by omega)), if_neg (show ¬ nI k = 2 from q 2 (by decide) (by omega)), if_neg (show ¬ nI k = 3 from q 3 (by decide) (by omega)), if_neg (show ¬ nI k = 4 from q 4 (by decide) (by omega)), if_neg (show ¬ nI k = 10 from q 10 (by decide) (by omega)), if_neg (show ¬ nI k = 11 from q 11 (by decide) (by omega)), if_neg (show ¬ nI k = 12 from q 12 (by decide) (by omega)), if_neg (show ¬ nI k = 13 from q 13 (by decide) (by omega)), if_neg (show ¬ nI k = 14 from q 14 (by decide) (by omega)), if_neg (show ¬ nI k = 15 from q 15 (by decide) (by omega))]
    exact h
  -- the first operand
  have re1 : ∀ Q, z_WR 10 183 19 [(0, .ref 148)] [] (z_pil (P + 1) x (z_ko κ N) (z_stg P 0 R)) Q → z_WR 10 183 19 [(0, .ref 148)] [] R Q := by
    intro Q hQ
    rw [← hN] at hp
    refine r183 hj.2.1 (by omega) hp m6 hk (disp 0 _ Q ?_)
    have e58 : (z_stg P 0 R).1 58 = R0.1 58 := (hj.2.1.2.1.tr z_XU_stg).1 58 (by decide) (by decide)
    refine t198_0 (l := 8) (B := (z_stg P 0 R).1) (M := (z_stg P 0 R).2.1) (U := (z_stg P 0 R).2.2) ?_
    unfold p198_0
    rw [if_neg (show ¬ (2 : Int32) ≤ nI 0 by decide)]
    unfold p198_5
    rw [if_pos (show nI 0 = (0 : Int32) from rfl)]
    unfold p198_10 p198_25
    rw [cm, e58, h58]
    exact ⟨zm, r184 (l := 7) (G := fun R1 => p198_29 8 R1.1 R1.2.1 R1.2.2 (nI m) (nI 0) (z_ko κ N) _) hj.2.1.2.2.2.1 hP ⟨rfl, hQ⟩⟩
  refine z_JG.re ?_ re1
  refine ihx Φ hΦ τ H ρ mo cc (P + 1) κ S _ hj.pil (by rw [← hN]; exact z_pil_tk) ⟨⟨by have := hb.1.1; omega, by have := hb.1.2.1; omega, by have := hb.1.2.2; omega⟩, ?_, hb.2.2.1, hb.2.2.2⟩ ?_
  · have := hb.2.1
    have := w1.1.1
    have := w1.1.2
    have := w1.2.2
    omega
  intro τ1 mo1 cc1 S1 R1 hke1
  obtain ⟨hj1, te1, fk1, fl1, ⟨mo01, cc01, cc1b, tb1, tb1'⟩, ⟨p1, ty1, ef1⟩, ag1, rm1, cx1, tj1⟩ := hke1
  rw [← hN] at fk1
  have hp1 := z_tpk.aft hp fl1
  rw [← hN] at hp1
  -- the second
  have re2 : ∀ Q, z_WR 10 183 19 [(0, .ref 148)] [] (z_pil (P + 1) y (z_ko κ N) (z_stg P 1 R1)) Q → z_WR 10 183 19 [(0, .ref 148)] [] R1 Q := by
    intro Q hQ
    refine r183 hj1.2.1 (by omega) hp1 m6 hk (disp 1 _ Q ?_)
    have e59 : (z_stg P 1 R1).1 59 = R0.1 59 := (hj1.2.1.2.1.tr z_XU_stg).1 59 (by decide) (by decide)
    refine t198_0 (l := 8) (B := (z_stg P 1 R1).1) (M := (z_stg P 1 R1).2.1) (U := (z_stg P 1 R1).2.2) ?_
    unfold p198_0
    rw [if_neg (show ¬ (2 : Int32) ≤ nI 1 by decide)]
    unfold p198_5
    rw [if_neg (by decide)]
    unfold p198_19 p198_25
    rw [cm, e59, h59]
    exact ⟨zm, r184 (l := 7) (G := fun R1 => p198_29 8 R1.1 R1.2.1 R1.2.2 (nI m) (nI 1) (z_ko κ N) _) hj1.2.1.2.2.2.1 hP ⟨rfl, hQ⟩⟩
  refine z_JG.re ?_ re2
  have cfl := z_cf_le (a := S0.1 14) (show g ≤ ce by omega)
  refine ihy Φ hΦ τ1 (H + 1) ρ mo1 cc1 (P + 1) κ S1 _ hj1.pil (by rw [cx1, ← hN]; exact z_pil_tk) ⟨⟨by have := hb.1.1; omega, by rw [cx1]; have := hb.1.2.1; omega, by have := hb.1.2.2; omega⟩, ?_, ?_, ?_⟩ ?_
  · have := hb.2.1
    have := w2.1.1
    have := w2.1.2
    have := w2.2.2
    omega
  · have := hb.2.2.1
    omega
  · have := hb.2.2.2.1
    have := hb.2.2.2.2
    constructor <;> omega
  intro τ2 mo2 cc2 S2 R2 hke2
  obtain ⟨hj2, te2, fk2, fl2, ⟨mo12, cc12, cc2b, tb2, tb2'⟩, ⟨p2, ty2, ef2⟩, ag2, rm2, cx2, tj2⟩ := hke2
  rw [cx1, ← hN] at fk2
  have hp2 := z_tpk.aft hp1 fl2
  have hC := hj2.1
  have h0 := h1.1
  have hdc : d < ce := by omega
  have cd : (nI d).toNatClampNeg = d := nI_clamp (by have := h0.2.1; omega)
  have xv2 : ¬ (v2.1.1 ≤ x ∧ x < v2.1.2) := by omega
  have isx : ∀ q, 106 ≤ q → q ≤ 107 → z_fn 0 (R2.1 q) x = z_fn 0 (R1.1 q) x := fun q a c => by rw [fl2.2.2 q a (by omega) x xv2, z_pil_o (by omega), z_stg_o (by omega)]
  have hdx : ∀ q, 28 ≤ q → q ≤ 30 → z_fn 0 (S2.1 q) H = z_fn 0 (S1.1 q) H := fun q a c => fk2.1 q a c H (Nat.lt_succ_self _)
  have T2 := hC.1
  have TR2 := hj2.2.1.1
  have ty1' : z_Tqd 51 τ2 (z_fn 0 (S2.1 28) H) (z_fn 0 (R2.1 106) x) := by
    rw [isx 106 (by decide) (by decide), hdx 28 (by decide) (by decide)]
    exact ty1.x hj1.1.1.1 hj1.2.1.1.1 te2
  have i1 := ty1'.lo T2.1 TR2.1 T2.2.1.1 TR2.2.1 (t := 0) (by decide)
  have i2 := ty2.lo T2.1 TR2.1 T2.2.1.1 TR2.2.1 (t := 0) (by decide)
  have i1 : z_fn 0 (S2.1 28) H = 0 ↔ z_fn 0 (R2.1 106) x = 0 := i1
  have i2 : z_fn 0 (S2.1 28) (H + 1) = 0 ↔ z_fn 0 (R2.1 106) y = 0 := i2
  have eo : z_fn 0 (S2.1 14) d = nI (k + 4) := (hC.2.2.2.1 14 (by decide) d (Nat.le_refl _)).trans ho
  obtain ⟨t, ht3, htk⟩ : ∃ t : Nat, t < 3 ∧ ((k ≤ 7 ∧ t = 0) ∨ (8 ≤ k ∧ t = 1)) := by
    by_cases q : k ≤ 7
    · exact ⟨0, by decide, Or.inl ⟨q, rfl⟩⟩
    · exact ⟨1, by decide, Or.inr ⟨by omega, rfl⟩⟩
  have H256 : H + 2 ≤ 256 := by have := hb.1.1; omega
  -- the class comes to the operator
  have cl : ∀ Q, z_WC 62 90 0 [(0, .ref 134), (1, .int (nI t)), (2, .int (nI d))] [] S2 (z_cx (z_cx Q (fun x S1 => x = none ∧ z_WC 64 82 31 [(0, .ref 134), (1, .int (nI (d + 1)))] [] S1 Q)) (fun x S1 => x = none ∧ z_cx Q (fun x S1 => x = none ∧ z_WC 64 82 31 [(0, .ref 134), (1, .int (nI (d + 1)))] [] S1 Q) (.inl none) S1)) → z_WC 64 82 31 [(0, .ref 134), (1, .int (nI d))] [] S2 Q := by
    intro Q hQ
    refine k83 (o := k + 4) hC h0 hdc ho (by omega) ?_
    refine t83_0 (A := S2.1) (E := S2.2.1) (N := S2.2.2.1) (V := S2.2.2.2.1) (W := S2.2.2.2.2.1) (c := S2.2.2.2.2.2) ?_
    unfold p83_0
    rw [cd, eo]
    refine ⟨hC.in h0 hdc (by decide) (by decide), ?_⟩
    rcases (show k = 5 ∨ k = 6 ∨ k = 7 ∨ k = 8 ∨ k = 9 by omega) with rfl | rfl | rfl | rfl | rfl
    · have et : t = 0 := by omega
      subst et
      rw [if_neg (by decide), if_neg (by decide), if_neg (by decide), if_neg (by decide), if_neg (by decide), if_neg (by decide), if_pos (show nI (5 + 4) = (9 : Int32) from rfl)]
      exact ⟨hC.2.1.rm.1, hQ⟩
    · have et : t = 0 := by omega
      subst et
      rw [if_neg (by decide), if_neg (by decide), if_neg (by decide), if_neg (by decide), if_neg (by decide), if_neg (by decide), if_neg (by decide), if_pos (show nI (6 + 4) = (10 : Int32) from rfl)]
      exact ⟨hC.2.1.rm.1, hQ⟩
    · have et : t = 0 := by omega
      subst et
      rw [if_neg (by decide), if_neg (by decide), if_neg (by decide), if_neg (by decide), if_neg (by decide), if_neg (by decide), if_neg (by decide), if_neg (by decide), if_pos (show nI (7 + 4) = (11 : Int32) from rfl)]
      exact ⟨hC.2.1.rm.1, hQ⟩
    · have et : t = 1 := by omega
      subst et
      rw [if_neg (by decide), if_neg (by decide), if_neg (by decide), if_neg (by decide), if_neg (by decide), if_neg (by decide), if_neg (by decide), if_neg (by decide), if_neg (by decide), if_pos (show nI (8 + 4) = (12 : Int32) from rfl)]
      exact ⟨hC.2.1.rm.1, hQ⟩
    · have et : t = 1 := by omega
      subst et
      rw [if_neg (by decide), if_neg (by decide), if_neg (by decide), if_neg (by decide), if_neg (by decide), if_neg (by decide), if_neg (by decide), if_neg (by decide), if_neg (by decide), if_neg (by decide), if_pos (show nI (9 + 4) = (13 : Int32) from rfl)]
      exact ⟨hC.2.1.rm.1, hQ⟩
  -- the reference comes to it
  have X := hj2.2.1.2.1.tr (z_XU_stg (R := R2) (P := P) (st := 2))
  have e57 : (z_stg P 2 R2).1 57 = R0.1 57 := X.1 57 (by decide) (by decide)
  have e58 : (z_stg P 2 R2).1 58 = R0.1 58 := X.1 58 (by decide) (by decide)
  have e59 : (z_stg P 2 R2).1 59 = R0.1 59 := X.1 59 (by decide) (by decide)
  have e61 : (z_stg P 2 R2).1 61 = R0.1 61 := X.1 61 (by decide) (by decide)
  have e62 : (z_stg P 2 R2).1 62 = R0.1 62 := X.1 62 (by decide) (by decide)
  have e106 : (z_stg P 2 R2).1 106 = R2.1 106 := z_stg_o (by decide)
  have e107 : (z_stg P 2 R2).1 107 = R2.1 107 := z_stg_o (by decide)
  have f0 : (z_stg P 2 R2).2.2 41 11 = 0 := hj2.2.1.2.2.2.2.1
  have r82 : (z_stg P 2 R2).2.2 41 82 = nI (P + 1) := hj2.2.1.2.2.2.1
  have re : ∀ Q, p198_30 8 (z_stg P 2 R2).1 (z_stg P 2 R2).2.1 (z_stg P 2 R2).2.2 (nI m) (nI 2) (z_ko κ N) (fun x R1 => x = none ∧ z_WR 10 183 19 [(0, .ref 148)] [] R1 Q) → z_WR 10 183 19 [(0, .ref 148)] [] R2 Q := by
    intro Q hQ
    refine r183 hj2.2.1 (by omega) hp2 m6 hk (disp 2 _ Q ?_)
    refine t198_0 (l := 8) (B := (z_stg P 2 R2).1) (M := (z_stg P 2 R2).2.1) (U := (z_stg P 2 R2).2.2) ?_
    unfold p198_0
    rw [if_pos (show (2 : Int32) ≤ nI 2 by decide)]
    exact hQ
  by_cases c1 : z_fn 0 (S2.1 28) H = 0
  · have d1 := i1.mp c1
    by_cases c2 : z_fn 0 (S2.1 28) (H + 1) = 0
    · have d2 := i2.mp c2
      have re3 : ∀ Q, z_WR 10 183 19 [(0, .ref 148)] [] (z_typ P m (nI t) (z_fn 0 (R2.1 107) x ||| z_fn 0 (R2.1 107) y) (z_stg P 2 R2)) Q → z_WR 10 183 19 [(0, .ref 148)] [] R2 Q := by
        intro Q hQ
        refine re Q ?_
        unfold p198_30
        rw [cm, e58, h58, cx', e106, if_pos d1]
        refine ⟨zm, zx, ?_⟩
        unfold p198_45 p198_50
        refine ⟨zm, r190 (l := 7) ?_⟩
        unfold p198_61
        rw [cm, e59, h59, cy', e106, if_pos d2]
        refine ⟨zm, zy, ?_⟩
        unfold p198_76 p198_81
        refine ⟨zm, r190 (l := 7) ?_⟩
        have fin2 : p198_121 8 (z_stg P 2 R2).1 (z_stg P 2 R2).2.1 (z_stg P 2 R2).2.2 (nI m) (nI 2) (z_ko κ N) (nI t) (nI m) (fun x R1 => x = none ∧ z_WR 10 183 19 [(0, .ref 148)] [] R1 Q) := by
          unfold p198_121
          rw [cm, e58, e59, h58, h59, cx', cy', e107]
          exact ⟨zm, zx, zm, zy, r187 (l := 7) (P := P) (G := fun R1 => p198_147 8 R1.1 R1.2.1 R1.2.2 (nI m) (nI 2) (z_ko κ N) (fun x R1 => x = none ∧ z_WR 10 183 19 [(0, .ref 148)] [] R1 Q)) r82 m6 ⟨rfl, hQ⟩⟩
        unfold p198_92
        rw [cm, e57, hk]
        refine ⟨zm, ?_⟩
        rcases htk with ⟨q, et⟩ | ⟨q, et⟩
        · subst et
          rw [if_neg (show ¬ nI k = 8 from fun e => absurd ((nI_eq (b := 8) (by omega) (by decide)).mp e) (by omega))]
          unfold p198_105
          rw [cm, e57, hk, if_neg (show ¬ nI k = 9 from fun e => absurd ((nI_eq (b := 9) (by omega) (by decide)).mp e) (by omega))]
          exact ⟨zm, fin2⟩
        · subst et
          rcases (show k = 8 ∨ k = 9 by omega) with rfl | rfl
          · rw [if_pos (show nI 8 = (8 : Int32) from rfl)]
            exact fin2
          · rw [if_neg (by decide)]
            unfold p198_105
            rw [cm, e57, hk, if_pos (show nI 9 = (9 : Int32) from rfl)]
            exact ⟨zm, fin2⟩
      refine z_JG.re ?_ re3
      refine cl _ (k90 (l := 59) (h := H) ⟨_, _, _, _, _, hC⟩ H256 c1 c2 ?_)
      refine k88 (l := 59) (p := 2) hC h0 hdc H256 (by decide) (by omega) ?_
      intro S3 s1 s2 s3 hC3
      rw [show H + 2 - 2 = H from Nat.add_sub_cancel H 2, h19] at *
      refine ⟨rfl, ?_⟩
      have ef : z_orr (S2.1 29) (H + 2) 2 = z_fn 0 (R2.1 107) x ||| z_fn 0 (R2.1 107) y := by
        show (0 ||| z_fn 0 (S2.1 29) (H + 2 - 1)) ||| z_fn 0 (S2.1 29) (H + 2 - 2) = _
        rw [show H + 2 - 1 = H + 1 from rfl, show H + 2 - 2 = H from rfl, Int32.zero_or, ef2, hdx 29 (by decide) (by decide), ef1, isx 107 (by decide) (by decide), Int32.or_comm]
      rw [ef]
      have cxd : z_ctx S0.1 (d + 1) = z_ctx S0.1 d := z_ctx_id ho (Or.inr (Or.inl ⟨by omega, by omega⟩))
      have cxs : z_ctx S0.1 d = z_ctx S0.1 s := cx2.trans cx1
      have hC4 := (hC3.hold (nI t) (z_fn 0 (R2.1 107) x ||| z_fn 0 (R2.1 107) y) p).adv cxd
      have hR4 := (hj2.2.1.stg (st := 2) (p := P)).typ (m := m) (ty := nI t) (ef := z_fn 0 (R2.1 107) x ||| z_fn 0 (R2.1 107) y)
      have o4 : ∀ q, ¬ (28 ≤ q ∧ q ≤ 30) → (z_hold H (nI t) (z_fn 0 (R2.1 107) x ||| z_fn 0 (R2.1 107) y) p S3).1 q = S2.1 q := fun q a => by rw [z_hold_o a, s1]
      have fk3 : z_Fk s (d + 1) H ρ N S2 (z_hold H (nI t) (z_fn 0 (R2.1 107) x ||| z_fn 0 (R2.1 107) y) p S3) := by
        have q : z_Fk s (d + 1) H ρ N S3 (z_hold H (nI t) (z_fn 0 (R2.1 107) x ||| z_fn 0 (R2.1 107) y) p S3) := z_Fk.hold (Nat.le_refl _)
        unfold z_Fk at q ⊢
        rw [← s1]
        exact q
      have f1 := fk1.wk (s := s) (e := d + 1) (Nat.le_refl H) (Nat.le_refl ρ) (Nat.le_refl N) (Nat.le_refl s) (by omega)
      have f2 := fk2.wk (s := s) (e := d + 1) (Nat.le_succ H) (Nat.le_refl ρ) (Nat.le_refl N) (by omega) (by omega)
      have fla := z_Fl.pils (u := u) w1.1 (Nat.le_refl cc) fl1
      have flb := z_Fl.pils (u := u) w2.1 cc01 fl2
      have ct : z_Cw b n 8 τ0 S0.1 R0.1 w u m s (d + 1) (z_gl τ (S.1 32) (z_ctx S0.1 s).1.length) (z_shx τ2 (nI t)) := by
        rw [z_shx_lo ht3]
        rw [hj.gl te1 (fun j hj => fk1.2.1 32 (by decide) (by decide) j (by rw [hN]; exact hj)) cx1] at tj2
        have s1 : z_shx τ1 (z_fn 0 (S1.1 28) H) = z_bz 0 := by
          rw [← hdx 28 (by decide) (by decide), c1]
          exact z_shx_lo (t := 0) (by decide)
        have s2 : z_shx τ2 (z_fn 0 (S2.1 28) (H + 1)) = z_bz 0 := by
          rw [c2]
          exact z_shx_lo (t := 0) (by decide)
        rw [s1] at tj1
        rw [s2] at tj2
        refine z_Cw.mk (by omega) hm (fun f hf => Or.inr (Or.inr (Or.inr (Or.inr (Or.inr (Or.inr (Or.inr (Or.inr (Or.inr (Or.inl ⟨k, k5, k9, hk, x, y, g, v1, v2, ⟨x6, y6, w1, w2, w3⟩, h58, h59, hsg, hge, ⟨z_wle.z, tj1 f (by omega)⟩, ⟨hw, tj2 f (by show d ≤ _; omega)⟩, ho, ?_⟩))))))))))
        rcases htk with ⟨q, rfl⟩ | ⟨q, rfl⟩
        · rw [if_pos q]
        · rw [if_neg (by omega)]
      refine fin τ2 mo2 cc2 _ _ ⟨⟨hC4, hR4, hj2.2.2.1, ?_, ?_⟩, te1.tr te2, by rw [← hN]; exact (f1.tr f2).tr fk3, (fla.tr flb).tr ((z_Fl.stg (Nat.le_refl _)).tr (z_Fl.typ hm)), ⟨by omega, by omega, by omega, ?_, ?_⟩, ⟨?_, ?_, ?_⟩, ?_, ?_, cxd.trans cxs, by rw [z_hold_28, z_fcs]; exact ct⟩
      · rw [cxd]
        intro j hj
        rw [o4 31 (by decide), z_typ_o (by decide), z_typ_o (by decide), z_typ_o (by decide), z_stg_o (by decide), z_stg_o (by decide), z_stg_o (by decide)]
        exact hj2.2.2.2.1 j hj
      · rw [cxd]
        intro j hj
        rw [o4 32 (by decide), z_typ_o (by decide), z_stg_o (by decide)]
        exact hj2.2.2.2.2 j hj
      · have := z_cf_le (a := S0.1 14) (show d ≤ d + 1 from Nat.le_succ d)
        omega
      · have := z_cf_le (a := S0.1 14) (show d ≤ d + 1 from Nat.le_succ d)
        omega
      · rw [z_hold_30, z_fcs]
      · rw [z_hold_28, z_fcs, z_typ_106, z_fcs]
        exact z_tqlo ht3 T2.1 TR2.1
      · rw [z_hold_29, z_fcs, z_typ_107, z_fcs]
      · intro j j1 j2
        by_cases q1 : j < g
        · refine (ag1 j j1 q1).e (fun q hq => ?_)
          rw [o4 q (by omega)]
          exact fk2.2.2.2.2 q hq j (by omega)
        · by_cases q2 : j < d
          · exact (ag2 j (by omega) q2).e (fun q hq => by rw [o4 q (by omega)])
          · have ej : j = d := by omega
            rw [ej]
            refine z_ag.sm ?_ (fun q hq => ?_)
            · rw [ho]
              have q : ∀ c, c < 100 → k + 4 ≠ c → ¬ nI (k + 4) = nI c := fun c hc ne e => ne ((nI_eq (by omega) (by omega)).mp e)
              rintro (e | e | e | e | e)
              · exact q 1 (by decide) (by omega) e
              · exact q 4 (by decide) (by omega) e
              · exact q 17 (by decide) (by omega) e
              · exact q 19 (by decide) (by omega) e
              · exact q 21 (by decide) (by omega) e
            · rw [o4 q (by omega)]
              exact hC.2.2.2.1 q hq d (Nat.le_refl _)
      · intro j j1 j2 jl
        by_cases q1 : j ≤ g
        · exact Nat.le_trans (rm1 j j1 q1 jl) mo12
        · by_cases q2 : j ≤ d
          · exact rm2 j (by omega) q2 jl
          · have ej : j = d + 1 := by omega
            rw [ej, cxd]
            exact hC.2.2.2.2.2.2.2.2.1
    · have d2 : ¬ z_fn 0 (R2.1 106) y = 0 := fun q => c2 (i2.mpr q)
      refine z_JG.dead (x := 6) (y := z_fn 0 (R0.1 62) m) hΦ hC.2.2.1 hj2.2.1.2.1 (fun Q hQ => cl Q (k90f2 (l := 59) ⟨_, _, _, _, _, hC⟩ H256 c1 c2 (fun S' hy => ⟨rfl, hQ S' (by rw [← p2]; exact hy)⟩))) (fun Q hQ => re Q ?_)
      unfold p198_30
      rw [cm, e58, h58, cx', e106, if_pos d1]
      refine ⟨zm, zx, ?_⟩
      unfold p198_45 p198_50
      refine ⟨zm, r190 (l := 7) ?_⟩
      unfold p198_61
      rw [cm, e59, h59, cy', e106, if_neg d2]
      refine ⟨zm, zy, ?_⟩
      unfold p198_80 p198_81
      rw [cm, e62]
      refine ⟨zm, r190f (l := 7) f0 ?_⟩
      refine q198 (R0 := R0) (R := ((z_stg P 2 R2).1, (z_stg P 2 R2).2.1, z_UF (z_stg P 2 R2).2.2 6 (z_fn 0 (R0.1 62) m))) (l := 7) (a := 6) (c := z_fn 0 (R0.1 62) m) (X.tr z_XU_F) (z_Td_F (by decide)) m6 x6 y6 h58 h59 ⟨P, r82⟩ ?_
      intro R' ht hx
      exact ⟨rfl, r183d (l := 9) ht (hQ R' ht (((z_XU_stg).tr z_XU_F).tr hx))⟩
  · have d1 : ¬ z_fn 0 (R2.1 106) x = 0 := fun q => c1 (i1.mpr q)
    have p1' : z_fn 0 (S2.1 30) H = z_fn 0 (R0.1 61) m := (hdx 30 (by decide) (by decide)).trans p1
    refine z_JG.dead (x := 6) (y := z_fn 0 (R0.1 61) m) hΦ hC.2.2.1 hj2.2.1.2.1 (fun Q hQ => cl Q (k90f1 (l := 59) ⟨_, _, _, _, _, hC⟩ H256 c1 (fun S' hy => ⟨rfl, hQ S' (by rw [← p1']; exact hy)⟩))) (fun Q hQ => re Q ?_)
    unfold p198_30
    rw [cm, e58, h58, cx', e106, if_neg d1]
    refine ⟨zm, zx, ?_⟩
    unfold p198_49 p198_50
    rw [cm, e61]
    refine ⟨zm, r190f (l := 7) f0 ?_⟩
    have td : z_Td 6 (z_fn 0 (R0.1 61) m) (z_UF (z_stg P 2 R2).2.2 6 (z_fn 0 (R0.1 61) m)) := z_Td_F (by decide)
    have last : p198_92 8 (z_stg P 2 R2).1 (z_stg P 2 R2).2.1 (z_UF (z_stg P 2 R2).2.2 6 (z_fn 0 (R0.1 61) m)) (nI m) (nI 2) (z_ko κ N) (fun x R1 => x = none ∧ z_WR 10 183 19 [(0, .ref 148)] [] R1 Q) := by
      refine q198 (R0 := R0) (R := ((z_stg P 2 R2).1, (z_stg P 2 R2).2.1, z_UF (z_stg P 2 R2).2.2 6 (z_fn 0 (R0.1 61) m))) (l := 7) (a := 6) (c := z_fn 0 (R0.1 61) m) (X.tr z_XU_F) td m6 x6 y6 h58 h59 ⟨P, r82⟩ ?_
      intro R' ht hx
      exact ⟨rfl, r183d (l := 9) ht (hQ R' ht (((z_XU_stg).tr z_XU_F).tr hx))⟩
    have mid : ∀ y0, p198_81 8 (z_stg P 2 R2).1 (z_stg P 2 R2).2.1 (z_UF (z_stg P 2 R2).2.2 6 (z_fn 0 (R0.1 61) m)) (nI m) (nI 2) (z_ko κ N) y0 (fun x R1 => x = none ∧ z_WR 10 183 19 [(0, .ref 148)] [] R1 Q) := by
      intro y0
      exact ⟨zm, r190d (l := 7) (R := ((z_stg P 2 R2).1, (z_stg P 2 R2).2.1, z_UF (z_stg P 2 R2).2.2 6 (z_fn 0 (R0.1 61) m))) td last⟩
    unfold p198_61
    rw [cm, e59, h59]
    refine ⟨zm, zy, ?_⟩
    split
    · exact mid 1
    · exact mid 0
end ZQB
