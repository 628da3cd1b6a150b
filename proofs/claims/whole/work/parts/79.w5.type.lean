/-! Reading types, both together. -/
theorem z_ifp {c : Prop} [Decidable c] {P Q : Prop} (h : c) (q : P) : if c then P else Q := by
  rw [if_pos h]
  exact q
theorem z_ifn {c : Prop} [Decidable c] {P Q : Prop} (h : ¬ c) (q : Q) : if c then P else Q := by
  rw [if_neg h]
  exact q
def z_oj (o : z_V) (live : Option Value → Prop) (dead : Prop) : Prop := match o with
  | .inl v => live v
  | .inr e => e = 10 ∧ dead
/-- but for what reading a type writes all is as it was, of the class -/
def z_XT (S S' : z_CS) : Prop := (∀ k, ¬ (9 ≤ k ∧ k ≤ 12) → S'.1 k = S.1 k) ∧ S'.2.1 = S.2.1 ∧ (∀ k, ¬ (9 ≤ k ∧ k ≤ 12) → S'.2.2.1 k = S.2.2.1 k) ∧ (∀ k j, ¬ (k = 3 ∧ 7 ≤ j ∧ j ≤ 10) → ¬ (k = 8 ∧ j = 4) → S'.2.2.2.1 k j = S.2.2.2.1 k j) ∧ z_Gw S.2.2.1 S'.2.2.1 S.2.2.2.2.2 S'.2.2.2.2.2
theorem z_XT.rf {S : z_CS} : z_XT S S := ⟨fun _ _ => rfl, rfl, fun _ _ => rfl, fun _ _ _ _ => rfl, z_Gw.rf⟩
theorem z_XT.tr {S S' S'' : z_CS} (h : z_XT S S') (h' : z_XT S' S'') : z_XT S S'' := ⟨fun k q => (h'.1 k q).trans (h.1 k q), h'.2.1.trans h.2.1, fun k q => (h'.2.2.1 k q).trans (h.2.2.1 k q), fun k j q r => (h'.2.2.2.1 k j q r).trans (h.2.2.2.1 k j q r), h.2.2.2.2.tr h'.2.2.2.2⟩
theorem z_Kw.xt {S S' : z_CS} (h : z_Kw S S') : z_XT S S' := by
  obtain ⟨h1, h2, h3, h4, h5⟩ := h
  refine ⟨fun k _ => by rw [h1], h2, fun k _ => by rw [h3], fun k j q _ => h4 k j q, ?_⟩
  rw [h3, h5]
  exact z_Gw.rf
theorem z_rdA_t {k : Nat} (h : z_rdA k = false) : ¬ (9 ≤ k ∧ k ≤ 12) := by
  rintro ⟨h1, h2⟩
  unfold z_rdA at h
  rw [decide_eq_true h1, decide_eq_true h2] at h
  simp at h
theorem z_rdV8 {k j : Nat} (h : z_rdV k j = false) : ¬ (k = 8 ∧ j = 4) := by
  rintro ⟨h1, h2⟩
  unfold z_rdV at h
  rw [decide_eq_true (p := k = 8) h1, decide_eq_true (p := j = 4) h2] at h
  simp at h
theorem z_XT.xc {S S' : z_CS} (h : z_XT S S') : z_XC S S' := ⟨fun k q => h.1 k (z_rdA_t q), h.2.1, fun k q => h.2.2.1 k (fun r => q.1 r.2), fun k j q => h.2.2.2.1 k j (z_rdV3 q) (z_rdV8 q), h.2.2.2.2⟩
theorem z_J.cg {b : Nat → Nat} {n j : Nat} {t : Nat × Nat × Int32} {S S' : z_CS} {R R' : z_RS} (h : z_J b n j t S R) (hE : S'.2.1 = S.2.1) (h6 : S'.1 6 = S.1 6) (h7 : S'.1 7 = S.1 7) (hV : ∀ i, S'.2.2.2.1 3 i = S.2.2.2.1 3 i) (hW : S'.2.2.2.2.1 = S.2.2.2.2.1) (h44 : R'.1 44 = R.1 44) (h45 : R'.1 45 = R.1 45) (hU : ∀ i, 6 ≤ i → i ≤ 11 → R'.2.2 41 i = R.2.2 41 i) (hr : z_Rk S'.2.2.1 S'.2.2.2.2.2) : z_J b n j t S' R' := by
  obtain ⟨a1, a2, a3, a4, a5⟩ := h
  refine ⟨?_, ?_, a3, ?_, hr⟩
  · unfold z_Jt at a1 ⊢
    rw [hE, h6, h7, h44, h45, hU 6 (by decide) (by decide)]
    exact a1
  · unfold z_Wj at a2 ⊢
    rw [hV 6, hV 7, hV 9, hV 10, hW, hU 7 (by decide) (by decide), hU 8 (by decide) (by decide), hU 9 (by decide) (by decide), hU 10 (by decide) (by decide)]
    exact a2
  · rw [hU 11 (by decide) (by decide)]
    exact a4
theorem z_J.B {b : Nat → Nat} {n j : Nat} {t : Nat × Nat × Int32} {S : z_CS} {B B' : Nat → List (Nat × Int32)} {M : Nat → List (Nat × Int64)} {U : Nat → Nat → Int32} (h : z_J b n j t S (B, M, U)) (h44 : B' 44 = B 44) (h45 : B' 45 = B 45) : z_J b n j t S (B', M, U) := h.cg rfl rfl rfl (fun _ => rfl) rfl h44 h45 (fun _ _ _ => rfl) h.2.2.2.2
theorem z_J.len {b : Nat → Nat} {n j : Nat} {t : Nat × Nat × Int32} {S : z_CS} {R : z_RS} (h : z_J b n j t S R) : j < 1501 ∧ t.2.1 < 37 := by
  have h1 := (List.getElem?_eq_some_iff.mp h.2.1.1).1
  have h2 := z_ts_len (b := b) (n := n)
  have h3 := h.1.2.1
  exact ⟨by omega, (h.1.2.2.1 j t h.2.1.1).2.1⟩
theorem z_De.cg {b : Nat → Nat} {n m : Nat} {ep : Nat → Nat} {A A' B B' : Nat → List (Nat × Int32)} {V V' U U' : Nat → Nat → Int32} (h : z_De b n m ep A B V U) (h1 : A' 21 = A 21) (h2 : B' 51 = B 51) (h3 : B' 52 = B 52) (h4 : V' 20 3 = V 20 3) (h5 : U' 41 19 = U 41 19) : z_De b n m ep A' B' V' U' := by
  unfold z_De at h ⊢
  rw [h1, h2, h3, h4, h5]
  exact h
theorem z_De.x {b : Nat → Nat} {n m : Nat} {ep : Nat → Nat} {S S' : z_CS} {R R' : z_RS} (h : z_De b n m ep S.1 R.1 S.2.2.2.1 R.2.2) (hS : z_XT S S') (hR' : z_Xr R R') : z_De b n m ep S'.1 R'.1 S'.2.2.2.1 R'.2.2 := h.cg (hS.1 21 (by decide)) (hR'.1 51 (by decide) (by decide)) (hR'.1 52 (by decide) (by decide)) (hS.2.2.2.1 20 3 (by decide) (by decide)) (hR'.2.2.1 41 19 (by decide))
theorem z_TyC.kw {S S' : z_CS} {T : Nat → Nat × Nat × Int32} {m : Nat} (h : z_TyC S.1 S.2.2.1 S.2.2.2.1 T m) (hk : z_Kw S S') : z_TyC S'.1 S'.2.2.1 S'.2.2.2.1 T m := by
  unfold z_TyC at h ⊢
  rw [hk.1, hk.2.2.1, hk.2.2.2.1 8 4 (by decide)]
  exact h
theorem z_TyC.cg {A A' : Nat → List (Nat × Int32)} {N N' : Nat → Nat} {V V' : Nat → Nat → Int32} {T : Nat → Nat × Nat × Int32} {m : Nat} (h : z_TyC A N V T m) (hA : ∀ k, 9 ≤ k → k ≤ 12 → A' k = A k) (hN : ∀ k, 9 ≤ k → k ≤ 12 → N' k = N k) (hV : V' 8 4 = V 8 4) : z_TyC A' N' V' T m := by
  unfold z_TyC at h ⊢
  rw [hA 9 (by decide) (by decide), hA 10 (by decide) (by decide), hA 11 (by decide) (by decide), hA 12 (by decide) (by decide), hN 9 (by decide) (by decide), hN 10 (by decide) (by decide), hN 11 (by decide) (by decide), hN 12 (by decide) (by decide), hV]
  exact h
theorem z_TyR.cg {B B' : Nat → List (Nat × Int32)} {U U' : Nat → Nat → Int32} {T : Nat → Nat × Nat × Int32} {m : Nat} (h : z_TyR B U T m) (h1 : B' 46 = B 46) (h2 : B' 47 = B 47) (h3 : B' 48 = B 48) (h4 : U' 41 13 = U 41 13) : z_TyR B' U' T m := by
  unfold z_TyR at h ⊢
  rw [h1, h2, h3, h4]
  exact h
theorem z_TyR.lw {R R' : z_RS} {T : Nat → Nat × Nat × Int32} {m : Nat} (h : z_TyR R.1 R.2.2 T m) (hl : z_Lw R R') : z_TyR R'.1 R'.2.2 T m := h.cg (by rw [hl.1]) (by rw [hl.1]) (by rw [hl.1]) (hl.2.2.1 41 13 (by decide))
theorem z_Tq_lo {D : Nat} {τ : z_TT} (hc : z_Tw τ.1.1 τ.1.2) (hr : z_Tw τ.2.1 τ.2.2) {i : Nat} (h : i < 3) : z_Tqd D τ (nI i) (nI i) := ⟨i, i, rfl, rfl, by have := hc.1; omega, by have := hr.1; omega, by rw [z_dt_lo h, z_dt_lo h], by rw [z_ad_lo h]; exact Nat.zero_le _⟩
theorem z_Tqe_lo {D L : Nat} {τ : z_TT} (hc : z_Tw τ.1.1 τ.1.2) (hr : z_Tw τ.2.1 τ.2.2) {i : Nat} (h : i < 3) (hL : 1 ≤ L) : z_Tqe D L τ (nI i) (nI i) := ⟨i, i, rfl, rfl, by have := hc.1; omega, by have := hr.1; omega, by rw [z_dt_lo h, z_dt_lo h], by rw [z_ad_lo h]; exact Nat.zero_le _, by rw [z_dt_lo h]; exact hL⟩
theorem c56 {l k : Nat} {S : z_CS} {Q : z_V → z_CS → Prop} (hk : 34 ≤ k ∧ k ≤ 36) (hQ : Q (.inl (some (.int (nI (k - 34))))) S) : z_WC (l + 1) 56 0 [(0, .ref k)] [] S Q := by
  obtain ⟨A, E, N, V, W, c⟩ := S
  have h37 : z_cv 37 (.ref k) := by
    show k < 37
    omega
  refine t56_0 ?_
  unfold p56_0
  refine ⟨h37, ?_⟩
  by_cases h1 : k = 34
  · subst h1
    rw [if_pos rfl]
    exact hQ
  · rw [if_neg (fun q => h1 (Option.some.inj q))]
    refine ⟨h37, ?_⟩
    by_cases h2 : k = 35
    · subst h2
      rw [if_pos rfl]
      exact hQ
    · rw [if_neg (fun q => h2 (Option.some.inj q))]
      have : k = 36 := by omega
      subst this
      exact hQ
theorem z_nb0 : z_nar .boolean 0 = 0 := by decide +kernel
theorem z_nb1 : z_nar .boolean 1 = 1 := by decide +kernel
theorem z_wco_n {k i : Nat} (hk : k < 37) (hi : i < 37) (h : ¬ k = i) : ¬ z_wco k = z_wco i := fun q => h (z_wco_inj k hk i hi q)
/-- a function's type, made by both -/
theorem z_To.tq {τ : z_TT} {T1 T2 : Nat → Nat × Nat × Int32} {m1 m2 i1 i2 x1 x2 y1 y2 : Nat} {e : Int32} (hc : z_Tw τ.1.1 τ.1.2) (hr : z_Tw τ.2.1 τ.2.2) (hc' : z_Tw T1 m1) (hr' : z_Tw T2 m2) (h1 : z_To τ.1.1 τ.1.2 x1 y1 e T1 m1 i1) (h2 : z_To τ.2.1 τ.2.2 x2 y2 e T2 m2 i2) (lx1 : x1 < τ.1.2) (ly1 : y1 < τ.1.2) (lx2 : x2 < τ.2.2) (ly2 : y2 < τ.2.2) (ex : z_dt τ.1.1 x1 = z_dt τ.2.1 x2) (ey : z_dt τ.1.1 y1 = z_dt τ.2.1 y2) {D : Nat} (dx : z_ad τ.1.1 x1 + 1 ≤ D) (dy : z_ad τ.1.1 y1 ≤ D) : z_Te τ ((T1, m1), (T2, m2)) ∧ z_Tqd D ((T1, m1), (T2, m2)) (nI i1) (nI i2) := by
  obtain ⟨a1, a2, a3, a4, a5, a6⟩ := h1
  obtain ⟨b1, b2, b3, b4, b5, b6⟩ := h2
  refine ⟨⟨⟨a1, a3⟩, ⟨b1, b3⟩⟩, i1, i2, rfl, rfl, a5, b5, ?_, ?_⟩
  · show z_dt T1 i1 = z_dt T2 i2
    rw [z_dt_s hc' a4 a5, z_dt_s hr' b4 b5, a6, b6]
    show (3 + e.toUInt32.toNat) :: (z_dt T1 x1 ++ z_dt T1 y1) = (3 + e.toUInt32.toNat) :: (z_dt T2 x2 ++ z_dt T2 y2)
    rw [z_dt_e hc a3 lx1, z_dt_e hc a3 ly1, z_dt_e hr b3 lx2, z_dt_e hr b3 ly2, ex, ey]
  · show z_ad T1 i1 ≤ D
    rw [z_ad_s hc' a4 a5, a6]
    show max (z_ad T1 x1 + 1) (z_ad T1 y1) ≤ D
    rw [z_ad_e hc a3 lx1, z_ad_e hc a3 ly1]
    omega
theorem z_To.tqe {τ : z_TT} {T1 T2 : Nat → Nat × Nat × Int32} {m1 m2 i1 i2 x1 x2 y1 y2 : Nat} {e : Int32} (hc : z_Tw τ.1.1 τ.1.2) (hr : z_Tw τ.2.1 τ.2.2) (hc' : z_Tw T1 m1) (hr' : z_Tw T2 m2) (h1 : z_To τ.1.1 τ.1.2 x1 y1 e T1 m1 i1) (h2 : z_To τ.2.1 τ.2.2 x2 y2 e T2 m2 i2) (lx1 : x1 < τ.1.2) (ly1 : y1 < τ.1.2) (lx2 : x2 < τ.2.2) (ly2 : y2 < τ.2.2) (ex : z_dt τ.1.1 x1 = z_dt τ.2.1 x2) (ey : z_dt τ.1.1 y1 = z_dt τ.2.1 y2) {D L : Nat} (dx : z_ad τ.1.1 x1 + 1 ≤ D) (dy : z_ad τ.1.1 y1 ≤ D) (dl : (z_dt τ.1.1 x1).length + (z_dt τ.1.1 y1).length + 1 ≤ L) : z_Te τ ((T1, m1), (T2, m2)) ∧ z_Tqe D L ((T1, m1), (T2, m2)) (nI i1) (nI i2) := by
  obtain ⟨q1, -⟩ := z_To.tq hc hr hc' hr' h1 h2 lx1 ly1 lx2 ly2 ex ey dx dy
  obtain ⟨a1, a2, a3, a4, a5, a6⟩ := h1
  obtain ⟨b1, b2, b3, b4, b5, b6⟩ := h2
  refine ⟨q1, i1, i2, rfl, rfl, a5, b5, ?_, ?_, ?_⟩
  · show z_dt T1 i1 = z_dt T2 i2
    rw [z_dt_s hc' a4 a5, z_dt_s hr' b4 b5, a6, b6]
    show (3 + e.toUInt32.toNat) :: (z_dt T1 x1 ++ z_dt T1 y1) = (3 + e.toUInt32.toNat) :: (z_dt T2 x2 ++ z_dt T2 y2)
    rw [z_dt_e hc a3 lx1, z_dt_e hc a3 ly1, z_dt_e hr b3 lx2, z_dt_e hr b3 ly2, ex, ey]
  · show z_ad T1 i1 ≤ D
    rw [z_ad_s hc' a4 a5, a6]
    show max (z_ad T1 x1 + 1) (z_ad T1 y1) ≤ D
    rw [z_ad_e hc a3 lx1, z_ad_e hc a3 ly1]
    omega
  · show (z_dt T1 i1).length ≤ L
    rw [z_dt_s hc' a4 a5, a6]
    show ((3 + e.toUInt32.toNat) :: (z_dt T1 x1 ++ z_dt T1 y1)).length ≤ L
    rw [z_dt_e hc a3 lx1, z_dt_e hc a3 ly1, List.length_cons, List.length_append]
    omega
theorem j55 {b : Nat → Nat} {n m : Nat} {ep : Nat → Nat} : ∀ (k d : Nat), d + k = 50 → ∀ (S : z_CS) (R : z_RS) (j : Nat) (t : Nat × Nat × Int32) (τ : z_TT), z_J b n j t S R → z_De b n m ep S.1 R.1 S.2.2.2.1 R.2.2 → z_TyC S.1 S.2.2.1 S.2.2.2.1 τ.1.1 τ.1.2 → z_TyR R.1 R.2.2 τ.2.1 τ.2.2 → (2 * τ.1.2 ≤ 6 + j ∧ 2 * τ.2.2 ≤ 6 + j) →
    z_WC (k + 16) 55 0 [(0, .ref 131), (1, .int (nI d))] [] S (fun o S' => z_oj o (fun v => ∃ (x y : Int32) (j' : Nat) (t' : Nat × Nat × Int32) (τ' : z_TT) (R' : z_RS), v = some (.int x) ∧ z_J b n j' t' S' R' ∧ j < j' ∧ z_Te τ τ' ∧ z_TyC S'.1 S'.2.2.1 S'.2.2.2.1 τ'.1.1 τ'.1.2 ∧ z_TyR R'.1 R'.2.2 τ'.2.1 τ'.2.2 ∧ (2 * τ'.1.2 + j ≤ 2 * τ.1.2 + j' ∧ 2 * τ'.2.2 + j ≤ 2 * τ.2.2 + j') ∧ z_Tqe (50 - d) (j' - j) τ' x y ∧ z_XT S S' ∧ z_Xr R R' ∧ (∀ i, i < d → z_fn 0 (R'.1 55) i = z_fn 0 (R.1 55) i ∧ z_fn 0 (R'.1 56) i = z_fn 0 (R.1 56) i) ∧ (∀ QR : Option Value → z_RS → Prop, z_WR 16 155 136 [(0, .ref 148), (1, .int (nI d)), (2, .int y), (3, .int 1)] [] R' QR → z_WR 16 155 2 [(0, .ref 148), (1, .int (nI d))] [] R QR)) (∃ x y, z_Xd x y S S' ∧ (∀ QR : Option Value → z_RS → Prop, (∀ v R', z_Qd x y R'.2.2 → z_Xr R R' → QR (some (.int v)) R') → z_WR 16 155 2 [(0, .ref 148), (1, .int (nI d))] [] R QR))) := by
  intro k
  induction k with
  | zero =>
    intro d hd S R j t τ hJ hD hTC hTR hB
    have hd : d = 50 := by omega
    subst hd
    obtain ⟨S', a1, a2⟩ := c50 (S := S) (k := 4) (p := S.2.2.2.1 3 9) (l := 15) hJ.2.2.2.2 hJ.w
    obtain ⟨A, E, N, V, W, c⟩ := S
    obtain ⟨B, M, U⟩ := R
    obtain ⟨hT, hWj, h1, h0, hr⟩ := id hJ
    have h0 : U 41 11 = 0 := h0
    have t37 := hJ.len.2
    refine t55_0 ?_
    unfold p55_0
    rw [if_pos (show nI 50 = 50 from rfl)]
    refine ⟨hr.rm.1, .inr 10, S', a1, rfl, rfl, 4, V 3 9, a2, fun QR hQ => ?_⟩
    refine t155_2 ?_
    unfold p155_2
    rw [if_pos h0]
    unfold p155_9
    have hw : U 41 7 = z_wco t.2.1 := hWj.2.2.2.2.2.2.2.1
    rw [if_neg (by rw [hw]; exact fun q => h1 ((z_wco_5 _ t37).mp q))]
    unfold p155_19
    rw [if_pos (show nI 50 = 50 from rfl)]
    refine ⟨none, _, f150 (R := (B, M, U)) h0, rfl, ?_⟩
    unfold p155_34
    refine z_ifn (show ¬ (4 : Int32) ≤ 0 by decide) ?_
    refine hQ 0 _ ?_ (z_Lw_F (R := (B, M, U)) (by decide)).xr
    have e : V 3 9 = U 41 8 := hWj.2.2.2.2.1.trans hWj.2.2.2.2.2.2.1.symm
    rw [e]
    exact z_Qd_F (by decide)
  | succ k ih =>
    intro d hd S R j t τ hJ hD hTC hTR hB
    have hne50 : ¬ nI d = 50 := fun q => by
      have := (nI_eq (a := d) (b := 50) (by omega) (by omega)).mp q
      omega
    obtain ⟨B, M, U⟩ := R
    have h0 : U 41 11 = 0 := hJ.2.2.2.1
    have h1 := hJ.2.2.1
    have t37 := hJ.len.2
    have hw : U 41 7 = z_wco t.2.1 := hJ.2.1.2.2.2.2.2.2.2.1
    have hW : S.2.2.2.2.1 = t.2.1 := hJ.2.1.2.2.2.1
    have hr := hJ.2.2.2.2
    have hn5 : ¬ U 41 7 = 5 := by
      rw [hw]
      exact fun q => h1 ((z_wco_5 _ t37).mp q)
    -- the reference, as far as the word
    have pre : ∀ QR : Option Value → z_RS → Prop, p155_43 15 B M U (nI d) (-1) QR → z_WR 16 155 2 [(0, .ref 148), (1, .int (nI d))] [] (B, M, U) QR := by
      intro QR h
      refine t155_2 ?_
      unfold p155_2
      rw [if_pos h0]
      unfold p155_9
      rw [if_neg hn5]
      unfold p155_19
      rw [if_neg hne50]
      unfold p155_34
      rw [if_pos (by rw [h0]; decide)]
      exact h
    have sW : ∀ i, (some S.2.2.2.2.1 = some i) ↔ t.2.1 = i := fun i => by
      rw [hW]
      exact ⟨fun q => Option.some.inj q, fun q => by rw [q]⟩
    have cv : z_cv 37 (.ref S.2.2.2.2.1) := by
      show S.2.2.2.2.1 < 37
      rw [hW]
      exact t37
    have lW : S.2.2.2.2.1 < 107 := Nat.lt_of_lt_of_le (show S.2.2.2.2.1 < 37 from cv) (by decide)
    by_cases c5 : t.2.1 = 5
    · -- a function
      have hJ1 : z_J b n j t S (z_u B 56 ((d, z_nar .boolean 0) :: B 56), M, U) := hJ.B (z_un (by decide)) (z_un (by decide))
      obtain ⟨t1, R1, n1, n2, n3, n4⟩ := jn hJ1 (by omega)
      have cd : (nI d).toNatClampNeg = d := nI_clamp (by omega)
      have zd : z_in (nI d) 51 = true := z_inI (by omega) (by decide)
      have x01 : z_Xr (B, M, U) R1 := (z_Xr_B (fun q r s => z_un (by omega))).tr n2.xr
      have refA : ∀ QR : Option Value → z_RS → Prop, z_WR 16 155 2 [(0, .ref 148), (1, .int (nI (d + 1)))] [] R1 QR → z_WR 16 155 2 [(0, .ref 148), (1, .int (nI d))] [] (B, M, U) QR := by
        intro QR h
        refine pre QR ?_
        unfold p155_43
        rw [if_neg (by rw [hw, c5]; decide)]
        unfold p155_58
        rw [if_neg (by rw [hw, c5]; decide)]
        unfold p155_73
        rw [if_neg (by rw [hw, c5]; decide)]
        unfold p155_88
        rw [if_pos (by rw [hw, c5]; rfl)]
        refine ⟨zd, ?_⟩
        rw [cd, nI_1]
        unfold p155_114
        rw [if_pos (by rw [h0]; decide)]
        refine ⟨none, R1, n1.up (by decide), rfl, ?_⟩
        unfold p155_127
        rw [if_neg (by decide)]
        exact h
      obtain ⟨A, E, N, V, W, c⟩ := S
      refine t55_0 ?_
      unfold p55_0
      rw [if_neg hne50]
      refine ⟨cv, ?_⟩
      rw [if_pos ((sW 5).mpr c5)]
      refine ⟨hr.rm.1, lW, ?_⟩
      rcases n4 with ⟨nb, S1, m1, m2, m3⟩ | ⟨nb, S1, m1, m2, m3⟩
      case inr =>
        exact ⟨.inr 10, S1, m1.up (by omega), rfl, rfl, _, _, m2, fun QR hQ => refA QR (d155_2 m3.q (fun v R' a1 a2 => hQ v R' a1 (x01.tr a2)))⟩
      refine ⟨.inl none, S1, m1.up (by omega), rfl, ?_⟩
      refine ⟨cv, ?_⟩
      rw [if_pos ((sW 5).mpr c5)]
      have hr1 := m3.2.2.2.2
      refine ⟨hr1.rm.1, lW, ?_⟩
      rw [nI_1]
      have hD1 : z_De b n m ep S1.1 R1.1 S1.2.2.2.1 R1.2.2 := hD.x m2.xt x01
      have hTC1 : z_TyC S1.1 S1.2.2.1 S1.2.2.2.1 τ.1.1 τ.1.2 := hTC.kw m2
      have hTR1 : z_TyR R1.1 R1.2.2 τ.2.1 τ.2.2 := (hTR.cg (B' := z_u B 56 ((d, z_nar .boolean 0) :: B 56)) (U' := U) (z_un (by decide)) (z_un (by decide)) (z_un (by decide)) rfl).lw (R := (z_u B 56 ((d, z_nar .boolean 0) :: B 56), M, U)) n2
      obtain ⟨o2, S2, k1, k2⟩ := ih (d + 1) (by omega) S1 R1 (j + 1) t1 τ m3 hD1 hTC1 hTR1 ⟨by omega, by omega⟩
      refine ⟨o2, S2, k1.up (by omega), ?_⟩
      rcases o2 with v2 | e2
      case inr =>
        obtain ⟨rfl, x, y, q1, q2⟩ := k2
        exact ⟨rfl, rfl, x, y, q1.tr m2.xc, fun QR hQ => refA QR (q2 QR (fun v R' a1 a2 => hQ v R' a1 (x01.tr a2)))⟩
      obtain ⟨xa, ya, j2, t2, τ2, R2, rfl, J2, lj2, te2, TC2, TR2, inc2, tq2, xt2, xr2, op2, ref2⟩ := k2
      refine ⟨xa, rfl, ?_⟩
      have hr2 := J2.2.2.2.2
      refine ⟨hr2.rm.1, lW, ?_⟩
      obtain ⟨B2, M2, U2⟩ := R2
      -- the arrow
      have e1 : nI (d + 1) - 1 = nI d := nI_pred d
      have zd1 : z_in (nI (d + 1) - 1) 51 = true := by rw [e1]; exact zd
      have c1 : (nI (d + 1) - 1).toNatClampNeg = d := by rw [e1]; exact cd
      have nd0 : ¬ nI (d + 1) = 0 := nI_ne0 (by omega) (by omega)
      have h02 : U2 41 11 = 0 := J2.2.2.2.1
      have has2 : z_fn 0 (B2 56) d = 0 := by
        have q1 : z_fn 0 (B2 56) d = z_fn 0 (R1.1 56) d := (op2 d (by omega)).2
        rw [q1, n2.1]
        show z_fn 0 (z_u B 56 ((d, z_nar .boolean 0) :: B 56) 56) d = 0
        rw [z_uk, z_fcs, z_nb0]
      have J2' : z_J b n j2 t2 S2 (z_u (z_u B2 55 ((d, ya) :: B2 55)) 56 ((d, z_nar .boolean 1) :: B2 56), M2, U2) := J2.B (by rw [z_un (by decide), z_un (by decide)]) (by rw [z_un (by decide), z_un (by decide)])
      have xr2' : z_Xr (B2, M2, U2) (z_u (z_u B2 55 ((d, ya) :: B2 55)) 56 ((d, z_nar .boolean 1) :: B2 56), M2, U2) := z_Xr_B (fun q r s => by rw [z_un (by omega), z_un (by omega)])
      have refB : ∀ (QR : Option Value → z_RS → Prop) R3, z_Rr 14 154 0 [(0, .ref 148), (1, .int 4)] [] (z_u (z_u B2 55 ((d, ya) :: B2 55)) 56 ((d, z_nar .boolean 1) :: B2 56), M2, U2) none R3 → z_WR 16 155 2 [(0, .ref 148), (1, .int (nI (d + 1)))] [] R3 QR → z_WR 16 155 2 [(0, .ref 148), (1, .int (nI d))] [] (B, M, U) QR := by
        intro QR R3 hrun h
        refine refA QR (ref2 QR ?_)
        refine t155_136 ?_
        unfold p155_136
        rw [if_neg (by decide)]
        unfold p155_140
        rw [if_pos h02]
        unfold p155_147
        rw [if_neg nd0]
        refine ⟨zd1, ?_⟩
        rw [c1, if_pos has2]
        refine ⟨zd1, zd1, ?_⟩
        rw [c1]
        refine ⟨none, R3, hrun.up (by decide), rfl, ?_⟩
        refine t155_136 ?_
        unfold p155_136
        rw [if_pos rfl]
        exact h
      rcases jx J2' 19 (by decide) (by decide) (by decide) with ⟨t3, S3, R3, tk, m4, m5, m6, m7, J3⟩ | ⟨x, y, S3, R3, m4, m5, m6, m7, m8⟩
      case inr =>
        exact ⟨.inr 10, S3, m4.up (by omega), rfl, rfl, x, y, m6.tr (m2.xc.tr xt2.xc), fun QR hQ => refB QR R3 m5 (d155_2 m8 (fun v R' a1 a2 => hQ v R' a1 (x01.tr (xr2.tr (xr2'.tr (m7.xr.tr a2))))))⟩
      refine ⟨.inl none, S3, m4.up (by omega), rfl, ?_⟩
      have hr3 := J3.2.2.2.2
      refine ⟨hr3.rm.1, lW, ?_⟩
      rw [nI_1]
      have x03 : z_Xr (B, M, U) R3 := x01.tr (xr2.tr (xr2'.tr m7.xr))
      have s03 : z_XT (A, E, N, V, W, c) S3 := m2.xt.tr (xt2.tr m6.xt)
      have hTC3 : z_TyC S3.1 S3.2.2.1 S3.2.2.2.1 τ2.1.1 τ2.1.2 := TC2.kw m6
      have hTR3 : z_TyR R3.1 R3.2.2 τ2.2.1 τ2.2.2 := (TR2.cg (B' := z_u (z_u B2 55 ((d, ya) :: B2 55)) 56 ((d, z_nar .boolean 1) :: B2 56)) (U' := U2) (by rw [z_un (by decide), z_un (by decide)]) (by rw [z_un (by decide), z_un (by decide)]) (by rw [z_un (by decide), z_un (by decide)]) rfl).lw (R := (z_u (z_u B2 55 ((d, ya) :: B2 55)) 56 ((d, z_nar .boolean 1) :: B2 56), M2, U2)) m7
      obtain ⟨o4, S4, k3, k4⟩ := ih (d + 1) (by omega) S3 R3 (j2 + 1) t3 τ2 J3 (hD.x s03 x03) hTC3 hTR3 ⟨by omega, by omega⟩
      refine ⟨o4, S4, k3.up (by omega), ?_⟩
      rcases o4 with v4 | e4
      case inr =>
        obtain ⟨rfl, x, y, q1, q2⟩ := k4
        exact ⟨rfl, rfl, x, y, q1.tr s03.xc, fun QR hQ => refB QR R3 m5 (q2 QR (fun v R' a1 a2 => hQ v R' a1 (x03.tr a2)))⟩
      obtain ⟨xb, yb, j4, t4, τ4, R4, rfl, J4, lj4, te4, TC4, TR4, inc4, tq4, xt4, xr4, op4, ref4⟩ := k4
      refine ⟨xb, rfl, ?_⟩
      have hr4 := J4.2.2.2.2
      refine ⟨hr4.rm.1, lW, ?_⟩
      obtain ⟨B4, M4, U4⟩ := R4
      have h04 : U4 41 11 = 0 := J4.2.2.2.1
      have x04 : z_Xr (B, M, U) (B4, M4, U4) := x03.tr xr4
      have s04 : z_XT (A, E, N, V, W, c) S4 := s03.tr xt4
      have b3 : R3.1 = z_u (z_u B2 55 ((d, ya) :: B2 55)) 56 ((d, z_nar .boolean 1) :: B2 56) := m7.1
      have has4 : ¬ z_fn 0 (B4 56) d = 0 := by
        have q1 : z_fn 0 (B4 56) d = z_fn 0 (R3.1 56) d := (op4 d (by omega)).2
        rw [q1, b3, z_uk, z_fcs, z_nb1]
        decide
      have take4 : z_fn 0 (B4 55) d = ya := by
        have q1 : z_fn 0 (B4 55) d = z_fn 0 (R3.1 55) d := (op4 d (by omega)).1
        rw [q1, b3, z_un (by decide), z_uk, z_fcs]
      have refC : ∀ (QR : Option Value → z_RS → Prop) v R5 R6, z_Rr 14 156 0 [(0, .ref 148)] [] (B4, M4, U4) (some (.int v)) R5 → z_Rr 14 154 0 [(0, .ref 148), (1, .int 41)] [] R5 none R6 → p155_176 15 R6.1 R6.2.1 R6.2.2 (nI (d + 1)) yb 1 v QR → z_WR 16 155 2 [(0, .ref 148), (1, .int (nI d))] [] (B, M, U) QR := by
        intro QR v R5 R6 hrun1 hrun2 h
        refine refB QR R3 m5 (ref4 QR ?_)
        refine t155_136 ?_
        unfold p155_136
        rw [if_neg (by decide)]
        unfold p155_140
        rw [if_pos h04]
        unfold p155_147
        rw [if_neg nd0]
        refine ⟨zd1, ?_⟩
        rw [c1, if_neg has4]
        exact ⟨_, R5, hrun1.up (by decide), v, rfl, none, R6, hrun2.up (by decide), rfl, h⟩
      have deadC : ∀ (x y v : Int32) (R5 R6 : z_RS) (QR : Option Value → z_RS → Prop), z_Rr 14 156 0 [(0, .ref 148)] [] (B4, M4, U4) (some (.int v)) R5 → z_Rr 14 154 0 [(0, .ref 148), (1, .int 41)] [] R5 none R6 → z_Lw (B4, M4, U4) R5 → z_Lw R5 R6 → z_Td x y R6.2.2 → (∀ v R', z_Qd x y R'.2.2 → z_Xr (B, M, U) R' → QR (some (.int v)) R') → z_WR 16 155 2 [(0, .ref 148), (1, .int (nI d))] [] (B, M, U) QR := by
        intro x y v R5 R6 QR g1 g2 g3 g4 g5 hQ
        refine refC QR v R5 R6 g1 g2 ?_
        unfold p155_176
        rw [if_neg g5.1]
        exact hQ 0 R6 g5.q (x04.tr (g3.xr.tr g4.xr))
      rcases jr J4 (hD.x s04 x04) with ⟨v, j5, t5, S5, R5, lj5, m9, m10, m11, m12, J5⟩ | ⟨x, y, v, S5, R5, m9, m10, m11, m12, m13⟩
      case inr =>
        obtain ⟨R6, g1, g2, g3⟩ := d154 (R := R5) (x := 41) m13 (by decide)
        exact ⟨.inr 10, S5, m9.up (by omega), rfl, rfl, x, y, m11.tr s04.xc, fun QR => deadC x y v R5 R6 QR m10 g1 m12 g2 g3⟩
      refine ⟨.inl (some (.int v)), S5, m9.up (by omega), v, rfl, ?_⟩
      have hr5 := J5.2.2.2.2
      refine ⟨hr5.rm.1, lW, ?_⟩
      have s05 : z_XT (A, E, N, V, W, c) S5 := s04.tr m11.xt
      have tqa : z_Tqe (50 - (d + 1)) (j2 - (j + 1)) τ4 xa ya := tq2.x TC2.1 TR2.1 te4
      obtain ⟨i1, i1', rfl, rfl, u1, u2, u3, u7, u9⟩ := tqa
      obtain ⟨i2, i2', rfl, rfl, u4, u5, u6, u8, u10⟩ := tq4
      have lj := J5.len.1
      -- the reference makes the type
      have refD : ∀ R6, z_Rr 14 154 0 [(0, .ref 148), (1, .int 41)] [] R5 none R6 → z_Lw R5 R6 → R6.2.2 41 11 = 0 → ∃ R7 T' m' i, z_TyR R7.1 R7.2.2 T' m' ∧ z_To τ4.2.1 τ4.2.2 i1' i2' v T' m' i ∧ (∀ q, ¬ (46 ≤ q ∧ q ≤ 48) → R7.1 q = R6.1 q) ∧ (∀ q r, ¬ (q = 41 ∧ r = 13) → R7.2.2 q r = R6.2.2 q r) ∧ R7.2.1 = R6.2.1 ∧ (∀ QR : Option Value → z_RS → Prop, z_WR 16 155 136 [(0, .ref 148), (1, .int (nI d)), (2, .int (nI i)), (3, .int 1)] [] R7 QR → z_WR 16 155 2 [(0, .ref 148), (1, .int (nI d))] [] (B, M, U) QR) := by
        intro R6 g1 g2 g3
        obtain ⟨v7, R7, w1, T', m', i, rfl, w2, w3, w4, w5, w6⟩ := w158 (l := 14) (B := R6.1) (M := R6.2.1) (U := R6.2.2) (x := i1') (y := i2') (e := v) (Q := fun v' R7 => ∃ T' m' i, v' = some (.int (nI i)) ∧ z_TyR R7.1 R7.2.2 T' m' ∧ z_To τ4.2.1 τ4.2.2 i1' i2' v T' m' i ∧ (∀ q, ¬ (46 ≤ q ∧ q ≤ 48) → R7.1 q = R6.1 q) ∧ (∀ q r, ¬ (q = 41 ∧ r = 13) → R7.2.2 q r = R6.2.2 q r) ∧ R7.2.1 = R6.2.1) ((TR4.lw m12).lw g2) (by omega) u2 u5 (fun T' m' i B' U' a1 a2 a3 a4 => ⟨T', m', i, rfl, a1, a2, a3, a4, rfl⟩)
        refine ⟨R7, T', m', i, w2, w3, w4, w5, w6, fun QR h => refC QR v R5 R6 m10 g1 ?_⟩
        unfold p155_176
        rw [if_pos (by rw [g3]; decide)]
        have e2 : nI (d + 1) + Int32.ofInt (-1) = nI d := pk_m1 d
        have tk6 : z_fn 0 (R6.1 55) d = nI i1' := by
          rw [g2.1, m12.1]
          exact take4
        unfold p155_185
        rw [e2, cd, tk6]
        refine ⟨zd, _, R7, w1, _, rfl, ?_⟩
        exact h
      have x05 : z_Xr (B, M, U) R5 := x04.tr m12.xr
      rcases jx J5 6 (by decide) (by decide) (by decide) with ⟨t6, S6, R6, tk6, m14, m15, m16, m17, J6⟩ | ⟨x, y, S6, R6, m14, m15, m16, m17, m18⟩
      case inr =>
        refine ⟨.inr 10, S6, m14.up (by omega), rfl, rfl, x, y, m16.tr s05.xc, fun QR hQ => ?_⟩
        rcases id m18 with td | ⟨-, f0, f7, f8⟩
        · exact deadC x y v R5 R6 QR m10 m15 m12 m17 td hQ
        · obtain ⟨R7, T', m', i, w2, w3, w4, w5, w6, w7⟩ := refD R6 m15 m17 f0
          have q7 : z_Qd x y R7.2.2 := by
            unfold z_Qd at m18 ⊢
            rw [w5 41 11 (by decide), w5 41 12 (by decide), w5 41 7 (by decide), w5 41 8 (by decide)]
            exact m18
          have x67 : z_Xr R6 R7 := ⟨fun q r _ => w4 q r, w6, fun q r s => w5 q r (by omega), fun e => ⟨by rw [← w5 41 11 (by decide)]; exact e, w5 41 12 (by decide)⟩⟩
          exact w7 QR (d155_136 (by omega) q7 (fun v R' a1 a2 => hQ v R' a1 (x05.tr (m17.xr.tr (x67.tr a2)))))
      refine ⟨.inl none, S6, m14.up (by omega), rfl, ?_⟩
      have hr6 := J6.2.2.2.2
      refine ⟨hr6.rm.1, lW, ?_⟩
      have s06 : z_XT (A, E, N, V, W, c) S6 := s05.tr m16.xt
      obtain ⟨R7, T2', m2', i7, w2, w3, w4, w5, w6, w7⟩ := refD R6 m15 m17 J6.2.2.2.1
      have x67 : z_Xr R6 R7 := ⟨fun q r _ => w4 q r, w6, fun q r s => w5 q r (by omega), fun e => ⟨by rw [← w5 41 11 (by decide)]; exact e, w5 41 12 (by decide)⟩⟩
      have lW6 : S6.2.2.2.2.1 < 107 := by
        rw [J6.2.1.2.2.2.1]
        have := J6.len.2
        omega
      refine (w59 (l := 14 + k + 1) ((TC4.kw m11).kw m16) (by omega) lW6 hr6 u1 u4 ⟨by omega, by omega⟩ (fun T' m' i A' N' V' c' f1 f2 f3 f4 f5 f6 f7 => ?_)).up (by omega)
      refine ⟨nI i, rfl, ?_⟩
      obtain ⟨te, tq⟩ := z_To.tqe (τ := τ4) TC4.1 TR4.1 f1.1 w2.1 f2 w3 u1 u4 u2 u5 u3 u6 (D := 50 - d) (L := j5 + 1 - j) (by omega) (by omega) (by omega)
      have g1 := f2.2.1
      have g2 := w3.2.1
      have lj6 := J6.len.1
      refine ⟨nI i, nI i7, j5 + 1, t6, ((T', m'), (T2', m2')), R7, rfl, J6.cg rfl (f3 6 (by decide)) (f3 7 (by decide)) (fun q => f5 3 q (by omega)) rfl (w4 44 (by decide)) (w4 45 (by decide)) (fun q q1 q2 => w5 41 q (by omega)) f6, by omega, te2.tr (te4.tr te), f1, w2, ⟨by show 2 * m' + j ≤ _; omega, by show 2 * m2' + j ≤ _; omega⟩, tq, s06.tr ⟨f3, rfl, f4, fun q r _ s => f5 q r s, f7⟩, x05.tr (m17.xr.tr x67), fun q hq => ?_, w7⟩
      have r6 : R6.1 = B4 := m17.1.trans m12.1
      obtain ⟨o1, o2⟩ := op4 q (by omega)
      obtain ⟨o3, o4⟩ := op2 q (by omega)
      have o1 : z_fn 0 (B4 55) q = z_fn 0 (R3.1 55) q := o1
      have o2 : z_fn 0 (B4 56) q = z_fn 0 (R3.1 56) q := o2
      have o3 : z_fn 0 (B2 55) q = z_fn 0 (R1.1 55) q := o3
      have o4 : z_fn 0 (B2 56) q = z_fn 0 (R1.1 56) q := o4
      have r1 : R1.1 = z_u B 56 ((d, z_nar .boolean 0) :: B 56) := n2.1
      constructor
      · show z_fn 0 (R7.1 55) q = z_fn 0 (B 55) q
        rw [w4 55 (by decide), r6, o1, b3, z_un (by decide), z_uk, z_fcn (by omega), o3, r1, z_un (by decide)]
      · show z_fn 0 (R7.1 56) q = z_fn 0 (B 56) q
        rw [w4 56 (by decide), r6, o2, b3, z_uk, z_fcn (by omega), o4, r1, z_uk, z_fcn (by omega)]
    · -- a plain type, or a word that cannot stand here
      obtain ⟨A, E, N, V, W, c⟩ := S
      refine t55_0 ?_
      unfold p55_0
      rw [if_neg hne50]
      refine ⟨cv, ?_⟩
      rw [if_neg (fun q => c5 ((sW 5).mp q))]
      by_cases pl : 34 ≤ t.2.1 ∧ t.2.1 ≤ 36
      · obtain ⟨t1, R1, n1, n2, n3, n4⟩ := jn hJ (by omega)
        have hW' : W = t.2.1 := hW
        -- the reference
        have refA : ∀ QR : Option Value → z_RS → Prop, p155_123 15 B M U (nI d) (nI (t.2.1 - 34)) QR → z_WR 16 155 2 [(0, .ref 148), (1, .int (nI d))] [] (B, M, U) QR := by
          intro QR h
          refine pre QR ?_
          have h114 : p155_114 15 B M U (nI d) (nI (t.2.1 - 34)) QR := by
            unfold p155_114
            rw [if_pos (by rw [h0]; decide)]
            exact h
          unfold p155_43
          by_cases q1 : t.2.1 = 34
          · rw [if_pos (by rw [hw, q1]; rfl)]
            rw [q1] at h114
            exact h114
          · rw [if_neg (by rw [hw]; exact z_wco_n (i := 34) t37 (by decide) q1)]
            unfold p155_58
            by_cases q2 : t.2.1 = 35
            · rw [if_pos (by rw [hw, q2]; rfl)]
              rw [q2] at h114
              exact h114
            · have q3 : t.2.1 = 36 := by omega
              rw [if_neg (by rw [hw]; exact z_wco_n (i := 35) t37 (by decide) q2)]
              unfold p155_73
              rw [if_pos (by rw [hw, q3]; rfl)]
              rw [q3] at h114
              exact h114
        have clsA : p55_61 (k + 16) A E N V W c (nI d) W (fun o S' => z_oj o (fun v => ∃ (x y : Int32) (j' : Nat) (t' : Nat × Nat × Int32) (τ' : z_TT) (R' : z_RS), v = some (.int x) ∧ z_J b n j' t' S' R' ∧ j < j' ∧ z_Te τ τ' ∧ z_TyC S'.1 S'.2.2.1 S'.2.2.2.1 τ'.1.1 τ'.1.2 ∧ z_TyR R'.1 R'.2.2 τ'.2.1 τ'.2.2 ∧ (2 * τ'.1.2 + j ≤ 2 * τ.1.2 + j' ∧ 2 * τ'.2.2 + j ≤ 2 * τ.2.2 + j') ∧ z_Tqe (50 - d) (j' - j) τ' x y ∧ z_XT (A, E, N, V, W, c) S' ∧ z_Xr (B, M, U) R' ∧ (∀ i, i < d → z_fn 0 (R'.1 55) i = z_fn 0 (B 55) i ∧ z_fn 0 (R'.1 56) i = z_fn 0 (B 56) i) ∧ (∀ QR : Option Value → z_RS → Prop, z_WR 16 155 136 [(0, .ref 148), (1, .int (nI d)), (2, .int y), (3, .int 1)] [] R' QR → z_WR 16 155 2 [(0, .ref 148), (1, .int (nI d))] [] (B, M, U) QR)) (∃ x y, z_Xd x y (A, E, N, V, W, c) S' ∧ (∀ QR : Option Value → z_RS → Prop, (∀ v R', z_Qd x y R'.2.2 → z_Xr (B, M, U) R' → QR (some (.int v)) R') → z_WR 16 155 2 [(0, .ref 148), (1, .int (nI d))] [] (B, M, U) QR))) := by
          have i0 : (0 : Int32) ≤ nI (t.2.1 - 34) := nI_pos' (by omega)
          refine ⟨hr.rm.1, lW, ?_⟩
          rcases n4 with ⟨nb, S1, m1, m2, m3⟩ | ⟨nb, S1, m1, m2, m3⟩
          case inr =>
            refine ⟨.inr 10, S1, m1.up (by omega), rfl, rfl, _, _, m2, fun QR hQ => refA QR ⟨none, R1, n1.up (by decide), rfl, ?_⟩⟩
            unfold p155_127
            rw [if_pos i0]
            exact d155_136 (by omega) m3.q (fun v R' a1 a2 => hQ v R' a1 (n2.xr.tr a2))
          refine ⟨.inl none, S1, m1.up (by omega), rfl, ?_⟩
          refine ⟨cv, ?_⟩
          rw [if_neg (fun q => c5 ((sW 5).mp q))]
          refine ⟨m3.2.2.2.2.rm.1, lW, c56 (by rw [hW']; exact pl) ?_⟩
          rw [hW']
          refine ⟨_, rfl, _, _, j + 1, t1, τ, R1, rfl, m3, by omega, z_Te.rf, hTC.kw m2, hTR.lw n2, ⟨by omega, by omega⟩, z_Tqe_lo hTC.1 hTR.1 (by omega) (by omega), m2.xt, n2.xr, fun i _ => by rw [n2.1]; exact ⟨rfl, rfl⟩, fun QR h => refA QR ⟨none, R1, n1.up (by decide), rfl, ?_⟩⟩
          unfold p155_127
          rw [if_pos i0]
          exact h
        unfold p55_36
        refine ⟨cv, ?_⟩
        by_cases q1 : t.2.1 = 34
        · rw [if_pos ((sW 34).mpr q1)]
          exact clsA
        · rw [if_neg (fun q => q1 ((sW 34).mp q))]
          refine ⟨cv, ?_⟩
          by_cases q2 : t.2.1 = 35
          · rw [if_pos ((sW 35).mpr q2)]
            exact clsA
          · rw [if_neg (fun q => q2 ((sW 35).mp q))]
            refine ⟨cv, ?_⟩
            have q3 : t.2.1 = 36 := by omega
            rw [if_pos ((sW 36).mpr q3)]
            exact clsA
      · obtain ⟨S', a1, a2⟩ := c52 (S := (A, E, N, V, W, c)) (l := 13 + k + 1) hr lW
        unfold p55_36
        refine ⟨cv, ?_⟩
        rw [if_neg (fun q => pl (by have := (sW 34).mp q; omega))]
        refine ⟨cv, ?_⟩
        rw [if_neg (fun q => pl (by have := (sW 35).mp q; omega))]
        refine ⟨cv, ?_⟩
        rw [if_neg (fun q => pl (by have := (sW 36).mp q; omega))]
        refine ⟨hr.rm.1, lW, .inr 10, S', a1.up (by omega), rfl, rfl, 1, V 3 9, a2, fun QR hQ => pre QR ?_⟩
        unfold p155_43
        rw [if_neg (by rw [hw]; exact z_wco_n (i := 34) t37 (by decide) (by omega))]
        unfold p155_58
        rw [if_neg (by rw [hw]; exact z_wco_n (i := 35) t37 (by decide) (by omega))]
        unfold p155_73
        rw [if_neg (by rw [hw]; exact z_wco_n (i := 36) t37 (by decide) (by omega))]
        unfold p155_88
        rw [if_neg (by rw [hw]; exact z_wco_n (i := 5) t37 (by decide) c5)]
        refine ⟨none, _, f151 (R := (B, M, U)) (l := 14) h0 hn5, rfl, ?_⟩
        unfold p155_114
        refine z_ifn (show ¬ (1 : Int32) ≤ 0 by decide) ?_
        refine hQ 0 _ ?_ (z_Lw_F (R := (B, M, U)) (by decide)).xr
        have e : V 3 9 = U 41 8 := hJ.2.1.2.2.2.2.1.trans hJ.2.1.2.2.2.2.2.2.1.symm
        rw [e]
        exact z_Qd_F (by decide)
/-- a type, of both -/
theorem jt {b : Nat → Nat} {n m : Nat} {ep : Nat → Nat} {S : z_CS} {R : z_RS} {j : Nat} {t : Nat × Nat × Int32} {τ : z_TT} (hJ : z_J b n j t S R) (hD : z_De b n m ep S.1 R.1 S.2.2.2.1 R.2.2) (hTC : z_TyC S.1 S.2.2.1 S.2.2.2.1 τ.1.1 τ.1.2) (hTR : z_TyR R.1 R.2.2 τ.2.1 τ.2.2) (hB : 2 * τ.1.2 ≤ 6 + j ∧ 2 * τ.2.2 ≤ 6 + j) : ∃ o S', z_Cr 66 55 0 [(0, .ref 131), (1, .int 0)] [] S o S' ∧ z_oj o (fun v => ∃ (x y : Int32) (j' : Nat) (t' : Nat × Nat × Int32) (τ' : z_TT) (R' : z_RS), v = some (.int x) ∧ z_J b n j' t' S' R' ∧ j < j' ∧ z_Te τ τ' ∧ z_TyC S'.1 S'.2.2.1 S'.2.2.2.1 τ'.1.1 τ'.1.2 ∧ z_TyR R'.1 R'.2.2 τ'.2.1 τ'.2.2 ∧ (2 * τ'.1.2 + j ≤ 2 * τ.1.2 + j' ∧ 2 * τ'.2.2 + j ≤ 2 * τ.2.2 + j') ∧ z_Tq τ' x y ∧ z_XT S S' ∧ z_Xr R R' ∧ z_Rr 16 155 0 [(0, .ref 148)] [] R (some (.int y)) R') (∃ x y v R', z_Xd x y S S' ∧ z_Rr 16 155 0 [(0, .ref 148)] [] R (some (.int v)) R' ∧ z_Qd x y R'.2.2 ∧ z_Xr R R') := by
  obtain ⟨o, S', h1, h2⟩ := j55 (b := b) (n := n) (m := m) (ep := ep) 50 0 rfl S R j t τ hJ hD hTC hTR hB
  refine ⟨o, S', h1, ?_⟩
  rcases o with v | e
  · obtain ⟨x, y, j', t', τ', R', h3, h4, h5, h6, h7, h8, h9, h10, h11, h12, -, h13⟩ := h2
    have lj := h4.len.1
    refine ⟨x, y, j', t', τ', R', h3, h4, h5, h6, h7, h8, h9, h10.le (by omega), h11, h12, ?_⟩
    have h0 : R'.2.2 41 11 = 0 := h4.2.2.2.1
    obtain ⟨v2, R2, k1, k2, k3⟩ := h13 (fun v2 R2 => v2 = some (.int y) ∧ R2 = R') (by
      refine t155_136 (B := R'.1) (M := R'.2.1) (U := R'.2.2) ?_
      unfold p155_136
      rw [if_neg (by decide)]
      unfold p155_140
      rw [if_pos h0]
      unfold p155_147
      rw [if_pos nI_0]
      exact ⟨rfl, rfl⟩)
    obtain ⟨v3, R3, l1, l2, l3⟩ := t155_0 (l := 15) (B := R.1) (M := R.2.1) (U := R.2.2) (Q := fun v2 R2 => v2 = some (.int y) ∧ R2 = R') ⟨v2, R2, k1, k2, k3⟩
    rw [← l2, ← l3]
    exact l1
  · obtain ⟨h3, x, y, h4, h5⟩ := h2
    obtain ⟨v2, R2, k1, ⟨v, k2⟩, k3, k4⟩ := h5 (fun v2 R2 => (∃ v, v2 = some (.int v)) ∧ z_Qd x y R2.2.2 ∧ z_Xr R R2) (fun v R' a1 a2 => ⟨⟨v, rfl⟩, a1, a2⟩)
    obtain ⟨v3, R3, l1, ⟨w, l2⟩, l3, l4⟩ := t155_0 (l := 15) (B := R.1) (M := R.2.1) (U := R.2.2) (Q := fun v2 R2 => (∃ v, v2 = some (.int v)) ∧ z_Qd x y R2.2.2 ∧ z_Xr R R2) ⟨v2, R2, k1, ⟨v, k2⟩, k3, k4⟩
    rw [l2] at l1
    exact ⟨h3, x, y, w, R3, h4, l1, l3, l4⟩
