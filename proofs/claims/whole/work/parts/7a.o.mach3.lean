/-! The class's machine: a run's end; calls. -/
section ZAO
variable {l ce : Nat} {S0 S : z_CS} {tp bs rd pc th dp : Nat} {fu v : Int32} {Q : z_V → z_CS → Prop}
theorem m133 {ty : Int32} (h : z_Mc S0 (tp + 1) bs rd pc fu th dp S) (hty : S0.2.2.2.1 13 8 = ty) (k : ∀ S', z_Mz S0 2 (if ty = 0 ∨ ty = 1 then z_mm S tp else 0) (-1) fu th dp S' → Q (.inl none) S') : z_WC (l + 2) 133 0 [(0, .ref 145)] [] S Q := by
  have n31 := h.n31
  have v2 : S.2.2.2.1 38 2 = nI (tp + 1) := h.2.2.1.1
  have e8 : S.2.2.2.1 13 8 = ty := (h.1.2.2.2.1 13 8 (by decide)).trans hty
  have go : (if ty = 0 ∨ ty = 1 then z_mm S tp else 0) = z_mm S tp → p133_27 (l + 1) S.1 S.2.1 S.2.2.1 (z_v S.2.2.2.1 38 7 2) S.2.2.2.2.1 S.2.2.2.2.2 Q := by
    intro e
    rw [e] at k
    unfold p133_27
    refine ⟨h.rm, t118_0 ?_⟩
    unfold p118_0
    rw [show z_v S.2.2.2.1 38 7 2 38 2 = nI (tp + 1) from v2, nI_pred, nI_clamp (show tp < 2 ^ 31 by omega)]
    refine ⟨h.in39 (Nat.lt_succ_self _), z_mm S tp, rfl, ?_⟩
    unfold p133_31 p133_35
    refine k _ (h.mz (V' := z_v (z_v (z_v S.2.2.2.1 38 7 2) 38 2 (nI tp)) 38 8 (z_mm S tp)) (fun q j x => ?_) ⟨⟨rfl, rfl, h.2.2.2.1.2.2⟩, h.2.2.2.2⟩)
    rw [z_vn (fun e => x e.1), z_vn (fun e => x e.1), z_vn (fun e => x e.1)]
  refine t133_0 (A := S.1) (E := S.2.1) (N := S.2.2.1) (V := S.2.2.2.1) (W := S.2.2.2.2.1) (c := S.2.2.2.2.2) ?_
  unfold p133_0
  rw [e8]
  by_cases t0 : ty = 0
  · rw [if_pos t0]
    exact go (if_pos (Or.inl t0))
  · rw [if_neg t0]
    unfold p133_16
    rw [show z_v S.2.2.2.1 38 7 2 13 8 = ty from e8]
    by_cases t1 : ty = 1
    · rw [if_pos t1]
      exact go (if_pos (Or.inr t1))
    · rw [if_neg t1]
      rw [if_neg (fun q => q.elim t0 t1)] at k
      refine k _ (h.mz (V' := z_v (z_v S.2.2.2.1 38 7 2) 38 8 0) (fun q j x => ?_) ⟨⟨rfl, rfl, h.2.2.2.1.2.2⟩, h.2.2.2.2⟩)
      rw [z_vn (fun e => x e.1), z_vn (fun e => x e.1)]
/-- a piece of the stack is laid down -/
theorem m123 {ct len tf : Nat} (h : z_Mc S0 tp bs rd pc fu th dp S) (hb : bs ≤ tp) (h4 : z_rq S (ct + 4) = nI len) (h3 : z_rq S (ct + 3) = nI tf) (hl : 2 ≤ len) (hr : ct + 5 + len ≤ rd) (ht : tp + len ≤ 262144) (hp : pc < 5000) (k : ∀ S', z_Mc S0 (tp + len) (tp + tf) rd pc fu th dp S' → z_ke tp (z_mm S) (z_mm S') → z_mm S' tp = nI (pc + 1) → z_mm S' (tp + 1) = nI (tp - bs) → (∀ x, 2 ≤ x → x < len → z_mm S' (tp + x) = z_rq S (ct + 5 + x)) → z_ke rd (z_rq S) (z_rq S') → Q (.inl none) S') : z_WC (l + 1) 123 0 [(0, .ref 145), (1, .int (nI ct))] [] S Q := by
  have n31 := h.n31
  have i4 := h.in40 (x := ct + 4) (by omega)
  obtain ⟨A, E, N, V, W, c⟩ := S
  obtain ⟨h0, ⟨b1, b2⟩, ⟨v2, v3, v5, v6⟩, v7, v10, v11, v12⟩ := h
  have v2 : V 38 2 = nI tp := v2
  have v3 : V 38 3 = nI bs := v3
  have v6 : V 38 6 = nI pc := v6
  have b1 : tp ≤ N 39 := b1
  have b2 : rd ≤ N 40 := b2
  have h4 : z_fn 0 (A 40) (ct + 4) = nI len := h4
  have h3 : z_fn 0 (A 40) (ct + 3) = nI tf := h3
  have e3 : nI ct + 3 = nI (ct + 3) := z_nI2 (i := ct) (k := 3)
  have e4 : nI ct + 4 = nI (ct + 4) := z_nI2 (i := ct) (k := 4)
  have e5 : nI ct + 5 = nI (ct + 5) := z_nI2 (i := ct) (k := 5)
  have c4 : (nI (ct + 4)).toNatClampNeg = ct + 4 := nI_clamp (by omega)
  refine t123_0 ?_
  unfold p123_0
  rw [e4, c4, h4, v2, z_nI2]
  refine ⟨i4, h0.2.2.2.2.1.2, z_Gr_i (m := tp + len) rfl rfl h0.2.2.2.2.2.1 (by show 2 * (tp + len) ≤ 524288; omega) (fun A' N' c' q1 q2 q3 q4 q5 q6 => ?_)⟩
  have g3 : z_fn 0 (A' 40) (ct + 3) = nI tf := by rw [q1 40 (by decide)]; exact h3
  have n39 : N' 39 < 2 ^ 31 := by
    have := (q5.1 39 rfl).2
    have := z_mxl_b 39
    omega
  have n40 : N' 40 < 2 ^ 31 := by
    have := (q5.1 40 rfl).2
    have := z_mxl_b 40
    omega
  have b40 : rd ≤ N' 40 := by rw [q3 40 (by decide)]; exact b2
  unfold p123_26
  rw [e5, v2, v3, v6, e3, show nI tp + 0 = nI tp from Int32.add_zero _, show nI tp + 1 = nI (tp + 1) from z_nI2 (i := tp) (k := 1), show nI pc + 1 = nI (pc + 1) from z_nI2 (i := pc) (k := 1), show nI tp - nI bs = nI (tp - bs) from pk_sub hb, nI_clamp (show ct + 3 < 2 ^ 31 by omega), nI_clamp (show ct + 5 < 2 ^ 31 by omega), nI_clamp (show tp < 2 ^ 31 by omega), nI_clamp (show tp + 1 < 2 ^ 31 by omega), nI_clamp (show len < 2 ^ 31 by omega), g3, z_nI2, z_nI2]
  refine ⟨z_cpI (by omega) (by omega) n40 n39, z_inR q5 rfl (by omega), z_inR q5 rfl (by omega), z_inR q5 rfl (by omega), q5.rm.1, ?_⟩
  obtain ⟨L, hL⟩ : ∃ X, X = (tp + 1, nI (tp - bs)) :: (tp, nI (pc + 1)) :: z_cpl (A' 40) (A' 39) (ct + 5) tp len := ⟨_, rfl⟩
  rw [← hL]
  refine k _ ⟨h0.up (fun q x y => ?_) (fun q x y => q3 q x) (fun q j x => ?_) q5 q6, ⟨q4, b40⟩, ⟨rfl, rfl, v5, v6⟩, v7, v10, v11, v12⟩ (fun x hx => ?_) ?_ ?_ (fun x x1 x2 => ?_) (fun x hx => ?_)
  · rw [z_un x, q1 q x]
  · rw [z_vn (fun e => x e.1), z_vn (fun e => x e.1)]
  · show z_fn 0 (z_u A' 39 L 39) x = z_fn 0 (A 39) x
    rw [z_uk, hL, z_fcn (by omega), z_fcn (by omega), z_cpl_out _ (by omega), q2 x (by omega)]
  · show z_fn 0 (z_u A' 39 L 39) tp = _
    rw [z_uk, hL, z_fcn (by omega), z_fcs]
  · show z_fn 0 (z_u A' 39 L 39) (tp + 1) = _
    rw [z_uk, hL, z_fcs]
  · show z_fn 0 (z_u A' 39 L 39) (tp + x) = z_fn 0 (A 40) (ct + 5 + x)
    rw [z_uk, hL, z_fcn (by omega), z_fcn (by omega), z_cpl_in _ x x2, q1 40 (by decide)]
  · show z_fn 0 (z_u A' 39 L 40) x = z_fn 0 (A 40) x
    rw [z_un (by decide), q1 40 (by decide)]
/-- a continuation is gone on with -/
theorem m122 {ct len tf fr pm : Nat} (h : z_Mc S0 (tp + 2) bs rd pc fu th dp S) (hb : bs ≤ tp) (h0 : z_rq S ct = nI pm) (h1 : z_rq S (ct + 1) = 0) (h2 : z_rq S (ct + 2) = nI fr) (h4 : z_rq S (ct + 4) = nI len) (h3 : z_rq S (ct + 3) = nI tf) (hl : 2 ≤ len) (hr : ct + 5 + len ≤ rd) (ht : tp + len < 262144) (hp : pc < 5000) (hd : dp + fr ≤ 400) (k : ∀ S', z_Mc S0 (tp + len + 1) (tp + tf) rd (pm + 1) fu th (dp + fr) S' → z_ke tp (z_mm S) (z_mm S') → z_mm S' tp = nI (pc + 1) → z_mm S' (tp + 1) = nI (tp - bs) → (∀ x, 2 ≤ x → x < len → z_mm S' (tp + x) = z_rq S (ct + 5 + x)) → z_mm S' (tp + len) = z_mm S (tp + 1) → (∀ x, x < rd → x ≠ ct + 1 → z_rq S' x = z_rq S x) → z_rq S' (ct + 1) = 1 → Q (.inl none) S') : z_WC (l + 2) 122 0 [(0, .ref 145), (1, .int (nI ct))] [] S Q := by
  have n31 := h.n31
  have e1 : nI ct + 1 = nI (ct + 1) := z_nI2 (i := ct) (k := 1)
  have e2 : nI ct + 2 = nI (ct + 2) := z_nI2 (i := ct) (k := 2)
  have c0 : (nI ct).toNatClampNeg = ct := nI_clamp (by omega)
  have c1 : (nI (ct + 1)).toNatClampNeg = ct + 1 := nI_clamp (by omega)
  have c2 : (nI (ct + 2)).toNatClampNeg = ct + 2 := nI_clamp (by omega)
  have g1 : z_fn 0 (S.1 40) (ct + 1) = 0 := h1
  have g2 : z_fn 0 (S.1 40) (ct + 2) = nI fr := h2
  have v12 : S.2.2.2.1 38 12 = nI dp := h.2.2.2.2.2.2
  refine t122_0 (A := S.1) (E := S.2.1) (N := S.2.2.1) (V := S.2.2.2.1) (W := S.2.2.2.2.1) (c := S.2.2.2.2.2) ?_
  unfold p122_0
  rw [e1, e2, c1, c2, g1, g2, if_pos rfl]
  refine ⟨h.in40 (by omega), h.in40 (by omega), ?_⟩
  unfold p122_28
  rw [v12, z_nI2, if_pos (show nI (dp + fr) ≤ 400 from nI_le (b := 400) (by omega) (by decide))]
  unfold p122_49
  rw [e1, c1, v12, z_nI2]
  obtain ⟨S1, hS1⟩ : ∃ X : z_CS, X = ((z_u S.1 40 ((ct + 1, 1) :: S.1 40)), S.2.1, S.2.2.1, (z_v S.2.2.2.1 38 12 (nI (dp + fr))), S.2.2.2.2.1, S.2.2.2.2.2) := ⟨_, rfl⟩
  rw [← hS1]
  have r1 : ∀ x, x ≠ ct + 1 → z_rq S1 x = z_rq S x := fun x hx => by
    rw [hS1]
    show z_fn 0 (z_u S.1 40 ((ct + 1, 1) :: S.1 40) 40) x = _
    rw [z_uk, z_fcn hx]
    rfl
  have r1' : z_rq S1 (ct + 1) = 1 := by
    rw [hS1]
    show z_fn 0 (z_u S.1 40 ((ct + 1, 1) :: S.1 40) 40) (ct + 1) = _
    rw [z_uk, z_fcs]
  have m1 : S1.1 39 = S.1 39 := by
    rw [hS1]
    show z_u S.1 40 ((ct + 1, 1) :: S.1 40) 39 = S.1 39
    rw [z_un (by decide)]
  have hM1 : z_Mc S0 (tp + 2) bs rd pc fu th (dp + fr) S1 := by
    rw [hS1]
    obtain ⟨A, E, N, V, W, c⟩ := S
    exact ⟨h.1.up (fun q x y => z_un y) (fun _ _ _ => rfl) (fun q j x => z_vn (fun e => x e.1)) h.1.2.2.2.2.2.1 z_Gw.rf, h.2.1, h.2.2.1, h.2.2.2.1, h.2.2.2.2.1, h.2.2.2.2.2.1, rfl⟩
  refine ⟨h.in40 (by omega), h.rm, m118 (tp := tp + 1) hM1 (fun S2 hM2 f1 f2 => ⟨z_mm S1 (tp + 1), rfl, ?_⟩)⟩
  unfold p122_72
  have v2 : S2.2.2.2.1 38 2 = nI (tp + 1) := hM2.2.2.1.1
  rw [v2, nI_pred]
  have hM3 := hM2.vv (V' := z_v S2.2.2.2.1 38 2 (nI tp)) (tp' := tp) (fun q j x => z_vn (fun e => x e.1)) ⟨⟨rfl, hM2.2.2.1.2⟩, hM2.2.2.2⟩ (Nat.le_succ tp) (Nat.le_refl _)
  have r2 : ∀ x, z_rq (S2.1, S2.2.1, S2.2.2.1, z_v S2.2.2.2.1 38 2 (nI tp), S2.2.2.2.2.1, S2.2.2.2.2.2) x = z_rq S1 x := fun x => by
    show z_fn 0 (S2.1 40) x = _
    rw [f1]
    rfl
  have mm2 : ∀ x, z_mm (S2.1, S2.2.1, S2.2.2.1, z_v S2.2.2.2.1 38 2 (nI tp), S2.2.2.2.2.1, S2.2.2.2.2.2) x = z_mm S x := fun x => by
    show z_fn 0 (S2.1 39) x = _
    rw [f1, m1]
    rfl
  have am : z_mm S1 (tp + 1) = z_mm S (tp + 1) := by
    show z_fn 0 (S1.1 39) (tp + 1) = _
    rw [m1]
    rfl
  refine ⟨hM2.rm, m123 (l := l) (tp := tp) (ct := ct) (len := len) (tf := tf) hM3 hb ((r2 _).trans ((r1 _ (by omega)).trans h4)) ((r2 _).trans ((r1 _ (by omega)).trans h3)) hl hr (by omega) hp (fun S4 hM4 k4 t0 t1 cp4 q4 => ⟨rfl, ?_⟩)⟩
  have g0 : z_fn 0 (S4.1 40) ct = nI pm := (q4 ct (by omega)).trans ((r2 _).trans ((r1 _ (by omega)).trans h0))
  unfold p122_88
  rw [c0, g0, show nI pm + 1 = nI (pm + 1) from z_nI2 (i := pm) (k := 1), am]
  have hM5 := hM4.vv (V' := z_v S4.2.2.2.1 38 6 (nI (pm + 1))) (pc' := pm + 1) (fun q j x => z_vn (fun e => x e.1)) ⟨⟨hM4.2.2.1.1, hM4.2.2.1.2.1, hM4.2.2.1.2.2.1, rfl⟩, hM4.2.2.2⟩ (Nat.le_refl _) (Nat.le_refl _)
  refine ⟨hM4.in40 (by omega), hM4.rm, m117 (l := l) hM5 ht (fun S6 hM6 k6 t6 q6 => ⟨rfl, ?_⟩)⟩
  refine k S6 hM6 (fun x hx => ?_) ?_ ?_ (fun x x1 x2 => ?_) t6 (fun x hx hn => ?_) ?_
  · exact (k6 x (by omega)).trans ((k4 x hx).trans (mm2 x))
  · exact (k6 tp (by omega)).trans t0
  · exact (k6 (tp + 1) (by omega)).trans t1
  · exact (k6 (tp + x) (by omega)).trans ((cp4 x x1 x2).trans ((r2 _).trans (r1 _ (by omega))))
  · exact (q6 x hx).trans ((q4 x hx).trans ((r2 _).trans (r1 _ hn)))
  · exact (q6 _ (by omega)).trans ((q4 _ (by omega)).trans ((r2 _).trans r1'))
theorem m122t {ct fr : Nat} (h : z_Mc S0 tp bs rd pc fu th dp S) (hr : ct + 5 ≤ rd) (h1 : z_rq S (ct + 1) = 1) (h2 : z_rq S (ct + 2) = nI fr) (k : ∀ S', z_Mz S0 3 0 (-1) fu th dp S' → Q (.inl none) S') : z_WC (l + 1) 122 0 [(0, .ref 145), (1, .int (nI ct))] [] S Q := by
  have n31 := h.n31
  have g1 : z_fn 0 (S.1 40) (ct + 1) = 1 := h1
  refine t122_0 (A := S.1) (E := S.2.1) (N := S.2.2.1) (V := S.2.2.2.1) (W := S.2.2.2.2.1) (c := S.2.2.2.2.2) ?_
  unfold p122_0
  rw [show nI ct + 1 = nI (ct + 1) from z_nI2 (i := ct) (k := 1), show nI ct + 2 = nI (ct + 2) from z_nI2 (i := ct) (k := 2), nI_clamp (show ct + 1 < 2 ^ 31 by omega), nI_clamp (show ct + 2 < 2 ^ 31 by omega), g1, if_neg (by decide)]
  exact ⟨h.in40 (by omega), h.in40 (by omega), k _ (h.mz (V' := z_v S.2.2.2.1 38 7 3) (fun q j x => z_vn (fun e => x e.1)) ⟨⟨rfl, h.2.2.2.1.2⟩, h.2.2.2.2⟩)⟩
theorem m122d {ct fr : Nat} (h : z_Mc S0 tp bs rd pc fu th dp S) (hr : ct + 5 ≤ rd) (h1 : z_rq S (ct + 1) = 0) (h2 : z_rq S (ct + 2) = nI fr) (hf : fr ≤ 1000) (hd : 400 < dp + fr) (hd2 : dp ≤ 1000) (k : ∀ S', z_Mz S0 6 0 (-1) fu th dp S' → Q (.inl none) S') : z_WC (l + 1) 122 0 [(0, .ref 145), (1, .int (nI ct))] [] S Q := by
  have n31 := h.n31
  have g1 : z_fn 0 (S.1 40) (ct + 1) = 0 := h1
  have g2 : z_fn 0 (S.1 40) (ct + 2) = nI fr := h2
  have v12 : S.2.2.2.1 38 12 = nI dp := h.2.2.2.2.2.2
  refine t122_0 (A := S.1) (E := S.2.1) (N := S.2.2.1) (V := S.2.2.2.1) (W := S.2.2.2.2.1) (c := S.2.2.2.2.2) ?_
  unfold p122_0
  rw [show nI ct + 1 = nI (ct + 1) from z_nI2 (i := ct) (k := 1), show nI ct + 2 = nI (ct + 2) from z_nI2 (i := ct) (k := 2), nI_clamp (show ct + 1 < 2 ^ 31 by omega), nI_clamp (show ct + 2 < 2 ^ 31 by omega), g1, g2, if_pos rfl]
  refine ⟨h.in40 (by omega), h.in40 (by omega), ?_⟩
  unfold p122_28
  rw [v12, z_nI2, if_neg (show ¬ nI (dp + fr) ≤ 400 from nI_ge hd (by omega))]
  exact k _ (h.mz (V' := z_v S.2.2.2.1 38 7 6) (fun q j x => z_vn (fun e => x e.1)) ⟨⟨rfl, h.2.2.2.1.2⟩, h.2.2.2.2⟩)
end ZAO
