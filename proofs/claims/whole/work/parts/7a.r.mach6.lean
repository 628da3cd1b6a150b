/-! The class's machine: more steps of its loop. -/
section ZAR
variable {l ce most i o : Nat} {S0 S : z_CS} {tp bs rd pc th dp : Nat} {fu f0 v : Int32} {Q : z_V → z_CS → Prop}
theorem m119 (h : z_Mc S0 (tp + 2) bs rd pc fu th dp S) (o1 : 9 ≤ o) (o2 : o ≤ 13) (ht : tp < 262144) {G : z_V → z_CS → Prop} (k : ∀ S', z_Mc S0 (tp + 1) bs rd pc fu th dp S' → z_ke tp (z_mm S) (z_mm S') → z_mm S' tp = z_op o (z_mm S tp) (z_mm S (tp + 1)) → z_ke rd (z_rq S) (z_rq S') → G (.inl none) S') : z_WC (l + 2) 119 0 [(0, .ref 145), (1, .int (nI o))] [] S G := by
  refine t119_0 (A := S.1) (E := S.2.1) (N := S.2.2.1) (V := S.2.2.2.1) (W := S.2.2.2.2.1) (c := S.2.2.2.2.2) ?_
  unfold p119_0
  refine ⟨h.rm, m118 (tp := tp + 1) h (fun S1 h1 e1 e2 => ⟨z_mm S (tp + 1), rfl, ?_⟩)⟩
  unfold p119_4
  refine ⟨h1.rm, m118 (tp := tp) h1 (fun S2 h2 g1 g2 => ⟨z_mm S tp, ?_, ?_⟩)⟩
  · show some (Value.int (z_fn 0 (S1.1 39) tp)) = some (Value.int (z_mm S tp))
    rw [e1]
    rfl
  have fin : ∀ x : Int32, x = z_op o (z_mm S tp) (z_mm S (tp + 1)) → ∀ S3, z_Mc S0 (tp + 1) bs rd pc fu th dp S3 → z_ke tp (z_mm S2) (z_mm S3) → z_mm S3 tp = x → z_ke rd (z_rq S2) (z_rq S3) → G (.inl none) S3 := by
    intro x hx S3 h3 k3 t3 r3
    refine k S3 h3 (fun y hy => ?_) (t3.trans hx) (fun y hy => ?_)
    · refine (k3 y hy).trans ?_
      show z_fn 0 (S2.1 39) y = _
      rw [g1, e1]
      rfl
    · refine (r3 y hy).trans ?_
      show z_fn 0 (S2.1 40) y = _
      rw [g1, e1]
      rfl
  unfold p119_9
  rcases (show o = 9 ∨ o = 10 ∨ o = 11 ∨ o = 12 ∨ o = 13 by omega) with rfl | rfl | rfl | rfl | rfl
  · rw [if_pos (by decide)]
    exact ⟨h2.rm, m117 h2 ht (fun S3 a b c d => ⟨rfl, fin _ rfl S3 a b c d⟩)⟩
  · rw [if_neg (by decide), if_pos (by decide)]
    exact ⟨h2.rm, m117 h2 ht (fun S3 a b c d => ⟨rfl, fin _ rfl S3 a b c d⟩)⟩
  · rw [if_neg (by decide), if_neg (by decide), if_pos (by decide)]
    exact ⟨h2.rm, m117 h2 ht (fun S3 a b c d => ⟨rfl, fin _ rfl S3 a b c d⟩)⟩
  · rw [if_neg (by decide), if_neg (by decide), if_neg (by decide), if_pos (by decide)]
    unfold p119_70
    by_cases e : z_mm S (tp + 1) ≤ z_mm S tp
    · rw [if_pos e]
      refine ⟨h2.rm, m117 h2 ht (fun S3 a b c d => ⟨rfl, fin _ ?_ S3 a b c d⟩)⟩
      show (0 : Int32) = if z_mm S (tp + 1) ≤ z_mm S tp then 0 else 1
      rw [if_pos e]
    · rw [if_neg e]
      refine ⟨h2.rm, m117 h2 ht (fun S3 a b c d => ⟨rfl, fin _ ?_ S3 a b c d⟩)⟩
      show (1 : Int32) = if z_mm S (tp + 1) ≤ z_mm S tp then 0 else 1
      rw [if_neg e]
  · rw [if_neg (by decide), if_neg (by decide), if_neg (by decide), if_neg (by decide)]
    unfold p119_87
    by_cases e : z_mm S tp = z_mm S (tp + 1)
    · rw [if_pos e]
      refine ⟨h2.rm, m117 h2 ht (fun S3 a b c d => ⟨rfl, fin _ ?_ S3 a b c d⟩)⟩
      show (1 : Int32) = if z_mm S tp = z_mm S (tp + 1) then 1 else 0
      rw [if_pos e]
    · rw [if_neg e]
      refine ⟨h2.rm, m117 h2 ht (fun S3 a b c d => ⟨rfl, fin _ ?_ S3 a b c d⟩)⟩
      show (0 : Int32) = if z_mm S tp = z_mm S (tp + 1) then 1 else 0
      rw [if_neg e]
theorem g_op (h : z_Mc S0 (tp + 2) bs rd pc fu th dp S) (hc : z_Cn ce S0) (hp : pc < ce) (ho : z_fn 0 (S0.1 14) pc = nI o) (o1 : 9 ≤ o) (o2 : o ≤ 13) (ht : tp < 262144) (hi : i < 100000000) (k : ∀ S', z_Mc S0 (tp + 1) bs rd (pc + 1) fu th dp S' → z_ke tp (z_mm S) (z_mm S') → z_mm S' tp = z_op o (z_mm S tp) (z_mm S (tp + 1)) → z_ke rd (z_rq S) (z_rq S') → z_CL most f0 Q (i + 1) S') : z_CL most f0 Q i S := by
  have c47 := hc.1
  have v6 : S.2.2.2.1 38 6 = nI pc := h.2.2.1.2.2.2
  refine z_CL.lo h hc hp ho (by omega) hi (m116 h hc hp ho (by omega) ?_)
  rw [if_neg (by omega), if_neg (by omega), if_neg (by omega), if_neg (by omega), if_neg (by omega), if_neg (by omega), if_pos o1]
  unfold p116_297
  rw [v6, nI_clamp (show pc < 2 ^ 31 by omega), h.rw (k := 14) (by decide) (by decide), ho]
  refine ⟨h.ic hc hp (by decide) (by decide), h.rm, m119 (l := 27) h o1 o2 ht (fun S1 h1 k1 t1 r1 => ⟨rfl, rfl, k _ (h1.ats ?_) k1 t1 r1⟩)⟩
  have w6 : S1.2.2.2.1 38 6 = nI pc := h1.2.2.1.2.2.2
  rw [w6, z_p1]
theorem g_ret (h : z_Mc S0 (tp + 1) bs rd pc fu th dp S) (hc : z_Cn ce S0) (hp : pc < ce) (ho : z_fn 0 (S0.1 14) pc = 22) (ha : bs + 4 < tp) (hi : i < 100000000) (k : ∀ S', z_Mc S0 tp bs rd (pc + 1) fu th dp S' → (∀ x, x ≠ bs + 4 → x ≠ bs + 3 → z_mm S' x = z_mm S x) → z_mm S' (bs + 4) = z_mm S tp → z_mm S' (bs + 3) = -1 → S'.1 40 = S.1 40 → z_CL most f0 Q (i + 1) S') : z_CL most f0 Q i S := by
  have c47 := hc.1
  have n31 := h.n31
  have v3 : S.2.2.2.1 38 3 = nI bs := h.2.2.1.2.1
  refine z_CL.hi (o := 22) h hc hp ho (by decide) (by decide) hi (fun e => by omega) (m120 h hc hp ho (by decide) (by decide) ?_)
  show p120_140 29 _ _ _ _ _ _ _
  unfold p120_140
  rw [v3, show nI bs + 4 = nI (bs + 4) from z_nI2 (i := bs) (k := 4)]
  refine ⟨h.rm, m118 (l := 28) h (fun S1 h1 e1 e2 => ⟨z_mm S tp, rfl, by rw [e2], ?_⟩)⟩
  unfold p120_154 p120_204
  have w6 : S1.2.2.2.1 38 6 = nI pc := h1.2.2.1.2.2.2
  have w3 : S1.2.2.2.1 38 3 = nI bs := h1.2.2.1.2.1
  rw [w6, z_p1, w3, show nI bs + 3 = nI (bs + 3) from z_nI2 (i := bs) (k := 3), nI_clamp (show bs + 4 < 2 ^ 31 by omega), nI_clamp (show bs + 3 < 2 ^ 31 by omega)]
  obtain ⟨L, hL⟩ : ∃ X, X = (bs + 3, (-1 : Int32)) :: (bs + 4, z_mm S tp) :: S1.1 39 := ⟨_, rfl⟩
  refine ⟨h1.in39 ha, h1.in39 (by omega), rfl, ?_⟩
  rw [← hL]
  refine k _ ?_ (fun x x1 x2 => ?_) ?_ ?_ ?_
  · obtain ⟨A, E, N, V, W, c⟩ := S1
    exact ⟨h1.1.up (fun q a b => z_un a) (fun _ _ _ => rfl) (fun q j x => z_vn (fun e => x e.1)) h1.1.2.2.2.2.2.1 z_Gw.rf, h1.2.1, ⟨h1.2.2.1.1, h1.2.2.1.2.1, h1.2.2.1.2.2.1, rfl⟩, h1.2.2.2⟩
  · show z_fn 0 (z_u S1.1 39 L 39) x = _
    rw [z_uk, hL, z_fcn x2, z_fcn x1, e1]
    rfl
  · show z_fn 0 (z_u S1.1 39 L 39) (bs + 4) = _
    rw [z_uk, hL, z_fcn (by omega), z_fcs]
  · show z_fn 0 (z_u S1.1 39 L 39) (bs + 3) = _
    rw [z_uk, hL, z_fcs]
  · show z_u S1.1 39 L 40 = _
    rw [z_un (by decide), e1]
theorem g_close {bk bl : Nat} (h : z_Mc S0 (tp + 1) bs rd pc fu th (dp + 1) S) (hc : z_Cn ce S0) (hp : pc < ce) (ho : z_fn 0 (S0.1 14) pc = nI o) (oo : o = 18 ∨ o = 20 ∨ o = 23 ∨ o = 25) (hb : bs + 4 ≤ tp) (h0 : z_mm S bs = nI bk) (h1 : z_mm S (bs + 1) = nI bl) (hbl : bl ≤ bs) (ht : bs < 262144) (hi : i < 100000000) (k : ∀ S', z_Mc S0 (bs + 1) (bs - bl) rd bk fu th dp S' → z_ke bs (z_mm S) (z_mm S') → z_mm S' bs = z_mm S tp → z_ke rd (z_rq S) (z_rq S') → z_CL most f0 Q (i + 1) S') : z_CL most f0 Q i S := by
  refine z_CL.hi h hc hp ho (by omega) (by omega) hi (fun e => by omega) (m120 h hc hp ho (by omega) (by omega) ?_)
  rw [if_neg (by omega), if_neg (by omega), if_neg (by omega), if_pos oo]
  unfold p120_180
  exact ⟨h.rm, m132 (l := 27) h hb h0 h1 hbl (fun S1 a b c d => ⟨rfl, rfl, k S1 a b c d⟩) ht⟩
theorem g_fn {cnt ar mk out g : Nat} (h : z_Mc S0 tp bs rd pc fu th dp S) (hc : z_Cn ce S0) (ho : z_fn 0 (S0.1 14) pc = nI o) (oo : o = 17 ∨ o = 19) (hth : th < 1000) (hco : z_Co ce S0 S tp bs rd pc cnt ar mk out) (hg : z_fn 0 (S0.1 17) pc = nI g) (ht : tp < 262144) (hi : i < 100000000) (k : ∀ S', z_Mc S0 (tp + 1) bs (rd + (1 + cnt)) (g + 1) fu (th + 1) dp S' → z_ke tp (z_mm S) (z_mm S') → z_mm S' tp = nI rd → z_ke rd (z_rq S) (z_rq S') → z_Rc (z_mm S) (z_rq S) (z_rq S') rd pc ar out cnt bs → z_CL most f0 Q (i + 1) S') : z_CL most f0 Q i S := by
  refine z_CL.hi h hc hco.1 ho (by omega) (by omega) hi (fun e => by omega) (m120 h hc hco.1 ho (by omega) (by omega) ?_)
  rw [if_neg (by omega), if_neg (by omega), if_pos oo]
  unfold p120_126
  exact ⟨h.rm, m129 (l := 26) h hc hth hco hg ht (fun S1 a b c d e => ⟨rfl, rfl, k S1 a b c d e⟩)⟩
theorem g_fnf (h : z_Mc S0 tp bs rd pc fu 1000 dp S) (hc : z_Cn ce S0) (hp : pc < ce) (ho : z_fn 0 (S0.1 14) pc = nI o) (oo : o = 17 ∨ o = 19 ∨ o = 21) (hi : i + 1 < 100000000) (k : ∀ S', z_Mz S0 5 0 (-1) fu 1000 dp S' → Q (.inl (some (.int (fu - f0)))) S') : z_CL most f0 Q i S := by
  refine z_CL.hi h hc hp ho (by omega) (by omega) (by omega) (fun e => by omega) (m120 h hc hp ho (by omega) (by omega) ?_)
  have fin : ∀ S1, z_Mz S0 5 0 (-1) fu 1000 dp S1 → z_CL most f0 Q (i + 1) S1 := fun S1 q => z_CL.end q (by decide) hi (k S1 q)
  rcases (show (o = 17 ∨ o = 19) ∨ o = 21 by omega) with q | q
  · rw [if_neg (by omega), if_neg (by omega), if_pos q]
    unfold p120_126
    exact ⟨h.rm, m129f (l := 28) h (fun S1 a => ⟨rfl, rfl, fin S1 a⟩)⟩
  · rw [if_neg (by omega), if_neg (by omega), if_neg (by omega), if_neg (by omega), if_pos q]
    unfold p120_133
    exact ⟨h.rm, m131f (l := 28) h (fun S1 a => ⟨rfl, rfl, fin S1 a⟩)⟩
theorem g_handle {cnt ar mk out g rm : Nat} (h : z_Mc S0 tp bs rd pc fu th dp S) (hc : z_Cn ce S0) (ho : z_fn 0 (S0.1 14) pc = 21) (hth : th < 1000) (hdp : dp < 400) (hco : z_Co ce S0 S tp bs rd pc cnt ar mk out) (hg : z_fn 0 (S0.1 17) pc = nI g) (hr : z_fn 0 (S0.1 18) pc = nI rm) (hb : bs ≤ tp) (ht : tp + 4 + rm ≤ 262144) (hi : i < 100000000) (k : ∀ S', z_Mc S0 (tp + 4 + rm) tp (rd + (1 + cnt)) (pc + 1) fu (th + 1) (dp + 1) S' → z_ke tp (z_mm S) (z_mm S') → z_mm S' tp = nI g → z_mm S' (tp + 1) = nI (tp - bs) → z_mm S' (tp + 2) = nI rd → z_mm S' (tp + 3) = nI pc → z_ke rd (z_rq S) (z_rq S') → z_Rc (z_mm S) (z_rq S) (z_rq S') rd pc ar out cnt bs → z_CL most f0 Q (i + 1) S') : z_CL most f0 Q i S := by
  refine z_CL.hi (o := 21) h hc hco.1 ho (by decide) (by decide) hi (fun e => by omega) (m120 h hc hco.1 ho (by decide) (by decide) ?_)
  show p120_133 29 _ _ _ _ _ _ _
  unfold p120_133
  exact ⟨h.rm, m131 (l := 26) h hc hth hdp hco hg hr hb ht (fun S1 a b c d e f g h => ⟨rfl, rfl, k S1 a b c d e f g h⟩)⟩
theorem g_handled (h : z_Mc S0 tp bs rd pc fu th 400 S) (hc : z_Cn ce S0) (hp : pc < ce) (ho : z_fn 0 (S0.1 14) pc = 21) (hth : th < 1000) (hi : i + 1 < 100000000) (k : ∀ S', z_Mz S0 6 0 (-1) fu th 400 S' → Q (.inl (some (.int (fu - f0)))) S') : z_CL most f0 Q i S := by
  refine z_CL.hi (o := 21) h hc hp ho (by decide) (by decide) (by omega) (fun e => by omega) (m120 h hc hp ho (by decide) (by decide) ?_)
  show p120_133 29 _ _ _ _ _ _ _
  unfold p120_133
  exact ⟨h.rm, m131d (l := 28) h hth (fun S1 a => ⟨rfl, rfl, z_CL.end a (by decide) hi (k S1 a)⟩)⟩
theorem g_fin {ty : Int32} (h : z_Mc S0 (tp + 1) bs rd pc fu th dp S) (hc : z_Cn ce S0) (hp : pc < ce) (ho : z_fn 0 (S0.1 14) pc = 27) (hty : S0.2.2.2.1 13 8 = ty) (hi : i + 1 < 100000000) (k : ∀ S', z_Mz S0 2 (if ty = 0 ∨ ty = 1 then z_mm S tp else 0) (-1) fu th dp S' → Q (.inl (some (.int (fu - f0)))) S') : z_CL most f0 Q i S := by
  refine z_CL.hi (o := 27) h hc hp ho (by decide) (by decide) (by omega) (fun e => by omega) (m120 h hc hp ho (by decide) (by decide) ?_)
  show p120_187 29 _ _ _ _ _ _ _
  unfold p120_187
  exact ⟨h.rm, m133 (l := 27) h hty (fun S1 a => ⟨rfl, rfl, z_CL.end a (by decide) hi (k S1 a)⟩)⟩
/-- at the head of a call -/
theorem g_callb (h : z_Mc S0 tp bs rd pc fu th dp S) (hc : z_Cn ce S0) (hp : pc < ce) (ho : z_fn 0 (S0.1 14) pc = 15) (hf : ¬ fu - f0 = nI most) (hi : i < 100000000) (k : ∀ S1, z_Mc S0 tp bs rd pc (fu + 1) th dp S1 → S1.1 = S.1 → z_WC 29 121 0 [(0, .ref 145)] [] S1 (fun v S2 => v = .inl none ∧ z_CL most f0 Q (i + 1) S2)) : z_CL most f0 Q i S := by
  have v10 : S.2.2.2.1 38 10 = fu := h.2.2.2.2.1
  refine z_CL.hi (o := 15) h hc hp ho (by decide) (by decide) hi (fun _ => hf) (m120 h hc hp ho (by decide) (by decide) ?_)
  show p120_80 29 _ _ _ _ _ _ _
  unfold p120_80
  rw [v10]
  refine ⟨h.rm, (k _ (h.vv (V' := z_v S.2.2.2.1 38 10 (fu + 1)) (fun q j x => z_vn (fun e => x e.1)) ⟨h.2.2.1, h.2.2.2.1, rfl, h.2.2.2.2.2⟩ (Nat.le_refl _) (Nat.le_refl _)) rfl).im (fun v S2 q => ?_)⟩
  obtain ⟨rfl, q⟩ := q
  exact ⟨rfl, rfl, q⟩
theorem g_call {fr mk rm o : Nat} (h : z_Mc S0 (tp + 2) bs rd pc fu th dp S) (hc : z_Cn ce S0) (hp : pc < ce) (hop : z_fn 0 (S0.1 14) pc = 15) (hfu : ¬ fu - f0 = nI most) (hi : i < 100000000) (hb : bs ≤ tp) (hf : z_mm S tp = nI fr) (f1 : fr < rd) (hm : z_rq S fr = nI mk) (m1 : mk < ce) (ho : z_fn 0 (S0.1 14) mk = nI o) (ho2 : o = 17 ∨ o = 19) (hr : z_fn 0 (S0.1 18) mk = nI rm) (r1 : (if o = 19 then 2 else 1) ≤ rm) (hd : dp < 400) (ht : tp + 4 + rm ≤ 262144) (k : ∀ S', z_Mc S0 (tp + 4 + rm) tp rd (mk + 1) (fu + 1) th (dp + 1) S' → z_ke tp (z_mm S) (z_mm S') → z_mm S' tp = nI (pc + 1) → z_mm S' (tp + 1) = nI (tp - bs) → z_mm S' (tp + 2) = nI fr → z_mm S' (tp + 3) = -1 → z_mm S' (tp + 4) = (if o = 19 then nI fr else z_mm S (tp + 1)) → (o = 19 → z_mm S' (tp + 4 + 1) = z_mm S (tp + 1)) → z_ke rd (z_rq S) (z_rq S') → z_CL most f0 Q (i + 1) S') : z_CL most f0 Q i S := by
  have c47 := hc.1
  refine g_callb h hc hp hop hfu hi (fun S1 h1 e1 => ?_)
  have em : z_mm S1 = z_mm S := by
    funext x
    show z_fn 0 (S1.1 39) x = _
    rw [e1]
    rfl
  have er : z_rq S1 = z_rq S := by
    funext x
    show z_fn 0 (S1.1 40) x = _
    rw [e1]
    rfl
  refine m121 (l := 27) h1 hc hb (by rw [em]; exact hf) f1 (by rw [er]; exact hm) m1 ho ho2 hr r1 hd ht (by omega) (fun S2 a1 a2 a3 a4 a5 a6 a7 a8 a9 => ⟨rfl, ?_⟩)
  rw [em] at a2 a7 a8
  rw [er] at a9
  exact k S2 a1 a2 a3 a4 a5 a6 a7 a8 a9
theorem g_calld {fr mk o : Nat} (h : z_Mc S0 (tp + 2) bs rd pc fu th 400 S) (hc : z_Cn ce S0) (hp : pc < ce) (hop : z_fn 0 (S0.1 14) pc = 15) (hfu : ¬ fu - f0 = nI most) (hi : i + 1 < 100000000) (hf : z_mm S tp = nI fr) (f1 : fr < rd) (hm : z_rq S fr = nI mk) (m1 : mk < ce) (ho : z_fn 0 (S0.1 14) mk = nI o) (ho2 : o = 17 ∨ o = 19) (k : ∀ S', z_Mz S0 6 0 (-1) (fu + 1) th 400 S' → Q (.inl (some (.int (fu + 1 - f0)))) S') : z_CL most f0 Q i S := by
  refine g_callb h hc hp hop hfu (by omega) (fun S1 h1 e1 => ?_)
  refine m121d (l := 28) h1 hc ?_ f1 ?_ m1 ho ho2 (fun S2 a => ⟨rfl, z_CL.end a (by decide) hi (k S2 a)⟩)
  · show z_fn 0 (S1.1 39) tp = _
    rw [e1]
    exact hf
  · show z_fn 0 (S1.1 40) fr = _
    rw [e1]
    exact hm
theorem g_goon {ct len tf fr pm : Nat} (h : z_Mc S0 (tp + 2) bs rd pc fu th dp S) (hc : z_Cn ce S0) (hp : pc < ce) (hop : z_fn 0 (S0.1 14) pc = 15) (hfu : ¬ fu - f0 = nI most) (hi : i < 100000000) (hb : bs ≤ tp) (hf : z_mm S tp = nI ct) (h0 : z_rq S ct = nI pm) (p1 : pm < ce) (hpm : z_fn 0 (S0.1 14) pm = 16) (h1 : z_rq S (ct + 1) = 0) (h2 : z_rq S (ct + 2) = nI fr) (h4 : z_rq S (ct + 4) = nI len) (h3 : z_rq S (ct + 3) = nI tf) (hl : 2 ≤ len) (hr : ct + 5 + len ≤ rd) (ht : tp + len < 262144) (hd : dp + fr ≤ 400) (k : ∀ S', z_Mc S0 (tp + len + 1) (tp + tf) rd (pm + 1) (fu + 1) th (dp + fr) S' → z_ke tp (z_mm S) (z_mm S') → z_mm S' tp = nI (pc + 1) → z_mm S' (tp + 1) = nI (tp - bs) → (∀ x, 2 ≤ x → x < len → z_mm S' (tp + x) = z_rq S (ct + 5 + x)) → z_mm S' (tp + len) = z_mm S (tp + 1) → (∀ x, x < rd → x ≠ ct + 1 → z_rq S' x = z_rq S x) → z_rq S' (ct + 1) = 1 → z_CL most f0 Q (i + 1) S') : z_CL most f0 Q i S := by
  have c47 := hc.1
  refine g_callb h hc hp hop hfu hi (fun S1 g1 e1 => ?_)
  have em : z_mm S1 = z_mm S := by
    funext x
    show z_fn 0 (S1.1 39) x = _
    rw [e1]
    rfl
  have er : z_rq S1 = z_rq S := by
    funext x
    show z_fn 0 (S1.1 40) x = _
    rw [e1]
    rfl
  refine m121c (l := 28) g1 hc (by rw [em]; exact hf) (by omega) (by rw [er]; exact h0) p1 hpm ?_
  refine m122 (l := 26) (Q := fun o S' => o = .inl none ∧ ((.inl none : z_V) = .inl none ∧ z_CL most f0 Q (i + 1) S')) g1 hb (by rw [er]; exact h0) (by rw [er]; exact h1) (by rw [er]; exact h2) (by rw [er]; exact h4) (by rw [er]; exact h3) hl hr ht (by omega) hd (fun S2 a1 a2 a3 a4 a5 a6 a7 a8 => ⟨rfl, rfl, ?_⟩)
  rw [em] at a2 a6
  rw [er] at a5 a7
  exact k S2 a1 a2 a3 a4 a5 a6 a7 a8
theorem g_goone {ct fr pm : Nat} {st : Int32} (h : z_Mc S0 (tp + 2) bs rd pc fu th dp S) (hc : z_Cn ce S0) (hp : pc < ce) (hop : z_fn 0 (S0.1 14) pc = 15) (hfu : ¬ fu - f0 = nI most) (hi : i + 1 < 100000000) (hf : z_mm S tp = nI ct) (h0 : z_rq S ct = nI pm) (p1 : pm < ce) (hpm : z_fn 0 (S0.1 14) pm = 16) (h2 : z_rq S (ct + 2) = nI fr) (hr : ct + 5 ≤ rd) (hs : (st = 3 ∧ z_rq S (ct + 1) = 1) ∨ (st = 6 ∧ z_rq S (ct + 1) = 0 ∧ 400 < dp + fr ∧ fr ≤ 1000 ∧ dp ≤ 1000)) (k : ∀ S', z_Mz S0 st 0 (-1) (fu + 1) th dp S' → Q (.inl (some (.int (fu + 1 - f0)))) S') : z_CL most f0 Q i S := by
  refine g_callb h hc hp hop hfu (by omega) (fun S1 g1 e1 => ?_)
  have em : z_mm S1 = z_mm S := by
    funext x
    show z_fn 0 (S1.1 39) x = _
    rw [e1]
    rfl
  have er : z_rq S1 = z_rq S := by
    funext x
    show z_fn 0 (S1.1 40) x = _
    rw [e1]
    rfl
  refine m121c (l := 28) g1 hc (by rw [em]; exact hf) (by omega) (by rw [er]; exact h0) p1 hpm ?_
  rcases hs with ⟨rfl, q⟩ | ⟨rfl, q, q2, q3, q4⟩
  · exact m122t (l := 27) (Q := fun o S' => o = .inl none ∧ ((.inl none : z_V) = .inl none ∧ z_CL most f0 Q (i + 1) S')) g1 hr (by rw [er]; exact q) (by rw [er]; exact h2) (fun S2 a => ⟨rfl, rfl, z_CL.end a (by decide) hi (k S2 a)⟩)
  · exact m122d (l := 27) (Q := fun o S' => o = .inl none ∧ ((.inl none : z_V) = .inl none ∧ z_CL most f0 Q (i + 1) S')) g1 hr (by rw [er]; exact q) (by rw [er]; exact h2) q3 q2 q4 (fun S2 a => ⟨rfl, rfl, z_CL.end a (by decide) hi (k S2 a)⟩)
end ZAR
