/-! The class's machine: calls of functions; the steps. -/
section ZAP
variable {l ce : Nat} {S0 S : z_CS} {tp bs rd pc th dp : Nat} {fu v : Int32} {Q : z_V → z_CS → Prop}
/-- the function that is called, and its maker -/
theorem m121b {fr mk : Nat} (h : z_Mc S0 (tp + 2) bs rd pc fu th dp S) (hc : z_Cn ce S0) (hf : z_mm S tp = nI fr) (f1 : fr < rd) (hm : z_rq S fr = nI mk) (m1 : mk < ce) (k : if z_fn 0 (S0.1 14) mk = 16 then p121_33 l S.1 S.2.1 S.2.2.1 S.2.2.2.1 S.2.2.2.2.1 S.2.2.2.2.2 (nI fr) (nI mk) Q else p121_41 l S.1 S.2.1 S.2.2.1 S.2.2.2.1 S.2.2.2.2.1 S.2.2.2.2.2 (nI fr) (nI mk) Q) : z_WC (l + 1) 121 0 [(0, .ref 145)] [] S Q := by
  have n31 := h.n31
  have c47 := hc.1
  have v2 : S.2.2.2.1 38 2 = nI (tp + 2) := h.2.2.1.1
  have g1 : z_fn 0 (S.1 39) tp = nI fr := hf
  have g2 : z_fn 0 (S.1 40) fr = nI mk := hm
  refine t121_0 (A := S.1) (E := S.2.1) (N := S.2.2.1) (V := S.2.2.2.1) (W := S.2.2.2.2.1) (c := S.2.2.2.2.2) ?_
  unfold p121_0
  rw [v2, show nI (tp + 2) - 2 = nI tp from by rw [show (2 : Int32) = nI 2 from rfl, pk_sub (by omega), Nat.add_sub_cancel], nI_clamp (show tp < 2 ^ 31 by omega), g1, nI_clamp (show fr < 2 ^ 31 by omega), g2, nI_clamp (show mk < 2 ^ 31 by omega), h.rw (k := 14) (by decide) (by decide)]
  exact ⟨h.in39 (by omega), h.in40 f1, h.ic hc m1 (by decide) (by decide), k⟩
/-- a function is called -/
theorem m121 {fr mk rm o : Nat} (h : z_Mc S0 (tp + 2) bs rd pc fu th dp S) (hc : z_Cn ce S0) (hb : bs ≤ tp) (hf : z_mm S tp = nI fr) (f1 : fr < rd) (hm : z_rq S fr = nI mk) (m1 : mk < ce) (ho : z_fn 0 (S0.1 14) mk = nI o) (ho2 : o = 17 ∨ o = 19) (hr : z_fn 0 (S0.1 18) mk = nI rm) (r1 : (if o = 19 then 2 else 1) ≤ rm) (hd : dp < 400) (ht : tp + 4 + rm ≤ 262144) (hp : pc < 5000) (k : ∀ S', z_Mc S0 (tp + 4 + rm) tp rd (mk + 1) fu th (dp + 1) S' → z_ke tp (z_mm S) (z_mm S') → z_mm S' tp = nI (pc + 1) → z_mm S' (tp + 1) = nI (tp - bs) → z_mm S' (tp + 2) = nI fr → z_mm S' (tp + 3) = -1 → z_mm S' (tp + 4) = (if o = 19 then nI fr else z_mm S (tp + 1)) → (o = 19 → z_mm S' (tp + 4 + 1) = z_mm S (tp + 1)) → z_ke rd (z_rq S) (z_rq S') → Q (.inl none) S') : z_WC (l + 2) 121 0 [(0, .ref 145)] [] S Q := by
  have n31 := h.n31
  have c47 := hc.1
  have v12 : S.2.2.2.1 38 12 = nI dp := h.2.2.2.2.2.2
  have o16 : ¬ z_fn 0 (S0.1 14) mk = 16 := by
    rw [ho]
    rcases ho2 with rfl | rfl <;> decide
  refine m121b (l := l + 1) h hc hf f1 hm m1 ?_
  rw [if_neg o16]
  unfold p121_41
  rw [v12, if_neg (show ¬ nI dp = 400 from fun q => absurd ((nI_eq (b := 400) (by omega) (by decide)).mp q) (by omega))]
  unfold p121_60
  rw [v12, show nI dp + 1 = nI (dp + 1) from z_nI2 (i := dp) (k := 1)]
  have h1 := h.vv (V' := z_v S.2.2.2.1 38 12 (nI (dp + 1))) (dp' := dp + 1) (fun q j x => z_vn (fun e => x e.1)) ⟨h.2.2.1, h.2.2.2.1, h.2.2.2.2.1, h.2.2.2.2.2.1, rfl⟩ (Nat.le_refl _) (Nat.le_refl _)
  refine ⟨h.rm, m118 (tp := tp + 1) h1 (fun S2 h2 f1' f2' => ⟨z_mm S (tp + 1), rfl, ?_⟩)⟩
  unfold p121_74
  have w2 : S2.2.2.2.1 38 2 = nI (tp + 1) := h2.2.2.1.1
  have w6 : S2.2.2.2.1 38 6 = nI pc := h2.2.2.1.2.2.2
  rw [w2, w6, nI_pred, nI_clamp (show mk < 2 ^ 31 by omega), h2.rw (k := 18) (by decide) (by decide), hr, show nI pc + 1 = nI (pc + 1) from z_nI2 (i := pc) (k := 1)]
  have h3 := h2.vv (V' := z_v S2.2.2.2.1 38 2 (nI tp)) (tp' := tp) (fun q j x => z_vn (fun e => x e.1)) ⟨⟨rfl, h2.2.2.1.2⟩, h2.2.2.2⟩ (Nat.le_succ tp) (Nat.le_refl _)
  refine ⟨h2.ic hc m1 (by decide) (by decide), h2.rm, m111 (l := l) h3 hb ht (fun S4 h4 k4 t0 t1 t2 t3 r4 => ⟨rfl, ?_⟩)⟩
  have v3 : S4.2.2.2.1 38 3 = nI tp := h4.2.2.1.2.1
  have km : z_ke tp (z_mm S) (z_mm S4) := fun x hx => by
    refine (k4 x hx).trans ?_
    show z_fn 0 (S2.1 39) x = _
    rw [f1']
    rfl
  have kr : z_ke rd (z_rq S) (z_rq S4) := fun x hx => by
    refine (r4 x hx).trans ?_
    show z_fn 0 (S2.1 40) x = _
    rw [f1']
    rfl
  have e4 : nI tp + 4 = nI (tp + 4) := z_nI2 (i := tp) (k := 4)
  have e5 : nI (tp + 4) + 1 = nI (tp + 4 + 1) := z_nI2 (i := tp + 4) (k := 1)
  have c4 : (nI (tp + 4)).toNatClampNeg = tp + 4 := nI_clamp (by omega)
  have c5 : (nI (tp + 4 + 1)).toNatClampNeg = tp + 4 + 1 := nI_clamp (by omega)
  have em : nI mk + 1 = nI (mk + 1) := z_nI2 (i := mk) (k := 1)
  have last : ∀ L : List (Nat × Int32), (∀ x, x < tp + 4 → z_fn 0 L x = z_fn 0 (S4.1 39) x) → z_fn 0 L (tp + 4) = (if o = 19 then nI fr else z_mm S (tp + 1)) → (o = 19 → z_fn 0 L (tp + 4 + 1) = z_mm S (tp + 1)) → Q (.inl none) ((z_u S4.1 39 L), S4.2.1, S4.2.2.1, (z_v S4.2.2.2.1 38 6 (nI (mk + 1))), S4.2.2.2.2.1, S4.2.2.2.2.2) := by
    intro L l1 l2 l3
    have e : ∀ x, z_mm ((z_u S4.1 39 L), S4.2.1, S4.2.2.1, (z_v S4.2.2.2.1 38 6 (nI (mk + 1))), S4.2.2.2.2.1, S4.2.2.2.2.2) x = z_fn 0 L x := fun x => by
      show z_fn 0 (z_u S4.1 39 L 39) x = _
      rw [z_uk]
    refine k _ ?_ (fun x hx => ?_) ?_ ?_ ?_ ?_ ?_ (fun q => ?_) (fun x hx => ?_)
    · obtain ⟨A, E, N, V, W, c⟩ := S4
      exact ⟨h4.1.up (fun q x y => z_un x) (fun _ _ _ => rfl) (fun q j x => z_vn (fun e => x e.1)) h4.1.2.2.2.2.2.1 z_Gw.rf, h4.2.1, ⟨h4.2.2.1.1, h4.2.2.1.2.1, h4.2.2.1.2.2.1, rfl⟩, h4.2.2.2⟩
    · rw [e, l1 x (by omega)]
      exact km x hx
    · rw [e, l1 tp (by omega)]
      exact t0
    · rw [e, l1 (tp + 1) (by omega)]
      exact t1
    · rw [e, l1 (tp + 2) (by omega)]
      exact t2
    · rw [e, l1 (tp + 3) (by omega)]
      exact t3
    · rw [e, l2]
    · rw [e, l3 q]
    · show z_fn 0 (z_u S4.1 39 L 40) x = _
      rw [z_un (by decide)]
      exact kr x hx
  have i4 := h4.in39 (x := tp + 4) (by split at r1 <;> omega)
  unfold p121_106
  rw [nI_clamp (show mk < 2 ^ 31 by omega), h4.rw (k := 14) (by decide) (by decide), ho]
  refine ⟨h4.ic hc m1 (by decide) (by decide), ?_⟩
  rcases ho2 with rfl | rfl
  · rw [if_neg (show ¬ nI 17 = 19 by decide)]
    unfold p121_124 p121_125
    rw [if_pos rfl]
    unfold p121_146 p121_147
    rw [v3, e4, c4, if_pos rfl]
    refine ⟨i4, ?_⟩
    unfold p121_167 p121_174
    rw [em]
    refine last _ (fun x hx => by rw [z_fcn (by omega)]) ?_ (fun q => absurd q (by decide))
    rw [z_fcs, if_neg (by decide)]
  · rw [if_pos (show nI 19 = 19 by decide)]
    have i5 := h4.in39 (x := tp + 4 + 1) (by rw [if_pos rfl] at r1; omega)
    unfold p121_120 p121_125
    rw [if_neg (by decide)]
    unfold p121_142 p121_147
    rw [v3, e4, c4, if_neg (by decide)]
    refine ⟨i4, ?_⟩
    unfold p121_153
    rw [v3, e4, e5, c5]
    refine ⟨i5, ?_⟩
    unfold p121_167 p121_174
    rw [em, z_uk]
    have uu : ∀ X Y : List (Nat × Int32), z_u (z_u S4.1 39 X) 39 Y = z_u S4.1 39 Y := fun X Y => by
      funext q
      by_cases hq : q = 39
      · subst hq
        rw [z_uk, z_uk]
      · rw [z_un hq, z_un hq, z_un hq]
    rw [uu]
    refine last _ (fun x hx => by rw [z_fcn (by omega), z_fcn (by omega)]) ?_ (fun _ => by rw [z_fcs])
    rw [z_fcn (by omega), z_fcs, if_pos rfl]
theorem m121d {fr mk o : Nat} (h : z_Mc S0 (tp + 2) bs rd pc fu th 400 S) (hc : z_Cn ce S0) (hf : z_mm S tp = nI fr) (f1 : fr < rd) (hm : z_rq S fr = nI mk) (m1 : mk < ce) (ho : z_fn 0 (S0.1 14) mk = nI o) (ho2 : o = 17 ∨ o = 19) (k : ∀ S', z_Mz S0 6 0 (-1) fu th 400 S' → Q (.inl none) S') : z_WC (l + 1) 121 0 [(0, .ref 145)] [] S Q := by
  have v12 : S.2.2.2.1 38 12 = nI 400 := h.2.2.2.2.2.2
  have o16 : ¬ z_fn 0 (S0.1 14) mk = 16 := by
    rw [ho]
    rcases ho2 with rfl | rfl <;> decide
  refine m121b h hc hf f1 hm m1 ?_
  rw [if_neg o16]
  unfold p121_41
  rw [v12, if_pos (show nI 400 = 400 from rfl)]
  exact k _ (h.mz (V' := z_v S.2.2.2.1 38 7 6) (fun q j x => z_vn (fun e => x e.1)) ⟨⟨rfl, h.2.2.2.1.2⟩, h.2.2.2.2⟩)
/-- a continuation is called -/
theorem m121c {fr mk : Nat} (h : z_Mc S0 (tp + 2) bs rd pc fu th dp S) (hc : z_Cn ce S0) (hf : z_mm S tp = nI fr) (f1 : fr < rd) (hm : z_rq S fr = nI mk) (m1 : mk < ce) (ho : z_fn 0 (S0.1 14) mk = 16) (k : z_WC l 122 0 [(0, .ref 145), (1, .int (nI fr))] [] S (fun o S' => o = .inl none ∧ Q (.inl none) S')) : z_WC (l + 1) 121 0 [(0, .ref 145)] [] S Q := by
  refine m121b h hc hf f1 hm m1 ?_
  rw [if_pos ho]
  unfold p121_33
  refine ⟨h.rm, k.im (fun o S' q => ?_)⟩
  obtain ⟨rfl, q⟩ := q
  exact ⟨rfl, q⟩
end ZAP
