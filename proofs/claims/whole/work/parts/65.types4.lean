/-! The law's steps: type and effects. -/
/-- the program that was read: whether there is one, its effects and its type -/
def z_I4 (d : z_Dd) : Prop := (d.1.2.2.2.1 0 8 = 0 ∧ d.2.1.2.2 41 91 = 0) ∨ (d.1.2.2.2.1 0 8 = 1 ∧ d.2.1.2.2 41 91 = 1 ∧ d.1.2.2.2.1 13 9 = d.2.1.2.2 41 93 ∧
  ∃ (t t' n n' m m' : Nat) (l : List Nat), d.1.2.2.2.1 13 8 = nI t ∧ d.2.1.2.2 41 92 = nI t' ∧ z_Tn d.1.2.2.1 m ∧ m' ≤ 1500 ∧ l.length < 2 ^ 31 ∧ z_TC (d.1.1 9) (d.1.1 10) (d.1.1 11) (d.1.1 12) m n t l ∧ z_TR (d.2.1.1 46) (d.2.1.1 47) (d.2.1.1 48) (d.2.1.2.1 110) m' n' t' l)
theorem z_I4.sm {d d' : z_Dd} (h : z_Fx d d') (hi : z_I4 d) : z_I4 d' := by
  obtain ⟨h1, -, h3, h4, -, h6, h7, h8, -⟩ := h
  unfold z_I4
  rw [h4 0 8 (by decide), h4 13 8 (by decide), h4 13 9 (by decide), h8 41 91 (by decide), h8 41 92 (by decide), h8 41 93 (by decide), h1 9 (by decide) (by decide), h1 10 (by decide) (by decide), h1 11 (by decide) (by decide), h1 12 (by decide) (by decide), h6 46 (by decide) (by decide), h6 47 (by decide) (by decide), h6 48 (by decide) (by decide), h3, h7]
  exact hi
section ZT4
variable {L : Nat} {xs : Nat → Int32} {i : Nat}
theorem z_ty3 {t v : Nat} (ht : t < 2 ^ 31) (hv : (t < 3 ∧ v = t) ∨ (3 ≤ t ∧ 3 ≤ v)) : (if (3 : Int32) ≤ nI t then (3 : Int32) else nI t) = nI (z_ty v) := by
  rcases hv with ⟨h1, rfl⟩ | ⟨h1, h2⟩
  · rw [if_neg (show ¬ (3 : Int32) ≤ nI v from nI_ge (b := 3) h1 (by omega))]
    unfold z_ty
    rw [if_pos h1]
  · rw [if_pos (show (3 : Int32) ≤ nI t from nI_le (a := 3) h1 ht)]
    unfold z_ty
    rw [if_neg (by omega)]
    rfl
set_option maxRecDepth 100000 in
theorem st_type (hi : i + 6 ≤ L) (hL : L ≤ 3072) (hop : xs i &&& 15 = 4) {d : z_Dd} (hRm : z_Rm (z_H d)) (h4 : z_I4 d) : z_St L xs i d (z_tell d) := by
  obtain ⟨⟨A, E, N, V, W⟩, ⟨B, M, U⟩, g, c⟩ := d
  have hx1 := z_ik hi hL 1 (by omega) (x := 1) rfl
  have hx2 := z_ik hi hL 2 (by omega) (x := 2) rfl
  have hx3 := z_ik hi hL 3 (by omega) (x := 3) rfl
  have hx4 := z_ik hi hL 4 (by omega) (x := 4) rfl
  have hx5 := z_ik hi hL 5 (by omega) (x := 5) rfl
  have hRC : z_Rm (hC A E N V W ++ (hR B M U ++ g), c) := hRm
  have hRR : z_Rm (hC A E N V W ++ (hR B M (z_v U 41 0 0) ++ g), c) := hRm
  have m20 : z_pg.2.1 20 = 3 := rfl
  have m200 : z_pg.2.1 200 = 3 := rfl
  intro fv o T' kk
  refine b0_33 (z_i0 hi hL) ?_
  rw [z_xi (xs := xs) hi hL, hop]
  have go : ∀ v : Int32, (∀ f w, 3 ≤ f → 100 ≤ w → z_Ln L xs fv f w 20 0 [(0, .ref 107), (1, .int (xs (nI i + 1).toNatClampNeg))] [] (hC A E N V W ++ (hR B M U ++ g), c) (.inl (some (.int v))) (hC A E N V W ++ (hR B M U ++ g), c)) → (∀ f w, 3 ≤ f → 100 ≤ w → z_Ln L xs fv f w 200 0 [(0, .ref 148), (1, .int (xs (nI i + 1).toNatClampNeg))] [] (hC A E N V W ++ (hR B M U ++ g), c) (.inl (some (.int v))) (hC A E N V W ++ (hR B M (z_v U 41 0 0) ++ g), c)) → z_Ln L xs fv 2048 84000 0 40 (z_LV i) [.int 4] (hC A E N V W ++ (hR B M U ++ g), c) o T' := fun v q1 q2 => b0_sw4 (law_4 (v := v) (c1 := c) (c2 := c) (z_i0 hi hL) hx1 hx2 hx3 hx4 hx5 hRm hRm (by omega) (by omega) (q1 _ _ (by omega) (by omega)) (q2 _ _ (by omega) (by omega)) kk)
  generalize xs (nI i + 1).toNatClampNeg = x at go
  rcases h4 with ⟨p1, p2⟩ | ⟨p1, p2, p3, t, t', n, n', m, m', l, q1, q2, q3, q4, q5, q6, q7⟩
  · have p1 : V 0 8 = 0 := p1
    have p2 : U 41 91 = 0 := p2
    refine go (-1) (fun f w hf hw => s_ty_no hRC hf hw (fun f w _ _ => s_pn0 p1)) (fun f w hf hw => ?_)
    exact s_tyR (x := -1) hRR hf hw (fun f w => s_ta_0 (U := z_v U 41 0 0) p2)
  · have p1 : V 0 8 = 1 := p1
    have p2 : U 41 91 = 1 := p2
    have q1 : V 13 8 = nI t := q1
    have q2 : U 41 92 = nI t' := q2
    have p0 : ¬ V 0 8 = 0 := by rw [p1]; decide
    rcases z_nok_or l q5 x with hn | ⟨j, v, rfl, hj, hv⟩
    · refine go (-1) (fun f w hf hw => s_ty_no hRC hf hw (fun f w hf hw => s_pn1 hRC hf hw p0 ?_)) (fun f w hf hw => ?_)
      · rw [q1]
        exact s_node_no q3 q6 hn
      · exact s_tyR (x := -1) hRR hf hw (fun f w => s_ta_no (U := z_v U 41 0 0) p2 q2 q4 q7 q5 hn)
    · obtain ⟨u, nu, lu, a1, a2, a3⟩ := s_node_ok (L := L) (xs := xs) (c := c) (E := E) (V := V) (W := W) (g := hR B M U ++ g) q3 q6 q5 hj
      obtain ⟨u', nu', lu', b1, b2, b3⟩ := s_ta_ok (L := L) (xs := xs) (c := c) (A := A) (E := E) (N := N) (V := V) (W := W) (g := g) (U := z_v U 41 0 0) p2 q2 q4 q7 q5 hj
      rw [hv] at a2 b2
      have hu := (z_TC_hd a1).2
      have hu' := (z_TR_hd b1).2
      have hN9 := q3.1
      have hcl : (u < 3 ∧ v = u) ∨ (3 ≤ u ∧ 3 ≤ v) := by
        rcases z_TC_lab a1 a2 with q | ⟨y1, y2, -⟩
        · exact Or.inl q
        · exact Or.inr ⟨y1, y2⟩
      have hrl : (u' < 3 ∧ v = u') ∨ (3 ≤ u' ∧ 3 ≤ v) := by
        rcases z_TR_lab b1 b2 with q | ⟨y1, y2, -⟩
        · exact Or.inl q
        · exact Or.inr ⟨y1, y2⟩
      refine go (nI (z_ty v)) (fun f w hf hw => s_ty_ok (t := u) (by have := hN9.1; have := hN9.2; omega) hcl hRC hf hw (fun f w hf hw => s_pn1 hRC hf hw p0 ?_)) (fun f w hf hw => ?_)
      · rw [q1]
        exact a3 fv _ _
      · rw [← z_ty3 (t := u') (by omega) hrl]
        exact s_tyR (x := nI u') hRR hf hw (fun f w => b3 fv f w)
set_option maxRecDepth 100000 in
theorem st_eff (hi : i + 6 ≤ L) (hL : L ≤ 3072) (hop : xs i &&& 15 = 5) {d : z_Dd} (hRm : z_Rm (z_H d)) (h4 : z_I4 d) : z_St L xs i d (z_tell d) := by
  obtain ⟨⟨A, E, N, V, W⟩, ⟨B, M, U⟩, g, c⟩ := d
  have hx1 := z_ik hi hL 1 (by omega) (x := 1) rfl
  have hx2 := z_ik hi hL 2 (by omega) (x := 2) rfl
  have hx3 := z_ik hi hL 3 (by omega) (x := 3) rfl
  have hx4 := z_ik hi hL 4 (by omega) (x := 4) rfl
  have hx5 := z_ik hi hL 5 (by omega) (x := 5) rfl
  have hRC : z_Rm (hC A E N V W ++ (hR B M U ++ g), c) := hRm
  have hRR : z_Rm (hC A E N V W ++ (hR B M (z_v U 41 0 0) ++ g), c) := hRm
  have m24 : z_pg.2.1 24 = 3 := rfl
  have m202 : z_pg.2.1 202 = 3 := rfl
  intro fv o T' kk
  refine b0_33 (z_i0 hi hL) ?_
  rw [z_xi (xs := xs) hi hL, hop]
  have go : ∀ v : Int32, (∀ f w, 3 ≤ f → 100 ≤ w → z_Ln L xs fv f w 24 0 [(0, .ref 107), (1, .int (xs (nI i + 1).toNatClampNeg))] [] (hC A E N V W ++ (hR B M U ++ g), c) (.inl (some (.int v))) (hC A E N V W ++ (hR B M U ++ g), c)) → (∀ f w, 3 ≤ f → 100 ≤ w → z_Ln L xs fv f w 202 0 [(0, .ref 148), (1, .int (xs (nI i + 1).toNatClampNeg))] [] (hC A E N V W ++ (hR B M U ++ g), c) (.inl (some (.int v))) (hC A E N V W ++ (hR B M (z_v U 41 0 0) ++ g), c)) → z_Ln L xs fv 2048 84000 0 40 (z_LV i) [.int 5] (hC A E N V W ++ (hR B M U ++ g), c) o T' := fun v q1 q2 => b0_sw5 (law_5 (v := v) (c1 := c) (c2 := c) (z_i0 hi hL) hx1 hx2 hx3 hx4 hx5 hRm hRm (by omega) (by omega) (q1 _ _ (by omega) (by omega)) (q2 _ _ (by omega) (by omega)) kk)
  generalize xs (nI i + 1).toNatClampNeg = x at go
  rcases h4 with ⟨p1, p2⟩ | ⟨p1, p2, p3, t, t', n, n', m, m', l, q1, q2, q3, q4, q5, q6, q7⟩
  · have p1 : V 0 8 = 0 := p1
    have p2 : U 41 91 = 0 := p2
    by_cases hk : x = -1
    · subst hk
      refine go (-1) (fun f w hf hw => ?_) (fun f w hf hw => ?_)
      · have := s_ef_m (L := L) (xs := xs) (c := c) (A := A) (E := E) (N := N) (V := V) (W := W) (g := hR B M U ++ g) (fv := fv) (f := f) (w := w) (Or.inl p1)
        rw [if_pos p1] at this
        exact this
      · have := s_efR_m (L := L) (xs := xs) (c := c) (A := A) (E := E) (N := N) (V := V) (W := W) (B := B) (M := M) (U := U) (g := g) (fv := fv) (f := f) (w := w) (Or.inl p2)
        rw [if_pos p2] at this
        exact this
    · refine go (-1) (fun f w hf hw => s_ef_no hk hRC hf hw (fun f w _ _ => s_pn0 p1)) (fun f w hf hw => ?_)
      exact s_efR (x := -1) hk hRR hf hw (Or.inl (by decide)) (fun f w => s_ta_0 (U := z_v U 41 0 0) p2)
  · have p1 : V 0 8 = 1 := p1
    have p2 : U 41 91 = 1 := p2
    have p3 : V 13 9 = U 41 93 := p3
    have q1 : V 13 8 = nI t := q1
    have q2 : U 41 92 = nI t' := q2
    have p0 : ¬ V 0 8 = 0 := by rw [p1]; decide
    have p0' : ¬ U 41 91 = 0 := by rw [p2]; decide
    by_cases hk : x = -1
    · subst hk
      refine go (V 13 9) (fun f w hf hw => ?_) (fun f w hf hw => ?_)
      · have := s_ef_m (L := L) (xs := xs) (c := c) (A := A) (E := E) (N := N) (V := V) (W := W) (g := hR B M U ++ g) (fv := fv) (f := f) (w := w) (Or.inr p1)
        rw [if_neg p0] at this
        exact this
      · have := s_efR_m (L := L) (xs := xs) (c := c) (A := A) (E := E) (N := N) (V := V) (W := W) (B := B) (M := M) (U := U) (g := g) (fv := fv) (f := f) (w := w) (Or.inr p2)
        rw [if_neg p0'] at this
        rw [p3]
        exact this
    · rcases z_nok_or l q5 x with hn | ⟨j, v, rfl, hj, hv⟩
      · refine go (-1) (fun f w hf hw => s_ef_no hk hRC hf hw (fun f w hf hw => s_pn1 hRC hf hw p0 ?_)) (fun f w hf hw => ?_)
        · rw [q1]
          exact s_node_no q3 q6 hn
        · exact s_efR (x := -1) hk hRR hf hw (Or.inl (by decide)) (fun f w => s_ta_no (U := z_v U 41 0 0) p2 q2 q4 q7 q5 hn)
      · obtain ⟨u, nu, lu, a1, a2, a3⟩ := s_node_ok (L := L) (xs := xs) (c := c) (E := E) (V := V) (W := W) (g := hR B M U ++ g) q3 q6 q5 hj
        obtain ⟨u', nu', lu', b1, b2, b3⟩ := s_ta_ok (L := L) (xs := xs) (c := c) (A := A) (E := E) (N := N) (V := V) (W := W) (g := g) (U := z_v U 41 0 0) p2 q2 q4 q7 q5 hj
        rw [hv] at a2 b2
        have hu := (z_TC_hd a1).2
        have hu' := (z_TR_hd b1).2
        obtain ⟨-, -, ⟨n11, n11'⟩, -⟩ := id q3
        have n11 : m ≤ N 11 := n11
        have n11' : N 11 < 2 ^ 31 := n11'
        refine go (z_ef v) (fun f w hf hw => s_ef_ok (t := u) hk ⟨by omega, n11'⟩ (z_TC_lab a1 a2) hRC hf hw (fun f w hf hw => s_pn1 hRC hf hw p0 ?_)) (fun f w hf hw => ?_)
        · rw [q1]
          exact a3 fv _ _
        · have key := s_efR (L := L) (xs := xs) (x := nI u') hk hRR hf hw (Or.inr (z_inI (by omega) (by decide))) (fun f w => b3 fv f w)
          have e : (if (3 : Int32) ≤ nI u' then z_fn 0 (B 48) (nI u').toNatClampNeg else -1) = z_ef v := by
            rcases z_TR_lab b1 b2 with ⟨y1, rfl⟩ | ⟨y1, y2, y3⟩
            · rw [if_neg (show ¬ (3 : Int32) ≤ nI v from nI_ge (b := 3) y1 (by omega))]
              unfold z_ef
              rw [if_pos y1]
            · rw [if_pos (show (3 : Int32) ≤ nI u' from nI_le (a := 3) y1 (by omega)), nI_clamp (by omega), y3]
              unfold z_ef
              rw [if_neg (by omega)]
          rw [e] at key
          exact key
end ZT4
