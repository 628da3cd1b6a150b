/-! The step of run; the whole law. -/
theorem y_Φ.out {b : Nat → Nat} {n : Nat} {τ : z_TT} {A1 B1 A2 : Nat → List (Nat × Int32)} {S0 S : z_CS} {R0 R : z_RS} {ce : Nat} {tt0 : z_F} {most : Nat} {f0 : Int32} {o : z_V} {v : Option Value} (h : y_Φ b n τ A1 B1 A2 S0 R0 ce tt0 most f0 o S v R) : ∃ r : Int32, o = .inl (some (.int r)) ∧ v = some (.int r) ∧ z_Mf0 S0 S ∧ y_Rf R0 R ∧ (S.2.2.2.1 38 7 = R.2.2 41 94 ∧ S.2.2.2.1 38 8 = (if R.2.2 41 94 = 2 ∧ ¬ 2 ≤ R0.2.2 41 92 then R.2.2 41 104 else 0) ∧ S.2.2.2.1 38 10 = R.2.2 41 98 ∧ S.2.2.2.1 38 11 = R.2.2 41 99 ∧ S.2.2.2.1 38 12 = R.2.2 41 100 ∧ S.2.2.2.1 38 9 = (if R.2.2 41 94 = 4 then R.2.2 41 101 else -1)) ∧ (S.2.2.2.1 38 7 = 1 → ∃ Ψ, y_V b n τ A1 B1 A2 S0 R0 ce tt0 most f0 Ψ S R) := by
  obtain ⟨r, h1, h2, h | ⟨Ψ, h⟩⟩ := h
  · obtain ⟨st, va, un, fu, th, dp, ⟨z1, ⟨z2, z3, z4⟩, z5, z6, z7⟩, hR, n1, ⟨u94, u98, u99, u100⟩, hva, hun⟩ := h
    refine ⟨r, h1, h2, z1, hR, ⟨?_, ?_, ?_, ?_, ?_, ?_⟩, fun q => absurd (z2.symm.trans q) n1⟩
    · rw [z2, u94]
    · rw [z3, u94, hva]
    · rw [z5, u98]
    · rw [z6, u99]
    · rw [z7, u100]
    · rw [z4, u94, hun]
  · have h' := h
    obtain ⟨tp, bs, rd, pc, fu, th, dp, X, cs0, al, φ, ψ, F, fg, fc, Y, pd, cp, aw, ph, fl, k, p, t, v', D, en, tl, cv, ⟨c1, c2, -⟩, -⟩ := h
    obtain ⟨z1, -, -, ⟨v7, v8, v9⟩, v10, v11, v12⟩ := c1
    obtain ⟨u96, u97, u98, u99, u100, u114, u94⟩ := c2.2.1
    refine ⟨r, h1, h2, z1, c2.1, ⟨?_, ?_, ?_, ?_, ?_, ?_⟩, fun _ => ⟨Ψ, h'⟩⟩
    · rw [v7, u94]
    · rw [v8, u94, if_neg (fun q => absurd q.1 (by decide))]
    · rw [v10, u98]
    · rw [v11, u99]
    · rw [v12, u100]
    · rw [v9, u94, if_neg (by decide)]
section YRU
variable {R : z_RS} {P : Option Value → z_RS → Prop} {l most : Nat} {x : Int32}
theorem r204a (h94 : R.2.2 41 94 = 0) (k : P (some (.int 0)) (R.1, R.2.1, z_v R.2.2 41 0 1)) : z_WR (l + 1) 204 0 [(0, .ref 148), (1, .int x)] [] R P := by
  obtain ⟨B, M, U⟩ := R
  have h94 : U 41 94 = 0 := h94
  refine t204_0 ?_
  unfold p204_0
  rw [if_pos h94]
  unfold p204_8 p204_28
  rw [if_neg (by decide)]
  unfold p204_38
  exact k
theorem r204b (h94 : ¬ R.2.2 41 94 = 0) (hx : x < 0 ∨ ¬ x ≤ 2000) (k : P (some (.int 0)) (R.1, R.2.1, z_v R.2.2 41 0 2)) : z_WR (l + 1) 204 0 [(0, .ref 148), (1, .int x)] [] R P := by
  obtain ⟨B, M, U⟩ := R
  have h94 : ¬ U 41 94 = 0 := h94
  have q : p204_23 l B M U x P := by
    unfold p204_23 p204_28
    rw [if_neg (by decide)]
    unfold p204_38
    exact k
  refine t204_0 ?_
  unfold p204_0
  rw [if_neg h94]
  unfold p204_12
  by_cases hn : x < 0
  · rw [if_pos hn]
    exact q
  · rw [if_neg hn]
    unfold p204_16
    rw [if_neg (hx.resolve_left hn)]
    exact q
theorem r204c (h94 : ¬ R.2.2 41 94 = 0) (hm : most ≤ 2000) (k : y_RL (nI most) (R.2.2 41 98) 1 (R.1, R.2.1, z_v R.2.2 41 0 0) P) : z_WR 12 204 0 [(0, .ref 148), (1, .int (nI most))] [] R P := by
  obtain ⟨B, M, U⟩ := R
  have h94 : ¬ U 41 94 = 0 := h94
  refine t204_0 (l := 11) ?_
  unfold p204_0
  rw [if_neg h94]
  unfold p204_12
  rw [if_neg (nI_pos (by omega))]
  unfold p204_16
  rw [if_pos (show nI most ≤ 2000 from nI_le (b := 2000) hm (by decide))]
  unfold p204_27 p204_28
  rw [if_pos (by decide)]
  unfold p204_40
  exact k
end YRU
set_option maxRecDepth 100000 in
set_option maxHeartbeats 1000000 in
theorem y_run (L : Nat) (xs : Nat → Int32) (i : Nat) (d : z_Dd) (hi : i + 6 ≤ L) (hL : L ≤ 3072) (hop : xs i &&& 15 = 7) (h : z_Inv y_I6 i d) : ∃ d', z_Inv y_I6 (i + 6) d' ∧ z_St L xs i d d' := by
  have hrk := h.1.rk (z_hl hi hL)
  obtain ⟨⟨A, E, N, V, W⟩, ⟨B, M, U⟩, g, c⟩ := d
  have hrk : z_Rk N c := hrk
  have h' := h
  obtain ⟨h1, h5, h6⟩ := h
  have hW : W < 107 := h1.2.2.2.2.2.2.1
  obtain ⟨hG, hGl⟩ := h1.2.2.2.2.2.1
  have hG : z_Gn g := hG
  have hGl : 127 + g.length ≤ c.1 := hGl
  have hr := h1.2.2.2.2.2.2.2.2.2
  have hr : 64 * c.1 ≤ 8128 + 64 * i + z_Pt N ∧ c.2 ≤ 3005623 + 6 * i + 2 * z_Pt N := hr
  have hlv : z_Lv 400 2048 84000 := ⟨by decide, by decide⟩
  have hd1 := hlv.le (show 399 + 1 ≤ 400 by decide)
  have pb := z_Pt_b hrk.1
  have hr2 : c.1 + 1 ≤ 601024 ∧ c.2 + 6 ≤ 7293034 := by omega
  have hrm1 : z_Rm ([], ((c.1 + 1, c.2 + 6) : Nat × Nat)) := hr2
  have hx1 := z_ik hi hL 1 (by omega) (x := 1) rfl
  obtain ⟨x, hx⟩ : ∃ x, xs (nI i + 1).toNatClampNeg = x := ⟨_, rfl⟩
  have h8 := h1.2.2.2.2.1
  obtain ⟨i7, i8, i10, i11, i12, i9⟩ := h8
  have i7 : V 38 7 = U 41 94 := i7
  have i10 : V 38 10 = U 41 98 := i10
  have k113 := ((hd1.dn 112 (by decide)).le (show 398 + 1 ≤ 399 by decide)).dn 113 (by decide)
  have k112 := hd1.dn 112 (by decide)
  have k204 := hd1.dn 204 (by decide)
  by_cases h7 : V 38 7 = 0
  · refine ⟨_, y_thrown (t := 1) (ci := 11) h', fun fv o T' kk => ?_⟩
    refine b0_33 (z_i0 hi hL) ?_
    rw [z_xi (xs := xs) hi hL, hop]
    have c113 : z_Ln L xs fv (2048 - 1 - 1) (84000 - (19 + z_pg.2.1 112) - (19 + z_pg.2.1 113)) 113 0 [(0, .ref 107), (1, .int x)] [] (hC A E N V W ++ (hR B M U ++ g), c) (.inr 11) (hC A E N V W ++ (hR B M U ++ g), c.1 + 1, c.2 + 6) := e113_no (k113.le (by decide)) hr2 h7
    have c112 := e112_no (k112.le (by decide)) hrk.rm.1 (z_cdH hW hG) c113
    obtain ⟨v, R', hrr, rfl, rfl⟩ := r204a (l := 5) (x := x) (R := (B, M, U)) (P := fun v R' => v = some (.int 0) ∧ R' = (B, M, z_v U 41 0 1)) (i7.symm.trans h7) ⟨rfl, rfl⟩
    have c204 := hrr L xs fv (2048 - 1) (84000 - (19 + z_pg.2.1 204)) (c.1 + 1, c.2 + 6) A E N V W (g ++ [.inr (11, [])]) hrm1 (k204.le (by decide))
    exact b0_sw7 (law_7 (v := 1) (b := 0) hlv hx1 hx hrk.rm.1 hrm1 c112 c204 (show z_v U 41 0 1 41 0 = 1 from z_vk) (Or.inl (by decide)) kk)
  · have u94 : ¬ U 41 94 = 0 := fun q => h7 (i7.trans q)
    by_cases hxx : x < 0 ∨ ¬ x ≤ 2000
    · refine ⟨_, y_thrown (t := 2) (ci := 10) h', fun fv o T' kk => ?_⟩
      refine b0_33 (z_i0 hi hL) ?_
      rw [z_xi (xs := xs) hi hL, hop]
      have c113 : z_Ln L xs fv (2048 - 1 - 1) (84000 - (19 + z_pg.2.1 112) - (19 + z_pg.2.1 113)) 113 0 [(0, .ref 107), (1, .int x)] [] (hC A E N V W ++ (hR B M U ++ g), c) (.inr 10) (hC A E N V W ++ (hR B M U ++ g), c.1 + 1, c.2 + 6) := e113_ill (k113.le (by decide)) hr2 h7 hxx
      have c112 := e112_ill (k112.le (by decide)) hrk.rm.1 (z_cdH hW hG) c113
      obtain ⟨v, R', hrr, rfl, rfl⟩ := r204b (l := 5) (x := x) (R := (B, M, U)) (P := fun v R' => v = some (.int 0) ∧ R' = (B, M, z_v U 41 0 2)) u94 hxx ⟨rfl, rfl⟩
      have c204 := hrr L xs fv (2048 - 1) (84000 - (19 + z_pg.2.1 204)) (c.1 + 1, c.2 + 6) A E N V W (g ++ [.inr (10, [])]) hrm1 (k204.le (by decide))
      exact b0_sw7 (law_7 (v := 2) (b := 0) hlv hx1 hx hrk.rm.1 hrm1 c112 c204 (show z_v U 41 0 2 41 0 = 2 from z_vk) (Or.inl (by decide)) kk)
    · have x0 : ¬ x < 0 := fun q => hxx (Or.inl q)
      have x2 : x ≤ 2000 := Classical.byContradiction (fun q => hxx (Or.inr q))
      obtain ⟨most, hmo, rfl⟩ := nI_of2 (n := 2000) (M := 2000) (by decide) x0 x2
      -- what the two runs come to, for any rows of longs
      have both : ∀ Mx : Nat → List (Nat × Int64), ∃ (r : Int32) (S' : z_CS) (R' : z_RS), z_Cr 31 114 0 [(0, .ref 145), (1, .int (nI most))] [] (A, E, N, V, W, c) (.inl (some (.int r))) S' ∧ z_Rr 12 204 0 [(0, .ref 148), (1, .int (nI most))] [] (B, Mx, U) (some (.int r)) R' ∧ z_Mf0 (A, E, N, V, W, c) S' ∧ y_Rf (B, Mx, z_v U 41 0 0) R' ∧ z_I8 ((S'.1, S'.2.1, S'.2.2.1, S'.2.2.2.1, S'.2.2.2.2.1), (R'.1, R'.2.1, R'.2.2), g, S'.2.2.2.2.2) ∧ y_I6 ((S'.1, S'.2.1, S'.2.2.1, S'.2.2.2.1, S'.2.2.2.2.1), (R'.1, R'.2.1, R'.2.2), g, S'.2.2.2.2.2) := by
        intro Mx
        have hu : ∀ a k, ¬ (a = 41 ∧ k = 0) → z_v U 41 0 0 a k = U a k := fun a k hk => z_vn hk
        by_cases h71 : V 38 7 = 1
        · obtain ⟨b, n, τ, A1, B1, A2, ce, tt0, hp, S0, R0, most0, f00, Ψ, S, R, hwv, hsm, hsr⟩ := h6 h71
          have hsr0 : y_SR R (B, Mx, z_v U 41 0 0) := ⟨hsr.1, fun k hk => (hu 41 k (by omega)).trans (hsr.2 k hk)⟩
          have hp1 : y_Pg b n A1 B1 A2 (A, E, N, V, W, c) (B, Mx, z_v U 41 0 0) ce tt0 most := hp.re (fun _ _ _ => rfl) (fun _ _ _ => rfl) rfl (fun _ _ => rfl) (hu 41 92 (by decide)) hmo
          have hsm : y_SM S (A, E, N, V, W, c) := hsm
          have e98 : z_v U 41 0 0 41 98 = U 41 98 := hu 41 98 (by decide)
          have hj : y_J most (U 41 98) (y_Φ b n τ A1 B1 A2 (A, E, N, V, W, c) (B, Mx, z_v U 41 0 0) ce tt0 most (U 41 98)) 0 (A, E, N, V, W, c) (B, Mx, z_v U 41 0 0) := by
            obtain ⟨mW, mV⟩ := y_main (τ := τ) (f0 := U 41 98) hp1 16000000
            rcases hwv with ⟨f, hw⟩ | hv
            · have q := hw.re (S' := (A, E, N, V, W, c)) (R' := (B, Mx, z_v U 41 0 0)) (most' := most) hsm hsr0 hrk hW hmo
              rw [show ((B, Mx, z_v U 41 0 0) : z_RS).2.2 41 98 = U 41 98 from e98] at q
              exact mW f 0 _ _ (by decide) q
            · have q := hv.re (S' := (A, E, N, V, W, c)) (R' := (B, Mx, z_v U 41 0 0)) (most' := most) hsm hsr0 hrk hW hmo
              rw [show ((B, Mx, z_v U 41 0 0) : z_RS).2.2 41 98 = U 41 98 from e98] at q
              exact mV 0 _ _ (by decide) q
          have hcl : z_WC 31 114 0 [(0, .ref 145), (1, .int (nI most))] [] (A, E, N, V, W, c) (fun o S' => y_RL (nI most) (U 41 98) 1 (B, Mx, z_v U 41 0 0) (fun v R' => y_Φ b n τ A1 B1 A2 (A, E, N, V, W, c) (B, Mx, z_v U 41 0 0) ce tt0 most (U 41 98) o S' v R')) := by
            refine t114_0 (l := 30) ?_
            unfold p114_0
            rw [i10]
            exact hj
          obtain ⟨o, S', hcr, hrl⟩ := hcl
          obtain ⟨v, R', hrr, hΦ⟩ := r204c (R := (B, Mx, U)) u94 hmo hrl
          obtain ⟨r, e1, e2, mf, rf, i8', hy⟩ := hΦ.out
          subst e1
          subst e2
          refine ⟨r, S', R', hcr, hrr, mf, rf, ?_, fun h71' => ?_⟩
          · obtain ⟨k1, k2, k3, k4, k5, k6⟩ := i8'
            refine ⟨k1, ?_, k3, k4, k5, k6⟩
            have e92 : R'.2.2 41 92 = ((B, Mx, z_v U 41 0 0) : z_RS).2.2 41 92 := rf.2.2 41 92 (by decide)
            show S'.2.2.2.1 38 8 = (if R'.2.2 41 94 = 2 ∧ ¬ 2 ≤ R'.2.2 41 92 then R'.2.2 41 104 else 0)
            rw [e92]
            exact k2
          · obtain ⟨Ψ', hv'⟩ := hy h71'
            exact ⟨b, n, τ, A1, B1, A2, ce, tt0, hp1.re (fun k k1 k2 => mf.1 k (by omega) (by omega)) (fun k k1 k2 => mf.2.2.1 k (by omega) (by omega)) (mf.2.2.2.1 13 8 (by decide)) (fun k hk => rf.1 k (by omega)) (rf.2.2 41 92 (by decide)) (by decide), (A, E, N, V, W, c), (B, Mx, z_v U 41 0 0), most, U 41 98, Ψ', S', R', Or.inr hv', ⟨⟨rfl, rfl⟩, ⟨rfl, rfl⟩, fun _ => rfl⟩, fun _ _ => rfl, fun _ _ => rfl⟩
        · have hcl : z_WC 31 114 0 [(0, .ref 145), (1, .int (nI most))] [] (A, E, N, V, W, c) (fun o S' => o = .inl (some (.int (V 38 10 - V 38 10))) ∧ S' = (A, E, N, V, W, c)) := by
            refine t114_0 (l := 30) ?_
            unfold p114_0
            refine t114_7 ?_
            unfold p114_7
            rw [if_neg (by decide)]
            unfold p114_13
            rw [if_neg h71]
            unfold p114_75
            exact ⟨rfl, rfl⟩
          obtain ⟨o, S', hcr, rfl, rfl⟩ := hcl
          obtain ⟨v, R', hrr, rfl, rfl⟩ := r204c (R := (B, Mx, U)) (P := fun v R' => v = some (.int (U 41 98 - U 41 98)) ∧ R' = (B, Mx, z_v U 41 0 0)) u94 hmo (y_end (R := (B, Mx, z_v U 41 0 0)) (by
            show ¬ z_v U 41 0 0 41 94 = 1
            rw [hu 41 94 (by decide), ← i7]
            exact h71) ⟨by rw [show ((B, Mx, z_v U 41 0 0) : z_RS).2.2 41 98 = U 41 98 from hu 41 98 (by decide)], rfl⟩)
          refine ⟨V 38 10 - V 38 10, (A, E, N, V, W, c), (B, Mx, z_v U 41 0 0), hcr, by rw [i10]; exact hrr, ⟨fun _ _ _ => rfl, rfl, fun _ _ _ => rfl, fun _ _ _ => rfl, ⟨rfl, hW⟩, hrk, z_Gw.rf⟩, ⟨fun _ _ => rfl, rfl, fun _ _ _ => rfl⟩, ?_, fun q => absurd q h71⟩
          show V 38 7 = z_v U 41 0 0 41 94 ∧ V 38 8 = (if z_v U 41 0 0 41 94 = 2 ∧ ¬ 2 ≤ z_v U 41 0 0 41 92 then z_v U 41 0 0 41 104 else 0) ∧ V 38 10 = z_v U 41 0 0 41 98 ∧ V 38 11 = z_v U 41 0 0 41 99 ∧ V 38 12 = z_v U 41 0 0 41 100 ∧ V 38 9 = (if z_v U 41 0 0 41 94 = 4 then z_v U 41 0 0 41 101 else -1)
          rw [hu 41 94 (by decide), hu 41 92 (by decide), hu 41 104 (by decide), hu 41 98 (by decide), hu 41 99 (by decide), hu 41 100 (by decide), hu 41 101 (by decide)]
          exact ⟨i7, i8, i10, i11, i12, i9⟩
      obtain ⟨r0, S0', R0', hcr0, -⟩ := both M
      obtain ⟨M1, hM1⟩ : ∃ X, X = z_u M 126 ((0, r0.toInt64) :: M 126) := ⟨_, rfl⟩
      obtain ⟨r, S', R', hcr, hrr, mf, rf, hi8, hi6⟩ := both M1
      have c114 : ∀ fv f w, z_Lv 31 f w → z_Ln L xs fv f w 114 0 [(0, .ref 145), (1, .int (nI most))] [] (hC A E N V W ++ (hR B M U ++ g), c) (.inl (some (.int r))) (hC S'.1 S'.2.1 S'.2.2.1 S'.2.2.2.1 S'.2.2.2.2.1 ++ (hR B M U ++ g), S'.2.2.2.2.2) := fun fv f w hl => hcr L xs fv f w (hR B M U ++ g) (z_GokR hG) hl
      have er : r = r0 := by
        have q := z_Ln.det (hcr0 L xs .null 2048 84000 (hR B M U ++ g) (z_GokR hG) (hlv.le (by decide))) (c114 .null 2048 84000 (hlv.le (by decide))) (y_len hGl)
        exact Value.int.inj (Option.some.inj (Sum.inl.inj q))
      have mono : c.1 ≤ S'.2.2.2.2.2.1 := by
        obtain ⟨q, -, -⟩ := c114 .null 2048 84000 (hlv.le (by decide)) (Or.inl rfl)
        exact q
      have f6 : z_Rk S'.2.2.1 S'.2.2.2.2.2 := mf.2.2.2.2.2.1
      have f7 : z_Gw N S'.2.2.1 c S'.2.2.2.2.2 := mf.2.2.2.2.2.2
      have kp := y_keep (A' := S'.1) (E' := S'.2.1) (N' := S'.2.2.1) (V' := S'.2.2.2.1) (W' := S'.2.2.2.2.1) (B' := R'.1) (M' := R'.2.1) (U' := R'.2.2) (g' := g) (c' := S'.2.2.2.2.2) h1 h5 mf.1 mf.2.2.1 mf.2.2.2.1 mf.2.2.2.2.1.2 rf.1 (fun k hk => by
        rw [show R'.2.1 = M1 from rf.2.1, hM1, z_un hk]) (fun a k hk => by
        rw [rf.2.2 a k (fun q => hk ⟨q.1, by omega⟩)]
        exact z_vn (fun q => hk ⟨q.1, Or.inl q.2⟩)) hi8 ⟨hG, by omega⟩ f6.1 ⟨by have := f7.2.1; omega, by have := f7.2.2; omega⟩
      refine ⟨((S'.1, S'.2.1, S'.2.2.1, S'.2.2.2.1, S'.2.2.2.2.1), (R'.1, R'.2.1, R'.2.2), g, S'.2.2.2.2.2), ⟨kp.1, kp.2, hi6⟩, fun fv o T' kk => ?_⟩
      refine b0_33 (z_i0 hi hL) ?_
      rw [z_xi (xs := xs) hi hL, hop]
      have c113 := e113_ok (k113.le (by decide)) hrk.rm.1 h7 x0 x2 (c114 fv _ _ (((k113.le (show 397 + 1 ≤ 398 by decide)).dn 114 (by decide)).le (by decide)))
      have c112 := e112_ok (k112.le (by decide)) hrk.rm.1 c113
      rw [er, ← hM1] at c112
      have c204 := hrr L xs fv (2048 - 1) (84000 - (19 + z_pg.2.1 204)) S'.2.2.2.2.2 S'.1 S'.2.1 S'.2.2.1 S'.2.2.2.1 S'.2.2.2.2.1 g f6.rm.1 (k204.le (by decide))
      refine b0_sw7 (law_7 (v := 0) (b := r) hlv hx1 hx hrk.rm.1 f6.rm.1 c112 c204 ?_ (Or.inr ?_) kk)
      · rw [rf.2.2 41 0 (by decide)]
        exact (show z_v U 41 0 0 41 0 = 0 from z_vk)
      · rw [show R'.2.1 = M1 from rf.2.1, hM1, z_uk, z_fcs, er]
/-- every run of the law -/
theorem y_law (L : Nat) (hL : L ≤ 3072) (xs : Nat → Int32) : ∀ fv : Value, fv = .null ∨ fv = .ref 106 → ∃ S : z_S, z_Rn L xs fv 2048 84000 0 0 (lv_args 0 [.ref 39]) [] ([], 0) (.inl (some (.int 1)), S) ∧ S.1.length ≤ 601024 ∧ S.2 ≤ 7293034 := z_allRuns (I6 := y_I6) y_I6.sm y_I6.nb y_start y_run hL
