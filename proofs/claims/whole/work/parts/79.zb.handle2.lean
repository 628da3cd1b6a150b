/-! Reading programs, both together: a handle. -/
section ZZB0
variable {b : Nat → Nat} {n me : Nat} {A A' B : Nat → List (Nat × Int32)} {u u' : z_Bd}
theorem z_Cc.cg2 {P P' : Nat → Nat → Nat → Int32 → Prop} {s0 e : Nat} (hA : ∀ k, 14 ≤ k → k ≤ 19 → ∀ i, s0 ≤ i → i < e → ¬ (k = 17 ∧ i = s0) → z_fn 0 (A' k) i = z_fn 0 (A k) i) (hu : u'.2.1 ≤ u.2.1 ∧ u.2.2 ≤ u'.2.2) (hP : ∀ g x y p, s0 < x → y < e → P g x y p → P' g x y p) : ∀ (r : List (Nat × Nat)) (q : Int32) (l x : Nat), s0 ≤ l → l < x → z_Cc b n me A B u P e r q l x → z_Cc b n me A' B u' P' e r q l x := by
  intro r
  induction r with
  | nil =>
    intro q l x hl hx h
    obtain ⟨h1, h2, h3⟩ := h
    exact ⟨h1, (hA 16 (by decide) (by decide) l hl (by omega) (by omega)).trans h2, h3⟩
  | cons a r ih =>
    intro q l x hl hx h
    obtain ⟨i, y⟩ := a
    obtain ⟨⟨h1, h2, h3, h4, h5⟩, h6, h7, h8, h9, h10, h11, h12, ⟨g, h13, h14⟩, h15, h16⟩ := h
    have a1 := fun k a b => hA k a b x (by omega) (by omega) (by omega)
    refine ⟨⟨h1, by omega, by omega, h4, h5⟩, (hA 16 (by decide) (by decide) l hl (by omega) (by omega)).trans h6, (a1 14 (by decide) (by decide)).trans h7, ?_, ?_, ?_, h11, ?_, ⟨g, h13, hP g (x + 1) y _ (by omega) h5 h14⟩, (hA 14 (by decide) (by decide) y (by omega) h5 (by omega)).trans h15, ih _ x (y + 1) (by omega) (by omega) h16⟩
    · rw [a1 15 (by decide) (by decide)]
      exact h8
    · rw [a1 18 (by decide) (by decide)]
      exact h9
    · rw [a1 17 (by decide) (by decide)]
      exact h10
    · rw [a1 19 (by decide) (by decide)]
      exact h12
end ZZB0
section ZZB
variable {b : Nat → Nat} {n me : Nat} {ep : Nat → Nat} {j j0 : Nat} {t : Nat × Nat × Int32} {τ τ0 : z_TT} {s nn kk w d k lp s0 nn0 kk0 p0 : Nat} {S S0 : z_CS} {R R0 : z_RS}
/-- what reading an expression comes to, live -/
def z_El (b : Nat → Nat) (n me : Nat) (ep : Nat → Nat) (d j p : Nat) (τ : z_TT) (s nn kk w : Nat) (S : z_CS) (R : z_RS) (S' : z_CS) : Prop := ∃ (R' : z_RS) (j' : Nat) (t' : Nat × Nat × Int32) (τ' : z_TT) (s' nn' kk' f m : Nat), z_P b n me ep j' t' τ' s' nn' kk' w S' R' ∧ z_Zd (d + 1) R' ∧ (R'.2.2 41 53 = 3 ∧ R'.2.2 41 54 = nI m ∧ R'.2.2 41 55 = nI p) ∧ z_Cp b n me τ' S'.1 R'.1 ((nn, nn'), (kk, kk')) f (z_wx d) m s s' (nI p) ∧ (z_fn 0 (R'.1 80) d = R.2.2 41 73 ∧ z_fn 0 (R'.1 81) d = R.2.2 41 74 ∧ z_fn 0 (R'.1 83) d = R.2.2 41 75 ∧ z_fn 0 (R'.1 82) d = nI p) ∧ z_Te τ τ' ∧ z_FC s w S S' ∧ z_FR nn kk d R R' ∧ (j < j' ∧ s' + 3 * j ≤ s + 3 * j' ∧ 5 * kk' + j ≤ 5 * kk + j' ∧ nn ≤ nn' ∧ kk ≤ kk') ∧ ∀ Q, z_Hq Q R' → z_Hq Q R
theorem jhl (ih : z_Ih b n me ep k) (hk : d + (k + 1) = 50) (hb : s0 + w ≤ 3 * j0 ∧ 5 * kk0 ≤ j0 ∧ w ≤ 3 * d) (hn0 : nn0 < 600) {v4 v5 : Int32} : ∀ (q j : Nat) (t : Nat × Nat × Int32) (S : z_CS) (R : z_RS) (lp c : Nat), 1501 - j ≤ q → c < j → z_Hvz b n me ep d j0 τ0 s0 nn0 kk0 w S0 R0 p0 j t lp S R → z_WC (5 * k + 84) 71 99 [(0, .ref 131), (1, .int (nI d)), (2, .int (nI p0)), (3, .int (nI s0)), (4, .int v4), (5, .int v5), (6, .int (nI lp)), (7, .int (nI c))] [] S (fun o S' => z_oj o (fun v => v = none ∧ z_El b n me ep d j0 p0 τ0 s0 nn0 kk0 w S0 R0 S') (z_AtD S0 R0 (fun Q => z_Hq Q R0) S')) := by
  intro q
  induction q with
  | zero =>
    intro j t S R lp c hq hc h
    obtain ⟨τ, s, nn, kk, F, r, x, y, g, h, nb, hp, -⟩ := h
    have := hp.1.len.1
    omega
  | succ q ihq =>
    intro j t S R lp c hq hc hvv
    obtain ⟨τ, s, nn, kk, F, r, x, y, g, h, nb, hv⟩ := hvv
    obtain ⟨hp, hz, h57, ⟨h58, h59, g1, g2, g3, a14, hx, a14g, hnm, a16g, hy, a14h⟩, ⟨⟨nb1, nb2⟩, hcc, hlp, hso, hli, hem⟩, ⟨hfr, hcell, hte, hfc⟩, ⟨b1, b2, b3, b4, b5⟩, href⟩ := id hv
    have lj := hp.1.len
    have hr := hp.1.2.2.2.2
    have hW : S.2.2.2.2.1 = t.2.1 := hp.1.2.1.2.2.2.1
    have hw : R.2.2 41 7 = z_wco t.2.1 := hp.1.2.1.2.2.2.2.2.2.2.1
    have d50 := hz.2.1
    have po := z_Cc.pos r _ s0 (h + 1) (by omega) hcc
    rw [hlp] at po
    obtain ⟨zin, zcn⟩ := z_o6_in hn0
    refine t71_99 (A := S.1) (E := S.2.1) (N := S.2.2.1) (V := S.2.2.2.1) (W := S.2.2.2.2.1) (c := S.2.2.2.2.2) ?_
    refine z_ifn (nI_ge (b := 1500) (by omega) (by decide)) ⟨by show S.2.2.2.2.1 < 37; rw [hW]; exact lj.2, ?_⟩
    by_cases h18 : t.2.1 = 18
    · -- a clause
      refine z_ifp (by rw [hW, h18]) ⟨hr.rm.1, ?_⟩
      refine (jclause ih hk hp hz h18 b4 po.2.2.1 h57 (fun h0 => ?_) ⟨by omega, by omega, by omega⟩).im (fun o S' ho => ?_)
      · rcases hem with ⟨-, e0⟩ | ⟨hem, -⟩
        · rw [e0] at h0
          exact absurd h0 (by decide)
        · cases r with
          | nil => cases hem
          | cons a r2 =>
            obtain ⟨ia, ya⟩ := a
            exact ⟨_, hli _ rfl⟩
      · rcases o with v | e
        · obtain ⟨rfl, hc⟩ := ho
          refine ⟨nI s, rfl, ?_⟩
          unfold p71_127
          rw [nI_1]
          have k3 : kk < 300 := by
            obtain ⟨R', j', t', τ', y1, nn', kk', f, g', P', -, -, -, -, -, -, -, -, ⟨l1, l2, l3, l4, l5, l6⟩, -⟩ := hc
            have := P'.1.len.1
            omega
          obtain ⟨j', t', R', l1, hv'⟩ := hv.step k3 hc
          exact ihq j' t' S' R' s (c + 1) (by omega) (by omega) hv'
        · obtain ⟨rfl, x, y, r1, r2⟩ := ho
          exact ⟨rfl, rfl, x, y, r1.tr hfc.1, fun Q hQ => href Q (r2 Q (fun R' a c => hQ R' a (hfr.1.tr c)))⟩
    -- its end
    refine z_ifn (fun e => h18 (hW.symm.trans (Option.some.inj e))) ⟨hr.rm.1, ?_⟩
    have ref9 : ∀ R1, z_Rr 14 154 0 [(0, .ref 148), (1, .int 311)] [] R none R1 → ∀ Q, p182_16 16 R1.1 R1.2.1 R1.2.2 (nI nn0) (fun x R1 => x = none ∧ z_Hq Q R1) → z_Hq Q R0 := fun R1 g1 Q hh => href Q (t182_0 (B := R.1) (M := R.2.1) (U := R.2.2) (z_ifn (by rw [hw]; exact z_wco_n (i := 18) lj.2 (by decide) h18) ⟨none, R1, g1.up (by decide), rfl, hh⟩))
    rcases jx hp.1 31 (by decide) (by decide) (by decide) with ⟨t1, S1, R1, c0, c1, c2, c3, c4, c5⟩ | ⟨x, y, S1, R1, c1, c2, c3, c4, c5⟩
    case inr =>
      refine ⟨.inr 10, S1, c1.up (by omega), rfl, rfl, x, y, c3.tr hfc.1, fun Q hQ => ?_⟩
      obtain ⟨R2, k1, k2, k3, k4⟩ := e180 (l := 15) (v := nI nn0) (d := d + 1) (x := x) (y := y) (R := R1) (Nat.succ_pos d) ⟨c5, hz.lw c4⟩
      exact ref9 R1 c2 Q ⟨none, R2, k1, rfl, rfl, eH k2 (Or.inr (Or.inr ⟨Nat.succ_pos d, Or.inr (Or.inr k4)⟩)) (fun R' r1 r2 => hQ R' r1 (hfr.1.tr (c4.xR.tr (k3.tr r2))))⟩
    have P1 := hp.kw c5 c3 c4 (by omega)
    have Z1 := hz.lw c4
    refine ⟨.inl none, S1, c1.up (by omega), rfl, ?_⟩
    have cs : (nI s0).toNatClampNeg = s0 := nI_clamp (by omega)
    have e136 : S1.2.2.2.1 13 6 = nI s := P1.2.2.2.2.1.1
    unfold p71_142
    rw [cs, e136]
    refine ⟨P1.in (by decide) (by omega), P1.1.2.2.2.2.rm.1, ?_⟩
    have P2 := P1.put (k := 17) (i := s0) (v := nI s) (by decide)
    obtain ⟨S3, z1, P3, z3, z4, -, -⟩ := Pa (o := 26) (a1 := 0) (a2 := 0) (f := nI p0) P2 (by omega)
    refine ⟨.inl (some (.int (nI s))), S3, z1.up (by omega), nI s, rfl, rfl, ?_⟩
    obtain ⟨R2, k1, P4, Z4, B4, k53, k54, k55, x12⟩ := jwhole (m := nn0) P3 Z1
    have B24 : R2.1 = R.1 := B4.trans c4.1
    have ins : ∀ q, 14 ≤ q → q ≤ 19 → ∀ x, x < s → ¬ (q = 17 ∧ x = s0) → z_fn 0 (S3.1 q) x = z_fn 0 (S.1 q) x := by
      intro q a1 a2 x a3 a4
      rw [z3.2.1 q a1 a2 x a3]
      show z_fn 0 (z_u S1.1 17 ((s0, nI s) :: S1.1 17) q) x = _
      by_cases e1 : q = 17
      · subst e1
        rw [z_uk, z_fcn (fun e => a4 ⟨rfl, e⟩), c3.1]
      · rw [z_un e1, c3.1]
    have A17 : z_fn 0 (S3.1 17) s0 = nI s := by
      rw [z3.2.1 17 (by decide) (by decide) s0 (by omega)]
      show z_fn 0 (z_u S1.1 17 ((s0, nI s) :: S1.1 17) 17) s0 = _
      rw [z_uk, z_fcs]
    have T := hp.2.2.1
    have toCp : ∀ lo hi, nn0 < lo → hi ≤ nn → ∀ g x y p, s0 < x → y < s → z_Pr b n me τ S.1 R.1 lo hi kk0 kk (z_wx (d + 1)) F r g x y p → ∃ v : z_Bd, z_S1 ((nn0, nn), (kk0, kk)) nn0 v ∧ (lo ≤ v.1.1 ∧ v.1.2 ≤ hi) ∧ z_wle 4 (z_wx d) ∧ z_Cp b n me τ S3.1 R.1 v F (z_wx d - 4) g x y p := by
      intro lo hi hlo hhi g x y p hx hy ⟨ub, fb, u1, u2, u3, u4, u5⟩
      refine ⟨ub, ⟨⟨by show nn0 ≤ ub.1.1; omega, Nat.le_trans u2.2 hhi⟩, u3, fun e => by omega⟩, u2, ?_⟩
      have q := u5.mv (S := S) (R := R) (S' := S3) (R' := R2) (f' := F) (u' := ub) u1 (fun q a c x' e1 e2 => ins q a c x' (by omega) (by omega)) (z_Nr.Be B24) T.1.1 T.2.1.1 z_Te.rf ⟨⟨Nat.le_refl _, Nat.le_refl _⟩, ⟨Nat.le_refl _, Nat.le_refl _⟩⟩
      rw [B24] at q
      exact ⟨z_wa d50, q.wk z_w4⟩
    obtain ⟨v1, w11, ⟨w12, w13⟩, w14⟩ := toCp (nn0 + 1) nb (Nat.lt_succ_self _) nb2 x (s0 + 1) g _ (by omega) (by omega) hx
    obtain ⟨v2, w21, ⟨w22, w23⟩, w24⟩ := toCp nb nn nb1 (Nat.le_refl _) y (g + 1) h _ (by omega) (by omega) hy
    refine ⟨R2, j + 1, t1, τ, s + 1, nn, kk, F + 1, nn0, P4, Z4, ⟨k53, k54, ?_⟩, ⟨⟨Nat.le_refl _, b4, by omega⟩, z4.2.2.2.2.2, ?_⟩, ?_, hte, ?_, ?_, ⟨by omega, by omega, by omega, Nat.le_of_lt b4, b5⟩, fun Q hQ => ref9 R1 c2 Q ⟨none, R2, k1 15, rfl, rfl, hQ⟩⟩
    · rw [k55, c4.1]
      exact hcell.2.2.2
    · refine Or.inr (Or.inr (Or.inr (Or.inr (Or.inr (Or.inr (Or.inr (Or.inr (Or.inl ⟨?_, x, y, g, h, r, v1, v2, ⟨w11, w21, Nat.le_trans w13 w22⟩, ?_, ?_, g1, g2, g3, ?_, A17, ?_, ?_, ?_, ?_, ?_, ?_, z4.1, ?_⟩))))))))
      · rw [B24]; exact h57
      · rw [B24]; exact h58
      · rw [B24]; exact h59
      · rw [ins 14 (by decide) (by decide) s0 (by omega) (by omega)]; exact a14
      · rw [B24]
        exact w14
      · rw [ins 14 (by decide) (by decide) g (by omega) (by omega)]; exact a14g
      · rw [B24, ins 15 (by decide) (by decide) g (by omega) (by omega)]; exact hnm
      · rw [B24, ins 16 (by decide) (by decide) g (by omega) (by omega)]; exact a16g
      · rw [B24]
        exact w24
      · rw [ins 14 (by decide) (by decide) h (by omega) (by omega)]; exact a14h
      · rw [B24]
        refine z_Cc.cg2 (A := S.1) (A' := S3.1) (u := ((nn0 + 1, nn), (kk0, kk))) (u' := ((nn0, nn), (kk0, kk))) (P' := fun g x y p => ∃ v : z_Bd, z_S1 ((nn0, nn), (kk0, kk)) nn0 v ∧ v1.1.2 ≤ v.1.1 ∧ z_wle 4 (z_wx d) ∧ z_Cp b n me τ S3.1 R.1 v F (z_wx d - 4) g x y p) (P := z_Pr b n me τ S.1 R.1 nb nn kk0 kk (z_wx (d + 1)) F r) (s0 := s0) (fun q a1 a2 x a3 a4 a5 => ins q a1 a2 x a4 a5) ⟨Nat.le_refl _, Nat.le_refl _⟩ (fun g x y p e1 e2 e3 => ?_) r _ s0 (h + 1) (Nat.le_refl _) (by omega) hcc
        obtain ⟨v, k1, k2, k3⟩ := toCp nb nn nb1 (Nat.le_refl _) g x y p e1 e2 e3
        exact ⟨v, k1, Nat.le_trans w13 k2.1, k3⟩
    · rw [B24]
      exact hcell
    · exact ⟨(hfc.1.tr c3.xc).tr ((z_FC.put (S := S1) (s := s0) (w := w) (k := 17) (i := s0) (v := nI s) (by decide) (Nat.le_refl _)).1.tr z3.1), fun q a c x e => by
        rw [ins q a c x (by omega) (by omega)]
        exact hfc.2.1 q a c x e, fun q a c x e => by
        rw [z3.2.2 q a c x e]
        show z_fn 0 (z_u S1.1 17 ((s0, nI s) :: S1.1 17) q) x = _
        rw [z_un (by omega), c3.1]
        exact hfc.2.2 q a c x e⟩
    · exact (hfr.tr (c4.fr (nn := nn0) (kk := kk0) (d := d)) (Nat.le_refl _) (Nat.le_refl _) (Nat.le_refl _)).tr (z_FR.Be (nn := nn0) (kk := kk0) (d := d) x12 B4) (Nat.le_refl _) (Nat.le_refl _) (Nat.le_refl _)
end ZZB
