/-! Reading programs, both together: brackets. -/
section ZY7
variable {b : Nat → Nat} {n me : Nat} {ep : Nat → Nat} {j : Nat} {t : Nat × Nat × Int32} {τ : z_TT} {s nn kk w d k : Nat} {S : z_CS} {R : z_RS}
theorem z_AtL.bk {S1 S' : z_CS} {R1 : z_RS} {p : Nat} {G G' : (Option Value → z_RS → Prop) → Prop} (h : z_AtL b n me ep d (j + 1) τ s nn kk w p S1 R1 G S') (hS : z_Kw S S1) (hR' : z_Lw R R1) (hG : ∀ Q, G Q → G' Q) : z_AtL b n me ep d j τ s nn kk w p S R G' S' := by
  obtain ⟨R', j', t', τ', s', nn', kk', f, m, h1, h2, h3, h4, h5, h6, ⟨l1, l2, l3, l4, l5, l6⟩, h7⟩ := h
  exact ⟨R', j', t', τ', s', nn', kk', f, m, h1, h2, h3, (hR'.fr (nn := nn) (kk := kk) (d := d + 1)).tr h4 (Nat.le_refl _) (Nat.le_refl _) (Nat.le_refl _), h5, (hS.fc (s := s) (w := w)).tr h6 (Nat.le_refl _) (Nat.le_refl _), ⟨by omega, by omega, by omega, l4, l5, l6⟩, fun Q q => hG Q (h7 Q q)⟩
theorem z_AtD.bk {S1 S' : z_CS} {R1 : z_RS} {G G' : (Option Value → z_RS → Prop) → Prop} (h : z_AtD S1 R1 G S') (hS : z_Kw S S1) (hR' : z_Lw R R1) (hG : ∀ Q, G Q → G' Q) : z_AtD S R G' S' := by
  obtain ⟨x, y, h1, h2⟩ := h
  exact ⟨x, y, h1.tr hS.xc, fun Q q => hG Q (h2 Q (fun R' a c => q R' a (hR'.xR.tr c)))⟩
/-- the reference closes a bracket -/
theorem rP (h0 : R.2.2 41 11 = 0) (h53 : R.2.2 41 53 = 3) (h52 : R.2.2 41 52 = nI (d + 1 + 1)) (hd : d + 1 < 50) (h80 : z_fn 0 (R.1 80) (d + 1) = -1) : ∀ Q, p178_70 18 R.1 R.2.1 (z_v R.2.2 41 52 (nI (d + 1))) (nI (d + 1)) (-1) (fun x R1 => x = none ∧ z_Hq Q R1) → z_Hq Q R := by
  intro Q h
  have zi : z_in (nI (d + 1)) 50 = true := z_inI (by omega) (by decide)
  have zc : (nI (d + 1)).toNatClampNeg = d + 1 := nI_clamp (by omega)
  have e1 : R.2.2 41 52 - 1 = nI (d + 1) := by rw [h52]; exact nI_pred (d + 1)
  refine t140_79 (B := R.1) (M := R.2.1) (U := R.2.2) (z_ifp h0 (z_ifn (by rw [h53]; decide) ?_))
  unfold p140_94
  refine z_ifn (by rw [h53]; decide) (z_ifn (by rw [h53]; decide) (z_ifn (by rw [h53]; decide) ?_))
  refine t178_0 ?_
  unfold p178_0
  rw [e1, zc, h80]
  refine ⟨zi, z_ifp (by decide) (z_ifn ?_ ?_)⟩
  · rw [z_vk]
    exact nI_ne0 (by omega) (by omega)
  · unfold p178_70 at h ⊢
    obtain ⟨h1, h2⟩ := h
    refine ⟨h1, h2.im (fun v R1 hv => ⟨hv.1, ?_⟩)⟩
    exact hv.2.im (fun v R2 hv => ⟨hv.1, rfl, hv.2.2⟩)
theorem jatom (ih : z_Ih b n me ep k) (hk : d + (k + 1) = 50) (hp : z_P b n me ep j t τ s nn kk w S R) (hz : z_Zd (d + 1) R) (hb : s + w ≤ 3 * j + 3 ∧ 5 * kk ≤ j ∧ w ≤ 3 * (d + 1)) : z_WC (5 * k + 82) 75 0 [(0, .ref 131), (1, .int (nI d))] [] S (fun o S' => z_oj o (fun v => v = none ∧ z_AtL b n me ep d j τ s nn kk w t.1 S R (fun Q => p169_105 18 R.1 R.2.1 R.2.2 (nI d) (nI t.1) (fun x R1 => x = none ∧ z_Hq Q R1)) S') (z_AtD S R (fun Q => p169_105 18 R.1 R.2.1 R.2.2 (nI d) (nI t.1) (fun x R1 => x = none ∧ z_Hq Q R1)) S')) := by
  have lj := hp.1.len.1
  by_cases h5 : t.2.1 = 5
  case neg => exact (jatom1 hp hz (by omega) h5).up (by omega)
  have hr := hp.1.2.2.2.2
  have hW : S.2.2.2.2.1 = t.2.1 := hp.1.2.1.2.2.2.1
  have w40 : R.2.2 41 7 = 40 := by
    rw [hp.1.2.1.2.2.2.2.2.2.2.1, h5]
    rfl
  have e9 : S.2.2.2.1 3 9 = nI t.1 := hp.1.2.1.2.2.2.2.1
  obtain ⟨t1, R1, n1, n2, n3, n4⟩ := jn hp.1 (by omega)
  have refG : ∀ Q, p169_281 18 R1.1 R1.2.1 R1.2.2 (nI d) (nI t.1) (fun x R1 => x = none ∧ z_Hq Q R1) → p169_105 18 R.1 R.2.1 R.2.2 (nI d) (nI t.1) (fun x R1 => x = none ∧ z_Hq Q R1) := fun Q h => z_ifn (by rw [w40]; decide) (z_ifn (by rw [w40]; decide) (z_ifn (by rw [w40]; decide) (z_ifn (by rw [w40]; decide) (z_ifp w40 ⟨none, R1, n1.up (by decide), rfl, h⟩))))
  refine t75_0 (A := S.1) (E := S.2.1) (N := S.2.2.1) (V := S.2.2.2.1) (W := S.2.2.2.2.1) (c := S.2.2.2.2.2) ?_
  refine ⟨hr.rm.1, by rw [hW]; omega, z_ifn (by rw [hW, h5]; decide) (z_ifn (by rw [hW, h5]; decide) (z_ifp (by rw [hW, h5]) ?_))⟩
  unfold p75_146
  rw [e9]
  refine ⟨hr.rm.1, ?_⟩
  rcases n4 with ⟨nb, S1, m1, m2, m3⟩ | ⟨nb, S1, m1, m2, m3⟩
  case inr =>
    obtain ⟨R2, g1, g2, g3, g4⟩ := e159 (l := 17) (u := -1) (v := 0) (x := 2) (y := nI t1.1) (d := d + 1) (R := R1) ⟨m3.q, hz.lw n2⟩
    have g5 : z_Dz 2 (nI t1.1) (d + 1) (R2.1, R2.2.1, z_v R2.2.2 41 75 (nI t.1)) := ⟨g2.1.U rfl rfl rfl rfl, g2.2.cg rfl rfl rfl rfl rfl⟩
    have g6 : z_XR R2 (R2.1, R2.2.1, z_v R2.2.2 41 75 (nI t.1)) := z_XR_U (fun k' j' q => z_vn (by omega))
    exact ⟨.inr 10, S1, m1.up (by omega), rfl, rfl, 2, nI t1.1, m2, fun Q hQ => refG Q (z_ifn (by rw [m3.2.1]; decide) ⟨none, R2, g1, rfl, rfl, eH g5 (Or.inr (Or.inl g4)) (fun R' r1 r2 => hQ R' r1 (n2.xR.tr (g3.tr (g6.tr r2))))⟩)⟩
  have P1 := hp.kw m3 m2 n2 (by omega)
  have Z1 := hz.lw n2
  have hW1 : S1.2.2.2.2.1 = t1.2.1 := P1.1.2.1.2.2.2.1
  have t37 := P1.1.len.2
  have hw1 : R1.2.2 41 7 = z_wco t1.2.1 := P1.1.2.1.2.2.2.2.2.2.2.1
  have cv1 : z_cv 37 (.ref S1.2.2.2.2.1) := by
    show S1.2.2.2.2.1 < 37
    rw [hW1]
    exact t37
  refine ⟨.inl none, S1, m1.up (by omega), rfl, cv1, ?_⟩
  by_cases c6 : t1.2.1 = 6
  · -- nothing
    refine z_ifp (by rw [hW1, c6]) ⟨P1.1.2.2.2.2.rm.1, ?_⟩
    have w41 : R1.2.2 41 7 = 41 := by
      rw [hw1, c6]
      rfl
    obtain ⟨o, S', g1, g2⟩ := jval (a1 := 0) (a2 := 2) (kd := 14) (p := t.1) (d := d) (st := fun R2 _ => R2) (G := fun Q => p169_281 18 R1.1 R1.2.1 R1.2.2 (nI d) (nI t.1) (fun x R1 => x = none ∧ z_Hq Q R1)) P1 (by omega) (by omega) Z1 (fun _ _ => ⟨rfl, fun _ _ => rfl, fun _ _ _ => rfl⟩) (by
      intro Q R2 R3 m q1 q2 m6 h
      exact z_ifp w41 ⟨none, R2, q1.up (by decide), rfl, _, R3, q2.up (by decide), nI m, rfl, h.im (fun v R1 hv => ⟨hv.1, rfl, hv.2⟩)⟩) (by
      intro A' R2 is k57
      exact Or.inr (Or.inr (Or.inl ⟨k57, rfl, is.1, is.2.1, is.2.2.1⟩)))
    refine ⟨o, S', g1.up (by omega), ?_⟩
    rcases o with v | e
    · exact ⟨g2.1, rfl, g2.2.bk m2 n2 refG⟩
    · exact ⟨g2.1, g2.1, g2.2.bk m2 n2 refG⟩
  -- an expression
  refine z_ifn (fun q => c6 (by rw [← hW1]; exact Option.some.inj q)) ?_
  have w41 : ¬ R1.2.2 41 7 = 41 := by
    rw [hw1]
    exact z_wco_n (i := 6) t37 (by decide) c6
  refine ⟨P1.1.2.2.2.2.rm.1, ?_⟩
  rw [nI_1]
  obtain ⟨R4, hR4⟩ : ∃ X, X = (R1.1, R1.2.1, z_v (z_v (z_v (z_v (z_v R1.2.2 41 73 (-1)) 41 74 0) 41 75 (-1)) 41 53 0) 41 75 (nI t.1)) := ⟨_, rfl⟩
  have refE : ∀ Q, z_Hq Q R4 → p169_105 18 R.1 R.2.1 R.2.2 (nI d) (nI t.1) (fun x R1 => x = none ∧ z_Hq Q R1) := by
    intro Q h
    rw [hR4] at h
    exact refG Q (z_ifn w41 ⟨none, _, r159, rfl, rfl, h⟩)
  have x14 : z_XR R1 R4 := by
    rw [hR4]
    exact z_XR_U (fun k' j' q => by rw [z_vn (by omega), z_vn (by omega), z_vn (by omega), z_vn (by omega), z_vn (by omega)])
  have B4 : R4.1 = R1.1 := by rw [hR4]
  have P4 : z_P b n me ep (j + 1) t1 τ s nn kk w S1 R4 := by
    rw [hR4]
    exact P1.ref (fun _ _ => rfl) (fun i hi => by show z_v (z_v (z_v (z_v (z_v R1.2.2 41 73 (-1)) 41 74 0) 41 75 (-1)) 41 53 0) 41 75 (nI t.1) 41 i = R1.2.2 41 i; rw [z_vn (by omega), z_vn (by omega), z_vn (by omega), z_vn (by omega), z_vn (by omega)])
  have q4 : z_Aq (d + 1) R4 := by
    rw [hR4]
    exact ⟨Z1.cg rfl rfl rfl rfl rfl, rfl, Or.inl rfl, fun _ => rfl, 0, by decide, by decide, rfl⟩
  have u73 : R4.2.2 41 73 = -1 := by
    rw [hR4]
    rfl
  have u75 : R4.2.2 41 75 = nI t.1 := by
    rw [hR4]
    rfl
  obtain ⟨o5, S5, f1, f2⟩ := ih (d + 1) (by omega) S1 R4 (j + 1) t1 τ s nn kk w P4 q4 ⟨by omega, by omega, by omega⟩
  refine ⟨o5, S5, f1.up (by omega), ?_⟩
  rcases o5 with v5 | e5
  case inr =>
    obtain ⟨rfl, x, y, g1, g2⟩ := f2
    exact ⟨rfl, rfl, x, y, g1.tr m2.xc, fun Q hQ => refE Q (g2 Q (fun R' h1 h2 => hQ R' h1 (n2.xR.tr (x14.tr h2))))⟩
  obtain ⟨rfl, R5, j5, t5, τ5, s5, nn5, kk5, f5, m5, P5, Z5, ⟨M5, E5, A5⟩, C5, ⟨b80, b81, b83, b82⟩, te5, fc5, fr5, ⟨l1, l2, l3, l4, l5⟩, ref5⟩ := f2
  have d50 := Z5.2.1
  have lt5 := C5.lt
  have nn5' : nn < nn5 := by
    have q1 : m5 < nn5 := lt5.2.1
    have q2 : nn ≤ m5 := lt5.2.2
    omega
  have zi : z_in (nI (d + 1)) 50 = true := z_inI (by omega) (by decide)
  have zc : (nI (d + 1)).toNatClampNeg = d + 1 := nI_clamp (by omega)
  refine ⟨rfl, P5.1.2.2.2.2.rm.1, ?_⟩
  obtain ⟨R6, hR6⟩ : ∃ X, X = (R5.1, R5.2.1, z_v R5.2.2 41 52 (nI (d + 1))) := ⟨_, rfl⟩
  have P6 : z_P b n me ep j5 t5 τ5 s5 nn5 kk5 w S5 R6 := by
    rw [hR6]
    exact P5.ref (fun _ _ => rfl) (fun i hi => by show z_v R5.2.2 41 52 (nI (d + 1)) 41 i = R5.2.2 41 i; rw [z_vn (by omega)])
  have Z6 : z_Zd (d + 1) R6 := by
    rw [hR6]
    exact z_Zd.dn Z5
  have x56 : z_XR R5 R6 := by
    rw [hR6]
    exact z_XR_U (fun k' j' q => z_vn (by omega))
  have B6 : R6.1 = R5.1 := by rw [hR6]
  have x6 : z_XR R R6 := n2.xR.tr (x14.tr (fr5.1.tr x56))
  have ref6 : ∀ Q R7, z_Rr 14 154 0 [(0, .ref 148), (1, .int 41)] [] R6 none R7 → R7.2.2 41 52 = nI (d + 1) → z_WR 18 171 0 [(0, .ref 148), (1, .int (nI d)), (2, .int (nI m5)), (3, .int (nI t.1))] [] R7 (fun x R1 => x = none ∧ z_Hq Q R1) → p169_105 18 R.1 R.2.1 R.2.2 (nI d) (nI t.1) (fun x R1 => x = none ∧ z_Hq Q R1) := by
    intro Q R7 g1 g2 h
    refine refE Q (ref5 Q (rP P5.1.2.2.2.1 M5 Z5.1 (by omega) (b80.trans u73) Q ?_))
    unfold p178_70
    have q54 : z_v R5.2.2 41 52 (nI (d + 1)) 41 54 = nI m5 := E5
    rw [zc, q54, b83.trans u75]
    rw [hR6] at g1
    refine ⟨zi, none, R7, g1.up (by decide), rfl, ?_⟩
    unfold p178_89
    rw [g2, nI_pred]
    exact h.im (fun v R1 hv => ⟨hv.1, rfl, hv.2⟩)
  have fc5' : z_FC s w S S5 := (m2.fc (s := s) (w := w)).tr fc5 (Nat.le_refl _) (Nat.le_refl _)
  rcases jx P6.1 6 (by decide) (by decide) (by decide) with ⟨t7, S7, R7, c0, c1, c2, c3, c4, c5⟩ | ⟨x, y, S7, R7, c1, c2, c3, c4, c5⟩
  case inr =>
    refine ⟨.inr 10, S7, c1.up (by omega), rfl, rfl, x, y, c3.tr fc5'.1, fun Q hQ => ?_⟩
    have Z7 := Z6.lw c4
    obtain ⟨R8, h1, h2, h3, h4⟩ := e171 (i := d) (v := nI m5) (p := nI t.1) (x := x) (y := y) (R := R7) (Nat.lt_succ_self d) ⟨c5, Z7⟩
    refine ref6 Q R7 c2 Z7.1 ⟨none, R8, h1.up (by decide), rfl, eH h2 ?_ (fun R' r1 r2 => hQ R' r1 (x6.tr (c4.xR.tr (h3.tr r2))))⟩
    rcases h4 with h4 | h4
    · exact Or.inr (Or.inr ⟨Nat.succ_pos d, Or.inr (Or.inl h4)⟩)
    · exact Or.inl h4
  have P7 := P6.kw c5 c3 c4 (by omega)
  have Z7 := Z6.lw c4
  refine ⟨.inl none, S7, c1.up (by omega), rfl, ?_⟩
  have lj5 := P7.1.len.1
  have e136 : S7.2.2.2.1 13 6 = nI s5 := P7.2.2.2.2.1.1
  have es : nI s5 - 1 = nI (s5 - 1) := by rw [show (1 : Int32) = nI 1 from rfl, pk_sub (by omega)]
  have cs : (nI (s5 - 1)).toNatClampNeg = s5 - 1 := nI_clamp (by omega)
  unfold p75_198
  rw [e136, es, cs]
  refine ⟨P7.in (by decide) (by omega), rfl, ?_⟩
  have P8 := P7.put (k := 19) (i := s5 - 1) (v := nI t.1) (by decide)
  have B7 : R7.1 = R5.1 := c4.1.trans B6
  have T5 := P5.2.2.1
  refine ⟨R7, j5 + 1, t7, τ5, s5, nn5, kk5, f5, m5, P8, Z7, ?_, ?_, te5, ?_, ⟨by omega, by omega, by omega, nn5', l5, lt5.1⟩, fun Q h => ref6 Q R7 c2 Z7.1 h⟩
  · refine z_Cp.cg (A := S5.1) (B := R5.1) (u := ((nn, nn5), (kk, kk5))) (τ := τ5) ⟨⟨Nat.le_refl _, Nat.le_refl _⟩, ⟨Nat.le_refl _, Nat.le_refl _⟩⟩ (fun q a b' i c e => by rw [B7]) (fun q a b' i c e => by rw [B7]) (fun x y q => q) (fun x y1 y2 q h => h) f5 _ m5 s s5 (nI t1.1) (nI t.1) f5 (Nat.le_refl _) (fun q a b' i c e => ?_) (fun i c e => ?_) ?_ C5
    · show z_fn 0 (z_u S7.1 19 ((s5 - 1, nI t.1) :: S7.1 19) q) i = z_fn 0 (S5.1 q) i
      rw [z_un (by omega), c3.1]
    · show z_fn 0 (z_u S7.1 19 ((s5 - 1, nI t.1) :: S7.1 19) 19) i = z_fn 0 (S5.1 19) i
      rw [z_uk, z_fcn (by omega), c3.1]
    · show z_fn 0 (z_u S7.1 19 ((s5 - 1, nI t.1) :: S7.1 19) 19) (s5 - 1) = nI t.1
      rw [z_uk, z_fcs]
  · exact ((n2.fr (nn := nn) (kk := kk) (d := d + 1)).tr (z_FR.Be (nn := nn) (kk := kk) (d := d + 1) x14 B4) (Nat.le_refl _) (Nat.le_refl _) (Nat.le_refl _)).tr (fr5.tr (z_FR.Be (nn := nn) (kk := kk) (d := d + 1) (x56.tr c4.xR) B7) (Nat.le_refl _) (Nat.le_refl _) (Nat.le_refl _)) (Nat.le_refl _) (Nat.le_refl _) (Nat.le_refl _)
  · exact (fc5'.tr c3.fc (Nat.le_refl _) (Nat.le_refl _)).tr (z_FC.put (s := s) (w := w) (by decide) (by omega)) (Nat.le_refl _) (Nat.le_refl _)
end ZY7
