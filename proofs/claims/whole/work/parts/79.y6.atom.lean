/-! Reading programs, both together: operands. -/
theorem z_sto1 {k0 : Nat} {v : Int32} (h : k0 = 64 ∨ k0 = 65 ∨ k0 = 68) : ∀ (R2 : z_RS) (m : Nat), ((z_u R2.1 k0 ((m, v) :: R2.1 k0), R2.2.1, R2.2.2) : z_RS).2 = R2.2 ∧ (∀ k, ¬ (k = 64 ∨ k = 65 ∨ k = 68) → z_u R2.1 k0 ((m, v) :: R2.1 k0) k = R2.1 k) ∧ ∀ k i, i ≠ m → z_fn 0 (z_u R2.1 k0 ((m, v) :: R2.1 k0) k) i = z_fn 0 (R2.1 k) i := by
  intro R2 m
  refine ⟨rfl, fun k hk => z_un (by omega), fun k i hi => ?_⟩
  by_cases e : k = k0
  · subst e
    rw [z_uk, z_fcn hi]
  · rw [z_un e]
theorem z_sto2 {v1 v2 : Int32} : ∀ (R2 : z_RS) (m : Nat), ((z_u (z_u R2.1 64 ((m, v1) :: R2.1 64)) 65 ((m, v2) :: R2.1 65), R2.2.1, R2.2.2) : z_RS).2 = R2.2 ∧ (∀ k, ¬ (k = 64 ∨ k = 65 ∨ k = 68) → z_u (z_u R2.1 64 ((m, v1) :: R2.1 64)) 65 ((m, v2) :: R2.1 65) k = R2.1 k) ∧ ∀ k i, i ≠ m → z_fn 0 (z_u (z_u R2.1 64 ((m, v1) :: R2.1 64)) 65 ((m, v2) :: R2.1 65) k) i = z_fn 0 (R2.1 k) i := by
  intro R2 m
  refine ⟨rfl, fun k hk => by rw [z_un (by omega), z_un (by omega)], fun k i hi => ?_⟩
  by_cases e : k = 65
  · subst e
    rw [z_uk, z_fcn hi]
  · rw [z_un e]
    by_cases e : k = 64
    · subst e
      rw [z_uk, z_fcn hi]
    · rw [z_un e]
section ZY6
variable {b : Nat → Nat} {n me : Nat} {ep : Nat → Nat} {j : Nat} {t : Nat × Nat × Int32} {τ : z_TT} {s nn kk w d k : Nat} {S : z_CS} {R : z_RS}
/-- operands but for brackets -/
theorem jatom1 (hp : z_P b n me ep j t τ s nn kk w S R) (hz : z_Zd (d + 1) R) (hs : s ≤ 8000) (h5 : ¬ t.2.1 = 5) : z_WC 17 75 0 [(0, .ref 131), (1, .int (nI d))] [] S (fun o S' => z_oj o (fun v => v = none ∧ z_AtL b n me ep d j τ s nn kk w t.1 S R (fun Q => p169_105 18 R.1 R.2.1 R.2.2 (nI d) (nI t.1) (fun x R1 => x = none ∧ z_Hq Q R1)) S') (z_AtD S R (fun Q => p169_105 18 R.1 R.2.1 R.2.2 (nI d) (nI t.1) (fun x R1 => x = none ∧ z_Hq Q R1)) S')) := by
  have hr := hp.1.2.2.2.2
  have hW : S.2.2.2.2.1 = t.2.1 := hp.1.2.1.2.2.2.1
  have hw : R.2.2 41 7 = z_wco t.2.1 := hp.1.2.1.2.2.2.2.2.2.2.1
  have t37 := hp.1.len.2
  have e9 : S.2.2.2.1 3 9 = nI t.1 := hp.1.2.1.2.2.2.2.1
  have e10 : S.2.2.2.1 3 10 = t.2.2 := hp.1.2.1.2.2.2.2.2.1
  have u9 : R.2.2 41 9 = nI (z_ll b n t.1) := hp.1.2.1.2.2.2.2.2.2.2.2.1
  have h0 : R.2.2 41 11 = 0 := hp.1.2.2.2.1
  refine t75_0 (A := S.1) (E := S.2.1) (N := S.2.2.1) (V := S.2.2.2.1) (W := S.2.2.2.2.1) (c := S.2.2.2.2.2) ?_
  refine ⟨hr.rm.1, by rw [hW]; exact t37, ?_⟩
  by_cases c2 : t.2.1 = 2
  · -- a name
    refine z_ifp (hW.trans c2) ?_
    unfold p75_102
    rw [e9, e10]
    have w1 : R.2.2 41 7 = 1 := by
      rw [hw, c2]
      rfl
    obtain ⟨S1, i1, i2, h⟩ := jcore (o := 1) (a1 := t.2.2) (a2 := nI t.1) (kd := 15) (p := t.1) (d := d) (st := fun R2 m => (z_u (z_u R2.1 64 ((m, nI t.1) :: R2.1 64)) 65 ((m, nI (z_ll b n t.1)) :: R2.1 65), R2.2.1, R2.2.2)) (G := fun Q => p169_105 18 R.1 R.2.1 R.2.2 (nI d) (nI t.1) (fun x R1 => x = none ∧ z_Hq Q R1)) (by decide) hp (by omega) hs hz z_sto2 (by
      intro Q R1 R2 m n1 g1 m6 h
      obtain ⟨zi, zc⟩ := z_o6_in m6
      refine z_ifn (by rw [w1]; decide) (z_ifn (by rw [w1]; decide) (z_ifn (by rw [w1]; decide) (z_ifp w1 ?_)))
      unfold p169_224
      rw [u9]
      refine ⟨none, R1, n1.up (by decide), rfl, _, R2, g1.up (by decide), nI m, rfl, ?_⟩
      unfold p169_239
      rw [zc]
      exact ⟨zi, zi, h.im (fun v R1 hv => ⟨hv.1, rfl, hv.2⟩)⟩) (by
      intro A' R2 is k57
      refine Or.inr (Or.inr (Or.inr (Or.inl ⟨?_, rfl, is.1, ?_, ?_⟩)))
      · show z_fn 0 (z_u (z_u R2.1 64 ((nn, nI t.1) :: R2.1 64)) 65 ((nn, nI (z_ll b n t.1)) :: R2.1 65) 57) nn = 15
        rw [z_un (by decide), z_un (by decide)]
        exact k57
      · show z_Nm b n (z_fn 0 (z_u (z_u R2.1 64 ((nn, nI t.1) :: R2.1 64)) 65 ((nn, nI (z_ll b n t.1)) :: R2.1 65) 64) nn) (z_fn 0 (A' 15) s) (z_fn 0 (z_u (z_u R2.1 64 ((nn, nI t.1) :: R2.1 64)) 65 ((nn, nI (z_ll b n t.1)) :: R2.1 65) 65) nn)
        rw [z_un (by decide), z_uk, z_fcs, z_uk, z_fcs, is.2.1]
        exact ⟨j, t, hp.1.2.1.1, c2, rfl, rfl, rfl⟩
      · show z_fn 0 (A' 16) s = z_fn 0 (z_u (z_u R2.1 64 ((nn, nI t.1) :: R2.1 64)) 65 ((nn, nI (z_ll b n t.1)) :: R2.1 65) 64) nn
        rw [z_un (by decide), z_uk, z_fcs]
        exact is.2.2.1)
    refine ⟨hr.rm.1, .inl (some (.int (nI s))), S1, i1.up (by decide), nI s, rfl, i2, ?_⟩
    rcases h with ⟨S2, S3, m1, m2, m3, m4⟩ | ⟨S2, m1, m2⟩ | ⟨S2, S3, m1, m2, m3, m4⟩
    · exact ⟨.inl none, S2, m1.up (by decide), rfl, m2, .inl none, S3, m3.up (by decide), rfl, rfl, m4⟩
    · exact ⟨.inr 10, S2, m1.up (by decide), rfl, rfl, m2⟩
    · exact ⟨.inl none, S2, m1.up (by decide), rfl, m2, .inr 10, S3, m3.up (by decide), rfl, rfl, m4⟩
  refine z_ifn (fun q => c2 (hW.symm.trans q)) ?_
  by_cases c4 : t.2.1 = 4
  · -- a number
    refine z_ifp (hW.trans c4) ?_
    unfold p75_48
    rw [e9, e10]
    have w3 : R.2.2 41 7 = 3 := by
      rw [hw, c4]
      rfl
    have u10 : R.2.2 41 10 = t.2.2 := hp.1.2.1.2.2.2.2.2.2.2.2.2 c4
    obtain ⟨o, S', g1, g2⟩ := jval (a1 := t.2.2) (a2 := 0) (kd := 12) (p := t.1) (d := d) (st := fun R2 m => (z_u R2.1 68 ((m, t.2.2) :: R2.1 68), R2.2.1, R2.2.2)) (G := fun Q => p169_105 18 R.1 R.2.1 R.2.2 (nI d) (nI t.1) (fun x R1 => x = none ∧ z_Hq Q R1)) hp (by omega) hs hz (z_sto1 (by decide)) (by
      intro Q R1 R2 m n1 g1 m6 h
      obtain ⟨zi, zc⟩ := z_o6_in m6
      refine z_ifp w3 ?_
      unfold p169_113
      rw [u10]
      refine ⟨none, R1, n1.up (by decide), rfl, _, R2, g1.up (by decide), nI m, rfl, ?_⟩
      unfold p169_128
      rw [zc]
      exact ⟨zi, h.im (fun v R1 hv => ⟨hv.1, rfl, hv.2⟩)⟩) (by
      intro A' R2 is k57
      refine Or.inl ⟨?_, rfl, is.1, ?_, is.2.2.1⟩
      · show z_fn 0 (z_u R2.1 68 ((nn, t.2.2) :: R2.1 68) 57) nn = 12
        rw [z_un (by decide)]
        exact k57
      · show z_fn 0 (A' 15) s = z_fn 0 (z_u R2.1 68 ((nn, t.2.2) :: R2.1 68) 68) nn
        rw [z_uk, z_fcs]
        exact is.2.1)
    refine ⟨hr.rm.1, o, S', g1.up (by decide), ?_⟩
    rcases o with v | e
    · exact ⟨g2.1, rfl, g2.2⟩
    · exact ⟨g2.1, g2.1, g2.2⟩
  refine z_ifn (fun q => c4 (hW.symm.trans q)) (z_ifn (fun q => h5 (hW.symm.trans q)) ?_)
  by_cases c32 : t.2.1 = 32
  · -- true
    refine z_ifp (hW.trans c32) ?_
    unfold p75_70
    rw [e9]
    have w3 : R.2.2 41 7 = 312 := by
      rw [hw, c32]
      rfl
    obtain ⟨o, S', g1, g2⟩ := jval (a1 := 1) (a2 := 1) (kd := 13) (p := t.1) (d := d) (st := fun R2 m => (z_u R2.1 68 ((m, 1) :: R2.1 68), R2.2.1, R2.2.2)) (G := fun Q => p169_105 18 R.1 R.2.1 R.2.2 (nI d) (nI t.1) (fun x R1 => x = none ∧ z_Hq Q R1)) hp (by omega) hs hz (z_sto1 (by decide)) (by
      intro Q R1 R2 m n1 g1 m6 h
      obtain ⟨zi, zc⟩ := z_o6_in m6
      refine z_ifn (by rw [w3]; decide) (z_ifp w3 (z_ifp w3 ?_))
      refine ⟨none, R1, n1.up (by decide), rfl, _, R2, g1.up (by decide), nI m, rfl, ?_⟩
      unfold p169_195
      rw [zc]
      exact ⟨zi, h.im (fun v R1 hv => ⟨hv.1, rfl, hv.2⟩)⟩) (by
      intro A' R2 is k57
      refine Or.inr (Or.inl ⟨?_, rfl, is.1, ?_, is.2.2.1, Or.inr is.2.1⟩)
      · show z_fn 0 (z_u R2.1 68 ((nn, 1) :: R2.1 68) 57) nn = 13
        rw [z_un (by decide)]
        exact k57
      · show z_fn 0 (A' 15) s = z_fn 0 (z_u R2.1 68 ((nn, 1) :: R2.1 68) 68) nn
        rw [z_uk, z_fcs]
        exact is.2.1)
    refine ⟨hr.rm.1, o, S', g1.up (by decide), ?_⟩
    rcases o with v | e
    · exact ⟨g2.1, rfl, g2.2⟩
    · exact ⟨g2.1, g2.1, g2.2⟩
  refine z_ifn (fun q => c32 (hW.symm.trans q)) ?_
  by_cases c33 : t.2.1 = 33
  · -- false
    refine z_ifp (hW.trans c33) ?_
    unfold p75_86
    rw [e9]
    have w3 : R.2.2 41 7 = 313 := by
      rw [hw, c33]
      rfl
    obtain ⟨o, S', g1, g2⟩ := jval (a1 := 0) (a2 := 1) (kd := 13) (p := t.1) (d := d) (st := fun R2 m => (z_u R2.1 68 ((m, 0) :: R2.1 68), R2.2.1, R2.2.2)) (G := fun Q => p169_105 18 R.1 R.2.1 R.2.2 (nI d) (nI t.1) (fun x R1 => x = none ∧ z_Hq Q R1)) hp (by omega) hs hz (z_sto1 (by decide)) (by
      intro Q R1 R2 m n1 g1 m6 h
      obtain ⟨zi, zc⟩ := z_o6_in m6
      refine z_ifn (by rw [w3]; decide) (z_ifn (by rw [w3]; decide) (z_ifp w3 (z_ifn (by rw [w3]; decide) ?_)))
      refine ⟨none, R1, n1.up (by decide), rfl, _, R2, g1.up (by decide), nI m, rfl, ?_⟩
      unfold p169_195
      rw [zc]
      exact ⟨zi, h.im (fun v R1 hv => ⟨hv.1, rfl, hv.2⟩)⟩) (by
      intro A' R2 is k57
      refine Or.inr (Or.inl ⟨?_, rfl, is.1, ?_, is.2.2.1, Or.inl is.2.1⟩)
      · show z_fn 0 (z_u R2.1 68 ((nn, 0) :: R2.1 68) 57) nn = 13
        rw [z_un (by decide)]
        exact k57
      · show z_fn 0 (A' 15) s = z_fn 0 (z_u R2.1 68 ((nn, 0) :: R2.1 68) 68) nn
        rw [z_uk, z_fcs]
        exact is.2.1)
    refine ⟨hr.rm.1, o, S', g1.up (by decide), ?_⟩
    rcases o with v | e
    · exact ⟨g2.1, rfl, g2.2⟩
    · exact ⟨g2.1, g2.1, g2.2⟩
  refine z_ifn (fun q => c33 (hW.symm.trans q)) ?_
  -- a word that cannot stand here
  obtain ⟨S', a1, a2⟩ := c52 (S := S) (l := 14) hr hp.1.w
  refine ⟨hr.rm.1, .inr 10, S', a1, rfl, rfl, 1, S.2.2.2.1 3 9, a2, fun Q hQ => ?_⟩
  refine z_ifn (by rw [hw]; exact z_wco_n (i := 4) t37 (by decide) c4) (z_ifn (by rw [hw]; exact z_wco_n (i := 32) t37 (by decide) c32) (z_ifn (by rw [hw]; exact z_wco_n (i := 33) t37 (by decide) c33) (z_ifn (by rw [hw]; exact z_wco_n (i := 2) t37 (by decide) c2) (z_ifn (by rw [hw]; exact z_wco_n (i := 5) t37 (by decide) h5) ?_))))
  have n5 : ¬ R.2.2 41 7 = 5 := by
    rw [hw]
    exact fun q => hp.1.2.2.1 ((z_wco_5 _ t37).mp q)
  have e8 : R.2.2 41 8 = nI t.1 := hp.1.2.1.2.2.2.2.2.2.1
  refine ⟨none, _, f151 (R := R) (l := 17) h0 n5, rfl, rfl, eHt (x := 1) (y := R.2.2 41 8) (z_Td_F (by decide)) (hQ _ ?_ (z_Lw_F (by decide)).xR)⟩
  rw [e9, ← e8]
  exact z_Td_F (by decide)
end ZY6
