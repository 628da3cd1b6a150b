/-! Reading programs, both together: a part of an expression. -/
/-- as it was, but for two entries of node m -/
def z_FM (nn kk d m k1 k2 : Nat) (R R' : z_RS) : Prop := z_XR R R' ∧ (∀ k, (57 ≤ k ∧ k ≤ 70) ∨ k = 97 → ∀ i, i < nn → ¬ (i = m ∧ (k = k1 ∨ k = k2)) → z_fn 0 (R'.1 k) i = z_fn 0 (R.1 k) i) ∧ (∀ k, 71 ≤ k → k ≤ 79 → ∀ i, i < kk → z_fn 0 (R'.1 k) i = z_fn 0 (R.1 k) i) ∧ (∀ k, 80 ≤ k → k ≤ 96 → ∀ i, i < d → z_fn 0 (R'.1 k) i = z_fn 0 (R.1 k) i)
section ZY1
variable {b : Nat → Nat} {n me : Nat} {ep : Nat → Nat} {j : Nat} {t : Nat × Nat × Int32} {τ : z_TT} {s nn kk w d k m k1 k2 q : Nat} {S : z_CS} {R R' : z_RS} {u : z_Bd}
theorem z_FM.fr {nn0 kk0 d0 : Nat} (h : z_FM nn kk d m k1 k2 R R') (h1 : nn0 ≤ m) (h2 : nn0 ≤ nn) (h3 : kk0 ≤ kk) (h4 : d0 ≤ d) : z_FR nn0 kk0 d0 R R' := ⟨h.1, fun k a i c => h.2.1 k a i (by omega) (by omega), fun k a b i c => h.2.2.1 k a b i (by omega), fun k a b i c => h.2.2.2 k a b i (by omega)⟩
theorem z_FM.nr (h : z_FM nn kk d m k1 k2 R R') (h1 : m < u.1.1) (h2 : u.1.2 ≤ nn) (h3 : u.2.2 ≤ kk) : z_Nr u R R' := ⟨fun k a b i c e => h.2.1 k (Or.inl ⟨a, b⟩) i (by omega) (by omega), fun k a b i c e => h.2.2.1 k a b i (by omega)⟩
theorem z_FM.at {k : Nat} (h : z_FM nn kk d m k1 k2 R R') (hm : m < nn) (hk : (57 ≤ k ∧ k ≤ 70) ∨ k = 97) (h1 : ¬ k = k1) (h2 : ¬ k = k2) : z_fn 0 (R'.1 k) m = z_fn 0 (R.1 k) m := h.2.1 k hk m hm (by omega)
theorem jpart (hkk : (q = 0 ∧ k1 = 58 ∧ k2 = 61) ∨ (q = 1 ∧ k1 = 59 ∧ k2 = 62) ∨ (q = 2 ∧ k1 = 60 ∧ k2 = 63)) (ih : z_Ih b n me ep k) (hk : d + 1 + k = 50) (hp : z_P b n me ep j t τ s nn kk w S R) (hq : z_Aq (d + 1) R) (h73 : R.2.2 41 73 = nI m) (h74 : R.2.2 41 74 = nI q) (hm : m < nn) (hb : s + w ≤ 3 * j ∧ 5 * kk ≤ j ∧ w ≤ 3 * (d + 1)) : ∃ o S', z_Cr (5 * k + 80) 62 0 [(0, .ref 131), (1, .int (nI (d + 1)))] [] S o S' ∧ z_oj o (fun v => v = none ∧ ∃ (R' : z_RS) (j' : Nat) (t' : Nat × Nat × Int32) (τ' : z_TT) (s' nn' kk' f m' : Nat), z_P b n me ep j' t' τ' s' nn' kk' w S' R' ∧ z_Zd (d + 1) R' ∧ z_Cp b n me τ' S'.1 R'.1 ((nn, nn'), (kk, kk')) f (z_wx (d + 1)) m' s s' (nI t.1) ∧ (z_fn 0 (R'.1 k1) m = nI m' ∧ z_fn 0 (R'.1 k2) m = nI t.1) ∧ z_FM nn kk (d + 1) m k1 k2 R R' ∧ z_Te τ τ' ∧ z_FC s w S S' ∧ (j < j' ∧ s' + 3 * j ≤ s + 3 * j' ∧ 5 * kk' + j ≤ 5 * kk + j' ∧ nn < nn' ∧ kk ≤ kk' ∧ s < s') ∧ ∀ Q, p179_107 17 R'.1 R'.2.1 R'.2.2 (nI m) (nI q) (fun x R1 => x = none ∧ z_Hq Q R1) → z_Hq Q R) (∃ x y, z_Xd x y S S' ∧ ∀ Q, (∀ R', z_Td x y R'.2.2 → z_XR R R' → Q none R') → z_Hq Q R) := by
  obtain ⟨o, S', f1, f2⟩ := ih (d + 1) hk S R j t τ s nn kk w hp hq hb
  refine ⟨o, S', f1, ?_⟩
  rcases o with v | e
  case inr => exact f2
  obtain ⟨rfl, R5, j5, t5, τ5, s5, nn5, kk5, f5, m5, P5, Z5, ⟨M5, E5, A5⟩, C5, ⟨b80, b81, -, -⟩, te5, fc5, fr5, ⟨l1, l2, l3, l4, l5⟩, ref5⟩ := f2
  have n600 : nn ≤ 600 := hp.2.2.2.2.2.1.2.2
  obtain ⟨zin, zcn⟩ := z_o6_in (m := m) (by omega)
  have lt5 := C5.lt
  have nn5' : nn < nn5 := by
    have q1 : m5 < nn5 := lt5.2.1
    have q2 : nn ≤ m5 := lt5.2.2
    omega
  have h05 : R5.2.2 41 11 = 0 := P5.1.2.2.2.1
  have k12 : 58 ≤ k1 ∧ k1 ≤ 60 ∧ 61 ≤ k2 ∧ k2 ≤ 63 := by omega
  obtain ⟨R6, hR6⟩ : ∃ X, X = (z_u (z_u R5.1 k1 ((m, nI m5) :: R5.1 k1)) k2 ((m, nI t.1) :: R5.1 k2), R5.2.1, z_v R5.2.2 41 52 (nI (d + 1))) := ⟨_, rfl⟩
  have B6 : R6.1 = z_u (z_u R5.1 k1 ((m, nI m5) :: R5.1 k1)) k2 ((m, nI t.1) :: R5.1 k2) := by rw [hR6]
  have x56 : z_XR R5 R6 := by
    rw [hR6]
    exact (z_XR_B (R := R5) (B' := z_u (z_u R5.1 k1 ((m, nI m5) :: R5.1 k1)) k2 ((m, nI t.1) :: R5.1 k2)) (fun q r => by rw [z_un (by omega), z_un (by omega)])).tr (z_XR_U (R := (z_u (z_u R5.1 k1 ((m, nI m5) :: R5.1 k1)) k2 ((m, nI t.1) :: R5.1 k2), R5.2.1, R5.2.2)) (fun k' j' q => z_vn (by omega)))
  have oth : ∀ q i, ¬ (i = m ∧ (q = k1 ∨ q = k2)) → z_fn 0 (R6.1 q) i = z_fn 0 (R5.1 q) i := by
    intro q i h
    rw [B6]
    by_cases e2 : q = k2
    · subst e2
      rw [z_uk, z_fcn (fun e => h ⟨e, Or.inr rfl⟩)]
    · rw [z_un e2]
      by_cases e1 : q = k1
      · subst e1
        rw [z_uk, z_fcn (fun e => h ⟨e, Or.inl rfl⟩)]
      · rw [z_un e1]
  refine ⟨rfl, R6, j5, t5, τ5, s5, nn5, kk5, f5, m5, ?_, ?_, ?_, ⟨?_, ?_⟩, ⟨fr5.1.tr x56, ?_, ?_, ?_⟩, te5, fc5, ⟨l1, l2, l3, nn5', l5, lt5.1⟩, ?_⟩
  · rw [hR6]
    exact P5.ref (fun q r => by show z_u (z_u R5.1 k1 ((m, nI m5) :: R5.1 k1)) k2 ((m, nI t.1) :: R5.1 k2) q = R5.1 q; rw [z_un (by omega), z_un (by omega)]) (fun i hi => by show z_v R5.2.2 41 52 (nI (d + 1)) 41 i = R5.2.2 41 i; rw [z_vn (by omega)])
  · rw [hR6]
    refine (z_Zd.dn Z5).cg ?_ ?_ ?_ rfl rfl
    · show z_u (z_u R5.1 k1 ((m, nI m5) :: R5.1 k1)) k2 ((m, nI t.1) :: R5.1 k2) 80 = R5.1 80
      rw [z_un (by omega), z_un (by omega)]
    · show z_u (z_u R5.1 k1 ((m, nI m5) :: R5.1 k1)) k2 ((m, nI t.1) :: R5.1 k2) 81 = R5.1 81
      rw [z_un (by omega), z_un (by omega)]
    · show z_u (z_u R5.1 k1 ((m, nI m5) :: R5.1 k1)) k2 ((m, nI t.1) :: R5.1 k2) 95 = R5.1 95
      rw [z_un (by omega), z_un (by omega)]
  · exact C5.mv (S' := S') (R' := R6) (Nat.le_refl _) z_Cs.rf ⟨fun q a b' i c e => oth q i (fun h => by have : nn ≤ i := c; omega), fun q a b' i c e => oth q i (by omega)⟩ P5.2.2.1.1.1 P5.2.2.1.2.1.1 z_Te.rf ⟨⟨Nat.le_refl _, Nat.le_refl _⟩, ⟨Nat.le_refl _, Nat.le_refl _⟩⟩
  · rw [B6, z_un (by omega), z_uk, z_fcs]
  · rw [B6, z_uk, z_fcs]
  · intro q a i c h
    rw [oth q i h]
    exact fr5.2.1 q a i c
  · intro q a b' i c
    rw [oth q i (by omega)]
    exact fr5.2.2.1 q a b' i c
  · intro q a b' i c
    rw [oth q i (by omega)]
    exact fr5.2.2.2 q a b' i c
  · intro Q h
    refine ref5 Q (rC h05 M5 Z5.1 (by have := Z5.2.1; omega) (b80.trans h73) (by omega) (b81.trans h74) Q ?_)
    have q54 : z_v R5.2.2 41 52 (nI (d + 1)) 41 54 = nI m5 := E5
    have q55 : z_v R5.2.2 41 52 (nI (d + 1)) 41 55 = nI t.1 := A5
    rw [hR6] at h
    rcases hkk with ⟨rfl, rfl, rfl⟩ | ⟨rfl, rfl, rfl⟩ | ⟨rfl, rfl, rfl⟩
    · refine z_ifp (show nI 0 = 0 from rfl) ?_
      unfold p179_4
      rw [zcn, q54, q55]
      exact ⟨zin, zin, h⟩
    · refine z_ifn (show ¬ nI 1 = 0 by decide) (z_ifp (show nI 1 = 1 from rfl) ?_)
      unfold p179_32
      rw [zcn, q54, q55]
      exact ⟨zin, zin, h⟩
    · refine z_ifn (show ¬ nI 2 = 0 by decide) (z_ifn (show ¬ nI 2 = 1 by decide) (z_ifp (show nI 2 = 2 from rfl) ?_))
      unfold p179_60
      rw [zcn, q54, q55]
      exact ⟨zin, zin, h⟩
/-- the next part is asked for -/
theorem jask {v : Nat} (hp : z_P b n me ep j t τ s nn kk w S R) (hz : z_Zd (d + 1) R) (hm : m < 600) (hv : v < 304 ∧ ¬ v = 3) : ∃ R', (∀ l, z_Rr (l + 1) 159 0 [(0, .ref 148), (1, .int (nI m)), (2, .int (nI v))] [] R none R') ∧ z_P b n me ep j t τ s nn kk w S R' ∧ z_Aq (d + 1) R' ∧ R'.1 = R.1 ∧ R'.2.2 41 73 = nI m ∧ R'.2.2 41 74 = nI v ∧ z_XR R R' := by
  refine ⟨(R.1, R.2.1, z_v (z_v (z_v (z_v R.2.2 41 73 (nI m)) 41 74 (nI v)) 41 75 (-1)) 41 53 0), fun l => r159, hp.ref (fun _ _ => rfl) (fun i hi => ?_), z_Aq_i hz (Or.inr ⟨m, hm, rfl⟩) (by omega) ⟨v, hv.1, hv.2, rfl⟩, rfl, rfl, rfl, z_XR_U z_ak⟩
  show z_v (z_v (z_v (z_v R.2.2 41 73 (nI m)) 41 74 (nI v)) 41 75 (-1)) 41 53 0 41 i = R.2.2 41 i
  rw [z_vn (by omega), z_vn (by omega), z_vn (by omega), z_vn (by omega)]
/-- the whole is told -/
theorem jwhole (hp : z_P b n me ep j t τ s nn kk w S R) (hz : z_Zd (d + 1) R) : ∃ R', (∀ l, z_Rr (l + 1) 180 0 [(0, .ref 148), (1, .int (nI m))] [] R none R') ∧ z_P b n me ep j t τ s nn kk w S R' ∧ z_Zd (d + 1) R' ∧ R'.1 = R.1 ∧ R'.2.2 41 53 = 3 ∧ R'.2.2 41 54 = nI m ∧ R'.2.2 41 55 = z_fn 0 (R.1 82) d ∧ z_XR R R' := by
  have d50 := hz.2.1
  refine ⟨(R.1, R.2.1, z_v (z_v (z_v R.2.2 41 54 (nI m)) 41 55 (z_fn 0 (R.1 82) d)) 41 53 3), fun l => r180 hz.1 (by omega), hp.ref (fun _ _ => rfl) (fun i hi => ?_), hz.cg rfl rfl rfl rfl rfl, rfl, rfl, rfl, rfl, z_XR_U z_wk⟩
  show z_v (z_v (z_v R.2.2 41 54 (nI m)) 41 55 (z_fn 0 (R.1 82) d)) 41 53 3 41 i = R.2.2 41 i
  rw [z_vn (by omega), z_vn (by omega), z_vn (by omega)]
theorem z_FR.Be (hx : z_XR R R') (hB : R'.1 = R.1) : z_FR nn kk d R R' := ⟨hx, fun k a i _ => by rw [hB], fun k a b i _ => by rw [hB], fun k a b i _ => by rw [hB]⟩
theorem z_Nr.Be (hB : R'.1 = R.1) : z_Nr u R R' := z_Nr.B (fun k _ _ => by rw [hB])
end ZY1
