/-! Reading programs, both together: a clause. -/
/-- what reading a clause comes to -/
def z_Clz (b : Nat → Nat) (n me : Nat) (ep : Nat → Nat) (d j : Nat) (τ : z_TT) (s nn kk w m lp : Nat) (S : z_CS) (R : z_RS) (S' : z_CS) : Prop :=
  ∃ (R' : z_RS) (j' : Nat) (t' : Nat × Nat × Int32) (τ' : z_TT) (y nn' kk' f g : Nat), z_P b n me ep j' t' τ' (y + 1) nn' kk' w S' R' ∧ z_Zd (d + 1) R' ∧
    (z_fn 0 (S'.1 14) s = 24 ∧ z_fn 0 (S'.1 16) s = 0 ∧ z_Nm b n (z_fn 0 (R'.1 73) kk) (z_fn 0 (S'.1 15) s) (z_fn 0 (R'.1 74) kk) ∧ z_Nm b n (z_fn 0 (R'.1 75) kk) (z_fn 0 (S'.1 18) s) (z_fn 0 (R'.1 76) kk) ∧ z_fn 0 (S'.1 17) s = z_fn 0 (R'.1 71) kk ∧ (∃ ef, ef < me ∧ z_fn 0 (R'.1 71) kk = nI ef) ∧ z_fn 0 (S'.1 19) s = z_fn 0 (R'.1 72) kk) ∧
    (z_fn 0 (R'.1 77) kk = nI g ∧ z_Cp b n me τ' S'.1 R'.1 ((nn, nn'), (kk + 1, kk')) f (z_wx (d + 1)) g (s + 1) y (z_fn 0 (R'.1 78) kk) ∧ z_fn 0 (S'.1 14) y = 25 ∧ z_fn 0 (R'.1 79) kk = -1) ∧
    (z_fn 0 (S'.1 16) lp = nI s ∧ ∀ q, 14 ≤ q → q ≤ 19 → ∀ x, x < s → ¬ (q = 16 ∧ x = lp) → z_fn 0 (S'.1 q) x = z_fn 0 (S.1 q) x) ∧
    (z_fn 0 (R'.1 97) m = nI kk ∧ z_fn 0 (R'.1 60) m = (if 0 ≤ z_fn 0 (R.1 60) m then z_fn 0 (R.1 60) m else nI kk) ∧ ∀ q, (57 ≤ q ∧ q ≤ 70) ∨ q = 97 → ∀ x, x < nn → ¬ (x = m ∧ (q = 60 ∨ q = 97)) → z_fn 0 (R'.1 q) x = z_fn 0 (R.1 q) x) ∧
    ((∀ i, 0 ≤ z_fn 0 (R.1 60) m → i < kk → z_fn 0 (R.1 97) m = nI i → z_fn 0 (R'.1 79) i = nI kk) ∧ ∀ q, 71 ≤ q → q ≤ 79 → ∀ x, x < kk → ¬ (q = 79 ∧ 0 ≤ z_fn 0 (R.1 60) m ∧ z_fn 0 (R.1 97) m = nI x) → z_fn 0 (R'.1 q) x = z_fn 0 (R.1 q) x) ∧
    (∀ q, 80 ≤ q → q ≤ 96 → ∀ x, x < d + 1 → z_fn 0 (R'.1 q) x = z_fn 0 (R.1 q) x) ∧ (z_Te τ τ' ∧ z_XC S S' ∧ (∀ q, 25 ≤ q → q ≤ 26 → ∀ x, x < w → z_fn 0 (S'.1 q) x = z_fn 0 (S.1 q) x) ∧ z_XR R R') ∧ (j < j' ∧ y + 1 + 3 * j ≤ s + 3 * j' ∧ 5 * kk' + j ≤ 5 * kk + j' ∧ nn < nn' ∧ kk < kk' ∧ s + 1 < y) ∧
    ∀ Q, z_WR 17 182 0 [(0, .ref 148), (1, .int (nI m))] [] R' (fun x R1 => x = none ∧ z_Hq Q R1) → z_WR 17 182 0 [(0, .ref 148), (1, .int (nI m))] [] R (fun x R1 => x = none ∧ z_Hq Q R1)
section ZZ9
variable {b : Nat → Nat} {n me : Nat} {ep : Nat → Nat} {j : Nat} {t : Nat × Nat × Int32} {τ : z_TT} {s nn kk w d k m lp : Nat} {S S' : z_CS} {R : z_RS}
theorem z_P.kc {kk' : Nat} (h : z_P b n me ep j t τ s nn kk w S R) : z_P b n me ep j t τ s nn kk' w S (R.1, R.2.1, z_v R.2.2 41 27 (nI kk')) := by
  obtain ⟨k1, k2, ⟨k3, k4, k5⟩, k6, k7, ⟨k8, k9, k10⟩, k12, k13⟩ := h
  exact ⟨k1.cg rfl rfl rfl (fun i => rfl) rfl rfl rfl (fun i a c => by show z_v R.2.2 41 27 (nI kk') 41 i = _; rw [z_vn (by omega)]) k1.2.2.2.2, k2.cg rfl rfl rfl rfl rfl, ⟨k3, k4.cg rfl rfl rfl rfl, k5⟩, k6, k7, ⟨k8, k9, k10⟩, rfl, k13⟩
theorem c66 {l : Nat} (hp : z_P b n me ep j t τ s nn kk w S R) (h : z_Cr (l + 14) 54 0 [(0, .ref 131), (1, .ref 2)] [] S (.inl none) S') : z_Cr (l + 15) 66 0 [(0, .ref 131)] [] S (.inl (some (.int t.2.2))) S' := by
  have e10 : S.2.2.2.1 3 10 = t.2.2 := hp.1.2.1.2.2.2.2.2.1
  refine z_WC.get (fun Q hq => t66_0 (A := S.1) (E := S.2.1) (N := S.2.2.1) (V := S.2.2.2.1) (W := S.2.2.2.2.1) (c := S.2.2.2.2.2) ?_)
  unfold p66_0
  rw [e10]
  exact ⟨hp.1.2.2.2.2.rm.1, .inl none, S', h, rfl, hq⟩
theorem c66d {l : Nat} (hp : z_P b n me ep j t τ s nn kk w S R) (h : z_Cr (l + 14) 54 0 [(0, .ref 131), (1, .ref 2)] [] S (.inr 10) S') : z_Cr (l + 15) 66 0 [(0, .ref 131)] [] S (.inr 10) S' := by
  refine z_WC.get (fun Q hq => t66_0 (A := S.1) (E := S.2.1) (N := S.2.2.1) (V := S.2.2.2.1) (W := S.2.2.2.2.1) (c := S.2.2.2.2.2) ?_)
  exact ⟨hp.1.2.2.2.2.rm.1, .inr 10, S', h, rfl, hq⟩
theorem jclause (ih : z_Ih b n me ep k) (hk : d + (k + 1) = 50) (hp : z_P b n me ep j t τ s nn kk w S R) (hz : z_Zd (d + 1) R) (ht : t.2.1 = 18) (hm : m < nn) (hlp : lp < s) (h57 : z_fn 0 (R.1 57) m = 4) (hl : 0 ≤ z_fn 0 (R.1 60) m → ∃ i, i < kk ∧ z_fn 0 (R.1 97) m = nI i) (hb : s + w ≤ 3 * j ∧ 5 * kk ≤ j ∧ w ≤ 3 * (d + 1)) : z_WC (5 * k + 83) 72 0 [(0, .ref 131), (1, .int (nI d)), (2, .int (nI lp))] [] S (fun o S' => z_oj o (fun v => v = some (.int (nI s)) ∧ z_Clz b n me ep d j τ s nn kk w m lp S R S') (z_AtD S R (fun Q => z_WR 17 182 0 [(0, .ref 148), (1, .int (nI m))] [] R (fun x R1 => x = none ∧ z_Hq Q R1)) S')) := by
  have hr := hp.1.2.2.2.2
  have d50 := hz.2.1
  have lj := hp.1.len
  have n6 : nn ≤ 600 := hp.2.2.2.2.2.1.2.2
  have hm6 : m < 600 := by omega
  obtain ⟨zin, zcn⟩ := z_o6_in hm6
  have hl3 : kk < 300 → 0 ≤ z_fn 0 (R.1 60) m → ∃ i, i < 300 ∧ z_fn 0 (R.1 97) m = nI i := fun h3 h0 => by
    obtain ⟨i, i1, i2⟩ := hl h0
    exact ⟨i, by omega, i2⟩
  have w124 : R.2.2 41 7 = 124 := by
    rw [hp.1.2.1.2.2.2.2.2.2.2.1, ht]
    rfl
  refine t72_0 (A := S.1) (E := S.2.1) (N := S.2.2.1) (V := S.2.2.2.1) (W := S.2.2.2.2.1) (c := S.2.2.2.2.2) ⟨hr.rm.1, ?_⟩
  obtain ⟨t1, R1, n1, n2, n3, n4⟩ := jn hp.1 (by omega)
  have ref1 : ∀ Q, p182_26 16 R1.1 R1.2.1 R1.2.2 (nI m) (fun x R1 => x = none ∧ z_Hq Q R1) → z_WR 17 182 0 [(0, .ref 148), (1, .int (nI m))] [] R (fun x R1 => x = none ∧ z_Hq Q R1) := fun Q h => t182_0 (B := R.1) (M := R.2.1) (U := R.2.2) (z_ifp w124 ⟨none, R1, n1.up (by decide), rfl, h⟩)
  have Z1 := hz.lw n2
  -- the reference, behind its effect, once the class has ended
  have dead35 : ∀ (x y : Int32) (R2 : z_RS) (v p : Int32) (Q : Option Value → z_RS → Prop), kk < 300 → z_Qd x y R2.2.2 → z_Lw R R2 → (∀ R', z_Td x y R'.2.2 → z_XR R R' → Q none R') → p182_35 16 R2.1 R2.2.1 R2.2.2 (nI m) p v (fun x R1 => x = none ∧ z_Hq Q R1) := by
    intro x y R2 v p Q h3 g1 g2 hQ
    refine g182_35 (kk := kk) hm6 h3 ((g2.2.2.1 41 27 (by decide)).trans hp.2.2.2.2.2.2.1) (by rw [g2.1]; exact hl3 h3) ⟨g1, hz.lw g2⟩ (fun R' a1 a2 a3 => ⟨rfl, eH a1 ?_ (fun R3 r1 r2 => hQ R3 r1 (g2.xR.tr (a2.tr r2)))⟩)
    rcases a3 with a3 | a3
    · exact Or.inl a3
    · exact Or.inr (Or.inl a3)
  rcases n4 with ⟨nb, S1, m1, m2, m3⟩ | ⟨nb, S1, m1, m2, m3⟩
  case inr =>
    refine ⟨.inr 10, S1, m1.up (by omega), rfl, rfl, 2, nI t1.1, m2, fun Q hQ => ref1 Q ?_⟩
    obtain ⟨R2, g1, g2, g3⟩ := d157 (R := R1) m3.q
    exact ⟨_, R2, g1.up (by decide), _, rfl, z_ifn g3.1 ⟨rfl, eHt g3 (hQ R2 g3 (n2.xR.tr g2.xR))⟩⟩
  have P1 := hp.kw m3 m2 n2 (by omega)
  have e91 : S1.2.2.2.1 3 9 = nI t1.1 := P1.1.2.1.2.2.2.2.1
  have e81 : R1.2.2 41 8 = nI t1.1 := P1.1.2.1.2.2.2.2.2.2.1
  have lj1 := P1.1.len.1
  refine ⟨.inl none, S1, m1.up (by omega), rfl, ?_⟩
  unfold p72_7
  rw [e91]
  refine ⟨P1.1.2.2.2.2.rm.1, ?_⟩
  have ref2 : ∀ v R2, z_Rr 14 157 0 [(0, .ref 148)] [] R1 (some (.int v)) R2 → ∀ Q, p182_35 16 R2.1 R2.2.1 R2.2.2 (nI m) (nI t1.1) v (fun x R1 => x = none ∧ z_Hq Q R1) → z_WR 17 182 0 [(0, .ref 148), (1, .int (nI m))] [] R (fun x R1 => x = none ∧ z_Hq Q R1) := by
    intro v R2 g1 Q h
    refine ref1 Q ?_
    unfold p182_26
    rw [e81]
    exact ⟨_, R2, g1.up (by decide), v, rfl, h⟩
  have k3 : kk < 300 := by omega
  rcases je P1.1 P1.2.1 with ⟨i, t2, R2, i8, -, c58, r157, lw2, -, hl2⟩ | ⟨x, y, S2, R2, c58, r157, xd, lw2, qd⟩
  case inr => exact ⟨.inr 10, S2, c58.up (by omega), rfl, rfl, x, y, xd.tr m2.xc, fun Q hQ => ref2 _ R2 r157 Q (dead35 x y R2 _ _ Q k3 qd (n2.tr lw2) hQ)⟩
  refine ⟨.inl (some (.int (nI i))), S1, c58.up (by omega), nI i, rfl, P1.1.2.2.2.2.rm.1, ?_⟩
  rcases hl2 with ⟨nb2, S2, o1, o2, o3⟩ | ⟨nb2, S2, o1, o2, o3⟩
  case inr => exact ⟨.inr 10, S2, o1.up (by omega), rfl, rfl, 2, nI t2.1, o2.tr m2.xc, fun Q hQ => ref2 _ R2 r157 Q (dead35 2 (nI t2.1) R2 _ _ Q k3 o3.q (n2.tr lw2) hQ)⟩
  have P2 := P1.kw o3 o2 lw2 (by omega)
  have lwB : z_Lw R R2 := n2.tr lw2
  have kwB : z_Kw S S2 := m2.tr o2
  have Z2 := hz.lw lwB
  have h02 : R2.2.2 41 11 = 0 := P2.1.2.2.2.1
  have e82 : R2.2.2 41 8 = nI t2.1 := P2.1.2.1.2.2.2.2.2.2.1
  have e92 : R2.2.2 41 9 = nI (z_ll b n t2.1) := P2.1.2.1.2.2.2.2.2.2.2.2.1
  have e27 : R2.2.2 41 27 = nI kk := P2.2.2.2.2.2.2.1
  refine ⟨.inl none, S2, o1.up (by omega), rfl, P2.1.2.2.2.2.rm.1, ?_⟩
  have ki : z_in (nI kk) 300 = true := z_inI k3 (by decide)
  have kc : (nI kk).toNatClampNeg = kk := nI_clamp (by omega)
  -- the clause's entries
  obtain ⟨R3, hR3⟩ : ∃ X, X = ((z_u (z_u (z_u (z_u R2.1 71 ((kk, nI i) :: R2.1 71)) 72 ((kk, nI t1.1) :: R2.1 72)) 73 ((kk, nI t2.1) :: R2.1 73)) 74 ((kk, nI (z_ll b n t2.1)) :: R2.1 74)), R2.2.1, (z_v R2.2.2 41 27 (nI (kk + 1)))) := ⟨_, rfl⟩
  have B3 : R3.1 = z_u (z_u (z_u (z_u R2.1 71 ((kk, nI i) :: R2.1 71)) 72 ((kk, nI t1.1) :: R2.1 72)) 73 ((kk, nI t2.1) :: R2.1 73)) 74 ((kk, nI (z_ll b n t2.1)) :: R2.1 74) := by rw [hR3]
  have ref3 : ∀ R4, z_Rr 14 154 0 [(0, .ref 148), (1, .int 1)] [] R3 none R4 → ∀ Q, p182_103 16 R4.1 R4.2.1 R4.2.2 (nI m) (nI t1.1) (nI i) (nI kk) (fun x R1 => x = none ∧ z_Hq Q R1) → z_WR 17 182 0 [(0, .ref 148), (1, .int (nI m))] [] R (fun x R1 => x = none ∧ z_Hq Q R1) := by
    intro R4 g1 Q h
    refine ref2 _ R2 r157 Q (z_ifp (by rw [h02]; decide) ?_)
    unfold p182_44
    rw [e27, kc, e82, e92, nI_1, ← hR3]
    exact ⟨ki, ki, ki, ki, none, R4, g1.up (by decide), rfl, h⟩
  have x23 : z_XR R2 R3 := by
    rw [hR3]
    exact (z_XR_B (R := R2) (B' := z_u (z_u (z_u (z_u R2.1 71 ((kk, nI i) :: R2.1 71)) 72 ((kk, nI t1.1) :: R2.1 72)) 73 ((kk, nI t2.1) :: R2.1 73)) 74 ((kk, nI (z_ll b n t2.1)) :: R2.1 74)) (fun q r => by rw [z_un (by omega), z_un (by omega), z_un (by omega), z_un (by omega)])).tr (z_XR_U (R := (z_u (z_u (z_u (z_u R2.1 71 ((kk, nI i) :: R2.1 71)) 72 ((kk, nI t1.1) :: R2.1 72)) 73 ((kk, nI t2.1) :: R2.1 73)) 74 ((kk, nI (z_ll b n t2.1)) :: R2.1 74), R2.2.1, R2.2.2)) (fun k' j' q => z_vn (by omega)))
  have P3 : z_P b n me ep (j + 1 + 1) t2 τ s nn (kk + 1) w S2 R3 := by
    have q1 : z_P b n me ep (j + 1 + 1) t2 τ s nn kk w S2 (R3.1, R2.2.1, R2.2.2) := P2.ref (fun q r => by rw [B3, z_un (by omega), z_un (by omega), z_un (by omega), z_un (by omega)]) (fun _ _ => rfl)
    have q2 := q1.kc (kk' := kk + 1)
    have e : R3 = (R3.1, R2.2.1, z_v R2.2.2 41 27 (nI (kk + 1))) := by rw [hR3]
    rw [e]
    exact q2
  have Z3 : z_Zd (d + 1) R3 := by
    rw [hR3]
    exact Z2.cg rfl rfl rfl rfl rfl
  have x3 : z_XR R R3 := lwB.xR.tr x23
  have c60 : ∀ R' : z_RS, R'.1 60 = R.1 60 → R'.1 97 = R.1 97 → 0 ≤ z_fn 0 (R'.1 60) m → ∃ i, i < 300 ∧ z_fn 0 (R'.1 97) m = nI i := by
    intro R' a1 a2
    rw [a1, a2]
    exact hl3 k3
  have b360 : R3.1 60 = R.1 60 := by rw [B3, z_un (by decide), z_un (by decide), z_un (by decide), z_un (by decide), lwB.1]
  have b397 : R3.1 97 = R.1 97 := by rw [B3, z_un (by decide), z_un (by decide), z_un (by decide), z_un (by decide), lwB.1]
  rcases jx P3.1 2 (by decide) (by decide) (by decide) with ⟨t3, S3, R4, f0, f1, f2, f3, f4, f5⟩ | ⟨x, y, S3, R4, f1, f2, f3, f4, f5⟩
  case inr =>
    refine ⟨.inr 10, S3, (c66d (l := 0) P3 f1).up (by omega), rfl, rfl, x, y, f3.tr kwB.xc, fun Q hQ => ref3 R4 f2 Q (g182_103 (R := R4) hm6 k3 (c60 R4 (by rw [f4.1, b360]) (by rw [f4.1, b397])) ⟨f5, Z3.lw f4⟩ (fun R' a1 a2 a3 => ⟨rfl, eH a1 (Or.inr (Or.inl a3)) (fun R5 r1 r2 => hQ R5 r1 (x3.tr (f4.xR.tr (a2.tr r2))))⟩))⟩
  have P4 := P3.kw f5 f3 f4 (by omega)
  have Z4 := Z3.lw f4
  have nm1 : z_Nm b n (nI t2.1) t2.2.2 (nI (z_ll b n t2.1)) := ⟨j + 1 + 1, t2, P2.1.2.1.1, f0, rfl, rfl, rfl⟩
  have e84 : R4.2.2 41 8 = nI t3.1 := P4.1.2.1.2.2.2.2.2.2.1
  have e94 : R4.2.2 41 9 = nI (z_ll b n t3.1) := P4.1.2.1.2.2.2.2.2.2.2.2.1
  refine ⟨.inl (some (.int t2.2.2)), S3, (c66 (l := 0) P3 f1).up (by omega), t2.2.2, rfl, P4.1.2.2.2.2.rm.1, ?_⟩
  obtain ⟨R5, hR5⟩ : ∃ X, X = (z_u (z_u R4.1 75 ((kk, nI t3.1) :: R4.1 75)) 76 ((kk, nI (z_ll b n t3.1)) :: R4.1 76), R4.2.1, R4.2.2) := ⟨_, rfl⟩
  have B5 : R5.1 = z_u (z_u R4.1 75 ((kk, nI t3.1) :: R4.1 75)) 76 ((kk, nI (z_ll b n t3.1)) :: R4.1 76) := by rw [hR5]
  have x45 : z_XR R4 R5 := by
    rw [hR5]
    exact z_XR_B (fun q r => by rw [z_un (by omega), z_un (by omega)])
  have P5 : z_P b n me ep (j + 1 + 1 + 1) t3 τ s nn (kk + 1) w S3 R5 := P4.ref (fun q r => by rw [B5, z_un (by omega), z_un (by omega)]) (fun _ _ => by rw [hR5])
  have Z5 : z_Zd (d + 1) R5 := by
    rw [hR5]
    exact Z4.cg rfl rfl rfl rfl rfl
  have x5 : z_XR R R5 := x3.tr (f4.xR.tr x45)
  have ref5 : ∀ R6, z_Rr 14 154 0 [(0, .ref 148), (1, .int 1)] [] R5 none R6 → ∀ Q, p182_130 16 R6.1 R6.2.1 R6.2.2 (nI m) (nI t1.1) (nI i) (nI kk) (fun x R1 => x = none ∧ z_Hq Q R1) → z_WR 17 182 0 [(0, .ref 148), (1, .int (nI m))] [] R (fun x R1 => x = none ∧ z_Hq Q R1) := by
    intro R6 g1 Q h
    refine ref3 R4 f2 Q ?_
    unfold p182_103
    rw [kc, e84, e94, ← hR5]
    exact ⟨ki, ki, none, R6, g1.up (by decide), rfl, h⟩
  have b560 : R5.1 60 = R.1 60 := by rw [B5, z_un (by decide), z_un (by decide), f4.1, b360]
  have b597 : R5.1 97 = R.1 97 := by rw [B5, z_un (by decide), z_un (by decide), f4.1, b397]
  have kwC : z_Kw S S3 := kwB.tr f3
  rcases jx P5.1 2 (by decide) (by decide) (by decide) with ⟨t4, S4, R6, g0, g1, g2, g3, g4, g5⟩ | ⟨x, y, S4, R6, g1, g2, g3, g4, g5⟩
  case inr =>
    refine ⟨.inr 10, S4, (c66d (l := 0) P5 g1).up (by omega), rfl, rfl, x, y, g3.tr kwC.xc, fun Q hQ => ref5 R6 g2 Q (g182_130 (R := R6) hm6 k3 (c60 R6 (by rw [g4.1, b560]) (by rw [g4.1, b597])) ⟨g5, Z5.lw g4⟩ (fun R' a1 a2 a3 => ⟨rfl, eH a1 (Or.inr (Or.inl a3)) (fun R7 r1 r2 => hQ R7 r1 (x5.tr (g4.xR.tr (a2.tr r2))))⟩))⟩
  have P6 := P5.kw g5 g3 g4 (by omega)
  have Z6 := Z5.lw g4
  have nm2 : z_Nm b n (nI t3.1) t3.2.2 (nI (z_ll b n t3.1)) := ⟨j + 1 + 1 + 1, t3, P4.1.2.1.1, g0, rfl, rfl, rfl⟩
  refine ⟨.inl (some (.int t3.2.2)), S4, (c66 (l := 0) P5 g1).up (by omega), t3.2.2, rfl, P6.1.2.2.2.2.rm.1, ?_⟩
  have kwD : z_Kw S S4 := kwC.tr g3
  have x6 : z_XR R R6 := x5.tr g4.xR
  -- the arrow
  rcases jx P6.1 19 (by decide) (by decide) (by decide) with ⟨t5, S5, R7, h0, h1, h2, h3, h4, h5⟩ | ⟨x, y, S5, R7, h1, h2, h3, h4, h5⟩
  case inr =>
    refine ⟨.inr 10, S5, h1.up (by omega), rfl, rfl, x, y, h3.tr kwD.xc, fun Q hQ => ref5 R6 g2 Q ⟨none, R7, h2.up (by decide), rfl, g182_135 (R := R7) hm6 k3 (c60 R7 (by rw [h4.1, g4.1, b560]) (by rw [h4.1, g4.1, b597])) ⟨h5, Z6.lw h4⟩ (fun R' a1 a2 a3 => ⟨rfl, eH a1 (Or.inr (Or.inl a3)) (fun R8 r1 r2 => hQ R8 r1 (x6.tr (h4.xR.tr (a2.tr r2))))⟩)⟩⟩
  have P7 := P6.kw h5 h3 h4 (by omega)
  have Z7 := Z6.lw h4
  have kwE : z_Kw S S5 := kwD.tr h3
  have x7 : z_XR R R7 := x6.tr h4.xR
  have lj7 := P7.1.len.1
  refine ⟨.inl none, S5, h1.up (by omega), rfl, P7.1.2.2.2.2.rm.1, ?_⟩
  -- CLAUSE
  obtain ⟨S6, v1, P8, v3, v4, -, -⟩ := Pa (o := 24) (a1 := t2.2.2) (a2 := 0) (f := nI t1.1) P7 (by omega) (fun _ => by rw [kwE.1]; have q := hp.2.2.2.1; omega)
  refine ⟨.inl (some (.int (nI s))), S6, v1.up (by omega), nI s, rfl, ?_⟩
  have cs : (nI s).toNatClampNeg = s := nI_clamp (by omega)
  have cl : (nI lp).toNatClampNeg = lp := nI_clamp (by omega)
  unfold p72_60
  rw [cs, cl, nI_1]
  obtain ⟨S7, hS7⟩ : ∃ X, X = ((z_u (z_u (z_u S6.1 17 ((s, nI i) :: S6.1 17)) 18 ((s, t3.2.2) :: S6.1 18)) 16 ((lp, nI s) :: S6.1 16)), S6.2.1, S6.2.2.1, S6.2.2.2.1, S6.2.2.2.2.1, S6.2.2.2.2.2) := ⟨_, rfl⟩
  have A7 : S7.1 = z_u (z_u (z_u S6.1 17 ((s, nI i) :: S6.1 17)) 18 ((s, t3.2.2) :: S6.1 18)) 16 ((lp, nI s) :: S6.1 16) := by rw [hS7]
  rw [← hS7]
  have P9 : z_P b n me ep (j + 1 + 1 + 1 + 1 + 1) t5 τ (s + 1) nn (kk + 1) w S7 R7 := by
    have q1 := P8.cls (A' := z_u (z_u (z_u S6.1 17 ((s, nI i) :: S6.1 17)) 18 ((s, t3.2.2) :: S6.1 18)) 16 ((lp, nI s) :: S6.1 16)) (fun q a c => by rw [z_un (by omega), z_un (by omega), z_un (by omega)])
    rw [hS7]
    exact q1
  have ot7 : ∀ q x, ¬ ((q = 17 ∨ q = 18) ∧ x = s) → ¬ (q = 16 ∧ x = lp) → z_fn 0 (S7.1 q) x = z_fn 0 (S6.1 q) x := by
    intro q x a1 a2
    rw [A7]
    by_cases e1 : q = 16
    · subst e1
      rw [z_uk, z_fcn (fun e => a2 ⟨rfl, e⟩)]
    rw [z_un e1]
    by_cases e2 : q = 18
    · subst e2
      rw [z_uk, z_fcn (fun e => a1 ⟨Or.inr rfl, e⟩)]
    rw [z_un e2]
    by_cases e3 : q = 17
    · subst e3
      rw [z_uk, z_fcn (fun e => a1 ⟨Or.inl rfl, e⟩)]
    rw [z_un e3]
  have xc67 : z_XC S6 S7 := by
    rw [hS7]
    exact z_XC_AV (fun q e => by rw [z_rdA_u rfl e, z_rdA_u rfl e, z_rdA_u rfl e]) (fun _ _ _ => rfl)
  have s56 : z_FC s w S S6 := (kwE.fc (s := s) (w := w)).tr v3 (Nat.le_refl _) (Nat.le_refl _)
  refine ⟨P8.in (by decide) (Nat.lt_succ_self s), P8.in (by decide) (Nat.lt_succ_self s), P8.in (by decide) (by omega), P8.1.2.2.2.2.rm.1, ?_⟩
  -- the clause's place among the others
  have d60 : R7.1 60 = R.1 60 := by rw [h4.1, g4.1, b560]
  have d97 : R7.1 97 = R.1 97 := by rw [h4.1, g4.1, b597]
  obtain ⟨R8, ref8, o60, o97, o79, oth8, x78, U8a, U8b, U8c, U8d⟩ : ∃ R8 : z_RS, (∀ Q, z_Hq Q R8 → p182_135 16 R7.1 R7.2.1 R7.2.2 (nI m) (nI t1.1) (nI i) (nI kk) (fun x R1 => x = none ∧ z_Hq Q R1)) ∧ z_fn 0 (R8.1 60) m = (if 0 ≤ z_fn 0 (R.1 60) m then z_fn 0 (R.1 60) m else nI kk) ∧ z_fn 0 (R8.1 97) m = nI kk ∧ (z_fn 0 (R8.1 79) kk = -1 ∧ ∀ i, 0 ≤ z_fn 0 (R.1 60) m → i < kk → z_fn 0 (R.1 97) m = nI i → z_fn 0 (R8.1 79) i = nI kk) ∧ (∀ q x, ¬ (x = m ∧ (q = 60 ∨ q = 97)) → ¬ (q = 79 ∧ x = kk) → ¬ (q = 79 ∧ 0 ≤ z_fn 0 (R.1 60) m ∧ z_fn 0 (R.1 97) m = nI x) → z_fn 0 (R8.1 q) x = z_fn 0 (R7.1 q) x) ∧ z_XR R7 R8 ∧ (∀ q, ¬ (q = 60 ∨ q = 79 ∨ q = 97) → R8.1 q = R7.1 q) ∧ (∀ i, i ≤ 52 → R8.2.2 41 i = R7.2.2 41 i) ∧ (R8.2.2 41 53 = 0 ∧ R8.2.2 41 73 = nI m ∧ R8.2.2 41 74 = nI (4 + kk)) ∧ True := by
    have e4 : (4 : Int32) + nI kk = nI (4 + kk) := by rw [show (4 : Int32) = nI 4 from rfl, nI_add]
    by_cases h0 : 0 ≤ z_fn 0 (R.1 60) m
    · obtain ⟨il, il1, il2⟩ := hl h0
      have ci : (nI il).toNatClampNeg = il := nI_clamp (by omega)
      refine ⟨(z_u (z_u (z_u R7.1 79 ((kk, -1) :: R7.1 79)) 79 ((il, nI kk) :: (z_u R7.1 79 ((kk, -1) :: R7.1 79)) 79)) 97 ((m, nI kk) :: R7.1 97), R7.2.1, z_v (z_v (z_v (z_v R7.2.2 41 73 (nI m)) 41 74 (4 + nI kk)) 41 75 (-1)) 41 53 0), fun Q hq => ?_, ?_, z_fcs, ⟨?_, fun x _ q1 q2 => ?_⟩, fun q x a1 a2 a3 => ?_, ?_, fun q hq => ?_, fun x hx => ?_, ⟨rfl, rfl, e4⟩, trivial⟩
      · unfold p182_135
        rw [kc, zcn, d60]
        refine ⟨ki, zin, z_ifp h0 ?_⟩
        unfold p182_163
        rw [zcn]
        have e97 : z_fn 0 (z_u R7.1 79 ((kk, -1) :: R7.1 79) 97) m = nI il := by
          rw [z_un (by decide), d97]
          exact il2
        rw [e97, ci]
        refine ⟨zin, z_inI (by omega) (by decide), ?_⟩
        unfold p182_176
        rw [zcn]
        refine ⟨zin, none, _, r159 (l := 15), rfl, rfl, hq⟩
      · rw [if_pos h0]
        show z_fn 0 (R7.1 60) m = _
        rw [d60]
      · show z_fn 0 ((il, nI kk) :: (kk, -1) :: R7.1 79) kk = -1
        rw [z_fcn (by omega), z_fcs]
      · have e : x = il := (nI_eq (by omega) (by omega)).mp (q2.symm.trans il2)
        subst e
        show z_fn 0 ((x, nI kk) :: (kk, -1) :: R7.1 79) x = nI kk
        rw [z_fcs]
      · show z_fn 0 (z_u (z_u (z_u R7.1 79 ((kk, -1) :: R7.1 79)) 79 ((il, nI kk) :: (z_u R7.1 79 ((kk, -1) :: R7.1 79)) 79)) 97 ((m, nI kk) :: R7.1 97) q) x = _
        by_cases e1 : q = 97
        · subst e1
          rw [z_uk, z_fcn (fun e => a1 ⟨e, Or.inr rfl⟩)]
        rw [z_un e1]
        by_cases e2 : q = 79
        · subst e2
          rw [z_uk, z_fcn (fun e => a3 ⟨rfl, h0, by rw [e]; exact il2⟩), z_uk, z_fcn (fun e => a2 ⟨rfl, e⟩)]
        rw [z_un e2, z_un e2]
      · exact (z_XR_B (R := R7) (B' := z_u (z_u (z_u R7.1 79 ((kk, -1) :: R7.1 79)) 79 ((il, nI kk) :: (z_u R7.1 79 ((kk, -1) :: R7.1 79)) 79)) 97 ((m, nI kk) :: R7.1 97)) (fun q r => by rw [z_un (by omega), z_un (by omega), z_un (by omega)])).tr (z_XR_U (R := (z_u (z_u (z_u R7.1 79 ((kk, -1) :: R7.1 79)) 79 ((il, nI kk) :: (z_u R7.1 79 ((kk, -1) :: R7.1 79)) 79)) 97 ((m, nI kk) :: R7.1 97), R7.2.1, R7.2.2)) z_ak)
      · show z_u (z_u (z_u R7.1 79 ((kk, -1) :: R7.1 79)) 79 ((il, nI kk) :: (z_u R7.1 79 ((kk, -1) :: R7.1 79)) 79)) 97 ((m, nI kk) :: R7.1 97) q = _
        rw [z_un (by omega), z_un (by omega), z_un (by omega)]
      · show z_v (z_v (z_v (z_v R7.2.2 41 73 (nI m)) 41 74 (4 + nI kk)) 41 75 (-1)) 41 53 0 41 x = _
        rw [z_vn (by omega), z_vn (by omega), z_vn (by omega), z_vn (by omega)]
    · refine ⟨(z_u (z_u (z_u R7.1 79 ((kk, -1) :: R7.1 79)) 60 ((m, nI kk) :: R7.1 60)) 97 ((m, nI kk) :: R7.1 97), R7.2.1, z_v (z_v (z_v (z_v R7.2.2 41 73 (nI m)) 41 74 (4 + nI kk)) 41 75 (-1)) 41 53 0), fun Q hq => ?_, ?_, z_fcs, ⟨z_fcs, fun x q1 _ _ => absurd q1 h0⟩, fun q x a1 a2 a3 => ?_, ?_, fun q hq => ?_, fun x hx => ?_, ⟨rfl, rfl, e4⟩, trivial⟩
      · unfold p182_135
        rw [kc, zcn, d60]
        refine ⟨ki, zin, z_ifn h0 ?_⟩
        unfold p182_152
        rw [zcn]
        refine ⟨zin, ?_⟩
        unfold p182_176
        rw [zcn]
        refine ⟨zin, none, _, r159 (l := 15), rfl, rfl, hq⟩
      · rw [if_neg h0]
        exact z_fcs
      · show z_fn 0 (z_u (z_u (z_u R7.1 79 ((kk, -1) :: R7.1 79)) 60 ((m, nI kk) :: R7.1 60)) 97 ((m, nI kk) :: R7.1 97) q) x = _
        by_cases e1 : q = 97
        · subst e1
          rw [z_uk, z_fcn (fun e => a1 ⟨e, Or.inr rfl⟩)]
        rw [z_un e1]
        by_cases e2 : q = 60
        · subst e2
          rw [z_uk, z_fcn (fun e => a1 ⟨e, Or.inl rfl⟩)]
        rw [z_un e2]
        by_cases e3 : q = 79
        · subst e3
          rw [z_uk, z_fcn (fun e => a2 ⟨rfl, e⟩)]
        rw [z_un e3]
      · exact (z_XR_B (R := R7) (B' := z_u (z_u (z_u R7.1 79 ((kk, -1) :: R7.1 79)) 60 ((m, nI kk) :: R7.1 60)) 97 ((m, nI kk) :: R7.1 97)) (fun q r => by rw [z_un (by omega), z_un (by omega), z_un (by omega)])).tr (z_XR_U (R := (z_u (z_u (z_u R7.1 79 ((kk, -1) :: R7.1 79)) 60 ((m, nI kk) :: R7.1 60)) 97 ((m, nI kk) :: R7.1 97), R7.2.1, R7.2.2)) z_ak)
      · show z_u (z_u (z_u R7.1 79 ((kk, -1) :: R7.1 79)) 60 ((m, nI kk) :: R7.1 60)) 97 ((m, nI kk) :: R7.1 97) q = _
        rw [z_un (by omega), z_un (by omega), z_un (by omega)]
      · show z_v (z_v (z_v (z_v R7.2.2 41 73 (nI m)) 41 74 (4 + nI kk)) 41 75 (-1)) 41 53 0 41 x = _
        rw [z_vn (by omega), z_vn (by omega), z_vn (by omega), z_vn (by omega)]
  have ref8' : ∀ Q, z_Hq Q R8 → z_WR 17 182 0 [(0, .ref 148), (1, .int (nI m))] [] R (fun x R1 => x = none ∧ z_Hq Q R1) := fun Q h => ref5 R6 g2 Q ⟨none, R7, h2.up (by decide), rfl, ref8 Q h⟩
  have P10 : z_P b n me ep (j + 1 + 1 + 1 + 1 + 1) t5 τ (s + 1) nn (kk + 1) w S7 R8 := P9.ref (fun q r => U8a q (by omega)) (fun q r => U8b q (by omega))
  have Z10 : z_Zd (d + 1) R8 := Z7.cg (U8a 80 (by decide)) (U8a 81 (by decide)) (U8a 95 (by decide)) (U8b 52 (by decide)) (U8b 26 (by decide))
  have q10 : z_Aq (d + 1) R8 := ⟨Z10, U8c.1, Or.inr ⟨m, hm6, U8c.2.1⟩, fun e => absurd e (by omega), 4 + kk, by omega, by omega, U8c.2.2⟩
  have x8 : z_XR R R8 := x7.tr x78
  have fcS7 : z_XC S S7 := s56.1.tr xc67
  -- what the clause does
  obtain ⟨o9, S9, y1, y2⟩ := ih (d + 1) (by omega) S7 R8 (j + 1 + 1 + 1 + 1 + 1) t5 τ (s + 1) nn (kk + 1) w P10 q10 ⟨by omega, by omega, by omega⟩
  refine ⟨o9, S9, y1.up (by omega), ?_⟩
  rcases o9 with v9 | e9
  case inr =>
    obtain ⟨rfl, x, y, r1, r2⟩ := y2
    exact ⟨rfl, rfl, x, y, r1.tr fcS7, fun Q hQ => ref8' Q (r2 Q (fun R' a c => hQ R' a (x8.tr c)))⟩
  obtain ⟨rfl, R9, j9, t9, τ9, s9, nn9, kk9, f9, m9, P11, Z11, ⟨M9, E9, A9⟩, C9, ⟨b80, b81, -, -⟩, te9, fc9, fr9, ⟨l1, l2, l3, l4, l5⟩, ref9⟩ := y2
  refine ⟨rfl, P11.1.2.2.2.2.rm.1, ?_⟩
  have lt9 := C9.lt
  have nn9' : nn < nn9 := by
    have q1 : m9 < nn9 := lt9.2.1
    have q2 : nn ≤ m9 := lt9.2.2
    omega
  have lj9 := P11.1.len.1
  obtain ⟨S10, z1, P12, z3, z4, -, -⟩ := Pa (o := 25) (a1 := 0) (a2 := 0) (f := nI t1.1) P11 (by omega)
  refine ⟨.inl (some (.int (nI s9))), S10, z1.up (by omega), nI s9, rfl, rfl, ?_⟩
  obtain ⟨R11, hR11⟩ : ∃ X, X = (z_u (z_u R9.1 77 ((kk, nI m9) :: R9.1 77)) 78 ((kk, nI t5.1) :: R9.1 78), R9.2.1, z_v R9.2.2 41 52 (nI (d + 1))) := ⟨_, rfl⟩
  have B11 : R11.1 = z_u (z_u R9.1 77 ((kk, nI m9) :: R9.1 77)) 78 ((kk, nI t5.1) :: R9.1 78) := by rw [hR11]
  have x911 : z_XR R9 R11 := by
    rw [hR11]
    exact (z_XR_B (R := R9) (B' := z_u (z_u R9.1 77 ((kk, nI m9) :: R9.1 77)) 78 ((kk, nI t5.1) :: R9.1 78)) (fun q r => by rw [z_un (by omega), z_un (by omega)])).tr (z_XR_U (R := (z_u (z_u R9.1 77 ((kk, nI m9) :: R9.1 77)) 78 ((kk, nI t5.1) :: R9.1 78), R9.2.1, R9.2.2)) (fun k' j' q => z_vn (by omega)))
  have P13 : z_P b n me ep j9 t9 τ9 (s9 + 1) nn9 kk9 w S10 R11 := P12.ref (fun q r => by rw [B11, z_un (by omega), z_un (by omega)]) (fun x hx => by rw [hR11]; show z_v R9.2.2 41 52 (nI (d + 1)) 41 x = _; rw [z_vn (by omega)])
  have Z13 : z_Zd (d + 1) R11 := by
    rw [hR11]
    exact (z_Zd.dn Z11).cg rfl rfl rfl rfl rfl
  have ot11 : ∀ q x, ¬ ((q = 77 ∨ q = 78) ∧ x = kk) → z_fn 0 (R11.1 q) x = z_fn 0 (R9.1 q) x := by
    intro q x a1
    rw [B11]
    by_cases e1 : q = 78
    · subst e1
      rw [z_uk, z_fcn (fun e => a1 ⟨Or.inr rfl, e⟩)]
    rw [z_un e1]
    by_cases e2 : q = 77
    · subst e2
      rw [z_uk, z_fcn (fun e => a1 ⟨Or.inl rfl, e⟩)]
    rw [z_un e2]
  -- entries of this clause, in the end
  have ent : ∀ q, 71 ≤ q → q ≤ 79 → ¬ (q = 77 ∨ q = 78) → z_fn 0 (R11.1 q) kk = z_fn 0 (R8.1 q) kk := fun q a1 a2 a3 => by rw [ot11 q kk (fun e => a3 e.1), fr9.2.2.1 q a1 a2 kk (Nat.lt_succ_self _)]
  have ent7 : ∀ q, 71 ≤ q → q ≤ 76 → z_fn 0 (R11.1 q) kk = z_fn 0 (R5.1 q) kk := fun q a1 a2 => by rw [ent q a1 (by omega) (by omega), U8a q (by omega), h4.1, g4.1]
  have ent3 : ∀ q, 71 ≤ q → q ≤ 74 → z_fn 0 (R11.1 q) kk = z_fn 0 (R3.1 q) kk := fun q a1 a2 => by rw [ent7 q a1 (by omega), B5, z_un (by omega), z_un (by omega), f4.1]
  have k71 : z_fn 0 (R11.1 71) kk = nI i := by rw [ent3 71 (by decide) (by decide), B3, z_un (by decide), z_un (by decide), z_un (by decide), z_uk, z_fcs]
  have k72 : z_fn 0 (R11.1 72) kk = nI t1.1 := by rw [ent3 72 (by decide) (by decide), B3, z_un (by decide), z_un (by decide), z_uk, z_fcs]
  have k73 : z_fn 0 (R11.1 73) kk = nI t2.1 := by rw [ent3 73 (by decide) (by decide), B3, z_un (by decide), z_uk, z_fcs]
  have k74 : z_fn 0 (R11.1 74) kk = nI (z_ll b n t2.1) := by rw [ent3 74 (by decide) (by decide), B3, z_uk, z_fcs]
  have k75 : z_fn 0 (R11.1 75) kk = nI t3.1 := by rw [ent7 75 (by decide) (by decide), B5, z_un (by decide), z_uk, z_fcs]
  have k76 : z_fn 0 (R11.1 76) kk = nI (z_ll b n t3.1) := by rw [ent7 76 (by decide) (by decide), B5, z_uk, z_fcs]
  have k77 : z_fn 0 (R11.1 77) kk = nI m9 := by rw [B11, z_un (by decide), z_uk, z_fcs]
  have k78 : z_fn 0 (R11.1 78) kk = nI t5.1 := by rw [B11, z_uk, z_fcs]
  -- instructions, in the end
  have ins : ∀ q, 14 ≤ q → q ≤ 19 → ∀ x, x < s + 1 → z_fn 0 (S10.1 q) x = z_fn 0 (S7.1 q) x := fun q a1 a2 x a3 => by rw [z3.2.1 q a1 a2 x (by omega), fc9.2.1 q a1 a2 x a3]
  have inS : ∀ q, 14 ≤ q → q ≤ 19 → ∀ x, x < s → ¬ (q = 16 ∧ x = lp) → z_fn 0 (S10.1 q) x = z_fn 0 (S.1 q) x := fun q a1 a2 x a3 a4 => by rw [ins q a1 a2 x (by omega), ot7 q x (by omega) a4, s56.2.1 q a1 a2 x a3]
  have nodes : ∀ q, (57 ≤ q ∧ q ≤ 70) ∨ q = 97 → ∀ x, x < nn → z_fn 0 (R11.1 q) x = z_fn 0 (R8.1 q) x := fun q a1 x a2 => by rw [ot11 q x (by omega), fr9.2.1 q a1 x a2]
  have r7r : ∀ q x, ¬ (71 ≤ q ∧ q ≤ 76 ∧ x = kk) → z_fn 0 (R7.1 q) x = z_fn 0 (R.1 q) x := by
    intro q x a1
    rw [h4.1, g4.1, B5]
    by_cases e1 : q = 76
    · subst e1
      rw [z_uk, z_fcn (fun e => a1 ⟨by decide, by decide, e⟩), f4.1, B3, z_un (by decide), z_un (by decide), z_un (by decide), z_un (by decide), lwB.1]
    rw [z_un e1]
    by_cases e2 : q = 75
    · subst e2
      rw [z_uk, z_fcn (fun e => a1 ⟨by decide, by decide, e⟩), f4.1, B3, z_un (by decide), z_un (by decide), z_un (by decide), z_un (by decide), lwB.1]
    rw [z_un e2, f4.1, B3]
    by_cases e3 : q = 74
    · subst e3
      rw [z_uk, z_fcn (fun e => a1 ⟨by decide, by decide, e⟩), lwB.1]
    rw [z_un e3]
    by_cases e4 : q = 73
    · subst e4
      rw [z_uk, z_fcn (fun e => a1 ⟨by decide, by decide, e⟩), lwB.1]
    rw [z_un e4]
    by_cases e5 : q = 72
    · subst e5
      rw [z_uk, z_fcn (fun e => a1 ⟨by decide, by decide, e⟩), lwB.1]
    rw [z_un e5]
    by_cases e6 : q = 71
    · subst e6
      rw [z_uk, z_fcn (fun e => a1 ⟨by decide, by decide, e⟩), lwB.1]
    rw [z_un e6, lwB.1]
  have T9 := P11.2.2.1
  refine ⟨R11, j9, t9, τ9, s9, nn9, kk9, f9, m9, P13, Z13, ⟨?_, ?_, ?_, ?_, ?_, ⟨i, i8, k71⟩, ?_⟩, ⟨k77, ?_, z4.1, ?_⟩, ⟨?_, inS⟩, ⟨?_, ?_, ?_⟩, ⟨?_, ?_⟩, ?_, ⟨te9, (fcS7.tr fc9.1).tr z3.1, ?_, x8.tr (fr9.1.tr x911)⟩, ⟨by omega, by omega, by omega, nn9', by omega, by omega⟩, ?_⟩
  · rw [ins 14 (by decide) (by decide) s (Nat.lt_succ_self s), ot7 14 s (by omega) (by omega)]
    exact v4.1
  · rw [ins 16 (by decide) (by decide) s (Nat.lt_succ_self s), ot7 16 s (by omega) (by omega)]
    exact v4.2.2.1
  · rw [k73, k74, ins 15 (by decide) (by decide) s (Nat.lt_succ_self s), ot7 15 s (by omega) (by omega), v4.2.1]
    exact nm1
  · rw [k75, k76, ins 18 (by decide) (by decide) s (Nat.lt_succ_self s), A7, z_un (by decide), z_uk, z_fcs]
    exact nm2
  · rw [k71, ins 17 (by decide) (by decide) s (Nat.lt_succ_self s), A7, z_un (by decide), z_un (by decide), z_uk, z_fcs]
  · rw [k72, ins 19 (by decide) (by decide) s (Nat.lt_succ_self s), ot7 19 s (by omega) (by omega)]
    exact v4.2.2.2.2.2
  · rw [k78]
    exact C9.mv (S' := S10) (R' := R11) (f' := f9) (u' := ((nn, nn9), (kk + 1, kk9))) (Nat.le_refl _) z3.cs ⟨fun q a b' x c e => ot11 q x (by omega), fun q a b' x c e => ot11 q x (by have : kk + 1 ≤ x := c; omega)⟩ T9.1.1 T9.2.1.1 z_Te.rf ⟨⟨Nat.le_refl _, Nat.le_refl _⟩, ⟨Nat.le_refl _, Nat.le_refl _⟩⟩
  · rw [ent 79 (by decide) (by decide) (by decide)]
    exact o79.1
  · rw [ins 16 (by decide) (by decide) lp (by omega), A7, z_uk, z_fcs]
  · rw [nodes 97 (Or.inr rfl) m hm]
    exact o97
  · rw [nodes 60 (Or.inl (by decide)) m hm]
    exact o60
  · intro q a1 x a2 a3
    rw [nodes q a1 x a2, oth8 q x a3 (by omega) (by omega), r7r q x (by omega)]
  · intro x a1 a2 a3
    rw [ot11 79 x (by omega), fr9.2.2.1 79 (by decide) (by decide) x (by omega)]
    exact o79.2 x a1 a2 a3
  · intro q a1 a2 x a3 a4
    rw [ot11 q x (by omega), fr9.2.2.1 q a1 a2 x (by omega), oth8 q x (by omega) (by omega) a4, r7r q x (by omega)]
  · intro q a1 a2 x a3
    rw [ot11 q x (by omega), fr9.2.2.2 q a1 a2 x a3, oth8 q x (by omega) (by omega) (by omega), r7r q x (by omega)]
  · intro q a1 a2 x a3
    rw [z3.2.2 q a1 a2 x a3, fc9.2.2 q a1 a2 x a3, ot7 q x (by omega) (by omega), s56.2.2 q a1 a2 x a3]
  · intro Q h
    refine ref8' Q (ref9 Q (rC P11.1.2.2.2.1 M9 Z11.1 (by have := Z11.2.1; omega) (b80.trans U8c.2.1) hm6 (b81.trans U8c.2.2) Q ?_))
    have q54 : z_v R9.2.2 41 52 (nI (d + 1)) 41 54 = nI m9 := E9
    have q55 : z_v R9.2.2 41 52 (nI (d + 1)) 41 55 = nI t5.1 := A9
    have e4 : nI (4 + kk) - 4 = nI kk := by rw [show (4 : Int32) = nI 4 from rfl, pk_sub (by omega), Nat.add_sub_cancel_left]
    refine z_ifn (nI_ne0 (by omega) (by omega)) (z_ifn (fun q => absurd ((nI_eq (a := 4 + kk) (b := 1) (by omega) (by omega)).mp q) (by omega)) (z_ifn (fun q => absurd ((nI_eq (a := 4 + kk) (b := 2) (by omega) (by omega)).mp q) (by omega)) ?_))
    unfold p179_83
    rw [e4, kc, q54, q55]
    refine ⟨ki, ki, ?_⟩
    unfold p179_107
    rw [zcn]
    have m57 : z_fn 0 (z_u (z_u R9.1 77 ((kk, nI m9) :: R9.1 77)) 78 ((kk, nI t5.1) :: R9.1 78) 57) m = 4 := by
      rw [z_un (by decide), z_un (by decide), fr9.2.1 57 (Or.inl (by decide)) m hm, oth8 57 m (by omega) (by omega) (by omega), r7r 57 m (by omega)]
      exact h57
    rw [m57]
    refine ⟨zin, z_ifn (by decide) (z_ifn (by decide) (z_ifn (by decide) (z_ifn (by decide) (z_ifn (nI_ne0 (by omega) (by omega)) ?_))))⟩
    rw [hR11] at h
    exact h.im (fun v R1 hv => ⟨hv.1, rfl, hv.2⟩)
end ZZ9
