/-! Both run together: a continuation gone on with. -/
theorem y_sm_dn {g : Nat → Nat} {F f : Nat} (h : f < F) : y_sm (y_up g f 0) F + g f = y_sm g F := by
  induction F with
  | zero => exact absurd h (Nat.not_lt_zero _)
  | succ F ih =>
    show y_sm (y_up g f 0) F + y_up g f 0 F + g f = y_sm g F + g F
    by_cases e : f = F
    · subst e
      rw [y_up_s, y_sm_cg (g := g) f (fun k hk => y_up_n (by omega))]
      omega
    · rw [y_up_n (fun q => e q.symm)]
      have := ih (by omega)
      omega
theorem y_sk_app {b : Nat → Nat} {n : Nat} {τ : z_TT} {A1 B1 A2 : Nat → List (Nat × Int32)} {ce : Nat} {rr : Nat → Int32} {rd : Nat} {fg : List Nat} {B : Nat → List (Nat × Int32)} {vr : z_F → Int32 → Int32 → Prop} {mm : Nat → Int32} {K0 : y_K} {X2 : y_X} : ∀ X1 : y_X, y_sk b n τ A1 B1 A2 ce rr rd fg B vr mm K0 (X1 ++ X2) = y_sk b n τ A1 B1 A2 ce rr rd fg B vr mm (y_sk b n τ A1 B1 A2 ce rr rd fg B vr mm K0 X2) X1 := by
  intro X1
  induction X1 with
  | nil => rfl
  | cons x X1 ih =>
    show y_st b n τ A1 B1 A2 ce rr rd fg B vr mm (y_sk b n τ A1 B1 A2 ce rr rd fg B vr mm K0 (X1 ++ X2)) x = y_st b n τ A1 B1 A2 ce rr rd fg B vr mm (y_sk b n τ A1 B1 A2 ce rr rd fg B vr mm (y_sk b n τ A1 B1 A2 ce rr rd fg B vr mm K0 X2) X1) x
    rw [ih]
theorem y_Px_app {row : Nat → y_E} {off : Nat} {X2 : y_X} : ∀ X1 : y_X, y_Px row off (X1 ++ X2) ↔ y_Px row (off + X2.length) X1 ∧ y_Px row off X2 := by
  intro X1
  induction X1 with
  | nil => exact ⟨fun h => ⟨trivial, h⟩, fun h => h.2⟩
  | cons x X1 ih =>
    show (row (off + (X1 ++ X2).length) = x.1 ∧ y_Px row off (X1 ++ X2)) ↔ ((row (off + X2.length + X1.length) = x.1 ∧ y_Px row (off + X2.length) X1) ∧ y_Px row off X2)
    rw [ih, List.length_append, show off + X2.length + X1.length = off + (X1.length + X2.length) by omega]
    exact ⟨fun h => ⟨⟨h.1, h.2.1⟩, h.2.2⟩, fun h => ⟨h.1.1, h.1.2, h.2⟩⟩
theorem y_cp_row {aw hi : Nat} : ∀ (k : Nat) (R : z_RS), (∀ j, j < hi → y_do (y_cp aw hi k R) j = y_do R j) ∧ ∀ j, j < k → y_do (y_cp aw hi k R) (hi + j) = y_aw R (aw + j) := by
  intro k R
  induction k with
  | zero => exact ⟨fun _ _ => rfl, fun j hj => absurd hj (Nat.not_lt_zero _)⟩
  | succ k ih =>
    obtain ⟨i1, i2⟩ := ih
    obtain ⟨C, hC⟩ : ∃ X, X = y_cp aw hi k R := ⟨_, rfl⟩
    rw [← hC] at i1 i2
    have hS : y_cp aw hi (k + 1) R = y_pt (hi + k) (y_aw R (aw + k)) C := by rw [hC]; rfl
    have e : ∀ j, j ≠ hi + k → y_do (y_pt (hi + k) (y_aw R (aw + k)) C) j = y_do C j := by
      intro j hj
      show (z_fn 0 (z_u (z_u (z_u (z_u C.1 111 ((hi + k, (y_aw R (aw + k)).1) :: C.1 111)) 112 ((hi + k, (y_aw R (aw + k)).2.1) :: C.1 112)) 113 ((hi + k, (y_aw R (aw + k)).2.2.1) :: C.1 113)) 114 ((hi + k, (y_aw R (aw + k)).2.2.2) :: C.1 114) 111) j, z_fn 0 (z_u (z_u (z_u (z_u C.1 111 ((hi + k, (y_aw R (aw + k)).1) :: C.1 111)) 112 ((hi + k, (y_aw R (aw + k)).2.1) :: C.1 112)) 113 ((hi + k, (y_aw R (aw + k)).2.2.1) :: C.1 113)) 114 ((hi + k, (y_aw R (aw + k)).2.2.2) :: C.1 114) 112) j, z_fn 0 (z_u (z_u (z_u (z_u C.1 111 ((hi + k, (y_aw R (aw + k)).1) :: C.1 111)) 112 ((hi + k, (y_aw R (aw + k)).2.1) :: C.1 112)) 113 ((hi + k, (y_aw R (aw + k)).2.2.1) :: C.1 113)) 114 ((hi + k, (y_aw R (aw + k)).2.2.2) :: C.1 114) 113) j, z_fn 0 (z_u (z_u (z_u (z_u C.1 111 ((hi + k, (y_aw R (aw + k)).1) :: C.1 111)) 112 ((hi + k, (y_aw R (aw + k)).2.1) :: C.1 112)) 113 ((hi + k, (y_aw R (aw + k)).2.2.1) :: C.1 113)) 114 ((hi + k, (y_aw R (aw + k)).2.2.2) :: C.1 114) 114) j) = y_do C j
      rw [z_un (show (111 : Nat) ≠ 114 by decide), z_un (show (111 : Nat) ≠ 113 by decide), z_un (show (111 : Nat) ≠ 112 by decide), z_uk, z_un (show (112 : Nat) ≠ 114 by decide), z_un (show (112 : Nat) ≠ 113 by decide), z_uk, z_un (show (113 : Nat) ≠ 114 by decide), z_uk, z_uk, z_fcn hj, z_fcn hj, z_fcn hj, z_fcn hj]
      rfl
    have es : y_do (y_pt (hi + k) (y_aw R (aw + k)) C) (hi + k) = y_aw R (aw + k) := by
      show (z_fn 0 (z_u (z_u (z_u (z_u C.1 111 ((hi + k, (y_aw R (aw + k)).1) :: C.1 111)) 112 ((hi + k, (y_aw R (aw + k)).2.1) :: C.1 112)) 113 ((hi + k, (y_aw R (aw + k)).2.2.1) :: C.1 113)) 114 ((hi + k, (y_aw R (aw + k)).2.2.2) :: C.1 114) 111) (hi + k), z_fn 0 (z_u (z_u (z_u (z_u C.1 111 ((hi + k, (y_aw R (aw + k)).1) :: C.1 111)) 112 ((hi + k, (y_aw R (aw + k)).2.1) :: C.1 112)) 113 ((hi + k, (y_aw R (aw + k)).2.2.1) :: C.1 113)) 114 ((hi + k, (y_aw R (aw + k)).2.2.2) :: C.1 114) 112) (hi + k), z_fn 0 (z_u (z_u (z_u (z_u C.1 111 ((hi + k, (y_aw R (aw + k)).1) :: C.1 111)) 112 ((hi + k, (y_aw R (aw + k)).2.1) :: C.1 112)) 113 ((hi + k, (y_aw R (aw + k)).2.2.1) :: C.1 113)) 114 ((hi + k, (y_aw R (aw + k)).2.2.2) :: C.1 114) 113) (hi + k), z_fn 0 (z_u (z_u (z_u (z_u C.1 111 ((hi + k, (y_aw R (aw + k)).1) :: C.1 111)) 112 ((hi + k, (y_aw R (aw + k)).2.1) :: C.1 112)) 113 ((hi + k, (y_aw R (aw + k)).2.2.1) :: C.1 113)) 114 ((hi + k, (y_aw R (aw + k)).2.2.2) :: C.1 114) 114) (hi + k)) = y_aw R (aw + k)
      rw [z_un (show (111 : Nat) ≠ 114 by decide), z_un (show (111 : Nat) ≠ 113 by decide), z_un (show (111 : Nat) ≠ 112 by decide), z_uk, z_un (show (112 : Nat) ≠ 114 by decide), z_un (show (112 : Nat) ≠ 113 by decide), z_uk, z_un (show (113 : Nat) ≠ 114 by decide), z_uk, z_uk, z_fcs, z_fcs, z_fcs, z_fcs]
    rw [hS]
    refine ⟨fun j hj => (e j (by omega)).trans (i1 j hj), fun j hj => ?_⟩
    by_cases q : j = k
    · rw [q]
      exact es
    · exact (e (hi + j) (by omega)).trans (i2 j (by omega))
/-- the state behind a continuation laid back -/
theorem y_rs_row {f hi aw mm d : Nat} {fu v : Int32} {R : z_RS} : (∀ q, ¬ (111 ≤ q ∧ q ≤ 114) → q ≠ 122 → q ≠ 124 → (y_rs f hi aw mm d fu v R).1 q = R.1 q) ∧ (y_rs f hi aw mm d fu v R).1 122 = (f, 0) :: R.1 122 ∧ (y_rs f hi aw mm d fu v R).1 124 = (f, 1) :: R.1 124 ∧ (∀ j, j < hi → y_do (y_rs f hi aw mm d fu v R) j = y_do R j) ∧ (∀ j, j < mm → y_do (y_rs f hi aw mm d fu v R) (hi + j) = y_aw R (aw + j)) ∧ (y_rs f hi aw mm d fu v R).2.1 = R.2.1 ∧ (∀ a k, ¬ (a = 41 ∧ (k = 96 ∨ k = 98 ∨ k = 100 ∨ k = 104 ∨ k = 105)) → (y_rs f hi aw mm d fu v R).2.2 a k = R.2.2 a k) ∧ (y_rs f hi aw mm d fu v R).2.2 41 96 = nI (hi + mm) ∧ (y_rs f hi aw mm d fu v R).2.2 41 98 = fu + 1 ∧ (y_rs f hi aw mm d fu v R).2.2 41 100 = nI d ∧ (y_rs f hi aw mm d fu v R).2.2 41 104 = v ∧ (y_rs f hi aw mm d fu v R).2.2 41 105 = 1 := by
  obtain ⟨R1, hR1⟩ : ∃ X : z_RS, X = (z_u R.1 124 ((f, 1) :: R.1 124), R.2.1, (y_cs hi fu R).2.2) := ⟨_, rfl⟩
  obtain ⟨C, hC⟩ : ∃ X, X = y_cp aw hi mm R1 := ⟨_, rfl⟩
  have o96 : R1.2.2 41 96 = nI hi := by rw [hR1]; exact y_cs_96 (R := R)
  have o1 : ∀ q, q ≠ 124 → R1.1 q = R.1 q := fun q hq => by
    rw [hR1]
    show z_u R.1 124 ((f, 1) :: R.1 124) q = R.1 q
    rw [z_un hq]
  have o124 : R1.1 124 = (f, 1) :: R.1 124 := by
    rw [hR1]
    show z_u R.1 124 ((f, 1) :: R.1 124) 124 = _
    rw [z_uk]
  obtain ⟨c1, c2, c3, c4⟩ := y_cp.o (aw := aw) (hi := hi) mm R1
  obtain ⟨r1, r2⟩ := y_cp_row (aw := aw) (hi := hi) mm R1
  rw [← hC] at c1 c2 c3 c4 r1 r2
  have hY : y_rs f hi aw mm d fu v R = y_gv v (z_u C.1 122 ((f, 0) :: R.1 122), R.2.1, z_v C.2.2 41 100 (nI d)) := by
    unfold y_rs
    rw [← hR1, ← hC]
  have hB : (y_rs f hi aw mm d fu v R).1 = z_u C.1 122 ((f, 0) :: R.1 122) := by rw [hY]; rfl
  have hU : (y_rs f hi aw mm d fu v R).2.2 = z_v (z_v (z_v C.2.2 41 100 (nI d)) 41 104 v) 41 105 1 := by rw [hY]; rfl
  have hd : ∀ j, y_do (y_rs f hi aw mm d fu v R) j = y_do C j := fun j => by
    unfold y_do
    rw [hB, z_un (show (111 : Nat) ≠ 122 by decide), z_un (show (112 : Nat) ≠ 122 by decide), z_un (show (113 : Nat) ≠ 122 by decide), z_un (show (114 : Nat) ≠ 122 by decide)]
  have u1 : ∀ a k, ¬ (a = 41 ∧ (k = 98 ∨ k = 96)) → R1.2.2 a k = R.2.2 a k := fun a k hk => by
    rw [hR1]
    show z_v (z_v R.2.2 41 96 (nI hi)) 41 98 (fu + 1) a k = _
    rw [z_vn (fun q => hk ⟨q.1, Or.inl q.2⟩), z_vn (fun q => hk ⟨q.1, Or.inr q.2⟩)]
  refine ⟨fun q h1 h2 h3 => ?_, ?_, ?_, fun j hj => ?_, fun j hj => ?_, by rw [hY]; rfl, fun a k hk => ?_, ?_, ?_, ?_, ?_, ?_⟩
  · rw [hB, z_un h2, c1 q h1, o1 q h3]
  · rw [hB, z_uk]
  · rw [hB, z_un (by decide), c1 124 (by omega), o124]
  · rw [hd, r1 j hj]
    unfold y_do
    rw [o1 111 (by decide), o1 112 (by decide), o1 113 (by decide), o1 114 (by decide)]
  · rw [hd, r2 j hj]
    unfold y_aw
    rw [o1 115 (by decide), o1 116 (by decide), o1 117 (by decide), o1 118 (by decide)]
  · rw [hU, z_vn (fun q => hk ⟨q.1, by omega⟩), z_vn (fun q => hk ⟨q.1, by omega⟩), z_vn (fun q => hk ⟨q.1, by omega⟩), c3 a k (fun q => hk ⟨q.1, by omega⟩), u1 a k (fun q => hk ⟨q.1, by omega⟩)]
  · rw [hU, z_vn (by decide), z_vn (by decide), z_vn (by decide), c4 o96]
  · rw [hU, z_vn (by decide), z_vn (by decide), z_vn (by decide), c3 41 98 (by decide), hR1]
    exact y_cs_98 (R := R)
  · rw [hU, z_vn (by decide), z_vn (by decide), z_vk]
  · rw [hU, z_vn (by decide), z_vk]
  · rw [hU, z_vk]
section YGO
variable {b : Nat → Nat} {n : Nat} {τ : z_TT} {A1 B1 A2 : Nat → List (Nat × Int32)} {S0 : z_CS} {R0 : z_RS} {ce : Nat} {tt0 : z_F} {most : Nat} {f0 : Int32} {Φ : z_V → z_CS → Option Value → z_RS → Prop}
variable {S S' : z_CS} {R R' : z_RS} {tp bs rd pc : Nat} {fu : Int32} {th dp : Nat} {X : y_X} {cs0 : List Nat} {al : Nat → Prop} {φ : Nat → Nat} {ψ : Nat → z_F} {F : Nat} {fg : List Nat} {fc : Nat → List Nat} {Y : Nat → y_X} {pd cp : Nat → Nat} {aw ph fl Ψ m e : Nat} {Γ : List z_F} {tt t : z_F} {wt : Nat} {u : z_Bd} {v : Int32} {D : y_D} {en tl : Nat} {cv : List Nat} {f i k p : Nat} {x : y_E × List Nat}
variable {s tp0 en0 tl0 : Nat} {cv0 : List Nat}
theorem y_g_goon {x1 y g f1 : Nat} {t1 : z_F} {v1 v2 : z_Bd} (hp : y_Pg b n A1 B1 A2 S0 R0 ce tt0 most) (hC : y_Cr b n τ A1 B1 A2 S0 R0 ce most f0 (tp0 + 2) bs rd (e - 1) fu th dp (x :: X) cs0 al φ ψ F fg fc Y pd cp aw ph fl Ψ S R) (hi : i + Ψ ≤ 99999990) (hu : R.2.2 41 105 = 1 ∧ R.2.2 41 104 = v ∧ e - 1 < ce) (hm : x.1.2.1 = nI m) (hm6 : m < 600) (hse : s < e ∧ u.1.1 ≤ m ∧ m < u.1.2 ∧ e < ce) (hB : y_Bs b n A1 ce (z_rq S) R.1 (y_vr φ ψ F) (z_mm S) (y_SK b n τ A1 B1 A2 ce tt0 rd φ ψ F fg X S R) D tp0 bs s e Γ tt wt u x.2 x.1.2.2.2 en0 tl0 cv0 ph) (hw : x.1.1 = 5) (hc : y_c10 b n τ A1 B1 f wt u m s e Γ tt x1 y g t1 v1 v2) (hfF : f1 < F) (hvv : x.1.2.2.1 = nI f1) (hmm : z_mm S tp0 = nI (φ f1)) (hψ : ψ f1 = z_fz t1 tt) (hck : y_Ck b n τ A1 B1 A2 ce (z_rq S) rd fg R.1 (y_vr φ ψ F) (y_aw R) aw (φ f1) f1 (ψ f1) (Y f1) (pd f1) (cp f1)) (hcs : fc f1 = []) (hv : y_vr φ ψ F t1 (z_mm S (tp0 + 1)) v) (hfl : 1 ≤ fl) (kE : ∀ S' R' r, y_En S0 R0 S' R' → Φ (.inl (some (.int r))) S' (some (.int r)) R') (kV : ∀ S' R', y_V b n τ A1 B1 A2 S0 R0 ce tt0 most f0 (Ψ - 1) S' R' → 1 ≤ Ψ → y_J most f0 Φ (i + 1) S' R') : y_J most f0 Φ i S R := by
  have hl := y_vl (tp := tp0 + 1) hC hu hm hm6
  rw [hw, hvv] at hl
  have c47 := hp.1.2.1
  obtain ⟨-, fz, -⟩ := hC.fuel hp
  obtain ⟨fz1, fz2, fz3⟩ := fz hfl
  obtain ⟨d1, d2, d3, ⟨d4, d4'⟩, d5⟩ := id hC
  obtain ⟨p1, -⟩ := d2.pop
  obtain ⟨hfr, l100, lk, Xl, tpl, bsl, L, L1, L2, L3⟩ := hB.fr
  have dp4 : dp ≤ 400 := d2.2.2.1.2.1
  have hF := d2.F1
  have th1 : th ≤ 1000 := d2.2.2.1.1
  obtain ⟨u96, u97, u98, u99, u100, u114, u94⟩ := d2.2.1
  have edp : y_dp X = dp := by
    have : y_dp X + (if x.1.1 < 7 then 0 else 1) = dp := d3
    rw [if_pos (by rw [hw]; decide)] at this
    exact this
  have op15 := hp.op (o := 15) hu.2.2 hc.2.2.2.2.2.2.2.2 (by decide) (by decide)
  have g9 := hc.2.2.2.2.1
  have g8 := hc.2.2.2.1
  obtain ⟨s1, s5, s6, s7, k, p', s8, s9⟩ := id hB
  obtain ⟨a1, a2, pm, ta, an, ⟨c1, c2, c3⟩, ⟨e1, e2, e3, e4, e5, e6⟩, hte, hk⟩ := id hck
  rw [hψ] at hte
  obtain ⟨hta, htr⟩ := z_fz_inj hte
  subst hta
  subst htr
  have op16 := hp.op (o := 16) (j := pm) (by omega) c3 (by decide) (by decide)
  have rfE : ∀ st : Int32, y_Rf R0 (y_iv 94 st (y_cs X.length fu R)) := fun st => (d2.1.iv (j := 96) (by decide)).iv (j := 98) (by decide) |>.iv (j := 94) (by decide)
  rcases hk with ⟨k1, k2, k3, k4⟩ | ⟨k1, k2, tf, len, aw1, ⟨l1, l2, l3, l4⟩, ⟨m1, m2, m3, m4, m5, m6⟩, X1, hx, D1, ka, pa, en1, tl1, cv1, ph1, n1, n2, n3, n4⟩
  · refine g_goone (st := 3) (fr := pd f1) (pm := pm) (ct := φ f1) d1 hp.2.1.1 hu.2.2 op15 fz2 (by omega) hmm c1 (by omega) op16 e5 e1 (Or.inl ⟨rfl, k2⟩) (fun S1 hz => ?_)
    refine y_g5t hl fz1 u98 (by omega) a1 k1 ?_
    exact kE S1 _ _ (y_En.mk hz (rfE 3) y_iv_k ((y_iv_n (by decide)).trans y_cs_98) ((y_iv_n (by decide)).trans ((y_cs_n (by decide) (by decide)).trans u99)) ((y_iv_n (by decide)).trans ((y_cs_n (by decide) (by decide)).trans u100)) (by decide))
  · by_cases hd : dp + pd f1 ≤ 400
    · have kh := y_sk.bd y_Kh.bd X1 D1 len tf pa t1 en1 tl1 cv1 ph1 n4
      have h8 : hx.1.1 = 8 := y_sk.k0 (fun D tp bs p t en tl cv ph h => h.2.1) X1 D1 len tf pa t1 en1 tl1 cv1 ph1 n4
      have dX : y_dp X1 + 1 = pd f1 := by
        rw [← m6, n1, y_dp_app]
        show y_dp X1 + 1 = y_dp X1 + (0 + (if hx.1.1 < 7 then 0 else 1))
        rw [h8, if_neg (by decide)]
      obtain ⟨i1, i2, i3, i4, ⟨i5, i5'⟩, -⟩ := kh
      have Yl : (Y f1).length = X1.length + 1 := by rw [n1, List.length_append]; rfl
      have aw3 : aw ≤ 326 * th := d2.2.2.1.2.2.1
      refine y_J.re ?_ (fun Q q => y_g5r hl fz1 u98 (by omega) a1 k1 u100 m3 hd m1 m2 (by omega) (by omega) q)
      refine g_goon (ct := φ f1) (len := len) (tf := tf) (fr := pd f1) (pm := pm) d1 hp.2.1.1 hu.2.2 op15 fz2 (by omega) bsl.1 hmm c1 (by omega) op16 k2 e5 l2 l1 (by omega) l3 (by omega) hd (fun S1 hM q1 m0 m1' mx mv q2 q3 => ?_)
      rw [show e - 1 + 1 = e by omega] at m0
      obtain ⟨r1, r122, r124, rlo, rhi, rM, ru, r96, r98, r100, r104, r105⟩ := y_rs_row (f := f1) (hi := X.length) (aw := aw1) (mm := (Y f1).length) (d := dp + pd f1) (fu := fu) (v := v) (R := R)
      obtain ⟨R1, hR1⟩ : ∃ X', X' = y_rs f1 X.length aw1 (Y f1).length (dp + pd f1) fu v R := ⟨_, rfl⟩
      rw [← hR1] at r1 r122 r124 rlo rhi rM ru r96 r98 r100 r104 r105 ⊢
      have sB : ∀ c, y_sB R.1 R1.1 c := fun c => y_sB.of (fun q a d => r1 q (by omega) (by omega) (by omega))
      have nx : y_nx R1.1 = y_nx R.1 := by
        funext d
        unfold y_nx
        rw [r1 101 (by omega) (by omega) (by omega)]
      have hr : ∀ x, x < rd → ¬ x ∈ fg → z_rq S1 x = z_rq S x ∧ ¬ x ∈ fg := fun x hx hg => ⟨q2 x hx (fun q => hg (by rw [q]; exact e3)), hg⟩
      -- the fold
      have sk := (y_SK.mo (S' := S1) (R' := R1) (T := tp0) (fg' := fg) (rd' := rd) (fun x _ hx => q1 x hx) hr (Nat.le_refl _) (fun _ _ _ q => q) (fun _ _ c _ => sB c) (Nat.le_refl _) s9).2
      have mm2 : ∀ z, 2 ≤ z → z < len → z_mm S1 (z + tp0) = z_rq S (φ f1 + 5 + z) := fun z a c => by rw [Nat.add_comm]; exact mx z a c
      have fold := (y_sk.mo (mm := fun z => z_rq S (φ f1 + 5 + z)) (mm' := z_mm S1) (o := tp0) (d := ph + (4601 - e)) (T := len) (rr := z_rq S) (rr' := z_rq S1) (rd := rd) (rd' := rd) (fg := fg) (fg' := fg) (B := R.1) (B' := R1.1) (vr := y_vr φ ψ F) (vr' := y_vr φ ψ F) (K0' := y_sk b n τ A1 B1 A2 ce (z_rq S1) rd fg R1.1 (y_vr φ ψ F) (z_mm S1) (y_Kr A1 A2 ce (z_rq S1) rd fg tt0 (z_mm S1)) (hx :: X)) mm2 hr (Nat.le_refl _) (fun _ _ _ q => q) (fun Dk tpk bsk pk tk enk tlk cvk phk hT hK => by
        obtain ⟨w1, w2, w3, w4, w5, w6, w7, mh, w8, w9, sh, eh, ffh, wth, uh, Γh, y1h, y2h, gh, hh, rh, v1h, v2h, w10, w11⟩ := hK
        refine ⟨w7, mh, w8, w9, w5, Or.inr ⟨w3, w4, by omega, w7.mo mm2 hr (Nat.le_refl _) hT, Or.inr ⟨w2, sh, eh, ffh, wth, uh, Γh, tt, y1h, y2h, gh, hh, rh, v1h, v2h, w10.mo mm2 hr (fun _ _ _ q => q) hT w7 (fun c _ => sB c), w11, e, tp0 - bs, D, k, p', en0, tl0, cv0, ph, ⟨by rw [w1, Nat.zero_add]; exact m0, by rw [w1, Nat.zero_add]; exact m1', by have := hfr.1; omega, by omega, hse.2.2.2, by omega⟩, s8, ?_⟩⟩⟩
        rw [w1, Nat.zero_add, show tp0 - (tp0 - bs) = bs by omega]
        exact sk) X1 D1 len tf pa t1 en1 tl1 cv1 ph1 (Nat.le_refl _) (fun _ _ c _ => sB c) n4).2
      rw [← y_sk_app] at fold
      have eX : X1 ++ hx :: X = Y f1 ++ X := by
        rw [n1, List.append_assoc]
        rfl
      rw [eX] at fold
      have fold : y_SK b n τ A1 B1 A2 ce tt0 rd φ ψ F fg (Y f1 ++ X) S1 R1 D1 (len + tp0) (tf + tp0) pa t1 en1 tl1 cv1 (ph1 + (ph + (4601 - e))) := fold
      have edp' : y_dp (Y f1 ++ X) = dp + pd f1 := by
        rw [y_dp_app, m6, edp]
        omega
      obtain ⟨j1, j2, j3, j4, j5, j6, -, Lx, j10, j11⟩ := fold.bd
      rw [edp'] at j1 j3 j10
      have Xl' : (Y f1 ++ X).length = X.length + (Y f1).length := by rw [List.length_append]; omega
      -- the reference
      obtain ⟨⟨rf1, rf2, rf3⟩, -, ⟨nn1, nn2, nn3, nn4, nn5, nn6, nn7⟩, ⟨ff1, ff2, ff3, ff4⟩, ⟨x1', ⟨x2', x3'⟩, x5', x6'⟩, ⟨⟨cc, fl', ⟨aa1, aa2, aa6, aa7⟩, aa8⟩, aa3, aa4, aa5⟩⟩ := id p1
      have ych := (ff1 f1 hfF).ch
      have smd := y_sm_dn (g := cp) hfF
      have gr : y_Gr b n τ A1 B1 A2 ce R0 (z_rq S1) rd (fu + 1) th (dp + pd f1) (Y f1 ++ X) cs0 al φ ψ F fg fc (y_up Y f1 []) pd (y_up cp f1 0) aw R1 := by
        refine ⟨⟨fun k hk => (r1 k (by omega) (by omega) (by omega)).trans (rf1 k hk), rM.trans rf2, fun a k hk => (ru a k (fun q => hk ⟨q.1, by omega⟩)).trans (d2.1.2.2 a k hk)⟩, ⟨by rw [r96, Xl'], by rw [ru 41 97 (by decide)]; exact u97, r98, by rw [ru 41 99 (by decide)]; exact u99, r100, by rw [ru 41 114 (by decide)]; exact u114, by rw [ru 41 94 (by decide)]; exact u94⟩, ⟨nn1, hd, nn3, nn4, by omega, nn6, by omega⟩, ⟨fun f hf => ?_, ff2, ff3, ff4⟩, ⟨?_, ⟨by rw [nx, ru 41 103 (by decide)]; exact d2.2.2.2.2.1.2.1.1, x3'⟩, fun e he => ?_, cv1 ++ Lx, by rw [List.length_append]; omega, fun e he c hc => List.mem_append.mpr (j11 e he c hc)⟩, ⟨⟨cc, fl', ⟨by rw [ru 41 77 (by decide)]; exact aa1, aa2, by rw [nx, ru 41 122 (by decide)]; exact aa6, aa7⟩, aa8⟩, aa3, fun e he => ?_, fun f hf => ?_⟩⟩
        · by_cases ef : f = f1
          · subst ef
            rw [y_up_s, y_up_s]
            refine Or.inr ⟨⟨by rw [r1 119 (by omega) (by omega) (by omega)]; exact a1, by rw [r1 120 (by omega) (by omega) (by omega)]; exact a2, pm, t1, tt, ⟨by rw [(hr _ (by omega) e2).1]; exact c1, c2, c3⟩, ⟨e1, e2, e3, e4, by rw [(hr _ (by omega) e4).1]; exact e5, e6⟩, hψ, Or.inl ⟨by rw [r124, z_fcs]; decide, q3, by rw [r122, z_fcs], rfl⟩⟩, hcs⟩
          · rw [y_up_n ef, y_up_n ef]
            refine (ff1 f hf).mo hr (Nat.le_refl _) (fun _ _ _ q => q) (fun c _ => sB c) (fun _ _ c _ => sB c) (fun q a c => ?_) (fun j _ => ?_) (Nat.le_refl _) (fun g1 g2 => ⟨q2 _ g1 ?_, g2⟩)
            · by_cases h1 : q = 122
              · rw [h1, r122, z_fcn ef]
              · by_cases h2 : q = 124
                · rw [h2, r124, z_fcn ef]
                · rw [r1 q (by omega) h1 h2]
            · unfold y_aw
              rw [r1 115 (by omega) (by omega) (by omega), r1 116 (by omega) (by omega) (by omega), r1 117 (by omega) (by omega) (by omega), r1 118 (by omega) (by omega) (by omega)]
              rfl
            · intro q
              rcases Nat.lt_or_gt_of_ne ef with h1 | h1
              · have := ff2 f f1 h1 hfF
                omega
              · have := ff2 f1 f h1 hf
                omega
        · refine (y_Px_app (Y f1)).mpr ⟨?_, x1'.mo X (fun j hj => ?_)⟩
          · rw [Nat.zero_add]
            have gen : ∀ (Z : y_X), Z.length ≤ (Y f1).length → y_Px (y_aw R) aw1 Z → y_Px (y_do R1) X.length Z := by
              intro Z
              induction Z with
              | nil => intro _ _; trivial
              | cons z Z ih =>
                intro hz hq
                rw [List.length_cons] at hz
                exact ⟨(rhi Z.length (by omega)).trans hq.1, ih (by omega) hq.2⟩
            exact gen (Y f1) (Nat.le_refl _) m5
          · exact rlo j (by omega)
        · rw [nx]
          rcases List.mem_append.mp he with he | he
          · exact ych.2.2.1 e he
          · exact x5' e he
        · rcases List.mem_append.mp he with he | he
          · exact (aa5 f1 hfF).2 e he
          · exact aa4 e he
        · by_cases ef : f = f1
          · subst ef
            rw [y_up_s]
            exact ⟨(aa5 f hf).1, fun e he => by cases he⟩
          · rw [y_up_n ef]
            exact aa5 f hf
      refine kV S1 R1 ⟨tp0 + len, tp0 + tf, rd, pm + 1, fu + 1, th, dp + pd f1, Y f1 ++ X, cs0, al, φ, ψ, F, fg, fc, _, pd, _, aw, ph1 + (ph + (4601 - e)), fl - 1, ka, pa, t1, v, D1, en1, tl1, cv1, ⟨hM, gr, edp', ⟨fz3, by omega⟩, by omega⟩, ⟨r105, r104, by omega⟩, n2, ?_, by rw [mv]; exact hv⟩ (by omega)
      rw [Nat.add_comm tp0 len, Nat.add_comm tp0 tf]
      exact fold
    · refine g_goone (st := 6) (fr := pd f1) (pm := pm) (ct := φ f1) d1 hp.2.1.1 hu.2.2 op15 fz2 (by omega) hmm c1 (by omega) op16 e5 e1 (Or.inr ⟨rfl, k2, by omega, e6, by omega⟩) (fun S1 hz => ?_)
      refine y_g5e hl fz1 u98 (by omega) a1 k1 u100 m3 (by omega) (by omega) ?_
      exact kE S1 _ _ (y_En.mk hz (rfE 6) y_iv_k ((y_iv_n (by decide)).trans y_cs_98) ((y_iv_n (by decide)).trans ((y_cs_n (by decide) (by decide)).trans u99)) ((y_iv_n (by decide)).trans ((y_cs_n (by decide) (by decide)).trans u100)) (by decide))
end YGO
