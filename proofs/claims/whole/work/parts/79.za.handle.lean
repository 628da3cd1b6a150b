/-! Reading programs, both together: the clauses of a handle. -/
theorem z_li_mem : ∀ (r : List (Nat × Nat)) (i : Nat), z_li r = some i → ∃ y, (i, y) ∈ r := by
  intro r
  induction r with
  | nil => intro i h; cases h
  | cons a r ih =>
    intro i h
    obtain ⟨i0, y0⟩ := a
    have h2 : some ((z_li r).getD i0) = some i := h
    cases hr : z_li r with
    | none =>
      rw [hr] at h2
      have e : i0 = i := Option.some.inj h2
      exact ⟨y0, by rw [e]; exact List.mem_cons_self ..⟩
    | some i' =>
      rw [hr] at h2
      have e : i' = i := Option.some.inj h2
      obtain ⟨y, hy⟩ := ih i' hr
      exact ⟨y, by rw [← e]; exact List.mem_cons_of_mem _ hy⟩
/-- a part of a handle: which nodes and clauses it has -/
def z_Pr (b : Nat → Nat) (n me : Nat) (τ : z_TT) (A B : Nat → List (Nat × Int32)) (nn nn' kk kk' W F : Nat) (r : List (Nat × Nat)) (g x y : Nat) (p : Int32) : Prop := ∃ (ub : z_Bd) (fb : Nat), fb ≤ F ∧ (nn ≤ ub.1.1 ∧ ub.1.2 ≤ nn') ∧ (kk ≤ ub.2.1 ∧ ub.2.2 ≤ kk') ∧ (∀ c, c ∈ r → c.1 < ub.2.1 ∨ ub.2.2 ≤ c.1) ∧ z_Cp b n me τ A B ub fb W g x y p
/-- a handle, up to its clauses so far -/
def z_Hw (b : Nat → Nat) (n me : Nat) (ep : Nat → Nat) (d j0 : Nat) (τ0 : z_TT) (s0 nn0 kk0 w : Nat) (S0 : z_CS) (R0 : z_RS) (p0 : Nat) (j : Nat) (t : Nat × Nat × Int32) (lp : Nat) (S : z_CS) (R : z_RS) (τ : z_TT) (s nn kk F : Nat) (r : List (Nat × Nat)) (x y g h nb : Nat) : Prop :=
  z_P b n me ep j t τ s nn kk w S R ∧ z_Zd (d + 1) R ∧ z_fn 0 (R.1 57) nn0 = 4 ∧
    (z_fn 0 (R.1 58) nn0 = nI x ∧ z_fn 0 (R.1 59) nn0 = nI y ∧ s0 + 1 < g ∧ g + 1 < h ∧ h < s ∧ z_fn 0 (S.1 14) s0 = 21 ∧ z_Pr b n me τ S.1 R.1 (nn0 + 1) nb kk0 kk (z_wx (d + 1)) F r x (s0 + 1) g (z_fn 0 (R.1 61) nn0) ∧ z_fn 0 (S.1 14) g = 22 ∧ z_Nm b n (z_fn 0 (R.1 64) nn0) (z_fn 0 (S.1 15) g) (z_fn 0 (R.1 65) nn0) ∧ z_fn 0 (S.1 16) g = z_fn 0 (R.1 70) nn0 ∧ z_Pr b n me τ S.1 R.1 nb nn kk0 kk (z_wx (d + 1)) F r y (g + 1) h (z_fn 0 (R.1 62) nn0) ∧ z_fn 0 (S.1 14) h = 23) ∧
    ((nn0 < nb ∧ nb ≤ nn) ∧ z_Cc b n me S.1 R.1 ((nn0 + 1, nn), (kk0, kk)) (z_Pr b n me τ S.1 R.1 nb nn kk0 kk (z_wx (d + 1)) F r) s r (z_fn 0 (R.1 60) nn0) s0 (h + 1) ∧ z_lp r s0 (h + 1) = lp ∧ z_so r kk0 ∧ (∀ i, z_li r = some i → i < kk ∧ z_fn 0 (R.1 97) nn0 = nI i) ∧ (r.isEmpty = true ∧ z_fn 0 (R.1 60) nn0 = -1 ∨ r.isEmpty = false ∧ 0 ≤ z_fn 0 (R.1 60) nn0)) ∧
    (z_FR nn0 kk0 d R0 R ∧ (z_fn 0 (R.1 80) d = R0.2.2 41 73 ∧ z_fn 0 (R.1 81) d = R0.2.2 41 74 ∧ z_fn 0 (R.1 83) d = R0.2.2 41 75 ∧ z_fn 0 (R.1 82) d = nI p0) ∧ z_Te τ0 τ ∧ z_FC s0 w S0 S) ∧ (j0 < j ∧ s + 1 + 3 * j0 ≤ s0 + 3 * j ∧ 5 * kk + j0 ≤ 5 * kk0 + j ∧ nn0 < nn ∧ kk0 ≤ kk) ∧
    ∀ Q, z_WR 17 182 0 [(0, .ref 148), (1, .int (nI nn0))] [] R (fun x R1 => x = none ∧ z_Hq Q R1) → z_Hq Q R0
def z_Hvz (b : Nat → Nat) (n me : Nat) (ep : Nat → Nat) (d j0 : Nat) (τ0 : z_TT) (s0 nn0 kk0 w : Nat) (S0 : z_CS) (R0 : z_RS) (p0 : Nat) (j : Nat) (t : Nat × Nat × Int32) (lp : Nat) (S : z_CS) (R : z_RS) : Prop := ∃ (τ : z_TT) (s nn kk F : Nat) (r : List (Nat × Nat)) (x y g h nb : Nat), z_Hw b n me ep d j0 τ0 s0 nn0 kk0 w S0 R0 p0 j t lp S R τ s nn kk F r x y g h nb
section ZZA
variable {b : Nat → Nat} {n me : Nat} {ep : Nat → Nat} {j j0 : Nat} {t : Nat × Nat × Int32} {τ τ0 : z_TT} {s nn kk w d k lp s0 nn0 kk0 p0 F x y g h nb : Nat} {r : List (Nat × Nat)} {S S0 S' : z_CS} {R R0 : z_RS}
theorem z_hvb {j0 j j' s0 s y1 kk0 kk kk' : Nat} (h1 : s + 1 + 3 * j0 ≤ s0 + 3 * j) (h2 : 5 * kk + j0 ≤ 5 * kk0 + j) (h3 : j0 < j) (h4 : kk0 ≤ kk) (l1 : j < j') (l2 : y1 + 1 + 3 * j ≤ s + 3 * j') (l3 : 5 * kk' + j ≤ 5 * kk + j') (l5 : kk < kk') : j0 < j' ∧ y1 + 1 + 1 + 3 * j0 ≤ s0 + 3 * j' ∧ 5 * kk' + j0 ≤ 5 * kk0 + j' ∧ kk0 ≤ kk' := ⟨by omega, by omega, by omega, by omega⟩
/-- one clause more -/
theorem z_Hw.step (hv : z_Hw b n me ep d j0 τ0 s0 nn0 kk0 w S0 R0 p0 j t lp S R τ s nn kk F r x y g h nb) (hk3 : kk < 300) (hc : z_Clz b n me ep d j τ s nn kk w nn0 lp S R S') : ∃ j' t' R', j < j' ∧ z_Hvz b n me ep d j0 τ0 s0 nn0 kk0 w S0 R0 p0 j' t' s S' R' := by
  obtain ⟨hp, hz, h57, ⟨h58, h59, g1, g2, g3, a14, hx, a14g, hnm, a16g, hy, a14h⟩, ⟨⟨nb1, nb2⟩, hcc, hlp, hso, hli, hem⟩, ⟨hfr, hcell, hte, hfc⟩, ⟨b1, b2, b3, b4, b5⟩, href⟩ := hv
  obtain ⟨R', j', t', τ', y1, nn', kk', f, g', P', Z', ⟨c1, c2, c3, c4, c5, c6, c7⟩, ⟨e1, e2, e3, e4⟩, ⟨i1, i2⟩, ⟨k1, k2, k3⟩, ⟨q1, q2⟩, cel, ⟨te, xc, wt, xr⟩, ⟨l1, l2, l3, l4, l5, l6⟩, ref⟩ := hc
  have po := z_Cc.pos r _ s0 (h + 1) (by omega) hcc
  rw [hlp] at po
  have T := hp.2.2.1
  -- which clause was the last
  have last : ∀ i, i < kk → 0 ≤ z_fn 0 (R.1 60) nn0 → z_fn 0 (R.1 97) nn0 = nI i → z_li r = some i := by
    intro i hi h0 h97
    rcases hem with ⟨hem, e0⟩ | ⟨hem, -⟩
    · rw [e0] at h0
      exact absurd h0 (by decide)
    · cases r with
      | nil => cases hem
      | cons a r2 =>
        obtain ⟨ia, ya⟩ := a
        have e : z_li ((ia, ya) :: r2) = some ((z_li r2).getD ia) := rfl
        obtain ⟨u1, u2⟩ := hli _ e
        rw [e]
        congr 1
        exact (nI_eq (by omega) (by omega)).mp (u2.symm.trans h97)
  have mvP : ∀ lo hi hi', nn0 < lo → hi ≤ nn → hi ≤ hi' → ∀ g x y p, s0 ≤ x → y < s → ¬ (x ≤ lp ∧ lp < y) → z_Pr b n me τ S.1 R.1 lo hi kk0 kk (z_wx (d + 1)) F r g x y p → z_Pr b n me τ' S'.1 R'.1 lo hi' kk0 kk' (z_wx (d + 1)) (max F f) (r ++ [(kk, y1)]) g x y p := by
    intro lo hi hi' hlo hhi hhi' g x y p hx hy hlp ⟨ub, fb, u1, u2, u3, u4, u5⟩
    refine ⟨ub, fb, Nat.le_trans u1 (Nat.le_max_left _ _), ⟨u2.1, Nat.le_trans u2.2 hhi'⟩, ⟨u3.1, Nat.le_trans u3.2 (Nat.le_of_lt l5)⟩, fun c hc => ?_, ?_⟩
    · rcases List.mem_append.mp hc with hc | hc
      · exact u4 c hc
      · cases hc with
        | head => exact Or.inr u3.2
        | tail _ hc => cases hc
    · refine u5.mv (S' := S') (R' := R') (f' := fb) (u' := ub) (Nat.le_refl _) (fun q a c x' e1 e2 => i2 q a c x' (by omega) (by omega)) ⟨fun q a c x' e1 e2 => k3 q (Or.inl ⟨a, c⟩) x' (by omega) (by omega), fun q a c x' e1 e2 => q2 q a c x' (by omega) ?_⟩ T.1.1 T.2.1.1 te ⟨⟨Nat.le_refl _, Nat.le_refl _⟩, ⟨Nat.le_refl _, Nat.le_refl _⟩⟩
      rintro ⟨-, h0, h97⟩
      have hl := last x' (by omega) h0 h97
      obtain ⟨yy, hyy⟩ := z_li_mem r x' hl
      have := u4 (x', yy) hyy
      have : x' < ub.2.1 ∨ ub.2.2 ≤ x' := this
      omega
  have lps : lp < s := po.2.2.1
  have cc := z_Cc.app (A := S.1) (A' := S'.1) (B := R.1) (B' := R'.1) (u := ((nn0 + 1, nn), (kk0, kk))) (u' := ((nn0 + 1, nn'), (kk0, kk'))) (P := z_Pr b n me τ S.1 R.1 nb nn kk0 kk (z_wx (d + 1)) F r) (P' := z_Pr b n me τ' S'.1 R'.1 nb nn' kk0 kk' (z_wx (d + 1)) (max F f) (r ++ [(kk, y1)])) (s0 := s0) (e := s) (e' := y1 + 1) (k := kk) (y1 := y1) (lp := lp) (li := z_li r)
    (fun q a c x' e1 e2 e3 => i2 q a c x' e2 e3) i1 (fun q a c x' e1 e2 e3 => q2 q a c x' e2 (fun e => e3 ⟨e.1, last x' e2 e.2.1 e.2.2⟩)) (fun i hi => ?_) ⟨Nat.le_refl _, Nat.le_of_lt l5⟩ (mvP nb nn nn' nb1 (Nat.le_refl _) (Nat.le_of_lt l4)) ⟨b5, l5, by omega, rfl⟩ c1 c3 c4 c5 c6 c7 ⟨g', e1, ((nn, nn'), (kk + 1, kk')), f, Nat.le_max_right _ _, ⟨nb2, Nat.le_refl _⟩, ⟨Nat.le_succ_of_le b5, Nat.le_refl _⟩, fun c hc => ?_, e2⟩ e3 e4 c2 r kk0 _ s0 (h + 1) (Nat.le_refl _) (by omega) hso hlp (fun _ => rfl) hcc
  · have n0 : ∀ q, (57 ≤ q ∧ q ≤ 70) ∨ q = 97 → ¬ (q = 60 ∨ q = 97) → z_fn 0 (R'.1 q) nn0 = z_fn 0 (R.1 q) nn0 := fun q a c => k3 q a nn0 b4 (fun e => c e.2)
    have ge : g < s := by omega
    have hlg : ¬ lp = g := by omega
    have hlh : ¬ lp = h := by omega
    refine ⟨j', t', R', l1, τ', y1 + 1, nn', kk', max F f, r ++ [(kk, y1)], x, y, g, h, nb, P', Z', (n0 57 (by decide) (by decide)).trans h57, ⟨(n0 58 (by decide) (by decide)).trans h58, (n0 59 (by decide) (by decide)).trans h59, g1, g2, by omega, (i2 14 (by decide) (by decide) s0 (by omega) (by omega)).trans a14, ?_, (i2 14 (by decide) (by decide) g ge (by omega)).trans a14g, ?_, ?_, ?_, (i2 14 (by decide) (by decide) h g3 (by omega)).trans a14h⟩, ⟨⟨nb1, Nat.le_trans nb2 (Nat.le_of_lt l4)⟩, ?_, z_Cc.lpa r _ s0 (h + 1) hcc, z_so_app r kk0 hso b5 (fun i hi => (hli i hi).1), fun i hi => ?_, Or.inr ⟨?_, ?_⟩⟩, ⟨?_, ⟨(cel 80 (by decide) (by decide) d (Nat.lt_succ_self _)).trans hcell.1, (cel 81 (by decide) (by decide) d (Nat.lt_succ_self _)).trans hcell.2.1, (cel 83 (by decide) (by decide) d (Nat.lt_succ_self _)).trans hcell.2.2.1, (cel 82 (by decide) (by decide) d (Nat.lt_succ_self _)).trans hcell.2.2.2⟩, hte.tr te, ?_⟩, ?_, fun Q hQ => href Q (ref Q hQ)⟩
    · rw [n0 61 (by decide) (by decide)]
      exact mvP (nn0 + 1) nb nb (Nat.lt_succ_self _) nb2 (Nat.le_refl _) x (s0 + 1) g _ (by omega) ge (by omega) hx
    · rw [n0 64 (by decide) (by decide), n0 65 (by decide) (by decide), i2 15 (by decide) (by decide) g ge (by omega)]
      exact hnm
    · rw [n0 70 (by decide) (by decide), i2 16 (by decide) (by decide) g ge (by omega)]
      exact a16g
    · rw [n0 62 (by decide) (by decide)]
      exact mvP nb nn nn' nb1 (Nat.le_refl _) (Nat.le_of_lt l4) y (g + 1) h _ (by omega) g3 (by omega) hy
    · have e60 : z_fn 0 (R'.1 60) nn0 = (if r.isEmpty = true then nI kk else z_fn 0 (R.1 60) nn0) := by
        rw [k2]
        rcases hem with ⟨hem, e0⟩ | ⟨hem, e0⟩
        · rw [if_pos hem, e0]
          rfl
        · rw [if_pos e0, hem]
          rfl
      rw [e60]
      exact cc
    · rw [z_li_app] at hi
      have e : kk = i := Option.some.inj hi
      subst e
      exact ⟨l5, k1⟩
    · cases r <;> rfl
    · rw [k2]
      rcases hem with ⟨hem, e0⟩ | ⟨hem, e0⟩
      · rw [e0, if_neg (by decide)]
        exact Int32.not_lt.mp (nI_pos (by omega))
      · rw [if_pos e0]
        exact e0
    · refine hfr.tr (⟨xr, fun q a x' c => k3 q a x' (by omega) (by omega), fun q a c x' e => q2 q a c x' (by omega) (fun e0 => ?_), fun q a c x' e => cel q a c x' (by omega)⟩ : z_FR nn0 kk0 d R R') (Nat.le_refl _) (Nat.le_refl _) (Nat.le_refl _)
      have hl := last x' (by omega) e0.2.1 e0.2.2
      have := z_so_li r kk0 x' hso hl
      omega
    · exact ⟨hfc.1.tr xc, fun q a c x' e => (i2 q a c x' (by omega) (by omega)).trans (hfc.2.1 q a c x' e), fun q a c x' e => (wt q a c x' e).trans (hfc.2.2 q a c x' e)⟩
    · obtain ⟨u1, u2, u3, u4⟩ := z_hvb b2 b3 b1 b5 l1 l2 l3 l5
      exact ⟨u1, u2, u3, by omega, u4⟩
  · obtain ⟨u1, u2⟩ := hli i hi
    refine q1 i ?_ u1 u2
    rcases hem with ⟨hem, -⟩ | ⟨-, e0⟩
    · cases r with
      | nil => cases hi
      | cons a r2 => cases hem
    · exact e0
  · rcases List.mem_append.mp hc with hc | hc
    · have := z_Cc.bd r _ s0 (h + 1) hcc c hc
      have : c.1 < kk := this.2
      exact Or.inl (Nat.lt_succ_of_lt this)
    · cases hc with
      | head => exact Or.inl (Nat.lt_succ_self _)
      | tail _ hc => cases hc
end ZZA
