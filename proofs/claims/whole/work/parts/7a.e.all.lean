/-! Checking, both together: every node; the whole program. -/
section ZAE
variable {b : Nat → Nat} {n me : Nat} {τ0 : z_TT} {ce : Nat} {S0 : z_CS} {R0 : z_RS}
theorem z_Cp.mem {τ : z_TT} {A B : Nat → List (Nat × Int32)} {u : z_Bd} {f w m s e : Nat} {p : Int32} (h : z_Cp b n me τ A B u f w m s e p) : u.1.1 ≤ m ∧ m < u.1.2 := by
  cases f with
  | zero => exact h.elim
  | succ f => exact ⟨h.1.1, h.1.2.1⟩
theorem n_all (h1 : z_K1 b n me τ0 ce S0 R0) : ∀ (f : Nat) (u : z_Bd) (w m s e : Nat) (p : Int32), u.1.2 ≤ 600 → u.2.2 ≤ 300 → e ≤ ce → z_Cp b n me τ0 S0.1 R0.1 u f w m s e p → z_Kn b n τ0 ce S0 R0 w u m s e p := by
  intro f
  induction f with
  | zero => intro u w m s e p _ _ _ h; exact h.elim
  | succ f ih =>
    intro u w m s e p u6 u3 he h
    obtain ⟨⟨um, mu, hse⟩, h19, hb⟩ := h
    have hm : u.1.1 ≤ m ∧ m < u.1.2 := ⟨um, mu⟩
    have m6 : m < 600 := by omega
    have ih' : ∀ {c : Nat} {v : z_Bd} {g x y : Nat} {q : Int32}, z_S1 u m v → y ≤ e → (z_wle c w ∧ z_Cp b n me τ0 S0.1 R0.1 v f (w - c) g x y q) → z_Kn b n τ0 ce S0 R0 (w - c) v g x y q := fun hv hy h => ih _ _ _ _ _ _ (Nat.le_trans hv.1.2 u6) (Nat.le_trans hv.2.1.2 u3) (Nat.le_trans hy he) h.2
    rcases hb with ⟨k, e1, o, o5, o6⟩ | ⟨k, e1, o, o5, o6, o7⟩ | ⟨k, e1, o, o5, o6⟩ | ⟨k, e1, o, nm, o6⟩ | ⟨k, x, y, g, v1, v2, ⟨w1, w2, w3⟩, h58, h59, a1, a2, c1, o1, nm, c2, o2⟩ | ⟨k, x, y, g, v1, v2, ⟨w1, w2, w3⟩, h58, h59, a1, a2, o1, nm, nm2, fq, c1, h17, o2, o3, nm3, c2, o4⟩ | ⟨k, x, y, z, g, h, v1, v2, v3, ⟨w1, w2, w3, w12, w23, w13⟩, h58, h59, h60, a1, a2, a3, c1, o1, o15, c2, o2, o25, c3, o3⟩ | ⟨k, x, v1, w1, h58, a1, o1, nm, tq, h17, c1, o2⟩ | ⟨k, x, y, g, h, r, v1, v2, ⟨w1, w2, w3⟩, h58, h59, a1, a2, a3, o1, h17, c1, o2, nm, h16, c2, o3, o4, c3⟩ | ⟨k, k1, k2, k3, x, y, g, v1, v2, ⟨w1, w2, w3⟩, h58, h59, a1, a2, c1, c2, o1⟩ | ⟨k, x, y, g, v1, v2, ⟨w1, w2, w3⟩, h58, h59, a1, a2, c1, o1, c2, o2⟩ | ⟨k, x, ef, v1, w1, hef, h58, a1, c1, o1, h15, h68⟩
    · subst e1
      exact n_val (t := 0) (by decide) h1 hm m6 (by omega) k o o6 ⟨fun _ => o5, fun q => by omega, fun q => by omega⟩ h19
    · subst e1
      exact n_val (t := 1) (by decide) h1 hm m6 (by omega) k o o6 ⟨fun _ => o5, fun q => by omega, fun _ => o7⟩ h19
    · subst e1
      exact n_val (t := 2) (by decide) h1 hm m6 (by omega) k o o6 ⟨fun q => by omega, fun _ => o5, fun q => by omega⟩ h19
    · subst e1
      exact n_name h1 hm m6 (by omega) k o nm o6 h19
    · exact n_let h1 hm u6 he a1 a2 k w1 w2 w3 c1.2.mem c2.2.mem h58 h59 o1 nm o2 h19 c2.1 (ih' w1 (by omega) c1) (ih' w2 (by omega) c2)
    · exact n_rec h1 hm u6 he a1 a2 k w1 w2 w3 c1.2.mem c2.2.mem h58 h59 o1 nm nm2 fq h17 o2 o3 nm3 o4 h19 c1.1 (z_Cp.fl _ _ _ _ _ _ _ c1.2) (ih' w1 (by omega) c1) (ih' w2 (by omega) c2)
    · exact n_if h1 hm u6 he a1 a2 a3 k w1 w2 w3 w12 w23 w13 c1.2.mem c2.2.mem c3.2.mem h58 h59 h60 o1 o15 o25 o2 o3 h19 c2.1 (ih' w1 (by omega) c1) (ih' w2 (by omega) c2) (ih' w3 (by omega) c3)
    · exact n_fn h1 hm u6 he a1 k w1 c1.2.mem h58 o1 nm tq h17 o2 h19 c1.1 (z_Cp.fl _ _ _ _ _ _ _ c1.2) (ih' w1 (by omega) c1)
    · have hfl : z_fl S0.1 (s + 1) (e - 1) := by
        have k1 := (z_Cp.fl _ _ _ _ _ _ _ c1.2).tr ((z_Cp.fl _ _ _ _ _ _ _ c2.2).w22 o2 o3)
        have k2 := z_Cc.fl (A := S0.1) (fun g x y p q => by
          obtain ⟨v, -, -, q⟩ := q
          exact z_Cp.fl _ _ _ _ _ _ _ q.2) r _ _ _ c3
        exact k1.tr k2
      have c3' : z_Cc b n me S0.1 R0.1 u (fun g x y p => (∃ v : z_Bd, z_S1 u m v ∧ v1.1.2 ≤ v.1.1 ∧ z_wle 4 w ∧ z_Cp b n me τ0 S0.1 R0.1 v f (w - 4) g x y p) ∧ y ≤ e) (e - 1) r (z_fn 0 (R0.1 60) m) s (h + 1) := z_Cc.cg (s := s) (fun _ _ _ _ _ _ => rfl) (fun _ _ _ => rfl) (fun _ _ _ _ _ _ => rfl) ⟨Nat.le_refl _, Nat.le_refl _⟩ (fun g x y p _ hy q => ⟨q, by omega⟩) r _ _ _ (Nat.le_refl _) (by omega) (by omega) c3
      refine n_handle h1 hm u6 u3 he a1 a2 a3 k w1 w2 w3 c1.2.mem c2.2.mem h58 h59 o1 h17 o2 nm h16 o3 o4 c3' h19 c1.1 hfl ?_ (ih' w1 (by omega) c1) (ih' w2 (by omega) c2)
      rintro g' x' y' p' ⟨⟨v, q1, q2, q3⟩, q4⟩
      have xm := (z_Cp.mem c1.2).2
      exact ⟨v, q1, by omega, q3.2.mem, ih' q1 q4 q3⟩
    · exact n_two k1 k2 h1 hm u6 he a1 a2 k3 w1 w2 w3 c1.2.mem c2.2.mem h58 h59 o1 h19 c2.1 (ih' w1 (by omega) c1) (ih' w2 (by omega) c2)
    · exact n_call h1 hm u6 he a1 a2 k w1 w2 w3 c1.2.mem c2.2.mem h58 h59 o1 o2 h19 c2.1 (ih' w1 (by omega) c1) (ih' w2 (by omega) c2)
    · exact n_perform h1 hm u6 he a1 k w1 c1.2.mem h58 hef o1 h15 h68 h19 c1.1 (ih' w1 (by omega) c1)
end ZAE
/-- what checking may write, of the class, its end too -/
def z_XKm (S S' : z_CS) : Prop := (∀ k, ¬ (9 ≤ k ∧ k ≤ 12) → ¬ (k = 14 ∨ k = 15 ∨ k = 18) → ¬ (28 ≤ k ∧ k ≤ 37) → S'.1 k = S.1 k) ∧ S'.2.1 = S.2.1 ∧ (∀ k, ¬ (9 ≤ k ∧ k ≤ 12) → S'.2.2.1 k = S.2.2.1 k) ∧ (∀ k j, ¬ (k = 8 ∧ j = 4) → ¬ k = 27 → ¬ (k = 13 ∧ 8 ≤ j ∧ j ≤ 10) → S'.2.2.2.1 k j = S.2.2.2.1 k j) ∧ S'.2.2.2.2.1 = S.2.2.2.2.1 ∧ z_Gw S.2.2.1 S'.2.2.1 S.2.2.2.2.2 S'.2.2.2.2.2
/-- a program that both have read (S, R) and found good (S', R') -/
def z_Ok (b : Nat → Nat) (n : Nat) (S : z_CS) (R : z_RS) (S' : z_CS) (R' : z_RS) : Prop := ∃ (me : Nat) (ep : Nat → Nat) (j : Nat) (t : Nat × Nat × Int32) (τ τ' : z_TT) (s nn kk f m : Nat) (p : Int32) (mo : Nat),
  z_P b n me ep j t τ (s + 1) nn kk 0 S R ∧ z_Cp b n me τ S.1 R.1 ((0, nn), (0, kk)) f (z_wx 0) m 0 s p ∧ z_fn 0 (S.1 14) s = 27 ∧ (R.2.2 41 28 = nI m ∧ s ≤ 4600 ∧ kk < 301 ∧ z_fn 0 (S.1 15) s = 0) ∧
  (z_TyC S'.1 S'.2.2.1 S'.2.2.2.1 τ'.1.1 τ'.1.2 ∧ z_TyR R'.1 R'.2.2 τ'.2.1 τ'.2.2 ∧ z_Te τ τ') ∧
  (∀ j, j < s → z_ag S.1 S'.1 j) ∧ (∀ k, k = 14 ∨ k = 15 ∨ k = 18 → ∀ j, s ≤ j → z_fn 0 (S'.1 k) j = z_fn 0 (S.1 k) j) ∧ (∀ j, j ≤ s → (z_ctx S.1 j).2.length = 1 → (z_ctx S.1 j).1.length ≤ mo) ∧ z_ctx S.1 s = ([], [0]) ∧
  (S'.2.2.2.1 13 10 = nI mo ∧ mo ≤ 128 ∧ z_Tqd 51 τ' (S'.2.2.2.1 13 8) (z_fn 0 (R'.1 106) m) ∧ S'.2.2.2.1 13 9 = z_fn 0 (R'.1 107) m) ∧
  z_Rk S'.2.2.1 S'.2.2.2.2.2 ∧ z_XKm S S' ∧ z_XU R R' ∧ R'.2.2 41 11 = 0 ∧ R'.2.2 41 12 = -1 ∧ z_Cw b n 8 τ S.1 R.1 (z_wx 0) ((0, nn), (0, kk)) m 0 s [] (z_shx τ' (S'.2.2.2.1 13 8))
theorem n_check {b : Nat → Nat} {n : Nat} {S : z_CS} {R : z_RS} (h : z_Rp b n S R) : ∃ o S', z_Cr 64 82 0 [(0, .ref 134)] [] S o S' ∧ ∃ R', z_Rr 10 183 0 [(0, .ref 148)] [] R none R' ∧ z_oj o (fun v => v = none ∧ z_Ok b n S R S' R') (∃ x y, z_Yd x y S S' ∧ z_Td x y R'.2.2 ∧ z_XU R R') := by
  obtain ⟨me, ep, j, t, τ, s, nn, kk, f, m, p, hP, hcp, h27, h28, h12, hs46, hkk, ha15⟩ := h
  obtain ⟨hJ, hDe, ⟨tc, tr, het⟩, ⟨tb1, tb2⟩, ⟨v6, hN6⟩, ⟨v7, u26, nn6⟩, u27, v24⟩ := id hP
  have hn : n ≤ 1500 := hJ.1.2.1
  have hjl : j < 1502 := by
    have q := hJ.2.1.1
    have := (List.getElem?_eq_some_iff.mp q).1
    have := z_ts_len (b := b) (n := n)
    omega
  have lj := hJ.len
  have hW : S.2.2.2.2.1 < 107 := by
    rw [hJ.2.1.2.2.2.1]
    omega
  have h0 : z_K0 S (s + 1) := ⟨v6, by omega, hN6, hW⟩
  have h1 : z_K1 b n me τ (s + 1) S R := ⟨h0, hJ.1.2.2.2.1, ⟨het, hDe.1⟩, tc.1, tr.1⟩
  have kn := n_all h1 f ((0, nn), (0, kk)) (z_wx 0) m 0 s p nn6 (show kk ≤ 300 by omega) (Nat.le_succ s) hcp
  have ctx0 : z_ctx S.1 0 = ([], [0]) := rfl
  obtain ⟨Sx, hSx⟩ : ∃ X : z_CS, X = ((z_u (z_u S.1 34 ((0, 0) :: S.1 34)) 35 ((0, 0) :: S.1 35)), S.2.1, S.2.2.1, (z_v (z_v (z_v S.2.2.2.1 27 7 (0)) 27 10 (0)) 27 16 (0)), S.2.2.2.2.1, S.2.2.2.2.2) := ⟨_, rfl⟩
  have oSx : ∀ k, k ≠ 34 → k ≠ 35 → Sx.1 k = S.1 k := fun k q1 q2 => by
    rw [hSx]
    show z_u (z_u S.1 34 ((0, 0) :: S.1 34)) 35 ((0, 0) :: S.1 35) k = S.1 k
    rw [z_un q2, z_un q1]
  have vSx : ∀ k j, ¬ k = 27 → Sx.2.2.2.1 k j = S.2.2.2.1 k j := fun k j q => by
    rw [hSx]
    show z_v (z_v (z_v S.2.2.2.1 27 7 (0)) 27 10 (0)) 27 16 (0) k j = _
    rw [z_vn (fun e => q e.1), z_vn (fun e => q e.1), z_vn (fun e => q e.1)]
  have hC : z_KC S 0 τ.1.1 τ.1.2 0 0 0 Sx := by
    unfold z_KC
    rw [ctx0]
    refine ⟨?_, ?_, ⟨fun k a b c => oSx k (by omega) (by omega), ?_, fun k _ => ?_, fun k j _ b => vSx k j b, ?_, ?_⟩, fun k a j c => ?_, ⟨?_, ?_, ?_⟩, trivial, ⟨rfl, ⟨?_, trivial⟩, fun y hy => ?_⟩, ?_, Nat.le_refl _, by decide⟩
    · have q := tc.kp (A' := Sx.1) (V' := Sx.2.2.2.1) (fun k a b => oSx k (by omega) (by omega)) (vSx 8 4 (by decide))
      rw [hSx] at q ⊢
      exact q
    · rw [hSx]
      exact hJ.2.2.2.2
    · rw [hSx]
    · rw [hSx]
    · rw [hSx]
    · rw [hSx]
      exact z_Gw.rf
    · rw [oSx k (by omega) (by omega)]
    · rw [hSx]
      rfl
    · rw [hSx]
      rfl
    · rw [hSx]
      rfl
    · rw [hSx]
      show z_fn 0 (z_u (z_u S.1 34 ((0, 0) :: S.1 34)) 35 ((0, 0) :: S.1 35) 34) 0 = nI 0
      rw [z_un (by decide), z_uk, z_fcs]
      rfl
    · have e : y = 0 := List.mem_singleton.mp hy
      rw [e]
      exact Nat.le_refl _
    · rw [hSx]
      show z_fn 0 (z_u (z_u S.1 34 ((0, 0) :: S.1 34)) 35 ((0, 0) :: S.1 35) 35) 0 = nI 0
      rw [z_uk, z_fcs]
      rfl
  obtain ⟨Rx, hRx⟩ : ∃ X : z_RS, X = (R.1, R.2.1, (z_v (z_v R.2.2 41 77 (0)) 41 82 (0))) := ⟨_, rfl⟩
  have uRx : ∀ k j, ¬ (k = 41 ∧ (j = 77 ∨ j = 82)) → Rx.2.2 k j = R.2.2 k j := fun k j q => by
    rw [hRx]
    show z_v (z_v R.2.2 41 77 (0)) 41 82 (0) k j = _
    rw [z_vn (by omega), z_vn (by omega)]
  have hRx' : z_KR R τ.2.1 τ.2.2 0 0 Rx := by
    refine ⟨?_, ⟨fun k _ _ => by rw [hRx], fun k _ => by rw [hRx], fun k j q => uRx k j (by omega)⟩, ?_, ?_, ?_, uRx 41 12 (by decide)⟩
    · have q := tr.kp (B' := Rx.1) (U' := Rx.2.2) (fun k _ _ => by rw [hRx]) (uRx 41 13 (by decide))
      exact q
    · rw [hRx]
      rfl
    · rw [hRx]
      rfl
    · rw [uRx 41 11 (by decide)]
      exact hJ.2.2.2.1
  obtain ⟨Ra, hRa⟩ : ∃ X : z_RS, X = z_pil 0 m (-1) Rx := ⟨_, rfl⟩
  have hRa' : z_KR R τ.2.1 τ.2.2 0 (0 + 1) Ra := by rw [hRa]; exact hRx'.pil
  obtain ⟨κ, hκ⟩ : ∃ κ : Nat → Nat, κ = fun _ => 0 := ⟨_, rfl⟩
  have hj : z_Kj b n τ S R 0 τ 0 0 0 0 (0 + 1) κ Sx Ra := ⟨hC, hRa', z_Te.rf, fun j hj => absurd hj (by rw [ctx0]; exact Nat.not_lt_zero _), fun j hj => absurd hj (by rw [ctx0]; exact Nat.not_lt_zero _)⟩
  obtain ⟨Φ, hΦ⟩ : ∃ Φ : z_V → z_CS → z_RS → Prop, Φ = fun o S' R' => z_oj o (fun v => v = none ∧ z_Ok b n S R S' R') (∃ x y, z_Yd x y S S' ∧ z_Td x y R'.2.2 ∧ z_XU R R') := ⟨_, rfl⟩
  have hFd : z_Fd S R Φ := by
    intro x y S' R' q1 q2 q3
    rw [hΦ]
    exact ⟨rfl, x, y, q1, q2, q3⟩
  have cfz : z_cf (S.1 14) 0 = 0 := rfl
  have jg : z_JG Φ 0 Sx Ra := by
    refine kn Φ hFd τ 0 0 0 0 0 κ Sx Ra hj (by rw [hRa]; exact z_pil_tk) ⟨⟨by rw [z_wxe]; decide, by rw [ctx0, z_wxe]; decide, by rw [z_wxe]; decide⟩, ?_, by omega, ?_⟩ ?_
    · show 0 + (nn - 0) ≤ 700
      omega
    · rw [cfz]
      constructor <;> omega
    intro τ1 mo1 cc1 S1 R1 hke
    obtain ⟨hj1, te1, fk1, fl1, ⟨mo01, cc01, cc1b, -, -⟩, ⟨p1, ty1, ef1⟩, ag1, rm1, cx1, tj1⟩ := hke
    have hC1 := hj1.1
    have cs : (nI s).toNatClampNeg = s := nI_clamp (by omega)
    have eo : z_fn 0 (S1.1 14) s = 27 := (hC1.2.2.2.1 14 (by decide) s (Nat.le_refl _)).trans h27
    -- the last instruction, and the end
    obtain ⟨Se, hSe⟩ : ∃ X : z_CS, X = (S1.1, S1.2.1, S1.2.2.1, (z_v (z_v (z_v S1.2.2.2.1 13 8 (z_fn 0 (S1.1 28) 0)) 13 9 (z_fn 0 (S1.1 29) 0)) 13 10 (z_fn 0 (S1.1 35) 0)), S1.2.2.2.2.1, S1.2.2.2.2.2) := ⟨_, rfl⟩
    have cle : ∀ Q : z_V → z_CS → Prop, Q (.inl none) Se → z_WC 64 82 31 [(0, .ref 134), (1, .int (nI s))] [] S1 Q := by
      intro Q hQ
      refine k97 (o := 27) hC1 h0 (Nat.lt_succ_self s) h27 (by decide) (by decide) ?_
      refine t97_0 (A := S1.1) (E := S1.2.1) (N := S1.2.2.1) (V := S1.2.2.2.1) (W := S1.2.2.2.2.1) (c := S1.2.2.2.2.2) ?_
      unfold p97_0
      rw [cs, eo]
      refine ⟨hC1.in h0 (Nat.lt_succ_self s) (by decide) (by decide), ?_⟩
      rw [if_neg (by decide), if_neg (by decide), if_neg (by decide), if_neg (by decide), if_neg (by decide), if_neg (by decide), if_neg (by decide), if_neg (by decide), if_neg (by decide), if_neg (by decide)]
      refine ⟨rfl, ?_⟩
      show z_WC 64 82 31 [(0, .ref 134), (1, .int (nI (s + 1)))] [] S1 Q
      refine t82_31 (A := S1.1) (E := S1.2.1) (N := S1.2.2.1) (V := S1.2.2.2.1) (W := S1.2.2.2.2.1) (c := S1.2.2.2.2.2) ?_
      have ec : S1.2.2.2.1 13 6 = nI (s + 1) := (hC1.2.2.1.2.2.2.1 13 6 (by decide) (by decide)).trans v6
      unfold p82_31
      rw [ec, if_pos (nI_le (Nat.le_refl _) (by omega))]
      rw [hSe] at hQ
      exact hQ
    have re : ∀ Q : Option Value → z_RS → Prop, Q none R1 → z_WR 10 183 19 [(0, .ref 148)] [] R1 Q := by
      intro Q hQ
      refine t183_19 (B := R1.1) (M := R1.2.1) (U := R1.2.2) ?_
      unfold p183_19
      rw [hj1.2.1.2.2.2.1, if_pos (show nI 0 ≤ (0 : Int32) by decide)]
      exact hQ
    refine cle _ (re _ ⟨rfl, ?_⟩)
    rw [hΦ]
    refine ⟨rfl, me, ep, j, t, τ, τ1, s, nn, kk, f, m, p, mo1, hP, hcp, h27, ⟨h28, hs46, hkk, ha15⟩, ⟨?_, hj1.2.1.1, te1⟩, fun j hj => ?_, fun k hk j hj => ?_, fun j hj q => rm1 j (Nat.zero_le _) hj q, cx1, ⟨?_, hC1.2.2.2.2.2.2.2.2.2, ?_, ?_⟩, ?_, ?_, hj1.2.1.2.1, hj1.2.1.2.2.2.2.1, hj1.2.1.2.2.2.2.2.trans h12, ?_⟩
    · have q := hC1.1.kp (A' := S1.1) (V' := Se.2.2.2.1) (fun _ _ _ => rfl) (by
        rw [hSe]
        show z_v (z_v (z_v S1.2.2.2.1 13 8 (z_fn 0 (S1.1 28) 0)) 13 9 (z_fn 0 (S1.1 29) 0)) 13 10 (z_fn 0 (S1.1 35) 0) 8 4 = _
        rw [z_vn (by decide), z_vn (by decide), z_vn (by decide)])
      rw [hSe] at q ⊢
      exact q
    · rw [hSe]
      exact ag1 j (Nat.zero_le _) hj
    · rw [hSe]
      exact hC1.2.2.2.1 k hk j hj
    · rw [hSe]
      show z_v (z_v (z_v S1.2.2.2.1 13 8 (z_fn 0 (S1.1 28) 0)) 13 9 (z_fn 0 (S1.1 29) 0)) 13 10 (z_fn 0 (S1.1 35) 0) 13 10 = nI mo1
      rw [z_vk]
      exact hC1.2.2.2.2.2.2.2.1
    · rw [hSe]
      show z_Tqd 51 τ1 (z_v (z_v (z_v S1.2.2.2.1 13 8 (z_fn 0 (S1.1 28) 0)) 13 9 (z_fn 0 (S1.1 29) 0)) 13 10 (z_fn 0 (S1.1 35) 0) 13 8) _
      rw [z_vn (by decide), z_vn (by decide), z_vk]
      exact ty1
    · rw [hSe]
      show z_v (z_v (z_v S1.2.2.2.1 13 8 (z_fn 0 (S1.1 28) 0)) 13 9 (z_fn 0 (S1.1 29) 0)) 13 10 (z_fn 0 (S1.1 35) 0) 13 9 = _
      rw [z_vn (by decide), z_vk]
      exact ef1
    · rw [hSe]
      exact hC1.2.1
    · obtain ⟨x1, x2, x3, x4, x5, x6⟩ := hC1.2.2.1
      rw [hSe]
      refine ⟨x1, x2, x3, fun k j a b c => ?_, x5, x6⟩
      show z_v (z_v (z_v S1.2.2.2.1 13 8 (z_fn 0 (S1.1 28) 0)) 13 9 (z_fn 0 (S1.1 29) 0)) 13 10 (z_fn 0 (S1.1 35) 0) k j = _
      rw [z_vn (by omega), z_vn (by omega), z_vn (by omega)]
      exact x4 k j a b
    · rw [hSe]
      show z_Cw b n 8 τ S.1 R.1 (z_wx 0) ((0, nn), (0, kk)) m 0 s [] (z_shx τ1 (z_v (z_v (z_v S1.2.2.2.1 13 8 (z_fn 0 (S1.1 28) 0)) 13 9 (z_fn 0 (S1.1 29) 0)) 13 10 (z_fn 0 (S1.1 35) 0) 13 8))
      rw [z_vn (by decide), z_vn (by decide), z_vk]
      exact tj1
  have run : z_WC 64 82 0 [(0, .ref 134)] [] S (fun o S' => z_WR 10 183 0 [(0, .ref 148)] [] R (fun v R' => v = none ∧ Φ o S' R')) := by
    refine t82_0 (A := S.1) (E := S.2.1) (N := S.2.2.1) (V := S.2.2.2.1) (W := S.2.2.2.2.1) (c := S.2.2.2.2.2) ?_
    unfold p82_0
    rw [← hSx]
    refine z_WC.im jg (fun o S1 q => ?_)
    refine t183_0 (l := 9) (B := R.1) (M := R.2.1) (U := R.2.2) ?_
    unfold p183_0
    rw [h28, ← hRx]
    refine r184 (l := 8) (R := Rx) (G := fun R1 => z_WR (9 + 1) 183 19 [(0, .ref 148)] [] (R1.1, R1.2.1, R1.2.2) _) hRx'.2.2.2.1 (by decide) ?_
    rw [← hRa]
    exact q
  obtain ⟨o, S', hc, v, R', hr, rfl, hf⟩ := run
  refine ⟨o, S', hc, R', hr, ?_⟩
  rw [hΦ] at hf
  exact hf
