/-! Reading programs, both together: an operation. -/
/-- both stand behind a call in an operation -/
def z_Lp (b : Nat → Nat) (n me : Nat) (ep : Nat → Nat) (d j0 : Nat) (τ0 : z_TT) (s0 nn0 kk0 w0 : Nat) (S0 : z_CS) (R0 : z_RS) (p0 : Nat) (G : (Option Value → z_RS → Prop) → Prop) (j : Nat) (t : Nat × Nat × Int32) (i m p : Nat) (S : z_CS) (R : z_RS) : Prop := z_Hr b n me ep d j0 τ0 s0 nn0 kk0 w0 S0 R0 p0 3 j t i m p S R ∧ (z_fn 0 (R.1 93) d = nI m ∧ z_fn 0 (R.1 94) d = nI p) ∧ R.2.2 41 53 = 2 ∧ (z_atm t.2.1 = false ∨ z_fn 0 (R.1 96) d = 1) ∧ ∀ Q, z_Hq Q R → G Q
section ZZ6
variable {b : Nat → Nat} {n me : Nat} {ep : Nat → Nat} {j j0 : Nat} {t : Nat × Nat × Int32} {τ τ0 : z_TT} {d i k s nn kk w s0 nn0 kk0 w0 r m p p0 l : Nat} {S S0 : z_CS} {R R0 : z_RS} {G : (Option Value → z_RS → Prop) → Prop}
theorem z_Sks.fill {A B : Nat → List (Nat × Int32)} {u : z_Bd} {f : Nat} {q0 q : Nat} (h : z_Sks b n me τ A B u f d (r + 1) w0 s0 q0 i s q) (hr : r ≤ 2) (ha : ∀ q, r < q → q ≤ 2 → z_fn 0 (B (z_kc q)) d = -1) : z_Sks b n me τ A B u f d 3 w0 s0 q0 i s q := by
  have : r = 0 ∨ r = 1 ∨ r = 2 := by omega
  rcases this with rfl | rfl | rfl
  · exact ⟨i, s, q, ⟨i, s, q, h, Or.inl ⟨rfl, rfl, rfl, ha 1 (by decide) (by decide)⟩⟩, Or.inl ⟨rfl, rfl, rfl, ha 2 (by decide) (by decide)⟩⟩
  · exact ⟨i, s, q, h, Or.inl ⟨rfl, rfl, rfl, ha 2 (by decide) (by decide)⟩⟩
  · exact h
theorem z_lpb {s i j0 s0 w0 j kk kk0 s2 j2 kk2 nn0 nn nn2 : Nat} (h1 : s + i + 2 + 3 * j0 ≤ s0 + w0 + 3 * j) (h2 : 5 * kk + j0 ≤ 5 * kk0 + j) (h3 : j0 < j) (l1 : j + 1 < j2) (l2 : s2 + 2 + 3 * (j + 1) ≤ s + 3 * j2) (l3 : 5 * kk2 + (j + 1) ≤ 5 * kk + j2) (l4 : nn < nn2) (l5 : kk ≤ kk2) (l6 : s < s2) (h4 : nn0 < nn) (h5 : kk0 ≤ kk) (h6 : s0 < s) : j0 < j2 ∧ s2 + (i + 1) + 2 + 3 * j0 ≤ s0 + w0 + 3 * j2 ∧ 5 * kk2 + j0 ≤ 5 * kk0 + j2 ∧ nn0 < nn2 ∧ kk0 ≤ kk2 ∧ s0 < s2 := ⟨by omega, by omega, by omega, by omega, by omega, by omega⟩
/-- an operator waits, and the next call is read -/
theorem jpush {o c : Nat} {x3 : Int32} {F : z_V → z_CS → Prop} (ih : z_Ih b n me ep k) (hk : d + (k + 1) = 50) (h : z_Hr b n me ep d j0 τ0 s0 nn0 kk0 w0 S0 R0 p0 r j t i m p S R) (hr2 : r ≤ 2) (ht0 : ¬ t.2.1 = 0) (ho : 9 ≤ o ∧ o ≤ 13 ∧ z_rnk (nI o) = nI r) (hk5 : r = 2 ∨ z_fn 0 (R.1 (z_kc r)) d = nI (o - 4)) (hnc : z_fn 0 (R.1 (z_nc r)) d = nI m) (hpc : z_fn 0 (R.1 (z_pc r)) d = nI p) (hab : ∀ q, r < q → q ≤ 2 → z_fn 0 (R.1 (z_kc q)) d = -1) (h93 : z_fn 0 (R.1 93) d = -1) (h96 : z_fn 0 (R.1 96) d = 0) (hw : w0 ≤ 3 * d) (hb : s0 + w0 ≤ 3 * j0 ∧ 5 * kk0 ≤ j0)
    (hG : ∀ Q, z_WR 18 175 0 [(0, .ref 148)] [] R (fun x R1 => x = none ∧ z_Hq Q R1) → G Q) (hd : ∀ S', z_AtD S0 R0 G S' → F (.inr 10) S')
    (IH : ∀ (j' : Nat) (t' : Nat × Nat × Int32) (S' : z_CS) (R' : z_RS) (i' m' p' : Nat), j < j' → z_Lp b n me ep d j0 τ0 s0 nn0 kk0 w0 S0 R0 p0 G j' t' i' m' p' S' R' → z_WC (5 * k + 84) 73 21 [(0, .ref 131), (1, .int (nI d)), (2, .int (nI w0)), (3, .int (nI p')), (4, .int (nI (c + 1)))] [] S' F) :
    p73_54 (5 * k + 83) S.1 S.2.1 S.2.2.1 S.2.2.2.1 S.2.2.2.2.1 S.2.2.2.2.2 (nI d) (nI w0) x3 (nI c) (nI o) (nI p) F := by
  obtain ⟨τ, s, nn, kk, f, s3, q3, hp, hz, hC, hS, hf, h80, g95, hte, hfc, ⟨b1, b2, b3, b4, b5, b6⟩, hl⟩ := id h
  have hv : S.2.2.2.1 24 7 = nI i := hp.2.2.2.2.2.2.2
  have hr := hp.1.2.2.2.2
  have d50 := hz.2.1
  have h0 : R.2.2 41 11 = 0 := hp.1.2.2.2.1
  have le := z_Sks.le (S := S) (R := R) r i s3 q3 hS
  have lj := hp.1.len
  have T := hp.2.2.1
  have zi : z_in (nI i) 150 = true := z_inI (by omega) (by decide)
  have zc : (nI i).toNatClampNeg = i := nI_clamp (by omega)
  unfold p73_54
  rw [hv, zc, nI_1]
  obtain ⟨Sp, hSp⟩ : ∃ X, X = ((z_u (z_u S.1 25 ((i, nI o) :: S.1 25)) 26 ((i, nI p) :: S.1 26)), S.2.1, S.2.2.1, (z_v S.2.2.2.1 24 7 (nI (i + 1))), S.2.2.2.2.1, S.2.2.2.2.2) := ⟨_, rfl⟩
  rw [← hSp]
  have Ap : Sp.1 = z_u (z_u S.1 25 ((i, nI o) :: S.1 25)) 26 ((i, nI p) :: S.1 26) := by rw [hSp]
  have Pp : z_P b n me ep j t τ s nn kk (i + 1) Sp R := by
    rw [hSp]
    exact (hp.wt (w' := i + 1)).cls (A' := z_u (z_u S.1 25 ((i, nI o) :: S.1 25)) 26 ((i, nI p) :: S.1 26)) (fun q a c => by
      show z_u (z_u S.1 25 _) 26 _ q = S.1 q
      rw [z_un (by omega), z_un (by omega)])
  have cp : ∀ q x, ¬ ((q = 25 ∨ q = 26) ∧ x = i) → z_fn 0 (Sp.1 q) x = z_fn 0 (S.1 q) x := by
    intro q x hx
    rw [Ap]
    by_cases e1 : q = 26
    · subst e1
      rw [z_uk, z_fcn (fun e => hx ⟨Or.inr rfl, e⟩)]
    rw [z_un e1]
    by_cases e2 : q = 25
    · subst e2
      rw [z_uk, z_fcn (fun e => hx ⟨Or.inl rfl, e⟩)]
    rw [z_un e2]
  have fcp : z_FC s0 w0 S Sp := by
    refine ⟨?_, fun q a c x e => cp q x (by omega), fun q a c x e => cp q x (by omega)⟩
    rw [hSp]
    exact z_XC_AV (fun q e => by rw [z_rdA_u rfl e, z_rdA_u rfl e]) (fun q x e => z_rdV_v rfl e)
  refine ⟨zi, zi, hr.rm.1, ?_⟩
  obtain ⟨t1, R1, n1, n2, n3, n4⟩ := jn Pp.1 ht0
  obtain ⟨R3, hR3⟩ : ∃ X, X = (R1.1, R1.2.1, z_v R1.2.2 41 53 1) := ⟨_, rfl⟩
  have B3 : R3.1 = R1.1 := by rw [hR3]
  have x13 : z_XR R1 R3 := by
    rw [hR3]
    exact z_XR_U (fun k' j' q => z_vn (by omega))
  have refS : ∀ Q, z_Hq Q R3 → G Q := by
    intro Q hh
    rw [hR3] at hh
    exact hG Q (t175_0 (B := R.1) (M := R.2.1) (U := R.2.2) (z_ifp (by rw [h0]; decide) ⟨none, R1, n1.up (by decide), rfl, rfl, hh⟩))
  have Z1 := hz.lw n2
  have Z3 : z_Zd (d + 1) R3 := by
    rw [hR3]
    exact Z1.cg rfl rfl rfl rfl rfl
  rcases n4 with ⟨nb, S1, m1, m2, m3⟩ | ⟨nb, S1, m1, m2, m3⟩
  case inr =>
    refine ⟨.inr 10, S1, m1.up (by omega), rfl, hd S1 ⟨2, nI t1.1, m2.tr (hfc.1.tr fcp.1), fun Q hQ => refS Q ?_⟩⟩
    have q3 : z_Qd 2 (nI t1.1) R3.2.2 := by
      rw [hR3]
      exact m3.q.U rfl rfl rfl rfl
    exact eH (d := d + 1) ⟨q3, Z3⟩ (Or.inr (Or.inr ⟨Nat.succ_pos d, Or.inl (by rw [hR3]; rfl)⟩)) (fun R' r1 r2 => hQ R' r1 (hf.1.tr (n2.xR.tr (x13.tr r2))))
  have P1 := Pp.kw m3 m2 n2 (by omega)
  have P3 : z_P b n me ep (j + 1) t1 τ s nn kk (i + 1) S1 R3 := by
    rw [hR3]
    exact P1.ref (fun _ _ => rfl) (fun x hx => by show z_v R1.2.2 41 53 1 41 x = R1.2.2 41 x; rw [z_vn (by omega)])
  have e91 : S1.2.2.2.1 3 9 = nI t1.1 := P1.1.2.1.2.2.2.2.1
  refine ⟨.inl none, S1, m1.up (by omega), rfl, ?_⟩
  unfold p73_93
  rw [e91]
  have at3 : ∀ q x, z_fn 0 (R3.1 q) x = z_fn 0 (R.1 q) x := fun q x => by rw [B3, n2.1]
  refine ⟨P1.1.2.2.2.2.rm.1, ?_⟩
  refine (jcall ih hk P3 Z3 (by rw [hR3]; rfl) ((at3 93 d).trans h93) ((at3 95 d).trans g95) ((at3 96 d).trans h96) ⟨by omega, by omega, by omega⟩).im (fun o2 S2 ho2 => ?_)
  have x03 : z_XR R0 R3 := hf.1.tr (n2.xR.tr x13)
  have fc1 : z_FC s0 w0 S0 S1 := (hfc.tr fcp (Nat.le_refl _) (Nat.le_refl _)).tr m2.fc (Nat.le_refl _) (Nat.le_refl _)
  rcases o2 with v2 | e2
  case inr =>
    obtain ⟨rfl, x, y, r1, r2⟩ := ho2
    exact ⟨rfl, hd S2 ⟨x, y, r1.tr fc1.1, fun Q hQ => refS Q (r2 Q (fun R' a c => hQ R' a (x03.tr c)))⟩⟩
  obtain ⟨rfl, j2, t2, R2, ⟨τ2, s2, nn2, kk2, f2, m2', P2, Z2, ⟨u53, u93, u94, u95⟩, C2, fr2, at2, te2, fc2, ⟨l1, l2, l3, l4, l5, l6⟩, ref2⟩, hcl⟩ := ho2
  refine ⟨rfl, ?_⟩
  unfold p73_106
  rw [nI_1]
  have nr : z_Nr ((nn0, nn), (kk0, kk)) R R2 := (n2.nr (u := ((nn0, nn), (kk0, kk)))).tr ((z_Nr.Be B3).tr (fr2.nr (u := ((nn0, nn), (kk0, kk))) (Nat.le_refl _) (Nat.le_refl _)))
  have csA : ∀ q, 14 ≤ q → q ≤ 19 → ∀ x, x < s → z_fn 0 (S2.1 q) x = z_fn 0 (S.1 q) x := fun q a c x e => by rw [fc2.2.1 q a c x e, m2.1, cp q x (by omega)]
  have w25 : ∀ q x, (q = 25 ∨ q = 26) → x < i + 1 → z_fn 0 (S2.1 q) x = z_fn 0 (Sp.1 q) x := fun q x a e => by rw [fc2.2.2 q (by omega) (by omega) x e, m2.1]
  have atd : ∀ q, 80 ≤ q → q ≤ 92 → z_fn 0 (R2.1 q) d = z_fn 0 (R.1 q) d := fun q a c => by rw [at2 q a c, at3]
  have cl := hC.lt
  have le3 : s3 < s := cl.1
  have q3n : q3 ≤ nn := by
    have e1 : m < nn := cl.2.1
    have e2 : q3 ≤ m := cl.2.2
    omega
  refine IH j2 t2 S2 R2 (i + 1) m2' t1.1 (by omega) ⟨⟨τ2, s2, nn2, kk2, max f f2, s, nn, P2, Z2, ?_, ?_, ?_, ?_, u95, hte.tr te2, fc1.tr fc2 (by omega) (by omega), z_lpb b2 b3 b1 l1 l2 l3 l4 l5 l6 b4 b5 b6, ?_, ?_⟩, ⟨u93, u94⟩, u53, hcl, fun Q q => refS Q (ref2 Q q)⟩
  · exact C2.mv (S' := S2) (R' := R2) (f' := max f f2) (u' := ((nn, nn2), (kk0, kk2))) (Nat.le_max_right _ _) z_Cs.rf z_Nr.rf P2.2.2.1.1.1 P2.2.2.1.2.1.1 z_Te.rf ⟨⟨Nat.le_refl _, Nat.le_refl _⟩, ⟨b5, Nat.le_refl _⟩⟩
  · refine z_Sks.fill (r := r) ⟨i, s3, q3, ?_, ?_⟩ hr2 (fun q a c => ?_)
    · refine z_Sks.mv (S := S) (R := R) (S' := S2) (R' := R2) (u' := ((nn0, nn2), (kk0, kk2))) (f' := max f f2) (Nat.le_refl _) (Nat.le_max_left _ _) nr T.1.1 T.2.1.1 te2 ⟨⟨Nat.le_refl _, Nat.le_of_lt l4⟩, ⟨Nat.le_refl _, l5⟩⟩ r i s3 q3 q3n hS (fun q a c x e1 e2 => csA q a c x (by omega)) (fun q hq => ⟨?_, ?_⟩) (fun q hq => ?_)
      · rw [w25 25 q (Or.inl rfl) (by omega), cp 25 q (by omega)]
      · rw [w25 26 q (Or.inr rfl) (by omega), cp 26 q (by omega)]
      · have a1 := z_kcb q
        have a2 := z_ncb q
        have a3 := z_pcb q
        exact ⟨atd _ (by omega) (by omega), atd _ (by omega) (by omega), atd _ (by omega) (by omega)⟩
    · have a1 := z_kcb r
      have a2 : 85 ≤ z_nc r ∧ z_nc r ≤ 92 := ⟨(z_ncb r).1, by unfold z_nc; split <;> omega⟩
      have a3 : 85 ≤ z_pc r ∧ z_pc r ≤ 92 := ⟨(z_pcb r).1, by unfold z_pc; split <;> omega⟩
      refine Or.inr ⟨rfl, o, m, p, ho, ?_, ?_, ?_, (atd _ (by omega) a2.2).trans hnc, (atd _ (by omega) a3.2).trans hpc, hC.mv (S' := S2) (R' := R2) (f' := max f f2) (u' := ((q3, nn), (kk0, kk2))) (Nat.le_max_left _ _) (fun q a c x e1 e2 => csA q a c x e2) ⟨fun k a c x e1 e2 => nr.1 k a c x (Nat.le_trans le.2.2.2 e1) e2, nr.2⟩ T.1.1 T.2.1.1 te2 ⟨⟨Nat.le_refl _, Nat.le_refl _⟩, ⟨Nat.le_refl _, l5⟩⟩⟩
      · rw [w25 25 i (Or.inl rfl) (Nat.lt_succ_self _), Ap, z_un (by decide), z_uk, z_fcs]
      · rw [w25 26 i (Or.inr rfl) (Nat.lt_succ_self _), Ap, z_uk, z_fcs]
      · rw [atd _ (by omega) (by omega)]
        exact hk5
    · have a1 := z_kcb q
      rw [atd _ (by omega) (by omega)]
      exact hab q a c
  · exact (hf.tr (n2.fr (nn := nn0) (kk := kk0) (d := d)) (Nat.le_refl _) (Nat.le_refl _) (Nat.le_refl _)).tr ((z_FR.Be (nn := nn0) (kk := kk0) (d := d) x13 B3).tr fr2 (Nat.le_of_lt b4) b5 (Nat.le_refl _)) (Nat.le_refl _) (Nat.le_refl _) (Nat.le_refl _)
  · intro q a c
    rw [atd q a (by omega)]
    exact h80 q a c
  · intro e
    omega
  · intro e
    rw [w25 26 w0 (Or.inr rfl) (by omega)]
    by_cases ei : w0 = i
    · subst ei
      rw [Ap, z_uk, z_fcs]
      exact hl.1 rfl
    · rw [cp 26 w0 (by omega)]
      exact hl.2 (by omega)
end ZZ6
