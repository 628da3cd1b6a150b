/-! Reading programs, both together: calls. -/
/-- where both stand behind a call so far: base S0, R0; G what the reference asks from there -/
def z_Cal (b : Nat → Nat) (n me : Nat) (ep : Nat → Nat) (d j0 : Nat) (τ0 : z_TT) (s0 nn0 kk0 w p0 : Nat) (S0 : z_CS) (R0 : z_RS) (G : (Option Value → z_RS → Prop) → Prop) (j : Nat) (t : Nat × Nat × Int32) (S : z_CS) (R : z_RS) : Prop :=
  ∃ (τ : z_TT) (s nn kk f m : Nat), z_P b n me ep j t τ s nn kk w S R ∧ z_Zd (d + 1) R ∧ (R.2.2 41 53 = 2 ∧ z_fn 0 (R.1 93) d = nI m ∧ z_fn 0 (R.1 94) d = nI p0 ∧ z_fn 0 (R.1 95) d = -1) ∧ z_Cp b n me τ S.1 R.1 ((nn0, nn), (kk0, kk)) f (z_wx d - 3) m s0 s (nI p0) ∧ z_FR nn0 kk0 d R0 R ∧ (∀ k, 80 ≤ k → k ≤ 92 → z_fn 0 (R.1 k) d = z_fn 0 (R0.1 k) d) ∧ z_Te τ0 τ ∧ z_FC s0 w S0 S ∧ (j0 < j ∧ s + 2 + 3 * j0 ≤ s0 + 3 * j ∧ 5 * kk + j0 ≤ 5 * kk0 + j ∧ nn0 < nn ∧ kk0 ≤ kk ∧ s0 < s) ∧ ∀ Q, z_Hq Q R → G Q
theorem z_cln {j0 j s0 s kk0 kk w d j2 s2 kk2 : Nat} (h1 : s + 2 + 3 * j0 ≤ s0 + 3 * j) (h2 : 5 * kk + j0 ≤ 5 * kk0 + j) (h3 : s0 + w ≤ 3 * j0 + 2) (h4 : 5 * kk0 ≤ j0) (h5 : j0 < j) (l1 : j < j2) (l2 : s2 + 2 + 3 * j ≤ s + 1 + 3 * j2) (l3 : 5 * kk2 + j ≤ 5 * kk + j2) : j0 < j2 ∧ s2 + 1 + 2 + 3 * j0 ≤ s0 + 3 * j2 ∧ 5 * kk2 + j0 ≤ 5 * kk0 + j2 := ⟨by omega, by omega, by omega⟩
section ZZ1
variable {b : Nat → Nat} {n me : Nat} {ep : Nat → Nat} {j0 : Nat} {τ0 : z_TT} {s0 nn0 kk0 w p0 d k : Nat} {S0 : z_CS} {R0 : z_RS} {G : (Option Value → z_RS → Prop) → Prop}
theorem jcl (ih : z_Ih b n me ep k) (hk : d + (k + 1) = 50) (hb : s0 + w ≤ 3 * j0 + 2 ∧ 5 * kk0 ≤ j0 ∧ w ≤ 3 * (d + 1)) : ∀ (q j : Nat) (t : Nat × Nat × Int32) (S : z_CS) (R : z_RS) (i : Nat), 1501 - j ≤ q → i < j → z_fn 0 (R.1 96) d = 0 → z_Cal b n me ep d j0 τ0 s0 nn0 kk0 w p0 S0 R0 G j t S R → z_WC (5 * k + 83) 74 70 [(0, .ref 131), (1, .int (nI d)), (2, .int (nI p0)), (3, .int (nI i))] [] S (fun o S' => z_oj o (fun v => v = none ∧ ∃ j' t' R', z_Cal b n me ep d j0 τ0 s0 nn0 kk0 w p0 S0 R0 G j' t' S' R' ∧ z_atm t'.2.1 = false ∧ z_fn 0 (R'.1 96) d = 0) (z_AtD S0 R0 G S')) := by
  intro q
  induction q with
  | zero =>
    intro j t S R i hq hi h96 hc
    obtain ⟨τ, s, nn, kk, f, m, hp, -⟩ := hc
    have := hp.1.len.1
    omega
  | succ q ihq =>
    intro j t S R i hq hi h96 hc
    obtain ⟨τ, s, nn, kk, f, m, hp, hz, ⟨u53, u93, u94, u95⟩, hC, hfr, h80, hte, hfc, ⟨g1, g2, g3, g4, g5, g6⟩, hG⟩ := id hc
    have lj := hp.1.len
    have hr := hp.1.2.2.2.2
    have h0 : R.2.2 41 11 = 0 := hp.1.2.2.2.1
    have hW : S.2.2.2.2.1 = t.2.1 := hp.1.2.1.2.2.2.1
    have hw : R.2.2 41 7 = z_wco t.2.1 := hp.1.2.1.2.2.2.2.2.2.2.1
    have e8 : R.2.2 41 8 = nI t.1 := hp.1.2.1.2.2.2.2.2.2.1
    have d50 := hz.2.1
    obtain ⟨zi, zc⟩ := z_i50 (d := d + 1) (i := d) hz.2.1 (Nat.lt_succ_self d)
    refine t74_70 (A := S.1) (E := S.2.1) (N := S.2.2.1) (V := S.2.2.2.1) (W := S.2.2.2.2.1) (c := S.2.2.2.2.2) ?_
    refine z_ifn (nI_ge (b := 1500) (by omega) (by decide)) ⟨hr.rm.1, .inl (some (.int (if z_atm t.2.1 = true then 1 else 0))), S, (c77 (l := 5 * k + 81) hW lj.2 hr), _, rfl, ?_⟩
    by_cases ha : z_atm t.2.1 = true
    case neg =>
      rw [if_neg ha]
      exact z_ifp rfl ⟨rfl, j, t, R, hc, by cases hx : z_atm t.2.1 with | true => exact absurd hx ha | false => rfl, h96⟩
    rw [if_pos ha]
    refine z_ifn (by decide) ⟨hr.rm.1, ?_⟩
    -- CALLEE
    obtain ⟨S1, i1, P1, fc1, i4, -, -⟩ := Pa (o := 14) (a1 := 0) (a2 := 0) (f := nI p0) hp (by omega)
    refine ⟨.inl (some (.int (nI s))), S1, i1.up (by omega), nI s, rfl, P1.1.2.2.2.2.rm.1, ?_⟩
    obtain ⟨Rw, hRw⟩ : ∃ X, X = (R.1, R.2.1, z_v R.2.2 41 53 1) := ⟨_, rfl⟩
    have Bw : Rw.1 = R.1 := by rw [hRw]
    have xw : z_XR R Rw := by
      rw [hRw]
      exact z_XR_U (fun k' j' q => z_vn (by omega))
    have Pw : z_P b n me ep j t τ (s + 1) nn kk w S1 Rw := by
      rw [hRw]
      exact P1.ref (fun _ _ => rfl) (fun i' hi' => by show z_v R.2.2 41 53 1 41 i' = R.2.2 41 i'; rw [z_vn (by omega)])
    have Zw : z_Zd (d + 1) Rw := by
      rw [hRw]
      exact hz.cg rfl rfl rfl rfl rfl
    have refW : ∀ Q, p169_105 18 Rw.1 Rw.2.1 Rw.2.2 (nI d) (nI t.1) (fun x R1 => x = none ∧ z_Hq Q R1) → G Q := by
      intro Q h
      have hH : z_Hq Q Rw := by
        refine rW (d := d) Pw.1.2.2.2.1 (by rw [hRw]; rfl) Zw.1 Q (z_ifn ?_ ?_)
        · rw [Pw.1.2.1.2.2.2.2.2.2.2.1]
          refine z_wco_n (i := 3) lj.2 (by decide) (fun e => ?_)
          rw [e] at ha
          cases ha
        · rw [Pw.1.2.1.2.2.2.2.2.2.1]
          exact h
      refine hG Q (rA h0 u53 hz.1 Q ⟨_, R, r170 (l := 17) hw lj.2, _, rfl, ?_⟩)
      rw [if_pos ha]
      refine z_ifn (by decide) ?_
      unfold p173_7
      rw [zc]
      rw [hRw] at hH
      exact ⟨zi, z_ifp h96 ⟨rfl, hH⟩⟩
    have fcS1 : z_FC s0 w S0 S1 := hfc.tr fc1 (by omega) (Nat.le_refl _)
    have xR : z_XR R0 Rw := hfr.1.tr xw
    -- the operand
    obtain ⟨o2, S2, y1, y2⟩ := jatom ih hk Pw Zw ⟨by omega, by omega, hb.2.2⟩
    refine ⟨o2, S2, y1, ?_⟩
    rcases o2 with v2 | e2
    case inr =>
      obtain ⟨rfl, x, y, r1, r2⟩ := y2
      exact ⟨rfl, rfl, x, y, r1.tr fcS1.1, fun Q hQ => refW Q (r2 Q (fun R' a c => hQ R' a (xR.tr c)))⟩
    obtain ⟨rfl, R2, j2, t2, τ2, s2, nn2, kk2, f2, m2, P2, Z2, C2, fr2, te2, fc2, ⟨l1, l2, l3, l4, l5, l6⟩, ref2⟩ := y2
    have lj2 := P2.1.len.1
    obtain ⟨w1, w2, w3⟩ := z_cln (w := w) (d := d) g2 g3 hb.1 hb.2.1 g1 l1 l2 l3
    refine ⟨rfl, P2.1.2.2.2.2.rm.1, ?_⟩
    -- CALL
    obtain ⟨S3, z1, P3, z3, z4, -, -⟩ := Pa (o := 15) (a1 := 0) (a2 := 0) (f := nI p0) P2 (by omega)
    refine ⟨.inl (some (.int (nI s2))), S3, z1.up (by omega), nI s2, rfl, P3.1.2.2.2.2.rm.1, ?_⟩
    have fcS3 : z_FC s0 w S0 S3 := (fcS1.tr fc2 (by omega) (Nat.le_refl _)).tr z3 (by omega) (Nat.le_refl _)
    obtain ⟨R3, hR3⟩ : ∃ X, X = (R2.1, R2.2.1, z_v R2.2.2 41 53 2) := ⟨_, rfl⟩
    have B3 : R3.1 = R2.1 := by rw [hR3]
    have x23 : z_XR R2 R3 := by
      rw [hR3]
      exact z_XR_U (fun k' j' q => z_vn (by omega))
    have P3' : z_P b n me ep j2 t2 τ2 (s2 + 1) nn2 kk2 w S3 R3 := by
      rw [hR3]
      exact P3.ref (fun _ _ => rfl) (fun i' hi' => by show z_v R2.2.2 41 53 2 41 i' = R2.2.2 41 i'; rw [z_vn (by omega)])
    have Z3 : z_Zd (d + 1) R3 := by
      rw [hR3]
      exact Z2.cg rfl rfl rfl rfl rfl
    have U353 : R3.2.2 41 53 = 2 := by
      rw [hR3]
      rfl
    have at2 : ∀ q, 80 ≤ q → q ≤ 96 → z_fn 0 (R2.1 q) d = z_fn 0 (R.1 q) d := fun q a c => by rw [fr2.2.2.2 q a c d (Nat.lt_succ_self d), Bw]
    have h02 : R2.2.2 41 11 = 0 := P2.1.2.2.2.1
    have m600 : m < 600 := by
      have q1 : m < nn := hC.lt.2.1
      have := hp.2.2.2.2.2.1.2.2
      omega
    have run : ∀ m' R', z_Rr 15 172 0 [(0, .ref 148), (1, .int 10), (2, .int (nI m)), (3, .int (nI p0)), (4, .int (nI m2)), (5, .int (nI t.1))] [] R3 (some (.int (nI m'))) R' → z_Rr 16 171 0 [(0, .ref 148), (1, .int (nI d)), (2, .int (nI m2)), (3, .int (nI t.1))] [] R2 none (z_u R'.1 93 ((d, nI m') :: R'.1 93), R'.2.1, R'.2.2) := by
      intro m' R' hh
      rw [hR3] at hh
      exact r171b (by omega) h02 ((at2 95 (by decide) (by decide)).trans u95) ((at2 93 (by decide) (by decide)).trans u93) ((at2 94 (by decide) (by decide)).trans u94) (nI_pos (by omega)) hh
    rcases Pno (kd := 10) (a1 := nI m) (a2 := nI p0) (a3 := nI m2) (a4 := nI t.1) P3' Z3 with ⟨S4, R4, n600, c1, c2, P4, Z4, c5, ⟨k57, k58, k61, k59, k62⟩, c7, c8, c9, c10⟩ | ⟨S4, R4, c1, c2, c3, c4, c5⟩
    case inr =>
      refine ⟨.inr 10, S4, c1.up (by omega), rfl, rfl, 4, nI t2.1, c2.tr fcS3.1, fun Q hQ => refW Q (ref2 Q ⟨none, _, (run 0 R4 c3).up (by decide), rfl, eHt c4 (hQ _ c4 ?_)⟩)⟩
      exact xR.tr (fr2.1.tr (x23.tr (c5.xR.tr (z_XR_B (fun q r => z_un (by omega))))))
    refine ⟨.inl none, S4, c1.up (by omega), rfl, ?_⟩
    obtain ⟨R5, hR5⟩ : ∃ X, X = (z_u R4.1 93 ((d, nI nn2) :: R4.1 93), R4.2.1, R4.2.2) := ⟨_, rfl⟩
    have B5 : R5.1 = z_u R4.1 93 ((d, nI nn2) :: R4.1 93) := by rw [hR5]
    have U5 : R5.2 = R4.2 := by rw [hR5]
    have x45 : z_XR R4 R5 := by
      rw [hR5]
      exact z_XR_B (fun q r => z_un (by omega))
    have ref5 : ∀ Q, z_Hq Q R5 → G Q := fun Q h => refW Q (ref2 Q ⟨none, R5, by rw [hR5]; exact (run nn2 R4 c2).up (by decide), rfl, h⟩)
    unfold p74_119
    rw [nI_1]
    have at5 : ∀ q, 80 ≤ q → q ≤ 96 → ¬ q = 93 → z_fn 0 (R5.1 q) d = z_fn 0 (R.1 q) d := fun q a c h => by rw [B5, z_un h, c10 q a (by omega), B3, at2 q a c]
    have P5 : z_P b n me ep j2 t2 τ2 (s2 + 1) (nn2 + 1) kk2 w S4 R5 := P4.ref (fun q r => by rw [B5, z_un (by omega)]) (fun i' _ => by rw [U5])
    have Z5 : z_Zd (d + 1) R5 := Z4.cg (by rw [B5, z_un (by decide)]) (by rw [B5, z_un (by decide)]) (by rw [B5, z_un (by decide)]) (by rw [U5]) (by rw [U5])
    have nb : ∀ q, 57 ≤ q → q ≤ 79 → R5.1 q = R4.1 q := fun q a c => by rw [B5, z_un (by omega)]
    have nrA : z_Nr ((nn0, nn), (kk0, kk)) R R5 := ((z_Nr.Be Bw).tr (fr2.nr (u := ((nn0, nn), (kk0, kk))) (Nat.le_refl _) (Nat.le_refl _))).tr (((z_Nr.Be B3).tr (c9.nr (u := ((nn0, nn), (kk0, kk))) (Nat.le_of_lt l4) l5)).tr (z_Nr.B nb))
    have nrB : z_Nr ((nn, nn2), (kk, kk2)) R2 R5 := ((z_Nr.Be B3).tr (c9.nr (u := ((nn, nn2), (kk, kk2))) (Nat.le_refl _) (Nat.le_refl _))).tr (z_Nr.B nb)
    have S43 : S4.1 = S3.1 := c5
    have csA : z_Cs s0 s S S4 := ((fc1.cs).tr (fc2.cs' (by omega))).tr ((z3.cs' (by omega)).tr (fun q a c r _ _ => by rw [S43]))
    have csB : z_Cs (s + 1) s2 S2 S4 := z3.cs.tr (fun q a c r _ _ => by rw [S43])
    have csC : z_Cs s (s + 1) S1 S4 := (fc2.cs).tr ((z3.cs' (by omega)).tr (fun q a c r _ _ => by rw [S43]))
    have T1 := hp.2.2.1
    have T2 := P2.2.2.1
    refine ihq j2 t2 S4 R5 (i + 1) (by omega) (by omega) ((at5 96 (by decide) (by decide) (by decide)).trans h96) ⟨τ2, s2 + 1, nn2 + 1, kk2, max f f2 + 1, nn2, P5, Z5, ⟨?_, ?_, (at5 94 (by decide) (by decide) (by decide)).trans u94, (at5 95 (by decide) (by decide) (by decide)).trans u95⟩, ⟨⟨Nat.le_of_lt (Nat.lt_trans g4 l4), Nat.lt_succ_self _, Nat.lt_succ_of_lt (Nat.lt_trans g6 (Nat.lt_of_succ_lt l6))⟩, ?_, ?_⟩, ?_, fun q a c => (at5 q a (by omega) (by omega)).trans (h80 q a c), hte.tr te2, ?_, ⟨w1, w2, w3, Nat.lt_succ_of_lt (Nat.lt_trans g4 l4), Nat.le_trans g5 l5, Nat.lt_succ_of_lt (Nat.lt_trans g6 (Nat.lt_of_succ_lt l6))⟩, ref5⟩
    · rw [U5, c7 53 (by decide)]
      exact U353
    · rw [B5, z_uk, z_fcs]
    · show z_fn 0 (S4.1 19) s2 = nI p0
      rw [S43]
      exact z4.2.2.2.2.2
    · have e57 : z_fn 0 (R5.1 57) nn2 = 10 := by rw [nb 57 (by decide) (by decide)]; exact k57
      have e58 : z_fn 0 (R5.1 58) nn2 = nI m := by rw [nb 58 (by decide) (by decide)]; exact k58
      have e59 : z_fn 0 (R5.1 59) nn2 = nI m2 := by rw [nb 59 (by decide) (by decide)]; exact k59
      have e61 : z_fn 0 (R5.1 61) nn2 = nI p0 := by rw [nb 61 (by decide) (by decide)]; exact k61
      have e62 : z_fn 0 (R5.1 62) nn2 = nI t.1 := by rw [nb 62 (by decide) (by decide)]; exact k62
      refine Or.inr (Or.inr (Or.inr (Or.inr (Or.inr (Or.inr (Or.inr (Or.inr (Or.inr (Or.inr (Or.inl ⟨e57, m, m2, s, ((nn0, nn), (kk0, kk)), ((nn, nn2), (kk, kk2)), ⟨z_S1i (Nat.le_refl _) (by omega) (Nat.le_refl _) l5 (by omega), z_S1i (Nat.le_of_lt g4) (Nat.le_succ _) g5 (Nat.le_refl _) (by omega), Nat.le_refl _⟩, e58, e59, g6, l6, ?_, ?_, ?_, ?_⟩))))))))))
      · rw [e61]
        exact ⟨z_wle.z, hC.mv (S' := S4) (R' := R5) (f' := max f f2) (u' := ((nn0, nn), (kk0, kk))) (Nat.le_max_left _ _) csA nrA T1.1.1 T1.2.1.1 te2 ⟨⟨Nat.le_refl _, Nat.le_refl _⟩, ⟨Nat.le_refl _, Nat.le_refl _⟩⟩⟩
      · rw [csC 14 (by decide) (by decide) s (Nat.le_refl _) (Nat.lt_succ_self _)]
        exact i4.1
      · rw [e62]
        exact ⟨z_wb d50 (Nat.le_refl _), C2.mv (S' := S4) (R' := R5) (f' := max f f2) (u' := ((nn, nn2), (kk, kk2))) (Nat.le_max_right _ _) csB nrB T2.1.1 T2.2.1.1 z_Te.rf ⟨⟨Nat.le_refl _, Nat.le_refl _⟩, ⟨Nat.le_refl _, Nat.le_refl _⟩⟩⟩
      · show z_fn 0 (S4.1 14) s2 = 15
        rw [S43]
        exact z4.1
    · have q1 : z_FR nn0 kk0 d R0 R2 := (hfr.tr (z_FR.Be (nn := nn0) (kk := kk0) (d := d) xw Bw) (Nat.le_refl _) (Nat.le_refl _) (Nat.le_refl _)).tr fr2 (Nat.le_of_lt g4) g5 (Nat.le_succ _)
      have q2 : z_FR nn0 kk0 d R0 R4 := (q1.tr (z_FR.Be (nn := nn0) (kk := kk0) (d := d) x23 B3) (Nat.le_refl _) (Nat.le_refl _) (Nat.le_refl _)).tr c9 (Nat.le_of_lt (Nat.lt_trans g4 l4)) (Nat.le_trans g5 l5) (by omega)
      rw [hR5]
      exact q2.tr (z_FR.put (nn := nn0) (kk := kk0) (d := d) (by decide) (by omega) (by omega) (fun _ => Nat.le_refl _)) (Nat.le_refl _) (Nat.le_refl _) (Nat.le_refl _)
    · exact fcS3.tr c8 (by omega) (Nat.le_refl _)
end ZZ1
