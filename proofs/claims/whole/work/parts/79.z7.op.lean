/-! Reading programs, both together: an operation, from its first word to its end. -/
section ZZ7
variable {b : Nat → Nat} {n me : Nat} {ep : Nat → Nat} {j j0 : Nat} {t : Nat × Nat × Int32} {τ τ0 : z_TT} {d i k s nn kk w s0 nn0 kk0 w0 r m p p0 l : Nat} {S S0 : z_CS} {R R0 : z_RS} {G : (Option Value → z_RS → Prop) → Prop}
/-- which words are operators -/
theorem z_opr_k : ∀ k, k < 37 → (z_opr k = -1 ∧ ¬ z_wco k = 42 ∧ ¬ z_wco k = 43 ∧ ¬ z_wco k = 45 ∧ ¬ z_wco k = 60 ∧ ¬ z_wco k = 61) ∨ k = 12 ∨ k = 13 ∨ k = 14 ∨ k = 15 ∨ k = 16 := by decide +kernel
theorem jol (ih : z_Ih b n me ep k) (hk : d + (k + 1) = 50) (hw : w0 ≤ 3 * d) (hb : s0 + w0 ≤ 3 * j0 ∧ 5 * kk0 ≤ j0) : ∀ (q j : Nat) (t : Nat × Nat × Int32) (S : z_CS) (R : z_RS) (i m p c : Nat), 1501 - j ≤ q → c < j → z_Lp b n me ep d j0 τ0 s0 nn0 kk0 w0 S0 R0 p0 G j t i m p S R → z_WC (5 * k + 84) 73 21 [(0, .ref 131), (1, .int (nI d)), (2, .int (nI w0)), (3, .int (nI p)), (4, .int (nI c))] [] S (fun o S' => z_oj o (fun v => v = none ∧ ∃ R' j' t' i' m' p', z_Hr b n me ep d j0 τ0 s0 nn0 kk0 w0 S0 R0 p0 0 j' t' i' m' p' S' R' ∧ (R'.2.2 41 53 = 3 ∧ R'.2.2 41 54 = nI m' ∧ R'.2.2 41 55 = z_fn 0 (R'.1 82) d) ∧ ∀ Q, z_Hq Q R' → G Q) (z_AtD S0 R0 G S')) := by
  intro q
  induction q with
  | zero =>
    intro j t S R i m p c hq hc h
    obtain ⟨⟨τ, s, nn, kk, f, s3, q3, hp, -⟩, -⟩ := h
    have := hp.1.len.1
    omega
  | succ q ihq =>
    intro j t S R i m p c hq hc h
    obtain ⟨hh, ⟨h93, h94⟩, h53, hcl, hG⟩ := id h
    obtain ⟨τ, s, nn, kk, f, s3, q3, hp, hz, -⟩ := id hh
    have lj := hp.1.len
    have hr := hp.1.2.2.2.2
    have h0 : R.2.2 41 11 = 0 := hp.1.2.2.2.1
    have hW : S.2.2.2.2.1 = t.2.1 := hp.1.2.1.2.2.2.1
    have wk : R.2.2 41 7 = z_wco t.2.1 := hp.1.2.1.2.2.2.2.2.2.2.1
    have d50 := hz.2.1
    obtain ⟨zi, zc⟩ := z_i50 (d := d + 1) (i := d) hz.2.1 (Nat.lt_succ_self d)
    have ref24 : ∀ Q, p173_24 18 R.1 R.2.1 R.2.2 (nI d) (fun x R1 => x = none ∧ z_Hq Q R1) → G Q := by
      intro Q h24
      refine hG Q (rA h0 h53 hz.1 Q ⟨_, R, r170 (l := 17) wk lj.2, _, rfl, ?_⟩)
      by_cases ha : z_atm t.2.1 = true
      · rw [if_pos ha]
        refine z_ifn (by decide) ?_
        unfold p173_7
        rw [zc]
        refine ⟨zi, z_ifn ?_ h24⟩
        rcases hcl with e | e
        · rw [e] at ha
          cases ha
        · rw [e]
          decide
      · rw [if_neg ha]
        exact z_ifp rfl h24
    obtain ⟨v, cv, hv⟩ := c78 (l := 5 * k + 81) hh hw
    have dk : ∀ S', z_AtD S0 R0 G S' → z_oj (.inr 10) (fun v => v = none ∧ ∃ R' j' t' i' m' p', z_Hr b n me ep d j0 τ0 s0 nn0 kk0 w0 S0 R0 p0 0 j' t' i' m' p' S' R' ∧ (R'.2.2 41 53 = 3 ∧ R'.2.2 41 54 = nI m' ∧ R'.2.2 41 55 = z_fn 0 (R'.1 82) d) ∧ ∀ Q, z_Hq Q R' → G Q) (z_AtD S0 R0 G S') := fun S' hS' => ⟨rfl, hS'⟩
    refine t73_21 (A := S.1) (E := S.2.1) (N := S.2.2.1) (V := S.2.2.2.1) (W := S.2.2.2.2.1) (c := S.2.2.2.2.2) ?_
    refine z_ifn (nI_ge (b := 1500) (by omega) (by decide)) ⟨hr.rm.1, _, S, cv, v, rfl, ?_⟩
    rcases hv with ⟨rfl, hv⟩ | ⟨rfl, ho, hv⟩
    · -- the end
      have ref161 : ∀ Q, p173_161 18 R.1 R.2.1 R.2.2 (nI d) (fun x R1 => x = none ∧ z_Hq Q R1) → G Q := by
        intro Q h161
        refine ref24 Q ?_
        rcases z_opr_k t.2.1 lj.2 with ⟨-, q1, q2, q3, q4, q5⟩ | hk5
        · rw [← wk] at q1 q2 q3 q4 q5
          exact z_ifn q1 (z_ifn q2 (z_ifn q3 (z_ifn q4 (z_ifn q5 h161))))
        · have hcmp : p173_116 18 R.1 R.2.1 R.2.2 (nI d) (fun x R1 => x = none ∧ z_Hq Q R1) → ¬ z_fn 0 (R.1 85) d < 0 → True := fun _ _ => trivial
          rcases hv with hv | ⟨hv1, hv2⟩
          · exfalso
            rcases hk5 with e | e | e | e | e <;> (rw [e] at hv; revert hv; decide)
          · have h116 : p173_116 18 R.1 R.2.1 R.2.2 (nI d) (fun x R1 => x = none ∧ z_Hq Q R1) := by
              unfold p173_116
              rw [zc]
              exact ⟨zi, z_ifp (Int32.not_lt.mp hv2) h161⟩
            rcases hk5 with e | e | e | e | e
            · have w1 : R.2.2 41 7 = 61 := by rw [wk, e]; rfl
              exact z_ifn (by rw [w1]; decide) (z_ifn (by rw [w1]; decide) (z_ifn (by rw [w1]; decide) (z_ifn (by rw [w1]; decide) (z_ifp w1 h116))))
            · have w1 : R.2.2 41 7 = 60 := by rw [wk, e]; rfl
              exact z_ifn (by rw [w1]; decide) (z_ifn (by rw [w1]; decide) (z_ifn (by rw [w1]; decide) (z_ifp w1 h116)))
            · rw [e] at hv1
              exact absurd hv1 (by decide)
            · rw [e] at hv1
              exact absurd hv1 (by decide)
            · rw [e] at hv1
              exact absurd hv1 (by decide)
      refine z_ifp rfl ⟨hr.rm.1, ?_⟩
      rcases sT0 (l := 5 * k + 68) hh hw hb.1 h93 h94 with ⟨i', m', p', S', R', c1, c2, c3, c4⟩ | ⟨S', R', c1, c2, c3, c4, c5⟩
      · refine ⟨_, S', c1, _, rfl, rfl, ?_⟩
        obtain ⟨R2, hR2⟩ : ∃ X, X = (R'.1, R'.2.1, z_v (z_v (z_v R'.2.2 41 54 (nI m')) 41 55 (z_fn 0 (R'.1 82) d)) 41 53 3) := ⟨_, rfl⟩
        refine ⟨R2, j, t, i', m', p', ?_, ⟨by rw [hR2]; rfl, by rw [hR2]; rfl, by rw [hR2]; rfl⟩, fun Q hQ => ref161 Q ⟨none, R', c2, rfl, ?_⟩⟩
        · rw [hR2]
          exact c3.upd (R' := (R'.1, R'.2.1, z_v (z_v (z_v R'.2.2 41 54 (nI m')) 41 55 (z_fn 0 (R'.1 82) d)) 41 53 3)) (fun _ _ => rfl) rfl (fun _ _ _ => rfl) (fun _ _ => ⟨rfl, rfl, rfl⟩) rfl (fun k' q' e => by
            show z_v (z_v (z_v R'.2.2 41 54 (nI m')) 41 55 (z_fn 0 (R'.1 82) d)) 41 53 3 k' q' = R'.2.2 k' q'
            rw [z_vn (by omega), z_vn (by omega), z_vn (by omega)])
        · unfold p173_166
          rw [zc, c4.1]
          rw [hR2] at hQ
          exact ⟨zi, zi, rfl, hQ⟩
      · exact ⟨_, S', c1, rfl, dk S' ⟨4, nI t.1, c2, fun Q hQ => by
          refine ref161 Q ⟨none, R', c3, rfl, ?_⟩
          unfold p173_166
          rw [zc]
          refine ⟨zi, zi, rfl, ?_⟩
          have x2 : z_XR R' (R'.1, R'.2.1, z_v (z_v (z_v R'.2.2 41 54 (z_fn 0 (R'.1 86) d)) 41 55 (z_fn 0 (R'.1 82) d)) 41 53 3) := z_XR_U (fun k' j' e => by rw [z_vn (by omega), z_vn (by omega), z_vn (by omega)])
          exact eHt (x := 4) (y := nI t.1) c4 (hQ _ c4 (c5.tr x2))⟩⟩
    · -- an operator
      refine z_ifn (by decide) ⟨hr.rm.1, _, S, c79 (l := 5 * k + 82) hW lj.2 hr, _, rfl, hr.rm.1, _, S, c80 (l := 5 * k + 82), _, rfl, hr.rm.1, ?_⟩
      have IH : ∀ (j' : Nat) (t' : Nat × Nat × Int32) (S' : z_CS) (R' : z_RS) (i' m' p' : Nat), j < j' → z_Lp b n me ep d j0 τ0 s0 nn0 kk0 w0 S0 R0 p0 G j' t' i' m' p' S' R' → z_WC (5 * k + 84) 73 21 [(0, .ref 131), (1, .int (nI d)), (2, .int (nI w0)), (3, .int (nI p')), (4, .int (nI (c + 1)))] [] S' (fun o S' => z_oj o (fun v => v = none ∧ ∃ R' j' t' i' m' p', z_Hr b n me ep d j0 τ0 s0 nn0 kk0 w0 S0 R0 p0 0 j' t' i' m' p' S' R' ∧ (R'.2.2 41 53 = 3 ∧ R'.2.2 41 54 = nI m' ∧ R'.2.2 41 55 = z_fn 0 (R'.1 82) d) ∧ ∀ Q, z_Hq Q R' → G Q) (z_AtD S0 R0 G S')) := fun j' t' S' R' i' m' p' hj hl => ihq j' t' S' R' i' m' p' (c + 1) (by omega) (by omega) hl
      have t0 : ¬ t.2.1 = 0 := by
        intro e
        rw [e] at ho
        exact ho rfl
      have r175 : ∀ (R' : z_RS) Q, z_Td 4 (nI t.1) R'.2.2 → z_XR R0 R' → (∀ R', z_Td 4 (nI t.1) R'.2.2 → z_XR R0 R' → Q none R') → z_WR 18 175 0 [(0, .ref 148)] [] R' (fun x R1 => x = none ∧ z_Hq Q R1) := fun R' Q a1 a2 hQ => t175_0 (B := R'.1) (M := R'.2.1) (U := R'.2.2) (z_ifn a1.1 ⟨rfl, eHt a1 (hQ R' a1 a2)⟩)
      -- + and -
      have sums : ∀ o : Nat, (o = 9 ∨ o = 10) → z_opr t.2.1 = nI o → (∀ Q, p173_78 18 R.1 R.2.1 R.2.2 (nI d) (nI (o - 4)) (fun x R1 => x = none ∧ z_Hq Q R1) → G Q) → z_WC (5 * k + 83) 81 0 [(0, .ref 131), (1, .int (nI w0)), (2, .int (z_rnk (z_opr t.2.1))), (3, .int (nI p))] [] S (z_cx (fun o S' => z_oj o (fun v => v = none ∧ ∃ R' j' t' i' m' p', z_Hr b n me ep d j0 τ0 s0 nn0 kk0 w0 S0 R0 p0 0 j' t' i' m' p' S' R' ∧ (R'.2.2 41 53 = 3 ∧ R'.2.2 41 54 = nI m' ∧ R'.2.2 41 55 = z_fn 0 (R'.1 82) d) ∧ ∀ Q, z_Hq Q R' → G Q) (z_AtD S0 R0 G S')) (fun x S1 => ∃ v : Int32, x = some (.int v) ∧ p73_54 (5 * k + 83) S1.1 S1.2.1 S1.2.2.1 S1.2.2.2.1 S1.2.2.2.2.1 S1.2.2.2.2.2 (nI d) (nI w0) (nI p) (nI c) (z_opr t.2.1) v (fun o S' => z_oj o (fun v => v = none ∧ ∃ R' j' t' i' m' p', z_Hr b n me ep d j0 τ0 s0 nn0 kk0 w0 S0 R0 p0 0 j' t' i' m' p' S' R' ∧ (R'.2.2 41 53 = 3 ∧ R'.2.2 41 54 = nI m' ∧ R'.2.2 41 55 = z_fn 0 (R'.1 82) d) ∧ ∀ Q, z_Hq Q R' → G Q) (z_AtD S0 R0 G S')))) := by
        intro o ho9 eo refK
        have rk : z_rnk (nI o) = 1 := by
          rcases ho9 with e | e <;> (rw [e]; rfl)
        rw [eo, rk]
        rcases sT1 (l := 5 * k + 68) hh hw hb.1 h93 h94 with ⟨i', m', p', S', R', c1, c2, c3, ⟨k89, k90, k91, k93, k96⟩⟩ | ⟨S', R', c1, c2, c3, c4, c5⟩
        · refine ⟨_, S', c1, _, rfl, ?_⟩
          have q1 := c3.put (k := 88) (v := nI (o - 4)) (L := R'.1 88) (by decide) rfl
          refine jpush (r := 1) ih hk q1 (by decide) t0 ⟨by omega, by omega, rk⟩ (Or.inr ?_) ?_ ?_ (fun q' a1 a2 => ?_) ?_ ?_ hw hb (fun Q hQ => refK Q ⟨none, R', c2.up (by decide), rfl, ?_⟩) dk IH
          · exact z_fcs
          · exact k89
          · exact k90
          · have : q' = 2 := by omega
            subst this
            exact k91
          · exact k93
          · exact k96
          · unfold p173_84
            rw [zc]
            exact ⟨zi, hQ.im (fun v R1 hv => ⟨hv.1, rfl, hv.2⟩)⟩
        · refine ⟨_, S', c1, rfl, dk S' ⟨4, nI t.1, c2, fun Q hQ => refK Q ⟨none, R', c3.up (by decide), rfl, ?_⟩⟩⟩
          unfold p173_84
          rw [zc]
          exact ⟨zi, (r175 (z_u R'.1 88 ((d, nI (o - 4)) :: R'.1 88), R'.2.1, R'.2.2) Q c4 (c5.tr (z_XR_B (fun q r => z_un (by omega)))) hQ).im (fun v R1 hv => ⟨hv.1, rfl, hv.2⟩)⟩
      -- < and =
      have cmps : ∀ o : Nat, (o = 12 ∨ o = 13) → z_opr t.2.1 = nI o → (∀ Q, p173_141 18 R.1 R.2.1 R.2.2 (nI d) (nI (o - 4)) (fun x R1 => x = none ∧ z_Hq Q R1) → G Q) → z_WC (5 * k + 83) 81 0 [(0, .ref 131), (1, .int (nI w0)), (2, .int (z_rnk (z_opr t.2.1))), (3, .int (nI p))] [] S (z_cx (fun o S' => z_oj o (fun v => v = none ∧ ∃ R' j' t' i' m' p', z_Hr b n me ep d j0 τ0 s0 nn0 kk0 w0 S0 R0 p0 0 j' t' i' m' p' S' R' ∧ (R'.2.2 41 53 = 3 ∧ R'.2.2 41 54 = nI m' ∧ R'.2.2 41 55 = z_fn 0 (R'.1 82) d) ∧ ∀ Q, z_Hq Q R' → G Q) (z_AtD S0 R0 G S')) (fun x S1 => ∃ v : Int32, x = some (.int v) ∧ p73_54 (5 * k + 83) S1.1 S1.2.1 S1.2.2.1 S1.2.2.2.1 S1.2.2.2.2.1 S1.2.2.2.2.2 (nI d) (nI w0) (nI p) (nI c) (z_opr t.2.1) v (fun o S' => z_oj o (fun v => v = none ∧ ∃ R' j' t' i' m' p', z_Hr b n me ep d j0 τ0 s0 nn0 kk0 w0 S0 R0 p0 0 j' t' i' m' p' S' R' ∧ (R'.2.2 41 53 = 3 ∧ R'.2.2 41 54 = nI m' ∧ R'.2.2 41 55 = z_fn 0 (R'.1 82) d) ∧ ∀ Q, z_Hq Q R' → G Q) (z_AtD S0 R0 G S')))) := by
        intro o ho9 eo refK
        have rk : z_rnk (nI o) = 0 := by
          rcases ho9 with e | e <;> (rw [e]; rfl)
        rw [eo, rk]
        rcases sT0 (l := 5 * k + 68) hh hw hb.1 h93 h94 with ⟨i', m', p', S', R', c1, c2, c3, ⟨k86, k87, k88, k91, k93, k96⟩⟩ | ⟨S', R', c1, c2, c3, c4, c5⟩
        · refine ⟨_, S', c1, _, rfl, ?_⟩
          have q1 := c3.put (k := 85) (v := nI (o - 4)) (L := R'.1 85) (by decide) rfl
          refine jpush (r := 0) ih hk q1 (by decide) t0 ⟨by omega, by omega, rk⟩ (Or.inr ?_) ?_ ?_ (fun q' a1 a2 => ?_) ?_ ?_ hw hb (fun Q hQ => refK Q ⟨none, R', c2, rfl, ?_⟩) dk IH
          · exact z_fcs
          · exact k86
          · exact k87
          · have : q' = 1 ∨ q' = 2 := by omega
            rcases this with rfl | rfl
            · exact k88
            · exact k91
          · exact k93
          · exact k96
          · unfold p173_147
            rw [zc]
            exact ⟨zi, hQ.im (fun v R1 hv => ⟨hv.1, rfl, hv.2⟩)⟩
        · refine ⟨_, S', c1, rfl, dk S' ⟨4, nI t.1, c2, fun Q hQ => refK Q ⟨none, R', c3, rfl, ?_⟩⟩⟩
          unfold p173_147
          rw [zc]
          exact ⟨zi, (r175 (z_u R'.1 85 ((d, nI (o - 4)) :: R'.1 85), R'.2.1, R'.2.2) Q c4 (c5.tr (z_XR_B (fun q r => z_un (by omega)))) hQ).im (fun v R1 hv => ⟨hv.1, rfl, hv.2⟩)⟩
      have h116 : z_rnk (z_opr t.2.1) = 0 → ∀ Q, p173_125 18 R.1 R.2.1 R.2.2 (nI d) (fun x R1 => x = none ∧ z_Hq Q R1) → p173_116 18 R.1 R.2.1 R.2.2 (nI d) (fun x R1 => x = none ∧ z_Hq Q R1) := by
        intro e Q h
        unfold p173_116
        rw [zc, hv e]
        exact ⟨zi, z_ifn (by decide) h⟩
      rcases z_opr_k t.2.1 lj.2 with ⟨e, -⟩ | e | e | e | e | e
      · exact absurd e ho
      · have w1 : R.2.2 41 7 = 61 := by rw [wk, e]; rfl
        exact cmps 13 (Or.inr rfl) (by rw [e]; rfl) (fun Q h => ref24 Q (z_ifn (by rw [w1]; decide) (z_ifn (by rw [w1]; decide) (z_ifn (by rw [w1]; decide) (z_ifn (by rw [w1]; decide) (z_ifp w1 (h116 (by rw [e]; rfl) Q (z_ifn (by rw [w1]; decide) h))))))))
      · have w1 : R.2.2 41 7 = 60 := by rw [wk, e]; rfl
        exact cmps 12 (Or.inl rfl) (by rw [e]; rfl) (fun Q h => ref24 Q (z_ifn (by rw [w1]; decide) (z_ifn (by rw [w1]; decide) (z_ifn (by rw [w1]; decide) (z_ifp w1 (h116 (by rw [e]; rfl) Q (z_ifp w1 h)))))))
      · have w1 : R.2.2 41 7 = 43 := by rw [wk, e]; rfl
        exact sums 9 (Or.inl rfl) (by rw [e]; rfl) (fun Q h => ref24 Q (z_ifn (by rw [w1]; decide) (z_ifp w1 (z_ifp w1 h))))
      · have w1 : R.2.2 41 7 = 45 := by rw [wk, e]; rfl
        exact sums 10 (Or.inr rfl) (by rw [e]; rfl) (fun Q h => ref24 Q (z_ifn (by rw [w1]; decide) (z_ifn (by rw [w1]; decide) (z_ifp w1 (z_ifn (by rw [w1]; decide) h)))))
      · -- *
        have w1 : R.2.2 41 7 = 42 := by rw [wk, e]; rfl
        have eo : z_opr t.2.1 = nI 11 := by rw [e]; rfl
        have rk : z_rnk (nI 11) = 2 := rfl
        rw [eo, rk]
        rcases sT2 (l := 5 * k + 68) hh hw hb.1 h93 h94 with ⟨i', m', p', S', R', c1, c2, c3, ⟨k91, k92, k93, k96⟩⟩ | ⟨S', R', c1, c2, c3, c4, c5⟩
        · refine ⟨_, S', c1, _, rfl, ?_⟩
          exact jpush (r := 2) ih hk c3 (by decide) t0 ⟨by omega, by omega, rk⟩ (Or.inl rfl) k91 k92 (fun q' a1 a2 => by omega) k93 k96 hw hb (fun Q hQ => ref24 Q (z_ifp w1 ⟨none, R', c2.up (by decide), rfl, hQ.im (fun v R1 hv => ⟨hv.1, rfl, hv.2⟩)⟩)) dk IH
        · exact ⟨_, S', c1, rfl, dk S' ⟨4, nI t.1, c2, fun Q hQ => ref24 Q (z_ifp w1 ⟨none, R', c3.up (by decide), rfl, (r175 R' Q c4 c5 hQ).im (fun v R1 hv => ⟨hv.1, rfl, hv.2⟩)⟩)⟩⟩
/-- an operation -/
theorem jop (ih : z_Ih b n me ep k) (hk : d + (k + 1) = 50) (hp : z_P b n me ep j t τ s nn kk w S R) (hq : z_Aq d R) (hb : s + w ≤ 3 * j ∧ 5 * kk ≤ j ∧ w ≤ 3 * d) (ht : ¬ t.2.1 = 21 ∧ ¬ t.2.1 = 22 ∧ ¬ t.2.1 = 24 ∧ ¬ t.2.1 = 27 ∧ ¬ t.2.1 = 28) : z_WC (5 * k + 84) 73 0 [(0, .ref 131), (1, .int (nI d))] [] S (fun o S' => z_Eo b n me ep d j t τ s nn kk w S R o S') := by
  have d50 : d < 50 := by omega
  obtain ⟨Rb, hbg, refB⟩ := rB hp hq d50
  have hpb := hbg.p hp
  have hzb := hbg.zd hq d50
  have hr := hp.1.2.2.2.2
  have lj := hp.1.len
  have xb : z_XR R Rb := (hbg.fr (nn := 0) (kk := 0)).1
  have wk : Rb.2.2 41 7 = z_wco t.2.1 := hpb.1.2.1.2.2.2.2.2.2.2.1
  have e9 : S.2.2.2.1 3 9 = nI t.1 := hp.1.2.1.2.2.2.2.1
  have hv : S.2.2.2.1 24 7 = nI w := hp.2.2.2.2.2.2.2
  have ref1 : ∀ Q, z_Hq Q Rb → z_Hq Q R := fun Q h => refB Q (z_ifn (by rw [wk]; exact z_wco_n (i := 21) lj.2 (by decide) ht.1) (z_ifn (by rw [wk]; exact z_wco_n (i := 22) lj.2 (by decide) ht.2.1) (z_ifn (by rw [wk]; exact z_wco_n (i := 24) lj.2 (by decide) ht.2.2.1) (z_ifn (by rw [wk]; exact z_wco_n (i := 27) lj.2 (by decide) ht.2.2.2.1) (z_ifn (by rw [wk]; exact z_wco_n (i := 28) lj.2 (by decide) ht.2.2.2.2) ⟨rfl, h⟩)))))
  obtain ⟨⟨a80, a81, a83, a82⟩, ⟨b85, b88, b91, b93, b95, b96⟩, -, -, -, -, b53, -⟩ := id hbg
  refine t73_0 (A := S.1) (E := S.2.1) (N := S.2.2.1) (V := S.2.2.2.1) (W := S.2.2.2.2.1) (c := S.2.2.2.2.2) ?_
  unfold p73_0
  rw [hv, e9]
  refine ⟨hr.rm.1, (jcall ih hk hpb hzb b53 b93 b95 b96 ⟨by omega, hb.2.1, by omega⟩).im (fun o2 S2 ho2 => ?_)⟩
  rcases o2 with v2 | e2
  case inr =>
    obtain ⟨rfl, x, y, r1, r2⟩ := ho2
    exact ⟨rfl, rfl, x, y, r1, fun Q hQ => ref1 Q (r2 Q (fun R' a c => hQ R' a (xb.tr c)))⟩
  obtain ⟨rfl, j2, t2, R2, ⟨τ2, s2, nn2, kk2, f2, m2, P2, Z2, ⟨u53, u93, u94, u95⟩, C2, fr2, at2, te2, fc2, ⟨l1, l2, l3, l4, l5, l6⟩, ref2⟩, hcl⟩ := ho2
  refine ⟨rfl, ?_⟩
  refine (jol (G := fun Q => z_Hq Q R) (τ0 := τ) (j0 := j) (s0 := s) (nn0 := nn) (kk0 := kk) (w0 := w) (S0 := S) (R0 := Rb) (p0 := t.1) ih hk hb.2.2 ⟨hb.1, hb.2.1⟩ (1501 - j2) j2 t2 S2 R2 w m2 t.1 0 (Nat.le_refl _) (by omega) ⟨⟨τ2, s2, nn2, kk2, f2, s, nn, P2, Z2, C2, ⟨w, s, nn, ⟨w, s, nn, ⟨w, s, nn, ⟨rfl, rfl, rfl⟩, Or.inl ⟨rfl, rfl, rfl, ?_⟩⟩, Or.inl ⟨rfl, rfl, rfl, ?_⟩⟩, Or.inl ⟨rfl, rfl, rfl, ?_⟩⟩, fr2, fun q a c => at2 q a (by omega), u95, te2, fc2, ⟨l1, by omega, l3, l4, l5, l6⟩, fun _ => rfl, fun e => absurd e (Nat.lt_irrefl _)⟩, ⟨u93, u94⟩, u53, hcl, fun Q h => ref1 Q (ref2 Q h)⟩).im (fun o3 S3 ho3 => ?_)
  · show z_fn 0 (R2.1 85) d = -1
    rw [at2 85 (by decide) (by decide), b85]
  · show z_fn 0 (R2.1 88) d = -1
    rw [at2 88 (by decide) (by decide), b88]
  · show z_fn 0 (R2.1 91) d = -1
    rw [at2 91 (by decide) (by decide), b91]
  rcases o3 with v3 | e3
  case inr =>
    obtain ⟨rfl, x, y, r1, r2⟩ := ho3
    exact ⟨rfl, x, y, r1, fun Q hQ => r2 Q (fun R' a c => hQ R' a (xb.tr c))⟩
  obtain ⟨rfl, R3, j3, t3, i3, m3, p3, ⟨τ3, s3, nn3, kk3, f3, s3', q3', P3, Z3, C3, ⟨rfl, rfl, hq3⟩, fr3, at3, u95', te3, fc3, ⟨k1, k2, k3, k4, k5, k6⟩, hl, -⟩, ⟨g53, g54, g55⟩, ref3⟩ := ho3
  have e8 : R.2.2 41 8 = nI t.1 := hp.1.2.1.2.2.2.2.2.2.1
  have at82 : z_fn 0 (R3.1 82) d = nI t.1 := by rw [at3 82 (by decide) (by decide), a82, e8]
  rw [hl rfl, hq3] at C3
  exact ⟨rfl, R3, j3, t3, τ3, s3, nn3, kk3, f3, m3, P3, Z3, ⟨g53, g54, g55.trans at82⟩, C3, ⟨(at3 80 (by decide) (by decide)).trans a80, (at3 81 (by decide) (by decide)).trans a81, (at3 83 (by decide) (by decide)).trans a83, at82⟩, te3, fc3, (hbg.fr (nn := nn) (kk := kk)).tr fr3 (Nat.le_refl _) (Nat.le_refl _) (Nat.le_refl _), ⟨k1, by omega, k3, Nat.le_of_lt k4, k5⟩, ref3⟩
end ZZ7
