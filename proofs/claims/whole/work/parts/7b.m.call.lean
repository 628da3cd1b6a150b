/-! Both run together: a call. -/
theorem y_fu1 {fu f0 : Int32} {a : Nat} (h : fu - f0 = nI a) : fu + 1 - f0 = nI (a + 1) := by
  rw [Int32.sub_eq_add_neg, Int32.add_assoc, Int32.add_comm 1, ← Int32.add_assoc, ← Int32.sub_eq_add_neg, h]
  exact z_nI2 (i := a) (k := 1)
section YE
variable {b : Nat → Nat} {n : Nat} {τ : z_TT} {A1 B1 A2 : Nat → List (Nat × Int32)} {S0 : z_CS} {R0 : z_RS} {ce : Nat} {tt0 : z_F} {most : Nat} {f0 : Int32} {Φ : z_V → z_CS → Option Value → z_RS → Prop}
variable {S S' : z_CS} {R R' : z_RS} {tp bs rd pc : Nat} {fu : Int32} {th dp : Nat} {X : y_X} {cs0 : List Nat} {al : Nat → Prop} {φ : Nat → Nat} {ψ : Nat → z_F} {F : Nat} {fg : List Nat} {fc : Nat → List Nat} {Y : Nat → y_X} {pd cp : Nat → Nat} {aw ph fl Ψ m e : Nat} {Γ : List z_F} {tt t : z_F} {wt : Nat} {u : z_Bd} {v : Int32} {D : y_D} {en tl : Nat} {cv : List Nat} {f i k p : Nat} {x : y_E × List Nat}
variable {s tp0 en0 tl0 : Nat} {cv0 : List Nat}
/-- fuel -/
theorem y_Cr.fuel (hp : y_Pg b n A1 B1 A2 S0 R0 ce tt0 most) (hC : y_Cr b n τ A1 B1 A2 S0 R0 ce most f0 tp bs rd pc fu th dp X cs0 al φ ψ F fg fc Y pd cp aw ph fl Ψ S R) : nI most - (R.2.2 41 98 - f0) = nI fl ∧ (1 ≤ fl → ¬ nI most - (R.2.2 41 98 - f0) = 0 ∧ ¬ fu - f0 = nI most ∧ fu + 1 - f0 = nI (most - (fl - 1))) ∧ (fl = 0 → nI most - (R.2.2 41 98 - f0) = 0 ∧ fu - f0 = nI most) := by
  obtain ⟨-, c2, -, ⟨c4, c4'⟩, -⟩ := hC
  have m2 := hp.2.2.2.2.1
  have e1 : nI most - (R.2.2 41 98 - f0) = nI fl := by
    rw [c2.2.1.2.2.1, c4, pk_sub (by omega)]
    congr 1
    omega
  refine ⟨e1, fun h => ⟨?_, ?_, ?_⟩, fun h => ⟨?_, ?_⟩⟩
  · rw [e1]
    exact fun q => absurd ((nI_eq (a := fl) (b := 0) (by omega) (by decide)).mp q) (by omega)
  · rw [c4]
    exact fun q => absurd ((nI_eq (by omega) (by omega)).mp q) (by omega)
  · rw [y_fu1 c4]
    congr 1
    omega
  · rw [e1, h]
    rfl
  · rw [c4, h]
    rfl
/-- no fuel is left -/
theorem y_g_stop {o : Nat} (hp : y_Pg b n A1 B1 A2 S0 R0 ce tt0 most) (hC : y_Cr b n τ A1 B1 A2 S0 R0 ce most f0 (tp + 1) bs rd pc fu th dp (x :: X) cs0 al φ ψ F fg fc Y pd cp aw ph fl Ψ S R) (hi : i + Ψ ≤ 99999990) (hu : R.2.2 41 105 = 1 ∧ R.2.2 41 104 = v ∧ pc < ce) (hm : x.1.2.1 = nI m) (hm6 : m < 600) (hw : x.1.1 = 5 ∨ x.1.1 = 6) (ho : z_fn 0 (A1 14) pc = nI o) (oo : o = 15 ∨ o = 16) (hfl : fl = 0) (kS : Φ (.inl (some (.int (fu - f0)))) S (some (.int (fu - f0))) R) : y_J most f0 Φ i S R := by
  have hl := y_vl hC hu hm hm6
  obtain ⟨-, -, f3⟩ := hC.fuel hp
  obtain ⟨f4, f5⟩ := f3 hfl
  refine z_CL.stop (o := o) hC.1 hp.2.1.1 hu.2.2 (hp.op hu.2.2 ho (by omega) (by omega)) oo (by omega) f5 ?_
  refine y_g5s hl hw f4 ?_
  rw [hC.2.1.2.1.2.2.1]
  exact kS
/-- the function that is called -/
theorem y_vr.fz {a r : z_F} {x v : Int32} (h : y_vr φ ψ F (z_fz a r) x v) : ∃ f, f < F ∧ v = nI f ∧ x = nI (φ f) ∧ ψ f = z_fz a r := by
  rcases h with ⟨k', -, h1, -⟩ | ⟨f, h1, h2, h3, h4, -⟩
  · exact absurd h1 z_fz_bz
  · exact ⟨f, h1, h2, h3, h4⟩
/-- a closure is called -/
theorem y_g_call {x1 y g f1 f' : Nat} {t1 : z_F} {v1 v2 : z_Bd} (hp : y_Pg b n A1 B1 A2 S0 R0 ce tt0 most) (hC : y_Cr b n τ A1 B1 A2 S0 R0 ce most f0 (tp0 + 2) bs rd (e - 1) fu th dp (x :: X) cs0 al φ ψ F fg fc Y pd cp aw ph fl Ψ S R) (hi : i + Ψ ≤ 99999990) (hu : R.2.2 41 105 = 1 ∧ R.2.2 41 104 = v ∧ e - 1 < ce) (hm : x.1.2.1 = nI m) (hm6 : m < 600) (hse : s < e ∧ u.1.1 ≤ m ∧ m < u.1.2 ∧ e < ce) (hB : y_Bs b n A1 ce (z_rq S) R.1 (y_vr φ ψ F) (z_mm S) (y_SK b n τ A1 B1 A2 ce tt0 rd φ ψ F fg X S R) D tp0 bs s e Γ tt wt u x.2 x.1.2.2.2 en0 tl0 cv0 ph) (hw : x.1.1 = 5) (hc : y_c10 b n τ A1 B1 f wt u m s e Γ tt x1 y g t1 v1 v2) (hfF : f1 < F) (hvv : x.1.2.2.1 = nI f1) (hmm : z_mm S tp0 = nI (φ f1)) (hψ : ψ f1 = z_fz t1 tt) (hcf : y_Cf b n τ A1 B1 ce (z_rq S) rd fg R.1 (y_vr φ ψ F) (φ f1) f1 (ψ f1) (fc f1)) (hv : y_vr φ ψ F t1 (z_mm S (tp0 + 1)) v) (hfl : 1 ≤ fl) (kE : ∀ S' R' r, y_En S0 R0 S' R' → Φ (.inl (some (.int r))) S' (some (.int r)) R') (kW : ∀ f' S' R', y_W b n τ A1 B1 A2 S0 R0 ce tt0 most f0 f' (Ψ - 1) S' R' → 1 ≤ Ψ → y_J most f0 Φ (i + 1) S' R') : y_J most f0 Φ i S R := by
  obtain ⟨rB, -⟩ := hC.rw hp
  have hl := y_vl (tp := tp0 + 1) hC hu hm hm6
  rw [hw, hvv] at hl
  have c47 := hp.1.2.1
  obtain ⟨-, fz, -⟩ := hC.fuel hp
  obtain ⟨fz1, fz2, fz3⟩ := fz hfl
  obtain ⟨d1, d2, d3, ⟨d4, d4'⟩, d5⟩ := id hC
  obtain ⟨p1, -⟩ := d2.pop
  obtain ⟨hfr, l100, lk, Xl, tpl, bsl, L, L1, L2, L3⟩ := hB.fr
  have dp4 : dp ≤ 400 := d2.2.2.1.2.1
  have hF := d2.F1
  have th1 : th ≤ 1000 := d2.2.2.1.1
  obtain ⟨u96, u97, u98, u99, u100, u114, u94⟩ := d2.2.1
  have edp : y_dp X = dp := by
    have : y_dp X + (if x.1.1 < 7 then 0 else 1) = dp := d3
    rw [if_pos (by rw [hw]; decide)] at this
    exact this
  have op15 := hp.op (o := 15) hu.2.2 hc.2.2.2.2.2.2.2.2 (by decide) (by decide)
  have g9 := hc.2.2.2.2.1
  have g8 := hc.2.2.2.1
  obtain ⟨s1, s5, s6, s7, k, p', s8, s9⟩ := id hB
  obtain ⟨nd, sf, ef, ff, wf, uf, Γf, ta, tr, xf, w1, ⟨a1, a2, a3, a3'⟩, ⟨b1, b2, b3⟩, hrc, hte, ⟨bd1, bd2, bd3⟩, hkind⟩ := hcf
  rw [hψ] at hte
  obtain ⟨hta, htr⟩ := z_fz_inj hte
  subst hta
  subst htr
  have frd : φ f1 < rd := d2.2.2.2.1.2.2.1 f1 hfF
  -- which of the two it is
  obtain ⟨o, ho, hoo, gE, hoE, hgE, aw1, aw2, hP1, hGE1, hGE2⟩ : ∃ o, z_fn 0 (A1 14) sf = nI o ∧ (o = 17 ∨ o = 19) ∧ ∃ gE, (∃ o', z_fn 0 (A1 14) gE = nI o' ∧ (o' = 18 ∨ o' = 20 ∨ o' = 23 ∨ o' = 25)) ∧ z_fn 0 (A1 17) sf = nI gE ∧ xf < 600 ∧ z_fn 0 (B1 58) nd = nI xf ∧ y_P b n τ A1 B1 ff wf 4 w1 xf (sf + 1) gE (if o = 19 then t1 :: z_fz t1 tt :: Γf else t1 :: Γf) tt ∧ sf + 1 < gE ∧ gE + 1 ≤ ef := by
    rcases hkind with ⟨-, ⟨⟨q1, q2⟩, q3, q4, q5, q6, q7, q8, q9⟩, -⟩ | ⟨-, ⟨t', y', g', v2', ⟨⟨q1, q1', q2, q2', q2''⟩, q3, q4, q5, q6, q7, q8, q9, q10, q11, q12, q13, q14, q15, q16⟩⟩, -⟩
    · exact ⟨17, q5, Or.inl rfl, ef - 1, ⟨18, q9, Or.inl rfl⟩, q7, q1, q3, by rw [if_neg (by decide)]; exact q8, q4, by omega⟩
    · exact ⟨19, q7, Or.inr rfl, g', ⟨20, q12, Or.inr (Or.inl rfl)⟩, q11, q1, q3, by rw [if_pos rfl]; exact q10, q5, by omega⟩
  have opm := hp.op (o := o) (j := sf) (by omega) ho (by omega) (by omega)
  by_cases hd4 : dp = 400
  · subst hd4
    refine g_calld (o := o) d1 hp.2.1.1 hu.2.2 op15 fz2 (by omega) hmm frd b1 (by omega) opm hoo (fun S1 hz => ?_)
    refine y_g5d hl fz1 u98 (by omega) a2 a1 u100 ?_
    exact kE S1 _ _ (y_En.mk hz ((d2.1.iv (j := 96) (by decide)).iv (j := 98) (by decide) |>.iv (j := 94) (by decide)) y_iv_k ((y_iv_n (by decide)).trans y_cs_98) ((y_iv_n (by decide)).trans ((y_cs_n (by decide) (by decide)).trans u99)) ((y_iv_n (by decide)).trans ((y_cs_n (by decide) (by decide)).trans u100)) (by decide))
  · -- the reference's state before the name
    have g1 := p1.iv (U' := (y_iv 100 (nI (dp + 1)) (y_cs X.length fu R)).2.2) (fu' := fu + 1) (th' := th) (dp' := dp + 1) (fun a k hk => by
      show z_v (z_v (y_iv 96 (nI X.length) R).2.2 41 98 (fu + 1)) 41 100 (nI (dp + 1)) a k = _
      rw [z_vn (fun q => hk ⟨q.1, by omega⟩), z_vn (fun q => hk ⟨q.1, by omega⟩)]) ((y_iv_n (by decide)).trans y_cs_98) ((y_iv_n (by decide)).trans ((y_cs_n (by decide) (by decide)).trans u99)) y_iv_k (Nat.le_refl _) th1 (by omega)
    have g2 := g1.pt (x := ((7, nI nd, 0, -1), [])) rfl (fun c hc => by cases hc) (by omega) ⟨L, by omega, fun e he => by
      cases he with
      | head => intro c hc; cases hc
      | tail _ he => exact L3 e he⟩
    have g2 : y_Gr b n τ A1 B1 A2 ce R0 (z_rq S) rd (fu + 1) th (dp + 1) (((7, nI nd, 0, -1), []) :: X) cs0 al φ ψ F fg fc Y pd cp aw (y_cl1 X.length nd dp fu R) := g2
    have cB : ∀ q, ¬ (111 ≤ q ∧ q ≤ 114) → (y_cl1 X.length nd dp fu R).1 q = R.1 q := by
      intro q hq
      show z_u (z_u (z_u (z_u R.1 111 ((X.length, 7) :: R.1 111)) 112 ((X.length, nI nd) :: R.1 112)) 113 ((X.length, 0) :: R.1 113)) 114 ((X.length, -1) :: R.1 114) q = R.1 q
      rw [z_un (by omega), z_un (by omega), z_un (by omega), z_un (by omega)]
    have lkf : y_lk (y_nx R.1) (z_fn 0 (R.1 120) f1) (fc f1) ∧ (fc f1).length ≤ (z_ctx A1 sf).1.length + 1 := by
      rcases hkind with ⟨-, -, q⟩ | ⟨-, -, q⟩
      · obtain ⟨l1, l2, l3⟩ := y_en.len _ _ _ _ q
        exact ⟨l3, by omega⟩
      · obtain ⟨l1, l2, l3⟩ := y_en.len _ _ _ _ q
        rw [List.length_cons] at l1
        exact ⟨l3, by omega⟩
    have alf := (d2.2.2.2.2.2.2.2.2 f1 hfF).1
    obtain ⟨R1, j, hn, kr⟩ := y_g5c (n := nI most) (f0 := f0) (dp := dp) hl fz1 u98 (by omega) a2 a1 u100 (by omega) (g2.as (x4 := z_fn 0 (R.1 120) f1) (cs' := fc f1) (lkf.1.sB (fun c _ => y_sB.of (fun q a d => cB q (by omega)))) (by omega) alf)
    obtain ⟨gr, sB'⟩ := g2.nd hn
    obtain ⟨n1, ⟨n98, n99, n100, n101⟩, -⟩ := hn
    have sB : ∀ c, y_Lv cs0 (fc f1) (((7, nI nd, 0, -1), []) :: X) F fc Y c → y_sB R.1 R1.1 c := fun c hc q a d => by
      rw [sB' c hc q a d, cB q (by omega)]
    refine y_J.re ?_ kr
    rw [rB 58 (by decide) (by decide), aw2]
    -- the class's frame
    obtain ⟨h15, g', rm, hg1, hg2, hg3, hg4⟩ := (hp.1.2.2.1 sf (by omega)).2.2.2.1 (by rcases hoo with rfl | rfl; exact Or.inl ho; exact Or.inr (Or.inl ho))
    have eg : gE ≤ g' := by
      have q := hg1.symm.trans hgE
      by_cases hgl : g' < 2 ^ 31
      · exact Nat.le_of_eq ((nI_eq hgl (by omega)).mp q).symm
      · omega
    obtain ⟨Lf, hctx, hLf, hfl0⟩ : ∃ Lf, z_ctx A1 (sf + 1) = (Lf ++ (z_ctx A1 sf).1, (z_ctx A1 sf).1.length :: (z_ctx A1 sf).2) ∧ Lf = (if o = 19 then [z_fn 0 (A1 18) sf, z_fn 0 (A1 15) sf] else [z_fn 0 (A1 15) sf]) ∧ Lf.length = (if o = 19 then 2 else 1) := by
      rcases hoo with rfl | rfl
      · exact ⟨[z_fn 0 (A1 15) sf], by rw [z_ctx_s ho]; rfl, rfl, rfl⟩
      · exact ⟨[z_fn 0 (A1 18) sf, z_fn 0 (A1 15) sf], by rw [z_ctx_s ho]; rfl, rfl, rfl⟩
    have hrm := hg4 (sf + 1) (by omega) (by omega) (by rw [hctx, List.length_cons])
    rw [hctx, List.length_append, hfl0] at hrm
    refine g_call (o := o) (rm := rm) (mk := sf) (fr := φ f1) d1 hp.2.1.1 hu.2.2 op15 fz2 (by omega) bsl.1 hmm frd b1 (by omega) opm hoo (by rw [hp.2.1.2 18 (by decide) (by decide)]; exact hg2) (by omega) (by omega) (by omega) (fun S1 hM q1 m0 m1 m2 m3 m4 m5 q2 => ?_)
    rw [show e - 1 + 1 = e by omega] at m0
    have hwm := hP1.1.mod
    have hw4 := hP1.1.1
    have rgf := z_Ct.rg hP1.2
    have szf : w1.1.2 ≤ 600 ∧ w1.1.2 - w1.1.1 ≤ 600 := by
      rcases hkind with ⟨-, ⟨⟨-, q2⟩, -⟩, -⟩ | ⟨-, ⟨t', y', g', v2', ⟨⟨-, -, q2, -⟩, -⟩⟩, -⟩
      · have := q2.1.2
        omega
      · have := q2.1.2
        omega
    have lk1 : y_lk (y_nx R1.1) (nI j) (j :: fc f1) := by
      refine ⟨rfl, n1, ?_⟩
      rw [show y_nx R1.1 j = z_fn 0 (R.1 120) f1 from n101]
      exact lkf.1.sB (fun c hc => sB c (Or.inr (Or.inl hc)))
    have g3 := (gr.grw (rr' := z_rq S1) (rd' := rd) (fun x hx => q2 x hx) (Nat.le_refl _) gr.2.2.1.2.2.2.1).wk (m := nI xf) (nm := nI j) (cs' := j :: fc f1) lk1 (by rw [List.length_cons]; omega) (fun c hc => by
      cases hc with
      | head => exact Or.inr rfl
      | tail _ hc => exact Or.inl (Or.inr (Or.inl hc)))
    have hwk := y_wk_u (R := R1) (x := nI xf) (nm' := nI j)
    have rcm : ∀ k, k ≤ (z_ctx A1 sf).1.length → z_rq S1 (φ f1 + k) = z_rq S (φ f1 + k) := fun k hk => q2 _ (by have := hrc.1; omega)
    have frN : y_Fr A1 A2 ce (z_rq S1) rd fg (z_mm S1) (tp0 + 4 + rm) tp0 (φ f1, (z_ctx A1 sf).1.length, (z_ctx A1 sf).2, rm, sf + 1, gE) := ⟨⟨Nat.le_refl _, hg3⟩, m2, ⟨sf, by have := rcm 0 (Nat.zero_le _); rw [Nat.add_zero] at this; show z_rq S1 (φ f1) = _; rw [this]; exact b1, by omega, h15⟩, hrc.1, hrc.2, fun j j1 j2 j3 => hg4 j (by have j1 : sf + 1 ≤ j := j1; omega) (by have j2 : j ≤ gE := j2; omega) j3⟩
    have sk := (y_SK.mo (S' := S1) (R' := y_wk (nI xf) (nI j) R1) (T := tp0) (fg' := fg) (rd' := rd) (fun x _ hx => q1 x hx) (fun x hx q => ⟨q2 x hx, q⟩) (Nat.le_refl _) (fun _ _ _ q => q) (fun e he c hc => sB c (Or.inr (Or.inr (Or.inl ⟨e, List.mem_cons_of_mem _ he, hc⟩)))) (Nat.le_refl _) s9).2
    have nd57 : z_fn 0 (R.1 57) nd = z_fn 0 (B1 57) nd := by rw [rB 57 (by decide) (by decide)]
    refine kW ff S1 _ ⟨tp0 + 4 + rm, tp0, rd, sf + 1, fu + 1, th, dp + 1, ((7, nI nd, 0, -1), []) :: X, j :: fc f1, _, φ, ψ, F, fg, fc, Y, pd, cp, aw, ph + (4601 - e), fl - 1, xf, gE, _, tt, wf - 4, w1, nI j, (φ f1, (z_ctx A1 sf).1.length, (z_ctx A1 sf).2, rm, sf + 1, gE), 0, 0, [], ⟨hM, g3, ?_, ⟨fz3, by omega⟩, by omega⟩, ⟨g3.2.1.2.2.2.2.2.2, hwk.1, hwk.2.1, hwk.2.2, aw1⟩, ⟨hP1.2, by omega⟩, ⟨by rw [hctx], Nat.le_refl _, Nat.le_refl _, by rw [hctx, List.length_append]; show (z_ctx A1 sf).1.length ≤ _; omega⟩, ?_, ⟨by omega, by omega, by show tp0 + 4 + rm + (wf - 4) % 1000 ≤ tp0 + 4 + rm + 200; omega, by rw [hctx, List.length_append, hfl0]; show 2 * ((if o = 19 then 2 else 1) + (z_ctx A1 sf).1.length) + (wf - 4) % 1000 ≤ 200; split <;> omega, szf.1⟩, ⟨j :: fc f1, by rw [List.append_nil]⟩, 0, gE, rfl, nd, rfl, a1, rfl, Or.inr ⟨rfl, rfl, rfl, frN, Or.inl ⟨Or.inl rfl, ⟨rfl, rfl, m3, by omega⟩, hoE, e, tp0 - bs, D, k, p', en0, tl0, cv0, ph, ⟨m0, m1, by have := hfr.1; omega, by omega, hse.2.2.2, Nat.le_refl _⟩, s8, by rw [show tp0 - (tp0 - bs) = bs by omega]; exact sk⟩⟩⟩ (by omega)
    · show y_dp X + (if (7 : Int32) < 7 then 0 else 1) = dp + 1
      rw [if_neg (by decide), edp]
    · rw [hctx]
      rcases hkind with ⟨h57, hc3, env⟩ | ⟨h57, ⟨t', y', g'', v2', hc1⟩, env⟩
      · have eo : o = 17 := by
          rcases hoo with q | q
          · exact q
          · rw [q] at ho
            exact absurd (hc3.2.2.2.1.symm.trans ho) (by decide)
        subst eo
        rw [if_neg (by decide)] at hLf m4 ⊢
        rw [hLf]
        refine ⟨rfl, n1, ?_, ?_, ?_⟩
        · rw [show z_fn 0 ((y_wk (nI xf) (nI j) R1).1 98) j = _ from n98, show z_fn 0 ((y_wk (nI xf) (nI j) R1).1 99) j = _ from n99]
          unfold y_n1 y_n2
          rw [if_neg (by rw [nd57, h57]; decide), if_neg (by rw [nd57, h57]; decide), rB 64 (by decide) (by decide), rB 65 (by decide) (by decide)]
          exact hc3.2.2.2.2.1
        · rw [show z_fn 0 ((y_wk (nI xf) (nI j) R1).1 100) j = _ from n100]
          show y_vr φ ψ F t1 (y_va (z_rq S1) (z_mm S1) tp0 _ (z_ctx A1 sf).1.length) v
          unfold y_va
          rw [if_pos (Nat.le_refl _)]
          show y_vr φ ψ F t1 (z_mm S1 (tp0 + 4 + ((z_ctx A1 sf).1.length - (z_ctx A1 sf).1.length))) v
          rw [Nat.sub_self, Nat.add_zero, m4]
          exact hv
        · rw [show z_fn 0 ((y_wk (nI xf) (nI j) R1).1 101) j = _ from n101]
          refine y_en.mo (fun _ _ _ q => q) _ _ _ _ (fun k hk => ?_) (fun c hc => sB c (Or.inr (Or.inl hc))) env
          have hk : k < (z_ctx A1 sf).1.length := hk
          unfold y_va
          rw [if_neg (show ¬ (z_ctx A1 sf).1.length ≤ k by omega)]
          show z_rq S1 (φ f1 + 1 + k) = z_rq S (φ f1 + 1 + k)
          rw [Nat.add_assoc, rcm (1 + k) (by omega)]
      · have eo : o = 19 := by
          rcases hoo with q | q
          · rw [q] at ho
            exact absurd (hc1.2.2.2.2.2.1.symm.trans ho) (by decide)
          · exact q
        subst eo
        rw [if_pos rfl] at hLf m4 ⊢
        rw [hLf]
        refine ⟨rfl, n1, ?_, ?_, ?_⟩
        · rw [show z_fn 0 ((y_wk (nI xf) (nI j) R1).1 98) j = _ from n98, show z_fn 0 ((y_wk (nI xf) (nI j) R1).1 99) j = _ from n99]
          unfold y_n1 y_n2
          rw [if_pos (by rw [nd57, h57]), if_pos (by rw [nd57, h57]), rB 66 (by decide) (by decide), rB 67 (by decide) (by decide)]
          exact hc1.2.2.2.2.2.2.2.1
        · rw [show z_fn 0 ((y_wk (nI xf) (nI j) R1).1 100) j = _ from n100]
          show y_vr φ ψ F t1 (y_va (z_rq S1) (z_mm S1) tp0 _ ((z_ctx A1 sf).1.length + 1)) v
          unfold y_va
          rw [if_pos (show (z_ctx A1 sf).1.length ≤ (z_ctx A1 sf).1.length + 1 from Nat.le_succ _)]
          show y_vr φ ψ F t1 (z_mm S1 (tp0 + 4 + ((z_ctx A1 sf).1.length + 1 - (z_ctx A1 sf).1.length))) v
          rw [Nat.add_sub_cancel_left, m5 rfl]
          exact hv
        · rw [show z_fn 0 ((y_wk (nI xf) (nI j) R1).1 101) j = _ from n101]
          refine y_en.mo (fun _ _ _ q => q) _ _ _ _ (fun k hk => ?_) (fun c hc => sB c (Or.inr (Or.inl hc))) env
          have hk : k < (z_ctx A1 sf).1.length + 1 := hk
          show y_va (z_rq S1) (z_mm S1) tp0 _ k = (if k = (z_ctx A1 sf).1.length then nI (φ f1) else z_rq S (φ f1 + 1 + k))
          by_cases e : k = (z_ctx A1 sf).1.length
          · rw [if_pos e]
            unfold y_va
            rw [if_pos (show (z_ctx A1 sf).1.length ≤ k by omega)]
            show z_mm S1 (tp0 + 4 + (k - (z_ctx A1 sf).1.length)) = _
            rw [e, Nat.sub_self, Nat.add_zero, m4]
          · rw [if_neg e]
            unfold y_va
            rw [if_neg (show ¬ (z_ctx A1 sf).1.length ≤ k by omega)]
            show z_rq S1 (φ f1 + 1 + k) = z_rq S (φ f1 + 1 + k)
            rw [Nat.add_assoc, rcm (1 + k) (by omega)]
end YE
