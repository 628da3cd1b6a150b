/-! Both run together: REC and HANDLE begun. -/
section YZ
variable {b : Nat → Nat} {n : Nat} {τ : z_TT} {A1 B1 A2 : Nat → List (Nat × Int32)} {S0 : z_CS} {R0 : z_RS} {ce : Nat} {tt0 : z_F} {most : Nat} {f0 : Int32} {Φ : z_V → z_CS → Option Value → z_RS → Prop}
variable {S S' : z_CS} {R R' : z_RS} {tp bs rd pc : Nat} {fu : Int32} {th dp : Nat} {X : y_X} {cs0 : List Nat} {al : Nat → Prop} {φ : Nat → Nat} {ψ : Nat → z_F} {F : Nat} {fg : List Nat} {fc : Nat → List Nat} {Y : Nat → y_X} {pd cp : Nat → Nat} {aw ph fl Ψ m e : Nat} {Γ : List z_F} {tt : z_F} {wt : Nat} {u : z_Bd} {nm v : Int32} {D : y_D} {en tl : Nat} {cv : List Nat} {f i : Nat}
theorem y_ctx4 {A : Nat → List (Nat × Int32)} {j : Nat} (h : z_fn 0 (A 14) j = 4) : z_ctx A (j + 1) = (z_fn 0 (A 15) j :: (z_ctx A j).1, (z_ctx A j).2) := by
  rw [z_ctx_s h]
  rfl
theorem y_wk_u {x nm' : Int32} : (y_wk x nm' R).2.2 41 105 = 0 ∧ (y_wk x nm' R).2.2 41 102 = x ∧ (y_wk x nm' R).2.2 41 103 = nm' := by
  have hv : (y_wk x nm' R).2.2 = z_v (z_v (z_v R.2.2 41 102 x) 41 103 nm') 41 105 0 := rfl
  rw [hv]
  exact ⟨z_vk, by rw [z_vn (by decide), z_vn (by decide), z_vk], by rw [z_vn (by decide), z_vk]⟩
/-- REC -/
theorem y_w1 {x y g : Nat} {ta tr : z_F} {v1 v2 : z_Bd} (hp : y_Pg b n A1 B1 A2 S0 R0 ce tt0 most) (hC : y_Cr b n τ A1 B1 A2 S0 R0 ce most f0 tp bs rd pc fu th dp X cs0 al φ ψ F fg fc Y pd cp aw ph fl Ψ S R) (hi : i + Ψ ≤ 99999990) (hW : y_Wk m nm R) (hce : e < ce) (hm : pc < e ∧ u.1.1 ≤ m ∧ m < u.1.2) (hB : y_Bs b n A1 ce (z_rq S) R.1 (y_vr φ ψ F) (z_mm S) (y_SK b n τ A1 B1 A2 ce tt0 rd φ ψ F fg X S R) D tp bs pc e Γ tt wt u cs0 nm en tl cv ph) (h57 : z_fn 0 (B1 57) m = 1) (hc : y_c1 b n τ A1 B1 f wt u m pc e Γ tt x y g ta tr v1 v2) (kE : ∀ S' R' r, y_En S0 R0 S' R' → Φ (.inl (some (.int r))) S' (some (.int r)) R') (kW : ∀ S' R', y_W b n τ A1 B1 A2 S0 R0 ce tt0 most f0 f (Ψ - 2) S' R' → 2 ≤ Ψ → y_J most f0 Φ (i + 1 + 1) S' R') : y_J most f0 Φ i S R := by
  obtain ⟨rB, hT⟩ := hC.rw hp
  have c47 := hp.1.2.1
  obtain ⟨fr, l100, lk, -, tpl, -⟩ := hB.fr
  obtain ⟨c1, c2, c3, c4, c5⟩ := id hC
  have dp4 : dp ≤ 400 := c2.2.2.1.2.1
  have th1 : th ≤ 1000 := c2.2.2.1.1
  obtain ⟨-, u98, u99, u100, u114, -⟩ := c2.2.1.2
  have e57 : z_fn 0 (R.1 57) m = 1 := by rw [rB 57 (by decide) (by decide)]; exact h57
  obtain ⟨⟨k1, k2, k3, k4, k5⟩, k6, k7, k8, k9, k10, k11, k12, k13, k14, k15, k16, k17, k18, k19⟩ := id hc
  have op19 := hp.op (o := 19) (by omega) k10 (by decide) (by decide)
  have op4 := hp.op (o := 4) (j := g + 1) (by omega) k16 (by decide) (by decide)
  have hpe : 2 ≤ Ψ := by omega
  by_cases ht1 : th = 1000
  · subst ht1
    refine g_fnf (o := 19) c1 hp.2.1.1 (by omega) op19 (Or.inr (Or.inl rfl)) (by omega) (fun S1 hz => ?_)
    refine y_b1f hW e57 u99 ?_
    rw [u98]
    exact kE S1 _ _ (y_En.mk hz (c2.1.iv (by decide)) y_iv_k ((y_iv_n (by decide)).trans u98) ((y_iv_n (by decide)).trans u99) ((y_iv_n (by decide)).trans u100) (by decide))
  · have hF := c2.F1
    obtain ⟨mk, hco, hrd⟩ := y_co (o := 19) hp hC hce hm.1 hB k10 (by decide) (by omega)
    obtain ⟨⟨cc, fl', ⟨a1, a2, a6, a7⟩, a8⟩, a3, a4, a5⟩ := c2.2.2.2.2.2
    have ha := (c2.as (x4 := nm) (cs' := cs0) lk (by omega) a3).nf (th := th) (nn := nI m) (by omega)
    obtain ⟨R1, j, hn, kr⟩ := y_b1 (n := nI most) (f0 := f0) hW e57 u99 (by omega) u114 (by omega) ha
    refine y_J.re ?_ kr
    obtain ⟨d, rfl⟩ : ∃ d, e = d + 1 := ⟨e - 1, by omega⟩
    have k9 : g + 2 < d := k9
    have k18 : y_P b n τ A1 B1 f wt 4 v2 y (g + 2) d (z_fz ta tr :: Γ) tt := k18
    have k19 : z_fn 0 (A1 14) d = 5 := k19
    obtain ⟨⟨s1, s2, s3, s4⟩, s5, ⟨u1, u2, u3, u4, u5⟩, s7, k, p', s8, s9⟩ := id hB
    have cg : z_ctx A1 (g + 1) = z_ctx A1 pc := (k13.fl.w19 k10 k15).2.2
    have cg2 : z_ctx A1 (g + 2) = (z_fn 0 (A1 15) (g + 1) :: (z_ctx A1 pc).1, (z_ctx A1 pc).2) := by
      rw [show g + 2 = g + 1 + 1 from rfl, y_ctx4 k16, cg]
    have hN' := fr.nm (s := g + 2) (by rw [cg2]; exact s1) (by omega) (by omega)
    rw [cg2, List.length_cons] at hN'
    have fr1 := fr.1.1
    have a15 := (hp.1.2.2.1 (g + 1) (by omega)).2.2.1 k16
    rw [cg, show (z_ctx A1 pc).2.headD 0 = D.2.1 by rw [s1]; rfl] at a15
    refine g_fn (o := 19) (g := g) c1 hp.2.1.1 op19 (Or.inr rfl) (by omega) hco (by rw [hp.2.1.2 17 (by decide) (by decide), hp.1.2.2.2.1 17 (by decide)]; exact k14) (by omega) (by omega) (fun S1 hM q1 qv q2 hrc => ?_)
    refine g_bind (a := (z_ctx A1 pc).1.length - D.2.1) hM hp.2.1.1 (by omega) op4 (by rw [hp.2.1.2 15 (by decide) (by decide)]; exact a15) (by omega) (by omega) (fun S2 hM2 mo ms e40 => ?_)
    have rq2 : ∀ x, z_rq S2 x = z_rq S1 x := fun x => by unfold z_rq; rw [e40]
    rw [qv] at ms
    -- the reference's state
    obtain ⟨r1, r2, r3, r4, r5, r6, r7, r8, r9⟩ := y_nf.rows (F := F) (th := th) (R := R) (nn := nI m) (nm := -1)
    obtain ⟨n1, ⟨n98, n99, n100, n101⟩, n3, n4, n5, n6, cc', fl'', n7, n8⟩ := hn
    obtain ⟨R2, hR2⟩ : ∃ X' : z_RS, X' = (z_u R1.1 120 ((F, nI j) :: R1.1 120), R1.2.1, R1.2.2) := ⟨_, rfl⟩
    rw [← hR2]
    have w1 : ∀ q, q ≠ 120 → R2.1 q = R1.1 q := fun q hq => by
      rw [hR2]
      show z_u R1.1 120 ((F, nI j) :: R1.1 120) q = R1.1 q
      rw [z_un hq]
    have w120 : R2.1 120 = (F, nI j) :: R1.1 120 := by
      rw [hR2]
      show z_u R1.1 120 ((F, nI j) :: R1.1 120) 120 = _
      rw [z_uk]
    have wU : R2.2.2 = R1.2.2 := by rw [hR2]
    have wM : R2.2.1 = R1.2.1 := by rw [hR2]
    have o1 : ∀ q, q < 98 ∨ (101 < q ∧ q < 119) ∨ 125 < q → R2.1 q = R.1 q := fun q hq => by
      rw [w1 q (by omega), n3 q (by omega), r1 q (by omega)]
    have oF : ∀ f, f < F → y_sF R.1 R2.1 f := fun f hf q a c => by
      by_cases e : q = 120
      · subst e
        rw [w120, z_fcn (by omega), n3 120 (by omega)]
        exact r2 f hf 120 (by decide) (by decide)
      · rw [w1 q e, n3 q (by omega)]
        exact r2 f hf q a c
    have sB : ∀ c, y_Lv cs0 cs0 X F fc Y c → y_sB R.1 R2.1 c := fun c hc q a d => by
      rw [w1 q (by omega), (n6 c hc).2 q a d, r1 q (by omega)]
    have wk98 : z_fn 0 (R2.1 98) j = z_fn 0 (B1 64) m := by rw [w1 98 (by decide), n98, rB 64 (by decide) (by decide)]
    have wk99 : z_fn 0 (R2.1 99) j = z_fn 0 (B1 65) m := by rw [w1 99 (by decide), n99, rB 65 (by decide) (by decide)]
    have wk100 : z_fn 0 (R2.1 100) j = nI F := by rw [w1 100 (by decide), n100]
    have wk101 : z_fn 0 (R2.1 101) j = nm := by rw [w1 101 (by decide), n101]
    have wu : ∀ a k, ¬ (a = 41 ∧ (k = 77 ∨ k = 99 ∨ k = 114 ∨ k = 122)) → R2.2.2 a k = R.2.2 a k := fun a k hk => by
      rw [wU, n5 a k (fun q => hk ⟨q.1, by omega⟩), r3 a k (fun q => hk ⟨q.1, by omega⟩)]
    have fg0 := c2.2.2.2.1.2.2.2
    have va := hrc.va s4
    have lv0 : ∀ c, y_Lv cs0 [] X F fc Y c → y_Lv cs0 cs0 X F fc Y c := fun c hc => by
      rcases hc with hc | hc | hc
      · exact Or.inl hc
      · cases hc
      · exact Or.inr (Or.inr hc)
    have rqx : ∀ x, x < rd → z_rq S2 x = z_rq S x := fun x hx => (rq2 x).trans (q2 x hx)
    have vF : y_vr (y_up φ F rd) (y_up ψ F (z_fz ta tr)) (F + 1) (z_fz ta tr) (nI rd) (nI F) := Or.inr ⟨F, Nat.lt_succ_self _, rfl, by rw [y_up_s], by rw [y_up_s], ta, tr, rfl⟩
    have gr := c2.add (R' := R2) (rr' := z_rq S2) (rd' := rd + (1 + (z_ctx A1 pc).1.length)) (th' := th + 1) (aw' := aw) (pd1 := 0) (cp1 := 0) (fg' := fg) (t0 := z_fz ta tr) (cs1 := j :: cs0) (Y1 := []) (al' := fun c => y_Lv cs0 cs0 X F fc Y c ∨ c = j) (fun q hq => o1 q (by omega)) oF (by rw [wM, n4]; rfl) (fun a k hk => wu a k (fun q => hk ⟨q.1, by omega⟩)) (by rw [wu 41 97 (by decide)]; exact c2.2.1.2.1) (by rw [wU, n5 41 99 (by decide)]; exact r4) (by rw [wU, n5 41 114 (by decide)]; exact r5) (fun c hc => sB c (lv0 c hc))
      ⟨cc', fl'', ⟨by rw [wU]; exact n7.1, n7.2.1, by
        rw [wU, show y_nx R2.1 = y_nx R1.1 by funext q; unfold y_nx; rw [w1 101 (by decide)]]
        exact n7.2.2.1, n7.2.2.2⟩, n8⟩ (fun c hc => Or.inl (lv0 c hc)) ⟨fun c hc => by
          cases hc with
          | head => exact Or.inr rfl
          | tail _ hc => exact Or.inl (Or.inl hc), fun e he => by cases he⟩ rqx (by omega) (fun _ q => q) (fun _ _ q => q) (fun x hx => by have := fg0 x hx; omega) (fun j _ => by unfold y_aw; rw [o1 115 (by omega), o1 116 (by omega), o1 117 (by omega), o1 118 (by omega)]) (Nat.le_refl _) ⟨hrd, by omega, by omega, by have := c2.2.2.1.2.2.1; omega, by omega⟩
      (Or.inl ⟨⟨m, pc, d + 1, f, wt, u, Γ, ta, tr, x, v1, ⟨hW.2.2.2.2, by rw [w1 119 (by decide), n3 119 (by omega)]; exact r6, hm.2.1, hm.2.2⟩, ⟨by rw [rq2]; exact hrc.1, hm.1, hce⟩, ⟨by omega, fun k hk q => by have := fg0 _ q; omega⟩, rfl, ⟨u4, u5, by omega⟩, Or.inr ⟨h57, ⟨tt, y, g, v2, hc⟩, by
        rw [w120, z_fcs]
        refine ⟨rfl, n1, by rw [wk98, wk99]; exact k11, ?_, ?_⟩
        · rw [wk100]
          show y_vr _ _ _ _ (if (z_ctx A1 pc).1.length = (z_ctx A1 pc).1.length then nI rd else _) _
          rw [if_pos rfl]
          exact vF
        · rw [wk101]
          refine y_en.mo y_vr.up _ _ _ _ (fun k hk => ?_) (fun c hc => sB c (Or.inl hc)) s5
          show (if k = (z_ctx A1 pc).1.length then nI rd else z_rq S2 (rd + 1 + k)) = _
          rw [if_neg (by omega), rq2]
          exact va k hk⟩⟩, rfl, by rw [w1 122 (by decide), n3 122 (by omega)]; exact r8⟩)
    have lk2 : y_lk (y_nx R2.1) (nI j) (j :: cs0) := by
      refine ⟨rfl, n1, ?_⟩
      rw [show y_nx R2.1 j = nm from wk101]
      exact lk.sB (fun c hc => sB c (Or.inl hc))
    have gr2 := gr.wk (m := z_fn 0 (R.1 59) m) (nm := nI j) (cs' := j :: cs0) lk2 (by rw [List.length_cons]; omega) (fun c hc => by
      cases hc with
      | head => exact Or.inr rfl
      | tail _ hc => exact Or.inl (Or.inl hc))
    have hwk := y_wk_u (R := R2) (x := z_fn 0 (R.1 59) m) (nm' := nI j)
    have rg := z_Ct.rg k18.2
    have sz := y_sz2 k3 k4 k5 hm.2 ⟨rg.2.1, rg.2.2⟩ u5
    have ey : z_fn 0 (R.1 59) m = nI y := by rw [rB 59 (by decide) (by decide)]; exact k7
    obtain ⟨R3, hR3⟩ : ∃ X' : z_RS, X' = y_wk (z_fn 0 (R.1 59) m) (nI j) R2 := ⟨_, rfl⟩
    have r3B : R3.1 = R2.1 := by rw [hR3]; rfl
    rw [← hR3] at gr2 hwk ⊢
    rw [← r3B] at sB wk98 wk99 wk100 wk101
    have hB2 := y_BS.bind (S' := S2) (R' := R3) (rd' := rd + (1 + (z_ctx A1 pc).1.length)) (φ' := y_up φ F rd) (ψ' := y_up ψ F (z_fz ta tr)) (F' := F + 1) (fg' := fg) (s' := g + 2) (j := j) (t1 := z_fz ta tr) (v2 := v2) hB ⟨by omega, by omega, hce⟩ cg2 k19 k18.1 ⟨by omega, by omega⟩ (fun x hx hn => (mo x hn).trans (q1 x hx)) (fun x hx q => ⟨rqx x hx, q⟩) (by omega) y_vr.up (fun e he c hc => sB c (Or.inr (Or.inr (Or.inl ⟨e, he, hc⟩)))) (fun c hc => sB c (Or.inl hc)) n1 (by rw [wk98, wk99]; exact k17) (by rw [ms, wk100]; exact vF) wk101
    refine kW S2 R3 ⟨tp, bs, _, g + 2, fu, th + 1, dp, X, j :: cs0, _, _, _, F + 1, fg, _, _, _, _, aw, ph, fl, y, d, _, tt, wt - 4, v2, nI j, D, en, tl, cv, ⟨hM2, gr2, c3, c4, ?_⟩, ⟨gr2.2.1.2.2.2.2.2.2, hwk.1, hwk.2.1.trans ey, hwk.2.2, k2⟩, ⟨k18.2, by omega⟩, hB2⟩ hpe
    rw [y_sm_up]
    omega
/-- HANDLE -/
theorem y_w4 {x y g h : Nat} {r : List (Nat × Nat)} {t1 : z_F} {v1 v2 : z_Bd} (hp : y_Pg b n A1 B1 A2 S0 R0 ce tt0 most) (hC : y_Cr b n τ A1 B1 A2 S0 R0 ce most f0 tp bs rd pc fu th dp X cs0 al φ ψ F fg fc Y pd cp aw ph fl Ψ S R) (hi : i + Ψ ≤ 99999990) (hW : y_Wk m nm R) (hce : e < ce) (hm : pc < e ∧ u.1.1 ≤ m ∧ m < u.1.2) (hB : y_Bs b n A1 ce (z_rq S) R.1 (y_vr φ ψ F) (z_mm S) (y_SK b n τ A1 B1 A2 ce tt0 rd φ ψ F fg X S R) D tp bs pc e Γ tt wt u cs0 nm en tl cv ph) (h57 : z_fn 0 (B1 57) m = 4) (hc : y_c4 b n τ A1 B1 f wt u m pc e Γ tt x y g h r t1 v1 v2) (kE : ∀ S' R' r, y_En S0 R0 S' R' → Φ (.inl (some (.int r))) S' (some (.int r)) R') (kW : ∀ S' R', y_W b n τ A1 B1 A2 S0 R0 ce tt0 most f0 f (Ψ - 1) S' R' → 1 ≤ Ψ → y_J most f0 Φ (i + 1) S' R') : y_J most f0 Φ i S R := by
  obtain ⟨rB, hT⟩ := hC.rw hp
  have c47 := hp.1.2.1
  obtain ⟨fr, l100, lk, Xl, tpl, bsl, L, L1, L2, L3⟩ := hB.fr
  obtain ⟨c1, c2, c3, c4, c5⟩ := id hC
  have dp4 : dp ≤ 400 := c2.2.2.1.2.1
  have th1 : th ≤ 1000 := c2.2.2.1.1
  obtain ⟨-, u98, u99, u100, u114, -⟩ := c2.2.1.2
  have e57 : z_fn 0 (R.1 57) m = 4 := by rw [rB 57 (by decide) (by decide)]; exact h57
  obtain ⟨⟨k1, k2, k3, k4, k5⟩, k6, k7, k8, k9, k10, k11, k12, k13, k14, k15, k16, k17, k18, k19⟩ := id hc
  have op21 := hp.op (o := 21) (by omega) k11 (by decide) (by decide)
  have hpe : 1 ≤ Ψ := by omega
  by_cases ht1 : th = 1000
  · subst ht1
    refine g_fnf (o := 21) c1 hp.2.1.1 (by omega) op21 (Or.inr (Or.inr rfl)) (by omega) (fun S1 hz => ?_)
    refine y_b4f hW e57 u99 ?_
    rw [u98]
    exact kE S1 _ _ (y_En.mk hz (c2.1.iv (by decide)) y_iv_k ((y_iv_n (by decide)).trans u98) ((y_iv_n (by decide)).trans u99) ((y_iv_n (by decide)).trans u100) (by decide))
  · by_cases hd1 : dp = 400
    · subst hd1
      have n99 : ¬ R.2.2 41 99 = 1000 := by
        rw [u99]
        exact fun q => ht1 ((nI_eq (a := th) (b := 1000) (by omega) (by decide)).mp q)
      refine g_handled c1 hp.2.1.1 (by omega) op21 (by omega) (by omega) (fun S1 hz => ?_)
      refine y_b4d hW e57 n99 u100 ?_
      rw [u98]
      exact kE S1 _ _ (y_En.mk hz (c2.1.iv (by decide)) y_iv_k ((y_iv_n (by decide)).trans u98) ((y_iv_n (by decide)).trans u99) ((y_iv_n (by decide)).trans u100) (by decide))
    · obtain ⟨mk, hco, hrd⟩ := y_co (o := 21) hp hC hce hm.1 hB k11 (by decide) (by omega)
      obtain ⟨h15, g', rm, hg1, hg2, hg3, hg4⟩ := (hp.1.2.2.1 pc (by omega)).2.2.2.1 (Or.inr (Or.inr k11))
      have eg : e - 1 ≤ g' := by
        have q := hg1.symm.trans k12
        by_cases hgl : g' < 2 ^ 31
        · exact Nat.le_of_eq ((nI_eq hgl (by omega)).mp q).symm
        · omega
      refine y_J.re ?_ (fun Q q => y_b4 hW c2.2.1.1 (by omega) e57 u99 u100 (by omega) (by omega) q)
      have rm4 : tp + 4 + rm ≤ 262144 := by omega
      refine g_handle (g := e - 1) (rm := rm) c1 hp.2.1.1 op21 (by omega) (by omega) hco (by rw [hp.2.1.2 17 (by decide) (by decide), hp.1.2.2.2.1 17 (by decide)]; exact k12) (by rw [hp.2.1.2 18 (by decide) (by decide)]; exact hg2) bsl.1 rm4 (by omega) (fun S1 hM q1 m0 m1 m2 m3 q2 hrc => ?_)
      obtain ⟨⟨s1, s2, s3, s4⟩, s5, ⟨u1, u2, u3, u4, u5⟩, s7, k, p', s8, s9⟩ := id hB
      have fr1 := fr.1.1
      have fg0 := c2.2.2.2.1.2.2.2
      have va := hrc.va s4
      have hal := c2.2.2.2.2.2.2.1
      have hwm := k13.1.mod
      have hw4 := k13.1.1
      have rg := z_Ct.rg k13.2
      have rg2 := z_Ct.rg k16.2
      have sz := y_sz2 k3 k4 k5 hm.2 ⟨rg2.2.1, rg2.2.2⟩ u5
      have ct : z_ctx A1 (pc + 1) = ((z_ctx A1 pc).1, (z_ctx A1 pc).1.length :: (z_ctx A1 pc).2) := by
        rw [z_ctx_s k11]
        rfl
      have ex : z_fn 0 (R.1 58) m = nI x := by rw [rB 58 (by decide) (by decide)]; exact k6
      rw [ex]
      -- the reference's state
      have g1 := (c2.iv (U' := (y_iv 100 (nI (dp + 1)) (y_iv 99 (nI (th + 1)) R)).2.2) (fu' := fu) (th' := th + 1) (dp' := dp + 1) (fun a k hk => by
        show z_v (z_v R.2.2 41 99 (nI (th + 1))) 41 100 (nI (dp + 1)) a k = _
        rw [z_vn (fun q => hk ⟨q.1, by omega⟩), z_vn (fun q => hk ⟨q.1, by omega⟩)]) ((y_iv_n (by decide)).trans ((y_iv_n (by decide)).trans u98)) ((y_iv_n (by decide)).trans y_iv_k) y_iv_k (by omega) (by omega) (by omega)).grw (rr' := z_rq S1) (rd' := rd + (1 + (z_ctx A1 pc).1.length)) (fun x hx => q2 x hx) (by omega) hrd
      have g2 := (g1.pt (x := ((8, nI m, 0, nm), cs0)) lk hal (by omega) ⟨L, by omega, fun e he => by
        cases he with
        | head => exact L2
        | tail _ he => exact L3 e he⟩)
      obtain ⟨Ra, hRa⟩ : ∃ X' : z_RS, X' = y_pt X.length (8, nI m, 0, nm) (y_iv 100 (nI (dp + 1)) (y_iv 99 (nI (th + 1)) R)) := ⟨_, rfl⟩
      have g2 : y_Gr b n τ A1 B1 A2 ce R0 (z_rq S1) (rd + (1 + (z_ctx A1 pc).1.length)) fu (th + 1) (dp + 1) (((8, nI m, 0, nm), cs0) :: X) cs0 al φ ψ F fg fc Y pd cp aw Ra := by rw [hRa]; exact g2
      have bo : ∀ q, ¬ (111 ≤ q ∧ q ≤ 114) → Ra.1 q = R.1 q := by
        intro q hq
        rw [hRa]
        show z_u (z_u (z_u (z_u R.1 111 ((X.length, 8) :: R.1 111)) 112 ((X.length, nI m) :: R.1 112)) 113 ((X.length, 0) :: R.1 113)) 114 ((X.length, nm) :: R.1 114) q = R.1 q
        rw [z_un (by omega), z_un (by omega), z_un (by omega), z_un (by omega)]
      have sB : ∀ c, y_sB R.1 Ra.1 c := fun c => y_sB.of (fun q a d => bo q (by omega))
      have g3 := g2.wk (m := nI x) (nm := nm) (cs' := cs0) (lk.sB (fun c _ => sB c)) (by omega) hal
      have hwk := y_wk_u (R := Ra) (x := nI x) (nm' := nm)
      rw [← hRa]
      obtain ⟨Rb, hRb⟩ : ∃ X' : z_RS, X' = y_wk (nI x) nm Ra := ⟨_, rfl⟩
      have rb : Rb.1 = Ra.1 := by rw [hRb]; rfl
      rw [← hRb] at g3 hwk ⊢
      rw [← rb] at sB
      -- the frame
      have frN : y_Fr A1 A2 ce (z_rq S1) (rd + (1 + (z_ctx A1 pc).1.length)) fg (z_mm S1) (tp + 4 + rm) tp (rd, (z_ctx A1 pc).1.length, (z_ctx A1 pc).2, rm, pc + 1, e - 1) := ⟨⟨Nat.le_refl _, hg3⟩, m2, ⟨pc, hrc.1, by omega, h15⟩, by show rd + 1 + (z_ctx A1 pc).1.length ≤ _; omega, fun k hk q => by have := fg0 _ q; have : rd + k < rd := this; omega, fun j j1 j2 j3 => hg4 j (by have j1 : pc + 1 ≤ j := j1; omega) (by have j2 : j ≤ e - 1 := j2; omega) j3⟩
      have env : y_en b n Rb.1 (y_vr φ ψ F) (y_va (z_rq S1) (z_mm S1) tp (rd, (z_ctx A1 pc).1.length, (z_ctx A1 pc).2, rm, pc + 1, e - 1)) cs0 (z_ctx A1 pc).1 Γ nm := by
        refine y_en.mo (fun _ _ _ q => q) _ _ _ _ (fun k hk => ?_) (fun c _ => sB c) s5
        rw [← va k hk]
        unfold y_va
        rw [if_neg (show ¬ (z_ctx A1 pc).1.length ≤ k by omega)]
      have sk := (y_SK.mo (S' := S1) (R' := Rb) (T := tp) (fg' := fg) (rd' := rd + (1 + (z_ctx A1 pc).1.length)) (fun x _ hx => q1 x hx) (fun x hx q => ⟨q2 x hx, q⟩) (by omega) (fun _ _ _ q => q) (fun _ _ c _ => sB c) (Nat.le_refl _) s9).2
      refine kW S1 Rb ⟨tp + 4 + rm, tp, _, pc + 1, fu, th + 1, dp + 1, ((8, nI m, 0, nm), cs0) :: X, cs0, al, φ, ψ, F, fg, fc, Y, pd, cp, aw, ph + (4601 - (e - 1)), fl, x, g, Γ, t1, wt - 4, v1, nm, (rd, (z_ctx A1 pc).1.length, (z_ctx A1 pc).2, rm, pc + 1, e - 1), 0, 0, cs0, ⟨hM, g3, ?_, c4, by omega⟩, ⟨g3.2.1.2.2.2.2.2.2, hwk.1, hwk.2.1, hwk.2.2, k1⟩, ⟨k13.2, by omega⟩, ⟨?_, Nat.le_refl _, by show g ≤ e - 1; omega, ?_⟩, by rw [ct]; exact env, ⟨by omega, by omega, by show tp + 4 + rm + (wt - 4) % 1000 ≤ tp + 4 + rm + 200; omega, by rw [ct]; show 2 * (z_ctx A1 pc).1.length + (wt - 4) % 1000 ≤ 200; omega, by omega⟩, ⟨[], rfl⟩, 0, g, rfl, m, rfl, hW.2.2.2.2, rfl, Or.inr ⟨rfl, rfl, rfl, frN, Or.inr ⟨rfl, pc, e, f, wt, u, Γ, tt, x, y, g, h, r, v1, v2, ⟨hc, ⟨m3, hm.1, hce, hg2⟩, ⟨rfl, rfl, Nat.le_refl _, Nat.le_refl _⟩, env, ⟨u4, u5, by omega⟩, h57, hm.2⟩, rfl, e - 1, tp - bs, D, k + 1, p', en, tl, cv, ph, ⟨m0, m1, by omega, by omega, by omega, Nat.le_refl _⟩, ⟨by omega, Or.inl ⟨⟨26, k18, Or.inr (Or.inr rfl)⟩, by rw [show e - 1 + 1 = e by omega]; exact s8⟩⟩, ?_⟩⟩⟩ hpe
      · show y_dp X + (if (8 : Int32) < 7 then 0 else 1) = dp + 1
        rw [if_neg (by decide), c3]
      · rw [ct]
      · rw [ct]
        exact Nat.le_refl _
      · rw [show tp - (tp - bs) = bs by omega]
        exact sk
end YZ
