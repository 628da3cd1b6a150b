/-! Both run together: FN, REC, HANDLE begun. -/
theorem y_Rf.iv {R0 R : z_RS} {j : Nat} {v : Int32} (h : y_Rf R0 R) (hj : 94 ≤ j ∧ j ≤ 105) : y_Rf R0 (y_iv j v R) := by
  refine ⟨h.1, h.2.1, fun a k hk => ?_⟩
  show z_v R.2.2 41 j v a k = _
  rw [z_vn (fun e => hk ⟨e.1, by omega⟩)]
  exact h.2.2 a k hk
theorem y_En.mk {S0 S : z_CS} {R0 R : z_RS} {st fu : Int32} {th dp : Nat} (hz : z_Mz S0 st 0 (-1) fu th dp S) (hR : y_Rf R0 R) (h94 : R.2.2 41 94 = st) (h98 : R.2.2 41 98 = fu) (h99 : R.2.2 41 99 = nI th) (h100 : R.2.2 41 100 = nI dp) (hs : st = 3 ∨ st = 5 ∨ st = 6) : y_En S0 R0 S R := by
  have n2 : ¬ st = 2 := by rcases hs with rfl | rfl | rfl <;> decide
  have n4 : ¬ st = 4 := by rcases hs with rfl | rfl | rfl <;> decide
  have n1 : ¬ st = 1 := by rcases hs with rfl | rfl | rfl <;> decide
  exact ⟨st, 0, -1, fu, th, dp, hz, hR, n1, ⟨h94, h98, h99, h100⟩, by rw [if_neg (fun q => n2 q.1)], by rw [if_neg n4]⟩
theorem y_sm_up {g : Nat → Nat} {F a : Nat} : y_sm (y_up g F a) (F + 1) = y_sm g F + a := by
  show y_sm (y_up g F a) F + y_up g F a F = _
  rw [y_up_s, y_sm_cg (g := g) F (fun f hf => y_up_n (by omega))]
section YY
variable {b : Nat → Nat} {n : Nat} {τ : z_TT} {A1 B1 A2 : Nat → List (Nat × Int32)} {S0 : z_CS} {R0 : z_RS} {ce : Nat} {tt0 : z_F} {most : Nat} {f0 : Int32} {Φ : z_V → z_CS → Option Value → z_RS → Prop}
variable {S S' : z_CS} {R R' : z_RS} {tp bs rd pc : Nat} {fu : Int32} {th dp : Nat} {X : y_X} {cs0 : List Nat} {al : Nat → Prop} {φ : Nat → Nat} {ψ : Nat → z_F} {F : Nat} {fg : List Nat} {fc : Nat → List Nat} {Y : Nat → y_X} {pd cp : Nat → Nat} {aw ph fl Ψ m e : Nat} {Γ : List z_F} {tt : z_F} {wt : Nat} {u : z_Bd} {nm v : Int32} {D : y_D} {en tl : Nat} {cv : List Nat} {f i : Nat}
theorem y_SK.bnd {rd' : Nat} {φ' : Nat → Nat} {ψ' : Nat → z_F} {F' : Nat} {fg' : List Nat} {T N0 p : Nat} {t : z_F} (hN : D.2.1 ≤ N0) (hm : ∀ x, 2 ≤ x → x < T → (x < bs + 4 + (N0 - D.2.1) ∨ bs + 4 + D.2.2.2.1 ≤ x) → z_mm S' x = z_mm S x) (hr : ∀ x, x < rd → ¬ x ∈ fg → z_rq S' x = z_rq S x ∧ ¬ x ∈ fg') (hrd : rd ≤ rd') (hv : ∀ t x y, y_vr φ ψ F t x y → y_vr φ' ψ' F' t x y) (hc : ∀ e, e ∈ X → ∀ c, c ∈ e.2 → y_sB R.1 R'.1 c) (hT : tp ≤ T) (hcv : cv.length ≤ N0) (h : y_SK b n τ A1 B1 A2 ce tt0 rd φ ψ F fg X S R D tp bs p t en tl cv ph) : y_SK b n τ A1 B1 A2 ce tt0 rd' φ' ψ' F' fg' X S' R' D tp bs p t en tl cv ph := by
  have h1 := (y_sk.sl (mm' := z_mm S') hN hm X tp p t en tl cv ph hT hcv h).2
  exact (y_sk.mo (o := 0) (d := 0) (T := tp) (mm := z_mm S') (mm' := z_mm S') (rr := z_rq S) (rr' := z_rq S') (B := R.1) (B' := R'.1) (vr := y_vr φ ψ F) (vr' := y_vr φ' ψ' F') (fun _ _ _ => rfl) hr hrd hv (y_Kr.mo (fun _ _ _ => rfl) hr hrd) X D tp bs p t en tl cv ph (Nat.le_refl _) hc h1).2
/-- one more name in the frame at work -/
theorem y_BS.bind {rd' : Nat} {φ' : Nat → Nat} {ψ' : Nat → z_F} {F' : Nat} {fg' : List Nat} {s s' d j : Nat} {a : Int32} {t1 : z_F} {v2 : z_Bd} (hB : y_Bs b n A1 ce (z_rq S) R.1 (y_vr φ ψ F) (z_mm S) (y_SK b n τ A1 B1 A2 ce tt0 rd φ ψ F fg X S R) D tp bs s (d + 1) Γ tt wt u cs0 nm en tl cv ph)
    (hs : s ≤ s' ∧ s' ≤ d ∧ d + 1 < ce) (hctx : z_ctx A1 s' = (a :: (z_ctx A1 s).1, (z_ctx A1 s).2)) (h5 : z_fn 0 (A1 14) d = 5) (hwl : z_wle 4 wt) (hsz : v2.1.2 - v2.1.1 ≤ u.1.2 - u.1.1 ∧ v2.1.2 ≤ 600)
    (hm : ∀ x, x < tp → x ≠ bs + 4 + ((z_ctx A1 s).1.length - D.2.1) → z_mm S' x = z_mm S x) (hr : ∀ x, x < rd → ¬ x ∈ fg → z_rq S' x = z_rq S x ∧ ¬ x ∈ fg') (hrd : rd ≤ rd') (hv : ∀ t x y, y_vr φ ψ F t x y → y_vr φ' ψ' F' t x y) (hc : ∀ e, e ∈ X → ∀ c, c ∈ e.2 → y_sB R.1 R'.1 c) (hc0 : ∀ c, c ∈ cs0 → y_sB R.1 R'.1 c)
    (hj : j < 200000) (hn : z_Nm b n (z_fn 0 (R'.1 98) j) a (z_fn 0 (R'.1 99) j)) (hx : y_vr φ' ψ' F' t1 (z_mm S' (bs + 4 + ((z_ctx A1 s).1.length - D.2.1))) (z_fn 0 (R'.1 100) j)) (h101 : z_fn 0 (R'.1 101) j = nm) : y_Bs b n A1 ce (z_rq S') R'.1 (y_vr φ' ψ' F') (z_mm S') (y_SK b n τ A1 B1 A2 ce tt0 rd' φ' ψ' F' fg' X S' R') D tp bs s' d (t1 :: Γ) tt (wt - 4) v2 (j :: cs0) (nI j) en tl cv ph := by
  obtain ⟨⟨s1, s2, s3, s4⟩, s5, ⟨u1, u2, u3, u4, u5⟩, ⟨l, s7⟩, k, p', s8, s9⟩ := hB
  have fr := s9.fr
  have hN := fr.nm s1 s2 (by omega)
  obtain ⟨l1, l2, l3⟩ := y_en.len _ _ _ _ s5
  have hwm := hwl.mod
  have hN' := fr.nm (s := s') (by rw [hctx]; exact s1) (by omega) (by omega)
  rw [hctx, List.length_cons] at hN'
  have hw2 := hwl.1
  have lcv : cv.length ≤ cs0.length := by
    rw [s7, List.length_append]
    omega
  refine ⟨⟨by rw [hctx]; exact s1, by omega, by omega, by rw [hctx, List.length_cons]; omega⟩, ?_, ⟨by omega, by omega, by omega, by rw [hctx, List.length_cons]; omega, hsz.2⟩, ⟨j :: l, by rw [s7]; rfl⟩, k + 1, p', ⟨by omega, Or.inl ⟨⟨5, h5, Or.inl rfl⟩, s8⟩⟩, y_SK.bnd (T := tp) (N0 := (z_ctx A1 s).1.length) s4 (fun x _ hx ho => hm x hx (by omega)) hr hrd hv hc (Nat.le_refl _) (by omega) s9⟩
  rw [hctx]
  refine ⟨rfl, hj, hn, ?_, ?_⟩
  · show y_vr φ' ψ' F' t1 (y_va (z_rq S') (z_mm S') bs D (z_ctx A1 s).1.length) _
    unfold y_va
    rw [if_pos s4]
    exact hx
  · rw [h101]
    refine y_en.mo hv _ _ _ _ (fun k hk => ?_) hc0 s5
    obtain ⟨⟨f1, f1'⟩, f2, -, f4, f5, -⟩ := fr
    unfold y_va
    by_cases e : D.2.1 ≤ k
    · rw [if_pos e, if_pos e, hm _ (by omega) (by omega)]
    · rw [if_neg e, if_neg e, (hr (D.1 + 1 + k) (by omega) (by rw [Nat.add_assoc]; exact f5 _ (by omega))).1]
/-- what closeOver asks -/
theorem y_co {o : Nat} (hp : y_Pg b n A1 B1 A2 S0 R0 ce tt0 most) (hC : y_Cr b n τ A1 B1 A2 S0 R0 ce most f0 tp bs rd pc fu th dp X cs0 al φ ψ F fg fc Y pd cp aw ph fl Ψ S R) (hce : e < ce) (hpe : pc < e) (hB : y_Bs b n A1 ce (z_rq S) R.1 (y_vr φ ψ F) (z_mm S) (y_SK b n τ A1 B1 A2 ce tt0 rd φ ψ F fg X S R) D tp bs pc e Γ tt wt u cs0 nm en tl cv ph) (ho : z_fn 0 (A1 14) pc = nI o) (oo : o = 17 ∨ o = 19 ∨ o = 21) (ht : th < 1000) : ∃ mk, z_Co ce S0 S tp bs rd pc (z_ctx A1 pc).1.length D.1 mk D.2.1 ∧ rd + (1 + (z_ctx A1 pc).1.length) ≤ 2 + 340 * (th + 1) := by
  obtain ⟨⟨s1, s2, s3, s4⟩, s5, ⟨u1, u2, u3, u4, u5⟩, -⟩ := id hB
  obtain ⟨fr, -⟩ := hB.fr
  have hN := fr.nm s1 s2 (by omega)
  obtain ⟨⟨f1, f1'⟩, f2, ⟨mk, f3, f3', f3''⟩, f4, f5, -⟩ := fr
  have hrd := hC.2.1.2.2.1.2.2.2.1
  have hag := hp.1.2.2.1 pc (by omega)
  have h15 := (hag.2.2.2.1 (by rcases oo with rfl | rfl | rfl; exact Or.inl ho; exact Or.inr (Or.inl ho); exact Or.inr (Or.inr ho))).1
  refine ⟨mk, ⟨by omega, by rw [hp.2.1.2 15 (by decide) (by decide)]; exact h15, f2, by omega, f3, f3', by rw [hp.2.1.2 15 (by decide) (by decide)]; exact f3'', s4, f4, by omega, by omega, by omega⟩, by omega⟩
/-- FN -/
theorem y_w3 {x : Nat} {ta tr : z_F} {v1 : z_Bd} (hp : y_Pg b n A1 B1 A2 S0 R0 ce tt0 most) (hC : y_Cr b n τ A1 B1 A2 S0 R0 ce most f0 tp bs rd pc fu th dp X cs0 al φ ψ F fg fc Y pd cp aw ph fl Ψ S R) (hi : i + Ψ ≤ 99999990) (hW : y_Wk m nm R) (hce : e < ce) (hm : pc < e ∧ u.1.1 ≤ m ∧ m < u.1.2) (hB : y_Bs b n A1 ce (z_rq S) R.1 (y_vr φ ψ F) (z_mm S) (y_SK b n τ A1 B1 A2 ce tt0 rd φ ψ F fg X S R) D tp bs pc e Γ tt wt u cs0 nm en tl cv ph) (h57 : z_fn 0 (B1 57) m = 3) (hc : y_c3 b n τ A1 B1 f wt u m pc e Γ x ta tr v1) (ht : tt = z_fz ta tr) (kE : ∀ S' R' r, y_En S0 R0 S' R' → Φ (.inl (some (.int r))) S' (some (.int r)) R') (kV : ∀ S' R', y_V b n τ A1 B1 A2 S0 R0 ce tt0 most f0 (Ψ - 1) S' R' → 1 ≤ Ψ → y_J most f0 Φ (i + 1) S' R') : y_J most f0 Φ i S R := by
  obtain ⟨rB, hT⟩ := hC.rw hp
  have c47 := hp.1.2.1
  obtain ⟨-, l100, lk, -, tpl, -⟩ := hB.fr
  obtain ⟨c1, c2, c3, c4, c5⟩ := id hC
  have dp4 : dp ≤ 400 := c2.2.2.1.2.1
  have th1 : th ≤ 1000 := c2.2.2.1.1
  obtain ⟨-, u98, u99, u100, u114, -⟩ := c2.2.1.2
  have e57 : z_fn 0 (R.1 57) m = 3 := by rw [rB 57 (by decide) (by decide)]; exact h57
  have op17 := hp.op (o := 17) (by omega) hc.2.2.2.1 (by decide) (by decide)
  have hpe : 1 ≤ Ψ := by omega
  by_cases ht1 : th = 1000
  · subst ht1
    refine g_fnf (o := 17) c1 hp.2.1.1 (by omega) op17 (Or.inl rfl) (by omega) (fun S1 hz => ?_)
    refine y_b3f hW e57 u99 ?_
    rw [u98]
    exact kE S1 _ _ (y_En.mk hz (c2.1.iv (by decide)) y_iv_k ((y_iv_n (by decide)).trans u98) ((y_iv_n (by decide)).trans u99) ((y_iv_n (by decide)).trans u100) (by decide))
  · have hF := c2.F1
    obtain ⟨mk, hco, hrd⟩ := y_co (o := 17) hp hC hce hm.1 hB hc.2.2.2.1 (by decide) (by omega)
    refine y_J.re ?_ (fun Q q => y_b3 hW e57 u99 (by omega) u114 (by omega) q)
    refine g_fn (o := 17) (g := e - 1) c1 hp.2.1.1 op17 (Or.inl rfl) (by omega) hco (by rw [hp.2.1.2 17 (by decide) (by decide), hp.1.2.2.2.1 17 (by decide)]; exact hc.2.2.2.2.2.1) (by omega) (by omega) (fun S1 hM k1 kv k2 hrc => ?_)
    rw [show e - 1 + 1 = e by omega] at hM
    obtain ⟨⟨s1, s2, s3, s4⟩, s5, ⟨u1, u2, u3, u4, u5⟩, s7, k, p', s8, s9⟩ := id hB
    obtain ⟨r1, r2, r3, r4, r5, r6, r7, r8, r9⟩ := y_nf.rows (F := F) (th := th) (R := R) (nn := nI m) (nm := nm)
    have m6 := hW.2.2.2.2
    obtain ⟨R1, hR1⟩ : ∃ X', X' = y_nf F th (nI m) nm R := ⟨_, rfl⟩
    rw [← hR1] at r1 r2 r3 r4 r5 r6 r7 r8 r9 ⊢
    have sB : ∀ c, y_sB R.1 R1.1 c := fun c => y_sB.of (fun q a d => r1 q (by omega))
    have nx : y_nx R1.1 = y_nx R.1 := by
      funext d
      unfold y_nx
      rw [r1 101 (by omega)]
    obtain ⟨⟨cc, fl', ⟨a1, a2, a6, a7⟩, a8⟩, a3, a4, a5⟩ := c2.2.2.2.2.2
    have fg0 := c2.2.2.2.1.2.2.2
    have va := hrc.va s4
    have gr := c2.add (R' := R1) (rr' := z_rq S1) (rd' := rd + (1 + (z_ctx A1 pc).1.length)) (th' := th + 1) (aw' := aw) (pd1 := 0) (cp1 := 0) (fg' := fg) (t0 := z_fz ta tr) (cs1 := cs0) (Y1 := []) (al' := al) (fun q hq => r1 q (by omega)) r2 (by rw [hR1]; rfl) (fun a k hk => r3 a k (fun q => hk ⟨q.1, by omega⟩)) (by rw [r3 41 97 (by decide)]; exact c2.2.1.2.1) r4 r5 (fun c _ => sB c) ⟨cc, fl', ⟨by rw [r3 41 77 (by decide)]; exact a1, a2, by rw [nx, r3 41 122 (by decide)]; exact a6, a7⟩, a8⟩ (fun c hc => by
        rcases hc with hc | hc | ⟨e, he, hc⟩ | ⟨f, hf, hc | ⟨e, he, hc⟩⟩
        · exact a3 c hc
        · cases hc
        · exact a4 e he c hc
        · exact (a5 f hf).1 c hc
        · exact (a5 f hf).2 e he c hc) ⟨a3, fun e he => by cases he⟩ (fun x hx => k2 x hx) (by omega) (fun _ q => q) (fun _ _ q => q) (fun x hx => by have := fg0 x hx; omega) (fun j _ => by unfold y_aw; rw [r1 115 (by omega), r1 116 (by omega), r1 117 (by omega), r1 118 (by omega)]) (Nat.le_refl _) ⟨hrd, by omega, by omega, by have := c2.2.2.1.2.2.1; omega, by omega⟩
      (Or.inl ⟨⟨m, pc, e, f, wt, u, Γ, ta, tr, x, v1, ⟨m6, r6, hm.2.1, hm.2.2⟩, ⟨hrc.1, hm.1, hce⟩, ⟨by omega, fun k hk q => by have := fg0 _ q; omega⟩, rfl, ⟨u4, u5, by omega⟩, Or.inl ⟨h57, hc, by rw [r7]; exact y_en.mo y_vr.up _ _ _ _ va (fun c _ => sB c) s5⟩⟩, rfl, r8⟩)
    refine kV S1 _ ⟨tp, bs, _, e, fu, th + 1, dp, X, cs0, al, _, _, F + 1, fg, _, _, _, _, aw, ph, fl, k, p', tt, nI F, D, en, tl, cv, ⟨hM, gr.gv, c3, c4, ?_⟩, ⟨?_, ?_, hce⟩, s8, (y_SK.mo (T := tp) (R' := y_gv (nI F) R1) (fun x _ hx => k1 x hx) (fun x hx q => ⟨k2 x hx, q⟩) (by omega) y_vr.up (fun _ _ c _ => sB c) (Nat.le_refl _) s9).2, Or.inr ⟨F, Nat.lt_succ_self _, rfl, by rw [y_up_s]; exact kv, by rw [y_up_s, ht], ta, tr, ht⟩⟩ hpe
    · rw [y_sm_up]
      omega
    · show z_v (z_v R1.2.2 41 104 (nI F)) 41 105 1 41 105 = 1
      rw [z_vk]
    · show z_v (z_v R1.2.2 41 104 (nI F)) 41 105 1 41 104 = nI F
      rw [z_vn (by decide), z_vk]
end YY
