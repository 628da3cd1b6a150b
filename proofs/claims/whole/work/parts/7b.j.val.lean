/-! Both run together: a value has come. -/
theorem y_sz3 {u v1 v2 : z_Bd} {m x : Nat} (h1 : z_S1 u m v1) (h2 : z_S1 u m v2) (h3 : v1.1.2 ≤ v2.1.1) (hm : u.1.1 ≤ m ∧ m < u.1.2) (hx : v1.1.1 ≤ x ∧ x < v1.1.2) (hu : u.1.2 ≤ 600) : v2.1.2 - v2.1.1 + 2 ≤ u.1.2 - u.1.1 ∧ v2.1.2 ≤ 600 := by
  obtain ⟨a1, -, a2⟩ := h1
  obtain ⟨b1, -, b2⟩ := h2
  omega
section YA
variable {b : Nat → Nat} {n : Nat} {τ : z_TT} {A1 B1 A2 : Nat → List (Nat × Int32)} {S0 : z_CS} {R0 : z_RS} {ce : Nat} {tt0 : z_F} {most : Nat} {f0 : Int32} {Φ : z_V → z_CS → Option Value → z_RS → Prop}
variable {S S' : z_CS} {R R' : z_RS} {tp bs rd pc : Nat} {fu : Int32} {th dp : Nat} {X : y_X} {cs0 : List Nat} {al : Nat → Prop} {φ : Nat → Nat} {ψ : Nat → z_F} {F : Nat} {fg : List Nat} {fc : Nat → List Nat} {Y : Nat → y_X} {pd cp : Nat → Nat} {aw ph fl Ψ m e : Nat} {Γ : List z_F} {tt t : z_F} {wt : Nat} {u : z_Bd} {v : Int32} {D : y_D} {en tl : Nat} {cv : List Nat} {f i k p : Nat} {x : y_E × List Nat}
theorem y_mm_e (h : S'.1 = S.1) : z_mm S' = z_mm S ∧ z_rq S' = z_rq S := by
  constructor
  · funext x
    unfold z_mm
    rw [h]
  · funext x
    unfold z_rq
    rw [h]
/-- FORGET, JOIN, HANDLE_END, SKIP -/
theorem y_vad (hp : y_Pg b n A1 B1 A2 S0 R0 ce tt0 most) (hC : y_Cr b n τ A1 B1 A2 S0 R0 ce most f0 (tp + 1) bs rd pc fu th dp X cs0 al φ ψ F fg fc Y pd cp aw ph fl Ψ S R) (hi : i + Ψ ≤ 99999990) (hu : R.2.2 41 105 = 1 ∧ R.2.2 41 104 = v ∧ pc < ce) (hA : y_Ad A1 ce (k + 1) pc p) (hK : y_SK b n τ A1 B1 A2 ce tt0 rd φ ψ F fg X S R D tp bs p t en tl cv ph) (hv : y_vr φ ψ F t (z_mm S tp) v) (kV : ∀ S', y_V b n τ A1 B1 A2 S0 R0 ce tt0 most f0 (Ψ - 1) S' R → 1 ≤ Ψ → y_J most f0 Φ (i + 1) S' R) : y_J most f0 Φ i S R := by
  have c47 := hp.1.2.1
  obtain ⟨c1, c2, c3, c4, c5⟩ := hC
  have fin : ∀ S1 pc', pc < pc' → pc' < ce → S1.1 = S.1 → z_Mc S0 (tp + 1) bs rd pc' fu th dp S1 → y_Ad A1 ce k pc' p → z_CL most f0 (fun o S' => y_RL (nI most) f0 1 R (fun v R' => Φ o S' v R')) (i + 1) S1 := by
    intro S1 pc' h1 h2 e1 hM hA'
    obtain ⟨m1, m2⟩ := y_mm_e e1
    refine kV S1 ⟨tp, bs, rd, pc', fu, th, dp, X, cs0, al, φ, ψ, F, fg, fc, Y, pd, cp, aw, ph, fl, k, p, t, v, D, en, tl, cv, ⟨hM, by rw [m2]; exact c2, c3, c4, by omega⟩, ⟨hu.1, hu.2.1, h2⟩, hA', ?_, by rw [m1]; exact hv⟩ (by omega)
    unfold y_SK
    rw [m1, m2]
    exact hK
  obtain ⟨a1, ⟨⟨o, a2, a3⟩, a4⟩ | ⟨a2, g, a3, a4, a5, a6⟩⟩ := hA
  · refine g_nop (o := o) c1 hp.2.1.1 a1 (hp.op a1 a2 (by omega) (by omega)) (by omega) (by omega) (fun S1 hM e1 => ?_)
    have hp' : pc + 1 < ce := by
      by_cases q : pc + 1 < ce
      · exact q
      · have : pc = ce - 1 := by omega
        rw [this, hp.1.2.2.2.2.1] at a2
        have := (nI_eq (a := 27) (b := o) (by decide) (by omega)).mp a2
        omega
    exact fin S1 (pc + 1) (by omega) hp' e1 hM a4
  · refine g_skip (g := g) c1 hp.2.1.1 a1 (hp.op (o := 7) a1 a2 (by decide) (by decide)) (by rw [hp.a15 (o := 7) a1 a2 (by decide)]; exact a5) (by omega) (fun S1 hM e1 => fin S1 g a3 a4 e1 hM a6)
/-- the program has its value -/
theorem y_v0 (hp : y_Pg b n A1 B1 A2 S0 R0 ce tt0 most) (hC : y_Cr b n τ A1 B1 A2 S0 R0 ce most f0 (tp + 1) bs rd pc fu th dp [] cs0 al φ ψ F fg fc Y pd cp aw ph fl Ψ S R) (hi : i + Ψ ≤ 99999990) (hu : R.2.2 41 105 = 1 ∧ R.2.2 41 104 = v ∧ pc < ce) (hK : y_SK b n τ A1 B1 A2 ce tt0 rd φ ψ F fg [] S R D tp bs pc t en tl cv ph) (hv : y_vr φ ψ F t (z_mm S tp) v) (kE : ∀ S' R' r, y_En S0 R0 S' R' → Φ (.inl (some (.int r))) S' (some (.int r)) R') : y_J most f0 Φ i S R := by
  have c47 := hp.1.2.1
  obtain ⟨c1, c2, c3, c4, c5⟩ := hC
  obtain ⟨h1, h2, h3, -⟩ := hK
  obtain ⟨u96, u97, u98, u99, u100, u114, u94⟩ := c2.2.1
  have h27 : z_fn 0 (A1 14) pc = 27 := by
    rw [show pc = ce - 1 by omega]
    exact hp.1.2.2.2.2.1
  refine g_fin (ty := S0.2.2.2.1 13 8) c1 hp.2.1.1 hu.2.2 (hp.op (o := 27) hu.2.2 h27 (by decide) (by decide)) rfl (by omega) (fun S1 hz => ?_)
  refine y_done u94 hu.1 u96 ?_
  refine y_end (by rw [y_iv_k]; decide) ?_
  rw [y_iv_n (by decide), u98]
  refine kE S1 _ _ ⟨2, _, -1, fu, th, dp, hz, c2.1.iv (by decide), by decide, ⟨y_iv_k, (y_iv_n (by decide)).trans u98, (y_iv_n (by decide)).trans u99, (y_iv_n (by decide)).trans u100⟩, ?_, by rw [if_neg (by decide)]⟩
  rw [y_iv_n (by decide), hu.2.1]
  by_cases q : S0.2.2.2.1 13 8 = 0 ∨ S0.2.2.2.1 13 8 = 1
  · rw [if_pos q, if_pos ⟨rfl, hp.2.2.2.2.2.1.mp q⟩]
    obtain ⟨k, k2, kt⟩ := hp.2.2.2.2.2.2 q
    rw [h3, kt] at hv
    rcases hv with ⟨k', -, -, hv, -⟩ | ⟨f, -, -, -, -, a, r, hv⟩
    · exact hv.symm
    · exact absurd hv.symm z_fz_bz
  · rw [if_neg q, if_neg (fun w => q (hp.2.2.2.2.2.1.mpr w.2))]
/-- what waits on top -/
theorem y_vl (hC : y_Cr b n τ A1 B1 A2 S0 R0 ce most f0 (tp + 1) bs rd pc fu th dp (x :: X) cs0 al φ ψ F fg fc Y pd cp aw ph fl Ψ S R) (hu : R.2.2 41 105 = 1 ∧ R.2.2 41 104 = v ∧ pc < ce) (hm : x.1.2.1 = nI m) (hm6 : m < 600) : y_Vl X.length x.1.1 m x.1.2.2.1 x.1.2.2.2 v R := by
  obtain ⟨-, c2, -⟩ := hC
  obtain ⟨-, p2, -, -, p5, p6⟩ := c2.pop
  have e1 : z_fn 0 (R.1 111) X.length = x.1.1 := congrArg (fun q : y_E => q.1) p2
  have e2 : z_fn 0 (R.1 112) X.length = x.1.2.1 := congrArg (fun q : y_E => q.2.1) p2
  have e3 : z_fn 0 (R.1 113) X.length = x.1.2.2.1 := congrArg (fun q : y_E => q.2.2.1) p2
  have e4 : z_fn 0 (R.1 114) X.length = x.1.2.2.2 := congrArg (fun q : y_E => q.2.2.2) p2
  exact ⟨c2.2.1.2.2.2.2.2.2, hu.1, hu.2.1, p5, ⟨p6, hm6⟩, e1, e2.trans hm, e3, e4⟩
/-- the second part of an operation or of a call is begun -/
theorem y_toQ {w : Int32} {s y1 tp0 en0 tl0 : Nat} {cv0 : List Nat} {v2 : z_Bd} {t2 : z_F} (hC : y_Cr b n τ A1 B1 A2 S0 R0 ce most f0 (tp0 + 1) bs rd pc fu th dp (x :: X) cs0 al φ ψ F fg fc Y pd cp aw ph fl Ψ S R) (h7 : x.1.1 < 7) (hm6 : m < 600) (hse : s < e ∧ u.1.1 ≤ m ∧ m < u.1.2 ∧ e < ce) (hB : y_Bs b n A1 ce (z_rq S) R.1 (y_vr φ ψ F) (z_mm S) (y_SK b n τ A1 B1 A2 ce tt0 rd φ ψ F fg X S R) D tp0 bs s e Γ tt wt u x.2 x.1.2.2.2 en0 tl0 cv0 ph) (hN : y_Nf b n τ A1 B1 (y_vr φ ψ F) (z_mm S) w v m f wt u s e Γ tt tp0 (tp0 + 1) (e - 1) t2 tl0 tl0) (hctx : z_ctx A1 pc = z_ctx A1 s) (hps : s ≤ pc) (hP : y_P b n τ A1 B1 f wt 1 v2 y1 pc (e - 1) Γ t2) (hy : y1 < 600) (hsz : v2.1.2 - v2.1.1 + 2 ≤ u.1.2 - u.1.1 ∧ v2.1.2 ≤ 600) : y_W b n τ A1 B1 A2 S0 R0 ce tt0 most f0 f Ψ S (y_wk (nI y1) x.1.2.2.2 (y_pt X.length (w, nI m, v, x.1.2.2.2) (y_iv 96 (nI X.length) R))) := by
  obtain ⟨c1, c2, c3, c4, c5⟩ := hC
  obtain ⟨p1, -, -, p4, -, -⟩ := c2.pop
  obtain ⟨hfr, l100, lk, Xl, tpl, bsl, L, L1, L2, L3⟩ := hB.fr
  have dp4 : dp ≤ 400 := c2.2.2.1.2.1
  have edp : y_dp X = dp := by
    have : y_dp X + (if x.1.1 < 7 then 0 else 1) = dp := c3
    rw [if_pos h7] at this
    exact this
  have hw7 : w < 7 := hN.w
  have g1 := (p1.pt (x := ((w, nI m, v, x.1.2.2.2), x.2)) lk p4 (by omega) ⟨L, by omega, fun e he => by
    cases he with
    | head => exact L2
    | tail _ he => exact L3 e he⟩)
  obtain ⟨Ra, hRa⟩ : ∃ X' : z_RS, X' = y_pt X.length (w, nI m, v, x.1.2.2.2) (y_iv 96 (nI X.length) R) := ⟨_, rfl⟩
  have g1 : y_Gr b n τ A1 B1 A2 ce R0 (z_rq S) rd fu th dp (((w, nI m, v, x.1.2.2.2), x.2) :: X) cs0 al φ ψ F fg fc Y pd cp aw Ra := by rw [hRa]; exact g1
  have bo : ∀ q, ¬ (111 ≤ q ∧ q ≤ 114) → Ra.1 q = R.1 q := by
    intro q hq
    rw [hRa]
    show z_u (z_u (z_u (z_u R.1 111 ((X.length, w) :: R.1 111)) 112 ((X.length, nI m) :: R.1 112)) 113 ((X.length, v) :: R.1 113)) 114 ((X.length, x.1.2.2.2) :: R.1 114) q = R.1 q
    rw [z_un (by omega), z_un (by omega), z_un (by omega), z_un (by omega)]
  have sB : ∀ c, y_sB R.1 Ra.1 c := fun c => y_sB.of (fun q a d => bo q (by omega))
  have g2 := g1.wk (m := nI y1) (nm := x.1.2.2.2) (cs' := x.2) (lk.sB (fun c _ => sB c)) (by omega) p4
  have hwk := y_wk_u (R := Ra) (x := nI y1) (nm' := x.1.2.2.2)
  rw [← hRa]
  obtain ⟨Rb, hRb⟩ : ∃ X' : z_RS, X' = y_wk (nI y1) x.1.2.2.2 Ra := ⟨_, rfl⟩
  have rb : Rb.1 = Ra.1 := by rw [hRb]; rfl
  rw [← hRb] at g2 hwk ⊢
  rw [← rb] at sB
  have hB1 := y_BS.mo (S' := S) (R' := Rb) (T := tp0) (fg' := fg) (fun _ _ _ => rfl) (fun x _ q => ⟨rfl, q⟩) (Nat.le_refl _) (fun _ _ _ q => q) (fun _ _ c _ => sB c) (fun c _ => sB c) (Nat.le_refl _) (Nat.le_of_lt hse.1) hB
  obtain ⟨⟨s1, s2, s3, s4⟩, s5, ⟨u1, u2, u3, u4, u5⟩, s7, s8⟩ := id hB1
  have hwm := hP.1.mod
  have hw1 := hP.1.1
  have rg := z_Ct.rg hP.2
  refine ⟨tp0 + 1, bs, rd, pc, fu, th, dp, ((w, nI m, v, x.1.2.2.2), x.2) :: X, x.2, al, φ, ψ, F, fg, fc, Y, pd, cp, aw, ph, fl, y1, e - 1, Γ, t2, wt - 1, v2, x.1.2.2.2, D, en0 + 1, tl0, x.2, ⟨c1, g2, ?_, c4, c5⟩, ⟨g2.2.1.2.2.2.2.2.2, hwk.1, hwk.2.1, hwk.2.2, hy⟩, ⟨hP.2, by omega⟩, ⟨by rw [hctx]; exact s1, by omega, by omega, by rw [hctx]; exact s4⟩, by rw [hctx]; exact s5, ⟨by omega, by omega, by omega, by rw [hctx]; omega, hsz.2⟩, ⟨[], rfl⟩, 0, e - 1, rfl, m, rfl, hm6, rfl, Or.inl ⟨f, wt, u, s, e, Γ, tt, tp0, en0, tl0, cv0, hse, hB1, rfl, hN⟩⟩
  show y_dp X + (if w < 7 then 0 else 1) = dp
  rw [if_pos hw7]
  exact edp
end YA
