/-! Both run together: a frame closed, a handler's body done, a closure called. -/
section YD
variable {b : Nat → Nat} {n : Nat} {τ : z_TT} {A1 B1 A2 : Nat → List (Nat × Int32)} {S0 : z_CS} {R0 : z_RS} {ce : Nat} {tt0 : z_F} {most : Nat} {f0 : Int32} {Φ : z_V → z_CS → Option Value → z_RS → Prop}
variable {S S' : z_CS} {R R' : z_RS} {tp bs rd pc : Nat} {fu : Int32} {th dp : Nat} {X : y_X} {cs0 : List Nat} {al : Nat → Prop} {φ : Nat → Nat} {ψ : Nat → z_F} {F : Nat} {fg : List Nat} {fc : Nat → List Nat} {Y : Nat → y_X} {pd cp : Nat → Nat} {aw ph fl Ψ m e : Nat} {Γ : List z_F} {tt t : z_F} {wt : Nat} {u : z_Bd} {v : Int32} {D : y_D} {en tl : Nat} {cv : List Nat} {f i k p : Nat} {x : y_E × List Nat}
variable {s tp0 en0 tl0 : Nat} {cv0 : List Nat}
/-- a frame is closed -/
theorem y_g_close {o : Nat} (hp : y_Pg b n A1 B1 A2 S0 R0 ce tt0 most) (hC : y_Cr b n τ A1 B1 A2 S0 R0 ce most f0 (tp + 1) bs rd pc fu th dp (x :: X) cs0 al φ ψ F fg fc Y pd cp aw ph fl Ψ S R) (hi : i + Ψ ≤ 99999990) (hu : R.2.2 41 105 = 1 ∧ R.2.2 41 104 = v ∧ pc < ce) (hm : x.1.2.1 = nI m) (hm6 : m < 600) (hf : y_Fr A1 A2 ce (z_rq S) rd fg (z_mm S) tp bs D) (hbl : bs ≤ 333 * 400) (hw : x.1.1 = 7 ∨ x.1.1 = 9 ∨ x.1.1 = 10) (ho : z_fn 0 (A1 14) pc = nI o) (oo : o = 18 ∨ o = 20 ∨ o = 23 ∨ o = 25) (hb : y_Be A1 ce (z_mm S) (y_SK b n τ A1 B1 A2 ce tt0 rd φ ψ F fg X S R) bs t ph) (hv : y_vr φ ψ F t (z_mm S tp) v) (kV : ∀ S' R', y_V b n τ A1 B1 A2 S0 R0 ce tt0 most f0 (Ψ - 1) S' R' → 1 ≤ Ψ → y_J most f0 Φ (i + 1) S' R') : y_J most f0 Φ i S R := by
  have hl := y_vl hC hu hm hm6
  have c47 := hp.1.2.1
  obtain ⟨d1, d2, d3, d4, d5⟩ := hC
  obtain ⟨p1, -⟩ := d2.pop
  obtain ⟨bk, bl, D', k, p', en', tl', cv', ph', ⟨b1, b2, b3, b4, b5, b6⟩, b7, b8⟩ := hb
  have edp : y_dp X + 1 = dp := by
    have : y_dp X + (if x.1.1 < 7 then 0 else 1) = dp := d3
    rw [if_neg (by rcases hw with q | q | q <;> rw [q] <;> decide)] at this
    exact this
  obtain ⟨dq, rfl⟩ : ∃ dq, dp = dq + 1 := ⟨y_dp X, edp.symm⟩
  have dp4 : dq + 1 ≤ 400 := d2.2.2.1.2.1
  have f1 := hf.1
  refine y_J.re ?_ (fun Q q => y_g7 hl hw d2.2.1.2.2.2.2.1 q)
  refine g_close (o := o) d1 hp.2.1.1 hu.2.2 (hp.op hu.2.2 ho (by omega) (by omega)) oo (by omega) b1 b2 b4 (by omega) (by omega) (fun S1 hM q1 qv q2 => ?_)
  have g1 := (p1.iv (U' := (y_iv 100 (nI dq) (y_iv 96 (nI X.length) R)).2.2) (fu' := fu) (th' := th) (dp' := dq) (fun a k hk => by
    show z_v (y_iv 96 (nI X.length) R).2.2 41 100 (nI dq) a k = _
    rw [z_vn (fun q => hk ⟨q.1, by omega⟩)]) ((y_iv_n (by decide)).trans p1.2.1.2.2.1) ((y_iv_n (by decide)).trans p1.2.1.2.2.2.1) y_iv_k (Nat.le_refl _) p1.2.2.1.1 (by omega)).grw (rr' := z_rq S1) (rd' := rd) (fun x hx => q2 x hx) (Nat.le_refl _) p1.2.2.1.2.2.2.1
  refine kV S1 _ ⟨bs, bs - bl, rd, bk, fu, th, dq, X, cs0, al, φ, ψ, F, fg, fc, Y, pd, cp, aw, ph', fl, k, p', t, v, D', en', tl', cv', ⟨hM, g1, by omega, d4, by omega⟩, ⟨((y_iv_n (by decide)).trans (y_iv_n (by decide))).trans hu.1, ((y_iv_n (by decide)).trans (y_iv_n (by decide))).trans hu.2.1, b5⟩, b7, (y_SK.mo (T := bs) (R' := y_iv 100 (nI dq) (y_iv 96 (nI X.length) R)) (fun x _ hx => q1 x hx) (fun x hx q => ⟨q2 x hx, q⟩) (Nat.le_refl _) (fun _ _ _ q => q) (fun _ _ _ _ => y_sB.rf) (Nat.le_refl _) b8).2, by rw [qv]; exact hv⟩ (by omega)
/-- a handler's body is done -/
theorem y_g_ret {y1 y2 g h : Nat} {r : List (Nat × Nat)} {v1 v2 : z_Bd} (hp : y_Pg b n A1 B1 A2 S0 R0 ce tt0 most) (hC : y_Cr b n τ A1 B1 A2 S0 R0 ce most f0 (tp + 1) bs rd g fu th dp (x :: X) cs0 al φ ψ F fg fc Y pd cp aw ph fl Ψ S R) (hi : i + Ψ ≤ 99999990) (hu : R.2.2 41 105 = 1 ∧ R.2.2 41 104 = v ∧ g < ce) (hm : x.1.2.1 = nI m) (hm6 : m < 600) (htp : tp = bs + 4 + D.2.2.2.1) (hf : y_Fr A1 A2 ce (z_rq S) rd fg (z_mm S) tp bs D) (hw : x.1.1 = 8) (hn : y_Hn b n τ A1 B1 A2 ce (z_rq S) R.1 (y_vr φ ψ F) (z_mm S) D bs m s e f wt u Γ tt x.2 x.1.2.2.2 y1 y2 g h r t v1 v2) (hb : y_Be A1 ce (z_mm S) (y_SK b n τ A1 B1 A2 ce tt0 rd φ ψ F fg X S R) bs tt ph) (hLL : ∃ L : List Nat, L.length ≤ 40100 ∧ ∀ e, e ∈ X → ∀ c, c ∈ e.2 → c ∈ L) (hv : y_vr φ ψ F t (z_mm S tp) v) (kW : ∀ S' R', y_W b n τ A1 B1 A2 S0 R0 ce tt0 most f0 f (Ψ - 1) S' R' → 1 ≤ Ψ → y_J most f0 Φ (i + 1) S' R') : y_J most f0 Φ i S R := by
  obtain ⟨rB, -⟩ := hC.rw hp
  have hl := y_vl hC hu hm hm6
  rw [hw] at hl
  have c47 := hp.1.2.1
  obtain ⟨d1, d2, d3, d4, d5⟩ := hC
  obtain ⟨p1, -, p3, p4, -, p6⟩ := d2.pop
  obtain ⟨hc, ⟨n1, n2, n3, n4⟩, ⟨n5, n6, n7, n8⟩, env, ⟨n9, n10, n11⟩, n12⟩ := hn
  obtain ⟨⟨k1, k2, k3, k4, k5⟩, k6, k7, k8, k9, k10, k11, k12, k13, k14, k15, k16, k17, k18, k19⟩ := id hc
  obtain ⟨L, LL1, LL2⟩ := hLL
  have pt0 := (p1.pt (x := ((10, nI m, 0, -1), [])) rfl (fun c hc => by cases hc) p6 ⟨L, by omega, fun e he => by
    cases he with
    | head => intro c hc; cases hc
    | tail _ he => exact LL2 e he⟩)
  obtain ⟨l1, l2, -⟩ := y_en.len _ _ _ _ env
  obtain ⟨R1, j, hn, kr⟩ := y_g8 (n := nI most) (f0 := f0) hl (pt0.as (x4 := x.1.2.2.2) (cs' := x.2) (p3.sB (fun c _ => y_sB.of (fun q a d => by
    show z_u (z_u (z_u (z_u R.1 111 _) 112 _) 113 _) 114 _ q = R.1 q
    rw [z_un (by omega), z_un (by omega), z_un (by omega), z_un (by omega)]))) (by omega) p4)
  obtain ⟨gr, sB'⟩ := pt0.nd hn
  obtain ⟨m1, ⟨n98, n99, n100, n101⟩, -⟩ := hn
  have sB : ∀ c, y_Lv cs0 x.2 (((10, nI m, 0, -1), []) :: X) F fc Y c → y_sB R.1 R1.1 c := fun c hc q a d => by
    rw [sB' c hc q a d]
    show z_fn 0 (z_u (z_u (z_u (z_u R.1 111 ((X.length, 10) :: R.1 111)) 112 ((X.length, nI m) :: R.1 112)) 113 ((X.length, 0) :: R.1 113)) 114 ((X.length, -1) :: R.1 114) q) c = _
    rw [z_un (by omega), z_un (by omega), z_un (by omega), z_un (by omega)]
  refine y_J.re ?_ kr
  rw [rB 59 (by decide) (by decide), k7]
  -- names
  have cs1 : z_ctx A1 (s + 1) = ((z_ctx A1 s).1, (z_ctx A1 s).1.length :: (z_ctx A1 s).2) := by
    rw [z_ctx_s k11]
    rfl
  have cg : z_ctx A1 g = ((z_ctx A1 s).1, (z_ctx A1 s).1.length :: (z_ctx A1 s).2) := k13.fl.2.2.trans cs1
  have cg1 : z_ctx A1 (g + 1) = (z_fn 0 (A1 15) g :: (z_ctx A1 s).1, (z_ctx A1 s).1.length :: (z_ctx A1 s).2) := by
    rw [z_ctx_s k14, cg]
    rfl
  have hN' := hf.nm (s := g + 1) (by rw [cg1, n5, n6]) (by omega) (by omega)
  rw [cg1, List.length_cons] at hN'
  have hN2 : (z_ctx A1 s).1.length + 1 ≤ (z_ctx A1 s).1.length + D.2.2.2.1 := by rw [← n5]; rw [← n5] at hN'; exact hN'
  have f1 := hf.1
  have f2 := hf.2.1
  have fg5 := hf.2.2.2.2.1
  have f4 := hf.2.2.2.1
  obtain ⟨bk, bl, D', kk, p', en', tl', cv', ph', ⟨b1, b2, b3, b4, b5, b6⟩, b7, b8⟩ := hb
  have hwm := k16.1.mod
  have hw4 := k16.1.1
  have rg2 := z_Ct.rg k16.2
  have rg1 := z_Ct.rg k13.2
  have sz := y_sz3 k3 k4 k5 n12.2 ⟨rg1.2.1, rg1.2.2⟩ n10
  refine g_ret d1 hp.2.1.1 hu.2.2 (hp.op (o := 22) hu.2.2 k14 (by decide) (by decide)) (by omega) (by omega) (fun S1 hM mo ms m3 e40 => ?_)
  have rq : ∀ x, z_rq S1 x = z_rq S x := fun x => by unfold z_rq; rw [e40]
  have lk1 : y_lk (y_nx R1.1) (nI j) (j :: x.2) := by
    refine ⟨rfl, m1, ?_⟩
    rw [show y_nx R1.1 j = x.1.2.2.2 from n101]
    exact p3.sB (fun c hc => sB c (Or.inr (Or.inl hc)))
  have g2 := (gr.grw (rr' := z_rq S1) (rd' := rd) (fun x _ => rq x) (Nat.le_refl _) gr.2.2.1.2.2.2.1).wk (m := nI y2) (nm := nI j) (cs' := j :: x.2) lk1 (by rw [List.length_cons]; omega) (fun c hc => by
    cases hc with
    | head => exact Or.inr rfl
    | tail _ hc => exact Or.inl (Or.inr (Or.inl hc)))
  have hwk := y_wk_u (R := R1) (x := nI y2) (nm' := nI j)
  have frN : y_Fr A1 A2 ce (z_rq S1) rd fg (z_mm S1) tp bs D := ⟨f1, by rw [mo (bs + 2) (by omega) (by omega)]; exact f2, by
    obtain ⟨mk, q1, q2⟩ := hf.2.2.1
    exact ⟨mk, by rw [rq]; exact q1, q2⟩, hf.2.2.2⟩
  have sk := (y_SK.mo (S' := S1) (R' := y_wk (nI y2) (nI j) R1) (T := bs) (fg' := fg) (rd' := rd) (fun x _ hx => mo x (by omega) (by omega)) (fun x hx q => ⟨rq x, q⟩) (Nat.le_refl _) (fun _ _ _ q => q) (fun e he c hc => sB c (Or.inr (Or.inr (Or.inl ⟨e, List.mem_cons_of_mem _ he, hc⟩)))) (Nat.le_refl _) b8).2
  refine kW S1 _ ⟨tp, bs, rd, g + 1, fu, th, dp, ((10, nI m, 0, -1), []) :: X, j :: x.2, _, φ, ψ, F, fg, fc, Y, pd, cp, aw, ph, fl, y2, h, t :: Γ, tt, wt - 4, v2, nI j, D, 0, 0, [], ⟨hM, g2, ?_, d4, by omega⟩, ⟨g2.2.1.2.2.2.2.2.2, hwk.1, hwk.2.1, hwk.2.2, k2⟩, ⟨k16.2, by omega⟩, ⟨by rw [cg1, n5, n6], by omega, by omega, by rw [cg1, List.length_cons, n5]; omega⟩, ?_, ⟨by omega, by omega, by omega, by rw [cg1, List.length_cons]; omega, by omega⟩, ⟨j :: x.2, by rw [List.append_nil]⟩, 0, h, rfl, m, rfl, hm6, rfl, Or.inr ⟨rfl, rfl, htp, frN, Or.inl ⟨Or.inr (Or.inr rfl), ⟨rfl, rfl, m3, by omega⟩, ⟨23, k17, Or.inr (Or.inr (Or.inl rfl))⟩, bk, bl, D', kk, p', en', tl', cv', ph', ⟨by rw [mo bs (by omega) (by omega)]; exact b1, by rw [mo (bs + 1) (by omega) (by omega)]; exact b2, b3, b4, b5, b6⟩, b7, sk⟩⟩⟩ (by omega)
  · show y_dp X + (if (10 : Int32) < 7 then 0 else 1) = dp
    have : y_dp X + (if x.1.1 < 7 then 0 else 1) = dp := d3
    rw [hw] at this
    exact this
  · rw [cg1]
    refine ⟨rfl, m1, ?_, ?_, ?_⟩
    · rw [show z_fn 0 ((y_wk (nI y2) (nI j) R1).1 98) j = _ from n98, show z_fn 0 ((y_wk (nI y2) (nI j) R1).1 99) j = _ from n99, rB 64 (by decide) (by decide), rB 65 (by decide) (by decide)]
      exact k15
    · rw [show z_fn 0 ((y_wk (nI y2) (nI j) R1).1 100) j = _ from n100]
      unfold y_va
      rw [if_pos (by rw [n5]; exact Nat.le_refl _), n5, Nat.sub_self, Nat.add_zero, ms]
      exact hv
    · rw [show z_fn 0 ((y_wk (nI y2) (nI j) R1).1 101) j = _ from n101]
      refine y_en.mo (fun _ _ _ q => q) _ _ _ _ (fun k hk => ?_) (fun c hc => sB c (Or.inr (Or.inl hc))) env
      unfold y_va
      rw [if_neg (by rw [n5]; omega), if_neg (by rw [n5]; omega), rq]
end YD
