/-! Both run together, to the end. -/
section YMN
variable {b : Nat → Nat} {n : Nat} {τ : z_TT} {A1 B1 A2 : Nat → List (Nat × Int32)} {S0 : z_CS} {R0 : z_RS} {ce : Nat} {tt0 : z_F} {most : Nat} {f0 : Int32}
theorem y_main (hp : y_Pg b n A1 B1 A2 S0 R0 ce tt0 most) : ∀ Ψ, (∀ f i S R, i + Ψ ≤ 99999990 → y_W b n τ A1 B1 A2 S0 R0 ce tt0 most f0 f Ψ S R → y_J most f0 (y_Φ b n τ A1 B1 A2 S0 R0 ce tt0 most f0) i S R) ∧ ∀ i S R, i + Ψ ≤ 99999990 → y_V b n τ A1 B1 A2 S0 R0 ce tt0 most f0 Ψ S R → y_J most f0 (y_Φ b n τ A1 B1 A2 S0 R0 ce tt0 most f0) i S R := by
  intro Ψ
  induction Ψ using Nat.strongRecOn with
  | ind Ψ ih =>
    have kE : ∀ S' R' r, y_En S0 R0 S' R' → y_Φ b n τ A1 B1 A2 S0 R0 ce tt0 most f0 (.inl (some (.int r))) S' (some (.int r)) R' := fun S' R' r h => ⟨r, rfl, rfl, Or.inl h⟩
    have kV : ∀ i S' R', i + Ψ ≤ 99999990 → y_V b n τ A1 B1 A2 S0 R0 ce tt0 most f0 (Ψ - 1) S' R' → 1 ≤ Ψ → y_J most f0 (y_Φ b n τ A1 B1 A2 S0 R0 ce tt0 most f0) (i + 1) S' R' := fun i S' R' hi h h1 => (ih (Ψ - 1) (by omega)).2 (i + 1) S' R' (by omega) h
    have kW1 : ∀ f i S' R', i + Ψ ≤ 99999990 → y_W b n τ A1 B1 A2 S0 R0 ce tt0 most f0 f (Ψ - 1) S' R' → 1 ≤ Ψ → y_J most f0 (y_Φ b n τ A1 B1 A2 S0 R0 ce tt0 most f0) (i + 1) S' R' := fun f i S' R' hi h h1 => (ih (Ψ - 1) (by omega)).1 f (i + 1) S' R' (by omega) h
    have W : ∀ f i S R, i + Ψ ≤ 99999990 → y_W b n τ A1 B1 A2 S0 R0 ce tt0 most f0 f Ψ S R → y_J most f0 (y_Φ b n τ A1 B1 A2 S0 R0 ce tt0 most f0) i S R := by
      intro f
      induction f with
      | zero =>
        intro i S R _ h
        obtain ⟨tp, bs, rd, pc, fu, th, dp, X, cs0, al, φ, ψ, F, fg, fc, Y, pd, cp, aw, ph, fl, m, e, Γ, tt, wt, u, nm, D, en, tl, cv, hC, hW, ⟨hct, hce⟩, hB⟩ := h
        exact hct.elim
      | succ f ihf =>
        intro i S R hi h
        obtain ⟨tp, bs, rd, pc, fu, th, dp, X, cs0, al, φ, ψ, F, fg, fc, Y, pd, cp, aw, ph, fl, m, e, Γ, tt, wt, u, nm, D, en, tl, cv, hC, hW, ⟨hct, hce⟩, hB⟩ := h
        obtain ⟨hm, hb⟩ := hct
        have kP : ∀ R', y_W b n τ A1 B1 A2 S0 R0 ce tt0 most f0 f Ψ S R' → y_J most f0 (y_Φ b n τ A1 B1 A2 S0 R0 ce tt0 most f0) i S R' := fun R' h => ihf i S R' hi h
        rcases hb with ⟨k1, k2, k3, k4, k5⟩ | ⟨k1, k2, k3, k4, k5, k6⟩ | ⟨k1, k2, k3, k4, k5⟩ | ⟨k1, k2, k3, k4, k, k5, k6⟩ | ⟨k1, k2⟩ | ⟨k1, x, y, g, ta, tr, v1, v2, k2⟩ | ⟨k1, k2⟩ | ⟨k1, x, ta, tr, v1, q1, q2, q3, q4, q5, q6, q7, q8, q9⟩ | ⟨k1, x, y, g, h, r, t1, v1, v2, k2⟩ | ⟨k, k1, k2, k3, x, y, g, v1, v2, k4⟩ | ⟨k1, k2⟩ | ⟨k1, k2⟩
        · exact y_w12 (kd := 0) hp hC hi hW hce hB k1 (by decide) k2 k3 (by rw [if_neg (by decide)]; exact k4) (fun q => by cases q) k5 (fun S' R' => kV i S' R' hi)
        · exact y_w12 (kd := 1) hp hC hi hW hce hB k1 (by decide) k2 k3 (by rw [if_neg (by decide)]; exact k4) (fun _ => k5) k6 (fun S' R' => kV i S' R' hi)
        · exact y_w12 (kd := 2) hp hC hi hW hce hB k1 (by decide) k2 k3 (by rw [if_pos rfl]; exact k4) (fun q => by cases q) k5 (fun S' R' => kV i S' R' hi)
        · exact y_w15 hp hC hi hW hce hB k1 k2 k3 k4 k5 k6 (fun S' R' => kV i S' R' hi)
        · exact y_wpt (f := f) hp hC hW hce hm hB (Or.inl ⟨k1, k2⟩) kP
        · exact y_w1 (f := f) (x := x) (y := y) (g := g) (ta := ta) (tr := tr) (v1 := v1) (v2 := v2) hp hC hi hW hce hm hB k1 k2 kE (fun S' R' h h2 => (ih (Ψ - 2) (by omega)).1 f (i + 1 + 1) S' R' (by omega) h)
        · exact y_wpt (f := f) hp hC hW hce hm hB (Or.inr (Or.inl ⟨k1, k2⟩)) kP
        · exact y_w3 (f := f) (x := x) (ta := ta) (tr := tr) (v1 := v1) hp hC hi hW hce hm hB k1 ⟨q1, q2, q3, q4, q5, q6, q7, q8⟩ q9 kE (fun S' R' => kV i S' R' hi)
        · exact y_w4 (f := f) (x := x) (y := y) (g := g) (h := h) (r := r) (t1 := t1) (v1 := v1) (v2 := v2) hp hC hi hW hce hm hB k1 k2 kE (fun S' R' => kW1 f i S' R' hi)
        · exact y_wpt (f := f) hp hC hW hce hm hB (Or.inr (Or.inr (Or.inl ⟨k, x, y, g, v1, v2, ⟨k1, k2, k3⟩, k4⟩))) kP
        · exact y_wpt (f := f) hp hC hW hce hm hB (Or.inr (Or.inr (Or.inr (Or.inl ⟨k1, k2⟩)))) kP
        · exact y_wpt (f := f) hp hC hW hce hm hB (Or.inr (Or.inr (Or.inr (Or.inr ⟨k1, k2⟩)))) kP
    refine ⟨W, ?_⟩
    intro i S R hi h
    have h' := h
    obtain ⟨tp, bs, rd, pc, fu, th, dp, X, cs0, al, φ, ψ, F, fg, fc, Y, pd, cp, aw, ph, fl, k, p, t, v, D, en, tl, cv, hC, hu, hA, hK, hv⟩ := h
    cases k with
    | succ k => exact y_vad hp hC hi hu hA hK hv (fun S' => kV i S' R hi)
    | zero =>
      have hA : pc = p := hA
      subst hA
      cases X with
      | nil => exact y_v0 hp hC hi hu hK hv kE
      | cons x X =>
        have bd := hK.bd
        have dpe := hC.2.2.1
        have dp4 : dp ≤ 400 := hC.2.1.2.2.1.2.1
        obtain ⟨m, hm, hm6, hcv, h | ⟨e1, e2, e3, hf, h⟩⟩ := id hK
        · obtain ⟨f, wt, u, s, e, Γ, tt, tp0, en0, tl0, cv0, hse, hB, hen, hN⟩ := h
          rcases hN with ⟨w1, w2, w3, k0, x1, y, g, v1, v2, hc, w4, w5⟩ | ⟨w1, w2, w3, w4, k0, x1, y, g, v1, v2, hc, w5, w6⟩ | ⟨w1, w2, w3, x1, y, z, g, h, v1, v2, v3, hc, w4, w5⟩ | ⟨w1, w2, w3, x1, y, g, t1, v1, v2, hc, w4, w5⟩ | ⟨w1, w2, w3, x1, y, g, t1, v1, v2, hc, w4, w5⟩ | ⟨w1, w2, w3, x1, y, g, t1, v1, v2, hc, w4, w5, w6⟩ | ⟨w1, w2, w3, x1, ef, v1, hc, w4, w5⟩
          · subst w3 w4 w5
            exact y_g_right hC hp hu hm hm6 hse hB w1 hc hv (fun R' h => W f i S R' hi h)
          · subst w3 w5 w6
            exact y_g_left hp hC hi hu hm hm6 hse hB w1 w4 hc hv (fun S' R' => kV i S' R' hi)
          · subst w3 w4 w5
            exact y_g_test hp hC hi hu hm hm6 hse hB w1 hc hv (fun S' R' => kW1 f i S' R' hi)
          · subst w3 w4 w5
            exact y_g_named hp hC hi hu hm hm6 hse hB w1 hc hv (fun S' R' => kW1 f i S' R' hi)
          · subst w3 w4 w5
            exact y_g_arg hp hC hi hu hm hm6 hse hB w1 hc hv (fun S' R' => kW1 f i S' R' hi)
          · subst w3 w5 w6
            by_cases hfl : fl = 0
            · exact y_g_stop (o := 15) hp hC hi hu hm hm6 (Or.inl w1) hc.2.2.2.2.2.2.2.2 (Or.inl rfl) hfl ⟨_, rfl, rfl, Or.inr ⟨Ψ, h'⟩⟩
            · obtain ⟨f1, g1, g2, g3, g4⟩ := w4.fz
              rcases hC.2.1.2.2.2.1.1 f1 g1 with ⟨hcf, -, -⟩ | ⟨hck, hcs⟩
              · exact y_g_call (f' := 0) hp hC hi hu hm hm6 hse hB w1 hc g1 g2 g3 g4 hcf hv (by omega) kE (fun f' S' R' => kW1 f' i S' R' hi)
              · exact y_g_goon hp hC hi hu hm hm6 hse hB w1 hc g1 g2 g3 g4 hck hcs hv (by omega) kE (fun S' R' => kV i S' R' hi)
          · subst w3 w4 w5
            by_cases hfl : fl = 0
            · exact y_g_stop (o := 16) hp hC hi hu hm hm6 (Or.inr w1) hc.2.2.2.2.2.1 (Or.inr rfl) hfl ⟨_, rfl, rfl, Or.inr ⟨Ψ, h'⟩⟩
            · exact y_g_perf hp hC hi hu hm hm6 hse hB w1 hc hv (by omega) kE (fun f' S' R' => kW1 f' i S' R' hi)
        · rcases h with ⟨w1, w2, ⟨o, w6, w6'⟩, w7⟩ | ⟨w1, s, e, f, wt, u, Γ, tt, y1, y2, g, h, r, v1, v2, hn, w3, w4⟩
          · exact y_g_close (o := o) hp hC hi hu hm hm6 hf (by rw [dpe] at bd; omega) w1 w6 w6' w7 hv (fun S' R' => kV i S' R' hi)
          · subst w3
            have hLL : ∃ L : List Nat, L.length ≤ 40100 ∧ ∀ e, e ∈ X → ∀ c, c ∈ e.2 → c ∈ L := by
              obtain ⟨-, -, -, -, -, b6, -, L, b10, b11⟩ := bd
              rw [dpe] at b10
              refine ⟨cv ++ L, by rw [List.length_append]; omega, fun e he c hc => List.mem_append.mpr (b11 e (List.mem_cons_of_mem _ he) c hc)⟩
            exact y_g_ret hp hC hi hu hm hm6 e3 hf w1 hn w4 hLL hv (fun S' R' => kW1 f i S' R' hi)
end YMN
