/-! The steps of start and run. -/
theorem y_I6.co {d d' : z_Dd} (f1 : ∀ k, k ≠ 1 → k ≠ 4 → d'.1.1 k = d.1.1 k) (f3 : d'.1.2.2.1 = d.1.2.2.1) (f4 : ∀ k j, ¬ (k = 3 ∧ j = 2) → d'.1.2.2.2.1 k j = d.1.2.2.2.1 k j) (f6 : ∀ k, k ≠ 42 → k ≠ 43 → d'.2.1.1 k = d.2.1.1 k) (f8 : ∀ k j, ¬ (k = 41 ∧ (j = 0 ∨ j = 5)) → d'.2.1.2.2 k j = d.2.1.2.2 k j) (h : y_I6 d) : y_I6 d' := by
  intro h7
  obtain ⟨b, n, τ, A1, B1, A2, ce, tt0, hp, S0, R0, most, f0, Ψ, S, R, hwv, ⟨⟨m1, m2⟩, ⟨m3, m4⟩, m5⟩, r1, r2⟩ := h (by rw [f4 38 7 (by decide)] at h7; exact h7)
  refine ⟨b, n, τ, A1, B1, A2, ce, tt0, hp.re (fun k _ _ => f1 k (by omega) (by omega)) (fun k _ _ => congrFun f3 k) (f4 13 8 (by decide)) (fun k hk => f6 k (by omega) (by omega)) (f8 41 92 (by decide)) (by decide), S0, R0, most, f0, Ψ, S, R, hwv, ⟨⟨(f1 39 (by decide) (by decide)).trans m1, (f1 40 (by decide) (by decide)).trans m2⟩, ⟨(congrFun f3 39).trans m3, (congrFun f3 40).trans m4⟩, fun j => (f4 38 j (by omega)).trans (m5 j)⟩, fun q hq => (f6 q (by omega) (by omega)).trans (r1 q hq), fun k hk => (f8 41 k (by omega)).trans (r2 k hk)⟩
/-- a call that throws: only thrown, the garbage and the room change -/
theorem y_thrown {i : Nat} {A : Nat → List (Nat × Int32)} {E : List (Nat × Option Nat)} {N : Nat → Nat} {V : Nat → Nat → Int32} {W : Nat} {B : Nat → List (Nat × Int32)} {M : Nat → List (Nat × Int64)} {U : Nat → Nat → Int32} {g : List z_E} {c : Nat × Nat} {t : Int32} {ci : Nat} (h : z_Inv y_I6 i ((A, E, N, V, W), (B, M, U), g, c)) : z_Inv y_I6 (i + 6) ((A, E, N, V, W), (B, M, z_v U 41 0 t), g ++ [.inr (ci, [])], (c.1 + 1, c.2 + 6)) := by
  obtain ⟨h1, h5, h6⟩ := h
  have hu : ∀ a k, ¬ (a = 41 ∧ k = 0) → z_v U 41 0 t a k = U a k := fun a k hk => z_vn hk
  have h8 := h1.2.2.2.2.1
  obtain ⟨hG, hGl⟩ := h1.2.2.2.2.2.1
  have hr := h1.2.2.2.2.2.2.2.2.2
  have hGl : 127 + g.length ≤ c.1 := hGl
  have hr : 64 * c.1 ≤ 8128 + 64 * i + z_Pt N ∧ c.2 ≤ 3005623 + 6 * i + 2 * z_Pt N := hr
  have q := y_keep (A' := A) (E' := E) (N' := N) (V' := V) (W' := W) (B' := B) (M' := M) (U' := z_v U 41 0 t) (g' := g ++ [.inr (ci, [])]) (c' := (c.1 + 1, c.2 + 6)) h1 h5 (fun _ _ _ => rfl) (fun _ _ _ => rfl) (fun _ _ _ => rfl) h1.2.2.2.2.2.2.1 (fun _ _ => rfl) (fun _ _ => rfl) (fun a k hk => hu a k (fun e => hk ⟨e.1, Or.inl e.2⟩)) (by
    show V 38 7 = z_v U 41 0 t 41 94 ∧ V 38 8 = (if z_v U 41 0 t 41 94 = 2 ∧ ¬ 2 ≤ z_v U 41 0 t 41 92 then z_v U 41 0 t 41 104 else 0) ∧ V 38 10 = z_v U 41 0 t 41 98 ∧ V 38 11 = z_v U 41 0 t 41 99 ∧ V 38 12 = z_v U 41 0 t 41 100 ∧ V 38 9 = (if z_v U 41 0 t 41 94 = 4 then z_v U 41 0 t 41 101 else -1)
    rw [hu 41 94 (by decide), hu 41 92 (by decide), hu 41 104 (by decide), hu 41 98 (by decide), hu 41 99 (by decide), hu 41 100 (by decide), hu 41 101 (by decide)]
    exact h8) ⟨hG.snoc ci, by rw [List.length_append]; show 127 + (g.length + 1) ≤ c.1 + 1; omega⟩ h1.2.2.2.2.2.2.2.2.1 ⟨by show 64 * (c.1 + 1) ≤ _; omega, by show c.2 + 6 ≤ _; omega⟩
  exact ⟨q.1, q.2, y_I6.co (d := ((A, E, N, V, W), (B, M, U), g, c)) (fun _ _ _ => rfl) rfl (fun _ _ _ => rfl) (fun _ _ _ => rfl) (fun a k hk => hu a k (fun e => hk ⟨e.1, Or.inl e.2⟩)) h6⟩
theorem y_len {A : Nat → List (Nat × Int32)} {E : List (Nat × Option Nat)} {N : Nat → Nat} {V : Nat → Nat → Int32} {W : Nat} {B : Nat → List (Nat × Int32)} {M : Nat → List (Nat × Int64)} {U : Nat → Nat → Int32} {g : List z_E} {c : Nat × Nat} (h : 127 + g.length ≤ c.1) : (hC A E N V W ++ (hR B M U ++ g)).length ≤ c.1 := by
  rw [List.length_append, List.length_append]
  have e1 : (hC A E N V W).length = 41 := rfl
  have e2 : (hR B M U).length = 86 := rfl
  omega
set_option maxRecDepth 100000 in
set_option maxHeartbeats 1000000 in
theorem y_start (L : Nat) (xs : Nat → Int32) (i : Nat) (d : z_Dd) (hi : i + 6 ≤ L) (hL : L ≤ 3072) (hop : xs i &&& 15 = 6) (h : z_Inv y_I6 i d) : ∃ d', z_Inv y_I6 (i + 6) d' ∧ z_St L xs i d d' := by
  have hrk := h.1.rk (z_hl hi hL)
  obtain ⟨⟨A, E, N, V, W⟩, ⟨B, M, U⟩, g, c⟩ := d
  have hrk : z_Rk N c := hrk
  have h' := h
  obtain ⟨h1, h5, h6⟩ := h
  have hW : W < 107 := h1.2.2.2.2.2.2.1
  obtain ⟨hG, hGl⟩ := h1.2.2.2.2.2.1
  have hG : z_Gn g := hG
  have hGl : 127 + g.length ≤ c.1 := hGl
  have hr := h1.2.2.2.2.2.2.2.2.2
  have hr : 64 * c.1 ≤ 8128 + 64 * i + z_Pt N ∧ c.2 ≤ 3005623 + 6 * i + 2 * z_Pt N := hr
  have hlv : z_Lv 400 2048 84000 := ⟨by decide, by decide⟩
  have hd1 := hlv.le (show 399 + 1 ≤ 400 by decide)
  have pb := z_Pt_b hrk.1
  have h4 := h1.2.2.2.1
  rcases id h4 with ⟨p1, p2⟩ | ⟨p1, p2, -⟩
  · have p1 : V 0 8 = 0 := p1
    have p2 : U 41 91 = 0 := p2
    refine ⟨_, y_thrown (t := 1) (ci := 11) h', fun fv o T' kk => ?_⟩
    refine b0_33 (z_i0 hi hL) ?_
    rw [z_xi (xs := xs) hi hL, hop]
    have hr2 : c.1 + 1 ≤ 601024 ∧ c.2 + 6 ≤ 7293034 := by omega
    have c108 : z_Ln L xs fv (2048 - 1 - 1) (84000 - (19 + z_pg.2.1 107) - (19 + z_pg.2.1 108)) 108 0 [(0, .ref 107)] [] (hC A E N V W ++ (hR B M U ++ g), c) (.inr 11) (hC A E N V W ++ (hR B M U ++ g), c.1 + 1, c.2 + 6) := e108_no ((((hd1.dn 107 (by decide)).le (show 398 + 1 ≤ 399 by decide)).dn 108 (by decide)).le (by decide)) hr2 p1
    have c107 := e107_no (B := B) (M := M) (U := U) (g := g) ((hd1.dn 107 (by decide)).le (by decide)) hrk.rm.1 (z_cdH hW hG) c108
    obtain ⟨v, R', hrr, rfl, rfl⟩ := r203n (l := 5) (R := (B, M, U)) (P := fun v R' => v = none ∧ R' = (B, M, z_v U 41 0 1)) p2 ⟨rfl, rfl⟩
    have hrm1 : z_Rm ([], ((c.1 + 1, c.2 + 6) : Nat × Nat)) := hr2
    have c203 := hrr L xs fv (2048 - 1) (84000 - (19 + z_pg.2.1 203)) (c.1 + 1, c.2 + 6) A E N V W (g ++ [.inr (11, [])]) hrm1 ((hd1.dn 203 (by decide)).le (by decide))
    exact b0_sw6 (law_6 (v := 1) hlv hrk.rm.1 hrm1 c107 c203 (show z_v U 41 0 1 41 0 = 1 from z_vk) kk)
  · have p1 : V 0 8 = 1 := p1
    have p2 : U 41 91 = 1 := p2
    rcases id h5 with q | ⟨-, b, n, S1, R1, S2, R2, a1, a2, a3, a4, a5, a6⟩
    · have q : V 0 8 = 0 := q
      rw [p1] at q
      exact absurd q (by decide)
    · obtain ⟨τ, tt0, s, m, mo, hpg, hrd⟩ := y_ok h4 p1 a1 a2 a3 a4 a5 a6
      have hrd : y_Rd b n τ S1.1 R1.1 S2.1 tt0 s m mo V U := hrd
      obtain ⟨o1, S', hcr, rfl, hM, m2, m3, r0⟩ := m109 (l := 20) (S := (A, E, N, V, W, c)) (Q := fun o S' => o = .inl none ∧ z_Mc (A, E, N, V, W, c) (4 + mo) 0 1 0 0 0 0 S' ∧ z_mm S' 2 = 0 ∧ z_mm S' 3 = -1 ∧ z_rq S' 0 = nI s) hrd.1.1 hrd.1.2.1 hrd.1.2.2.1 hrd.1.2.2.2 hrk hW (fun S' a e f g => ⟨rfl, a, e, f, g⟩)
      obtain ⟨v1, R', hrr, rfl, hbg⟩ := r203 (l := 5) (R := (B, M, U)) (P := fun v R' => v = none ∧ y_Bg (B, M, U) R') p2 (fun R' a => ⟨rfl, a⟩)
      obtain ⟨A', E', N', V', W', c'⟩ := S'
      obtain ⟨B', M', U'⟩ := R'
      have c109 : ∀ fv f w, z_Lv 23 f w → z_Ln L xs fv f w 109 0 [(0, .ref 145)] [] (hC A E N V W ++ (hR B M U ++ g), c) (.inl none) (hC A' E' N' V' W' ++ (hR B M U ++ g), c') := fun fv f w hl => hcr L xs fv f w (hR B M U ++ g) (z_GokR hG) hl
      have mono : c.1 ≤ c'.1 := by
        obtain ⟨q, -, -⟩ := c109 .null 2048 84000 (hlv.le (by decide)) (Or.inl rfl)
        exact q
      have hbg' := hbg
      obtain ⟨e1, e2, e3, ⟨x0, x77, x94, x96, x97, x98, x99, x100, x101, x104, x105, x114, x122, x102, x103⟩⟩ := hbg
      have e1 : B' = B := e1
      have e2 : M' = M := e2
      subst e1
      subst e2
      obtain ⟨f1, f2, f3, f4, ⟨f5, f5'⟩, f6, f7⟩ := hM.1
      have f1 : ∀ k, k ≠ 39 → k ≠ 40 → A' k = A k := f1
      have f3 : ∀ k, k ≠ 39 → k ≠ 40 → N' k = N k := f3
      have f4 : ∀ k j, k ≠ 38 → V' k j = V k j := f4
      have f6 : z_Rk N' c' := f6
      have f7 : z_Gw N N' c c' := f7
      have kp := y_keep (A' := A') (E' := E') (N' := N') (V' := V') (W' := W') (B' := B') (M' := M') (U' := U') (g' := g) (c' := c') h1 h5 f1 f3 f4 f5' (fun _ _ => rfl) (fun _ _ => rfl) (fun a k hk => e3 a k hk) (by
        obtain ⟨-, -, -, ⟨v7, v8, v9⟩, v10, v11, v12⟩ := hM
        have v7 : V' 38 7 = 1 := v7
        have v8 : V' 38 8 = 0 := v8
        have v9 : V' 38 9 = -1 := v9
        have v10 : V' 38 10 = 0 := v10
        have v11 : V' 38 11 = 0 := v11
        have v12 : V' 38 12 = 0 := v12
        have x94 : U' 41 94 = 1 := x94
        have x98 : U' 41 98 = 0 := x98
        have x99 : U' 41 99 = 0 := x99
        have x100 : U' 41 100 = 0 := x100
        show V' 38 7 = U' 41 94 ∧ V' 38 8 = (if U' 41 94 = 2 ∧ ¬ 2 ≤ U' 41 92 then U' 41 104 else 0) ∧ V' 38 10 = U' 41 98 ∧ V' 38 11 = U' 41 99 ∧ V' 38 12 = U' 41 100 ∧ V' 38 9 = (if U' 41 94 = 4 then U' 41 101 else -1)
        rw [v7, v8, v9, v10, v11, v12, x94, x98, x99, x100, if_neg (fun q => absurd q.1 (by decide)), if_neg (by decide)]
        exact ⟨rfl, rfl, rfl, rfl, rfl, rfl⟩) ⟨hG, by omega⟩ f6.1 ⟨by have := f7.2.1; omega, by have := f7.2.2; omega⟩
      refine ⟨((A', E', N', V', W'), (B', M', U'), g, c'), ⟨kp.1, kp.2, fun _ => ?_⟩, fun fv o T' kk => ?_⟩
      · refine ⟨b, n, τ, S1.1, R1.1, S2.1, s + 1, tt0, hpg.re (fun k k1 k2 => f1 k (by omega) (by omega)) (fun k k1 k2 => f3 k (by omega) (by omega)) (f4 13 8 (by decide)) (fun _ _ => rfl) (e3 41 92 (by decide)) (by decide), (A, E, N, V, W, c), (B', M', U'), 0, 0, 16000000, (A', E', N', V', W', c'), (B', M', U'), Or.inl ⟨s, y_begin (R := (B', M', U)) hrd rfl hM m2 m3 r0 hbg'⟩, ⟨⟨rfl, rfl⟩, ⟨rfl, rfl⟩, fun _ => rfl⟩, fun _ _ => rfl, fun _ _ => rfl⟩
      · refine b0_33 (z_i0 hi hL) ?_
        rw [z_xi (xs := xs) hi hL, hop]
        have k108 := ((hd1.dn 107 (by decide)).le (show 398 + 1 ≤ 399 by decide)).dn 108 (by decide)
        have c108 := e108_ok (k108.le (by decide)) hrk.rm.1 p1 (c109 fv _ _ ((((k108.le (show 397 + 1 ≤ 398 by decide)).dn 109 (by decide)).le (by decide))))
        have c107 := e107_ok ((hd1.dn 107 (by decide)).le (by decide)) hrk.rm.1 c108
        have c203 := hrr L xs fv (2048 - 1) (84000 - (19 + z_pg.2.1 203)) c' A' E' N' V' W' g f6.rm.1 ((hd1.dn 203 (by decide)).le (by decide))
        exact b0_sw6 (law_6 (v := 0) hlv hrk.rm.1 f6.rm.1 c107 c203 x0 kk)
