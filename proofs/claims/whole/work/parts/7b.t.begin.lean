/-! A run begun by both. -/
theorem y_ty2 {d : z_Dd} (h4 : z_I4 d) (h8 : d.1.2.2.2.1 0 8 = 1) : (d.1.2.2.2.1 13 8 = 0 ∨ d.1.2.2.2.1 13 8 = 1) ↔ ¬ 2 ≤ d.2.1.2.2 41 92 := by
  rcases h4 with ⟨p1, -⟩ | ⟨p1, p2, p3, t, t', n, n', m, m', l, q1, q2, q3, q4, q5, q6, q7⟩
  · rw [h8] at p1
    exact absurd p1 (by decide)
  · have tm := (z_TC_hd q6).2
    have tm' := (z_TR_hd q7).2
    have hN := q3.1
    cases n with
    | zero => exact q6.elim
    | succ n =>
      cases n' with
      | zero => exact q7.elim
      | succ n' =>
        have key : (t < 3 ∧ t' = t) ∨ (3 ≤ t ∧ 3 ≤ t') := by
          rcases q6.2.2 with ⟨a1, a2⟩ | ⟨a1, x, y, e, l1, l2, -, -, -, a2, -⟩
          · rcases q7.2.2 with ⟨c1, c2⟩ | ⟨c1, x, y, e, l1, l2, -, -, -, c2, -⟩
            · rw [a2] at c2
              exact Or.inl ⟨a1, (List.cons.inj c2).1.symm⟩
            · rw [a2] at c2
              have := (List.cons.inj c2).1
              omega
          · rcases q7.2.2 with ⟨c1, c2⟩ | ⟨c1, -⟩
            · rw [a2] at c2
              have := (List.cons.inj c2).1
              omega
            · exact Or.inr ⟨a1, c1⟩
        have lt : t < 2 ^ 31 := by have := q6.1; omega
        have lt' : t' < 2 ^ 31 := by have := q7.1; omega
        rw [q1, q2]
        constructor
        · intro h q
          rcases h with h | h
          · have := (nI_eq (a := t) (b := 0) lt (by decide)).mp h
            exact nI_ge (a := t') (b := 2) (by omega) (by decide) q
          · have := (nI_eq (a := t) (b := 1) lt (by decide)).mp h
            exact nI_ge (a := t') (b := 2) (by omega) (by decide) q
        · intro h
          have : t' < 2 := by
            rcases Nat.lt_or_ge t' 2 with q | q
            · exact q
            · exact absurd (nI_le (a := 2) (b := t') q lt') h
          rcases (show t = 0 ∨ t = 1 by omega) with rfl | rfl
          · exact Or.inl rfl
          · exact Or.inr rfl
/-- the program that was read, ready to run -/
def y_Rd (b : Nat → Nat) (n : Nat) (τ : z_TT) (A1 B1 A2 : Nat → List (Nat × Int32)) (tt0 : z_F) (s m mo : Nat) (V : Nat → Nat → Int32) (U : Nat → Nat → Int32) : Prop := (V 13 6 = nI (s + 1) ∧ V 13 10 = nI mo ∧ mo ≤ 128 ∧ s ≤ 4600) ∧ (U 41 28 = nI m ∧ m < 600) ∧ z_fn 0 (A2 15) s = 0 ∧ (∀ j, j ≤ s → (z_ctx A1 j).2.length = 1 → (z_ctx A1 j).1.length ≤ mo) ∧ ∃ nn kk, nn ≤ 600 ∧ z_Ct b n 8 τ A1 B1 s (z_wx 0) ((0, nn), (0, kk)) m 0 s [] tt0
theorem y_ok {d : z_Dd} {b : Nat → Nat} {n : Nat} {S1 S2 : z_CS} {R1 R2 : z_RS} (h4 : z_I4 d) (h8 : d.1.2.2.2.1 0 8 = 1) (ok : z_Ok b n S1 R1 S2 R2) (a2 : ∀ k, (9 ≤ k ∧ k ≤ 12) ∨ (14 ≤ k ∧ k ≤ 19) ∨ (21 ≤ k ∧ k ≤ 23) → d.1.1 k = S2.1 k) (a3 : ∀ k, (9 ≤ k ∧ k ≤ 12) ∨ (14 ≤ k ∧ k ≤ 19) → d.1.2.2.1 k = S2.2.2.1 k) (a4 : ∀ k j, k = 8 ∨ k = 13 ∨ k = 20 → d.1.2.2.2.1 k j = S2.2.2.2.1 k j) (a5 : ∀ k, 44 ≤ k → k ≤ 79 → d.2.1.1 k = R2.1 k) (a6 : ∀ j, 6 ≤ j → j ≤ 75 → d.2.1.2.2 41 j = R2.2.2 41 j) : ∃ τ tt0 s m mo, y_Pg b n S1.1 R1.1 S2.1 (y_dS d) d.2.1 (s + 1) tt0 0 ∧ y_Rd b n τ S1.1 R1.1 S2.1 tt0 s m mo d.1.2.2.2.1 d.2.1.2.2 := by
  have ty := y_ty2 h4 h8
  obtain ⟨me, ep, j, t, τ, τ', s, nn, kk, ff, m, p, mo, hP, hcp, h27, ⟨p28, hs46, hkk, ha15⟩, ⟨tc, tr, tte⟩, hag, hrows, hmo, hctx, ⟨v10, mo128, q8, q9⟩, rk2, xkm, xu, f0, f12, hcw⟩ := ok
  have nn6 := hP.2.2.2.2.2.1.2.2
  have m6 : m < 600 := by
    have := (z_Cp.mem hcp).2
    have e : (((0, nn), (0, kk)) : z_Bd).1.2 = nn := rfl
    omega
  have e8 : d.1.2.2.2.1 13 8 = S2.2.2.2.1 13 8 := a4 13 8 (by decide)
  refine ⟨τ, z_shx τ' (S2.2.2.2.1 13 8), s, m, mo, ⟨⟨by omega, by omega, fun j hj => hag j (by omega), fun k hk => xkm.1 k (by omega) (by omega) (by omega), h27, fun k hk => hrows k (by omega) s (Nat.le_refl _)⟩, ⟨⟨by omega, fun k k1 k2 => ?_⟩, fun k k1 k2 => a2 k (by omega)⟩, fun k k1 k2 => (a5 k (by omega) (by omega)).trans (xu.1 k (by omega) (by omega)), ⟨?_, hP.1.1.2.1⟩, by decide, ?_, ?_⟩, ⟨?_, ?_, mo128, hs46⟩, ⟨?_, m6⟩, ?_, hmo, nn, kk, nn6, hcw s (by omega)⟩
  · show s + 1 ≤ d.1.2.2.1 k
    rw [a3 k (by omega), xkm.2.2.1 k (by omega)]
    exact hP.2.2.2.2.1.2 k k1 k2
  · rw [a5 44 (by decide) (by decide), xu.1 44 (by decide) (by decide)]
    exact hP.1.1.2.2.2.1
  · exact ty
  · intro h
    have h : d.1.2.2.2.1 13 8 = 0 ∨ d.1.2.2.2.1 13 8 = 1 := h
    rw [e8] at h
    rcases h with h | h
    · exact ⟨0, by decide, by rw [h]; exact z_shx_lo (t := 0) (by decide)⟩
    · exact ⟨1, by decide, by rw [h]; exact z_shx_lo (t := 1) (by decide)⟩
  · rw [a4 13 6 (by decide), xkm.2.2.2.1 13 6 (by decide) (by decide) (by decide)]
    exact hP.2.2.2.2.1.1
  · rw [a4 13 10 (by decide)]
    exact v10
  · rw [a6 28 (by decide) (by decide), xu.2.2 41 28 (by decide)]
    exact p28
  · rw [hrows 15 (by decide) s (Nat.le_refl _)]
    exact ha15
section YBG
variable {l : Nat} {S : z_CS} {R : z_RS} {Q : z_V → z_CS → Prop} {P : Option Value → z_RS → Prop}
set_option maxRecDepth 10000 in
theorem m109 {s mo : Nat} (h6 : S.2.2.2.1 13 6 = nI (s + 1)) (h10 : S.2.2.2.1 13 10 = nI mo) (mo128 : mo ≤ 128) (hs : s ≤ 4600) (hk : z_Rk S.2.2.1 S.2.2.2.2.2) (hw : S.2.2.2.2.1 < 107) (k : ∀ S', z_Mc S (4 + mo) 0 1 0 0 0 0 S' → z_mm S' 2 = 0 → z_mm S' 3 = -1 → z_rq S' 0 = nI s → Q (.inl none) S') : z_WC (l + 3) 109 0 [(0, .ref 145)] [] S Q := by
  obtain ⟨A, E, N, V, W, c⟩ := S
  have h6 : V 13 6 = nI (s + 1) := h6
  have h10 : V 13 10 = nI mo := h10
  have hk : z_Rk N c := hk
  have hrm : z_Rm ([], c) := hk.rm.1
  refine t109_0 (l := l + 2) ?_
  unfold p109_0
  refine ⟨hrm, t13_0 (l := l + 1) ?_⟩
  unfold p13_0
  refine ⟨rfl, ?_⟩
  show p109_4 (l + 2) A E N (z_V13 V) W c Q
  unfold p109_4
  have e6 : z_V13 V 13 6 - 1 = nI s := by
    rw [show z_V13 V 13 6 = nI (s + 1) from h6, nI_pred]
  rw [e6]
  refine ⟨hrm, ?_⟩
  have hM : z_Mc (A, E, N, V, W, c) 0 0 0 0 0 0 0 (A, E, N, z_v (z_v (z_v (z_v (z_v (z_V13 V) 38 7 1) 38 6 0) 38 2 0) 38 3 0) 38 5 0, W, c) := by
    refine ⟨⟨fun _ _ _ => rfl, rfl, fun _ _ _ => rfl, fun k j x => ?_, ⟨rfl, hw⟩, hk, z_Gw.rf⟩, ⟨Nat.zero_le _, Nat.zero_le _⟩, ⟨rfl, rfl, rfl, rfl⟩, ⟨rfl, rfl, rfl⟩, rfl, rfl, rfl⟩
    show z_v (z_v (z_v (z_v (z_v (z_v (z_v (z_v (z_v (z_v (z_v V 38 7 0) 38 8 0) 38 9 (-1)) 38 10 0) 38 11 0) 38 12 0) 38 7 1) 38 6 0) 38 2 0) 38 3 0) 38 5 0 k j = V k j
    rw [z_vn (fun e => x e.1), z_vn (fun e => x e.1), z_vn (fun e => x e.1), z_vn (fun e => x e.1), z_vn (fun e => x e.1), z_vn (fun e => x e.1), z_vn (fun e => x e.1), z_vn (fun e => x e.1), z_vn (fun e => x e.1), z_vn (fun e => x e.1), z_vn (fun e => x e.1)]
  refine m110 (mk := nI s) (sz := 1) hM (Nat.le_refl _) (by decide) (fun S1 h1 q1 q2 q3 q4 => ⟨nI 0, rfl, ?_⟩)
  unfold p109_43
  have e10 : S1.2.2.2.1 13 10 = nI mo := (h1.1.2.2.2.1 13 10 (by decide)).trans h10
  rw [e10]
  refine ⟨h1.rm, m111 (bk := 0) (rc := nI 0) (hd := -1) (rm := mo) h1 (Nat.le_refl _) (by omega) (fun S2 h2 w1 w2 w3 w4 w5 w6 => ⟨rfl, ?_⟩)⟩
  unfold p109_58
  have h2' : z_Mc (A, E, N, V, W, c) (4 + mo) 0 1 0 0 0 0 S2 := by
    have e : 0 + 4 + mo = 4 + mo := by omega
    rw [e] at h2
    exact h2
  exact k S2 h2' w4 w5 ((w6 0 (by decide)).trans q2)
/-- the reference's state when a run has begun -/
def y_Bg (R R' : z_RS) : Prop := R'.1 = R.1 ∧ R'.2.1 = R.2.1 ∧ (∀ a k, ¬ (a = 41 ∧ (k = 0 ∨ k = 77 ∨ (94 ≤ k ∧ k ≤ 105) ∨ k = 114 ∨ k = 122)) → R'.2.2 a k = R.2.2 a k) ∧ (R'.2.2 41 0 = 0 ∧ R'.2.2 41 77 = 0 ∧ R'.2.2 41 94 = 1 ∧ R'.2.2 41 96 = 0 ∧ R'.2.2 41 97 = 0 ∧ R'.2.2 41 98 = 0 ∧ R'.2.2 41 99 = 0 ∧ R'.2.2 41 100 = 0 ∧ R'.2.2 41 101 = -1 ∧ R'.2.2 41 104 = 0 ∧ R'.2.2 41 105 = 0 ∧ R'.2.2 41 114 = 0 ∧ R'.2.2 41 122 = -1 ∧ R'.2.2 41 102 = R.2.2 41 28 ∧ R'.2.2 41 103 = -1)
set_option maxRecDepth 10000 in
theorem r203 (h91 : R.2.2 41 91 = 1) (k : ∀ R', y_Bg R R' → P none R') : z_WR (l + 2) 203 0 [(0, .ref 148)] [] R P := by
  obtain ⟨B, M, U⟩ := R
  have h91 : U 41 91 = 1 := h91
  refine t203_0 (l := l + 1) ?_
  unfold p203_0
  rw [if_neg (by rw [h91]; decide)]
  unfold p203_8 p203_13
  rw [if_pos (by decide)]
  unfold p203_24
  refine t139_0 ?_
  unfold p139_0
  refine ⟨rfl, rfl, ?_⟩
  unfold p203_28
  refine k _ ⟨rfl, rfl, fun a q hq => ?_, rfl, rfl, rfl, rfl, rfl, rfl, rfl, rfl, rfl, rfl, rfl, rfl, rfl, rfl, rfl⟩
  show z_v (z_v (z_v (z_v (z_v (z_v (z_v (z_v (z_v (z_v (z_v (z_v (z_v (z_v (z_v U 41 0 0) 41 96 0) 41 97 0) 41 98 0) 41 99 0) 41 100 0) 41 101 (-1)) 41 114 0) 41 104 0) 41 105 0) 41 94 1) 41 77 0) 41 122 (-1)) 41 102 (U 41 28)) 41 103 (-1) a q = U a q
  rw [z_vn (fun e => hq ⟨e.1, by omega⟩), z_vn (fun e => hq ⟨e.1, by omega⟩), z_vn (fun e => hq ⟨e.1, by omega⟩), z_vn (fun e => hq ⟨e.1, by omega⟩), z_vn (fun e => hq ⟨e.1, by omega⟩), z_vn (fun e => hq ⟨e.1, by omega⟩), z_vn (fun e => hq ⟨e.1, by omega⟩), z_vn (fun e => hq ⟨e.1, by omega⟩), z_vn (fun e => hq ⟨e.1, by omega⟩), z_vn (fun e => hq ⟨e.1, by omega⟩), z_vn (fun e => hq ⟨e.1, by omega⟩), z_vn (fun e => hq ⟨e.1, by omega⟩), z_vn (fun e => hq ⟨e.1, by omega⟩), z_vn (fun e => hq ⟨e.1, by omega⟩), z_vn (fun e => hq ⟨e.1, by omega⟩)]
theorem r203n (h91 : R.2.2 41 91 = 0) (k : P none (R.1, R.2.1, z_v R.2.2 41 0 1)) : z_WR (l + 1) 203 0 [(0, .ref 148)] [] R P := by
  obtain ⟨B, M, U⟩ := R
  have h91 : U 41 91 = 0 := h91
  refine t203_0 ?_
  unfold p203_0
  rw [if_pos h91]
  unfold p203_12 p203_13
  rw [if_neg (by decide)]
  unfold p203_23
  exact k
/-- both have begun -/
theorem y_begin {b : Nat → Nat} {n : Nat} {τ : z_TT} {A1 B1 A2 : Nat → List (Nat × Int32)} {tt0 : z_F} {s m mo : Nat} {S' : z_CS} {R' : z_RS} {V : Nat → Nat → Int32} {U : Nat → Nat → Int32} (hrd : y_Rd b n τ A1 B1 A2 tt0 s m mo V U) (hU : R.2.2 41 28 = U 41 28) (hM : z_Mc S (4 + mo) 0 1 0 0 0 0 S') (m2 : z_mm S' 2 = 0) (m3 : z_mm S' 3 = -1) (r0 : z_rq S' 0 = nI s) (hR : y_Bg R R') : y_W b n τ A1 B1 A2 S R' (s + 1) tt0 0 0 s 16000000 S' R' := by
  obtain ⟨⟨v6, v10, mo128, s46⟩, ⟨u28, m6⟩, a15, hmo, nn, kk, nn6, hct⟩ := hrd
  obtain ⟨e1, e2, e3, ⟨x0, x77, x94, x96, x97, x98, x99, x100, x101, x104, x105, x114, x122, x102, x103⟩⟩ := hR
  have rg := z_Ct.rg hct
  have w0 : z_wx 0 = 50200 := z_wxe 0
  have fr : y_Fr A1 A2 (s + 1) (z_rq S') 1 [] (z_mm S') (4 + mo) 0 (0, 0, [], mo, 0, s) := ⟨⟨by show 0 + 4 + mo ≤ 4 + mo; omega, mo128⟩, m2, ⟨s, r0, Nat.lt_succ_self s, a15⟩, Nat.le_refl _, fun k _ q => (by cases q), fun j _ j2 j3 => by show (z_ctx A1 j).1.length ≤ 0 + mo; rw [Nat.zero_add]; exact hmo j j2 j3⟩
  refine ⟨4 + mo, 0, 1, 0, 0, 0, 0, [], [], fun _ => False, fun _ => 0, fun _ => z_bz 0, 0, [], fun _ => [], fun _ => [], fun _ => 0, fun _ => 0, 0, 0, 0, m, s, [], tt0, z_wx 0, ((0, nn), (0, kk)), -1, (0, 0, [], mo, 0, s), 0, 0, [], ⟨hM, ⟨⟨fun _ _ => rfl, rfl, fun _ _ _ => rfl⟩, ⟨x96, x97, x98, x99, x100, x114, x94⟩, ⟨by decide, by decide, by decide, by decide, Nat.zero_le _, Nat.le_refl _, Nat.le_refl _⟩, ⟨fun f hf => absurd hf (Nat.not_lt_zero _), fun f f' _ hf => absurd hf (Nat.not_lt_zero _), fun f hf => absurd hf (Nat.not_lt_zero _), fun x hx => (by cases hx)⟩, ⟨trivial, ⟨x103, Nat.zero_le _⟩, fun e he => (by cases he), [], Nat.zero_le _, fun e he => (by cases he)⟩, ⟨⟨0, [], ⟨x77, Nat.zero_le _, x122, List.nodup_nil, fun c hc => (by cases hc)⟩, fun c hc => hc.elim⟩, fun c hc => (by cases hc), fun e he => (by cases he), fun f hf => absurd hf (Nat.not_lt_zero _)⟩⟩, rfl, ⟨rfl, Nat.le_refl _⟩, by show 4601 - 0 + 0 + 0 + 4601 * 0 + 4601 * (1000 - 0) ≤ 16000000; decide⟩, ⟨x94, x105, (x102.trans hU).trans u28, x103, m6⟩, ⟨hct, Nat.lt_succ_self s⟩, ⟨rfl, Nat.le_refl _, Nat.le_refl _, Nat.le_refl _⟩, rfl, ⟨?_, ?_, ?_, ?_, nn6⟩, ⟨[], rfl⟩, 0, s, rfl, rfl, rfl, rfl, rfl, rfl, rfl, by show 4 + mo = 0 + 4 + mo; omega, fr⟩
  · show 2 * 0 + (nn - 0) ≤ 600 + 0
    omega
  · rw [w0]
    decide
  · rw [w0]
    show 4 + mo + 50200 % 1000 ≤ 0 + 4 + mo + 200
    omega
  · rw [w0]
    show 2 * 0 + 50200 % 1000 ≤ 200
    decide
end YBG
