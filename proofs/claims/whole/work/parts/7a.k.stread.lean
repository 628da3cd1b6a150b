/-! The law's step of read; what holds between the calls. -/
section ZAK
variable {L : Nat} {xs : Nat → Int32} {fv : Value} {f w : Nat} {c : Nat × Nat} {o : z_V} {T' : z_Y} {A : Nat → List (Nat × Int32)} {E : List (Nat × Option Nat)} {N : Nat → Nat} {V : Nat → Nat → Int32} {W : Nat} {g : List z_E} {B : Nat → List (Nat × Int32)} {M : Nat → List (Nat × Int64)} {U : Nat → Nat → Int32} {A1 : Nat → List (Nat × Int32)} {E1 : List (Nat × Option Nat)} {N1 : Nat → Nat} {V1 : Nat → Nat → Int32} {W1 : Nat} {M1 : Nat → List (Nat × Int64)} {g1 : List z_E} {c1 : Nat × Nat} {B2 : Nat → List (Nat × Int32)} {M2 : Nat → List (Nat × Int64)} {U2 : Nat → Nat → Int32} {i : Nat} {v b : Int32}
theorem z_lg0 (x : Int64) : lg_cmp x x = 0 := by
  have h1 : lg_cmp x x ≤ 0 := (lg_cmp_le _ _).mpr (Int64.le_refl _)
  have h2 : 0 ≤ lg_cmp x x := (lg_cmp_ge _ _).mpr (Int64.le_refl _)
  exact Int32.le_antisymm h1 h2
set_option maxRecDepth 10000 in
theorem law_2 (hl : z_Lv 400 f w) (hRm : z_Rm ([], c)) (hRm1 : z_Rm ([], c1))
    (hc : z_Ln L xs fv (f - 1) (w - (19 + z_pg.2.1 27)) 27 0 [(0, .ref 107), (1, .ref 233)] [] (hC A E N V W ++ (hR B M U ++ g), c) (.inl (some (.int v))) (hC A1 E1 N1 V1 W1 ++ (hR B M1 U ++ g1), c1))
    (hc2 : z_Ln L xs fv (f - 1) (w - (19 + z_pg.2.1 138)) 138 0 [(0, .ref 148)] [] (hC A1 E1 N1 V1 W1 ++ (hR B M1 U ++ g1), c1) (.inl (some (.int b))) (hC A1 E1 N1 V1 W1 ++ (hR B2 M2 U2 ++ g1), c1))
    (h0 : U2 41 0 = v) (hv : ¬ v = 0 ∨ z_fn 0 (M2 126) 0 = b.toInt64)
    (kk : z_Ln L xs fv f w 0 412 (z_LV i) [] (hC A1 E1 N1 V1 W1 ++ (hR B2 M2 U2 ++ g1), c1) o T') : z_Ln L xs fv f w 0 188 (z_LV i) [] (hC A E N V W ++ (hR B M U ++ g), c) o T' := by
  have hl3 : z_Lv 3 f w := hl.le (by decide)
  refine b0_188 (z_Ln.call (s := 0) (mj := 27) (as := [.ref 107, .ref 233]) (rr := []) (v := some (.int v)) (T1 := (hC A1 E1 N1 V1 W1 ++ (hR B M1 U ++ g1), c1)) rfl rfl (z_cq hl3 (by decide) (by decide : (0 : Nat) ≤ 8) (by decide +kernel : (2 : Nat) ≤ z_pg.2.1 27)) hRm hc ⟨trivial, trivial, z_smO, z_smM, z_smX, z_smS, trivial⟩ ?_)
  refine b0_193 (z_Ln.call (s := 0) (mj := 138) (as := [.ref 148]) (rr := []) (v := some (.int b)) (T1 := (hC A1 E1 N1 V1 W1 ++ (hR B2 M2 U2 ++ g1), c1)) rfl rfl (z_cq hl3 (by decide) (by decide : (0 : Nat) ≤ 8) (by decide +kernel : (1 : Nat) ≤ z_pg.2.1 138)) hRm1 hc2 ⟨trivial, trivial, trivial, z_smO, z_smM, z_smX, z_smS, trivial⟩ ?_)
  refine b0_199 (z_Ln.call (s := 0) (mj := 135) (as := [.ref 148]) (rr := []) (v := some (.int (U2 41 0))) (T1 := (hC A1 E1 N1 V1 W1 ++ (hR B2 M2 U2 ++ g1), c1)) rfl rfl (z_cq hl3 (by decide) (by decide : (0 : Nat) ≤ 8) (by decide +kernel : (1 : Nat) ≤ z_pg.2.1 135)) hRm1 (b135_0 (z_Ln.ret rfl z_retI)) ⟨trivial, trivial, trivial, trivial, z_smO, z_smM, z_smX, z_smS, trivial⟩ ?_)
  have fin : z_Ln L xs fv f w 0 229 [(6, .int b), (5, .int v), (4, .int (nI i)), (3, .ref 233), (2, .ref 148), (1, .ref 107), (0, .ref 39)] [] (hC A1 E1 N1 V1 W1 ++ (hR B2 M2 U2 ++ g1), c1) o T' := by
    refine b0_229 ?_
    exact z_Ln.lv (z_le.cons rfl rfl (z_le.cons rfl rfl (z_le.cons rfl rfl (z_le.cons rfl rfl (z_le.cons rfl rfl z_le.nil))))) kk
  refine b0_205t h0 ?_
  by_cases v0 : v = 0
  · refine b0_212f (fun q => q v0) (b0_217t ?_ fin)
    rcases hv with q | q
    · exact absurd v0 q
    · rw [q]
      exact z_lg0 _
  · exact b0_212t v0 fin
end ZAK
theorem z_pig : ∀ (m n : Nat) (p : Nat → Nat), (∀ i, i < n → p i < m) → (∀ i j, i < n → j < n → p i = p j → i = j) → n ≤ m := by
  intro m
  induction m with
  | zero =>
    intro n p h1 _
    cases n with
    | zero => exact Nat.le_refl _
    | succ n => exact absurd (h1 0 (Nat.succ_pos _)) (Nat.not_lt_zero _)
  | succ m ih =>
    intro n p h1 h2
    cases n with
    | zero => exact Nat.zero_le _
    | succ n =>
      refine Nat.succ_le_succ (ih n (fun i => if p i = m then p n else p i) (fun i hi => ?_) (fun i j hi hj e => ?_))
      · show (if p i = m then p n else p i) < m
        have a := h1 i (by omega)
        have b := h1 n (by omega)
        by_cases c : p i = m
        · rw [if_pos c]
          by_cases d : p n = m
          · have := h2 i n (by omega) (by omega) (c.trans d.symm)
            omega
          · omega
        · rw [if_neg c]
          omega
      · have e : (if p i = m then p n else p i) = (if p j = m then p n else p j) := e
        by_cases c : p i = m
        · by_cases d : p j = m
          · exact h2 i j (by omega) (by omega) (c.trans d.symm)
          · rw [if_pos c, if_neg d] at e
            have := h2 n j (by omega) (by omega) e
            omega
        · by_cases d : p j = m
          · rw [if_neg c, if_pos d] at e
            have := h2 i n (by omega) (by omega) e
            omega
          · rw [if_neg c, if_neg d] at e
            exact h2 i j (by omega) (by omega) e
/-- the cells that are spoken of were made -/
theorem z_Ln.fit {L : Nat} {xs : Nat → Int32} {f w mi pc : Nat} {lv : List (Nat × Value)} {st : List Value} {T T' : z_Y} {o : z_V} (h : z_Ln L xs .null f w mi pc lv st T o T') (hl : T.1.length ≤ T.2.1) : T'.1.length ≤ T'.2.1 := by
  obtain ⟨-, -, r1⟩ := h (Or.inl rfl)
  obtain ⟨S, hS⟩ : ∃ S : z_S, S = (T.1 ++ List.replicate (T.2.1 - T.1.length) (.inr (0, [])), T.2.2) := ⟨_, rfl⟩
  have sim : z_Sim 107 (fun k => k) T.1 S := by
    refine ⟨fun k e hk => ?_, fun i j _ _ h => h⟩
    rw [hS, z_mE_id]
    show (T.1 ++ _)[k]? = some e
    rw [List.getElem?_append_left (List.getElem?_eq_some_iff.mp hk).1]
    exact hk
  have sl : S.1.length = T.2.1 := by
    rw [hS]
    show (T.1 ++ List.replicate (T.2.1 - T.1.length) _).length = _
    rw [List.length_append, List.length_replicate]
    omega
  have ss : S.2 = T.2.2 := by rw [hS]
  obtain ⟨p1, S1, o1, ⟨s1, s2, -⟩, -, -, -⟩ := r1 _ S sim sl ss
  rw [← s2]
  refine z_pig _ _ p1 (fun i hi => ?_) s1.2
  have e : T'.1[i]? = some T'.1[i] := List.getElem?_eq_getElem hi
  exact (List.getElem?_eq_some_iff.mp (s1.1 i _ e)).1
/-- what holds between the calls, but for the program and its run -/
def z_Ib (i : Nat) (d : z_Dd) : Prop := z_I1 d ∧ z_I2 d ∧ z_I3 d ∧ z_I4 d ∧ z_I8 d ∧ (z_Gn d.2.2.1 ∧ 127 + d.2.2.1.length ≤ d.2.2.2.1) ∧ d.1.2.2.2.2 < 107 ∧ z_Ky (d.2.1.1 45) ∧ z_Nb d.1.2.2.1 ∧ (64 * d.2.2.2.1 ≤ 8128 + 64 * i + z_Pt d.1.2.2.1 ∧ d.2.2.2.2 ≤ 3005623 + 6 * i + 2 * z_Pt d.1.2.2.1)
/-- the program that was read -/
def z_I5 (d : z_Dd) : Prop := d.1.2.2.2.1 0 8 = 0 ∨ (d.1.2.2.2.1 0 8 = 1 ∧ ∃ (b : Nat → Nat) (n : Nat) (S1 : z_CS) (R1 : z_RS) (S2 : z_CS) (R2 : z_RS), z_Ok b n S1 R1 S2 R2 ∧ (∀ k, (9 ≤ k ∧ k ≤ 12) ∨ (14 ≤ k ∧ k ≤ 19) ∨ (21 ≤ k ∧ k ≤ 23) → d.1.1 k = S2.1 k) ∧ (∀ k, (9 ≤ k ∧ k ≤ 12) ∨ (14 ≤ k ∧ k ≤ 19) → d.1.2.2.1 k = S2.2.2.1 k) ∧ (∀ k j, k = 8 ∨ k = 13 ∨ k = 20 → d.1.2.2.2.1 k j = S2.2.2.2.1 k j) ∧ (∀ k, 44 ≤ k → k ≤ 79 → d.2.1.1 k = R2.1 k) ∧ (∀ j, 6 ≤ j → j ≤ 75 → d.2.1.2.2 41 j = R2.2.2 41 j))
theorem z_Ib.rk {i : Nat} {d : z_Dd} (h : z_Ib i d) (hi : i ≤ 3078) : z_Rk d.1.2.2.1 d.2.2.2 := ⟨h.2.2.2.2.2.2.2.2.1, by have := h.2.2.2.2.2.2.2.2.2.1; omega, by have := h.2.2.2.2.2.2.2.2.2.2; omega⟩
theorem z_Ib.rm {i : Nat} {d : z_Dd} (h : z_Ib i d) (hi : i ≤ 3078) : z_Rm (z_H d) := (h.rk hi).rm.1
theorem z_Ib.sm {i : Nat} {d d' : z_Dd} (h : z_Ib i d) (hf : z_Fx d d') (h1 : z_I1 d') (h2 : z_I2 d') : z_Ib (i + 6) d' := by
  obtain ⟨-, -, a3, a4, a8, aG, aW, aK, aN, aR⟩ := h
  obtain ⟨f1, f2, f3, f4, f5, f6, f7, f8, f9⟩ := id hf
  refine ⟨h1, h2, a3.sm hf, a4.sm hf, a8.sm hf, ?_, ?_, ?_, ?_, ?_⟩
  · rw [f9]
    exact aG
  · rw [f5]
    exact aW
  · rw [f6 45 (by decide) (by decide)]
    exact aK
  · rw [f3]
    exact aN
  · rw [f3, f9]
    constructor <;> omega
theorem z_I5.sm {d d' : z_Dd} (hf : z_Fx d d') (h : z_I5 d) : z_I5 d' := by
  obtain ⟨f1, f2, f3, f4, f5, f6, f7, f8, f9⟩ := hf
  rcases h with h | ⟨h, b, n, S1, R1, S2, R2, a1, a2, a3, a4, a5, a6⟩
  · exact Or.inl ((f4 0 8 (by decide)).trans h)
  · refine Or.inr ⟨(f4 0 8 (by decide)).trans h, b, n, S1, R1, S2, R2, a1, fun k q => (f1 k (by omega) (by omega)).trans (a2 k q), fun k q => by rw [f3]; exact a3 k q, fun k j q => (f4 k j (by omega)).trans (a4 k j q), fun k q1 q2 => (f6 k (by omega) (by omega)).trans (a5 k q1 q2), fun j q1 q2 => (f8 41 j (by omega)).trans (a6 j q1 q2)⟩
section ZAK2
variable {L : Nat} {xs : Nat → Int32} {i : Nat}
theorem z_hl (hi : i + 6 ≤ L) (hL : L ≤ 3072) : i ≤ 3078 := by omega
set_option maxRecDepth 100000 in
set_option maxHeartbeats 1000000 in
theorem st_read (hi : i + 6 ≤ L) (hL : L ≤ 3072) (hop : xs i &&& 15 = 2) {d : z_Dd} (h : z_Ib i d) : ∃ d', z_Ib (i + 6) d' ∧ z_I5 d' ∧ (d'.1.2.2.2.1 38 7 = 0 ∧ d'.2.1.2.2 41 94 = 0) ∧ z_St L xs i d d' := by
  have hrk := h.rk (z_hl hi hL)
  obtain ⟨⟨A, E, N, V, W⟩, ⟨B, M, U⟩, g, c⟩ := d
  obtain ⟨h1, ⟨len, hlen, hV, hU, ht⟩, h3, h4, h8, ⟨hG, hGl⟩, hW, hKy, hNb, ⟨hc1, hc2⟩⟩ := h
  have hrk : z_Rk N c := hrk
  have hW : W < 107 := hW
  have hG : z_Gn g := hG
  have hGl : 127 + g.length ≤ c.1 := hGl
  have hc1 : 64 * c.1 ≤ 8128 + 64 * i + z_Pt N := hc1
  have hc2 : c.2 ≤ 3005623 + 6 * i + 2 * z_Pt N := hc2
  have hr2 : c.1 + 200 ≤ 10000 + z_Pt N / 64 ∧ c.2 + 2000 ≤ 3100000 + 2 * z_Pt N := by omega
  have hcdG : ∀ A' E' N' V' W', W' < 107 → z_cd (hC A' E' N' V' W' ++ (hR B M U ++ g)) := fun A' E' N' V' W' q => z_cdH q hG
  have hlv : z_Lv 400 2048 84000 := ⟨by decide, by decide⟩
  -- what is left, said of the state behind
  have inv : ∀ (Mx : Nat → List (Nat × Int64)) (S' : z_CS) (R' : z_RS) (g' : List z_E), z_Rda A N c B Mx S' R' → z_Gn g' → 127 + g'.length ≤ S'.2.2.2.2.2.1 → z_I4 ((S'.1, S'.2.1, S'.2.2.1, S'.2.2.2.1, S'.2.2.2.2.1), (R'.1, R'.2.1, R'.2.2), g', S'.2.2.2.2.2) → z_Ib (i + 6) ((S'.1, S'.2.1, S'.2.2.1, S'.2.2.2.1, S'.2.2.2.2.1), (R'.1, R'.2.1, R'.2.2), g', S'.2.2.2.2.2) := by
    intro Mx S' R' g' hd hg' hgl hi4
    obtain ⟨⟨d1, d2, d3⟩, ⟨d4, d5, d6, d7, d8, d9⟩, ⟨d10, d11, d12⟩, ⟨d13, d14, d15⟩, ⟨d16, d17, d18, d19, d20, d21⟩, d22, d23⟩ := hd
    refine ⟨fun j hj => ?_, ⟨0, by decide, d2, d16, fun j hj => absurd hj (Nat.not_lt_zero _)⟩, ⟨d22, d23⟩, hi4, ?_, ⟨hg', hgl⟩, d3, ?_, d10, ?_, ?_⟩
    · show z_bp (z_fn 0 (S'.1 1) j) (z_fn 0 (R'.1 42) j)
      rw [d1, d13]
      exact h1 j hj
    · show S'.2.2.2.1 38 7 = R'.2.2 41 94 ∧ S'.2.2.2.1 38 8 = (if R'.2.2 41 94 = 2 ∧ ¬ 2 ≤ R'.2.2 41 92 then R'.2.2 41 104 else 0) ∧ S'.2.2.2.1 38 10 = R'.2.2 41 98 ∧ S'.2.2.2.1 38 11 = R'.2.2 41 99 ∧ S'.2.2.2.1 38 12 = R'.2.2 41 100 ∧ S'.2.2.2.1 38 9 = (if R'.2.2 41 94 = 4 then R'.2.2 41 101 else -1)
      rw [d4, d5, d6, d7, d8, d9, d17, d18, d19, d20]
      exact ⟨rfl, rfl, rfl, rfl, rfl, rfl⟩
    · show z_Ky (R'.1 45)
      rw [d14]
      exact hKy
    · show 64 * S'.2.2.2.2.2.1 ≤ 8128 + 64 * (i + 6) + z_Pt S'.2.2.1
      omega
    · show S'.2.2.2.2.2.2 ≤ 3005623 + 6 * (i + 6) + 2 * z_Pt S'.2.2.1
      omega
  rcases jread (L := L) (xs := xs) (G := hR B M U ++ g) (A := A) (E := E) (N := N) (V := V) (W := W) (c := c) (B := B) (M := M) (U := U) (z_GokR hG) hcdG hlen hV hU ht hKy hrk hr2 hW with ⟨S0, R0, k0, -, cok0, -⟩ | ⟨S', R', cno, rr, rda, rdb⟩
  · -- a program: once more, with what the law keeps
    obtain ⟨M1, hM1⟩ : ∃ X, X = z_u M 126 ((0, (nI k0).toInt64) :: M 126) := ⟨_, rfl⟩
    rcases jread (L := L) (xs := xs) (G := hR B M U ++ g) (A := A) (E := E) (N := N) (V := V) (W := W) (c := c) (B := B) (M := M1) (U := U) (z_GokR hG) hcdG hlen hV hU ht hKy hrk hr2 hW with ⟨S', R', k, k6, cok, rr, rda, rdg⟩ | ⟨S', R', cno, -⟩
    · have hk : nI k = nI k0 := by
        have q := z_Ln.det (cok0 .null 2048 84000 (hlv.le (by decide))) (cok .null 2048 84000 (hlv.le (by decide))) (by
          show (hC A E N V W ++ (hR B M U ++ g)).length ≤ c.1
          rw [List.length_append, List.length_append]
          have e1 : (hC A E N V W).length = 41 := rfl
          have e2 : (hR B M U).length = 86 := rfl
          omega)
        exact Value.int.inj (Option.some.inj (Sum.inl.inj q))
      have mono : c.1 ≤ S'.2.2.2.2.2.1 := by
        obtain ⟨q, -, -⟩ := cok .null 2048 84000 (hlv.le (by decide)) (Or.inl rfl)
        exact q
      obtain ⟨⟨g1, g2, g3⟩, b, n, S1, R1, S2, R2, ok, ⟨s1, s2, s3⟩, ⟨r1, r2⟩, root, root6, u28, u92, u93, Tr, mr, tyr, h110⟩ := rdg
      obtain ⟨me, ep, j, t, τ, τ', s, nn, kk, ff, m, p, mo, hP, hcp, h27, ⟨p28, hs46, hkk, -⟩, ⟨tc, tr, tte⟩, -, -, -, -, ⟨-, -, q8, q9⟩, rk2, xkm, xu, f0, f12, -⟩ := id ok
      have em : m = root := by
        have e1 : R2.2.2 41 28 = nI m := (xu.2.2 41 28 (by decide)).trans p28
        have m6 : m < 600 := by
          have := (z_Cp.mem hcp).2
          have := hP.2.2.2.2.2.1.2.2
          have e : (((0, nn), (0, kk)) : z_Bd).1.2 = nn := rfl
          omega
        exact (nI_eq (by omega) (by omega)).mp (e1.symm.trans u28)
      have et : mr = τ'.2.2 ∧ ∀ q, 3 ≤ q → q < mr → Tr q = τ'.2.1 q := by
        have e1 : nI mr = nI τ'.2.2 := tyr.2.2.1.symm.trans tr.2.2.1
        have e2 : mr = τ'.2.2 := (nI_eq (by have := tyr.2.1; omega) (by have := tr.2.1; omega)).mp e1
        refine ⟨e2, fun q q3 qm => ?_⟩
        obtain ⟨x1, x2, x3⟩ := tyr.2.2.2 q q3 qm
        obtain ⟨y1, y2, y3⟩ := tr.2.2.2 q q3 (by omega)
        obtain ⟨z1, z2, -⟩ := tyr.1.2 q q3 qm
        obtain ⟨w1, w2, -⟩ := tr.1.2 q q3 (by omega)
        have b1 := tyr.2.1
        exact Prod.ext ((nI_eq (by omega) (by omega)).mp (x1.symm.trans y1)) (Prod.ext ((nI_eq (by omega) (by omega)).mp (x2.symm.trans y2)) (x3.symm.trans y3))
      obtain ⟨t1, t1', e1, e2, l1, l2, hdt, -⟩ := q8
      refine ⟨((S'.1, S'.2.1, S'.2.2.1, S'.2.2.2.1, S'.2.2.2.2.1), (R'.1, R'.2.1, R'.2.2), g, S'.2.2.2.2.2), ?_, ?_, ⟨rda.2.1.1, rda.2.2.2.2.1.2.1⟩, ?_⟩
      · refine inv M1 S' R' g rda hG (by omega) (Or.inr ⟨g1, g2, ?_, t1, t1', t1 + 1, t1' + 1, τ'.1.2, τ'.2.2, z_dt τ'.1.1 t1, ?_, ?_, ?_, tr.2.1, ?_, ?_, ?_⟩)
        · show S'.2.2.2.1 13 9 = R'.2.2 41 93
          rw [s3 13 9 (by decide) (by decide), q9, u93, em]
        · show S'.2.2.2.1 13 8 = nI t1
          rw [s3 13 8 (by decide) (by decide)]
          exact e1
        · show R'.2.2 41 92 = nI t1'
          rw [u92, ← em]
          exact e2
        · show z_Tn S'.2.2.1 τ'.1.2
          rw [s2]
          have nb : ∀ q, z_gk q = true → S2.2.2.1 q < 2 ^ 31 := fun q hq => by
            have := (rk2.1 q hq).2
            have := z_mxl_b q
            omega
          exact ⟨⟨tc.2.2.2.1.1, nb 9 rfl⟩, ⟨tc.2.2.2.1.2.1, nb 10 rfl⟩, ⟨tc.2.2.2.1.2.2.1, nb 11 rfl⟩, tc.2.2.2.1.2.2.2, nb 12 rfl⟩
        · have q := z_Tv.len tc.1 tc.2.1.2 t1 l1
          have := tc.2.1.1
          omega
        · show z_TC (S'.1 9) (S'.1 10) (S'.1 11) (S'.1 12) τ'.1.2 (t1 + 1) t1 (z_dt τ'.1.1 t1)
          rw [s1]
          exact tc.tc (t1 + 1) t1 (Nat.lt_succ_self _) l1
        · show z_TR (R'.1 46) (R'.1 47) (R'.1 48) (R'.2.1 110) τ'.2.2 (t1' + 1) t1' (z_dt τ'.1.1 t1)
          rw [r1, hdt]
          have hlen2 : (z_dt τ'.2.1 t1').length < 2 ^ 31 := by
            rw [← hdt]
            have q := z_Tv.len tc.1 tc.2.1.2 t1 l1
            have := tc.2.1.1
            omega
          refine tr.tr (fun q hq => ?_) (t1' + 1) t1' (Nat.lt_succ_self _) l2 hlen2
          rw [h110 q (by rw [et.1]; exact hq), z_dt_e tr.1 (fun a a3 am => et.2 a a3 (by rw [et.1]; exact am)) hq]
      · exact Or.inr ⟨g1, b, n, S1, R1, S2, R2, ok, fun q _ => by show S'.1 q = _; rw [s1], fun q _ => by show S'.2.2.1 q = _; rw [s2], fun q x hq => s3 q x (by omega) (by omega), fun q _ _ => by show R'.1 q = _; rw [r1], fun x a e => r2 x (by omega) (by omega)⟩
      · intro fv o T' kk
        refine b0_33 (z_i0 hi hL) ?_
        rw [z_xi (xs := xs) hi hL, hop]
        have hd27 := hlv.le (show 399 + 1 ≤ 400 by decide)
        have c28 := cok fv (2048 - 1 - 1) (84000 - (19 + z_pg.2.1 27) - (19 + z_pg.2.1 28)) ((((hd27.dn 27 (by decide)).le (show 398 + 1 ≤ 399 by decide)).dn 28 (by decide)).le (by decide))
        have c27 := e27_ok (B := B) (M := M) (U := U) (g := g) (v := nI k) ((hd27.dn 27 (by decide)).le (by decide)) hrk.rm.1 c28
        rw [hk, ← hM1] at c27
        have hrm1 : z_Rm ([], S'.2.2.2.2.2) := by
          have d10 := rda.2.2.1.1
          have d11 := rda.2.2.1.2.1
          have d12 := rda.2.2.1.2.2
          have pb := z_Pt_b d10
          exact ⟨by show S'.2.2.2.2.2.1 ≤ 601024; omega, by show S'.2.2.2.2.2.2 ≤ 7293034; omega⟩
        have c138 := rr L xs fv (2048 - 1) (84000 - (19 + z_pg.2.1 138)) S'.2.2.2.2.2 S'.1 S'.2.1 S'.2.2.1 S'.2.2.2.1 S'.2.2.2.2.1 g hrm1 ((hd27.dn 138 (by decide)).le (by decide))
        refine b0_sw2 (law_2 (v := 0) (b := nI k) hlv hrk.rm.1 hrm1 c27 c138 g3 (Or.inr ?_) kk)
        rw [rda.2.2.2.1.2.2 126 (by decide) (by decide), hM1, z_uk, z_fcs, hk]
    · exfalso
      have q := z_Ln.det (cok0 .null 2048 84000 (hlv.le (by decide))) (cno .null 2048 84000 (hlv.le (by decide))) (by
        show (hC A E N V W ++ (hR B M U ++ g)).length ≤ c.1
        rw [List.length_append, List.length_append]
        have e1 : (hC A E N V W).length = 41 := rfl
        have e2 : (hR B M U).length = 86 := rfl
        omega)
      cases q
  · -- a fault
    have hd27 := hlv.le (show 399 + 1 ≤ 400 by decide)
    have c27 : ∀ fv : Value, z_Ln L xs fv (2048 - 1) (84000 - (19 + z_pg.2.1 27)) 27 0 [(0, .ref 107), (1, .ref 233)] [] (hC A E N V W ++ (hR B M U ++ g), c) (.inl (some (.int 1))) (hC S'.1 S'.2.1 S'.2.2.1 S'.2.2.2.1 S'.2.2.2.2.1 ++ (hR B M U ++ ((g ++ [.inr (10, [])]) ++ [.inr (10, [])])), S'.2.2.2.2.2) := by
      intro fv
      have c28 := cno fv (2048 - 1 - 1) (84000 - (19 + z_pg.2.1 27) - (19 + z_pg.2.1 28)) ((((hd27.dn 27 (by decide)).le (show 398 + 1 ≤ 399 by decide)).dn 28 (by decide)).le (by decide))
      rw [List.append_assoc] at c28
      exact e27_no ((hd27.dn 27 (by decide)).le (by decide)) hrk.rm.1 (z_cdH rda.1.2.2 (hG.snoc 10)) c28
    have fit := (c27 .null).fit (by
      show (hC A E N V W ++ (hR B M U ++ g)).length ≤ c.1
      rw [List.length_append, List.length_append]
      have e1 : (hC A E N V W).length = 41 := rfl
      have e2 : (hR B M U).length = 86 := rfl
      omega)
    have fit : 127 + ((g ++ [(.inr (10, []) : z_E)]) ++ [(.inr (10, []) : z_E)]).length ≤ S'.2.2.2.2.2.1 := by
      have q : (hC S'.1 S'.2.1 S'.2.2.1 S'.2.2.2.1 S'.2.2.2.2.1 ++ (hR B M U ++ ((g ++ [(.inr (10, []) : z_E)]) ++ [(.inr (10, []) : z_E)]))).length ≤ S'.2.2.2.2.2.1 := fit
      rw [List.length_append (as := hC _ _ _ _ _), List.length_append (as := hR _ _ _)] at q
      have e1 : (hC S'.1 S'.2.1 S'.2.2.1 S'.2.2.2.1 S'.2.2.2.2.1).length = 41 := rfl
      have e2 : (hR B M U).length = 86 := rfl
      omega
    refine ⟨((S'.1, S'.2.1, S'.2.2.1, S'.2.2.2.1, S'.2.2.2.2.1), (R'.1, R'.2.1, R'.2.2), (g ++ [.inr (10, [])]) ++ [.inr (10, [])], S'.2.2.2.2.2), inv M S' R' _ rda ((hG.snoc 10).snoc 10) fit (Or.inl ⟨rdb.1, rdb.2.1⟩), Or.inl rdb.1, ⟨rda.2.1.1, rda.2.2.2.2.1.2.1⟩, ?_⟩
    intro fv o T' kk
    refine b0_33 (z_i0 hi hL) ?_
    rw [z_xi (xs := xs) hi hL, hop]
    have hrm1 : z_Rm ([], S'.2.2.2.2.2) := by
      have d10 := rda.2.2.1.1
      have d11 := rda.2.2.1.2.1
      have d12 := rda.2.2.1.2.2
      have pb := z_Pt_b d10
      exact ⟨by show S'.2.2.2.2.2.1 ≤ 601024; omega, by show S'.2.2.2.2.2.2 ≤ 7293034; omega⟩
    have c138 := rr L xs fv (2048 - 1) (84000 - (19 + z_pg.2.1 138)) S'.2.2.2.2.2 S'.1 S'.2.1 S'.2.2.1 S'.2.2.2.1 S'.2.2.2.2.1 ((g ++ [.inr (10, [])]) ++ [.inr (10, [])]) hrm1 ((hd27.dn 138 (by decide)).le (by decide))
    exact b0_sw2 (law_2 (v := 1) (b := 0) hlv hrk.rm.1 hrm1 (c27 fv) c138 rdb.2.2 (Or.inl (by decide)) kk)
end ZAK2
