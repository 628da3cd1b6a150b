/-! The room, rows that grow, and types made: what function comes to, of both. -/
theorem z_fc {α : Type} {d x : α} {l : List (Nat × α)} {k j : Nat} : z_fn d ((k, x) :: l) j = if j = k then x else z_fn d l j := rfl
theorem z_fcs {α : Type} {d x : α} {l : List (Nat × α)} {k : Nat} : z_fn d ((k, x) :: l) k = x := by rw [z_fc, if_pos rfl]
theorem z_fcn {α : Type} {d x : α} {l : List (Nat × α)} {k j : Nat} (h : j ≠ k) : z_fn d ((k, x) :: l) j = z_fn d l j := by rw [z_fc, if_neg h]
theorem z_uk {α : Type} {A : Nat → α} {k : Nat} {x : α} : z_u A k x k = x := if_pos rfl
theorem z_un {α : Type} {A : Nat → α} {k j : Nat} {x : α} (h : j ≠ k) : z_u A k x j = A j := if_neg h
theorem z_vk {α : Type} {V : Nat → Nat → α} {k j : Nat} {x : α} : z_v V k j x k j = x := by
  unfold z_v
  rw [if_pos rfl, if_pos rfl]
theorem z_vn {α : Type} {V : Nat → Nat → α} {k j a b : Nat} {x : α} (h : ¬ (a = k ∧ b = j)) : z_v V k j x a b = V a b := by
  unfold z_v
  by_cases h1 : a = k
  · rw [if_pos h1, if_neg (fun h2 => h ⟨h1, h2⟩)]
  · rw [if_neg h1]
def z_Pt (N : Nat → Nat) : Nat := N 9 + N 10 + N 11 + N 12 + N 14 + N 15 + N 16 + N 17 + N 18 + N 19 + N 39 + N 40
/-- how long what grows may be -/
def z_mxl (k : Nat) : Nat := if k ≤ 12 then 4096 else if k ≤ 19 then 16384 else if k = 39 then 524288 else 1048576
def z_gk (k : Nat) : Bool := (decide (9 ≤ k) && decide (k ≤ 12)) || (decide (14 ≤ k) && decide (k ≤ 19)) || decide (k = 39) || decide (k = 40)
def z_Nb (N : Nat → Nat) : Prop := ∀ k, z_gk k = true → 64 ≤ N k ∧ N k ≤ z_mxl k
def z_Rk (N : Nat → Nat) (c : Nat × Nat) : Prop := z_Nb N ∧ 64 * c.1 ≤ 640000 + z_Pt N ∧ c.2 ≤ 3100000 + 2 * z_Pt N
def z_Gw (N N' : Nat → Nat) (c c' : Nat × Nat) : Prop := (∀ k, N k ≤ N' k) ∧ 64 * c'.1 + z_Pt N ≤ 64 * c.1 + z_Pt N' ∧ c'.2 + 2 * z_Pt N ≤ c.2 + 2 * z_Pt N'
theorem z_Gw.rf {N : Nat → Nat} {c : Nat × Nat} : z_Gw N N c c := ⟨fun _ => Nat.le_refl _, Nat.le_refl _, Nat.le_refl _⟩
theorem z_Gw.tr {N N' N'' : Nat → Nat} {c c' c'' : Nat × Nat} (h : z_Gw N N' c c') (h' : z_Gw N' N'' c' c'') : z_Gw N N'' c c'' := ⟨fun k => Nat.le_trans (h.1 k) (h'.1 k), by have := h.2.1; have := h'.2.1; omega, by have := h.2.2; have := h'.2.2; omega⟩
theorem z_gk_or {k : Nat} (h : z_gk k = true) : k = 9 ∨ k = 10 ∨ k = 11 ∨ k = 12 ∨ k = 14 ∨ k = 15 ∨ k = 16 ∨ k = 17 ∨ k = 18 ∨ k = 19 ∨ k = 39 ∨ k = 40 := by
  unfold z_gk at h
  rw [Bool.or_eq_true, Bool.or_eq_true, Bool.or_eq_true, Bool.and_eq_true, Bool.and_eq_true, decide_eq_true_eq, decide_eq_true_eq, decide_eq_true_eq, decide_eq_true_eq, decide_eq_true_eq, decide_eq_true_eq] at h
  omega
theorem z_Pt_u {N : Nat → Nat} {k x : Nat} (h : z_gk k = true) : z_Pt (z_u N k x) + N k = z_Pt N + x := by
  rcases z_gk_or h with rfl | rfl | rfl | rfl | rfl | rfl | rfl | rfl | rfl | rfl | rfl | rfl <;> (simp only [z_Pt, z_u]; simp; omega)
theorem z_Pt_b {N : Nat → Nat} (h : z_Nb N) : z_Pt N ≤ 1687552 := by
  have a1 : N 9 ≤ 4096 := (h 9 rfl).2
  have a2 : N 10 ≤ 4096 := (h 10 rfl).2
  have a3 : N 11 ≤ 4096 := (h 11 rfl).2
  have a4 : N 12 ≤ 4096 := (h 12 rfl).2
  have b1 : N 14 ≤ 16384 := (h 14 rfl).2
  have b2 : N 15 ≤ 16384 := (h 15 rfl).2
  have b3 : N 16 ≤ 16384 := (h 16 rfl).2
  have b4 : N 17 ≤ 16384 := (h 17 rfl).2
  have b5 : N 18 ≤ 16384 := (h 18 rfl).2
  have b6 : N 19 ≤ 16384 := (h 19 rfl).2
  have c1 : N 39 ≤ 524288 := (h 39 rfl).2
  have c2 : N 40 ≤ 1048576 := (h 40 rfl).2
  unfold z_Pt
  omega
theorem z_Rk.rm {N : Nat → Nat} {c : Nat × Nat} (h : z_Rk N c) : z_Rm ([], c) ∧ c.1 + 1 ≤ 601024 ∧ c.2 + 6 ≤ 7293034 := by
  have a := z_Pt_b h.1
  have b := h.2.1
  have d := h.2.2
  exact ⟨⟨by show c.1 ≤ 601024; omega, by show c.2 ≤ 7293034; omega⟩, by omega, by omega⟩
theorem z_mxl_b (k : Nat) : z_mxl k ≤ 1048576 := by
  unfold z_mxl
  split
  · decide
  · split
    · decide
    · split <;> decide
theorem z_Gr_i {k m : Nat} {n : Int32} {A : Nat → List (Nat × Int32)} {N : Nat → Nat} {c : Nat × Nat} {P : (Nat → List (Nat × Int32)) → (Nat → Nat) → Nat × Nat → Prop} (hk : z_gk k = true) (hn : n = nI m) (hr : z_Rk N c) (hm : 2 * m ≤ z_mxl k) (h : ∀ A' N' c', (∀ q, q ≠ k → A' q = A q) → (∀ i, i < N k → z_fn 0 (A' k) i = z_fn 0 (A k) i) → (∀ q, q ≠ k → N' q = N q) → m ≤ N' k → z_Rk N' c' → z_Gw N N' c c' → P A' N' c') : z_Gr k n A N c P := by
  have mb := z_mxl_b k
  obtain ⟨n1, n2⟩ := hr.1 k hk
  by_cases hlt : m ≤ N k
  · refine Or.inl ⟨?_, hr.rm.1, h A N c (fun _ _ => rfl) (fun _ _ => rfl) (fun _ _ => rfl) hlt hr z_Gw.rf⟩
    rw [hn]
    exact nI_nlt hlt (by omega)
  · obtain ⟨K, hK1, hK2, hK3, hK4⟩ : ∃ K, K = (if m < 2 * N k then 2 * N k else m) ∧ m ≤ K ∧ 2 * N k ≤ K ∧ K ≤ z_mxl k := by
      refine ⟨_, rfl, ?_, ?_, ?_⟩ <;> split <;> omega
    have cl : (nI K).toNatClampNeg = K := nI_clamp (by omega)
    have e2 : (2 : Int32) * Int32.ofNat (N k) = nI (2 * N k) := pk_mul 2 (N k)
    have pu := z_Pt_u (N := N) (x := K) hk
    have r1 := hr.2.1
    have r2 := hr.2.2
    have nb : z_Nb (z_u N k K) := by
      intro q hq
      by_cases e : q = k
      · subst e
        rw [z_uk]
        exact ⟨by omega, hK4⟩
      · rw [z_un e]
        exact hr.1 q hq
    have rk : z_Rk (z_u N k K) (c.1 + 1, c.2 + K) := ⟨nb, by show 64 * (c.1 + 1) ≤ _; omega, by show c.2 + K ≤ _; omega⟩
    have rm := rk.rm.1
    refine Or.inr ⟨nI K, ⟨?_, ?_, nI_pos (by omega), by rw [cl]; omega, ?_, nI_nlt (b := N k) (by omega) (by omega), nI_clamp (by omega), by rw [cl]; omega, nI_pos (by omega)⟩, by rw [cl]; exact rm, ?_⟩
    · rw [hn]
      exact nI_lt (by omega) (by omega)
    · rw [e2, hn, hK1]
      by_cases q : m < 2 * N k
      · rw [if_pos (nI_lt q (by omega)), if_pos q]
      · rw [if_neg (nI_nlt (by omega) (by omega)), if_neg q]
    · intro e
      have := (nI_eq (a := K) (b := N k) (by omega) (by omega)).mp e
      omega
    · rw [cl]
      refine h _ _ _ (fun q hq => z_un hq) (fun i hi => ?_) (fun q hq => z_un hq) (by rw [z_uk]; exact hK2) rk ⟨fun q => ?_, ?_, ?_⟩
      · rw [z_uk, z_cpl_fn, pk_cpy_in (Nat.zero_le _) (by omega)]
        congr 1
        omega
      · by_cases e : q = k
        · subst e
          rw [z_uk]
          omega
        · rw [z_un e]
          exact Nat.le_refl _
      · show 64 * (c.1 + 1) + _ ≤ _
        omega
      · show c.2 + K + _ ≤ _
        omega
/-- of both tables: one more, or one that was there -/
def z_To (T : Nat → Nat × Nat × Int32) (m : Nat) (x y : Nat) (e : Int32) (T' : Nat → Nat × Nat × Int32) (m' i : Nat) : Prop := m ≤ m' ∧ m' ≤ m + 1 ∧ (∀ j, 3 ≤ j → j < m → T' j = T j) ∧ 3 ≤ i ∧ i < m' ∧ T' i = (x, y, e)
theorem w158 {l : Nat} {B : Nat → List (Nat × Int32)} {M : Nat → List (Nat × Int64)} {U : Nat → Nat → Int32} {T : Nat → Nat × Nat × Int32} {m x y : Nat} {e : Int32} {Q : Option Value → z_RS → Prop} (h : z_TyR B U T m) (hm : m < 1500) (hx : x < m) (hy : y < m) (hQ : ∀ T' m' i B' U', z_TyR B' U' T' m' → z_To T m x y e T' m' i → (∀ k, ¬ (46 ≤ k ∧ k ≤ 48) → B' k = B k) → (∀ k j, ¬ (k = 41 ∧ j = 13) → U' k j = U k j) → Q (some (.int (nI i))) (B', M, U')) : z_WR (l + 1) 158 0 [(0, .ref 148), (1, .int (nI x)), (2, .int (nI y)), (3, .int e)] [] (B, M, U) Q := by
  obtain ⟨hT, -, hU, hA⟩ := id h
  have cm : (U 41 13).toNatClampNeg = m := by rw [hU]; exact nI_clamp (by omega)
  have loop : ∀ q i, 3 ≤ i → i + q = m → (∀ j, 3 ≤ j → j < i → T j ≠ (x, y, e)) → z_WR (l + 1) 158 3 [(0, .ref 148), (1, .int (nI x)), (2, .int (nI y)), (3, .int e), (4, .int (nI i))] [] (B, M, U) Q := by
    intro q
    induction q with
    | zero =>
      intro i i3 hi hno
      have hi : i = m := by omega
      subst hi
      refine t158_3 ?_
      unfold p158_3
      rw [if_pos (by rw [hU]; exact nI_le (Nat.le_refl _) (by omega))]
      have zi : z_in (U 41 13) 1500 = true := by rw [hU]; exact z_inI hm (by decide)
      refine ⟨zi, zi, zi, ?_⟩
      rw [cm, show (U 41 13) + 1 - 1 = nI i by rw [hU, nI_1, nI_pred]]
      refine hQ (fun j => if j = i then (x, y, e) else T j) (i + 1) i _ _ ⟨z_Tw_add hT hx hy hno, by omega, ?_, ?_⟩ ⟨by omega, Nat.le_refl _, fun j _ j2 => if_neg (by omega), i3, by omega, if_pos rfl⟩ ?_ ?_
      · rw [z_vk, hU, nI_1]
      · intro j j3 j2
        rw [z_un (by decide), z_un (by decide), z_uk, z_un (by decide), z_uk, z_uk]
        by_cases ej : j = i
        · subst ej
          rw [z_fcs, z_fcs, z_fcs]
          have e1 : (fun i' => if i' = j then (x, y, e) else T i') j = (x, y, e) := if_pos rfl
          rw [e1]
          exact ⟨rfl, rfl, rfl⟩
        · rw [z_fcn ej, z_fcn ej, z_fcn ej]
          have e1 : (fun i' => if i' = i then (x, y, e) else T i') j = T j := if_neg ej
          rw [e1]
          exact hA j j3 (by omega)
      · intro k hk
        rw [z_un (by omega), z_un (by omega), z_un (by omega)]
      · intro k j hkj
        exact z_vn hkj
    | succ q ih =>
      intro i i3 hi hno
      have ci : (nI i).toNatClampNeg = i := nI_clamp (by omega)
      have zi : z_in (nI i) 1500 = true := z_inI (by omega) (by decide)
      obtain ⟨a1, a2, a3⟩ := hA i i3 (by omega)
      obtain ⟨b1, b2, -⟩ := hT.2 i i3 (by omega)
      have nx : T i ≠ (x, y, e) → p158_48 l B M U (nI x) (nI y) e (nI i) Q := by
        intro ne
        unfold p158_48
        rw [nI_1]
        refine ih (i + 1) (by omega) (by omega) (fun j j3 j2 => ?_)
        by_cases ej : j = i
        · rw [ej]
          exact ne
        · exact hno j j3 (by omega)
      refine t158_3 ?_
      unfold p158_3
      rw [if_neg (by rw [hU]; exact nI_ge (by omega) (by omega))]
      refine ⟨zi, ?_⟩
      rw [ci, a1]
      by_cases h1 : nI (T i).1 = nI x
      · rw [if_pos h1]
        refine ⟨zi, ?_⟩
        rw [ci, a2]
        by_cases h2 : nI (T i).2.1 = nI y
        · rw [if_pos h2]
          refine ⟨zi, ?_⟩
          rw [ci, a3]
          by_cases h3 : (T i).2.2 = e
          · rw [if_pos h3]
            have e1 := (nI_eq (by omega) (by omega)).mp h1
            have e2 := (nI_eq (by omega) (by omega)).mp h2
            exact hQ T m i B U h ⟨Nat.le_refl _, by omega, fun _ _ _ => rfl, i3, by omega, Prod.ext e1 (Prod.ext e2 h3)⟩ (fun _ _ => rfl) (fun _ _ _ => rfl)
          · rw [if_neg h3]
            exact nx (fun q => h3 (by rw [q]))
        · rw [if_neg h2]
          exact nx (fun q => h2 (by rw [q]))
      · rw [if_neg h1]
        exact nx (fun q => h1 (by rw [q]))
  exact t158_0 (loop (m - 3) 3 (Nat.le_refl _) (by have := hT.1; omega) (fun j j3 j2 => by omega))
theorem w59 {l : Nat} {A : Nat → List (Nat × Int32)} {E : List (Nat × Option Nat)} {N : Nat → Nat} {V : Nat → Nat → Int32} {W : Nat} {c : Nat × Nat} {T : Nat → Nat × Nat × Int32} {m x y : Nat} {e : Int32} {Q : z_V → z_CS → Prop} (h : z_TyC A N V T m) (hm : m < 1500) (hW : W < 107) (hr : z_Rk N c) (hx : x < m) (hy : y < m) (hd : z_ad T x ≤ 50 ∧ (z_dt T x).length ≤ 3100) (hQ : ∀ T' m' i A' N' V' c', z_TyC A' N' V' T' m' → z_To T m x y e T' m' i → (∀ k, ¬ (9 ≤ k ∧ k ≤ 12) → A' k = A k) → (∀ k, ¬ (9 ≤ k ∧ k ≤ 12) → N' k = N k) → (∀ k j, ¬ (k = 8 ∧ j = 4) → V' k j = V k j) → z_Rk N' c' → z_Gw N N' c c' → Q (.inl (some (.int (nI i)))) (A', E, N', V', W, c')) : z_WC (l + 1) 59 0 [(0, .ref 115), (1, .int (nI x)), (2, .int (nI y)), (3, .int e)] [] (A, E, N, V, W, c) Q := by
  obtain ⟨hT, ⟨-, hTv⟩, hV, ⟨n9, n10, n11, n12⟩, hS, hA⟩ := id h
  have cm : (V 8 4).toNatClampNeg = m := by rw [hV]; exact nI_clamp (by omega)
  have hn : V 8 4 + 1 = nI (m + 1) := by rw [hV, nI_1]
  have nb : ∀ k, z_gk k = true → N k < 2 ^ 31 := fun k hk => by
    have := (hr.1 k hk).2
    have := z_mxl_b k
    omega
  have loop : ∀ q i, 3 ≤ i → i + q = m → (∀ j, 3 ≤ j → j < i → T j ≠ (x, y, e)) → z_WC (l + 1) 59 3 [(0, .ref 115), (1, .int (nI x)), (2, .int (nI y)), (3, .int e), (4, .int (nI i))] [] (A, E, N, V, W, c) Q := by
    intro q
    induction q with
    | zero =>
      intro i i3 hi hno
      have hi : i = m := by omega
      subst hi
      refine t59_3 ?_
      unfold p59_3
      rw [if_pos (by rw [hV]; exact nI_le (Nat.le_refl _) (by omega))]
      refine ⟨hW, z_Gr_i (m := i + 1) rfl hn hr (by show 2 * (i + 1) ≤ 4096; omega) (fun A1 N1 c1 a1 b1 d1 e1 r1 g1 => ?_)⟩
      refine ⟨hW, z_Gr_i (m := i + 1) rfl hn r1 (by show 2 * (i + 1) ≤ 4096; omega) (fun A2 N2 c2 a2 b2 d2 e2 r2 g2 => ?_)⟩
      refine ⟨hW, z_Gr_i (m := i + 1) rfl hn r2 (by show 2 * (i + 1) ≤ 4096; omega) (fun A3 N3 c3 a3 b3 d3 e3 r3 g3 => ?_)⟩
      refine ⟨hW, z_Gr_i (m := i + 1) rfl hn r3 (by show 2 * (i + 1) ≤ 4096; omega) (fun A4 N4 c4 a4 b4 d4 e4 r4 g4 => ?_)⟩
      have k9 : N4 9 = N1 9 := by rw [d4 9 (by decide), d3 9 (by decide), d2 9 (by decide)]
      have k10 : N4 10 = N2 10 := by rw [d4 10 (by decide), d3 10 (by decide)]
      have k11 : N4 11 = N3 11 := by rw [d4 11 (by decide)]
      have j10 : N1 10 = N 10 := d1 10 (by decide)
      have j11 : N2 11 = N 11 := by rw [d2 11 (by decide), d1 11 (by decide)]
      have j12 : N3 12 = N 12 := by rw [d3 12 (by decide), d2 12 (by decide), d1 12 (by decide)]
      have nb4 : ∀ k, z_gk k = true → N4 k < 2 ^ 31 := fun k hk => by
        have := (r4.1 k hk).2
        have := z_mxl_b k
        omega
      have f9 : ∀ j, j < i → z_fn 0 (A4 9) j = z_fn 0 (A 9) j := fun j hj => by rw [a4 9 (by decide), a3 9 (by decide), a2 9 (by decide), b1 j (by omega)]
      have f10 : ∀ j, j < i → z_fn 0 (A4 10) j = z_fn 0 (A 10) j := fun j hj => by rw [a4 10 (by decide), a3 10 (by decide), b2 j (by omega), a1 10 (by decide)]
      have f11 : ∀ j, j < i → z_fn 0 (A4 11) j = z_fn 0 (A 11) j := fun j hj => by rw [a4 11 (by decide), b3 j (by omega), a2 11 (by decide), a1 11 (by decide)]
      have f12 : ∀ j, j < i → z_fn 0 (A4 12) j = z_fn 0 (A 12) j := fun j hj => by rw [b4 j (by omega), a3 12 (by decide), a2 12 (by decide), a1 12 (by decide)]
      have cx : (nI x).toNatClampNeg = x := nI_clamp (by omega)
      have cy : (nI y).toNatClampNeg = y := nI_clamp (by omega)
      unfold p59_122
      rw [cm, show V 8 4 + 1 - 1 = nI i by rw [hV, nI_1, nI_pred], cx, cy, f12 x hx, f12 y hy, hS x hx, hS y hy]
      refine ⟨by rw [hV]; exact z_inI (by omega) (nb4 9 rfl), by rw [hV]; exact z_inI (by omega) (nb4 10 rfl), by rw [hV]; exact z_inI (by omega) (nb4 11 rfl), z_inI (by omega) (nb4 12 rfl), z_inI (by omega) (nb4 12 rfl), by rw [hV]; exact z_inI (by omega) (nb4 12 rfl), ?_⟩
      have hT' := z_Tw_add hT hx hy hno
      have tj : ∀ j, j < i → (fun i' => if i' = i then (x, y, e) else T i') j = T j := fun j hj => if_neg (by omega)
      have ti : (fun i' => if i' = i then (x, y, e) else T i') i = (x, y, e) := if_pos rfl
      refine hQ (fun j => if j = i then (x, y, e) else T j) (i + 1) i _ _ _ _ ⟨hT', ⟨by omega, fun q q3 q2 => ?_⟩, ?_, ⟨by omega, by omega, by omega, by omega⟩, ?_, ?_⟩ ⟨by omega, Nat.le_refl _, fun j _ j2 => tj j j2, i3, by omega, ti⟩ ?_ ?_ ?_ r4 (g1.tr (g2.tr (g3.tr g4)))
      · by_cases eq : q = i
        · subst eq
          rw [ti]
          rw [z_ad_e hT (fun q _ q2 => tj q q2) hx, z_dt_e hT (fun q _ q2 => tj q q2) hx]
          exact hd
        · rw [tj q (by omega)]
          have := hT.2 q q3 (by omega)
          rw [z_ad_e hT (fun q _ q2 => tj q q2) (by omega), z_dt_e hT (fun q _ q2 => tj q q2) (by omega)]
          exact hTv q q3 (by omega)
      · rw [z_vk, hV, nI_1]
      · intro j hj
        rw [z_uk]
        by_cases ej : j = i
        · subst ej
          rw [z_fcs, z_dt_s hT' i3 (by omega), if_pos (rfl : j = j)]
          show 1 + nI _ + nI _ = nI (List.length (z_dt _ x ++ z_dt _ y) + 1)
          rw [z_dt_e hT (fun q _ q2 => tj q q2) hx, z_dt_e hT (fun q _ q2 => tj q q2) hy]
          rw [List.length_append, show (1 : Int32) = nI 1 from rfl, nI_add, nI_add]
          congr 1
          omega
        · rw [z_fcn ej, f12 j (by omega), hS j (by omega), z_dt_e hT (fun q _ q2 => tj q q2) (by omega)]
      · intro j j3 j2
        rw [z_un (by decide), z_un (by decide), z_un (by decide), z_uk, z_un (by decide), z_un (by decide), z_uk, z_un (by decide), z_uk]
        by_cases ej : j = i
        · subst ej
          rw [z_fcs, z_fcs, z_fcs, ti]
          exact ⟨rfl, rfl, rfl⟩
        · rw [z_fcn ej, z_fcn ej, z_fcn ej, f9 j (by omega), f10 j (by omega), f11 j (by omega), tj j (by omega)]
          exact hA j j3 (by omega)
      · intro k hk
        rw [z_un (by omega), z_un (by omega), z_un (by omega), z_un (by omega), a4 k (by omega), a3 k (by omega), a2 k (by omega), a1 k (by omega)]
      · intro k hk
        rw [d4 k (by omega), d3 k (by omega), d2 k (by omega), d1 k (by omega)]
      · intro k j hkj
        exact z_vn hkj
    | succ q ih =>
      intro i i3 hi hno
      have ci : (nI i).toNatClampNeg = i := nI_clamp (by omega)
      obtain ⟨a1, a2, a3⟩ := hA i i3 (by omega)
      obtain ⟨b1, b2, -⟩ := hT.2 i i3 (by omega)
      have nx : T i ≠ (x, y, e) → p59_48 l A E N V W c (nI x) (nI y) e (nI i) Q := by
        intro ne
        unfold p59_48
        rw [nI_1]
        refine ih (i + 1) (by omega) (by omega) (fun j j3 j2 => ?_)
        by_cases ej : j = i
        · rw [ej]
          exact ne
        · exact hno j j3 (by omega)
      refine t59_3 ?_
      unfold p59_3
      rw [if_neg (by rw [hV]; exact nI_ge (by omega) (by omega))]
      refine ⟨z_inI (by omega) (nb 9 rfl), ?_⟩
      rw [ci, a1]
      by_cases h1 : nI (T i).1 = nI x
      · rw [if_pos h1]
        refine ⟨z_inI (by omega) (nb 10 rfl), ?_⟩
        rw [ci, a2]
        by_cases h2 : nI (T i).2.1 = nI y
        · rw [if_pos h2]
          refine ⟨z_inI (by omega) (nb 11 rfl), ?_⟩
          rw [ci, a3]
          by_cases h3 : (T i).2.2 = e
          · rw [if_pos h3]
            have e1 := (nI_eq (by omega) (by omega)).mp h1
            have e2 := (nI_eq (by omega) (by omega)).mp h2
            exact hQ T m i A N V c h ⟨Nat.le_refl _, by omega, fun _ _ _ => rfl, i3, by omega, Prod.ext e1 (Prod.ext e2 h3)⟩ (fun _ _ => rfl) (fun _ _ => rfl) (fun _ _ _ => rfl) hr z_Gw.rf
          · rw [if_neg h3]
            exact nx (fun q => h3 (by rw [q]))
        · rw [if_neg h2]
          exact nx (fun q => h2 (by rw [q]))
      · rw [if_neg h1]
        exact nx (fun q => h1 (by rw [q]))
  exact t59_0 (loop (m - 3) 3 (Nat.le_refl _) (by have := hT.1; omega) (fun j j3 j2 => by omega))
