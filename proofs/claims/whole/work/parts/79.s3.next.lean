/-! Lexing (reference): next; that both lexers agree. -/
/-- what parts words -/
def z_Sp2 (c : Nat) : Bool := decide (c = 32) || decide (c = 10)
/-- the place of the first word from q on -/
def z_nx (b : Nat → Nat) (n q : Nat) : Nat := z_go z_Sp2 b n q
theorem z_Sp_iff {c : Nat} : z_Sp2 c = true ↔ c = 32 ∨ c = 10 := by
  unfold z_Sp2
  rw [Bool.or_eq_true, decide_eq_true_iff, decide_eq_true_iff]
theorem z_ra_sp {b : Nat → Nat} {n q : Nat} {t : List (Nat × Int32)} (hT : z_Tr t b n) : (z_ra b n q = 32 ∨ z_ra b n q = 10) ↔ (q < n ∧ z_Sp2 (b q) = true) := by
  unfold z_ra
  by_cases h : q < n
  · obtain ⟨-, -, i3, i4⟩ := z_nI_in (b q) (hT.2 q h).1
    rw [if_pos h, i3, i4, z_Sp_iff]
    exact ⟨fun x => ⟨h, x⟩, fun x => x.2⟩
  · rw [if_neg h]
    exact ⟨fun x => absurd x (by decide), fun x => absurd x.1 h⟩
section ZLX9
variable {L : Nat} {xs : Nat → Int32} {fv : Value} {f w : Nat} {c : Nat × Nat} {A : Nat → List (Nat × Int32)} {E : List (Nat × Option Nat)} {N : Nat → Nat} {V : Nat → Nat → Int32} {W : Nat} {g : List z_E} {B : Nat → List (Nat × Int32)} {M : Nat → List (Nat × Int64)} {U : Nat → Nat → Int32}
theorem s141a {b : Nat → Nat} {n : Nat} {o : z_V} {T' : z_Y} (hT : z_Tr (B 44) b n) (hU6 : U 41 6 = nI n) (hRm : z_Rm (hC A E N V W ++ (hR B M U ++ g), c)) (hf : 1 ≤ f) (hw : 100 ≤ w) (e : Nat) (kk : z_Ln L xs fv f w 141 52 [(0, .ref 148)] [] (hC A E N V W ++ (hR B M (z_v U 41 8 (nI e)) ++ g), c) o T') : ∀ k q, n - q ≤ k → q ≤ 2000 → z_nx b n q = e → z_Ln L xs fv f w 141 13 [(0, .ref 148)] [] (hC A E N V W ++ (hR B M (z_v U 41 8 (nI q)) ++ g), c) o T' := by
  have hn := hT.1
  have m142 : z_pg.2.1 142 ≤ 40 := by decide +kernel
  have stop : ∀ q, q ≤ 2000 → ¬ (q < n ∧ z_Sp2 (b q) = true) → z_nx b n q = e → z_Ln L xs fv f w 141 13 [(0, .ref 148)] [] (hC A E N V W ++ (hR B M (z_v U 41 8 (nI q)) ++ g), c) o T' := by
    intro q hq hP hg
    have hqe : z_nx b n q = q := z_go_f hP
    rw [hqe] at hg
    subst hg
    have hra := fun x => hP ((z_ra_sp hT).mp x)
    have hb : z_Ln L xs fv f w 142 0 [(0, .ref 148), (1, .int (nI q))] [] (hC A E N V W ++ (hR B M (z_v U 41 8 (nI q)) ++ g), c) (.inl (some (.int (z_ra b n q)))) (hC A E N V W ++ (hR B M (z_v U 41 8 (nI q)) ++ g), c) := s142 hT hU6 (by omega)
    exact b141_13 (v := z_ra b n q) hRm (by omega) (by omega) (s142 hT hU6 (by omega)) (b141_21f (fun x => hra (Or.inl x)) (b141_26 (v := z_ra b n q) hRm (by omega) (by omega) (s142 hT hU6 (by omega)) (b141_34t (fun x => hra (Or.inr x)) kk)))
  intro k
  induction k with
  | zero =>
    intro q hk hq hg
    exact stop q hq (fun x => by omega) hg
  | succ k ih =>
    intro q hk hq hg
    by_cases hP : q < n ∧ z_Sp2 (b q) = true
    · have hg2 : z_nx b n q = z_nx b n (q + 1) := z_go_t hP.1 hP.2
      rw [hg2] at hg
      have nx : z_Ln L xs fv f w 141 39 [(0, .ref 148)] [] (hC A E N V W ++ (hR B M (z_v U 41 8 (nI q)) ++ g), c) o T' := by
        refine b141_39 ?_
        rw [z_vv]
        show z_Ln L xs fv f w 141 13 [(0, .ref 148)] [] (hC A E N V W ++ (hR B M (z_v U 41 8 (nI q + 1)) ++ g), c) o T'
        rw [nI_1]
        exact ih (q + 1) (by omega) (by omega) hg
      have hra := (z_ra_sp hT).mpr hP
      refine b141_13 (v := z_ra b n q) hRm (by omega) (by omega) (s142 hT hU6 (by omega)) ?_
      by_cases h32 : z_ra b n q = 32
      · exact b141_21t h32 nx
      · exact b141_21f h32 (b141_26 (v := z_ra b n q) hRm (by omega) (by omega) (s142 hT hU6 (by omega)) (b141_34f (fun x => x (hra.resolve_left h32)) nx))
    · exact stop q hq hP hg
theorem z_nx_le {b : Nat → Nat} {n q : Nat} (h : q ≤ 2000) (hn : n ≤ 2000) : z_nx b n q ≤ 2000 := by
  by_cases hq : q ≤ n
  · have := (z_go_le (P := z_Sp2) (b := b) (n := n) (n - q) q (Nat.le_refl _) hq).2
    unfold z_nx
    omega
  · have : z_nx b n q = q := z_go_f (fun x => by omega)
    omega
theorem s141 {b : Nat → Nat} {n p l : Nat} (hT : z_Tr (B 44) b n) (hK : z_Ky (B 45)) (hU6 : U 41 6 = nI n) (hU : U 41 8 = nI p) (hU9 : U 41 9 = nI l) (hp2 : p + l ≤ 2000) (hRm : z_Rm (hC A E N V W ++ (hR B M U ++ g), c)) (hf : 4 ≤ f) (hw : 300 ≤ w) : z_Ln L xs fv f w 141 0 [(0, .ref 148)] [] (hC A E N V W ++ (hR B M U ++ g), c) (.inl none) (hC A E N V W ++ (hR B M (z_U3 (z_v U 41 8 (nI (z_nx b n (p + l)))) (z_lw b n (z_nx b n (p + l))) (nI (z_ll b n (z_nx b n (p + l)))) (z_lv2 b n (z_nx b n (p + l)) (U 41 10))) ++ g), c) := by
  have m143 : z_pg.2.1 143 ≤ 60 := by decide +kernel
  have hn := hT.1
  refine b141_0 ?_
  rw [hU, hU9, nI_add]
  refine s141a hT hU6 hRm (by omega) (by omega) (z_nx b n (p + l)) ?_ n (p + l) (by omega) hp2 rfl
  exact b141_52 hRm (by omega) (by omega) (s143 (U := z_v U 41 8 (nI (z_nx b n (p + l)))) hT hK hU6 rfl (z_nx_le hp2 (by omega)) hRm (by omega) (by omega)) b141_56
end ZLX9
/-! Both agree. -/
def z_wcs : List Int32 := [0, 5, 1, 2, 3, 40, 41, 123, 125, 58, 59, 44, 61, 60, 43, 45, 42, 33, 124, 4, 300, 301, 302, 303, 304, 305, 306, 307, 308, 309, 310, 311, 312, 313, 314, 315, 316]
/-- the reference's word for a kind of the class -/
def z_wco (k : Nat) : Int32 := z_wcs.getD k 0
theorem z_wco_key : ∀ k, k < 17 → z_wco (20 + k) = nI (300 + k) ∧ ¬ nI (300 + k) ≤ 0 := by decide
theorem z_wls_inj : ∀ k, k < 37 → ∀ j, j < 37 → 5 ≤ k → z_wls.getD k [] = z_wls.getD j [] → j = k := by decide +kernel
theorem z_getD_el {l : List Nat} {i : Nat} (h : i < l.length) : l.getD i 0 = l[i] := by
  rw [List.getD_eq_getElem?_getD, List.getElem?_eq_getElem h]
  rfl
theorem z_mt_one {b : Nat → Nat} {p l k j : Nat} (hk : k < 37) (h5 : 5 ≤ k) (hj : j < 37) (h1 : z_mt k b p l = true) (h2 : z_mt j b p l = true) : j = k := by
  rw [z_mt_iff] at h1 h2
  refine z_wls_inj k hk j hj h5 (List.ext_getElem (by omega) (fun i a1 a2 => ?_))
  have e1 := h1.2 i a1
  have e2 := h2.2 i a2
  rw [e1] at e2
  rw [z_getD_el a1, z_getD_el a2] at e2
  exact e2
theorem z_rs_none {b : Nat → Nat} {p l d : Nat} (h : ∀ k, k < 37 → z_mt k b p l = false) : ∀ m, m ≤ 37 → z_rs b p l d m = d := by
  intro m
  induction m with
  | zero => intro _; rfl
  | succ m ih =>
    intro hm
    have e : z_rs b p l d (m + 1) = (if z_mt (36 - m) b p l = true then 36 - m else z_rs b p l d m) := rfl
    rw [e, h (36 - m) (by omega), if_neg (by decide)]
    exact ih (by omega)
theorem z_rs_some {b : Nat → Nat} {p l d k : Nat} (hk : k < 37) (h5 : 5 ≤ k) (h : z_mt k b p l = true) : ∀ m, m ≤ 37 → 36 < m + k → z_rs b p l d m = k := by
  intro m
  induction m with
  | zero => intro _ _; omega
  | succ m ih =>
    intro hm hmk
    have e : z_rs b p l d (m + 1) = (if z_mt (36 - m) b p l = true then 36 - m else z_rs b p l d m) := rfl
    rw [e]
    by_cases h2 : z_mt (36 - m) b p l = true
    · rw [if_pos h2]
      exact z_mt_one hk h5 (by omega) h h2
    · rw [if_neg h2]
      refine ih (by omega) ?_
      by_cases hkm : k = 36 - m
      · subst hkm
        exact absurd h h2
      · omega
theorem z_kf_or {b : Nat → Nat} {p l : Nat} : ∀ m, m ≤ 17 → (∃ k, 17 - m ≤ k ∧ k < 17 ∧ z_mt (20 + k) b p l = true ∧ z_kf b p l m = nI (300 + k)) ∨ ((∀ k, 17 - m ≤ k → k < 17 → z_mt (20 + k) b p l = false) ∧ z_kf b p l m = -1) := by
  intro m
  induction m with
  | zero =>
    intro _
    exact Or.inr ⟨fun k h1 h2 => by omega, rfl⟩
  | succ m ih =>
    intro hm
    have e : z_kf b p l (m + 1) = (if z_mt (36 - m) b p l = true then nI (316 - m) else z_kf b p l m) := rfl
    by_cases h2 : z_mt (36 - m) b p l = true
    · rw [if_pos h2] at e
      refine Or.inl ⟨16 - m, by omega, by omega, ?_, ?_⟩
      · rw [show 20 + (16 - m) = 36 - m by omega]
        exact h2
      · rw [e, show 300 + (16 - m) = 316 - m by omega]
    · rw [if_neg h2] at e
      rcases ih (by omega) with ⟨k, k1, k2, k3, k4⟩ | ⟨q1, q2⟩
      · exact Or.inl ⟨k, by omega, k2, k3, e.trans k4⟩
      · refine Or.inr ⟨fun k k1 k2 => ?_, e.trans q2⟩
        by_cases hk : 17 - m ≤ k
        · exact q1 k hk k2
        · rw [show 20 + k = 36 - m by omega]
          exact Bool.eq_false_iff.mpr h2
/-- first letters -/
theorem z_wls_low : ∀ k, k < 37 → (z_wls.getD k [] = [] ∧ k < 5) ∨ (k < 20 ∧ z_Lt2 ((z_wls.getD k []).getD 0 0) = false ∧ z_Dg2 ((z_wls.getD k []).getD 0 0) = false) ∨ (20 ≤ k ∧ z_Lt2 ((z_wls.getD k []).getD 0 0) = true ∧ (z_wls.getD k []).length ≤ 12) := by decide +kernel
theorem z_mt_first {b : Nat → Nat} {p l k : Nat} (hl : 1 ≤ l) (h : z_mt k b p l = true) : (z_wls.getD k []).length = l ∧ b p = (z_wls.getD k []).getD 0 0 := by
  rw [z_mt_iff] at h
  exact ⟨h.1, h.2 0 (by omega)⟩
