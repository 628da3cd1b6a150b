/-! Checking: names and floors inside a node; more of what both hold. -/
/-- names and floors are as they were behind instructions s to e, and never fewer between -/
def z_fl (A : Nat → List (Nat × Int32)) (s e : Nat) : Prop := s ≤ e ∧ (∀ j, s ≤ j → j ≤ e → (z_ctx A s).2.length ≤ (z_ctx A j).2.length ∧ (z_ctx A s).1.length ≤ (z_ctx A j).1.length) ∧ z_ctx A e = z_ctx A s
section ZFL
variable {A : Nat → List (Nat × Int32)} {s g d e : Nat}
theorem z_fl.rf : z_fl A s s := ⟨Nat.le_refl _, fun j a b => by
  have e : j = s := by omega
  rw [e]
  exact ⟨Nat.le_refl _, Nat.le_refl _⟩, rfl⟩
theorem z_fl.tr (h : z_fl A s g) (h' : z_fl A g e) : z_fl A s e := by
  refine ⟨Nat.le_trans h.1 h'.1, fun j a b => ?_, h'.2.2.trans h.2.2⟩
  by_cases q : j ≤ g
  · exact h.2.1 j a q
  · have k := h'.2.1 j (by omega) b
    rw [h.2.2] at k
    exact k
theorem z_fl.one (h : z_ctx A (s + 1) = z_ctx A s) : z_fl A s (s + 1) := by
  refine ⟨Nat.le_succ _, fun j a b => ?_, h⟩
  rcases (show j = s ∨ j = s + 1 by omega) with rfl | rfl
  · exact ⟨Nat.le_refl _, Nat.le_refl _⟩
  · rw [h]
    exact ⟨Nat.le_refl _, Nat.le_refl _⟩
theorem z_fl.wrap (h : z_fl A (s + 1) d) (h1 : (z_ctx A s).2.length ≤ (z_ctx A (s + 1)).2.length) (h2 : (z_ctx A s).1.length ≤ (z_ctx A (s + 1)).1.length) (h3 : z_ctx A (d + 1) = z_ctx A s) : z_fl A s (d + 1) := by
  refine ⟨by have := h.1; omega, fun j a b => ?_, h3⟩
  by_cases q : j = s
  · rw [q]
    exact ⟨Nat.le_refl _, Nat.le_refl _⟩
  · by_cases q2 : j = d + 1
    · rw [q2, h3]
      exact ⟨Nat.le_refl _, Nat.le_refl _⟩
    · have k := h.2.1 j (by omega) (by omega)
      exact ⟨Nat.le_trans h1 k.1, Nat.le_trans h2 k.2⟩
/-- the pairs of instructions that bind and forget -/
theorem z_fl.w4 (h : z_fl A (s + 1) d) (o : z_fn 0 (A 14) s = 4) (o' : z_fn 0 (A 14) d = 5) : z_fl A s (d + 1) := by
  have e1 : z_ctx A (s + 1) = (z_fn 0 (A 15) s :: (z_ctx A s).1, (z_ctx A s).2) := by
    rw [z_ctx_s o]
    rfl
  refine h.wrap (by rw [e1]; exact Nat.le_refl _) (by rw [e1]; exact Nat.le_succ _) ?_
  rw [z_ctx_s o', h.2.2, e1]
  rfl
theorem z_fl.w17 (h : z_fl A (s + 1) d) (o : z_fn 0 (A 14) s = 17) (o' : z_fn 0 (A 14) d = 18) : z_fl A s (d + 1) := by
  have e1 : z_ctx A (s + 1) = (z_fn 0 (A 15) s :: (z_ctx A s).1, (z_ctx A s).1.length :: (z_ctx A s).2) := by
    rw [z_ctx_s o]
    rfl
  refine h.wrap (by rw [e1]; exact Nat.le_succ _) (by rw [e1]; exact Nat.le_succ _) ?_
  rw [z_ctx_s o', h.2.2, e1]
  rfl
theorem z_fl.w19 (h : z_fl A (s + 1) d) (o : z_fn 0 (A 14) s = 19) (o' : z_fn 0 (A 14) d = 20) : z_fl A s (d + 1) := by
  have e1 : z_ctx A (s + 1) = (z_fn 0 (A 18) s :: z_fn 0 (A 15) s :: (z_ctx A s).1, (z_ctx A s).1.length :: (z_ctx A s).2) := by
    rw [z_ctx_s o]
    rfl
  refine h.wrap (by rw [e1]; exact Nat.le_succ _) (by rw [e1]; exact Nat.le_trans (Nat.le_succ _) (Nat.le_succ _)) ?_
  rw [z_ctx_s o', h.2.2, e1]
  rfl
theorem z_fl.w22 (h : z_fl A (s + 1) d) (o : z_fn 0 (A 14) s = 22) (o' : z_fn 0 (A 14) d = 23) : z_fl A s (d + 1) := by
  have e1 : z_ctx A (s + 1) = (z_fn 0 (A 15) s :: (z_ctx A s).1, (z_ctx A s).2) := by
    rw [z_ctx_s o]
    rfl
  refine h.wrap (by rw [e1]; exact Nat.le_refl _) (by rw [e1]; exact Nat.le_succ _) ?_
  rw [z_ctx_s o', h.2.2, e1]
  rfl
theorem z_fl.w24 (h : z_fl A (s + 1) d) (o : z_fn 0 (A 14) s = 24) (o' : z_fn 0 (A 14) d = 25) : z_fl A s (d + 1) := by
  have e1 : z_ctx A (s + 1) = (z_fn 0 (A 18) s :: z_fn 0 (A 15) s :: (z_ctx A s).1, (z_ctx A s).2) := by
    rw [z_ctx_s o]
    rfl
  refine h.wrap (by rw [e1]; exact Nat.le_refl _) (by rw [e1]; exact Nat.le_trans (Nat.le_succ _) (Nat.le_succ _)) ?_
  rw [z_ctx_s o', h.2.2, e1]
  rfl
theorem z_fl.w21 (h : z_fl A (s + 1) d) (o : z_fn 0 (A 14) s = 21) (o' : z_fn 0 (A 14) d = 26) : z_fl A s (d + 1) := by
  have e1 : z_ctx A (s + 1) = ((z_ctx A s).1, (z_ctx A s).1.length :: (z_ctx A s).2) := by
    rw [z_ctx_s o]
    rfl
  refine h.wrap (by rw [e1]; exact Nat.le_succ _) (by rw [e1]; exact Nat.le_refl _) ?_
  rw [z_ctx_s o', h.2.2, e1]
  rfl
variable {b : Nat → Nat} {n me : Nat} {τ : z_TT} {B : Nat → List (Nat × Int32)}
theorem z_Cc.fl {u : z_Bd} {P : Nat → Nat → Nat → Int32 → Prop} (hP : ∀ g x y p, P g x y p → z_fl A x y) : ∀ (r : List (Nat × Nat)) (q : Int32) (l x : Nat), z_Cc b n me A B u P e r q l x → z_fl A x e := by
  intro r
  induction r with
  | nil =>
    intro q l x h
    rw [h.2.2]
    exact z_fl.rf
  | cons a r ih =>
    intro q l x h
    obtain ⟨i, y⟩ := a
    obtain ⟨-, -, h7, -, -, -, -, -, ⟨g, -, h14⟩, h15, h16⟩ := h
    exact ((hP _ _ _ _ h14).w24 h7 h15).tr (ih _ _ _ h16)
theorem z_Cp.fl : ∀ (f : Nat) (u : z_Bd) (w m s e : Nat) (p : Int32), z_Cp b n me τ A B u f w m s e p → z_fl A s e := by
  intro f
  induction f with
  | zero => intro u w m s e p h; exact h.elim
  | succ f ih =>
    intro u w m s e p h
    obtain ⟨⟨-, -, hse⟩, -, hb⟩ := h
    have ih' : ∀ {c : Nat} {v : z_Bd} {g x y : Nat} {q : Int32}, (z_wle c w ∧ z_Cp b n me τ A B v f (w - c) g x y q) → z_fl A x y := fun h => ih _ _ _ _ _ _ h.2
    obtain ⟨d, rfl⟩ : ∃ d, e = d + 1 := ⟨e - 1, by omega⟩
    rcases hb with ⟨-, e1, o, -⟩ | ⟨-, e1, o, -⟩ | ⟨-, e1, o, -⟩ | ⟨-, e1, o, -⟩ | ⟨-, x, y, g, v1, v2, -, -, -, a1, a2, c1, o1, -, c2, o2⟩ | ⟨-, x, y, g, v1, v2, -, -, -, a1, a2, o1, -, -, -, c1, -, o2, o3, -, c2, o4⟩ | ⟨-, x, y, z, g, h, v1, v2, v3, -, -, -, -, a1, a2, a3, c1, o1, -, c2, o2, -, c3, o3⟩ | ⟨-, x, v1, -, -, a1, o1, -, -, -, c1, o2⟩ | ⟨-, x, y, g, h, r, v1, v2, -, -, -, a1, a2, a3, o1, -, c1, o2, -, -, c2, o3, o4, c3⟩ | ⟨k, k1, k2, -, x, y, g, v1, v2, -, -, -, a1, a2, c1, c2, o1⟩ | ⟨-, x, y, g, v1, v2, -, -, -, a1, a2, c1, o1, c2, o2⟩ | ⟨-, x, ef, v1, -, -, -, a1, c1, o1, -⟩
    · have e1 : d = s := by omega
      rw [e1]
      exact z_fl.one (z_ctx_id (o := 0) o (Or.inl (by decide)))
    · have e1 : d = s := by omega
      rw [e1]
      exact z_fl.one (z_ctx_id (o := 0) o (Or.inl (by decide)))
    · have e1 : d = s := by omega
      rw [e1]
      exact z_fl.one (z_ctx_id (o := 0) o (Or.inl (by decide)))
    · have e1 : d = s := by omega
      rw [e1]
      exact z_fl.one (z_ctx_id (o := 1) o (Or.inl (by decide)))
    · exact (ih' c1).tr ((ih' c2).w4 o1 o2)
    · exact ((ih' c1).w19 o1 o2).tr ((ih' c2).w4 o3 o4)
    · exact (((ih' c1).tr (z_fl.one (z_ctx_id (o := 6) o1 (by omega)))).tr ((ih' c2).tr (z_fl.one (z_ctx_id (o := 7) o2 (by omega))))).tr ((ih' c3).tr (z_fl.one (z_ctx_id (o := 8) o3 (by omega))))
    · exact (ih' c1).w17 o1 o2
    · have k1 := (ih' c1).tr ((ih' c2).w22 o2 o3)
      have k2 := z_Cc.fl (A := A) (fun g x y p q => by
        obtain ⟨v, -, -, q⟩ := q
        exact ih' q) r _ _ _ c3
      exact (k1.tr k2).w21 o1 o4
    · exact ((ih' c1).tr (ih' c2)).tr (z_fl.one (z_ctx_id (o := k + 4) o1 (by omega)))
    · exact (((ih' c1).tr (z_fl.one (z_ctx_id (o := 14) o1 (by omega)))).tr (ih' c2)).tr (z_fl.one (z_ctx_id (o := 15) o2 (by omega)))
    · exact (ih' c1).tr (z_fl.one (z_ctx_id (o := 16) o1 (by omega)))
end ZFL
/-- the names that both hold -/
def z_Kq (b : Nat → Nat) (n : Nat) (τ : z_TT) (N : Nat) (κ : Nat → Nat) (cc : Nat) (S : z_CS) (R : z_RS) : Prop := z_Ch b n R.1 (S.1 31) κ cc N ∧ ∀ j, j < N → z_Tqd 51 τ (z_fn 0 (S.1 32) j) (z_fn 0 (R.1 100) (κ j))
section ZKQ
variable {b : Nat → Nat} {n : Nat} {τ τ' : z_TT} {N cc cc' : Nat} {κ : Nat → Nat} {S S' : z_CS} {R R' : z_RS}
theorem z_Kq.cg (h : z_Kq b n τ N κ cc S R) (hS : ∀ k, 31 ≤ k → k ≤ 32 → ∀ j, j < N → z_fn 0 (S'.1 k) j = z_fn 0 (S.1 k) j) (hR' : ∀ k, 98 ≤ k → k ≤ 101 → ∀ j, j < cc → z_fn 0 (R'.1 k) j = z_fn 0 (R.1 k) j) (hc : cc ≤ cc') : z_Kq b n τ N κ cc' S' R' := by
  refine ⟨fun j hj => ?_, fun j hj => ?_⟩
  · obtain ⟨c1, c2, c3⟩ := h.1 j hj
    rw [hR' 101 (by decide) (by decide) _ c1, hR' 98 (by decide) (by decide) _ c1, hR' 99 (by decide) (by decide) _ c1, hS 31 (by decide) (by decide) j hj]
    exact ⟨Nat.lt_of_lt_of_le c1 hc, c2, c3⟩
  · rw [hR' 100 (by decide) (by decide) _ (h.1 j hj).1, hS 32 (by decide) (by decide) j hj]
    exact h.2 j hj
theorem z_Kq.te (h : z_Kq b n τ N κ cc S R) (h1 : z_Tw τ.1.1 τ.1.2) (h2 : z_Tw τ.2.1 τ.2.2) (he : z_Te τ τ') : z_Kq b n τ' N κ cc S R := ⟨h.1, fun j hj => (h.2 j hj).x h1 h2 he⟩
theorem z_Kq.bnd {q nm wd ty ty' : Int32} (h : z_Kq b n τ N κ cc S R) (e31 : S'.1 31 = (N, nm) :: S.1 31) (e32 : S'.1 32 = (N, ty) :: S.1 32) (hq : z_Nm b n q nm wd) (ht : z_Tqd 51 τ ty ty') : z_Kq b n τ (N + 1) (z_kp κ N cc) (cc + 1) S' (z_bnd cc q wd ty' (z_ko κ N) R) := by
  refine ⟨fun j hj => ?_, fun j hj => ?_⟩
  · rw [z_bnd_101, z_bnd_98, z_bnd_99, e31]
    by_cases e : j = N
    · subst e
      rw [z_kp_n, z_fcs, z_fcs, z_fcs, z_fcs, z_kp_ko _ (Nat.le_refl _)]
      exact ⟨Nat.lt_succ_self _, rfl, hq⟩
    · obtain ⟨c1, c2, c3⟩ := h.1 j (by omega)
      rw [z_kp_o (by omega), z_fcn (by omega), z_fcn (by omega), z_fcn (by omega), z_fcn (by omega), z_kp_ko _ (by omega)]
      exact ⟨by omega, c2, c3⟩
  · rw [z_bnd_100, e32]
    by_cases e : j = N
    · subst e
      rw [z_kp_n, z_fcs, z_fcs]
      exact ht
    · obtain ⟨c1, c2, c3⟩ := h.1 j (by omega)
      rw [z_kp_o (by omega), z_fcn (by omega), z_fcn (by omega)]
      exact h.2 j (by omega)
theorem z_Kq.fgt {c : Nat} (h : z_Kq b n τ (N + 1) (z_kp κ N c) cc S R) : z_Kq b n τ N κ cc S R := by
  refine ⟨h.1.fgt, fun j hj => ?_⟩
  have q := h.2 j (by omega)
  rw [z_kp_o hj] at q
  exact q
theorem z_Kj.q {τ0 : z_TT} {S0 : z_CS} {R0 : z_RS} {i H ρ mo P : Nat} (h : z_Kj b n τ0 S0 R0 i τ H ρ mo cc P κ S R) (hN : N = (z_ctx S0.1 i).1.length) : z_Kq b n τ N κ cc S R := by
  subst hN
  exact ⟨h.2.2.2.1, h.2.2.2.2⟩
theorem z_Kq.j {τ0 : z_TT} {S0 : z_CS} {R0 : z_RS} {i H ρ mo P : Nat} (h : z_Kq b n τ N κ cc S R) (hN : N = (z_ctx S0.1 i).1.length) (h1 : z_KC S0 i τ.1.1 τ.1.2 H ρ mo S) (h2 : z_KR R0 τ.2.1 τ.2.2 cc P R) (h3 : z_Te τ0 τ) : z_Kj b n τ0 S0 R0 i τ H ρ mo cc P κ S R := by
  subst hN
  exact ⟨h1, h2, h3, h.1, h.2⟩
end ZKQ
section ZKX
variable {S0 S S' : z_CS} {i : Nat} {x : List Int32 × List Nat} {l : List Int32} {fl : List Nat} {T : Nat → Nat × Nat × Int32} {mT H ρ mo N : Nat} {nm ty a : Int32}
/-- fewer are held -/
theorem z_KCx.pop (h : z_KCx S0 i x T mT H ρ mo S) (H' : Nat) : z_KCx S0 i x T mT H' ρ mo (S.1, S.2.1, S.2.2.1, z_v S.2.2.2.1 27 7 (nI H'), S.2.2.2.2.1, S.2.2.2.2.2) := by
  obtain ⟨h1, h2, h3, h4, h5, h6, h7, h8⟩ := h
  have ov : ∀ k j, ¬ (k = 27 ∧ j = 7) → z_v S.2.2.2.1 27 7 (nI H') k j = S.2.2.2.1 k j := fun k j q => z_vn q
  exact ⟨h1.kp (fun _ _ _ => rfl) (ov 8 4 (by decide)), h2, ⟨h3.1, h3.2.1, h3.2.2.1, fun k j a b => (ov k j (fun q => b q.1)).trans (h3.2.2.2.1 k j a b), h3.2.2.2.2.1, h3.2.2.2.2.2⟩, h4, ⟨(show z_v S.2.2.2.1 27 7 (nI H') 27 7 = nI H' from z_vk), (ov 27 10 (by decide)).trans h5.2.1, (ov 27 16 (by decide)).trans h5.2.2⟩, h6, h7, h8⟩
/-- the last name is forgotten -/
theorem z_KCx.fgt (h : z_KCx S0 i (nm :: l, fl) T mT H ρ mo S) (hf : ∀ y, y ∈ fl → y ≤ l.length) : z_KCx S0 i (l, fl) T mT H ρ mo (S.1, S.2.1, S.2.2.1, z_v S.2.2.2.1 27 10 (nI l.length), S.2.2.2.2.1, S.2.2.2.2.2) := by
  obtain ⟨h1, h2, h3, h4, h5, h6, h7, h8⟩ := h
  have ov : ∀ k j, ¬ (k = 27 ∧ j = 10) → z_v S.2.2.2.1 27 10 (nI l.length) k j = S.2.2.2.1 k j := fun k j q => z_vn q
  exact ⟨h1.kp (fun _ _ _ => rfl) (ov 8 4 (by decide)), h2, ⟨h3.1, h3.2.1, h3.2.2.1, fun k j a b => (ov k j (fun q => b q.1)).trans (h3.2.2.2.1 k j a b), h3.2.2.2.2.1, h3.2.2.2.2.2⟩, h4, ⟨(ov 27 7 (by decide)).trans h5.1, (show z_v S.2.2.2.1 27 10 (nI l.length) 27 10 = nI l.length from z_vk), (ov 27 16 (by decide)).trans h5.2.2⟩, h6.2, ⟨h7.1, h7.2.1, hf⟩, h8.1, Nat.le_trans (Nat.le_succ _) h8.2.1, h8.2.2⟩
/-- a region opened, and one name bound in it -/
theorem z_KCx.fnb (h : z_KCx S0 i x T mT H ρ mo S) (hN : N = x.1.length) (h1 : N < 128) : z_KCx S0 i (nm :: x.1, N :: x.2) T mT H (ρ + 1) (N + 1) (z_bnc N (ρ + 1) nm ty (N + 1) (z_opn (ρ + 1) N a S)) := by
  subst hN
  have q : z_KCx S0 i (nm :: x.1, x.1.length :: x.2) T mT H (ρ + 1) (max x.1.length (x.1.length + 1)) (z_bnc x.1.length (ρ + 1) nm ty (max x.1.length (x.1.length + 1)) (z_opn (ρ + 1) x.1.length a S)) := z_KCx.bnc (z_KCx.opn (a := a) h (by omega)) h1
  rw [Nat.max_eq_right (Nat.le_succ _)] at q
  exact q
theorem z_KCx.fF (h : z_KCx S0 i (l, N :: fl) T mT H ρ mo S) : z_fn 0 (S.1 34) ρ = nI N := by
  have q : (N :: fl).length = ρ + 1 := h.2.2.2.2.2.2.1.1
  rw [List.length_cons] at q
  rw [← show fl.length = ρ by omega]
  exact h.2.2.2.2.2.2.1.2.1.1
/-- rows that stay -/
theorem z_Fk.eqA {s e H' ρ' N' : Nat} (h : ∀ k, ¬ (9 ≤ k ∧ k ≤ 12) → S'.1 k = S.1 k) : z_Fk s e H' ρ' N' S S' := ⟨fun k a b j c => by rw [h k (by omega)], fun k a b j c => by rw [h k (by omega)], fun k a j c => by rw [h k (by omega)], fun j c => by rw [h 35 (by decide)], fun k a j c => by rw [h k (by omega)]⟩
theorem z_cf_1 {L : List (Nat × Int32)} {s : Nat} (h : z_fn 0 L s = 17 ∨ z_fn 0 L s = 19 ∨ z_fn 0 L s = 24) : z_cf L (s + 1) = z_cf L s + 1 := by
  show z_cf L s + (if z_fn 0 L s = 17 ∨ z_fn 0 L s = 19 ∨ z_fn 0 L s = 24 then 1 else 0) = _
  rw [if_pos h]
end ZKX
section ZRF
variable {R0 R : z_RS} {T : Nat → Nat × Nat × Int32} {mT cc P a r : Nat} {e : Int32}
/-- the reference makes the type of a function -/
theorem r158x {l : Nat} (h : z_KR R0 T mT cc P R) (hm : mT < 1500) (ha : a < mT) (hr : r < mT) : ∃ (T' : Nat → Nat × Nat × Int32) (m' q : Nat) (R' : z_RS), z_Rr (l + 1) 158 0 [(0, .ref 148), (1, .int (nI a)), (2, .int (nI r)), (3, .int e)] [] R (some (.int (nI q))) R' ∧ z_KR R0 T' m' cc P R' ∧ z_To T mT a r e T' m' q ∧ (∀ k, ¬ (46 ≤ k ∧ k ≤ 48) → R'.1 k = R.1 k) ∧ (∀ k j, ¬ (k = 41 ∧ j = 13) → R'.2.2 k j = R.2.2 k j) := by
  obtain ⟨v, R', w1, T', m', q, rfl, w2, w3, w4, w5, w6⟩ := w158 (l := l) (B := R.1) (M := R.2.1) (U := R.2.2) (x := a) (y := r) (e := e) (Q := fun v R' => ∃ T' m' i, v = some (.int (nI i)) ∧ z_TyR R'.1 R'.2.2 T' m' ∧ z_To T mT a r e T' m' i ∧ (∀ k, ¬ (46 ≤ k ∧ k ≤ 48) → R'.1 k = R.1 k) ∧ (∀ k j, ¬ (k = 41 ∧ j = 13) → R'.2.2 k j = R.2.2 k j) ∧ R'.2.1 = R.2.1) h.1 hm ha hr (fun T' m' i B' U' t1 t2 t3 t4 => ⟨T', m', i, rfl, t1, t2, t3, t4, rfl⟩)
  refine ⟨T', m', q, R', w1, ⟨w2, h.2.1.tr ⟨fun k a b => w4 k (by omega), fun k _ => by rw [w6], fun k j a => w5 k j (by omega)⟩, (w5 41 77 (by decide)).trans h.2.2.1, (w5 41 82 (by decide)).trans h.2.2.2.1, (w5 41 11 (by decide)).trans h.2.2.2.2.1, (w5 41 12 (by decide)).trans h.2.2.2.2.2⟩, w3, w4, w5⟩
/-- one that it has -/
theorem r158h {l i : Nat} {Q : Option Value → z_RS → Prop} (h : z_TyR R.1 R.2.2 T mT) (ha : a < mT) (hr : r < mT) (i3 : 3 ≤ i) (im : i < mT) (hi : T i = (a, r, e)) (k : Q (some (.int (nI i))) R) : z_WR (l + 1) 158 0 [(0, .ref 148), (1, .int (nI a)), (2, .int (nI r)), (3, .int e)] [] R Q := by
  obtain ⟨hT, hb, hU, hA⟩ := id h
  have loop : ∀ q j, 3 ≤ j → j + q = i → z_WR (l + 1) 158 3 [(0, .ref 148), (1, .int (nI a)), (2, .int (nI r)), (3, .int e), (4, .int (nI j))] [] R Q := by
    intro q
    induction q with
    | zero =>
      intro j j3 hj
      have hj : j = i := by omega
      subst hj
      have ci : (nI j).toNatClampNeg = j := nI_clamp (by omega)
      have zi : z_in (nI j) 1500 = true := z_inI (by omega) (by decide)
      obtain ⟨a1, a2, a3⟩ := hA j i3 im
      refine t158_3 (B := R.1) (M := R.2.1) (U := R.2.2) ?_
      unfold p158_3
      rw [if_neg (by rw [hU]; exact nI_ge (by omega) (by omega))]
      refine ⟨zi, ?_⟩
      rw [ci, a1, hi, if_pos rfl]
      refine ⟨zi, ?_⟩
      rw [ci, a2, hi, if_pos rfl]
      refine ⟨zi, ?_⟩
      rw [ci, a3, hi, if_pos rfl]
      exact k
    | succ q ih =>
      intro j j3 hj
      have ci : (nI j).toNatClampNeg = j := nI_clamp (by omega)
      have zi : z_in (nI j) 1500 = true := z_inI (by omega) (by decide)
      obtain ⟨a1, a2, a3⟩ := hA j j3 (by omega)
      have ne : T j ≠ (a, r, e) := by
        rw [← hi]
        exact (hT.2 i i3 im).2.2 j j3 (by omega)
      obtain ⟨b1, b2, -⟩ := hT.2 j j3 (by omega)
      have nx : p158_48 l R.1 R.2.1 R.2.2 (nI a) (nI r) e (nI j) Q := by
        unfold p158_48
        rw [nI_1]
        exact ih (j + 1) (by omega) (by omega)
      refine t158_3 (B := R.1) (M := R.2.1) (U := R.2.2) ?_
      unfold p158_3
      rw [if_neg (by rw [hU]; exact nI_ge (by omega) (by omega))]
      refine ⟨zi, ?_⟩
      rw [ci, a1]
      by_cases h1 : nI (T j).1 = nI a
      · rw [if_pos h1]
        refine ⟨zi, ?_⟩
        rw [ci, a2]
        by_cases h2 : nI (T j).2.1 = nI r
        · rw [if_pos h2]
          refine ⟨zi, ?_⟩
          rw [ci, a3]
          by_cases h3 : (T j).2.2 = e
          · have e1 := (nI_eq (by omega) (by omega)).mp h1
            have e2 := (nI_eq (by omega) (by omega)).mp h2
            exact absurd (Prod.ext e1 (Prod.ext e2 h3)) ne
          · rw [if_neg h3]
            exact nx
        · rw [if_neg h2]
          exact nx
      · rw [if_neg h1]
        exact nx
  exact t158_0 (B := R.1) (M := R.2.1) (U := R.2.2) (loop (i - 3) 3 (Nat.le_refl _) (by omega))
end ZRF
section ZKY
variable {S0 S : z_CS} {i ce : Nat} {x : List Int32 × List Nat} {l : List Int32} {f : List Nat} {T : Nat → Nat × Nat × Int32} {mT H ρ mo mo' N : Nat} {nm ty a : Int32}
theorem z_KCx.bnx (h : z_KCx S0 i x T mT H ρ mo S) (hN : N = x.1.length) (h1 : N < 128) (hmo : mo' = max mo (N + 1)) : z_KCx S0 i (nm :: x.1, x.2) T mT H ρ mo' (z_bnc N ρ nm ty mo' S) := by
  subst hN hmo
  exact z_KCx.bnc h h1
theorem k87x {lv : Nat} {Q : z_V → z_CS → Prop} {G : z_CS → Prop} (h : z_KCx S0 i x T mT H ρ mo S) (hN : N = x.1.length) (h1 : N < 128) (hmo : mo' = max mo (N + 1)) (hρ : ρ < 64) (k : G (z_bnc N ρ nm ty mo' S)) : z_WC (lv + 1) 87 0 [(0, .ref 134), (1, .int nm), (2, .int ty)] [] S (z_cx Q (fun x S1 => x = none ∧ G S1)) := by
  subst hN hmo
  exact k87 h h1 hρ k
theorem k98x {lv : Nat} {Q : z_V → z_CS → Prop} {G : z_CS → Prop} (h : z_KCx S0 i x T mT H ρ mo S) (hN : N = x.1.length) (hρ : ρ + 1 < 64) (k : G (z_opn (ρ + 1) N a S)) : z_WC (lv + 1) 98 0 [(0, .ref 134), (1, .int a)] [] S (z_cx Q (fun x S1 => x = none ∧ G S1)) := by
  subst hN
  exact k98 h hρ k
theorem k92x {lv a : Nat} {Q : z_V → z_CS → Prop} {G : Int32 → z_CS → Prop} (h : z_KCx S0 i x T mT H ρ mo S) (ha : a < mT) (a3 : 3 ≤ a) (k : G (nI (T a).1) S) : z_WC (lv + 1) 92 0 [(0, .ref 115), (1, .int (nI a))] [] S (z_cx Q (fun x S1 => ∃ v : Int32, x = some (.int v) ∧ G v S1)) := by
  have ca : (nI a).toNatClampNeg = a := nI_clamp (by have := h.1.2.1.1; omega)
  have b := h.2.1.1 9 rfl
  have c := z_mxl_b 9
  have d := h.1.2.2.2.1.1
  refine t92_0 (A := S.1) (E := S.2.1) (N := S.2.2.1) (V := S.2.2.2.1) (W := S.2.2.2.2.1) (c := S.2.2.2.2.2) ?_
  unfold p92_0
  rw [ca, (h.1.2.2.2.2.2 a a3 ha).1]
  exact ⟨z_inI (by omega) (by omega), nI (T a).1, rfl, k⟩
/-- the class wants effects of a row -/
theorem k102 {lv q : Nat} {row : Int32} {Q : z_V → z_CS → Prop} {G : z_CS → Prop} (hq : q < 256) (h : (z_fn 0 (S.1 29) q &&& (row ^^^ (-1))) = 0) (k : G S) : z_WC (lv + 1) 102 0 [(0, .ref 134), (1, .int (nI q)), (2, .int row)] [] S (z_cx Q (fun x S1 => x = none ∧ G S1)) := by
  have cq : (nI q).toNatClampNeg = q := nI_clamp (by omega)
  refine t102_0 (A := S.1) (E := S.2.1) (N := S.2.2.1) (V := S.2.2.2.1) (W := S.2.2.2.2.1) (c := S.2.2.2.2.2) ?_
  unfold p102_0
  rw [cq, if_pos h]
  exact ⟨z_inI hq (by decide), rfl, k⟩
theorem k102f {lv q : Nat} {row : Int32} {Q : z_V → z_CS → Prop} {K : Option Value → z_CS → Prop} (hr : z_Rk S.2.2.1 S.2.2.2.2.2) (hq : q < 256) (h : ¬ (z_fn 0 (S.1 29) q &&& (row ^^^ (-1))) = 0) (k : ∀ S', z_Yd 7 (z_fn 0 (S.1 30) q) S S' → Q (.inr 10) S') : z_WC (lv + 1) 102 0 [(0, .ref 134), (1, .int (nI q)), (2, .int row)] [] S (z_cx Q K) := by
  have cq : (nI q).toNatClampNeg = q := nI_clamp (by omega)
  refine t102_0 (A := S.1) (E := S.2.1) (N := S.2.2.1) (V := S.2.2.2.1) (W := S.2.2.2.2.1) (c := S.2.2.2.2.2) ?_
  unfold p102_0
  rw [cq, if_neg h]
  refine ⟨z_inI hq (by decide), ?_⟩
  unfold p102_13
  rw [cq]
  exact ⟨z_inI hq (by decide), hr.rm.1, k50q hr (fun S' hy => ⟨rfl, k S' hy⟩)⟩
/-- the class comes to a name that is bound -/
theorem k86 {g : Nat} (hC : z_KC S0 g T mT (H + 1) ρ mo S) (h0 : z_K0 S0 ce) (gce : g < ce) (hog : z_fn 0 (S0.1 14) g = 4) (hN : N = (z_ctx S0.1 g).1.length) (n128 : N < 120) (ρ64 : ρ < 64) (H256 : H + 1 < 256) (hmo : mo' = max mo (N + 1)) (hnm : nm = z_fn 0 (S0.1 15) g) (hty : ty = z_fn 0 (S.1 28) H) : ∃ F, (z_ctx S0.1 g).2.headD 0 = F ∧ F ≤ N ∧ ∀ Q, z_WC 64 82 31 [(0, .ref 134), (1, .int (nI (g + 1)))] [] (z_row 15 g (nI (N - F)) (z_bnc N ρ nm ty mo' S)) Q → z_WC 64 82 31 [(0, .ref 134), (1, .int (nI g))] [] S Q := by
  have cg' : (nI g).toNatClampNeg = g := nI_clamp (by have := h0.2.1; omega)
  have e71 : S.2.2.2.1 27 7 - 1 = nI H := by rw [hC.2.2.2.2.1.1]; exact nI_pred H
  have cH : (nI H).toNatClampNeg = H := nI_clamp (by omega)
  have zH : z_in (nI H) 256 = true := z_inI (by omega) (by decide)
  have cρ : (nI ρ).toNatClampNeg = ρ := nI_clamp (by omega)
  have zρ : z_in (nI ρ) 64 = true := z_inI ρ64 (by decide)
  obtain ⟨F, hF0, hF1, hF2⟩ : ∃ F, (z_ctx S0.1 g).2.headD 0 = F ∧ z_fn 0 (S.1 34) ρ = nI F ∧ F ≤ N := by
    have hF := hC.2.2.2.2.2.2.1
    cases hl : (z_ctx S0.1 g).2 with
    | nil =>
      rw [hl] at hF
      exact absurd hF.1 (by show ¬ 0 = ρ + 1; omega)
    | cons f r =>
      rw [hl] at hF
      have e : r.length = ρ := by
        have q := hF.1
        rw [List.length_cons] at q
        omega
      refine ⟨f, rfl, ?_, by rw [hN]; exact hF.2.2 f (List.mem_cons_self ..)⟩
      rw [← e]
      exact hF.2.1.1
  have e15 : z_fn 0 (S.1 15) g = nm := by
    rw [hnm]
    exact hC.2.2.2.1 15 (by decide) g (Nat.le_refl _)
  have v10 : S.2.2.2.1 27 10 = nI N := by rw [hN]; exact hC.2.2.2.2.1.2.1
  have v16 : S.2.2.2.1 27 16 = nI ρ := hC.2.2.2.2.1.2.2
  refine ⟨F, hF0, hF2, fun Q hQ => ?_⟩
  refine k83 (o := 4) hC h0 gce hog (by decide) ?_
  refine t83_0 (A := S.1) (E := S.2.1) (N := S.2.2.1) (V := S.2.2.2.1) (W := S.2.2.2.2.1) (c := S.2.2.2.2.2) ?_
  have eo : z_fn 0 (S.1 14) g = 4 := (hC.2.2.2.1 14 (by decide) g (Nat.le_refl _)).trans hog
  unfold p83_0
  rw [cg', eo]
  refine ⟨hC.in h0 gce (by decide) (by decide), ?_⟩
  rw [if_neg (by decide), if_neg (by decide), if_pos rfl]
  refine ⟨hC.2.1.rm.1, t86_0 (l := 61) ?_⟩
  unfold p86_0
  rw [cg', e15, e71, cH, ← hty, v10, v16, cρ, hF1, pk_sub hF2]
  refine ⟨zρ, hC.in h0 gce (by decide) (by decide), zH, hC.2.1.rm.1, ?_⟩
  refine k87x (lv := 60) (x := z_ctx S0.1 g) (G := fun S2 => p86_39 61 S2.1 S2.2.1 S2.2.2.1 S2.2.2.2.1 S2.2.2.2.2.1 S2.2.2.2.2.2 (nI g) (nI (N - F)) _) hC hN (by omega) hmo ρ64 ?_
  unfold p86_39
  rw [cg']
  exact ⟨hC.in h0 gce (by decide) (by decide), rfl, rfl, hQ⟩
/-- the class comes to where a name is forgotten -/
theorem k126 {d : Nat} {E tz p : Int32} {Q : z_V → z_CS → Prop} (hC : z_KC S0 d T mT (H + 2) ρ mo S) (h0 : z_K0 S0 ce) (hdc : d < ce) (ho : z_fn 0 (S0.1 14) d = 5) (hx : z_ctx S0.1 d = (nm :: l, f)) (hf : ∀ y, y ∈ f → y ≤ l.length) (H256 : H + 2 ≤ 256) (htz : tz = z_fn 0 (S.1 28) (H + 1)) (hE : (0 ||| z_fn 0 (S.1 29) (H + 1)) ||| z_fn 0 (S.1 29) H = E) (h19 : z_fn 0 (S0.1 19) d = p) (k : ∀ S', S'.1 = S.1 → z_KC S0 (d + 1) T mT H ρ mo S' → z_WC 64 82 31 [(0, .ref 134), (1, .int (nI (d + 1)))] [] (z_hold H tz E p S') Q) : z_WC 64 82 31 [(0, .ref 134), (1, .int (nI d))] [] S Q := by
  have cd : (nI d).toNatClampNeg = d := nI_clamp (by have := h0.2.1; omega)
  have eo : z_fn 0 (S.1 14) d = 5 := (hC.2.2.2.1 14 (by decide) d (Nat.le_refl _)).trans ho
  have v71 : S.2.2.2.1 27 7 - 1 = nI (H + 1) := by rw [hC.2.2.2.2.1.1]; exact nI_pred (H + 1)
  have ch1 : (nI (H + 1)).toNatClampNeg = H + 1 := nI_clamp (by omega)
  have zh1 : z_in (nI (H + 1)) 256 = true := z_inI (by omega) (by decide)
  have cxd : z_ctx S0.1 (d + 1) = (l, f) := by
    rw [z_ctx_s ho, hx]
    rfl
  have hCx : z_KCx S0 d (nm :: l, f) T mT (H + 2) ρ mo S := by
    rw [← hx]
    exact hC
  have vN : S.2.2.2.1 27 10 - 1 = nI l.length := by
    rw [hCx.2.2.2.2.1.2.1]
    exact nI_pred _
  obtain ⟨S2b, hS2b⟩ : ∃ X : z_CS, X = (S.1, S.2.1, S.2.2.1, z_v S.2.2.2.1 27 10 (nI l.length), S.2.2.2.2.1, S.2.2.2.2.2) := ⟨_, rfl⟩
  have hCb : z_KC S0 (d + 1) T mT (H + 2) ρ mo S2b := by
    unfold z_KC
    rw [cxd, hS2b]
    exact (hCx.fgt hf).mv (Nat.le_succ d)
  refine k83 (o := 5) hC h0 hdc ho (by decide) ?_
  refine t83_0 (A := S.1) (E := S.2.1) (N := S.2.2.1) (V := S.2.2.2.1) (W := S.2.2.2.2.1) (c := S.2.2.2.2.2) ?_
  unfold p83_0
  rw [cd, eo]
  refine ⟨hC.in h0 hdc (by decide) (by decide), ?_⟩
  rw [if_neg (by decide), if_neg (by decide), if_neg (by decide), if_pos rfl]
  unfold p83_126
  rw [v71, ch1, ← htz, vN, ← hS2b]
  refine ⟨zh1, hC.2.1.rm.1, ?_⟩
  refine k88 (l := 60) (p := 2) (G := fun S1 => p83_153 62 S1.1 S1.2.1 S1.2.2.1 S1.2.2.2.1 S1.2.2.2.2.1 S1.2.2.2.2.2 (nI d) _) hCb h0 hdc H256 (by decide) (by omega) ?_
  intro S3 s1 s2 s3 hC3
  have ez : z_orr (S2b.1 29) (H + 2) 2 = E := by
    rw [hS2b]
    exact hE
  rw [h19, ez]
  exact ⟨rfl, k S3 (s1.trans (by rw [hS2b])) hC3⟩
end ZKY
/-- what the type of a function of the class is made of -/
theorem z_Fq.cut {τ : z_TT} {x y1 y2 e : Int32} (h1 : z_Tw τ.1.1 τ.1.2) (h2 : z_Tw τ.2.1 τ.2.2) (h : z_Fq τ x y1 y2 e) : ∃ i a r i1 i2, x = nI i ∧ 3 ≤ i ∧ i < τ.1.2 ∧ τ.1.1 i = (a, r, e) ∧ y1 = nI i1 ∧ y2 = nI i2 ∧ i1 < τ.2.2 ∧ i2 < τ.2.2 ∧ z_dt τ.1.1 a = z_dt τ.2.1 i1 ∧ z_dt τ.1.1 r = z_dt τ.2.1 i2 := by
  obtain ⟨i, i1, i2, rfl, i3, il, rfl, rfl, l1, l2, hd⟩ := h
  rw [z_dt_s h1 i3 il] at hd
  obtain ⟨e1, e2⟩ := List.cons.inj hd
  obtain ⟨a1, a2, -⟩ := h1.2 i i3 il
  obtain ⟨f1, f2⟩ := z_dt_x h1 h2 _ (by omega) _ l1 _ _ e2
  have e3 : (τ.1.1 i).2.2 = e := z_u32i (by omega)
  refine ⟨i, (τ.1.1 i).1, (τ.1.1 i).2.1, i1, i2, rfl, i3, il, Prod.ext rfl (Prod.ext rfl e3), rfl, rfl, l1, l2, f1, f2⟩
