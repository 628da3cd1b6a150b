/-! Checking, both together: what fits; an operation. -/
section ZRA
variable {S0 S : z_CS} {i ce : Nat} {T : Nat → Nat × Nat × Int32} {mT H ρ mo : Nat}
theorem z_KC.wr (h : z_KC S0 i T mT H ρ mo S) {k j : Nat} {x : Int32} (hk : k = 29 ∨ k = 36 ∨ k = 37) : z_KC S0 i T mT H ρ mo (z_row k j x S) := by
  obtain ⟨h1, h2, h3, h4, h5, h6, h7, h8⟩ := h
  have o : ∀ q, q ≠ k → (z_row k j x S).1 q = S.1 q := fun q hq => z_row_o hq
  refine ⟨h1.kp (fun q a b => o q (by omega)) rfl, h2, ⟨fun q a b c => (o q (by omega)).trans (h3.1 q a b c), h3.2⟩, fun q a r c => ?_, h5, ?_, ⟨h7.1, ?_, h7.2.2⟩, ?_, h8.2⟩
  · rw [o q (by omega)]
    exact h4 q a r c
  · rw [o 31 (by omega)]
    exact h6
  · rw [o 34 (by omega)]
    exact h7.2.1
  · rw [o 35 (by omega)]
    exact h8.1
/-- the class wants what fits -/
theorem k93 {l q a t : Nat} {Q : z_V → z_CS → Prop} {G : z_CS → Prop} (hl : 53 ≤ l) (hK : z_KC S0 i T mT H ρ mo S) (hq : q < 256) (ha : z_fn 0 (S.1 28) q = nI a) (a1 : a < mT) (t1 : t < mT) (hf : z_ftt T a t) (k : G S) : z_WC (l + 1) 93 0 [(0, .ref 134), (1, .int (nI q)), (2, .int (nI t))] [] S (z_cx Q (fun x S1 => x = none ∧ G S1)) := by
  have cq : (nI q).toNatClampNeg = q := nI_clamp (by omega)
  have hv := z_Tv.all hK.1.1 hK.1.2.1.2
  refine t93_0 (A := S.1) (E := S.2.1) (N := S.2.2.1) (V := S.2.2.2.1) (W := S.2.2.2.2.1) (c := S.2.2.2.2.2) ?_
  unfold p93_0
  rw [cq, ha]
  refine ⟨z_inI hq (by decide), hK.2.1.rm.1, (w94 hK.1 hK.2.1 51 a t 0 rfl a1 t1 (hv a a1) (hv t t1) _ ?_).up hl⟩
  intro v hv
  refine ⟨v, rfl, ?_⟩
  unfold p93_15
  rcases hv with ⟨rfl, -⟩ | ⟨-, q⟩
  · rw [if_neg (by decide)]
    exact ⟨rfl, k⟩
  · exact absurd hf q
theorem k93f {l q a t : Nat} {Q : z_V → z_CS → Prop} {K : Option Value → z_CS → Prop} (hl : 53 ≤ l) (hK : z_KC S0 i T mT H ρ mo S) (hq : q < 256) (ha : z_fn 0 (S.1 28) q = nI a) (a1 : a < mT) (t1 : t < mT) (hf : ¬ z_ftt T a t) (k : ∀ S', z_Yd 6 (z_fn 0 (S.1 30) q) S S' → Q (.inr 10) S') : z_WC (l + 1) 93 0 [(0, .ref 134), (1, .int (nI q)), (2, .int (nI t))] [] S (z_cx Q K) := by
  have cq : (nI q).toNatClampNeg = q := nI_clamp (by omega)
  have hv := z_Tv.all hK.1.1 hK.1.2.1.2
  refine t93_0 (A := S.1) (E := S.2.1) (N := S.2.2.1) (V := S.2.2.2.1) (W := S.2.2.2.2.1) (c := S.2.2.2.2.2) ?_
  unfold p93_0
  rw [cq, ha]
  refine ⟨z_inI hq (by decide), hK.2.1.rm.1, (w94 hK.1 hK.2.1 51 a t 0 rfl a1 t1 (hv a a1) (hv t t1) _ ?_).up hl⟩
  intro v hv
  refine ⟨v, rfl, ?_⟩
  unfold p93_15
  rcases hv with ⟨-, q⟩ | ⟨rfl, -⟩
  · exact absurd q hf
  · rw [if_pos rfl]
    unfold p93_18
    rw [cq]
    exact ⟨z_inI hq (by decide), hK.2.1.rm.1, k50q hK.2.1 (fun S' hy => ⟨rfl, k S' hy⟩)⟩
theorem z_Tqd.le {D D' : Nat} {τ : z_TT} {x y : Int32} (h : z_Tqd D τ x y) (hD : D ≤ D') : z_Tqd D' τ x y := by
  obtain ⟨i, i', h1, h2, h3, h4, h5, h6⟩ := h
  exact ⟨i, i', h1, h2, h3, h4, h5, Nat.le_trans h6 hD⟩
/-- what the reference's fits leaves -/
theorem z_XU_fit {R : z_RS} {B' : Nat → List (Nat × Int32)} {M' : Nat → List (Nat × Int64)} (h1 : ∀ k, k ≠ 49 → B' k = R.1 k) (h2 : ∀ k, k ≠ 50 → M' k = R.2.1 k) : z_XU R (B', M', R.2.2) := ⟨fun k a b => h1 k (by omega), h2, fun _ _ _ => rfl⟩
theorem z_Fl_fit {R : z_RS} {B' : Nat → List (Nat × Int32)} {M' : Nat → List (Nat × Int64)} {u : z_Bd} {cc P : Nat} (h1 : ∀ k, k ≠ 49 → B' k = R.1 k) : z_Fl u cc P R (B', M', R.2.2) := ⟨fun k a b j c => by show z_fn 0 (B' k) j = _; rw [h1 k (by omega)], fun k a b j c => by show z_fn 0 (B' k) j = _; rw [h1 k (by omega)], fun k a b j c => by show z_fn 0 (B' k) j = _; rw [h1 k (by omega)]⟩
theorem z_KR.fit {R0 R : z_RS} {T : Nat → Nat × Nat × Int32} {mT cc P : Nat} {B' : Nat → List (Nat × Int32)} {M' : Nat → List (Nat × Int64)} (h : z_KR R0 T mT cc P R) (h1 : ∀ k, k ≠ 49 → B' k = R.1 k) (h2 : ∀ k, k ≠ 50 → M' k = R.2.1 k) : z_KR R0 T mT cc P (B', M', R.2.2) := ⟨h.1.kp (fun k a b => h1 k (by omega)) rfl, h.2.1.tr (z_XU_fit h1 h2), h.2.2.1, h.2.2.2.1, h.2.2.2.2⟩
end ZRA
