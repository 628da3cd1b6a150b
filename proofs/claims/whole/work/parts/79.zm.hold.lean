/-! Checking, of the class: the loop over the instructions; holding, joining. -/
theorem z_TyC.kp {A A' : Nat → List (Nat × Int32)} {N : Nat → Nat} {V V' : Nat → Nat → Int32} {T : Nat → Nat × Nat × Int32} {m : Nat} (h : z_TyC A N V T m) (hA : ∀ k, 9 ≤ k → k ≤ 12 → A' k = A k) (hV : V' 8 4 = V 8 4) : z_TyC A' N V' T m := by
  unfold z_TyC at h ⊢
  rw [hV, hA 9 (by decide) (by decide), hA 10 (by decide) (by decide), hA 11 (by decide) (by decide), hA 12 (by decide) (by decide)]
  exact h
/-- the program that is checked: ce instructions -/
def z_K0 (S0 : z_CS) (ce : Nat) : Prop := S0.2.2.2.1 13 6 = nI ce ∧ ce ≤ 5000 ∧ (∀ k, 14 ≤ k → k ≤ 19 → ce ≤ S0.2.2.1 k) ∧ S0.2.2.2.2.1 < 107
section ZM
variable {S0 S : z_CS} {i ce : Nat} {T : Nat → Nat × Nat × Int32} {mT H ρ mo : Nat}
theorem z_KC.in (h : z_KC S0 i T mT H ρ mo S) (h0 : z_K0 S0 ce) {j : Nat} (hj : j < ce) {k : Nat} (k1 : 14 ≤ k) (k2 : k ≤ 19) : z_in (nI j) (S.2.2.1 k) = true := by
  have e := h.2.2.1.2.2.1 k (by omega)
  have b := h.2.1.1 k (by unfold z_gk; rcases (show k = 14 ∨ k = 15 ∨ k = 16 ∨ k = 17 ∨ k = 18 ∨ k = 19 by omega) with rfl | rfl | rfl | rfl | rfl | rfl <;> rfl)
  have q := h0.2.2.1 k k1 k2
  have c := z_mxl_b k
  exact z_inI (by omega) (by omega)
theorem z_KC.adv (h : z_KC S0 i T mT H ρ mo S) (e : z_ctx S0.1 (i + 1) = z_ctx S0.1 i) : z_KC S0 (i + 1) T mT H ρ mo S := by
  obtain ⟨h1, h2, h3, h4, h5, h6, h7, h8⟩ := h
  refine ⟨h1, h2, h3, fun k a j c => h4 k a j (by omega), ?_, ?_, ?_, ?_⟩
  · rw [e]; exact h5
  · rw [e]; exact h6
  · rw [e]; exact h7
  · rw [e]; exact h8
/-- the loop comes to instruction i, a part -/
theorem k83 {o : Nat} (h : z_KC S0 i T mT H ρ mo S) (h0 : z_K0 S0 ce) (hi : i < ce) (ho : z_fn 0 (S0.1 14) i = nI o) (o17 : o < 17) {Q : z_V → z_CS → Prop} (k : z_WC 63 83 0 [(0, .ref 134), (1, .int (nI i))] [] S (z_cx Q (fun x S1 => x = none ∧ z_WC 64 82 31 [(0, .ref 134), (1, .int (nI (i + 1)))] [] S1 Q))) : z_WC 64 82 31 [(0, .ref 134), (1, .int (nI i))] [] S Q := by
  have ce5 := h0.2.1
  have ci : (nI i).toNatClampNeg = i := nI_clamp (by omega)
  have eo : z_fn 0 (S.1 14) i = nI o := (h.2.2.2.1 14 (by decide) i (Nat.le_refl _)).trans ho
  have ec : S.2.2.2.1 13 6 = nI ce := (h.2.2.1.2.2.2.1 13 6 (by decide) (by decide)).trans h0.1
  refine t82_31 (A := S.1) (E := S.2.1) (N := S.2.2.1) (V := S.2.2.2.1) (W := S.2.2.2.2.1) (c := S.2.2.2.2.2) ?_
  unfold p82_31
  rw [ec, if_neg (nI_ge hi (by omega))]
  unfold p82_42
  rw [ci, eo]
  refine ⟨h.in h0 hi (by decide) (by decide), ?_⟩
  rw [if_neg (show ¬ (17 : Int32) ≤ nI o from nI_ge (b := 17) o17 (by decide))]
  refine ⟨h.2.1.rm.1, ?_⟩
  unfold p82_61 p82_69
  rw [nI_1]
  exact k
/-- and to one of a region -/
theorem k97 {o : Nat} (h : z_KC S0 i T mT H ρ mo S) (h0 : z_K0 S0 ce) (hi : i < ce) (ho : z_fn 0 (S0.1 14) i = nI o) (o17 : 17 ≤ o) (o99 : o ≤ 99) {Q : z_V → z_CS → Prop} (k : z_WC 63 97 0 [(0, .ref 134), (1, .int (nI i))] [] S (z_cx Q (fun x S1 => x = none ∧ z_WC 64 82 31 [(0, .ref 134), (1, .int (nI (i + 1)))] [] S1 Q))) : z_WC 64 82 31 [(0, .ref 134), (1, .int (nI i))] [] S Q := by
  have ce5 := h0.2.1
  have ci : (nI i).toNatClampNeg = i := nI_clamp (by omega)
  have eo : z_fn 0 (S.1 14) i = nI o := (h.2.2.2.1 14 (by decide) i (Nat.le_refl _)).trans ho
  have ec : S.2.2.2.1 13 6 = nI ce := (h.2.2.1.2.2.2.1 13 6 (by decide) (by decide)).trans h0.1
  refine t82_31 (A := S.1) (E := S.2.1) (N := S.2.2.1) (V := S.2.2.2.1) (W := S.2.2.2.2.1) (c := S.2.2.2.2.2) ?_
  unfold p82_31
  rw [ec, if_neg (nI_ge hi (by omega))]
  unfold p82_42
  rw [ci, eo]
  refine ⟨h.in h0 hi (by decide) (by decide), ?_⟩
  rw [if_pos (show (17 : Int32) ≤ nI o from nI_le (a := 17) o17 (by omega))]
  refine ⟨h.2.1.rm.1, ?_⟩
  unfold p82_69
  rw [nI_1]
  exact k
/-- fewer are held -/
theorem z_KC.pop (h : z_KC S0 i T mT H ρ mo S) (H' : Nat) : z_KC S0 i T mT H' ρ mo (S.1, S.2.1, S.2.2.1, z_v S.2.2.2.1 27 7 (nI H'), S.2.2.2.2.1, S.2.2.2.2.2) := by
  obtain ⟨h1, h2, h3, h4, h5, h6, h7, h8⟩ := h
  refine ⟨h1.kp (fun _ _ _ => rfl) (show z_v S.2.2.2.1 27 7 (nI H') 8 4 = S.2.2.2.1 8 4 from z_vn (by decide)), h2, ⟨h3.1, h3.2.1, h3.2.2.1, fun k j a b => ?_, h3.2.2.2.2.1, h3.2.2.2.2.2⟩, h4, ⟨(show z_v S.2.2.2.1 27 7 (nI H') 27 7 = nI H' from z_vk), ?_, ?_⟩, h6, h7, h8⟩
  · show z_v S.2.2.2.1 27 7 (nI H') k j = _
    rw [z_vn (fun q => b q.1)]
    exact h3.2.2.2.1 k j a b
  · show z_v S.2.2.2.1 27 7 (nI H') 27 10 = _
    rw [z_vn (by decide)]
    exact h5.2.1
  · show z_v S.2.2.2.1 27 7 (nI H') 27 16 = _
    rw [z_vn (by decide)]
    exact h5.2.2
/-- what is held anew -/
def z_hold (H : Nat) (ty ef p : Int32) (S : z_CS) : z_CS := ((z_u (z_u (z_u S.1 28 ((H, ty) :: S.1 28)) 29 ((H, ef) :: S.1 29)) 30 ((H, p) :: S.1 30)), S.2.1, S.2.2.1, z_v S.2.2.2.1 27 7 (nI (H + 1)), S.2.2.2.2.1, S.2.2.2.2.2)
theorem z_hold_o {ty ef p : Int32} {k : Nat} (hk : ¬ (28 ≤ k ∧ k ≤ 30)) : (z_hold H ty ef p S).1 k = S.1 k := by
  show z_u (z_u (z_u S.1 28 _) 29 _) 30 _ k = S.1 k
  rw [z_un (by omega), z_un (by omega), z_un (by omega)]
theorem z_hold_28 {ty ef p : Int32} : (z_hold H ty ef p S).1 28 = (H, ty) :: S.1 28 := rfl
theorem z_hold_29 {ty ef p : Int32} : (z_hold H ty ef p S).1 29 = (H, ef) :: S.1 29 := rfl
theorem z_hold_30 {ty ef p : Int32} : (z_hold H ty ef p S).1 30 = (H, p) :: S.1 30 := rfl
theorem z_KC.hold (h : z_KC S0 i T mT H ρ mo S) (ty ef p : Int32) : z_KC S0 i T mT (H + 1) ρ mo (z_hold H ty ef p S) := by
  have q := h.pop (H + 1)
  obtain ⟨h1, h2, h3, h4, h5, h6, h7, h8⟩ := q
  refine ⟨h1.kp (fun k a b => z_hold_o (by omega)) rfl, h2, ⟨fun k a b c => (z_hold_o (by omega)).trans (h3.1 k a b c), h3.2.1, h3.2.2.1, h3.2.2.2.1, h3.2.2.2.2.1, h3.2.2.2.2.2⟩, fun k a j c => ?_, h5, ?_, ⟨h7.1, ?_⟩, ⟨?_, h8.2⟩⟩
  · rw [z_hold_o (by omega)]
    exact h4 k a j c
  · rw [z_hold_o (by omega)]
    exact h6
  · rw [z_hold_o (by omega)]
    exact h7.2
  · rw [z_hold_o (by omega)]
    exact h8.1
theorem z_Fk.hold {s e N ty ef p} {H' : Nat} (hH : H' ≤ H) : z_Fk s e H' ρ N S (z_hold H ty ef p S) := by
  refine ⟨fun k a b j c => ?_, fun k a b j c => by rw [z_hold_o (by omega)], fun k a j c => by rw [z_hold_o (by omega)], fun j c => by rw [z_hold_o (by omega)], fun k a j c => by rw [z_hold_o (by omega)]⟩
  rcases (show k = 28 ∨ k = 29 ∨ k = 30 by omega) with rfl | rfl | rfl
  · rw [z_hold_28, z_fcn (by omega)]
  · rw [z_hold_29, z_fcn (by omega)]
  · rw [z_hold_30, z_fcn (by omega)]
theorem k84 {l : Nat} {ty ef : Int32} {Q : z_V → z_CS → Prop} {G : z_CS → Prop} (h : z_KC S0 i T mT H ρ mo S) (h0 : z_K0 S0 ce) {j : Nat} (hj : j < ce) (hH : H < 256) (k : G (z_hold H ty ef (z_fn 0 (S0.1 19) j) S)) : z_WC (l + 1) 84 0 [(0, .ref 134), (1, .int ty), (2, .int ef), (3, .int (nI j))] [] S (z_cx Q (fun x S1 => x = none ∧ G S1)) := by
  have ce5 := h0.2.1
  have e7 := h.2.2.2.2.1.1
  have cH : (nI H).toNatClampNeg = H := nI_clamp (by omega)
  have cj : (nI j).toNatClampNeg = j := nI_clamp (by omega)
  have zi : z_in (nI H) 256 = true := z_inI hH (by decide)
  have e19 : S.1 19 = S0.1 19 := h.2.2.1.1 19 (by decide) (by decide) (by decide)
  refine t84_0 (A := S.1) (E := S.2.1) (N := S.2.2.1) (V := S.2.2.2.1) (W := S.2.2.2.2.1) (c := S.2.2.2.2.2) ?_
  unfold p84_0
  rw [e7, cH, cj, e19, nI_1]
  exact ⟨zi, zi, h.in h0 hj (by decide) (by decide), zi, rfl, k⟩
/-- the effects of the last p held -/
def z_orr (a : List (Nat × Int32)) (H : Nat) : Nat → Int32
  | 0 => 0
  | p + 1 => z_orr a H p ||| z_fn 0 a (H - (p + 1))
/-- the last p become one -/
theorem k88 {l p : Nat} {ty : Int32} {Q : z_V → z_CS → Prop} {G : z_CS → Prop} (h : z_KC S0 i T mT H ρ mo S) (h0 : z_K0 S0 ce) {j : Nat} (hj : j < ce) (hH : H ≤ 256) (h1 : 1 ≤ p) (hp : p ≤ H) (k : ∀ S1, S1.1 = S.1 → S1.2.1 = S.2.1 → S1.2.2.1 = S.2.2.1 → z_KC S0 i T mT (H - p) ρ mo S1 → G (z_hold (H - p) ty (z_orr (S.1 29) H p) (z_fn 0 (S0.1 19) j) S1)) : z_WC (l + 2) 88 0 [(0, .ref 134), (1, .int (nI p)), (2, .int ty), (3, .int (nI j))] [] S (z_cx Q (fun x S1 => x = none ∧ G S1)) := by
  refine t88_0 (A := S.1) (E := S.2.1) (N := S.2.2.1) (V := S.2.2.2.1) (W := S.2.2.2.2.1) (c := S.2.2.2.2.2) ?_
  unfold p88_0
  have loop : ∀ r q (S1 : z_CS), q + r = p → S1.1 = S.1 → S1.2.1 = S.2.1 → S1.2.2.1 = S.2.2.1 → z_KC S0 i T mT (H - q) ρ mo S1 → z_WC (l + 2) 88 6 [(0, .ref 134), (1, .int (nI p)), (2, .int ty), (3, .int (nI j)), (4, .int (z_orr (S.1 29) H q)), (5, .int (nI q))] [] S1 (z_cx Q (fun x S1 => x = none ∧ G S1)) := by
    intro r
    induction r with
    | zero =>
      intro q S1 hq e1 e2 e3 hK
      have hq : q = p := by omega
      subst hq
      refine t88_6 (A := S1.1) (E := S1.2.1) (N := S1.2.2.1) (V := S1.2.2.2.1) (W := S1.2.2.2.2.1) (c := S1.2.2.2.2.2) ?_
      unfold p88_6
      rw [if_pos (nI_le (Nat.le_refl _) (by omega))]
      refine ⟨hK.2.1.rm.1, k84 (l := l) (G := fun S1 => p88_50 (l + 1) S1.1 S1.2.1 S1.2.2.1 S1.2.2.2.1 S1.2.2.2.2.1 S1.2.2.2.2.2 (nI q) ty (nI j) (z_orr (S.1 29) H q) (nI q) (z_cx Q (fun x S1 => x = none ∧ G S1))) hK h0 hj (by omega) ?_⟩
      exact ⟨rfl, k S1 e1 e2 e3 hK⟩
    | succ r ih =>
      intro q S1 hq e1 e2 e3 hK
      have e7 := hK.2.2.2.2.1.1
      obtain ⟨d, hd⟩ : ∃ d, H - q = d + 1 := ⟨H - q - 1, by omega⟩
      have cd : (nI d).toNatClampNeg = d := nI_clamp (by omega)
      have e8 : S1.2.2.2.1 27 7 - 1 = nI d := by
        rw [e7, hd]
        exact nI_pred d
      refine t88_6 (A := S1.1) (E := S1.2.1) (N := S1.2.2.1) (V := S1.2.2.2.1) (W := S1.2.2.2.2.1) (c := S1.2.2.2.2.2) ?_
      unfold p88_6
      rw [if_neg (nI_ge (show q < p by omega) (by omega))]
      unfold p88_12
      rw [e8, cd, e1, nI_1]
      refine ⟨z_inI (by omega) (by decide), ?_⟩
      have e9 : z_orr (S.1 29) H q ||| z_fn 0 (S.1 29) d = z_orr (S.1 29) H (q + 1) := by
        rw [show d = H - (q + 1) by omega]
        rfl
      rw [e9]
      have hK' := hK.pop d
      rw [e1] at hK'
      refine ih (q + 1) _ (by omega) rfl e2 e3 ?_
      rw [show H - (q + 1) = d by omega]
      exact hK'
  exact loop p 0 S (by omega) rfl rfl rfl h
end ZM
