/-! Checking: names bound, regions opened and closed. -/
def z_bnc (N ρ : Nat) (nm ty : Int32) (mo : Nat) (S : z_CS) : z_CS := ((z_u (z_u (z_u S.1 31 ((N, nm) :: S.1 31)) 32 ((N, ty) :: S.1 32)) 35 ((ρ, nI mo) :: S.1 35)), S.2.1, S.2.2.1, z_v S.2.2.2.1 27 10 (nI (N + 1)), S.2.2.2.2.1, S.2.2.2.2.2)
def z_opn (ρ N : Nat) (a : Int32) (S : z_CS) : z_CS := ((z_u (z_u (z_u (z_u (z_u S.1 33 ((ρ, a) :: S.1 33)) 34 ((ρ, nI N) :: S.1 34)) 35 ((ρ, nI N) :: S.1 35)) 36 ((ρ, 0) :: S.1 36)) 37 ((ρ, 0) :: S.1 37)), S.2.1, S.2.2.1, z_v S.2.2.2.1 27 16 (nI ρ), S.2.2.2.2.1, S.2.2.2.2.2)
section ZU
variable {S0 S : z_CS} {i i' : Nat} {x : List Int32 × List Nat} {T : Nat → Nat × Nat × Int32} {mT H ρ mo N : Nat} {nm ty a : Int32}
theorem z_KCx.mv (h : z_KCx S0 i x T mT H ρ mo S) (hi : i ≤ i') : z_KCx S0 i' x T mT H ρ mo S := ⟨h.1, h.2.1, h.2.2.1, fun k q j c => h.2.2.2.1 k q j (by omega), h.2.2.2.2⟩
theorem z_bnc_o {m k : Nat} (hk : k ≠ 31) (h2 : k ≠ 32) (h3 : k ≠ 35) : (z_bnc N ρ nm ty m S).1 k = S.1 k := by
  show z_u (z_u (z_u S.1 31 ((N, nm) :: S.1 31)) 32 ((N, ty) :: S.1 32)) 35 ((ρ, nI m) :: S.1 35) k = S.1 k
  rw [z_un h3, z_un h2, z_un hk]
theorem z_bnc_31 {m : Nat} : (z_bnc N ρ nm ty m S).1 31 = (N, nm) :: S.1 31 := rfl
theorem z_bnc_32 {m : Nat} : (z_bnc N ρ nm ty m S).1 32 = (N, ty) :: S.1 32 := rfl
theorem z_bnc_35 {m : Nat} : (z_bnc N ρ nm ty m S).1 35 = (ρ, nI m) :: S.1 35 := rfl
theorem z_KCx.bnc (h : z_KCx S0 i x T mT H ρ mo S) (hN : x.1.length < 128) : z_KCx S0 i (nm :: x.1, x.2) T mT H ρ (max mo (x.1.length + 1)) (z_bnc x.1.length ρ nm ty (max mo (x.1.length + 1)) S) := by
  obtain ⟨h1, h2, h3, h4, h5, h6, h7, h8⟩ := h
  have ov : ∀ k j, ¬ (k = 27 ∧ j = 10) → (z_bnc x.1.length ρ nm ty (max mo (x.1.length + 1)) S).2.2.2.1 k j = S.2.2.2.1 k j := fun k j q => z_vn q
  refine ⟨h1.kp (fun k a b => z_bnc_o (by omega) (by omega) (by omega)) (ov 8 4 (by decide)), h2, ⟨fun k a b c => (z_bnc_o (by omega) (by omega) (by omega)).trans (h3.1 k a b c), h3.2.1, h3.2.2.1, fun k j a b => (ov k j (fun q => b q.1)).trans (h3.2.2.2.1 k j a b), h3.2.2.2.2.1, h3.2.2.2.2.2⟩, fun k a j c => ?_, ⟨(ov 27 7 (by decide)).trans h5.1, ?_, (ov 27 16 (by decide)).trans h5.2.2⟩, ⟨?_, ?_⟩, ⟨h7.1, ?_, fun y hy => Nat.le_trans (h7.2.2 y hy) (Nat.le_succ _)⟩, ?_, ?_⟩
  · rw [z_bnc_o (by omega) (by omega) (by omega)]
    exact h4 k a j c
  · show z_v S.2.2.2.1 27 10 (nI (x.1.length + 1)) 27 10 = nI (nm :: x.1).length
    rw [z_vk, List.length_cons]
  · show z_fn 0 ((z_bnc x.1.length ρ nm ty (max mo (x.1.length + 1)) S).1 31) x.1.length = nm
    rw [z_bnc_31, z_fcs]
  · refine z_Na.e x.1 (fun j hj => ?_) h6
    rw [z_bnc_31, z_fcn (by omega)]
  · rw [z_bnc_o (by decide) (by decide) (by decide)]
    exact h7.2.1
  · rw [z_bnc_35, z_fcs]
  · refine ⟨?_, Nat.max_le.mpr ⟨h8.2.2, hN⟩⟩
    show (nm :: x.1).length ≤ _
    rw [List.length_cons]
    exact Nat.le_max_right _ _
theorem z_Fk.bnc {s e H' N' m : Nat} (hN : N' ≤ N) : z_Fk s e H' ρ N' S (z_bnc N ρ nm ty m S) := by
  refine ⟨fun k a b j c => by rw [z_bnc_o (by omega) (by omega) (by omega)], fun k a b j c => ?_, fun k a j c => by rw [z_bnc_o (by omega) (by omega) (by omega)], fun j c => by rw [z_bnc_35, z_fcn (by omega)], fun k a j c => by rw [z_bnc_o (by omega) (by omega) (by omega)]⟩
  rcases (show k = 31 ∨ k = 32 by omega) with rfl | rfl
  · rw [z_bnc_31, z_fcn (by omega)]
  · rw [z_bnc_32, z_fcn (by omega)]
/-- the class binds a name -/
theorem k87 {l : Nat} {Q : z_V → z_CS → Prop} {G : z_CS → Prop} (h : z_KCx S0 i x T mT H ρ mo S) (hN : x.1.length < 128) (hρ : ρ < 64) (k : G (z_bnc x.1.length ρ nm ty (max mo (x.1.length + 1)) S)) : z_WC (l + 1) 87 0 [(0, .ref 134), (1, .int nm), (2, .int ty)] [] S (z_cx Q (fun x S1 => x = none ∧ G S1)) := by
  have cN : (nI x.1.length).toNatClampNeg = x.1.length := nI_clamp (by omega)
  have cρ : (nI ρ).toNatClampNeg = ρ := nI_clamp (by omega)
  have zN : z_in (nI x.1.length) 128 = true := z_inI hN (by decide)
  have zρ : z_in (nI ρ) 64 = true := z_inI hρ (by decide)
  have hmo : mo ≤ 128 := h.2.2.2.2.2.2.2.2.2
  have em : (if nI mo < nI (x.1.length + 1) then nI (x.1.length + 1) else nI mo) = nI (max mo (x.1.length + 1)) := by
    by_cases q : mo < x.1.length + 1
    · rw [if_pos (nI_lt q (by omega)), Nat.max_eq_right (by omega)]
    · rw [if_neg (nI_nlt (by omega) (by omega)), Nat.max_eq_left (by omega)]
  refine t87_0 (A := S.1) (E := S.2.1) (N := S.2.2.1) (V := S.2.2.2.1) (W := S.2.2.2.2.1) (c := S.2.2.2.2.2) ?_
  unfold p87_0
  rw [h.2.2.2.2.1.2.1, h.2.2.2.2.1.2.2, cN, cρ, h.2.2.2.2.2.2.2.1, nI_1, em]
  exact ⟨zN, zN, zρ, zρ, h.2.1.rm.1, rfl, k⟩
theorem z_opn_o {k : Nat} (hk : ¬ (33 ≤ k ∧ k ≤ 37)) : (z_opn ρ N a S).1 k = S.1 k := by
  show z_u (z_u (z_u (z_u (z_u S.1 33 ((ρ, a) :: S.1 33)) 34 ((ρ, nI N) :: S.1 34)) 35 ((ρ, nI N) :: S.1 35)) 36 ((ρ, 0) :: S.1 36)) 37 ((ρ, 0) :: S.1 37) k = S.1 k
  rw [z_un (by omega), z_un (by omega), z_un (by omega), z_un (by omega), z_un (by omega)]
theorem z_opn_33 : (z_opn ρ N a S).1 33 = (ρ, a) :: S.1 33 := rfl
theorem z_opn_34 : (z_opn ρ N a S).1 34 = (ρ, nI N) :: S.1 34 := rfl
theorem z_opn_35 : (z_opn ρ N a S).1 35 = (ρ, nI N) :: S.1 35 := rfl
theorem z_opn_36 : (z_opn ρ N a S).1 36 = (ρ, 0) :: S.1 36 := rfl
theorem z_opn_37 : (z_opn ρ N a S).1 37 = (ρ, 0) :: S.1 37 := rfl
theorem z_KCx.opn (h : z_KCx S0 i x T mT H ρ mo S) (hN : x.1.length ≤ 128) : z_KCx S0 i (x.1, x.1.length :: x.2) T mT H (ρ + 1) x.1.length (z_opn (ρ + 1) x.1.length a S) := by
  obtain ⟨h1, h2, h3, h4, h5, h6, h7, h8⟩ := h
  have ov : ∀ k j, ¬ (k = 27 ∧ j = 16) → (z_opn (ρ + 1) x.1.length a S).2.2.2.1 k j = S.2.2.2.1 k j := fun k j q => z_vn q
  refine ⟨h1.kp (fun k a b => z_opn_o (by omega)) (ov 8 4 (by decide)), h2, ⟨fun k a b c => (z_opn_o (by omega)).trans (h3.1 k a b c), h3.2.1, h3.2.2.1, fun k j a b => (ov k j (fun q => b q.1)).trans (h3.2.2.2.1 k j a b), h3.2.2.2.2.1, h3.2.2.2.2.2⟩, fun k a j c => ?_, ⟨(ov 27 7 (by decide)).trans h5.1, (ov 27 10 (by decide)).trans h5.2.1, ?_⟩, ?_, ⟨?_, ⟨?_, ?_⟩, ?_⟩, ?_, Nat.le_refl _, hN⟩
  · rw [z_opn_o (by omega)]
    exact h4 k a j c
  · show z_v S.2.2.2.1 27 16 (nI (ρ + 1)) 27 16 = nI (ρ + 1)
    rw [z_vk]
  · rw [z_opn_o (by decide)]
    exact h6
  · show (x.1.length :: x.2).length = ρ + 1 + 1
    rw [List.length_cons, h7.1]
  · rw [z_opn_34, h7.1, z_fcs]
  · refine z_Nf.e x.2 (fun j hj => ?_) h7.2.1
    rw [z_opn_34, z_fcn (by rw [h7.1] at hj; omega)]
  · intro y hy
    rcases List.mem_cons.mp hy with q | q
    · exact Nat.le_of_eq q
    · exact h7.2.2 y q
  · rw [z_opn_35, z_fcs]
theorem z_Fk.opn {s e H' N' ρ' : Nat} (hρ : ρ' < ρ) : z_Fk s e H' ρ' N' S (z_opn ρ N a S) := by
  refine ⟨fun k b c j d => by rw [z_opn_o (by omega)], fun k b c j d => by rw [z_opn_o (by omega)], fun k b j c => ?_, fun j c => by rw [z_opn_35, z_fcn (by omega)], fun k b j c => by rw [z_opn_o (by omega)]⟩
  rcases b with rfl | rfl | rfl | rfl
  · rw [z_opn_33, z_fcn (by omega)]
  · rw [z_opn_34, z_fcn (by omega)]
  · rw [z_opn_36, z_fcn (by omega)]
  · rw [z_opn_37, z_fcn (by omega)]
/-- the class opens a region -/
theorem k98 {l : Nat} {Q : z_V → z_CS → Prop} {G : z_CS → Prop} (h : z_KCx S0 i x T mT H ρ mo S) (hρ : ρ + 1 < 64) (k : G (z_opn (ρ + 1) x.1.length a S)) : z_WC (l + 1) 98 0 [(0, .ref 134), (1, .int a)] [] S (z_cx Q (fun x S1 => x = none ∧ G S1)) := by
  have cρ : (nI (ρ + 1)).toNatClampNeg = ρ + 1 := nI_clamp (by omega)
  have zρ : z_in (nI (ρ + 1)) 64 = true := z_inI hρ (by decide)
  refine t98_0 (A := S.1) (E := S.2.1) (N := S.2.2.1) (V := S.2.2.2.1) (W := S.2.2.2.2.1) (c := S.2.2.2.2.2) ?_
  unfold p98_0
  rw [h.2.2.2.2.1.2.1, h.2.2.2.2.1.2.2, nI_1, cρ]
  exact ⟨zρ, zρ, zρ, zρ, zρ, rfl, k⟩
end ZU
