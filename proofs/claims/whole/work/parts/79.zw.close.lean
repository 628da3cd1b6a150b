/-! Checking: a region closed, names forgotten, of the class. -/
def z_cloz (o r ρ : Nat) (S : z_CS) : z_CS := (z_u S.1 18 ((o, nI r) :: S.1 18), S.2.1, S.2.2.1, z_v S.2.2.2.1 27 16 (nI ρ), S.2.2.2.2.1, S.2.2.2.2.2)
section ZW
variable {S0 S : z_CS} {i ce : Nat} {l : List Int32} {fl : List Nat} {T : Nat → Nat × Nat × Int32} {mT H ρ mo mo0 F o r : Nat}
theorem z_cloz_o {k : Nat} (hk : k ≠ 18) : (z_cloz o r ρ S).1 k = S.1 k := z_un hk
theorem z_cloz_18 : (z_cloz o r ρ S).1 18 = (o, nI r) :: S.1 18 := rfl
theorem z_KCx.cls (h : z_KCx S0 i (l, F :: fl) T mT H (ρ + 1) mo S) (h35 : z_fn 0 (S.1 35) ρ = nI mo0) (hl : l.length ≤ mo0 ∧ mo0 ≤ 128) (hf : ∀ y, y ∈ fl → y ≤ l.length) (ho : o < i) : z_KCx S0 i (l, fl) T mT H ρ mo0 (z_cloz o r ρ S) := by
  obtain ⟨h1, h2, h3, h4, h5, h6, h7, h8⟩ := h
  have ov : ∀ k j, ¬ (k = 27 ∧ j = 16) → (z_cloz o r ρ S).2.2.2.1 k j = S.2.2.2.1 k j := fun k j q => z_vn q
  refine ⟨h1.kp (fun k a b => z_cloz_o (by omega)) (ov 8 4 (by decide)), h2, ⟨fun k a b c => (z_cloz_o (by omega)).trans (h3.1 k a b c), h3.2.1, h3.2.2.1, fun k j a b => (ov k j (fun q => b q.1)).trans (h3.2.2.2.1 k j a b), h3.2.2.2.2.1, h3.2.2.2.2.2⟩, fun k a j c => ?_, ⟨(ov 27 7 (by decide)).trans h5.1, (ov 27 10 (by decide)).trans h5.2.1, ?_⟩, ?_, ⟨?_, ?_, hf⟩, ?_, hl⟩
  · by_cases e : k = 18
    · rw [e, z_cloz_18, z_fcn (by omega), ← e]
      exact h4 k a j c
    · rw [z_cloz_o e]
      exact h4 k a j c
  · show z_v S.2.2.2.1 27 16 (nI ρ) 27 16 = nI ρ
    rw [z_vk]
  · rw [z_cloz_o (by decide)]
    exact h6
  · have q : (F :: fl).length = ρ + 1 + 1 := h7.1
    rw [List.length_cons] at q
    show fl.length = ρ + 1
    omega
  · rw [z_cloz_o (by decide)]
    exact h7.2.1.2
  · rw [z_cloz_o (by decide)]
    exact h35
theorem z_Fk.cls {s e H' N' ρ' ρ1 : Nat} (ho : s ≤ o ∧ o < e) : z_Fk s e H' ρ' N' S (z_cloz o r ρ1 S) := by
  refine ⟨fun k b c j d => by rw [z_cloz_o (by omega)], fun k b c j d => by rw [z_cloz_o (by omega)], fun k b j c => by rw [z_cloz_o (by omega)], fun j c => by rw [z_cloz_o (by decide)], fun k b j c => ?_⟩
  by_cases q : k = 18
  · rw [q, z_cloz_18, z_fcn (by intro e2; subst e2; exact c ho)]
  · rw [z_cloz_o q]
/-- the class closes a region -/
theorem k100 {lv : Nat} {Q : z_V → z_CS → Prop} {G : z_CS → Prop} (h : z_KCx S0 i (l, F :: fl) T mT H (ρ + 1) mo S) (h0 : z_K0 S0 ce) (h33 : z_fn 0 (S.1 33) (ρ + 1) = nI o) (ho : o < ce) (hρ : ρ + 1 < 64) (hF : F ≤ mo) (k : G (z_cloz o (mo - F) ρ S)) : z_WC (lv + 1) 100 0 [(0, .ref 134)] [] S (z_cx Q (fun x S1 => x = none ∧ G S1)) := by
  have cρ : (nI (ρ + 1)).toNatClampNeg = ρ + 1 := nI_clamp (by omega)
  have zρ : z_in (nI (ρ + 1)) 64 = true := z_inI hρ (by decide)
  have co : (nI o).toNatClampNeg = o := nI_clamp (by have := h0.2.1; omega)
  have fl' : fl.length = ρ + 1 := by
    have q : (F :: fl).length = ρ + 1 + 1 := h.2.2.2.2.2.2.1.1
    rw [List.length_cons] at q
    omega
  have h34 : z_fn 0 (S.1 34) (ρ + 1) = nI F := by
    rw [← fl']
    exact h.2.2.2.2.2.2.1.2.1.1
  have n18 := h.2.1.1 18 rfl
  have m18 := z_mxl_b 18
  have e18 := h.2.2.1.2.2.1 18 (by decide)
  have c18 := h0.2.2.1 18 (by decide) (by decide)
  refine t100_0 (A := S.1) (E := S.2.1) (N := S.2.2.1) (V := S.2.2.2.1) (W := S.2.2.2.2.1) (c := S.2.2.2.2.2) ?_
  unfold p100_0
  rw [h.2.2.2.2.1.2.2, cρ, h33, co, h.2.2.2.2.2.2.2.1, h34, pk_sub hF, nI_pred]
  exact ⟨zρ, zρ, zρ, z_inI (by omega) (by omega), rfl, k⟩
end ZW
