/-! Checking: the class makes the type of a function. -/
theorem k59 {S0 S : z_CS} {i ce l : Nat} {x : List Int32 × List Nat} {T : Nat → Nat × Nat × Int32} {mT H ρ mo a r : Nat} {e : Int32} {Q : z_V → z_CS → Prop} {G : Int32 → z_CS → Prop} (h : z_KCx S0 i x T mT H ρ mo S) (h0 : z_K0 S0 ce) (hm : mT < 1500) (ha : a < mT) (hr : r < mT) (hd : z_ad T a ≤ 50 ∧ (z_dt T a).length ≤ 3100) (k : ∀ T' m' q S', z_KCx S0 i x T' m' H ρ mo S' → z_To T mT a r e T' m' q → (∀ k, ¬ (9 ≤ k ∧ k ≤ 12) → S'.1 k = S.1 k) → G (nI q) S') : z_WC (l + 1) 59 0 [(0, .ref 115), (1, .int (nI a)), (2, .int (nI r)), (3, .int e)] [] S (z_cx Q (fun x S1 => ∃ v : Int32, x = some (.int v) ∧ G v S1)) := by
  obtain ⟨h1, h2, h3, h4, h5, h6, h7, h8⟩ := h
  have hW : S.2.2.2.2.1 < 107 := by
    rw [h3.2.2.2.2.1]
    exact h0.2.2.2
  refine w59 (A := S.1) (E := S.2.1) (N := S.2.2.1) (V := S.2.2.2.1) (W := S.2.2.2.2.1) (c := S.2.2.2.2.2) h1 hm hW h2 ha hr hd ?_
  intro T' m' q A' N' V' c' t1 t2 oA oN oV rk gw
  refine ⟨nI q, rfl, k T' m' q (A', S.2.1, N', V', S.2.2.2.2.1, c') ⟨t1, rk, ?_, ?_, ⟨?_, ?_, ?_⟩, ?_, ⟨h7.1, ?_, h7.2.2⟩, ?_, h8.2⟩ t2 oA⟩
  · exact ⟨fun k a b c => (oA k a).trans (h3.1 k a b c), h3.2.1, fun k a => (oN k a).trans (h3.2.2.1 k a), fun k j a b => (oV k j a).trans (h3.2.2.2.1 k j a b), h3.2.2.2.2.1, h3.2.2.2.2.2.tr gw⟩
  · intro k a j c
    show z_fn 0 (A' k) j = _
    rw [oA k (by omega)]
    exact h4 k a j c
  · exact (oV 27 7 (by decide)).trans h5.1
  · exact (oV 27 10 (by decide)).trans h5.2.1
  · exact (oV 27 16 (by decide)).trans h5.2.2
  · show z_Na (A' 31) _
    rw [oA 31 (by decide)]
    exact h6
  · show z_Nf (A' 34) _
    rw [oA 34 (by decide)]
    exact h7.2.1
  · show z_fn 0 (A' 35) ρ = _
    rw [oA 35 (by decide)]
    exact h8.1
