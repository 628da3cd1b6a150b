/-! PRINTED BY A PROGRAM OF MINE: which kind of word the class finds spelled. -/
def z_wls : List (List Nat) := [[], [], [], [], [], [40], [41], [123], [125], [58], [59], [44], [61], [60], [43], [45], [42], [33], [124], [45, 62], [101, 102, 102, 101, 99, 116], [108, 101, 116], [114, 101, 99], [105, 110], [105, 102], [116, 104, 101, 110], [101, 108, 115, 101], [102, 110], [104, 97, 110, 100, 108, 101], [119, 105, 116, 104], [114, 101, 116, 117, 114, 110], [101, 110, 100], [116, 114, 117, 101], [102, 97, 108, 115, 101], [105, 110, 116], [98, 111, 111, 108], [117, 110, 105, 116]]
/-- the l bytes from p on are the letters of kind k -/
def z_mt (k : Nat) (b : Nat → Nat) (p l : Nat) : Bool := decide ((z_wls.getD k []).length = l) && (List.range (z_wls.getD k []).length).all (fun j => decide (b (p + j) = (z_wls.getD k []).getD j 0))
/-- of the last j kinds the first whose letters they are, else d -/
def z_rs (b : Nat → Nat) (p l d : Nat) : Nat → Nat
  | 0 => d
  | j + 1 => if z_mt (36 - j) b p l = true then 36 - j else z_rs b p l d j
theorem z_inA {p j : Nat} (h : p + j < 1500) : z_in (nI p + nI j) 1500 = true := by
  rw [nI_add]
  exact z_inI h (by decide)
theorem z_bcl : ∀ c, c < 128 → z_bc c = nI c := by decide +kernel
theorem z_chq {A4 : List (Nat × Int32)} {b : Nat → Nat} {n p j ch : Nat} (hT : z_Tx A4 b n) (hp : p + j < n) (hc : ch < 128) : decide (z_fn 0 A4 (nI p + nI j).toNatClampNeg = nI ch) = decide (b (p + j) = ch) := by
  obtain ⟨h1, h2⟩ := hT
  obtain ⟨e1, e2⟩ := h2 (p + j) hp
  rw [nI_add, nI_clamp (by omega), e2, ← z_bcl ch hc]
  by_cases h : b (p + j) = ch
  · rw [h]
    simp
  · have : ¬ z_bc (b (p + j)) = z_bc ch := fun q => h ((z_in_bc _ e1 _ (by omega)).mp q)
    rw [decide_eq_false this, decide_eq_false h]
set_option maxRecDepth 10000 in
theorem sp_37 {L : Nat} {xs : Nat → Int32} {fv : Value} {f w : Nat} {c : Nat × Nat} {A : Nat → List (Nat × Int32)} {E : List (Nat × Option Nat)} {N : Nat → Nat} {V : Nat → Nat → Int32} {W : Nat} {g : List z_E} {b : Nat → Nat} {n p l d : Nat} (hT : z_Tx (A 4) b n) (hl : 1 ≤ l) (hp : p + l ≤ n) (hRm : z_Rm (hC A E N V W ++ g, c)) (hf : 5 ≤ f) (hw : 500 ≤ w) (hd : z_Ln L xs fv f w 35 60 [(0, .ref 110), (1, .int (nI p)), (2, .int (nI (p + l)))] [] (hC A E N V W ++ g, c) (.inl (some (.ref d))) (hC A E N V W ++ g, c)) : z_Ln L xs fv f w 35 11 [(0, .ref 110), (1, .int (nI p)), (2, .int (nI (p + l))), (3, .ref 37), (4, .int 37), (5, .int 37)] [] (hC A E N V W ++ g, c) (.inl (some (.ref (z_rs b p l d 0)))) (hC A E N V W ++ g, c) := by
  refine z_Ln.blk (pc' := (if decide (37 ≤ 37) = true then 60 else 18)) (lv' := [(0, .ref 110), (1, .int (nI p)), (2, .int (nI (p + l))), (3, .ref 37), (4, .int 37), (5, .int 37)]) (st' := []) (H' := hC A E N V W ++ g) (C := []) 7 3 rfl trivial (z_Ln.brT (decide_eq_true (by decide)) ?_)
  exact z_Ln.lv (z_le.cons rfl rfl (z_le.cons rfl rfl (z_le.cons rfl rfl z_le.nil))) hd
set_option maxRecDepth 10000 in
theorem sp_36 {L : Nat} {xs : Nat → Int32} {fv : Value} {f w : Nat} {c : Nat × Nat} {A : Nat → List (Nat × Int32)} {E : List (Nat × Option Nat)} {N : Nat → Nat} {V : Nat → Nat → Int32} {W : Nat} {g : List z_E} {b : Nat → Nat} {n p l d : Nat} (hT : z_Tx (A 4) b n) (hl : 1 ≤ l) (hp : p + l ≤ n) (hRm : z_Rm (hC A E N V W ++ g, c)) (hf : 5 ≤ f) (hw : 500 ≤ w) (hd : z_Ln L xs fv f w 35 60 [(0, .ref 110), (1, .int (nI p)), (2, .int (nI (p + l)))] [] (hC A E N V W ++ g, c) (.inl (some (.ref d))) (hC A E N V W ++ g, c)) : z_Ln L xs fv f w 35 11 [(0, .ref 110), (1, .int (nI p)), (2, .int (nI (p + l))), (3, .ref 37), (4, .int 37), (5, .int 36)] [] (hC A E N V W ++ g, c) (.inl (some (.ref (z_rs b p l d 1)))) (hC A E N V W ++ g, c) := by
  have hR0 : ((c.1 ≤ 601024 ∧ c.2 ≤ 7293034) ∧ 1 ≤ f ∧ 60 ≤ w) := ⟨hRm, by omega, by omega⟩
  have m36 : z_pg.2.1 36 = 1 := rfl
  have m38 : z_pg.2.1 38 = 4 := rfl
  have hn : n ≤ 1500 := hT.1
  have e : z_rs b p l d 1 = (if z_mt 36 b p l = true then 36 else z_rs b p l d 0) := rfl
  rw [e]
  refine z_Ln.blk (pc' := (if decide (37 ≤ 36) = true then 60 else 18)) (lv' := [(0, .ref 110), (1, .int (nI p)), (2, .int (nI (p + l))), (3, .ref 37), (4, .int 37), (5, .int 36)]) (st' := []) (H' := hC A E N V W ++ g) (C := []) 7 3 rfl trivial (z_Ln.brF (decide_eq_false (by decide)) ?_)
  refine z_Ln.blk (pc' := 29) (lv' := [(6, .ref 36), (0, .ref 110), (1, .int (nI p)), (2, .int (nI (p + l))), (3, .ref 37), (4, .int 37), (5, .int 36)]) (st' := [.ref 104]) (H' := hC A E N V W ++ g) (C := [((c.1 ≤ 601024 ∧ c.2 ≤ 7293034) ∧ 1 ≤ f ∧ 60 ≤ w), z_in 36 37 = true, ((c.1 ≤ 601024 ∧ c.2 ≤ 7293034) ∧ 1 ≤ f ∧ 60 ≤ w)]) 10 6 rfl ⟨hR0, (by decide : z_in 36 37 = true), hR0⟩ ?_
  refine z_Ln.call (s := 0) (mj := 36) (as := [.ref 104]) (rr := []) (v := some (.int 4)) (T1 := (hC A E N V W ++ g, c)) rfl rfl ⟨⟨by omega, by omega⟩, (by decide : (0 : Nat) ≤ 8), (by decide +kernel : (1 : Nat) ≤ z_pg.2.1 36)⟩ hRm (s36_32 hRm (by omega) (by omega)) ⟨trivial, ⟨(Or.inl (by decide)), (z_sm0C 0 (by decide) rfl rfl), trivial, trivial, (Or.inl (by decide)), trivial, trivial, trivial⟩⟩ ?_
  have es : nI (p + l) - nI p = nI l := by rw [pk_sub (by omega), show p + l - p = l by omega]
  have nxt : z_mt 36 b p l = false → z_Ln L xs fv f w 35 54 [(6, .ref 36), (0, .ref 110), (1, .int (nI p)), (2, .int (nI (p + l))), (3, .ref 37), (4, .int 37), (5, .int 36)] [] (hC A E N V W ++ g, c) (.inl (some (.ref (if z_mt 36 b p l = true then 36 else z_rs b p l d 0)))) (hC A E N V W ++ g, c) := by
    intro hm
    rw [hm, if_neg (by decide)]
    refine z_Ln.blk (pc' := 11) (lv' := [(5, .int 37), (6, .ref 36), (0, .ref 110), (1, .int (nI p)), (2, .int (nI (p + l))), (3, .ref 37), (4, .int 37)]) (st' := []) (H' := hC A E N V W ++ g) (C := []) 29 2 rfl trivial ?_
    exact z_Ln.lv (z_le.cons rfl rfl (z_le.cons rfl rfl (z_le.cons rfl rfl (z_le.cons rfl rfl (z_le.cons rfl rfl (z_le.cons rfl rfl z_le.nil)))))) (sp_37 hT hl hp hRm hf hw hd)
  by_cases hlk : l = 4
  · refine z_Ln.blk (pc' := (if decide (¬ 4 = ((nI (p + l)) - (nI p))) = true then 54 else 38)) (lv' := [(6, .ref 36), (0, .ref 110), (1, .int (nI p)), (2, .int (nI (p + l))), (3, .ref 37), (4, .int 37), (5, .int 36)]) (st' := []) (H' := hC A E N V W ++ g) (C := []) 17 4 rfl trivial (z_Ln.brF (decide_eq_false (by rw [es, hlk]; exact not_not_intro rfl)) ?_)
    refine z_Ln.blk (pc' := 45) (lv' := [(6, .ref 36), (0, .ref 110), (1, .int (nI p)), (2, .int (nI (p + l))), (3, .ref 37), (4, .int 37), (5, .int 36)]) (st' := [.int (nI p), .ref 104, .ref 110]) (H' := hC A E N V W ++ g) (C := [((c.1 ≤ 601024 ∧ c.2 ≤ 7293034) ∧ 1 ≤ f ∧ 60 ≤ w)]) 21 4 rfl hR0 ?_
    have em : (decide (z_fn 0 (A 4) (nI p + 0).toNatClampNeg = 117) && decide (z_fn 0 (A 4) (nI p + 1).toNatClampNeg = 110) && decide (z_fn 0 (A 4) (nI p + 2).toNatClampNeg = 105) && decide (z_fn 0 (A 4) (nI p + 3).toNatClampNeg = 116)) = z_mt 36 b p l := by
      have c0 : decide (z_fn 0 (A 4) (nI p + 0).toNatClampNeg = 117) = decide (b (p + 0) = 117) := z_chq (j := 0) (ch := 117) hT (by omega) (by decide)
      have c1 : decide (z_fn 0 (A 4) (nI p + 1).toNatClampNeg = 110) = decide (b (p + 1) = 110) := z_chq (j := 1) (ch := 110) hT (by omega) (by decide)
      have c2 : decide (z_fn 0 (A 4) (nI p + 2).toNatClampNeg = 105) = decide (b (p + 2) = 105) := z_chq (j := 2) (ch := 105) hT (by omega) (by decide)
      have c3 : decide (z_fn 0 (A 4) (nI p + 3).toNatClampNeg = 116) = decide (b (p + 3) = 116) := z_chq (j := 3) (ch := 116) hT (by omega) (by decide)
      rw [c0, c1, c2, c3]
      rw [hlk]
      show _ = (decide (4 = 4) && (decide (b (p + 0) = 117) && (decide (b (p + 1) = 110) && (decide (b (p + 2) = 105) && (decide (b (p + 3) = 116) && true)))))
      simp [Bool.and_assoc]
    refine z_Ln.call (s := 0) (mj := 38) (as := [.ref 110, .ref 104, .int (nI p)]) (rr := []) (v := some (.int (z_B1 (z_mt 36 b p l)))) (T1 := (hC A E N V W ++ g, c)) rfl rfl ⟨⟨by omega, by omega⟩, (by decide : (0 : Nat) ≤ 8), (by decide +kernel : (3 : Nat) ≤ z_pg.2.1 38)⟩ hRm ?_ ⟨trivial, ⟨(Or.inl (by decide)), (z_sm0C 0 (by decide) rfl rfl), trivial, trivial, (Or.inl (by decide)), trivial, trivial, trivial⟩⟩ ?_
    · rw [← em]
      refine z_Ln.blk (pc' := 2) (lv' := [(3, .int 0), (0, .ref 110), (1, .ref 104), (2, .int (nI p))]) (st' := []) (H' := hC A E N V W ++ g) (C := []) 0 2 rfl trivial ?_
      exact s38_32_0 hRm (by omega) (by omega) (z_inA (p := p) (j := 0) (by omega)) (z_inA (p := p) (j := 1) (by omega)) (z_inA (p := p) (j := 2) (by omega)) (z_inA (p := p) (j := 3) (by omega))
    · cases hm : z_mt 36 b p l with
      | true =>
        refine z_Ln.blk (pc' := (if decide ((z_B1 true) = 0) = true then 54 else 51)) (lv' := [(6, .ref 36), (0, .ref 110), (1, .int (nI p)), (2, .int (nI (p + l))), (3, .ref 37), (4, .int 37), (5, .int 36)]) (st' := []) (H' := hC A E N V W ++ g) (C := []) 26 1 rfl trivial (z_Ln.brF (decide_eq_false (z_B1_t rfl)) ?_)
        refine z_Ln.blk (pc' := 53) (lv' := [(6, .ref 36), (0, .ref 110), (1, .int (nI p)), (2, .int (nI (p + l))), (3, .ref 37), (4, .int 37), (5, .int 36)]) (st' := [.ref 36]) (H' := hC A E N V W ++ g) (C := []) 27 1 rfl trivial ?_
        rw [if_pos rfl]
        exact z_Ln.ret rfl rfl
      | false =>
        have nx := nxt hm
        rw [hm] at nx
        refine z_Ln.blk (pc' := (if decide ((z_B1 false) = 0) = true then 54 else 51)) (lv' := [(6, .ref 36), (0, .ref 110), (1, .int (nI p)), (2, .int (nI (p + l))), (3, .ref 37), (4, .int 37), (5, .int 36)]) (st' := []) (H' := hC A E N V W ++ g) (C := []) 26 1 rfl trivial (z_Ln.brT (decide_eq_true (z_B1_f rfl)) ?_)
        exact nx
  · have hm : z_mt 36 b p l = false := by
      unfold z_mt
      rw [decide_eq_false (show ¬ (z_wls.getD 36 []).length = l from fun q => hlk q.symm)]
      rfl
    refine z_Ln.blk (pc' := (if decide (¬ 4 = ((nI (p + l)) - (nI p))) = true then 54 else 38)) (lv' := [(6, .ref 36), (0, .ref 110), (1, .int (nI p)), (2, .int (nI (p + l))), (3, .ref 37), (4, .int 37), (5, .int 36)]) (st' := []) (H' := hC A E N V W ++ g) (C := []) 17 4 rfl trivial (z_Ln.brT (decide_eq_true (by rw [es]; exact fun q => hlk ((nI_eq (a := 4) (b := l) (by decide) (by omega)).mp q).symm)) ?_)
    exact nxt hm
set_option maxRecDepth 10000 in
theorem sp_35 {L : Nat} {xs : Nat → Int32} {fv : Value} {f w : Nat} {c : Nat × Nat} {A : Nat → List (Nat × Int32)} {E : List (Nat × Option Nat)} {N : Nat → Nat} {V : Nat → Nat → Int32} {W : Nat} {g : List z_E} {b : Nat → Nat} {n p l d : Nat} (hT : z_Tx (A 4) b n) (hl : 1 ≤ l) (hp : p + l ≤ n) (hRm : z_Rm (hC A E N V W ++ g, c)) (hf : 5 ≤ f) (hw : 500 ≤ w) (hd : z_Ln L xs fv f w 35 60 [(0, .ref 110), (1, .int (nI p)), (2, .int (nI (p + l)))] [] (hC A E N V W ++ g, c) (.inl (some (.ref d))) (hC A E N V W ++ g, c)) : z_Ln L xs fv f w 35 11 [(0, .ref 110), (1, .int (nI p)), (2, .int (nI (p + l))), (3, .ref 37), (4, .int 37), (5, .int 35)] [] (hC A E N V W ++ g, c) (.inl (some (.ref (z_rs b p l d 2)))) (hC A E N V W ++ g, c) := by
  have hR0 : ((c.1 ≤ 601024 ∧ c.2 ≤ 7293034) ∧ 1 ≤ f ∧ 60 ≤ w) := ⟨hRm, by omega, by omega⟩
  have m36 : z_pg.2.1 36 = 1 := rfl
  have m38 : z_pg.2.1 38 = 4 := rfl
  have hn : n ≤ 1500 := hT.1
  have e : z_rs b p l d 2 = (if z_mt 35 b p l = true then 35 else z_rs b p l d 1) := rfl
  rw [e]
  refine z_Ln.blk (pc' := (if decide (37 ≤ 35) = true then 60 else 18)) (lv' := [(0, .ref 110), (1, .int (nI p)), (2, .int (nI (p + l))), (3, .ref 37), (4, .int 37), (5, .int 35)]) (st' := []) (H' := hC A E N V W ++ g) (C := []) 7 3 rfl trivial (z_Ln.brF (decide_eq_false (by decide)) ?_)
  refine z_Ln.blk (pc' := 29) (lv' := [(6, .ref 35), (0, .ref 110), (1, .int (nI p)), (2, .int (nI (p + l))), (3, .ref 37), (4, .int 37), (5, .int 35)]) (st' := [.ref 102]) (H' := hC A E N V W ++ g) (C := [((c.1 ≤ 601024 ∧ c.2 ≤ 7293034) ∧ 1 ≤ f ∧ 60 ≤ w), z_in 35 37 = true, ((c.1 ≤ 601024 ∧ c.2 ≤ 7293034) ∧ 1 ≤ f ∧ 60 ≤ w)]) 10 6 rfl ⟨hR0, (by decide : z_in 35 37 = true), hR0⟩ ?_
  refine z_Ln.call (s := 0) (mj := 36) (as := [.ref 102]) (rr := []) (v := some (.int 4)) (T1 := (hC A E N V W ++ g, c)) rfl rfl ⟨⟨by omega, by omega⟩, (by decide : (0 : Nat) ≤ 8), (by decide +kernel : (1 : Nat) ≤ z_pg.2.1 36)⟩ hRm (s36_31 hRm (by omega) (by omega)) ⟨trivial, ⟨(Or.inl (by decide)), (z_sm0C 0 (by decide) rfl rfl), trivial, trivial, (Or.inl (by decide)), trivial, trivial, trivial⟩⟩ ?_
  have es : nI (p + l) - nI p = nI l := by rw [pk_sub (by omega), show p + l - p = l by omega]
  have nxt : z_mt 35 b p l = false → z_Ln L xs fv f w 35 54 [(6, .ref 35), (0, .ref 110), (1, .int (nI p)), (2, .int (nI (p + l))), (3, .ref 37), (4, .int 37), (5, .int 35)] [] (hC A E N V W ++ g, c) (.inl (some (.ref (if z_mt 35 b p l = true then 35 else z_rs b p l d 1)))) (hC A E N V W ++ g, c) := by
    intro hm
    rw [hm, if_neg (by decide)]
    refine z_Ln.blk (pc' := 11) (lv' := [(5, .int 36), (6, .ref 35), (0, .ref 110), (1, .int (nI p)), (2, .int (nI (p + l))), (3, .ref 37), (4, .int 37)]) (st' := []) (H' := hC A E N V W ++ g) (C := []) 29 2 rfl trivial ?_
    exact z_Ln.lv (z_le.cons rfl rfl (z_le.cons rfl rfl (z_le.cons rfl rfl (z_le.cons rfl rfl (z_le.cons rfl rfl (z_le.cons rfl rfl z_le.nil)))))) (sp_36 hT hl hp hRm hf hw hd)
  by_cases hlk : l = 4
  · refine z_Ln.blk (pc' := (if decide (¬ 4 = ((nI (p + l)) - (nI p))) = true then 54 else 38)) (lv' := [(6, .ref 35), (0, .ref 110), (1, .int (nI p)), (2, .int (nI (p + l))), (3, .ref 37), (4, .int 37), (5, .int 35)]) (st' := []) (H' := hC A E N V W ++ g) (C := []) 17 4 rfl trivial (z_Ln.brF (decide_eq_false (by rw [es, hlk]; exact not_not_intro rfl)) ?_)
    refine z_Ln.blk (pc' := 45) (lv' := [(6, .ref 35), (0, .ref 110), (1, .int (nI p)), (2, .int (nI (p + l))), (3, .ref 37), (4, .int 37), (5, .int 35)]) (st' := [.int (nI p), .ref 102, .ref 110]) (H' := hC A E N V W ++ g) (C := [((c.1 ≤ 601024 ∧ c.2 ≤ 7293034) ∧ 1 ≤ f ∧ 60 ≤ w)]) 21 4 rfl hR0 ?_
    have em : (decide (z_fn 0 (A 4) (nI p + 0).toNatClampNeg = 98) && decide (z_fn 0 (A 4) (nI p + 1).toNatClampNeg = 111) && decide (z_fn 0 (A 4) (nI p + 2).toNatClampNeg = 111) && decide (z_fn 0 (A 4) (nI p + 3).toNatClampNeg = 108)) = z_mt 35 b p l := by
      have c0 : decide (z_fn 0 (A 4) (nI p + 0).toNatClampNeg = 98) = decide (b (p + 0) = 98) := z_chq (j := 0) (ch := 98) hT (by omega) (by decide)
      have c1 : decide (z_fn 0 (A 4) (nI p + 1).toNatClampNeg = 111) = decide (b (p + 1) = 111) := z_chq (j := 1) (ch := 111) hT (by omega) (by decide)
      have c2 : decide (z_fn 0 (A 4) (nI p + 2).toNatClampNeg = 111) = decide (b (p + 2) = 111) := z_chq (j := 2) (ch := 111) hT (by omega) (by decide)
      have c3 : decide (z_fn 0 (A 4) (nI p + 3).toNatClampNeg = 108) = decide (b (p + 3) = 108) := z_chq (j := 3) (ch := 108) hT (by omega) (by decide)
      rw [c0, c1, c2, c3]
      rw [hlk]
      show _ = (decide (4 = 4) && (decide (b (p + 0) = 98) && (decide (b (p + 1) = 111) && (decide (b (p + 2) = 111) && (decide (b (p + 3) = 108) && true)))))
      simp [Bool.and_assoc]
    refine z_Ln.call (s := 0) (mj := 38) (as := [.ref 110, .ref 102, .int (nI p)]) (rr := []) (v := some (.int (z_B1 (z_mt 35 b p l)))) (T1 := (hC A E N V W ++ g, c)) rfl rfl ⟨⟨by omega, by omega⟩, (by decide : (0 : Nat) ≤ 8), (by decide +kernel : (3 : Nat) ≤ z_pg.2.1 38)⟩ hRm ?_ ⟨trivial, ⟨(Or.inl (by decide)), (z_sm0C 0 (by decide) rfl rfl), trivial, trivial, (Or.inl (by decide)), trivial, trivial, trivial⟩⟩ ?_
    · rw [← em]
      refine z_Ln.blk (pc' := 2) (lv' := [(3, .int 0), (0, .ref 110), (1, .ref 102), (2, .int (nI p))]) (st' := []) (H' := hC A E N V W ++ g) (C := []) 0 2 rfl trivial ?_
      exact s38_31_0 hRm (by omega) (by omega) (z_inA (p := p) (j := 0) (by omega)) (z_inA (p := p) (j := 1) (by omega)) (z_inA (p := p) (j := 2) (by omega)) (z_inA (p := p) (j := 3) (by omega))
    · cases hm : z_mt 35 b p l with
      | true =>
        refine z_Ln.blk (pc' := (if decide ((z_B1 true) = 0) = true then 54 else 51)) (lv' := [(6, .ref 35), (0, .ref 110), (1, .int (nI p)), (2, .int (nI (p + l))), (3, .ref 37), (4, .int 37), (5, .int 35)]) (st' := []) (H' := hC A E N V W ++ g) (C := []) 26 1 rfl trivial (z_Ln.brF (decide_eq_false (z_B1_t rfl)) ?_)
        refine z_Ln.blk (pc' := 53) (lv' := [(6, .ref 35), (0, .ref 110), (1, .int (nI p)), (2, .int (nI (p + l))), (3, .ref 37), (4, .int 37), (5, .int 35)]) (st' := [.ref 35]) (H' := hC A E N V W ++ g) (C := []) 27 1 rfl trivial ?_
        rw [if_pos rfl]
        exact z_Ln.ret rfl rfl
      | false =>
        have nx := nxt hm
        rw [hm] at nx
        refine z_Ln.blk (pc' := (if decide ((z_B1 false) = 0) = true then 54 else 51)) (lv' := [(6, .ref 35), (0, .ref 110), (1, .int (nI p)), (2, .int (nI (p + l))), (3, .ref 37), (4, .int 37), (5, .int 35)]) (st' := []) (H' := hC A E N V W ++ g) (C := []) 26 1 rfl trivial (z_Ln.brT (decide_eq_true (z_B1_f rfl)) ?_)
        exact nx
  · have hm : z_mt 35 b p l = false := by
      unfold z_mt
      rw [decide_eq_false (show ¬ (z_wls.getD 35 []).length = l from fun q => hlk q.symm)]
      rfl
    refine z_Ln.blk (pc' := (if decide (¬ 4 = ((nI (p + l)) - (nI p))) = true then 54 else 38)) (lv' := [(6, .ref 35), (0, .ref 110), (1, .int (nI p)), (2, .int (nI (p + l))), (3, .ref 37), (4, .int 37), (5, .int 35)]) (st' := []) (H' := hC A E N V W ++ g) (C := []) 17 4 rfl trivial (z_Ln.brT (decide_eq_true (by rw [es]; exact fun q => hlk ((nI_eq (a := 4) (b := l) (by decide) (by omega)).mp q).symm)) ?_)
    exact nxt hm
set_option maxRecDepth 10000 in
theorem sp_34 {L : Nat} {xs : Nat → Int32} {fv : Value} {f w : Nat} {c : Nat × Nat} {A : Nat → List (Nat × Int32)} {E : List (Nat × Option Nat)} {N : Nat → Nat} {V : Nat → Nat → Int32} {W : Nat} {g : List z_E} {b : Nat → Nat} {n p l d : Nat} (hT : z_Tx (A 4) b n) (hl : 1 ≤ l) (hp : p + l ≤ n) (hRm : z_Rm (hC A E N V W ++ g, c)) (hf : 5 ≤ f) (hw : 500 ≤ w) (hd : z_Ln L xs fv f w 35 60 [(0, .ref 110), (1, .int (nI p)), (2, .int (nI (p + l)))] [] (hC A E N V W ++ g, c) (.inl (some (.ref d))) (hC A E N V W ++ g, c)) : z_Ln L xs fv f w 35 11 [(0, .ref 110), (1, .int (nI p)), (2, .int (nI (p + l))), (3, .ref 37), (4, .int 37), (5, .int 34)] [] (hC A E N V W ++ g, c) (.inl (some (.ref (z_rs b p l d 3)))) (hC A E N V W ++ g, c) := by
  have hR0 : ((c.1 ≤ 601024 ∧ c.2 ≤ 7293034) ∧ 1 ≤ f ∧ 60 ≤ w) := ⟨hRm, by omega, by omega⟩
  have m36 : z_pg.2.1 36 = 1 := rfl
  have m38 : z_pg.2.1 38 = 4 := rfl
  have hn : n ≤ 1500 := hT.1
  have e : z_rs b p l d 3 = (if z_mt 34 b p l = true then 34 else z_rs b p l d 2) := rfl
  rw [e]
  refine z_Ln.blk (pc' := (if decide (37 ≤ 34) = true then 60 else 18)) (lv' := [(0, .ref 110), (1, .int (nI p)), (2, .int (nI (p + l))), (3, .ref 37), (4, .int 37), (5, .int 34)]) (st' := []) (H' := hC A E N V W ++ g) (C := []) 7 3 rfl trivial (z_Ln.brF (decide_eq_false (by decide)) ?_)
  refine z_Ln.blk (pc' := 29) (lv' := [(6, .ref 34), (0, .ref 110), (1, .int (nI p)), (2, .int (nI (p + l))), (3, .ref 37), (4, .int 37), (5, .int 34)]) (st' := [.ref 100]) (H' := hC A E N V W ++ g) (C := [((c.1 ≤ 601024 ∧ c.2 ≤ 7293034) ∧ 1 ≤ f ∧ 60 ≤ w), z_in 34 37 = true, ((c.1 ≤ 601024 ∧ c.2 ≤ 7293034) ∧ 1 ≤ f ∧ 60 ≤ w)]) 10 6 rfl ⟨hR0, (by decide : z_in 34 37 = true), hR0⟩ ?_
  refine z_Ln.call (s := 0) (mj := 36) (as := [.ref 100]) (rr := []) (v := some (.int 3)) (T1 := (hC A E N V W ++ g, c)) rfl rfl ⟨⟨by omega, by omega⟩, (by decide : (0 : Nat) ≤ 8), (by decide +kernel : (1 : Nat) ≤ z_pg.2.1 36)⟩ hRm (s36_30 hRm (by omega) (by omega)) ⟨trivial, ⟨(Or.inl (by decide)), (z_sm0C 0 (by decide) rfl rfl), trivial, trivial, (Or.inl (by decide)), trivial, trivial, trivial⟩⟩ ?_
  have es : nI (p + l) - nI p = nI l := by rw [pk_sub (by omega), show p + l - p = l by omega]
  have nxt : z_mt 34 b p l = false → z_Ln L xs fv f w 35 54 [(6, .ref 34), (0, .ref 110), (1, .int (nI p)), (2, .int (nI (p + l))), (3, .ref 37), (4, .int 37), (5, .int 34)] [] (hC A E N V W ++ g, c) (.inl (some (.ref (if z_mt 34 b p l = true then 34 else z_rs b p l d 2)))) (hC A E N V W ++ g, c) := by
    intro hm
    rw [hm, if_neg (by decide)]
    refine z_Ln.blk (pc' := 11) (lv' := [(5, .int 35), (6, .ref 34), (0, .ref 110), (1, .int (nI p)), (2, .int (nI (p + l))), (3, .ref 37), (4, .int 37)]) (st' := []) (H' := hC A E N V W ++ g) (C := []) 29 2 rfl trivial ?_
    exact z_Ln.lv (z_le.cons rfl rfl (z_le.cons rfl rfl (z_le.cons rfl rfl (z_le.cons rfl rfl (z_le.cons rfl rfl (z_le.cons rfl rfl z_le.nil)))))) (sp_35 hT hl hp hRm hf hw hd)
  by_cases hlk : l = 3
  · refine z_Ln.blk (pc' := (if decide (¬ 3 = ((nI (p + l)) - (nI p))) = true then 54 else 38)) (lv' := [(6, .ref 34), (0, .ref 110), (1, .int (nI p)), (2, .int (nI (p + l))), (3, .ref 37), (4, .int 37), (5, .int 34)]) (st' := []) (H' := hC A E N V W ++ g) (C := []) 17 4 rfl trivial (z_Ln.brF (decide_eq_false (by rw [es, hlk]; exact not_not_intro rfl)) ?_)
    refine z_Ln.blk (pc' := 45) (lv' := [(6, .ref 34), (0, .ref 110), (1, .int (nI p)), (2, .int (nI (p + l))), (3, .ref 37), (4, .int 37), (5, .int 34)]) (st' := [.int (nI p), .ref 100, .ref 110]) (H' := hC A E N V W ++ g) (C := [((c.1 ≤ 601024 ∧ c.2 ≤ 7293034) ∧ 1 ≤ f ∧ 60 ≤ w)]) 21 4 rfl hR0 ?_
    have em : (decide (z_fn 0 (A 4) (nI p + 0).toNatClampNeg = 105) && decide (z_fn 0 (A 4) (nI p + 1).toNatClampNeg = 110) && decide (z_fn 0 (A 4) (nI p + 2).toNatClampNeg = 116)) = z_mt 34 b p l := by
      have c0 : decide (z_fn 0 (A 4) (nI p + 0).toNatClampNeg = 105) = decide (b (p + 0) = 105) := z_chq (j := 0) (ch := 105) hT (by omega) (by decide)
      have c1 : decide (z_fn 0 (A 4) (nI p + 1).toNatClampNeg = 110) = decide (b (p + 1) = 110) := z_chq (j := 1) (ch := 110) hT (by omega) (by decide)
      have c2 : decide (z_fn 0 (A 4) (nI p + 2).toNatClampNeg = 116) = decide (b (p + 2) = 116) := z_chq (j := 2) (ch := 116) hT (by omega) (by decide)
      rw [c0, c1, c2]
      rw [hlk]
      show _ = (decide (3 = 3) && (decide (b (p + 0) = 105) && (decide (b (p + 1) = 110) && (decide (b (p + 2) = 116) && true))))
      simp [Bool.and_assoc]
    refine z_Ln.call (s := 0) (mj := 38) (as := [.ref 110, .ref 100, .int (nI p)]) (rr := []) (v := some (.int (z_B1 (z_mt 34 b p l)))) (T1 := (hC A E N V W ++ g, c)) rfl rfl ⟨⟨by omega, by omega⟩, (by decide : (0 : Nat) ≤ 8), (by decide +kernel : (3 : Nat) ≤ z_pg.2.1 38)⟩ hRm ?_ ⟨trivial, ⟨(Or.inl (by decide)), (z_sm0C 0 (by decide) rfl rfl), trivial, trivial, (Or.inl (by decide)), trivial, trivial, trivial⟩⟩ ?_
    · rw [← em]
      refine z_Ln.blk (pc' := 2) (lv' := [(3, .int 0), (0, .ref 110), (1, .ref 100), (2, .int (nI p))]) (st' := []) (H' := hC A E N V W ++ g) (C := []) 0 2 rfl trivial ?_
      exact s38_30_0 hRm (by omega) (by omega) (z_inA (p := p) (j := 0) (by omega)) (z_inA (p := p) (j := 1) (by omega)) (z_inA (p := p) (j := 2) (by omega))
    · cases hm : z_mt 34 b p l with
      | true =>
        refine z_Ln.blk (pc' := (if decide ((z_B1 true) = 0) = true then 54 else 51)) (lv' := [(6, .ref 34), (0, .ref 110), (1, .int (nI p)), (2, .int (nI (p + l))), (3, .ref 37), (4, .int 37), (5, .int 34)]) (st' := []) (H' := hC A E N V W ++ g) (C := []) 26 1 rfl trivial (z_Ln.brF (decide_eq_false (z_B1_t rfl)) ?_)
        refine z_Ln.blk (pc' := 53) (lv' := [(6, .ref 34), (0, .ref 110), (1, .int (nI p)), (2, .int (nI (p + l))), (3, .ref 37), (4, .int 37), (5, .int 34)]) (st' := [.ref 34]) (H' := hC A E N V W ++ g) (C := []) 27 1 rfl trivial ?_
        rw [if_pos rfl]
        exact z_Ln.ret rfl rfl
      | false =>
        have nx := nxt hm
        rw [hm] at nx
        refine z_Ln.blk (pc' := (if decide ((z_B1 false) = 0) = true then 54 else 51)) (lv' := [(6, .ref 34), (0, .ref 110), (1, .int (nI p)), (2, .int (nI (p + l))), (3, .ref 37), (4, .int 37), (5, .int 34)]) (st' := []) (H' := hC A E N V W ++ g) (C := []) 26 1 rfl trivial (z_Ln.brT (decide_eq_true (z_B1_f rfl)) ?_)
        exact nx
  · have hm : z_mt 34 b p l = false := by
      unfold z_mt
      rw [decide_eq_false (show ¬ (z_wls.getD 34 []).length = l from fun q => hlk q.symm)]
      rfl
    refine z_Ln.blk (pc' := (if decide (¬ 3 = ((nI (p + l)) - (nI p))) = true then 54 else 38)) (lv' := [(6, .ref 34), (0, .ref 110), (1, .int (nI p)), (2, .int (nI (p + l))), (3, .ref 37), (4, .int 37), (5, .int 34)]) (st' := []) (H' := hC A E N V W ++ g) (C := []) 17 4 rfl trivial (z_Ln.brT (decide_eq_true (by rw [es]; exact fun q => hlk ((nI_eq (a := 3) (b := l) (by decide) (by omega)).mp q).symm)) ?_)
    exact nxt hm
set_option maxRecDepth 10000 in
theorem sp_33 {L : Nat} {xs : Nat → Int32} {fv : Value} {f w : Nat} {c : Nat × Nat} {A : Nat → List (Nat × Int32)} {E : List (Nat × Option Nat)} {N : Nat → Nat} {V : Nat → Nat → Int32} {W : Nat} {g : List z_E} {b : Nat → Nat} {n p l d : Nat} (hT : z_Tx (A 4) b n) (hl : 1 ≤ l) (hp : p + l ≤ n) (hRm : z_Rm (hC A E N V W ++ g, c)) (hf : 5 ≤ f) (hw : 500 ≤ w) (hd : z_Ln L xs fv f w 35 60 [(0, .ref 110), (1, .int (nI p)), (2, .int (nI (p + l)))] [] (hC A E N V W ++ g, c) (.inl (some (.ref d))) (hC A E N V W ++ g, c)) : z_Ln L xs fv f w 35 11 [(0, .ref 110), (1, .int (nI p)), (2, .int (nI (p + l))), (3, .ref 37), (4, .int 37), (5, .int 33)] [] (hC A E N V W ++ g, c) (.inl (some (.ref (z_rs b p l d 4)))) (hC A E N V W ++ g, c) := by
  have hR0 : ((c.1 ≤ 601024 ∧ c.2 ≤ 7293034) ∧ 1 ≤ f ∧ 60 ≤ w) := ⟨hRm, by omega, by omega⟩
  have m36 : z_pg.2.1 36 = 1 := rfl
  have m38 : z_pg.2.1 38 = 4 := rfl
  have hn : n ≤ 1500 := hT.1
  have e : z_rs b p l d 4 = (if z_mt 33 b p l = true then 33 else z_rs b p l d 3) := rfl
  rw [e]
  refine z_Ln.blk (pc' := (if decide (37 ≤ 33) = true then 60 else 18)) (lv' := [(0, .ref 110), (1, .int (nI p)), (2, .int (nI (p + l))), (3, .ref 37), (4, .int 37), (5, .int 33)]) (st' := []) (H' := hC A E N V W ++ g) (C := []) 7 3 rfl trivial (z_Ln.brF (decide_eq_false (by decide)) ?_)
  refine z_Ln.blk (pc' := 29) (lv' := [(6, .ref 33), (0, .ref 110), (1, .int (nI p)), (2, .int (nI (p + l))), (3, .ref 37), (4, .int 37), (5, .int 33)]) (st' := [.ref 98]) (H' := hC A E N V W ++ g) (C := [((c.1 ≤ 601024 ∧ c.2 ≤ 7293034) ∧ 1 ≤ f ∧ 60 ≤ w), z_in 33 37 = true, ((c.1 ≤ 601024 ∧ c.2 ≤ 7293034) ∧ 1 ≤ f ∧ 60 ≤ w)]) 10 6 rfl ⟨hR0, (by decide : z_in 33 37 = true), hR0⟩ ?_
  refine z_Ln.call (s := 0) (mj := 36) (as := [.ref 98]) (rr := []) (v := some (.int 5)) (T1 := (hC A E N V W ++ g, c)) rfl rfl ⟨⟨by omega, by omega⟩, (by decide : (0 : Nat) ≤ 8), (by decide +kernel : (1 : Nat) ≤ z_pg.2.1 36)⟩ hRm (s36_29 hRm (by omega) (by omega)) ⟨trivial, ⟨(Or.inl (by decide)), (z_sm0C 0 (by decide) rfl rfl), trivial, trivial, (Or.inl (by decide)), trivial, trivial, trivial⟩⟩ ?_
  have es : nI (p + l) - nI p = nI l := by rw [pk_sub (by omega), show p + l - p = l by omega]
  have nxt : z_mt 33 b p l = false → z_Ln L xs fv f w 35 54 [(6, .ref 33), (0, .ref 110), (1, .int (nI p)), (2, .int (nI (p + l))), (3, .ref 37), (4, .int 37), (5, .int 33)] [] (hC A E N V W ++ g, c) (.inl (some (.ref (if z_mt 33 b p l = true then 33 else z_rs b p l d 3)))) (hC A E N V W ++ g, c) := by
    intro hm
    rw [hm, if_neg (by decide)]
    refine z_Ln.blk (pc' := 11) (lv' := [(5, .int 34), (6, .ref 33), (0, .ref 110), (1, .int (nI p)), (2, .int (nI (p + l))), (3, .ref 37), (4, .int 37)]) (st' := []) (H' := hC A E N V W ++ g) (C := []) 29 2 rfl trivial ?_
    exact z_Ln.lv (z_le.cons rfl rfl (z_le.cons rfl rfl (z_le.cons rfl rfl (z_le.cons rfl rfl (z_le.cons rfl rfl (z_le.cons rfl rfl z_le.nil)))))) (sp_34 hT hl hp hRm hf hw hd)
  by_cases hlk : l = 5
  · refine z_Ln.blk (pc' := (if decide (¬ 5 = ((nI (p + l)) - (nI p))) = true then 54 else 38)) (lv' := [(6, .ref 33), (0, .ref 110), (1, .int (nI p)), (2, .int (nI (p + l))), (3, .ref 37), (4, .int 37), (5, .int 33)]) (st' := []) (H' := hC A E N V W ++ g) (C := []) 17 4 rfl trivial (z_Ln.brF (decide_eq_false (by rw [es, hlk]; exact not_not_intro rfl)) ?_)
    refine z_Ln.blk (pc' := 45) (lv' := [(6, .ref 33), (0, .ref 110), (1, .int (nI p)), (2, .int (nI (p + l))), (3, .ref 37), (4, .int 37), (5, .int 33)]) (st' := [.int (nI p), .ref 98, .ref 110]) (H' := hC A E N V W ++ g) (C := [((c.1 ≤ 601024 ∧ c.2 ≤ 7293034) ∧ 1 ≤ f ∧ 60 ≤ w)]) 21 4 rfl hR0 ?_
    have em : (decide (z_fn 0 (A 4) (nI p + 0).toNatClampNeg = 102) && decide (z_fn 0 (A 4) (nI p + 1).toNatClampNeg = 97) && decide (z_fn 0 (A 4) (nI p + 2).toNatClampNeg = 108) && decide (z_fn 0 (A 4) (nI p + 3).toNatClampNeg = 115) && decide (z_fn 0 (A 4) (nI p + 4).toNatClampNeg = 101)) = z_mt 33 b p l := by
      have c0 : decide (z_fn 0 (A 4) (nI p + 0).toNatClampNeg = 102) = decide (b (p + 0) = 102) := z_chq (j := 0) (ch := 102) hT (by omega) (by decide)
      have c1 : decide (z_fn 0 (A 4) (nI p + 1).toNatClampNeg = 97) = decide (b (p + 1) = 97) := z_chq (j := 1) (ch := 97) hT (by omega) (by decide)
      have c2 : decide (z_fn 0 (A 4) (nI p + 2).toNatClampNeg = 108) = decide (b (p + 2) = 108) := z_chq (j := 2) (ch := 108) hT (by omega) (by decide)
      have c3 : decide (z_fn 0 (A 4) (nI p + 3).toNatClampNeg = 115) = decide (b (p + 3) = 115) := z_chq (j := 3) (ch := 115) hT (by omega) (by decide)
      have c4 : decide (z_fn 0 (A 4) (nI p + 4).toNatClampNeg = 101) = decide (b (p + 4) = 101) := z_chq (j := 4) (ch := 101) hT (by omega) (by decide)
      rw [c0, c1, c2, c3, c4]
      rw [hlk]
      show _ = (decide (5 = 5) && (decide (b (p + 0) = 102) && (decide (b (p + 1) = 97) && (decide (b (p + 2) = 108) && (decide (b (p + 3) = 115) && (decide (b (p + 4) = 101) && true))))))
      simp [Bool.and_assoc]
    refine z_Ln.call (s := 0) (mj := 38) (as := [.ref 110, .ref 98, .int (nI p)]) (rr := []) (v := some (.int (z_B1 (z_mt 33 b p l)))) (T1 := (hC A E N V W ++ g, c)) rfl rfl ⟨⟨by omega, by omega⟩, (by decide : (0 : Nat) ≤ 8), (by decide +kernel : (3 : Nat) ≤ z_pg.2.1 38)⟩ hRm ?_ ⟨trivial, ⟨(Or.inl (by decide)), (z_sm0C 0 (by decide) rfl rfl), trivial, trivial, (Or.inl (by decide)), trivial, trivial, trivial⟩⟩ ?_
    · rw [← em]
      refine z_Ln.blk (pc' := 2) (lv' := [(3, .int 0), (0, .ref 110), (1, .ref 98), (2, .int (nI p))]) (st' := []) (H' := hC A E N V W ++ g) (C := []) 0 2 rfl trivial ?_
      exact s38_29_0 hRm (by omega) (by omega) (z_inA (p := p) (j := 0) (by omega)) (z_inA (p := p) (j := 1) (by omega)) (z_inA (p := p) (j := 2) (by omega)) (z_inA (p := p) (j := 3) (by omega)) (z_inA (p := p) (j := 4) (by omega))
    · cases hm : z_mt 33 b p l with
      | true =>
        refine z_Ln.blk (pc' := (if decide ((z_B1 true) = 0) = true then 54 else 51)) (lv' := [(6, .ref 33), (0, .ref 110), (1, .int (nI p)), (2, .int (nI (p + l))), (3, .ref 37), (4, .int 37), (5, .int 33)]) (st' := []) (H' := hC A E N V W ++ g) (C := []) 26 1 rfl trivial (z_Ln.brF (decide_eq_false (z_B1_t rfl)) ?_)
        refine z_Ln.blk (pc' := 53) (lv' := [(6, .ref 33), (0, .ref 110), (1, .int (nI p)), (2, .int (nI (p + l))), (3, .ref 37), (4, .int 37), (5, .int 33)]) (st' := [.ref 33]) (H' := hC A E N V W ++ g) (C := []) 27 1 rfl trivial ?_
        rw [if_pos rfl]
        exact z_Ln.ret rfl rfl
      | false =>
        have nx := nxt hm
        rw [hm] at nx
        refine z_Ln.blk (pc' := (if decide ((z_B1 false) = 0) = true then 54 else 51)) (lv' := [(6, .ref 33), (0, .ref 110), (1, .int (nI p)), (2, .int (nI (p + l))), (3, .ref 37), (4, .int 37), (5, .int 33)]) (st' := []) (H' := hC A E N V W ++ g) (C := []) 26 1 rfl trivial (z_Ln.brT (decide_eq_true (z_B1_f rfl)) ?_)
        exact nx
  · have hm : z_mt 33 b p l = false := by
      unfold z_mt
      rw [decide_eq_false (show ¬ (z_wls.getD 33 []).length = l from fun q => hlk q.symm)]
      rfl
    refine z_Ln.blk (pc' := (if decide (¬ 5 = ((nI (p + l)) - (nI p))) = true then 54 else 38)) (lv' := [(6, .ref 33), (0, .ref 110), (1, .int (nI p)), (2, .int (nI (p + l))), (3, .ref 37), (4, .int 37), (5, .int 33)]) (st' := []) (H' := hC A E N V W ++ g) (C := []) 17 4 rfl trivial (z_Ln.brT (decide_eq_true (by rw [es]; exact fun q => hlk ((nI_eq (a := 5) (b := l) (by decide) (by omega)).mp q).symm)) ?_)
    exact nxt hm
set_option maxRecDepth 10000 in
theorem sp_32 {L : Nat} {xs : Nat → Int32} {fv : Value} {f w : Nat} {c : Nat × Nat} {A : Nat → List (Nat × Int32)} {E : List (Nat × Option Nat)} {N : Nat → Nat} {V : Nat → Nat → Int32} {W : Nat} {g : List z_E} {b : Nat → Nat} {n p l d : Nat} (hT : z_Tx (A 4) b n) (hl : 1 ≤ l) (hp : p + l ≤ n) (hRm : z_Rm (hC A E N V W ++ g, c)) (hf : 5 ≤ f) (hw : 500 ≤ w) (hd : z_Ln L xs fv f w 35 60 [(0, .ref 110), (1, .int (nI p)), (2, .int (nI (p + l)))] [] (hC A E N V W ++ g, c) (.inl (some (.ref d))) (hC A E N V W ++ g, c)) : z_Ln L xs fv f w 35 11 [(0, .ref 110), (1, .int (nI p)), (2, .int (nI (p + l))), (3, .ref 37), (4, .int 37), (5, .int 32)] [] (hC A E N V W ++ g, c) (.inl (some (.ref (z_rs b p l d 5)))) (hC A E N V W ++ g, c) := by
  have hR0 : ((c.1 ≤ 601024 ∧ c.2 ≤ 7293034) ∧ 1 ≤ f ∧ 60 ≤ w) := ⟨hRm, by omega, by omega⟩
  have m36 : z_pg.2.1 36 = 1 := rfl
  have m38 : z_pg.2.1 38 = 4 := rfl
  have hn : n ≤ 1500 := hT.1
  have e : z_rs b p l d 5 = (if z_mt 32 b p l = true then 32 else z_rs b p l d 4) := rfl
  rw [e]
  refine z_Ln.blk (pc' := (if decide (37 ≤ 32) = true then 60 else 18)) (lv' := [(0, .ref 110), (1, .int (nI p)), (2, .int (nI (p + l))), (3, .ref 37), (4, .int 37), (5, .int 32)]) (st' := []) (H' := hC A E N V W ++ g) (C := []) 7 3 rfl trivial (z_Ln.brF (decide_eq_false (by decide)) ?_)
  refine z_Ln.blk (pc' := 29) (lv' := [(6, .ref 32), (0, .ref 110), (1, .int (nI p)), (2, .int (nI (p + l))), (3, .ref 37), (4, .int 37), (5, .int 32)]) (st' := [.ref 96]) (H' := hC A E N V W ++ g) (C := [((c.1 ≤ 601024 ∧ c.2 ≤ 7293034) ∧ 1 ≤ f ∧ 60 ≤ w), z_in 32 37 = true, ((c.1 ≤ 601024 ∧ c.2 ≤ 7293034) ∧ 1 ≤ f ∧ 60 ≤ w)]) 10 6 rfl ⟨hR0, (by decide : z_in 32 37 = true), hR0⟩ ?_
  refine z_Ln.call (s := 0) (mj := 36) (as := [.ref 96]) (rr := []) (v := some (.int 4)) (T1 := (hC A E N V W ++ g, c)) rfl rfl ⟨⟨by omega, by omega⟩, (by decide : (0 : Nat) ≤ 8), (by decide +kernel : (1 : Nat) ≤ z_pg.2.1 36)⟩ hRm (s36_28 hRm (by omega) (by omega)) ⟨trivial, ⟨(Or.inl (by decide)), (z_sm0C 0 (by decide) rfl rfl), trivial, trivial, (Or.inl (by decide)), trivial, trivial, trivial⟩⟩ ?_
  have es : nI (p + l) - nI p = nI l := by rw [pk_sub (by omega), show p + l - p = l by omega]
  have nxt : z_mt 32 b p l = false → z_Ln L xs fv f w 35 54 [(6, .ref 32), (0, .ref 110), (1, .int (nI p)), (2, .int (nI (p + l))), (3, .ref 37), (4, .int 37), (5, .int 32)] [] (hC A E N V W ++ g, c) (.inl (some (.ref (if z_mt 32 b p l = true then 32 else z_rs b p l d 4)))) (hC A E N V W ++ g, c) := by
    intro hm
    rw [hm, if_neg (by decide)]
    refine z_Ln.blk (pc' := 11) (lv' := [(5, .int 33), (6, .ref 32), (0, .ref 110), (1, .int (nI p)), (2, .int (nI (p + l))), (3, .ref 37), (4, .int 37)]) (st' := []) (H' := hC A E N V W ++ g) (C := []) 29 2 rfl trivial ?_
    exact z_Ln.lv (z_le.cons rfl rfl (z_le.cons rfl rfl (z_le.cons rfl rfl (z_le.cons rfl rfl (z_le.cons rfl rfl (z_le.cons rfl rfl z_le.nil)))))) (sp_33 hT hl hp hRm hf hw hd)
  by_cases hlk : l = 4
  · refine z_Ln.blk (pc' := (if decide (¬ 4 = ((nI (p + l)) - (nI p))) = true then 54 else 38)) (lv' := [(6, .ref 32), (0, .ref 110), (1, .int (nI p)), (2, .int (nI (p + l))), (3, .ref 37), (4, .int 37), (5, .int 32)]) (st' := []) (H' := hC A E N V W ++ g) (C := []) 17 4 rfl trivial (z_Ln.brF (decide_eq_false (by rw [es, hlk]; exact not_not_intro rfl)) ?_)
    refine z_Ln.blk (pc' := 45) (lv' := [(6, .ref 32), (0, .ref 110), (1, .int (nI p)), (2, .int (nI (p + l))), (3, .ref 37), (4, .int 37), (5, .int 32)]) (st' := [.int (nI p), .ref 96, .ref 110]) (H' := hC A E N V W ++ g) (C := [((c.1 ≤ 601024 ∧ c.2 ≤ 7293034) ∧ 1 ≤ f ∧ 60 ≤ w)]) 21 4 rfl hR0 ?_
    have em : (decide (z_fn 0 (A 4) (nI p + 0).toNatClampNeg = 116) && decide (z_fn 0 (A 4) (nI p + 1).toNatClampNeg = 114) && decide (z_fn 0 (A 4) (nI p + 2).toNatClampNeg = 117) && decide (z_fn 0 (A 4) (nI p + 3).toNatClampNeg = 101)) = z_mt 32 b p l := by
      have c0 : decide (z_fn 0 (A 4) (nI p + 0).toNatClampNeg = 116) = decide (b (p + 0) = 116) := z_chq (j := 0) (ch := 116) hT (by omega) (by decide)
      have c1 : decide (z_fn 0 (A 4) (nI p + 1).toNatClampNeg = 114) = decide (b (p + 1) = 114) := z_chq (j := 1) (ch := 114) hT (by omega) (by decide)
      have c2 : decide (z_fn 0 (A 4) (nI p + 2).toNatClampNeg = 117) = decide (b (p + 2) = 117) := z_chq (j := 2) (ch := 117) hT (by omega) (by decide)
      have c3 : decide (z_fn 0 (A 4) (nI p + 3).toNatClampNeg = 101) = decide (b (p + 3) = 101) := z_chq (j := 3) (ch := 101) hT (by omega) (by decide)
      rw [c0, c1, c2, c3]
      rw [hlk]
      show _ = (decide (4 = 4) && (decide (b (p + 0) = 116) && (decide (b (p + 1) = 114) && (decide (b (p + 2) = 117) && (decide (b (p + 3) = 101) && true)))))
      simp [Bool.and_assoc]
    refine z_Ln.call (s := 0) (mj := 38) (as := [.ref 110, .ref 96, .int (nI p)]) (rr := []) (v := some (.int (z_B1 (z_mt 32 b p l)))) (T1 := (hC A E N V W ++ g, c)) rfl rfl ⟨⟨by omega, by omega⟩, (by decide : (0 : Nat) ≤ 8), (by decide +kernel : (3 : Nat) ≤ z_pg.2.1 38)⟩ hRm ?_ ⟨trivial, ⟨(Or.inl (by decide)), (z_sm0C 0 (by decide) rfl rfl), trivial, trivial, (Or.inl (by decide)), trivial, trivial, trivial⟩⟩ ?_
    · rw [← em]
      refine z_Ln.blk (pc' := 2) (lv' := [(3, .int 0), (0, .ref 110), (1, .ref 96), (2, .int (nI p))]) (st' := []) (H' := hC A E N V W ++ g) (C := []) 0 2 rfl trivial ?_
      exact s38_28_0 hRm (by omega) (by omega) (z_inA (p := p) (j := 0) (by omega)) (z_inA (p := p) (j := 1) (by omega)) (z_inA (p := p) (j := 2) (by omega)) (z_inA (p := p) (j := 3) (by omega))
    · cases hm : z_mt 32 b p l with
      | true =>
        refine z_Ln.blk (pc' := (if decide ((z_B1 true) = 0) = true then 54 else 51)) (lv' := [(6, .ref 32), (0, .ref 110), (1, .int (nI p)), (2, .int (nI (p + l))), (3, .ref 37), (4, .int 37), (5, .int 32)]) (st' := []) (H' := hC A E N V W ++ g) (C := []) 26 1 rfl trivial (z_Ln.brF (decide_eq_false (z_B1_t rfl)) ?_)
        refine z_Ln.blk (pc' := 53) (lv' := [(6, .ref 32), (0, .ref 110), (1, .int (nI p)), (2, .int (nI (p + l))), (3, .ref 37), (4, .int 37), (5, .int 32)]) (st' := [.ref 32]) (H' := hC A E N V W ++ g) (C := []) 27 1 rfl trivial ?_
        rw [if_pos rfl]
        exact z_Ln.ret rfl rfl
      | false =>
        have nx := nxt hm
        rw [hm] at nx
        refine z_Ln.blk (pc' := (if decide ((z_B1 false) = 0) = true then 54 else 51)) (lv' := [(6, .ref 32), (0, .ref 110), (1, .int (nI p)), (2, .int (nI (p + l))), (3, .ref 37), (4, .int 37), (5, .int 32)]) (st' := []) (H' := hC A E N V W ++ g) (C := []) 26 1 rfl trivial (z_Ln.brT (decide_eq_true (z_B1_f rfl)) ?_)
        exact nx
  · have hm : z_mt 32 b p l = false := by
      unfold z_mt
      rw [decide_eq_false (show ¬ (z_wls.getD 32 []).length = l from fun q => hlk q.symm)]
      rfl
    refine z_Ln.blk (pc' := (if decide (¬ 4 = ((nI (p + l)) - (nI p))) = true then 54 else 38)) (lv' := [(6, .ref 32), (0, .ref 110), (1, .int (nI p)), (2, .int (nI (p + l))), (3, .ref 37), (4, .int 37), (5, .int 32)]) (st' := []) (H' := hC A E N V W ++ g) (C := []) 17 4 rfl trivial (z_Ln.brT (decide_eq_true (by rw [es]; exact fun q => hlk ((nI_eq (a := 4) (b := l) (by decide) (by omega)).mp q).symm)) ?_)
    exact nxt hm
set_option maxRecDepth 10000 in
theorem sp_31 {L : Nat} {xs : Nat → Int32} {fv : Value} {f w : Nat} {c : Nat × Nat} {A : Nat → List (Nat × Int32)} {E : List (Nat × Option Nat)} {N : Nat → Nat} {V : Nat → Nat → Int32} {W : Nat} {g : List z_E} {b : Nat → Nat} {n p l d : Nat} (hT : z_Tx (A 4) b n) (hl : 1 ≤ l) (hp : p + l ≤ n) (hRm : z_Rm (hC A E N V W ++ g, c)) (hf : 5 ≤ f) (hw : 500 ≤ w) (hd : z_Ln L xs fv f w 35 60 [(0, .ref 110), (1, .int (nI p)), (2, .int (nI (p + l)))] [] (hC A E N V W ++ g, c) (.inl (some (.ref d))) (hC A E N V W ++ g, c)) : z_Ln L xs fv f w 35 11 [(0, .ref 110), (1, .int (nI p)), (2, .int (nI (p + l))), (3, .ref 37), (4, .int 37), (5, .int 31)] [] (hC A E N V W ++ g, c) (.inl (some (.ref (z_rs b p l d 6)))) (hC A E N V W ++ g, c) := by
  have hR0 : ((c.1 ≤ 601024 ∧ c.2 ≤ 7293034) ∧ 1 ≤ f ∧ 60 ≤ w) := ⟨hRm, by omega, by omega⟩
  have m36 : z_pg.2.1 36 = 1 := rfl
  have m38 : z_pg.2.1 38 = 4 := rfl
  have hn : n ≤ 1500 := hT.1
  have e : z_rs b p l d 6 = (if z_mt 31 b p l = true then 31 else z_rs b p l d 5) := rfl
  rw [e]
  refine z_Ln.blk (pc' := (if decide (37 ≤ 31) = true then 60 else 18)) (lv' := [(0, .ref 110), (1, .int (nI p)), (2, .int (nI (p + l))), (3, .ref 37), (4, .int 37), (5, .int 31)]) (st' := []) (H' := hC A E N V W ++ g) (C := []) 7 3 rfl trivial (z_Ln.brF (decide_eq_false (by decide)) ?_)
  refine z_Ln.blk (pc' := 29) (lv' := [(6, .ref 31), (0, .ref 110), (1, .int (nI p)), (2, .int (nI (p + l))), (3, .ref 37), (4, .int 37), (5, .int 31)]) (st' := [.ref 94]) (H' := hC A E N V W ++ g) (C := [((c.1 ≤ 601024 ∧ c.2 ≤ 7293034) ∧ 1 ≤ f ∧ 60 ≤ w), z_in 31 37 = true, ((c.1 ≤ 601024 ∧ c.2 ≤ 7293034) ∧ 1 ≤ f ∧ 60 ≤ w)]) 10 6 rfl ⟨hR0, (by decide : z_in 31 37 = true), hR0⟩ ?_
  refine z_Ln.call (s := 0) (mj := 36) (as := [.ref 94]) (rr := []) (v := some (.int 3)) (T1 := (hC A E N V W ++ g, c)) rfl rfl ⟨⟨by omega, by omega⟩, (by decide : (0 : Nat) ≤ 8), (by decide +kernel : (1 : Nat) ≤ z_pg.2.1 36)⟩ hRm (s36_27 hRm (by omega) (by omega)) ⟨trivial, ⟨(Or.inl (by decide)), (z_sm0C 0 (by decide) rfl rfl), trivial, trivial, (Or.inl (by decide)), trivial, trivial, trivial⟩⟩ ?_
  have es : nI (p + l) - nI p = nI l := by rw [pk_sub (by omega), show p + l - p = l by omega]
  have nxt : z_mt 31 b p l = false → z_Ln L xs fv f w 35 54 [(6, .ref 31), (0, .ref 110), (1, .int (nI p)), (2, .int (nI (p + l))), (3, .ref 37), (4, .int 37), (5, .int 31)] [] (hC A E N V W ++ g, c) (.inl (some (.ref (if z_mt 31 b p l = true then 31 else z_rs b p l d 5)))) (hC A E N V W ++ g, c) := by
    intro hm
    rw [hm, if_neg (by decide)]
    refine z_Ln.blk (pc' := 11) (lv' := [(5, .int 32), (6, .ref 31), (0, .ref 110), (1, .int (nI p)), (2, .int (nI (p + l))), (3, .ref 37), (4, .int 37)]) (st' := []) (H' := hC A E N V W ++ g) (C := []) 29 2 rfl trivial ?_
    exact z_Ln.lv (z_le.cons rfl rfl (z_le.cons rfl rfl (z_le.cons rfl rfl (z_le.cons rfl rfl (z_le.cons rfl rfl (z_le.cons rfl rfl z_le.nil)))))) (sp_32 hT hl hp hRm hf hw hd)
  by_cases hlk : l = 3
  · refine z_Ln.blk (pc' := (if decide (¬ 3 = ((nI (p + l)) - (nI p))) = true then 54 else 38)) (lv' := [(6, .ref 31), (0, .ref 110), (1, .int (nI p)), (2, .int (nI (p + l))), (3, .ref 37), (4, .int 37), (5, .int 31)]) (st' := []) (H' := hC A E N V W ++ g) (C := []) 17 4 rfl trivial (z_Ln.brF (decide_eq_false (by rw [es, hlk]; exact not_not_intro rfl)) ?_)
    refine z_Ln.blk (pc' := 45) (lv' := [(6, .ref 31), (0, .ref 110), (1, .int (nI p)), (2, .int (nI (p + l))), (3, .ref 37), (4, .int 37), (5, .int 31)]) (st' := [.int (nI p), .ref 94, .ref 110]) (H' := hC A E N V W ++ g) (C := [((c.1 ≤ 601024 ∧ c.2 ≤ 7293034) ∧ 1 ≤ f ∧ 60 ≤ w)]) 21 4 rfl hR0 ?_
    have em : (decide (z_fn 0 (A 4) (nI p + 0).toNatClampNeg = 101) && decide (z_fn 0 (A 4) (nI p + 1).toNatClampNeg = 110) && decide (z_fn 0 (A 4) (nI p + 2).toNatClampNeg = 100)) = z_mt 31 b p l := by
      have c0 : decide (z_fn 0 (A 4) (nI p + 0).toNatClampNeg = 101) = decide (b (p + 0) = 101) := z_chq (j := 0) (ch := 101) hT (by omega) (by decide)
      have c1 : decide (z_fn 0 (A 4) (nI p + 1).toNatClampNeg = 110) = decide (b (p + 1) = 110) := z_chq (j := 1) (ch := 110) hT (by omega) (by decide)
      have c2 : decide (z_fn 0 (A 4) (nI p + 2).toNatClampNeg = 100) = decide (b (p + 2) = 100) := z_chq (j := 2) (ch := 100) hT (by omega) (by decide)
      rw [c0, c1, c2]
      rw [hlk]
      show _ = (decide (3 = 3) && (decide (b (p + 0) = 101) && (decide (b (p + 1) = 110) && (decide (b (p + 2) = 100) && true))))
      simp [Bool.and_assoc]
    refine z_Ln.call (s := 0) (mj := 38) (as := [.ref 110, .ref 94, .int (nI p)]) (rr := []) (v := some (.int (z_B1 (z_mt 31 b p l)))) (T1 := (hC A E N V W ++ g, c)) rfl rfl ⟨⟨by omega, by omega⟩, (by decide : (0 : Nat) ≤ 8), (by decide +kernel : (3 : Nat) ≤ z_pg.2.1 38)⟩ hRm ?_ ⟨trivial, ⟨(Or.inl (by decide)), (z_sm0C 0 (by decide) rfl rfl), trivial, trivial, (Or.inl (by decide)), trivial, trivial, trivial⟩⟩ ?_
    · rw [← em]
      refine z_Ln.blk (pc' := 2) (lv' := [(3, .int 0), (0, .ref 110), (1, .ref 94), (2, .int (nI p))]) (st' := []) (H' := hC A E N V W ++ g) (C := []) 0 2 rfl trivial ?_
      exact s38_27_0 hRm (by omega) (by omega) (z_inA (p := p) (j := 0) (by omega)) (z_inA (p := p) (j := 1) (by omega)) (z_inA (p := p) (j := 2) (by omega))
    · cases hm : z_mt 31 b p l with
      | true =>
        refine z_Ln.blk (pc' := (if decide ((z_B1 true) = 0) = true then 54 else 51)) (lv' := [(6, .ref 31), (0, .ref 110), (1, .int (nI p)), (2, .int (nI (p + l))), (3, .ref 37), (4, .int 37), (5, .int 31)]) (st' := []) (H' := hC A E N V W ++ g) (C := []) 26 1 rfl trivial (z_Ln.brF (decide_eq_false (z_B1_t rfl)) ?_)
        refine z_Ln.blk (pc' := 53) (lv' := [(6, .ref 31), (0, .ref 110), (1, .int (nI p)), (2, .int (nI (p + l))), (3, .ref 37), (4, .int 37), (5, .int 31)]) (st' := [.ref 31]) (H' := hC A E N V W ++ g) (C := []) 27 1 rfl trivial ?_
        rw [if_pos rfl]
        exact z_Ln.ret rfl rfl
      | false =>
        have nx := nxt hm
        rw [hm] at nx
        refine z_Ln.blk (pc' := (if decide ((z_B1 false) = 0) = true then 54 else 51)) (lv' := [(6, .ref 31), (0, .ref 110), (1, .int (nI p)), (2, .int (nI (p + l))), (3, .ref 37), (4, .int 37), (5, .int 31)]) (st' := []) (H' := hC A E N V W ++ g) (C := []) 26 1 rfl trivial (z_Ln.brT (decide_eq_true (z_B1_f rfl)) ?_)
        exact nx
  · have hm : z_mt 31 b p l = false := by
      unfold z_mt
      rw [decide_eq_false (show ¬ (z_wls.getD 31 []).length = l from fun q => hlk q.symm)]
      rfl
    refine z_Ln.blk (pc' := (if decide (¬ 3 = ((nI (p + l)) - (nI p))) = true then 54 else 38)) (lv' := [(6, .ref 31), (0, .ref 110), (1, .int (nI p)), (2, .int (nI (p + l))), (3, .ref 37), (4, .int 37), (5, .int 31)]) (st' := []) (H' := hC A E N V W ++ g) (C := []) 17 4 rfl trivial (z_Ln.brT (decide_eq_true (by rw [es]; exact fun q => hlk ((nI_eq (a := 3) (b := l) (by decide) (by omega)).mp q).symm)) ?_)
    exact nxt hm
set_option maxRecDepth 10000 in
theorem sp_30 {L : Nat} {xs : Nat → Int32} {fv : Value} {f w : Nat} {c : Nat × Nat} {A : Nat → List (Nat × Int32)} {E : List (Nat × Option Nat)} {N : Nat → Nat} {V : Nat → Nat → Int32} {W : Nat} {g : List z_E} {b : Nat → Nat} {n p l d : Nat} (hT : z_Tx (A 4) b n) (hl : 1 ≤ l) (hp : p + l ≤ n) (hRm : z_Rm (hC A E N V W ++ g, c)) (hf : 5 ≤ f) (hw : 500 ≤ w) (hd : z_Ln L xs fv f w 35 60 [(0, .ref 110), (1, .int (nI p)), (2, .int (nI (p + l)))] [] (hC A E N V W ++ g, c) (.inl (some (.ref d))) (hC A E N V W ++ g, c)) : z_Ln L xs fv f w 35 11 [(0, .ref 110), (1, .int (nI p)), (2, .int (nI (p + l))), (3, .ref 37), (4, .int 37), (5, .int 30)] [] (hC A E N V W ++ g, c) (.inl (some (.ref (z_rs b p l d 7)))) (hC A E N V W ++ g, c) := by
  have hR0 : ((c.1 ≤ 601024 ∧ c.2 ≤ 7293034) ∧ 1 ≤ f ∧ 60 ≤ w) := ⟨hRm, by omega, by omega⟩
  have m36 : z_pg.2.1 36 = 1 := rfl
  have m38 : z_pg.2.1 38 = 4 := rfl
  have hn : n ≤ 1500 := hT.1
  have e : z_rs b p l d 7 = (if z_mt 30 b p l = true then 30 else z_rs b p l d 6) := rfl
  rw [e]
  refine z_Ln.blk (pc' := (if decide (37 ≤ 30) = true then 60 else 18)) (lv' := [(0, .ref 110), (1, .int (nI p)), (2, .int (nI (p + l))), (3, .ref 37), (4, .int 37), (5, .int 30)]) (st' := []) (H' := hC A E N V W ++ g) (C := []) 7 3 rfl trivial (z_Ln.brF (decide_eq_false (by decide)) ?_)
  refine z_Ln.blk (pc' := 29) (lv' := [(6, .ref 30), (0, .ref 110), (1, .int (nI p)), (2, .int (nI (p + l))), (3, .ref 37), (4, .int 37), (5, .int 30)]) (st' := [.ref 92]) (H' := hC A E N V W ++ g) (C := [((c.1 ≤ 601024 ∧ c.2 ≤ 7293034) ∧ 1 ≤ f ∧ 60 ≤ w), z_in 30 37 = true, ((c.1 ≤ 601024 ∧ c.2 ≤ 7293034) ∧ 1 ≤ f ∧ 60 ≤ w)]) 10 6 rfl ⟨hR0, (by decide : z_in 30 37 = true), hR0⟩ ?_
  refine z_Ln.call (s := 0) (mj := 36) (as := [.ref 92]) (rr := []) (v := some (.int 6)) (T1 := (hC A E N V W ++ g, c)) rfl rfl ⟨⟨by omega, by omega⟩, (by decide : (0 : Nat) ≤ 8), (by decide +kernel : (1 : Nat) ≤ z_pg.2.1 36)⟩ hRm (s36_26 hRm (by omega) (by omega)) ⟨trivial, ⟨(Or.inl (by decide)), (z_sm0C 0 (by decide) rfl rfl), trivial, trivial, (Or.inl (by decide)), trivial, trivial, trivial⟩⟩ ?_
  have es : nI (p + l) - nI p = nI l := by rw [pk_sub (by omega), show p + l - p = l by omega]
  have nxt : z_mt 30 b p l = false → z_Ln L xs fv f w 35 54 [(6, .ref 30), (0, .ref 110), (1, .int (nI p)), (2, .int (nI (p + l))), (3, .ref 37), (4, .int 37), (5, .int 30)] [] (hC A E N V W ++ g, c) (.inl (some (.ref (if z_mt 30 b p l = true then 30 else z_rs b p l d 6)))) (hC A E N V W ++ g, c) := by
    intro hm
    rw [hm, if_neg (by decide)]
    refine z_Ln.blk (pc' := 11) (lv' := [(5, .int 31), (6, .ref 30), (0, .ref 110), (1, .int (nI p)), (2, .int (nI (p + l))), (3, .ref 37), (4, .int 37)]) (st' := []) (H' := hC A E N V W ++ g) (C := []) 29 2 rfl trivial ?_
    exact z_Ln.lv (z_le.cons rfl rfl (z_le.cons rfl rfl (z_le.cons rfl rfl (z_le.cons rfl rfl (z_le.cons rfl rfl (z_le.cons rfl rfl z_le.nil)))))) (sp_31 hT hl hp hRm hf hw hd)
  by_cases hlk : l = 6
  · refine z_Ln.blk (pc' := (if decide (¬ 6 = ((nI (p + l)) - (nI p))) = true then 54 else 38)) (lv' := [(6, .ref 30), (0, .ref 110), (1, .int (nI p)), (2, .int (nI (p + l))), (3, .ref 37), (4, .int 37), (5, .int 30)]) (st' := []) (H' := hC A E N V W ++ g) (C := []) 17 4 rfl trivial (z_Ln.brF (decide_eq_false (by rw [es, hlk]; exact not_not_intro rfl)) ?_)
    refine z_Ln.blk (pc' := 45) (lv' := [(6, .ref 30), (0, .ref 110), (1, .int (nI p)), (2, .int (nI (p + l))), (3, .ref 37), (4, .int 37), (5, .int 30)]) (st' := [.int (nI p), .ref 92, .ref 110]) (H' := hC A E N V W ++ g) (C := [((c.1 ≤ 601024 ∧ c.2 ≤ 7293034) ∧ 1 ≤ f ∧ 60 ≤ w)]) 21 4 rfl hR0 ?_
    have em : (decide (z_fn 0 (A 4) (nI p + 0).toNatClampNeg = 114) && decide (z_fn 0 (A 4) (nI p + 1).toNatClampNeg = 101) && decide (z_fn 0 (A 4) (nI p + 2).toNatClampNeg = 116) && decide (z_fn 0 (A 4) (nI p + 3).toNatClampNeg = 117) && decide (z_fn 0 (A 4) (nI p + 4).toNatClampNeg = 114) && decide (z_fn 0 (A 4) (nI p + 5).toNatClampNeg = 110)) = z_mt 30 b p l := by
      have c0 : decide (z_fn 0 (A 4) (nI p + 0).toNatClampNeg = 114) = decide (b (p + 0) = 114) := z_chq (j := 0) (ch := 114) hT (by omega) (by decide)
      have c1 : decide (z_fn 0 (A 4) (nI p + 1).toNatClampNeg = 101) = decide (b (p + 1) = 101) := z_chq (j := 1) (ch := 101) hT (by omega) (by decide)
      have c2 : decide (z_fn 0 (A 4) (nI p + 2).toNatClampNeg = 116) = decide (b (p + 2) = 116) := z_chq (j := 2) (ch := 116) hT (by omega) (by decide)
      have c3 : decide (z_fn 0 (A 4) (nI p + 3).toNatClampNeg = 117) = decide (b (p + 3) = 117) := z_chq (j := 3) (ch := 117) hT (by omega) (by decide)
      have c4 : decide (z_fn 0 (A 4) (nI p + 4).toNatClampNeg = 114) = decide (b (p + 4) = 114) := z_chq (j := 4) (ch := 114) hT (by omega) (by decide)
      have c5 : decide (z_fn 0 (A 4) (nI p + 5).toNatClampNeg = 110) = decide (b (p + 5) = 110) := z_chq (j := 5) (ch := 110) hT (by omega) (by decide)
      rw [c0, c1, c2, c3, c4, c5]
      rw [hlk]
      show _ = (decide (6 = 6) && (decide (b (p + 0) = 114) && (decide (b (p + 1) = 101) && (decide (b (p + 2) = 116) && (decide (b (p + 3) = 117) && (decide (b (p + 4) = 114) && (decide (b (p + 5) = 110) && true)))))))
      simp [Bool.and_assoc]
    refine z_Ln.call (s := 0) (mj := 38) (as := [.ref 110, .ref 92, .int (nI p)]) (rr := []) (v := some (.int (z_B1 (z_mt 30 b p l)))) (T1 := (hC A E N V W ++ g, c)) rfl rfl ⟨⟨by omega, by omega⟩, (by decide : (0 : Nat) ≤ 8), (by decide +kernel : (3 : Nat) ≤ z_pg.2.1 38)⟩ hRm ?_ ⟨trivial, ⟨(Or.inl (by decide)), (z_sm0C 0 (by decide) rfl rfl), trivial, trivial, (Or.inl (by decide)), trivial, trivial, trivial⟩⟩ ?_
    · rw [← em]
      refine z_Ln.blk (pc' := 2) (lv' := [(3, .int 0), (0, .ref 110), (1, .ref 92), (2, .int (nI p))]) (st' := []) (H' := hC A E N V W ++ g) (C := []) 0 2 rfl trivial ?_
      exact s38_26_0 hRm (by omega) (by omega) (z_inA (p := p) (j := 0) (by omega)) (z_inA (p := p) (j := 1) (by omega)) (z_inA (p := p) (j := 2) (by omega)) (z_inA (p := p) (j := 3) (by omega)) (z_inA (p := p) (j := 4) (by omega)) (z_inA (p := p) (j := 5) (by omega))
    · cases hm : z_mt 30 b p l with
      | true =>
        refine z_Ln.blk (pc' := (if decide ((z_B1 true) = 0) = true then 54 else 51)) (lv' := [(6, .ref 30), (0, .ref 110), (1, .int (nI p)), (2, .int (nI (p + l))), (3, .ref 37), (4, .int 37), (5, .int 30)]) (st' := []) (H' := hC A E N V W ++ g) (C := []) 26 1 rfl trivial (z_Ln.brF (decide_eq_false (z_B1_t rfl)) ?_)
        refine z_Ln.blk (pc' := 53) (lv' := [(6, .ref 30), (0, .ref 110), (1, .int (nI p)), (2, .int (nI (p + l))), (3, .ref 37), (4, .int 37), (5, .int 30)]) (st' := [.ref 30]) (H' := hC A E N V W ++ g) (C := []) 27 1 rfl trivial ?_
        rw [if_pos rfl]
        exact z_Ln.ret rfl rfl
      | false =>
        have nx := nxt hm
        rw [hm] at nx
        refine z_Ln.blk (pc' := (if decide ((z_B1 false) = 0) = true then 54 else 51)) (lv' := [(6, .ref 30), (0, .ref 110), (1, .int (nI p)), (2, .int (nI (p + l))), (3, .ref 37), (4, .int 37), (5, .int 30)]) (st' := []) (H' := hC A E N V W ++ g) (C := []) 26 1 rfl trivial (z_Ln.brT (decide_eq_true (z_B1_f rfl)) ?_)
        exact nx
  · have hm : z_mt 30 b p l = false := by
      unfold z_mt
      rw [decide_eq_false (show ¬ (z_wls.getD 30 []).length = l from fun q => hlk q.symm)]
      rfl
    refine z_Ln.blk (pc' := (if decide (¬ 6 = ((nI (p + l)) - (nI p))) = true then 54 else 38)) (lv' := [(6, .ref 30), (0, .ref 110), (1, .int (nI p)), (2, .int (nI (p + l))), (3, .ref 37), (4, .int 37), (5, .int 30)]) (st' := []) (H' := hC A E N V W ++ g) (C := []) 17 4 rfl trivial (z_Ln.brT (decide_eq_true (by rw [es]; exact fun q => hlk ((nI_eq (a := 6) (b := l) (by decide) (by omega)).mp q).symm)) ?_)
    exact nxt hm
set_option maxRecDepth 10000 in
theorem sp_29 {L : Nat} {xs : Nat → Int32} {fv : Value} {f w : Nat} {c : Nat × Nat} {A : Nat → List (Nat × Int32)} {E : List (Nat × Option Nat)} {N : Nat → Nat} {V : Nat → Nat → Int32} {W : Nat} {g : List z_E} {b : Nat → Nat} {n p l d : Nat} (hT : z_Tx (A 4) b n) (hl : 1 ≤ l) (hp : p + l ≤ n) (hRm : z_Rm (hC A E N V W ++ g, c)) (hf : 5 ≤ f) (hw : 500 ≤ w) (hd : z_Ln L xs fv f w 35 60 [(0, .ref 110), (1, .int (nI p)), (2, .int (nI (p + l)))] [] (hC A E N V W ++ g, c) (.inl (some (.ref d))) (hC A E N V W ++ g, c)) : z_Ln L xs fv f w 35 11 [(0, .ref 110), (1, .int (nI p)), (2, .int (nI (p + l))), (3, .ref 37), (4, .int 37), (5, .int 29)] [] (hC A E N V W ++ g, c) (.inl (some (.ref (z_rs b p l d 8)))) (hC A E N V W ++ g, c) := by
  have hR0 : ((c.1 ≤ 601024 ∧ c.2 ≤ 7293034) ∧ 1 ≤ f ∧ 60 ≤ w) := ⟨hRm, by omega, by omega⟩
  have m36 : z_pg.2.1 36 = 1 := rfl
  have m38 : z_pg.2.1 38 = 4 := rfl
  have hn : n ≤ 1500 := hT.1
  have e : z_rs b p l d 8 = (if z_mt 29 b p l = true then 29 else z_rs b p l d 7) := rfl
  rw [e]
  refine z_Ln.blk (pc' := (if decide (37 ≤ 29) = true then 60 else 18)) (lv' := [(0, .ref 110), (1, .int (nI p)), (2, .int (nI (p + l))), (3, .ref 37), (4, .int 37), (5, .int 29)]) (st' := []) (H' := hC A E N V W ++ g) (C := []) 7 3 rfl trivial (z_Ln.brF (decide_eq_false (by decide)) ?_)
  refine z_Ln.blk (pc' := 29) (lv' := [(6, .ref 29), (0, .ref 110), (1, .int (nI p)), (2, .int (nI (p + l))), (3, .ref 37), (4, .int 37), (5, .int 29)]) (st' := [.ref 90]) (H' := hC A E N V W ++ g) (C := [((c.1 ≤ 601024 ∧ c.2 ≤ 7293034) ∧ 1 ≤ f ∧ 60 ≤ w), z_in 29 37 = true, ((c.1 ≤ 601024 ∧ c.2 ≤ 7293034) ∧ 1 ≤ f ∧ 60 ≤ w)]) 10 6 rfl ⟨hR0, (by decide : z_in 29 37 = true), hR0⟩ ?_
  refine z_Ln.call (s := 0) (mj := 36) (as := [.ref 90]) (rr := []) (v := some (.int 4)) (T1 := (hC A E N V W ++ g, c)) rfl rfl ⟨⟨by omega, by omega⟩, (by decide : (0 : Nat) ≤ 8), (by decide +kernel : (1 : Nat) ≤ z_pg.2.1 36)⟩ hRm (s36_25 hRm (by omega) (by omega)) ⟨trivial, ⟨(Or.inl (by decide)), (z_sm0C 0 (by decide) rfl rfl), trivial, trivial, (Or.inl (by decide)), trivial, trivial, trivial⟩⟩ ?_
  have es : nI (p + l) - nI p = nI l := by rw [pk_sub (by omega), show p + l - p = l by omega]
  have nxt : z_mt 29 b p l = false → z_Ln L xs fv f w 35 54 [(6, .ref 29), (0, .ref 110), (1, .int (nI p)), (2, .int (nI (p + l))), (3, .ref 37), (4, .int 37), (5, .int 29)] [] (hC A E N V W ++ g, c) (.inl (some (.ref (if z_mt 29 b p l = true then 29 else z_rs b p l d 7)))) (hC A E N V W ++ g, c) := by
    intro hm
    rw [hm, if_neg (by decide)]
    refine z_Ln.blk (pc' := 11) (lv' := [(5, .int 30), (6, .ref 29), (0, .ref 110), (1, .int (nI p)), (2, .int (nI (p + l))), (3, .ref 37), (4, .int 37)]) (st' := []) (H' := hC A E N V W ++ g) (C := []) 29 2 rfl trivial ?_
    exact z_Ln.lv (z_le.cons rfl rfl (z_le.cons rfl rfl (z_le.cons rfl rfl (z_le.cons rfl rfl (z_le.cons rfl rfl (z_le.cons rfl rfl z_le.nil)))))) (sp_30 hT hl hp hRm hf hw hd)
  by_cases hlk : l = 4
  · refine z_Ln.blk (pc' := (if decide (¬ 4 = ((nI (p + l)) - (nI p))) = true then 54 else 38)) (lv' := [(6, .ref 29), (0, .ref 110), (1, .int (nI p)), (2, .int (nI (p + l))), (3, .ref 37), (4, .int 37), (5, .int 29)]) (st' := []) (H' := hC A E N V W ++ g) (C := []) 17 4 rfl trivial (z_Ln.brF (decide_eq_false (by rw [es, hlk]; exact not_not_intro rfl)) ?_)
    refine z_Ln.blk (pc' := 45) (lv' := [(6, .ref 29), (0, .ref 110), (1, .int (nI p)), (2, .int (nI (p + l))), (3, .ref 37), (4, .int 37), (5, .int 29)]) (st' := [.int (nI p), .ref 90, .ref 110]) (H' := hC A E N V W ++ g) (C := [((c.1 ≤ 601024 ∧ c.2 ≤ 7293034) ∧ 1 ≤ f ∧ 60 ≤ w)]) 21 4 rfl hR0 ?_
    have em : (decide (z_fn 0 (A 4) (nI p + 0).toNatClampNeg = 119) && decide (z_fn 0 (A 4) (nI p + 1).toNatClampNeg = 105) && decide (z_fn 0 (A 4) (nI p + 2).toNatClampNeg = 116) && decide (z_fn 0 (A 4) (nI p + 3).toNatClampNeg = 104)) = z_mt 29 b p l := by
      have c0 : decide (z_fn 0 (A 4) (nI p + 0).toNatClampNeg = 119) = decide (b (p + 0) = 119) := z_chq (j := 0) (ch := 119) hT (by omega) (by decide)
      have c1 : decide (z_fn 0 (A 4) (nI p + 1).toNatClampNeg = 105) = decide (b (p + 1) = 105) := z_chq (j := 1) (ch := 105) hT (by omega) (by decide)
      have c2 : decide (z_fn 0 (A 4) (nI p + 2).toNatClampNeg = 116) = decide (b (p + 2) = 116) := z_chq (j := 2) (ch := 116) hT (by omega) (by decide)
      have c3 : decide (z_fn 0 (A 4) (nI p + 3).toNatClampNeg = 104) = decide (b (p + 3) = 104) := z_chq (j := 3) (ch := 104) hT (by omega) (by decide)
      rw [c0, c1, c2, c3]
      rw [hlk]
      show _ = (decide (4 = 4) && (decide (b (p + 0) = 119) && (decide (b (p + 1) = 105) && (decide (b (p + 2) = 116) && (decide (b (p + 3) = 104) && true)))))
      simp [Bool.and_assoc]
    refine z_Ln.call (s := 0) (mj := 38) (as := [.ref 110, .ref 90, .int (nI p)]) (rr := []) (v := some (.int (z_B1 (z_mt 29 b p l)))) (T1 := (hC A E N V W ++ g, c)) rfl rfl ⟨⟨by omega, by omega⟩, (by decide : (0 : Nat) ≤ 8), (by decide +kernel : (3 : Nat) ≤ z_pg.2.1 38)⟩ hRm ?_ ⟨trivial, ⟨(Or.inl (by decide)), (z_sm0C 0 (by decide) rfl rfl), trivial, trivial, (Or.inl (by decide)), trivial, trivial, trivial⟩⟩ ?_
    · rw [← em]
      refine z_Ln.blk (pc' := 2) (lv' := [(3, .int 0), (0, .ref 110), (1, .ref 90), (2, .int (nI p))]) (st' := []) (H' := hC A E N V W ++ g) (C := []) 0 2 rfl trivial ?_
      exact s38_25_0 hRm (by omega) (by omega) (z_inA (p := p) (j := 0) (by omega)) (z_inA (p := p) (j := 1) (by omega)) (z_inA (p := p) (j := 2) (by omega)) (z_inA (p := p) (j := 3) (by omega))
    · cases hm : z_mt 29 b p l with
      | true =>
        refine z_Ln.blk (pc' := (if decide ((z_B1 true) = 0) = true then 54 else 51)) (lv' := [(6, .ref 29), (0, .ref 110), (1, .int (nI p)), (2, .int (nI (p + l))), (3, .ref 37), (4, .int 37), (5, .int 29)]) (st' := []) (H' := hC A E N V W ++ g) (C := []) 26 1 rfl trivial (z_Ln.brF (decide_eq_false (z_B1_t rfl)) ?_)
        refine z_Ln.blk (pc' := 53) (lv' := [(6, .ref 29), (0, .ref 110), (1, .int (nI p)), (2, .int (nI (p + l))), (3, .ref 37), (4, .int 37), (5, .int 29)]) (st' := [.ref 29]) (H' := hC A E N V W ++ g) (C := []) 27 1 rfl trivial ?_
        rw [if_pos rfl]
        exact z_Ln.ret rfl rfl
      | false =>
        have nx := nxt hm
        rw [hm] at nx
        refine z_Ln.blk (pc' := (if decide ((z_B1 false) = 0) = true then 54 else 51)) (lv' := [(6, .ref 29), (0, .ref 110), (1, .int (nI p)), (2, .int (nI (p + l))), (3, .ref 37), (4, .int 37), (5, .int 29)]) (st' := []) (H' := hC A E N V W ++ g) (C := []) 26 1 rfl trivial (z_Ln.brT (decide_eq_true (z_B1_f rfl)) ?_)
        exact nx
  · have hm : z_mt 29 b p l = false := by
      unfold z_mt
      rw [decide_eq_false (show ¬ (z_wls.getD 29 []).length = l from fun q => hlk q.symm)]
      rfl
    refine z_Ln.blk (pc' := (if decide (¬ 4 = ((nI (p + l)) - (nI p))) = true then 54 else 38)) (lv' := [(6, .ref 29), (0, .ref 110), (1, .int (nI p)), (2, .int (nI (p + l))), (3, .ref 37), (4, .int 37), (5, .int 29)]) (st' := []) (H' := hC A E N V W ++ g) (C := []) 17 4 rfl trivial (z_Ln.brT (decide_eq_true (by rw [es]; exact fun q => hlk ((nI_eq (a := 4) (b := l) (by decide) (by omega)).mp q).symm)) ?_)
    exact nxt hm
set_option maxRecDepth 10000 in
theorem sp_28 {L : Nat} {xs : Nat → Int32} {fv : Value} {f w : Nat} {c : Nat × Nat} {A : Nat → List (Nat × Int32)} {E : List (Nat × Option Nat)} {N : Nat → Nat} {V : Nat → Nat → Int32} {W : Nat} {g : List z_E} {b : Nat → Nat} {n p l d : Nat} (hT : z_Tx (A 4) b n) (hl : 1 ≤ l) (hp : p + l ≤ n) (hRm : z_Rm (hC A E N V W ++ g, c)) (hf : 5 ≤ f) (hw : 500 ≤ w) (hd : z_Ln L xs fv f w 35 60 [(0, .ref 110), (1, .int (nI p)), (2, .int (nI (p + l)))] [] (hC A E N V W ++ g, c) (.inl (some (.ref d))) (hC A E N V W ++ g, c)) : z_Ln L xs fv f w 35 11 [(0, .ref 110), (1, .int (nI p)), (2, .int (nI (p + l))), (3, .ref 37), (4, .int 37), (5, .int 28)] [] (hC A E N V W ++ g, c) (.inl (some (.ref (z_rs b p l d 9)))) (hC A E N V W ++ g, c) := by
  have hR0 : ((c.1 ≤ 601024 ∧ c.2 ≤ 7293034) ∧ 1 ≤ f ∧ 60 ≤ w) := ⟨hRm, by omega, by omega⟩
  have m36 : z_pg.2.1 36 = 1 := rfl
  have m38 : z_pg.2.1 38 = 4 := rfl
  have hn : n ≤ 1500 := hT.1
  have e : z_rs b p l d 9 = (if z_mt 28 b p l = true then 28 else z_rs b p l d 8) := rfl
  rw [e]
  refine z_Ln.blk (pc' := (if decide (37 ≤ 28) = true then 60 else 18)) (lv' := [(0, .ref 110), (1, .int (nI p)), (2, .int (nI (p + l))), (3, .ref 37), (4, .int 37), (5, .int 28)]) (st' := []) (H' := hC A E N V W ++ g) (C := []) 7 3 rfl trivial (z_Ln.brF (decide_eq_false (by decide)) ?_)
  refine z_Ln.blk (pc' := 29) (lv' := [(6, .ref 28), (0, .ref 110), (1, .int (nI p)), (2, .int (nI (p + l))), (3, .ref 37), (4, .int 37), (5, .int 28)]) (st' := [.ref 88]) (H' := hC A E N V W ++ g) (C := [((c.1 ≤ 601024 ∧ c.2 ≤ 7293034) ∧ 1 ≤ f ∧ 60 ≤ w), z_in 28 37 = true, ((c.1 ≤ 601024 ∧ c.2 ≤ 7293034) ∧ 1 ≤ f ∧ 60 ≤ w)]) 10 6 rfl ⟨hR0, (by decide : z_in 28 37 = true), hR0⟩ ?_
  refine z_Ln.call (s := 0) (mj := 36) (as := [.ref 88]) (rr := []) (v := some (.int 6)) (T1 := (hC A E N V W ++ g, c)) rfl rfl ⟨⟨by omega, by omega⟩, (by decide : (0 : Nat) ≤ 8), (by decide +kernel : (1 : Nat) ≤ z_pg.2.1 36)⟩ hRm (s36_24 hRm (by omega) (by omega)) ⟨trivial, ⟨(Or.inl (by decide)), (z_sm0C 0 (by decide) rfl rfl), trivial, trivial, (Or.inl (by decide)), trivial, trivial, trivial⟩⟩ ?_
  have es : nI (p + l) - nI p = nI l := by rw [pk_sub (by omega), show p + l - p = l by omega]
  have nxt : z_mt 28 b p l = false → z_Ln L xs fv f w 35 54 [(6, .ref 28), (0, .ref 110), (1, .int (nI p)), (2, .int (nI (p + l))), (3, .ref 37), (4, .int 37), (5, .int 28)] [] (hC A E N V W ++ g, c) (.inl (some (.ref (if z_mt 28 b p l = true then 28 else z_rs b p l d 8)))) (hC A E N V W ++ g, c) := by
    intro hm
    rw [hm, if_neg (by decide)]
    refine z_Ln.blk (pc' := 11) (lv' := [(5, .int 29), (6, .ref 28), (0, .ref 110), (1, .int (nI p)), (2, .int (nI (p + l))), (3, .ref 37), (4, .int 37)]) (st' := []) (H' := hC A E N V W ++ g) (C := []) 29 2 rfl trivial ?_
    exact z_Ln.lv (z_le.cons rfl rfl (z_le.cons rfl rfl (z_le.cons rfl rfl (z_le.cons rfl rfl (z_le.cons rfl rfl (z_le.cons rfl rfl z_le.nil)))))) (sp_29 hT hl hp hRm hf hw hd)
  by_cases hlk : l = 6
  · refine z_Ln.blk (pc' := (if decide (¬ 6 = ((nI (p + l)) - (nI p))) = true then 54 else 38)) (lv' := [(6, .ref 28), (0, .ref 110), (1, .int (nI p)), (2, .int (nI (p + l))), (3, .ref 37), (4, .int 37), (5, .int 28)]) (st' := []) (H' := hC A E N V W ++ g) (C := []) 17 4 rfl trivial (z_Ln.brF (decide_eq_false (by rw [es, hlk]; exact not_not_intro rfl)) ?_)
    refine z_Ln.blk (pc' := 45) (lv' := [(6, .ref 28), (0, .ref 110), (1, .int (nI p)), (2, .int (nI (p + l))), (3, .ref 37), (4, .int 37), (5, .int 28)]) (st' := [.int (nI p), .ref 88, .ref 110]) (H' := hC A E N V W ++ g) (C := [((c.1 ≤ 601024 ∧ c.2 ≤ 7293034) ∧ 1 ≤ f ∧ 60 ≤ w)]) 21 4 rfl hR0 ?_
    have em : (decide (z_fn 0 (A 4) (nI p + 0).toNatClampNeg = 104) && decide (z_fn 0 (A 4) (nI p + 1).toNatClampNeg = 97) && decide (z_fn 0 (A 4) (nI p + 2).toNatClampNeg = 110) && decide (z_fn 0 (A 4) (nI p + 3).toNatClampNeg = 100) && decide (z_fn 0 (A 4) (nI p + 4).toNatClampNeg = 108) && decide (z_fn 0 (A 4) (nI p + 5).toNatClampNeg = 101)) = z_mt 28 b p l := by
      have c0 : decide (z_fn 0 (A 4) (nI p + 0).toNatClampNeg = 104) = decide (b (p + 0) = 104) := z_chq (j := 0) (ch := 104) hT (by omega) (by decide)
      have c1 : decide (z_fn 0 (A 4) (nI p + 1).toNatClampNeg = 97) = decide (b (p + 1) = 97) := z_chq (j := 1) (ch := 97) hT (by omega) (by decide)
      have c2 : decide (z_fn 0 (A 4) (nI p + 2).toNatClampNeg = 110) = decide (b (p + 2) = 110) := z_chq (j := 2) (ch := 110) hT (by omega) (by decide)
      have c3 : decide (z_fn 0 (A 4) (nI p + 3).toNatClampNeg = 100) = decide (b (p + 3) = 100) := z_chq (j := 3) (ch := 100) hT (by omega) (by decide)
      have c4 : decide (z_fn 0 (A 4) (nI p + 4).toNatClampNeg = 108) = decide (b (p + 4) = 108) := z_chq (j := 4) (ch := 108) hT (by omega) (by decide)
      have c5 : decide (z_fn 0 (A 4) (nI p + 5).toNatClampNeg = 101) = decide (b (p + 5) = 101) := z_chq (j := 5) (ch := 101) hT (by omega) (by decide)
      rw [c0, c1, c2, c3, c4, c5]
      rw [hlk]
      show _ = (decide (6 = 6) && (decide (b (p + 0) = 104) && (decide (b (p + 1) = 97) && (decide (b (p + 2) = 110) && (decide (b (p + 3) = 100) && (decide (b (p + 4) = 108) && (decide (b (p + 5) = 101) && true)))))))
      simp [Bool.and_assoc]
    refine z_Ln.call (s := 0) (mj := 38) (as := [.ref 110, .ref 88, .int (nI p)]) (rr := []) (v := some (.int (z_B1 (z_mt 28 b p l)))) (T1 := (hC A E N V W ++ g, c)) rfl rfl ⟨⟨by omega, by omega⟩, (by decide : (0 : Nat) ≤ 8), (by decide +kernel : (3 : Nat) ≤ z_pg.2.1 38)⟩ hRm ?_ ⟨trivial, ⟨(Or.inl (by decide)), (z_sm0C 0 (by decide) rfl rfl), trivial, trivial, (Or.inl (by decide)), trivial, trivial, trivial⟩⟩ ?_
    · rw [← em]
      refine z_Ln.blk (pc' := 2) (lv' := [(3, .int 0), (0, .ref 110), (1, .ref 88), (2, .int (nI p))]) (st' := []) (H' := hC A E N V W ++ g) (C := []) 0 2 rfl trivial ?_
      exact s38_24_0 hRm (by omega) (by omega) (z_inA (p := p) (j := 0) (by omega)) (z_inA (p := p) (j := 1) (by omega)) (z_inA (p := p) (j := 2) (by omega)) (z_inA (p := p) (j := 3) (by omega)) (z_inA (p := p) (j := 4) (by omega)) (z_inA (p := p) (j := 5) (by omega))
    · cases hm : z_mt 28 b p l with
      | true =>
        refine z_Ln.blk (pc' := (if decide ((z_B1 true) = 0) = true then 54 else 51)) (lv' := [(6, .ref 28), (0, .ref 110), (1, .int (nI p)), (2, .int (nI (p + l))), (3, .ref 37), (4, .int 37), (5, .int 28)]) (st' := []) (H' := hC A E N V W ++ g) (C := []) 26 1 rfl trivial (z_Ln.brF (decide_eq_false (z_B1_t rfl)) ?_)
        refine z_Ln.blk (pc' := 53) (lv' := [(6, .ref 28), (0, .ref 110), (1, .int (nI p)), (2, .int (nI (p + l))), (3, .ref 37), (4, .int 37), (5, .int 28)]) (st' := [.ref 28]) (H' := hC A E N V W ++ g) (C := []) 27 1 rfl trivial ?_
        rw [if_pos rfl]
        exact z_Ln.ret rfl rfl
      | false =>
        have nx := nxt hm
        rw [hm] at nx
        refine z_Ln.blk (pc' := (if decide ((z_B1 false) = 0) = true then 54 else 51)) (lv' := [(6, .ref 28), (0, .ref 110), (1, .int (nI p)), (2, .int (nI (p + l))), (3, .ref 37), (4, .int 37), (5, .int 28)]) (st' := []) (H' := hC A E N V W ++ g) (C := []) 26 1 rfl trivial (z_Ln.brT (decide_eq_true (z_B1_f rfl)) ?_)
        exact nx
  · have hm : z_mt 28 b p l = false := by
      unfold z_mt
      rw [decide_eq_false (show ¬ (z_wls.getD 28 []).length = l from fun q => hlk q.symm)]
      rfl
    refine z_Ln.blk (pc' := (if decide (¬ 6 = ((nI (p + l)) - (nI p))) = true then 54 else 38)) (lv' := [(6, .ref 28), (0, .ref 110), (1, .int (nI p)), (2, .int (nI (p + l))), (3, .ref 37), (4, .int 37), (5, .int 28)]) (st' := []) (H' := hC A E N V W ++ g) (C := []) 17 4 rfl trivial (z_Ln.brT (decide_eq_true (by rw [es]; exact fun q => hlk ((nI_eq (a := 6) (b := l) (by decide) (by omega)).mp q).symm)) ?_)
    exact nxt hm
set_option maxRecDepth 10000 in
theorem sp_27 {L : Nat} {xs : Nat → Int32} {fv : Value} {f w : Nat} {c : Nat × Nat} {A : Nat → List (Nat × Int32)} {E : List (Nat × Option Nat)} {N : Nat → Nat} {V : Nat → Nat → Int32} {W : Nat} {g : List z_E} {b : Nat → Nat} {n p l d : Nat} (hT : z_Tx (A 4) b n) (hl : 1 ≤ l) (hp : p + l ≤ n) (hRm : z_Rm (hC A E N V W ++ g, c)) (hf : 5 ≤ f) (hw : 500 ≤ w) (hd : z_Ln L xs fv f w 35 60 [(0, .ref 110), (1, .int (nI p)), (2, .int (nI (p + l)))] [] (hC A E N V W ++ g, c) (.inl (some (.ref d))) (hC A E N V W ++ g, c)) : z_Ln L xs fv f w 35 11 [(0, .ref 110), (1, .int (nI p)), (2, .int (nI (p + l))), (3, .ref 37), (4, .int 37), (5, .int 27)] [] (hC A E N V W ++ g, c) (.inl (some (.ref (z_rs b p l d 10)))) (hC A E N V W ++ g, c) := by
  have hR0 : ((c.1 ≤ 601024 ∧ c.2 ≤ 7293034) ∧ 1 ≤ f ∧ 60 ≤ w) := ⟨hRm, by omega, by omega⟩
  have m36 : z_pg.2.1 36 = 1 := rfl
  have m38 : z_pg.2.1 38 = 4 := rfl
  have hn : n ≤ 1500 := hT.1
  have e : z_rs b p l d 10 = (if z_mt 27 b p l = true then 27 else z_rs b p l d 9) := rfl
  rw [e]
  refine z_Ln.blk (pc' := (if decide (37 ≤ 27) = true then 60 else 18)) (lv' := [(0, .ref 110), (1, .int (nI p)), (2, .int (nI (p + l))), (3, .ref 37), (4, .int 37), (5, .int 27)]) (st' := []) (H' := hC A E N V W ++ g) (C := []) 7 3 rfl trivial (z_Ln.brF (decide_eq_false (by decide)) ?_)
  refine z_Ln.blk (pc' := 29) (lv' := [(6, .ref 27), (0, .ref 110), (1, .int (nI p)), (2, .int (nI (p + l))), (3, .ref 37), (4, .int 37), (5, .int 27)]) (st' := [.ref 86]) (H' := hC A E N V W ++ g) (C := [((c.1 ≤ 601024 ∧ c.2 ≤ 7293034) ∧ 1 ≤ f ∧ 60 ≤ w), z_in 27 37 = true, ((c.1 ≤ 601024 ∧ c.2 ≤ 7293034) ∧ 1 ≤ f ∧ 60 ≤ w)]) 10 6 rfl ⟨hR0, (by decide : z_in 27 37 = true), hR0⟩ ?_
  refine z_Ln.call (s := 0) (mj := 36) (as := [.ref 86]) (rr := []) (v := some (.int 2)) (T1 := (hC A E N V W ++ g, c)) rfl rfl ⟨⟨by omega, by omega⟩, (by decide : (0 : Nat) ≤ 8), (by decide +kernel : (1 : Nat) ≤ z_pg.2.1 36)⟩ hRm (s36_23 hRm (by omega) (by omega)) ⟨trivial, ⟨(Or.inl (by decide)), (z_sm0C 0 (by decide) rfl rfl), trivial, trivial, (Or.inl (by decide)), trivial, trivial, trivial⟩⟩ ?_
  have es : nI (p + l) - nI p = nI l := by rw [pk_sub (by omega), show p + l - p = l by omega]
  have nxt : z_mt 27 b p l = false → z_Ln L xs fv f w 35 54 [(6, .ref 27), (0, .ref 110), (1, .int (nI p)), (2, .int (nI (p + l))), (3, .ref 37), (4, .int 37), (5, .int 27)] [] (hC A E N V W ++ g, c) (.inl (some (.ref (if z_mt 27 b p l = true then 27 else z_rs b p l d 9)))) (hC A E N V W ++ g, c) := by
    intro hm
    rw [hm, if_neg (by decide)]
    refine z_Ln.blk (pc' := 11) (lv' := [(5, .int 28), (6, .ref 27), (0, .ref 110), (1, .int (nI p)), (2, .int (nI (p + l))), (3, .ref 37), (4, .int 37)]) (st' := []) (H' := hC A E N V W ++ g) (C := []) 29 2 rfl trivial ?_
    exact z_Ln.lv (z_le.cons rfl rfl (z_le.cons rfl rfl (z_le.cons rfl rfl (z_le.cons rfl rfl (z_le.cons rfl rfl (z_le.cons rfl rfl z_le.nil)))))) (sp_28 hT hl hp hRm hf hw hd)
  by_cases hlk : l = 2
  · refine z_Ln.blk (pc' := (if decide (¬ 2 = ((nI (p + l)) - (nI p))) = true then 54 else 38)) (lv' := [(6, .ref 27), (0, .ref 110), (1, .int (nI p)), (2, .int (nI (p + l))), (3, .ref 37), (4, .int 37), (5, .int 27)]) (st' := []) (H' := hC A E N V W ++ g) (C := []) 17 4 rfl trivial (z_Ln.brF (decide_eq_false (by rw [es, hlk]; exact not_not_intro rfl)) ?_)
    refine z_Ln.blk (pc' := 45) (lv' := [(6, .ref 27), (0, .ref 110), (1, .int (nI p)), (2, .int (nI (p + l))), (3, .ref 37), (4, .int 37), (5, .int 27)]) (st' := [.int (nI p), .ref 86, .ref 110]) (H' := hC A E N V W ++ g) (C := [((c.1 ≤ 601024 ∧ c.2 ≤ 7293034) ∧ 1 ≤ f ∧ 60 ≤ w)]) 21 4 rfl hR0 ?_
    have em : (decide (z_fn 0 (A 4) (nI p + 0).toNatClampNeg = 102) && decide (z_fn 0 (A 4) (nI p + 1).toNatClampNeg = 110)) = z_mt 27 b p l := by
      have c0 : decide (z_fn 0 (A 4) (nI p + 0).toNatClampNeg = 102) = decide (b (p + 0) = 102) := z_chq (j := 0) (ch := 102) hT (by omega) (by decide)
      have c1 : decide (z_fn 0 (A 4) (nI p + 1).toNatClampNeg = 110) = decide (b (p + 1) = 110) := z_chq (j := 1) (ch := 110) hT (by omega) (by decide)
      rw [c0, c1]
      rw [hlk]
      show _ = (decide (2 = 2) && (decide (b (p + 0) = 102) && (decide (b (p + 1) = 110) && true)))
      simp [Bool.and_assoc]
    refine z_Ln.call (s := 0) (mj := 38) (as := [.ref 110, .ref 86, .int (nI p)]) (rr := []) (v := some (.int (z_B1 (z_mt 27 b p l)))) (T1 := (hC A E N V W ++ g, c)) rfl rfl ⟨⟨by omega, by omega⟩, (by decide : (0 : Nat) ≤ 8), (by decide +kernel : (3 : Nat) ≤ z_pg.2.1 38)⟩ hRm ?_ ⟨trivial, ⟨(Or.inl (by decide)), (z_sm0C 0 (by decide) rfl rfl), trivial, trivial, (Or.inl (by decide)), trivial, trivial, trivial⟩⟩ ?_
    · rw [← em]
      refine z_Ln.blk (pc' := 2) (lv' := [(3, .int 0), (0, .ref 110), (1, .ref 86), (2, .int (nI p))]) (st' := []) (H' := hC A E N V W ++ g) (C := []) 0 2 rfl trivial ?_
      exact s38_23_0 hRm (by omega) (by omega) (z_inA (p := p) (j := 0) (by omega)) (z_inA (p := p) (j := 1) (by omega))
    · cases hm : z_mt 27 b p l with
      | true =>
        refine z_Ln.blk (pc' := (if decide ((z_B1 true) = 0) = true then 54 else 51)) (lv' := [(6, .ref 27), (0, .ref 110), (1, .int (nI p)), (2, .int (nI (p + l))), (3, .ref 37), (4, .int 37), (5, .int 27)]) (st' := []) (H' := hC A E N V W ++ g) (C := []) 26 1 rfl trivial (z_Ln.brF (decide_eq_false (z_B1_t rfl)) ?_)
        refine z_Ln.blk (pc' := 53) (lv' := [(6, .ref 27), (0, .ref 110), (1, .int (nI p)), (2, .int (nI (p + l))), (3, .ref 37), (4, .int 37), (5, .int 27)]) (st' := [.ref 27]) (H' := hC A E N V W ++ g) (C := []) 27 1 rfl trivial ?_
        rw [if_pos rfl]
        exact z_Ln.ret rfl rfl
      | false =>
        have nx := nxt hm
        rw [hm] at nx
        refine z_Ln.blk (pc' := (if decide ((z_B1 false) = 0) = true then 54 else 51)) (lv' := [(6, .ref 27), (0, .ref 110), (1, .int (nI p)), (2, .int (nI (p + l))), (3, .ref 37), (4, .int 37), (5, .int 27)]) (st' := []) (H' := hC A E N V W ++ g) (C := []) 26 1 rfl trivial (z_Ln.brT (decide_eq_true (z_B1_f rfl)) ?_)
        exact nx
  · have hm : z_mt 27 b p l = false := by
      unfold z_mt
      rw [decide_eq_false (show ¬ (z_wls.getD 27 []).length = l from fun q => hlk q.symm)]
      rfl
    refine z_Ln.blk (pc' := (if decide (¬ 2 = ((nI (p + l)) - (nI p))) = true then 54 else 38)) (lv' := [(6, .ref 27), (0, .ref 110), (1, .int (nI p)), (2, .int (nI (p + l))), (3, .ref 37), (4, .int 37), (5, .int 27)]) (st' := []) (H' := hC A E N V W ++ g) (C := []) 17 4 rfl trivial (z_Ln.brT (decide_eq_true (by rw [es]; exact fun q => hlk ((nI_eq (a := 2) (b := l) (by decide) (by omega)).mp q).symm)) ?_)
    exact nxt hm
set_option maxRecDepth 10000 in
theorem sp_26 {L : Nat} {xs : Nat → Int32} {fv : Value} {f w : Nat} {c : Nat × Nat} {A : Nat → List (Nat × Int32)} {E : List (Nat × Option Nat)} {N : Nat → Nat} {V : Nat → Nat → Int32} {W : Nat} {g : List z_E} {b : Nat → Nat} {n p l d : Nat} (hT : z_Tx (A 4) b n) (hl : 1 ≤ l) (hp : p + l ≤ n) (hRm : z_Rm (hC A E N V W ++ g, c)) (hf : 5 ≤ f) (hw : 500 ≤ w) (hd : z_Ln L xs fv f w 35 60 [(0, .ref 110), (1, .int (nI p)), (2, .int (nI (p + l)))] [] (hC A E N V W ++ g, c) (.inl (some (.ref d))) (hC A E N V W ++ g, c)) : z_Ln L xs fv f w 35 11 [(0, .ref 110), (1, .int (nI p)), (2, .int (nI (p + l))), (3, .ref 37), (4, .int 37), (5, .int 26)] [] (hC A E N V W ++ g, c) (.inl (some (.ref (z_rs b p l d 11)))) (hC A E N V W ++ g, c) := by
  have hR0 : ((c.1 ≤ 601024 ∧ c.2 ≤ 7293034) ∧ 1 ≤ f ∧ 60 ≤ w) := ⟨hRm, by omega, by omega⟩
  have m36 : z_pg.2.1 36 = 1 := rfl
  have m38 : z_pg.2.1 38 = 4 := rfl
  have hn : n ≤ 1500 := hT.1
  have e : z_rs b p l d 11 = (if z_mt 26 b p l = true then 26 else z_rs b p l d 10) := rfl
  rw [e]
  refine z_Ln.blk (pc' := (if decide (37 ≤ 26) = true then 60 else 18)) (lv' := [(0, .ref 110), (1, .int (nI p)), (2, .int (nI (p + l))), (3, .ref 37), (4, .int 37), (5, .int 26)]) (st' := []) (H' := hC A E N V W ++ g) (C := []) 7 3 rfl trivial (z_Ln.brF (decide_eq_false (by decide)) ?_)
  refine z_Ln.blk (pc' := 29) (lv' := [(6, .ref 26), (0, .ref 110), (1, .int (nI p)), (2, .int (nI (p + l))), (3, .ref 37), (4, .int 37), (5, .int 26)]) (st' := [.ref 84]) (H' := hC A E N V W ++ g) (C := [((c.1 ≤ 601024 ∧ c.2 ≤ 7293034) ∧ 1 ≤ f ∧ 60 ≤ w), z_in 26 37 = true, ((c.1 ≤ 601024 ∧ c.2 ≤ 7293034) ∧ 1 ≤ f ∧ 60 ≤ w)]) 10 6 rfl ⟨hR0, (by decide : z_in 26 37 = true), hR0⟩ ?_
  refine z_Ln.call (s := 0) (mj := 36) (as := [.ref 84]) (rr := []) (v := some (.int 4)) (T1 := (hC A E N V W ++ g, c)) rfl rfl ⟨⟨by omega, by omega⟩, (by decide : (0 : Nat) ≤ 8), (by decide +kernel : (1 : Nat) ≤ z_pg.2.1 36)⟩ hRm (s36_22 hRm (by omega) (by omega)) ⟨trivial, ⟨(Or.inl (by decide)), (z_sm0C 0 (by decide) rfl rfl), trivial, trivial, (Or.inl (by decide)), trivial, trivial, trivial⟩⟩ ?_
  have es : nI (p + l) - nI p = nI l := by rw [pk_sub (by omega), show p + l - p = l by omega]
  have nxt : z_mt 26 b p l = false → z_Ln L xs fv f w 35 54 [(6, .ref 26), (0, .ref 110), (1, .int (nI p)), (2, .int (nI (p + l))), (3, .ref 37), (4, .int 37), (5, .int 26)] [] (hC A E N V W ++ g, c) (.inl (some (.ref (if z_mt 26 b p l = true then 26 else z_rs b p l d 10)))) (hC A E N V W ++ g, c) := by
    intro hm
    rw [hm, if_neg (by decide)]
    refine z_Ln.blk (pc' := 11) (lv' := [(5, .int 27), (6, .ref 26), (0, .ref 110), (1, .int (nI p)), (2, .int (nI (p + l))), (3, .ref 37), (4, .int 37)]) (st' := []) (H' := hC A E N V W ++ g) (C := []) 29 2 rfl trivial ?_
    exact z_Ln.lv (z_le.cons rfl rfl (z_le.cons rfl rfl (z_le.cons rfl rfl (z_le.cons rfl rfl (z_le.cons rfl rfl (z_le.cons rfl rfl z_le.nil)))))) (sp_27 hT hl hp hRm hf hw hd)
  by_cases hlk : l = 4
  · refine z_Ln.blk (pc' := (if decide (¬ 4 = ((nI (p + l)) - (nI p))) = true then 54 else 38)) (lv' := [(6, .ref 26), (0, .ref 110), (1, .int (nI p)), (2, .int (nI (p + l))), (3, .ref 37), (4, .int 37), (5, .int 26)]) (st' := []) (H' := hC A E N V W ++ g) (C := []) 17 4 rfl trivial (z_Ln.brF (decide_eq_false (by rw [es, hlk]; exact not_not_intro rfl)) ?_)
    refine z_Ln.blk (pc' := 45) (lv' := [(6, .ref 26), (0, .ref 110), (1, .int (nI p)), (2, .int (nI (p + l))), (3, .ref 37), (4, .int 37), (5, .int 26)]) (st' := [.int (nI p), .ref 84, .ref 110]) (H' := hC A E N V W ++ g) (C := [((c.1 ≤ 601024 ∧ c.2 ≤ 7293034) ∧ 1 ≤ f ∧ 60 ≤ w)]) 21 4 rfl hR0 ?_
    have em : (decide (z_fn 0 (A 4) (nI p + 0).toNatClampNeg = 101) && decide (z_fn 0 (A 4) (nI p + 1).toNatClampNeg = 108) && decide (z_fn 0 (A 4) (nI p + 2).toNatClampNeg = 115) && decide (z_fn 0 (A 4) (nI p + 3).toNatClampNeg = 101)) = z_mt 26 b p l := by
      have c0 : decide (z_fn 0 (A 4) (nI p + 0).toNatClampNeg = 101) = decide (b (p + 0) = 101) := z_chq (j := 0) (ch := 101) hT (by omega) (by decide)
      have c1 : decide (z_fn 0 (A 4) (nI p + 1).toNatClampNeg = 108) = decide (b (p + 1) = 108) := z_chq (j := 1) (ch := 108) hT (by omega) (by decide)
      have c2 : decide (z_fn 0 (A 4) (nI p + 2).toNatClampNeg = 115) = decide (b (p + 2) = 115) := z_chq (j := 2) (ch := 115) hT (by omega) (by decide)
      have c3 : decide (z_fn 0 (A 4) (nI p + 3).toNatClampNeg = 101) = decide (b (p + 3) = 101) := z_chq (j := 3) (ch := 101) hT (by omega) (by decide)
      rw [c0, c1, c2, c3]
      rw [hlk]
      show _ = (decide (4 = 4) && (decide (b (p + 0) = 101) && (decide (b (p + 1) = 108) && (decide (b (p + 2) = 115) && (decide (b (p + 3) = 101) && true)))))
      simp [Bool.and_assoc]
    refine z_Ln.call (s := 0) (mj := 38) (as := [.ref 110, .ref 84, .int (nI p)]) (rr := []) (v := some (.int (z_B1 (z_mt 26 b p l)))) (T1 := (hC A E N V W ++ g, c)) rfl rfl ⟨⟨by omega, by omega⟩, (by decide : (0 : Nat) ≤ 8), (by decide +kernel : (3 : Nat) ≤ z_pg.2.1 38)⟩ hRm ?_ ⟨trivial, ⟨(Or.inl (by decide)), (z_sm0C 0 (by decide) rfl rfl), trivial, trivial, (Or.inl (by decide)), trivial, trivial, trivial⟩⟩ ?_
    · rw [← em]
      refine z_Ln.blk (pc' := 2) (lv' := [(3, .int 0), (0, .ref 110), (1, .ref 84), (2, .int (nI p))]) (st' := []) (H' := hC A E N V W ++ g) (C := []) 0 2 rfl trivial ?_
      exact s38_22_0 hRm (by omega) (by omega) (z_inA (p := p) (j := 0) (by omega)) (z_inA (p := p) (j := 1) (by omega)) (z_inA (p := p) (j := 2) (by omega)) (z_inA (p := p) (j := 3) (by omega))
    · cases hm : z_mt 26 b p l with
      | true =>
        refine z_Ln.blk (pc' := (if decide ((z_B1 true) = 0) = true then 54 else 51)) (lv' := [(6, .ref 26), (0, .ref 110), (1, .int (nI p)), (2, .int (nI (p + l))), (3, .ref 37), (4, .int 37), (5, .int 26)]) (st' := []) (H' := hC A E N V W ++ g) (C := []) 26 1 rfl trivial (z_Ln.brF (decide_eq_false (z_B1_t rfl)) ?_)
        refine z_Ln.blk (pc' := 53) (lv' := [(6, .ref 26), (0, .ref 110), (1, .int (nI p)), (2, .int (nI (p + l))), (3, .ref 37), (4, .int 37), (5, .int 26)]) (st' := [.ref 26]) (H' := hC A E N V W ++ g) (C := []) 27 1 rfl trivial ?_
        rw [if_pos rfl]
        exact z_Ln.ret rfl rfl
      | false =>
        have nx := nxt hm
        rw [hm] at nx
        refine z_Ln.blk (pc' := (if decide ((z_B1 false) = 0) = true then 54 else 51)) (lv' := [(6, .ref 26), (0, .ref 110), (1, .int (nI p)), (2, .int (nI (p + l))), (3, .ref 37), (4, .int 37), (5, .int 26)]) (st' := []) (H' := hC A E N V W ++ g) (C := []) 26 1 rfl trivial (z_Ln.brT (decide_eq_true (z_B1_f rfl)) ?_)
        exact nx
  · have hm : z_mt 26 b p l = false := by
      unfold z_mt
      rw [decide_eq_false (show ¬ (z_wls.getD 26 []).length = l from fun q => hlk q.symm)]
      rfl
    refine z_Ln.blk (pc' := (if decide (¬ 4 = ((nI (p + l)) - (nI p))) = true then 54 else 38)) (lv' := [(6, .ref 26), (0, .ref 110), (1, .int (nI p)), (2, .int (nI (p + l))), (3, .ref 37), (4, .int 37), (5, .int 26)]) (st' := []) (H' := hC A E N V W ++ g) (C := []) 17 4 rfl trivial (z_Ln.brT (decide_eq_true (by rw [es]; exact fun q => hlk ((nI_eq (a := 4) (b := l) (by decide) (by omega)).mp q).symm)) ?_)
    exact nxt hm
set_option maxRecDepth 10000 in
theorem sp_25 {L : Nat} {xs : Nat → Int32} {fv : Value} {f w : Nat} {c : Nat × Nat} {A : Nat → List (Nat × Int32)} {E : List (Nat × Option Nat)} {N : Nat → Nat} {V : Nat → Nat → Int32} {W : Nat} {g : List z_E} {b : Nat → Nat} {n p l d : Nat} (hT : z_Tx (A 4) b n) (hl : 1 ≤ l) (hp : p + l ≤ n) (hRm : z_Rm (hC A E N V W ++ g, c)) (hf : 5 ≤ f) (hw : 500 ≤ w) (hd : z_Ln L xs fv f w 35 60 [(0, .ref 110), (1, .int (nI p)), (2, .int (nI (p + l)))] [] (hC A E N V W ++ g, c) (.inl (some (.ref d))) (hC A E N V W ++ g, c)) : z_Ln L xs fv f w 35 11 [(0, .ref 110), (1, .int (nI p)), (2, .int (nI (p + l))), (3, .ref 37), (4, .int 37), (5, .int 25)] [] (hC A E N V W ++ g, c) (.inl (some (.ref (z_rs b p l d 12)))) (hC A E N V W ++ g, c) := by
  have hR0 : ((c.1 ≤ 601024 ∧ c.2 ≤ 7293034) ∧ 1 ≤ f ∧ 60 ≤ w) := ⟨hRm, by omega, by omega⟩
  have m36 : z_pg.2.1 36 = 1 := rfl
  have m38 : z_pg.2.1 38 = 4 := rfl
  have hn : n ≤ 1500 := hT.1
  have e : z_rs b p l d 12 = (if z_mt 25 b p l = true then 25 else z_rs b p l d 11) := rfl
  rw [e]
  refine z_Ln.blk (pc' := (if decide (37 ≤ 25) = true then 60 else 18)) (lv' := [(0, .ref 110), (1, .int (nI p)), (2, .int (nI (p + l))), (3, .ref 37), (4, .int 37), (5, .int 25)]) (st' := []) (H' := hC A E N V W ++ g) (C := []) 7 3 rfl trivial (z_Ln.brF (decide_eq_false (by decide)) ?_)
  refine z_Ln.blk (pc' := 29) (lv' := [(6, .ref 25), (0, .ref 110), (1, .int (nI p)), (2, .int (nI (p + l))), (3, .ref 37), (4, .int 37), (5, .int 25)]) (st' := [.ref 82]) (H' := hC A E N V W ++ g) (C := [((c.1 ≤ 601024 ∧ c.2 ≤ 7293034) ∧ 1 ≤ f ∧ 60 ≤ w), z_in 25 37 = true, ((c.1 ≤ 601024 ∧ c.2 ≤ 7293034) ∧ 1 ≤ f ∧ 60 ≤ w)]) 10 6 rfl ⟨hR0, (by decide : z_in 25 37 = true), hR0⟩ ?_
  refine z_Ln.call (s := 0) (mj := 36) (as := [.ref 82]) (rr := []) (v := some (.int 4)) (T1 := (hC A E N V W ++ g, c)) rfl rfl ⟨⟨by omega, by omega⟩, (by decide : (0 : Nat) ≤ 8), (by decide +kernel : (1 : Nat) ≤ z_pg.2.1 36)⟩ hRm (s36_21 hRm (by omega) (by omega)) ⟨trivial, ⟨(Or.inl (by decide)), (z_sm0C 0 (by decide) rfl rfl), trivial, trivial, (Or.inl (by decide)), trivial, trivial, trivial⟩⟩ ?_
  have es : nI (p + l) - nI p = nI l := by rw [pk_sub (by omega), show p + l - p = l by omega]
  have nxt : z_mt 25 b p l = false → z_Ln L xs fv f w 35 54 [(6, .ref 25), (0, .ref 110), (1, .int (nI p)), (2, .int (nI (p + l))), (3, .ref 37), (4, .int 37), (5, .int 25)] [] (hC A E N V W ++ g, c) (.inl (some (.ref (if z_mt 25 b p l = true then 25 else z_rs b p l d 11)))) (hC A E N V W ++ g, c) := by
    intro hm
    rw [hm, if_neg (by decide)]
    refine z_Ln.blk (pc' := 11) (lv' := [(5, .int 26), (6, .ref 25), (0, .ref 110), (1, .int (nI p)), (2, .int (nI (p + l))), (3, .ref 37), (4, .int 37)]) (st' := []) (H' := hC A E N V W ++ g) (C := []) 29 2 rfl trivial ?_
    exact z_Ln.lv (z_le.cons rfl rfl (z_le.cons rfl rfl (z_le.cons rfl rfl (z_le.cons rfl rfl (z_le.cons rfl rfl (z_le.cons rfl rfl z_le.nil)))))) (sp_26 hT hl hp hRm hf hw hd)
  by_cases hlk : l = 4
  · refine z_Ln.blk (pc' := (if decide (¬ 4 = ((nI (p + l)) - (nI p))) = true then 54 else 38)) (lv' := [(6, .ref 25), (0, .ref 110), (1, .int (nI p)), (2, .int (nI (p + l))), (3, .ref 37), (4, .int 37), (5, .int 25)]) (st' := []) (H' := hC A E N V W ++ g) (C := []) 17 4 rfl trivial (z_Ln.brF (decide_eq_false (by rw [es, hlk]; exact not_not_intro rfl)) ?_)
    refine z_Ln.blk (pc' := 45) (lv' := [(6, .ref 25), (0, .ref 110), (1, .int (nI p)), (2, .int (nI (p + l))), (3, .ref 37), (4, .int 37), (5, .int 25)]) (st' := [.int (nI p), .ref 82, .ref 110]) (H' := hC A E N V W ++ g) (C := [((c.1 ≤ 601024 ∧ c.2 ≤ 7293034) ∧ 1 ≤ f ∧ 60 ≤ w)]) 21 4 rfl hR0 ?_
    have em : (decide (z_fn 0 (A 4) (nI p + 0).toNatClampNeg = 116) && decide (z_fn 0 (A 4) (nI p + 1).toNatClampNeg = 104) && decide (z_fn 0 (A 4) (nI p + 2).toNatClampNeg = 101) && decide (z_fn 0 (A 4) (nI p + 3).toNatClampNeg = 110)) = z_mt 25 b p l := by
      have c0 : decide (z_fn 0 (A 4) (nI p + 0).toNatClampNeg = 116) = decide (b (p + 0) = 116) := z_chq (j := 0) (ch := 116) hT (by omega) (by decide)
      have c1 : decide (z_fn 0 (A 4) (nI p + 1).toNatClampNeg = 104) = decide (b (p + 1) = 104) := z_chq (j := 1) (ch := 104) hT (by omega) (by decide)
      have c2 : decide (z_fn 0 (A 4) (nI p + 2).toNatClampNeg = 101) = decide (b (p + 2) = 101) := z_chq (j := 2) (ch := 101) hT (by omega) (by decide)
      have c3 : decide (z_fn 0 (A 4) (nI p + 3).toNatClampNeg = 110) = decide (b (p + 3) = 110) := z_chq (j := 3) (ch := 110) hT (by omega) (by decide)
      rw [c0, c1, c2, c3]
      rw [hlk]
      show _ = (decide (4 = 4) && (decide (b (p + 0) = 116) && (decide (b (p + 1) = 104) && (decide (b (p + 2) = 101) && (decide (b (p + 3) = 110) && true)))))
      simp [Bool.and_assoc]
    refine z_Ln.call (s := 0) (mj := 38) (as := [.ref 110, .ref 82, .int (nI p)]) (rr := []) (v := some (.int (z_B1 (z_mt 25 b p l)))) (T1 := (hC A E N V W ++ g, c)) rfl rfl ⟨⟨by omega, by omega⟩, (by decide : (0 : Nat) ≤ 8), (by decide +kernel : (3 : Nat) ≤ z_pg.2.1 38)⟩ hRm ?_ ⟨trivial, ⟨(Or.inl (by decide)), (z_sm0C 0 (by decide) rfl rfl), trivial, trivial, (Or.inl (by decide)), trivial, trivial, trivial⟩⟩ ?_
    · rw [← em]
      refine z_Ln.blk (pc' := 2) (lv' := [(3, .int 0), (0, .ref 110), (1, .ref 82), (2, .int (nI p))]) (st' := []) (H' := hC A E N V W ++ g) (C := []) 0 2 rfl trivial ?_
      exact s38_21_0 hRm (by omega) (by omega) (z_inA (p := p) (j := 0) (by omega)) (z_inA (p := p) (j := 1) (by omega)) (z_inA (p := p) (j := 2) (by omega)) (z_inA (p := p) (j := 3) (by omega))
    · cases hm : z_mt 25 b p l with
      | true =>
        refine z_Ln.blk (pc' := (if decide ((z_B1 true) = 0) = true then 54 else 51)) (lv' := [(6, .ref 25), (0, .ref 110), (1, .int (nI p)), (2, .int (nI (p + l))), (3, .ref 37), (4, .int 37), (5, .int 25)]) (st' := []) (H' := hC A E N V W ++ g) (C := []) 26 1 rfl trivial (z_Ln.brF (decide_eq_false (z_B1_t rfl)) ?_)
        refine z_Ln.blk (pc' := 53) (lv' := [(6, .ref 25), (0, .ref 110), (1, .int (nI p)), (2, .int (nI (p + l))), (3, .ref 37), (4, .int 37), (5, .int 25)]) (st' := [.ref 25]) (H' := hC A E N V W ++ g) (C := []) 27 1 rfl trivial ?_
        rw [if_pos rfl]
        exact z_Ln.ret rfl rfl
      | false =>
        have nx := nxt hm
        rw [hm] at nx
        refine z_Ln.blk (pc' := (if decide ((z_B1 false) = 0) = true then 54 else 51)) (lv' := [(6, .ref 25), (0, .ref 110), (1, .int (nI p)), (2, .int (nI (p + l))), (3, .ref 37), (4, .int 37), (5, .int 25)]) (st' := []) (H' := hC A E N V W ++ g) (C := []) 26 1 rfl trivial (z_Ln.brT (decide_eq_true (z_B1_f rfl)) ?_)
        exact nx
  · have hm : z_mt 25 b p l = false := by
      unfold z_mt
      rw [decide_eq_false (show ¬ (z_wls.getD 25 []).length = l from fun q => hlk q.symm)]
      rfl
    refine z_Ln.blk (pc' := (if decide (¬ 4 = ((nI (p + l)) - (nI p))) = true then 54 else 38)) (lv' := [(6, .ref 25), (0, .ref 110), (1, .int (nI p)), (2, .int (nI (p + l))), (3, .ref 37), (4, .int 37), (5, .int 25)]) (st' := []) (H' := hC A E N V W ++ g) (C := []) 17 4 rfl trivial (z_Ln.brT (decide_eq_true (by rw [es]; exact fun q => hlk ((nI_eq (a := 4) (b := l) (by decide) (by omega)).mp q).symm)) ?_)
    exact nxt hm
set_option maxRecDepth 10000 in
theorem sp_24 {L : Nat} {xs : Nat → Int32} {fv : Value} {f w : Nat} {c : Nat × Nat} {A : Nat → List (Nat × Int32)} {E : List (Nat × Option Nat)} {N : Nat → Nat} {V : Nat → Nat → Int32} {W : Nat} {g : List z_E} {b : Nat → Nat} {n p l d : Nat} (hT : z_Tx (A 4) b n) (hl : 1 ≤ l) (hp : p + l ≤ n) (hRm : z_Rm (hC A E N V W ++ g, c)) (hf : 5 ≤ f) (hw : 500 ≤ w) (hd : z_Ln L xs fv f w 35 60 [(0, .ref 110), (1, .int (nI p)), (2, .int (nI (p + l)))] [] (hC A E N V W ++ g, c) (.inl (some (.ref d))) (hC A E N V W ++ g, c)) : z_Ln L xs fv f w 35 11 [(0, .ref 110), (1, .int (nI p)), (2, .int (nI (p + l))), (3, .ref 37), (4, .int 37), (5, .int 24)] [] (hC A E N V W ++ g, c) (.inl (some (.ref (z_rs b p l d 13)))) (hC A E N V W ++ g, c) := by
  have hR0 : ((c.1 ≤ 601024 ∧ c.2 ≤ 7293034) ∧ 1 ≤ f ∧ 60 ≤ w) := ⟨hRm, by omega, by omega⟩
  have m36 : z_pg.2.1 36 = 1 := rfl
  have m38 : z_pg.2.1 38 = 4 := rfl
  have hn : n ≤ 1500 := hT.1
  have e : z_rs b p l d 13 = (if z_mt 24 b p l = true then 24 else z_rs b p l d 12) := rfl
  rw [e]
  refine z_Ln.blk (pc' := (if decide (37 ≤ 24) = true then 60 else 18)) (lv' := [(0, .ref 110), (1, .int (nI p)), (2, .int (nI (p + l))), (3, .ref 37), (4, .int 37), (5, .int 24)]) (st' := []) (H' := hC A E N V W ++ g) (C := []) 7 3 rfl trivial (z_Ln.brF (decide_eq_false (by decide)) ?_)
  refine z_Ln.blk (pc' := 29) (lv' := [(6, .ref 24), (0, .ref 110), (1, .int (nI p)), (2, .int (nI (p + l))), (3, .ref 37), (4, .int 37), (5, .int 24)]) (st' := [.ref 80]) (H' := hC A E N V W ++ g) (C := [((c.1 ≤ 601024 ∧ c.2 ≤ 7293034) ∧ 1 ≤ f ∧ 60 ≤ w), z_in 24 37 = true, ((c.1 ≤ 601024 ∧ c.2 ≤ 7293034) ∧ 1 ≤ f ∧ 60 ≤ w)]) 10 6 rfl ⟨hR0, (by decide : z_in 24 37 = true), hR0⟩ ?_
  refine z_Ln.call (s := 0) (mj := 36) (as := [.ref 80]) (rr := []) (v := some (.int 2)) (T1 := (hC A E N V W ++ g, c)) rfl rfl ⟨⟨by omega, by omega⟩, (by decide : (0 : Nat) ≤ 8), (by decide +kernel : (1 : Nat) ≤ z_pg.2.1 36)⟩ hRm (s36_20 hRm (by omega) (by omega)) ⟨trivial, ⟨(Or.inl (by decide)), (z_sm0C 0 (by decide) rfl rfl), trivial, trivial, (Or.inl (by decide)), trivial, trivial, trivial⟩⟩ ?_
  have es : nI (p + l) - nI p = nI l := by rw [pk_sub (by omega), show p + l - p = l by omega]
  have nxt : z_mt 24 b p l = false → z_Ln L xs fv f w 35 54 [(6, .ref 24), (0, .ref 110), (1, .int (nI p)), (2, .int (nI (p + l))), (3, .ref 37), (4, .int 37), (5, .int 24)] [] (hC A E N V W ++ g, c) (.inl (some (.ref (if z_mt 24 b p l = true then 24 else z_rs b p l d 12)))) (hC A E N V W ++ g, c) := by
    intro hm
    rw [hm, if_neg (by decide)]
    refine z_Ln.blk (pc' := 11) (lv' := [(5, .int 25), (6, .ref 24), (0, .ref 110), (1, .int (nI p)), (2, .int (nI (p + l))), (3, .ref 37), (4, .int 37)]) (st' := []) (H' := hC A E N V W ++ g) (C := []) 29 2 rfl trivial ?_
    exact z_Ln.lv (z_le.cons rfl rfl (z_le.cons rfl rfl (z_le.cons rfl rfl (z_le.cons rfl rfl (z_le.cons rfl rfl (z_le.cons rfl rfl z_le.nil)))))) (sp_25 hT hl hp hRm hf hw hd)
  by_cases hlk : l = 2
  · refine z_Ln.blk (pc' := (if decide (¬ 2 = ((nI (p + l)) - (nI p))) = true then 54 else 38)) (lv' := [(6, .ref 24), (0, .ref 110), (1, .int (nI p)), (2, .int (nI (p + l))), (3, .ref 37), (4, .int 37), (5, .int 24)]) (st' := []) (H' := hC A E N V W ++ g) (C := []) 17 4 rfl trivial (z_Ln.brF (decide_eq_false (by rw [es, hlk]; exact not_not_intro rfl)) ?_)
    refine z_Ln.blk (pc' := 45) (lv' := [(6, .ref 24), (0, .ref 110), (1, .int (nI p)), (2, .int (nI (p + l))), (3, .ref 37), (4, .int 37), (5, .int 24)]) (st' := [.int (nI p), .ref 80, .ref 110]) (H' := hC A E N V W ++ g) (C := [((c.1 ≤ 601024 ∧ c.2 ≤ 7293034) ∧ 1 ≤ f ∧ 60 ≤ w)]) 21 4 rfl hR0 ?_
    have em : (decide (z_fn 0 (A 4) (nI p + 0).toNatClampNeg = 105) && decide (z_fn 0 (A 4) (nI p + 1).toNatClampNeg = 102)) = z_mt 24 b p l := by
      have c0 : decide (z_fn 0 (A 4) (nI p + 0).toNatClampNeg = 105) = decide (b (p + 0) = 105) := z_chq (j := 0) (ch := 105) hT (by omega) (by decide)
      have c1 : decide (z_fn 0 (A 4) (nI p + 1).toNatClampNeg = 102) = decide (b (p + 1) = 102) := z_chq (j := 1) (ch := 102) hT (by omega) (by decide)
      rw [c0, c1]
      rw [hlk]
      show _ = (decide (2 = 2) && (decide (b (p + 0) = 105) && (decide (b (p + 1) = 102) && true)))
      simp [Bool.and_assoc]
    refine z_Ln.call (s := 0) (mj := 38) (as := [.ref 110, .ref 80, .int (nI p)]) (rr := []) (v := some (.int (z_B1 (z_mt 24 b p l)))) (T1 := (hC A E N V W ++ g, c)) rfl rfl ⟨⟨by omega, by omega⟩, (by decide : (0 : Nat) ≤ 8), (by decide +kernel : (3 : Nat) ≤ z_pg.2.1 38)⟩ hRm ?_ ⟨trivial, ⟨(Or.inl (by decide)), (z_sm0C 0 (by decide) rfl rfl), trivial, trivial, (Or.inl (by decide)), trivial, trivial, trivial⟩⟩ ?_
    · rw [← em]
      refine z_Ln.blk (pc' := 2) (lv' := [(3, .int 0), (0, .ref 110), (1, .ref 80), (2, .int (nI p))]) (st' := []) (H' := hC A E N V W ++ g) (C := []) 0 2 rfl trivial ?_
      exact s38_20_0 hRm (by omega) (by omega) (z_inA (p := p) (j := 0) (by omega)) (z_inA (p := p) (j := 1) (by omega))
    · cases hm : z_mt 24 b p l with
      | true =>
        refine z_Ln.blk (pc' := (if decide ((z_B1 true) = 0) = true then 54 else 51)) (lv' := [(6, .ref 24), (0, .ref 110), (1, .int (nI p)), (2, .int (nI (p + l))), (3, .ref 37), (4, .int 37), (5, .int 24)]) (st' := []) (H' := hC A E N V W ++ g) (C := []) 26 1 rfl trivial (z_Ln.brF (decide_eq_false (z_B1_t rfl)) ?_)
        refine z_Ln.blk (pc' := 53) (lv' := [(6, .ref 24), (0, .ref 110), (1, .int (nI p)), (2, .int (nI (p + l))), (3, .ref 37), (4, .int 37), (5, .int 24)]) (st' := [.ref 24]) (H' := hC A E N V W ++ g) (C := []) 27 1 rfl trivial ?_
        rw [if_pos rfl]
        exact z_Ln.ret rfl rfl
      | false =>
        have nx := nxt hm
        rw [hm] at nx
        refine z_Ln.blk (pc' := (if decide ((z_B1 false) = 0) = true then 54 else 51)) (lv' := [(6, .ref 24), (0, .ref 110), (1, .int (nI p)), (2, .int (nI (p + l))), (3, .ref 37), (4, .int 37), (5, .int 24)]) (st' := []) (H' := hC A E N V W ++ g) (C := []) 26 1 rfl trivial (z_Ln.brT (decide_eq_true (z_B1_f rfl)) ?_)
        exact nx
  · have hm : z_mt 24 b p l = false := by
      unfold z_mt
      rw [decide_eq_false (show ¬ (z_wls.getD 24 []).length = l from fun q => hlk q.symm)]
      rfl
    refine z_Ln.blk (pc' := (if decide (¬ 2 = ((nI (p + l)) - (nI p))) = true then 54 else 38)) (lv' := [(6, .ref 24), (0, .ref 110), (1, .int (nI p)), (2, .int (nI (p + l))), (3, .ref 37), (4, .int 37), (5, .int 24)]) (st' := []) (H' := hC A E N V W ++ g) (C := []) 17 4 rfl trivial (z_Ln.brT (decide_eq_true (by rw [es]; exact fun q => hlk ((nI_eq (a := 2) (b := l) (by decide) (by omega)).mp q).symm)) ?_)
    exact nxt hm
set_option maxRecDepth 10000 in
theorem sp_23 {L : Nat} {xs : Nat → Int32} {fv : Value} {f w : Nat} {c : Nat × Nat} {A : Nat → List (Nat × Int32)} {E : List (Nat × Option Nat)} {N : Nat → Nat} {V : Nat → Nat → Int32} {W : Nat} {g : List z_E} {b : Nat → Nat} {n p l d : Nat} (hT : z_Tx (A 4) b n) (hl : 1 ≤ l) (hp : p + l ≤ n) (hRm : z_Rm (hC A E N V W ++ g, c)) (hf : 5 ≤ f) (hw : 500 ≤ w) (hd : z_Ln L xs fv f w 35 60 [(0, .ref 110), (1, .int (nI p)), (2, .int (nI (p + l)))] [] (hC A E N V W ++ g, c) (.inl (some (.ref d))) (hC A E N V W ++ g, c)) : z_Ln L xs fv f w 35 11 [(0, .ref 110), (1, .int (nI p)), (2, .int (nI (p + l))), (3, .ref 37), (4, .int 37), (5, .int 23)] [] (hC A E N V W ++ g, c) (.inl (some (.ref (z_rs b p l d 14)))) (hC A E N V W ++ g, c) := by
  have hR0 : ((c.1 ≤ 601024 ∧ c.2 ≤ 7293034) ∧ 1 ≤ f ∧ 60 ≤ w) := ⟨hRm, by omega, by omega⟩
  have m36 : z_pg.2.1 36 = 1 := rfl
  have m38 : z_pg.2.1 38 = 4 := rfl
  have hn : n ≤ 1500 := hT.1
  have e : z_rs b p l d 14 = (if z_mt 23 b p l = true then 23 else z_rs b p l d 13) := rfl
  rw [e]
  refine z_Ln.blk (pc' := (if decide (37 ≤ 23) = true then 60 else 18)) (lv' := [(0, .ref 110), (1, .int (nI p)), (2, .int (nI (p + l))), (3, .ref 37), (4, .int 37), (5, .int 23)]) (st' := []) (H' := hC A E N V W ++ g) (C := []) 7 3 rfl trivial (z_Ln.brF (decide_eq_false (by decide)) ?_)
  refine z_Ln.blk (pc' := 29) (lv' := [(6, .ref 23), (0, .ref 110), (1, .int (nI p)), (2, .int (nI (p + l))), (3, .ref 37), (4, .int 37), (5, .int 23)]) (st' := [.ref 78]) (H' := hC A E N V W ++ g) (C := [((c.1 ≤ 601024 ∧ c.2 ≤ 7293034) ∧ 1 ≤ f ∧ 60 ≤ w), z_in 23 37 = true, ((c.1 ≤ 601024 ∧ c.2 ≤ 7293034) ∧ 1 ≤ f ∧ 60 ≤ w)]) 10 6 rfl ⟨hR0, (by decide : z_in 23 37 = true), hR0⟩ ?_
  refine z_Ln.call (s := 0) (mj := 36) (as := [.ref 78]) (rr := []) (v := some (.int 2)) (T1 := (hC A E N V W ++ g, c)) rfl rfl ⟨⟨by omega, by omega⟩, (by decide : (0 : Nat) ≤ 8), (by decide +kernel : (1 : Nat) ≤ z_pg.2.1 36)⟩ hRm (s36_19 hRm (by omega) (by omega)) ⟨trivial, ⟨(Or.inl (by decide)), (z_sm0C 0 (by decide) rfl rfl), trivial, trivial, (Or.inl (by decide)), trivial, trivial, trivial⟩⟩ ?_
  have es : nI (p + l) - nI p = nI l := by rw [pk_sub (by omega), show p + l - p = l by omega]
  have nxt : z_mt 23 b p l = false → z_Ln L xs fv f w 35 54 [(6, .ref 23), (0, .ref 110), (1, .int (nI p)), (2, .int (nI (p + l))), (3, .ref 37), (4, .int 37), (5, .int 23)] [] (hC A E N V W ++ g, c) (.inl (some (.ref (if z_mt 23 b p l = true then 23 else z_rs b p l d 13)))) (hC A E N V W ++ g, c) := by
    intro hm
    rw [hm, if_neg (by decide)]
    refine z_Ln.blk (pc' := 11) (lv' := [(5, .int 24), (6, .ref 23), (0, .ref 110), (1, .int (nI p)), (2, .int (nI (p + l))), (3, .ref 37), (4, .int 37)]) (st' := []) (H' := hC A E N V W ++ g) (C := []) 29 2 rfl trivial ?_
    exact z_Ln.lv (z_le.cons rfl rfl (z_le.cons rfl rfl (z_le.cons rfl rfl (z_le.cons rfl rfl (z_le.cons rfl rfl (z_le.cons rfl rfl z_le.nil)))))) (sp_24 hT hl hp hRm hf hw hd)
  by_cases hlk : l = 2
  · refine z_Ln.blk (pc' := (if decide (¬ 2 = ((nI (p + l)) - (nI p))) = true then 54 else 38)) (lv' := [(6, .ref 23), (0, .ref 110), (1, .int (nI p)), (2, .int (nI (p + l))), (3, .ref 37), (4, .int 37), (5, .int 23)]) (st' := []) (H' := hC A E N V W ++ g) (C := []) 17 4 rfl trivial (z_Ln.brF (decide_eq_false (by rw [es, hlk]; exact not_not_intro rfl)) ?_)
    refine z_Ln.blk (pc' := 45) (lv' := [(6, .ref 23), (0, .ref 110), (1, .int (nI p)), (2, .int (nI (p + l))), (3, .ref 37), (4, .int 37), (5, .int 23)]) (st' := [.int (nI p), .ref 78, .ref 110]) (H' := hC A E N V W ++ g) (C := [((c.1 ≤ 601024 ∧ c.2 ≤ 7293034) ∧ 1 ≤ f ∧ 60 ≤ w)]) 21 4 rfl hR0 ?_
    have em : (decide (z_fn 0 (A 4) (nI p + 0).toNatClampNeg = 105) && decide (z_fn 0 (A 4) (nI p + 1).toNatClampNeg = 110)) = z_mt 23 b p l := by
      have c0 : decide (z_fn 0 (A 4) (nI p + 0).toNatClampNeg = 105) = decide (b (p + 0) = 105) := z_chq (j := 0) (ch := 105) hT (by omega) (by decide)
      have c1 : decide (z_fn 0 (A 4) (nI p + 1).toNatClampNeg = 110) = decide (b (p + 1) = 110) := z_chq (j := 1) (ch := 110) hT (by omega) (by decide)
      rw [c0, c1]
      rw [hlk]
      show _ = (decide (2 = 2) && (decide (b (p + 0) = 105) && (decide (b (p + 1) = 110) && true)))
      simp [Bool.and_assoc]
    refine z_Ln.call (s := 0) (mj := 38) (as := [.ref 110, .ref 78, .int (nI p)]) (rr := []) (v := some (.int (z_B1 (z_mt 23 b p l)))) (T1 := (hC A E N V W ++ g, c)) rfl rfl ⟨⟨by omega, by omega⟩, (by decide : (0 : Nat) ≤ 8), (by decide +kernel : (3 : Nat) ≤ z_pg.2.1 38)⟩ hRm ?_ ⟨trivial, ⟨(Or.inl (by decide)), (z_sm0C 0 (by decide) rfl rfl), trivial, trivial, (Or.inl (by decide)), trivial, trivial, trivial⟩⟩ ?_
    · rw [← em]
      refine z_Ln.blk (pc' := 2) (lv' := [(3, .int 0), (0, .ref 110), (1, .ref 78), (2, .int (nI p))]) (st' := []) (H' := hC A E N V W ++ g) (C := []) 0 2 rfl trivial ?_
      exact s38_19_0 hRm (by omega) (by omega) (z_inA (p := p) (j := 0) (by omega)) (z_inA (p := p) (j := 1) (by omega))
    · cases hm : z_mt 23 b p l with
      | true =>
        refine z_Ln.blk (pc' := (if decide ((z_B1 true) = 0) = true then 54 else 51)) (lv' := [(6, .ref 23), (0, .ref 110), (1, .int (nI p)), (2, .int (nI (p + l))), (3, .ref 37), (4, .int 37), (5, .int 23)]) (st' := []) (H' := hC A E N V W ++ g) (C := []) 26 1 rfl trivial (z_Ln.brF (decide_eq_false (z_B1_t rfl)) ?_)
        refine z_Ln.blk (pc' := 53) (lv' := [(6, .ref 23), (0, .ref 110), (1, .int (nI p)), (2, .int (nI (p + l))), (3, .ref 37), (4, .int 37), (5, .int 23)]) (st' := [.ref 23]) (H' := hC A E N V W ++ g) (C := []) 27 1 rfl trivial ?_
        rw [if_pos rfl]
        exact z_Ln.ret rfl rfl
      | false =>
        have nx := nxt hm
        rw [hm] at nx
        refine z_Ln.blk (pc' := (if decide ((z_B1 false) = 0) = true then 54 else 51)) (lv' := [(6, .ref 23), (0, .ref 110), (1, .int (nI p)), (2, .int (nI (p + l))), (3, .ref 37), (4, .int 37), (5, .int 23)]) (st' := []) (H' := hC A E N V W ++ g) (C := []) 26 1 rfl trivial (z_Ln.brT (decide_eq_true (z_B1_f rfl)) ?_)
        exact nx
  · have hm : z_mt 23 b p l = false := by
      unfold z_mt
      rw [decide_eq_false (show ¬ (z_wls.getD 23 []).length = l from fun q => hlk q.symm)]
      rfl
    refine z_Ln.blk (pc' := (if decide (¬ 2 = ((nI (p + l)) - (nI p))) = true then 54 else 38)) (lv' := [(6, .ref 23), (0, .ref 110), (1, .int (nI p)), (2, .int (nI (p + l))), (3, .ref 37), (4, .int 37), (5, .int 23)]) (st' := []) (H' := hC A E N V W ++ g) (C := []) 17 4 rfl trivial (z_Ln.brT (decide_eq_true (by rw [es]; exact fun q => hlk ((nI_eq (a := 2) (b := l) (by decide) (by omega)).mp q).symm)) ?_)
    exact nxt hm
set_option maxRecDepth 10000 in
theorem sp_22 {L : Nat} {xs : Nat → Int32} {fv : Value} {f w : Nat} {c : Nat × Nat} {A : Nat → List (Nat × Int32)} {E : List (Nat × Option Nat)} {N : Nat → Nat} {V : Nat → Nat → Int32} {W : Nat} {g : List z_E} {b : Nat → Nat} {n p l d : Nat} (hT : z_Tx (A 4) b n) (hl : 1 ≤ l) (hp : p + l ≤ n) (hRm : z_Rm (hC A E N V W ++ g, c)) (hf : 5 ≤ f) (hw : 500 ≤ w) (hd : z_Ln L xs fv f w 35 60 [(0, .ref 110), (1, .int (nI p)), (2, .int (nI (p + l)))] [] (hC A E N V W ++ g, c) (.inl (some (.ref d))) (hC A E N V W ++ g, c)) : z_Ln L xs fv f w 35 11 [(0, .ref 110), (1, .int (nI p)), (2, .int (nI (p + l))), (3, .ref 37), (4, .int 37), (5, .int 22)] [] (hC A E N V W ++ g, c) (.inl (some (.ref (z_rs b p l d 15)))) (hC A E N V W ++ g, c) := by
  have hR0 : ((c.1 ≤ 601024 ∧ c.2 ≤ 7293034) ∧ 1 ≤ f ∧ 60 ≤ w) := ⟨hRm, by omega, by omega⟩
  have m36 : z_pg.2.1 36 = 1 := rfl
  have m38 : z_pg.2.1 38 = 4 := rfl
  have hn : n ≤ 1500 := hT.1
  have e : z_rs b p l d 15 = (if z_mt 22 b p l = true then 22 else z_rs b p l d 14) := rfl
  rw [e]
  refine z_Ln.blk (pc' := (if decide (37 ≤ 22) = true then 60 else 18)) (lv' := [(0, .ref 110), (1, .int (nI p)), (2, .int (nI (p + l))), (3, .ref 37), (4, .int 37), (5, .int 22)]) (st' := []) (H' := hC A E N V W ++ g) (C := []) 7 3 rfl trivial (z_Ln.brF (decide_eq_false (by decide)) ?_)
  refine z_Ln.blk (pc' := 29) (lv' := [(6, .ref 22), (0, .ref 110), (1, .int (nI p)), (2, .int (nI (p + l))), (3, .ref 37), (4, .int 37), (5, .int 22)]) (st' := [.ref 76]) (H' := hC A E N V W ++ g) (C := [((c.1 ≤ 601024 ∧ c.2 ≤ 7293034) ∧ 1 ≤ f ∧ 60 ≤ w), z_in 22 37 = true, ((c.1 ≤ 601024 ∧ c.2 ≤ 7293034) ∧ 1 ≤ f ∧ 60 ≤ w)]) 10 6 rfl ⟨hR0, (by decide : z_in 22 37 = true), hR0⟩ ?_
  refine z_Ln.call (s := 0) (mj := 36) (as := [.ref 76]) (rr := []) (v := some (.int 3)) (T1 := (hC A E N V W ++ g, c)) rfl rfl ⟨⟨by omega, by omega⟩, (by decide : (0 : Nat) ≤ 8), (by decide +kernel : (1 : Nat) ≤ z_pg.2.1 36)⟩ hRm (s36_18 hRm (by omega) (by omega)) ⟨trivial, ⟨(Or.inl (by decide)), (z_sm0C 0 (by decide) rfl rfl), trivial, trivial, (Or.inl (by decide)), trivial, trivial, trivial⟩⟩ ?_
  have es : nI (p + l) - nI p = nI l := by rw [pk_sub (by omega), show p + l - p = l by omega]
  have nxt : z_mt 22 b p l = false → z_Ln L xs fv f w 35 54 [(6, .ref 22), (0, .ref 110), (1, .int (nI p)), (2, .int (nI (p + l))), (3, .ref 37), (4, .int 37), (5, .int 22)] [] (hC A E N V W ++ g, c) (.inl (some (.ref (if z_mt 22 b p l = true then 22 else z_rs b p l d 14)))) (hC A E N V W ++ g, c) := by
    intro hm
    rw [hm, if_neg (by decide)]
    refine z_Ln.blk (pc' := 11) (lv' := [(5, .int 23), (6, .ref 22), (0, .ref 110), (1, .int (nI p)), (2, .int (nI (p + l))), (3, .ref 37), (4, .int 37)]) (st' := []) (H' := hC A E N V W ++ g) (C := []) 29 2 rfl trivial ?_
    exact z_Ln.lv (z_le.cons rfl rfl (z_le.cons rfl rfl (z_le.cons rfl rfl (z_le.cons rfl rfl (z_le.cons rfl rfl (z_le.cons rfl rfl z_le.nil)))))) (sp_23 hT hl hp hRm hf hw hd)
  by_cases hlk : l = 3
  · refine z_Ln.blk (pc' := (if decide (¬ 3 = ((nI (p + l)) - (nI p))) = true then 54 else 38)) (lv' := [(6, .ref 22), (0, .ref 110), (1, .int (nI p)), (2, .int (nI (p + l))), (3, .ref 37), (4, .int 37), (5, .int 22)]) (st' := []) (H' := hC A E N V W ++ g) (C := []) 17 4 rfl trivial (z_Ln.brF (decide_eq_false (by rw [es, hlk]; exact not_not_intro rfl)) ?_)
    refine z_Ln.blk (pc' := 45) (lv' := [(6, .ref 22), (0, .ref 110), (1, .int (nI p)), (2, .int (nI (p + l))), (3, .ref 37), (4, .int 37), (5, .int 22)]) (st' := [.int (nI p), .ref 76, .ref 110]) (H' := hC A E N V W ++ g) (C := [((c.1 ≤ 601024 ∧ c.2 ≤ 7293034) ∧ 1 ≤ f ∧ 60 ≤ w)]) 21 4 rfl hR0 ?_
    have em : (decide (z_fn 0 (A 4) (nI p + 0).toNatClampNeg = 114) && decide (z_fn 0 (A 4) (nI p + 1).toNatClampNeg = 101) && decide (z_fn 0 (A 4) (nI p + 2).toNatClampNeg = 99)) = z_mt 22 b p l := by
      have c0 : decide (z_fn 0 (A 4) (nI p + 0).toNatClampNeg = 114) = decide (b (p + 0) = 114) := z_chq (j := 0) (ch := 114) hT (by omega) (by decide)
      have c1 : decide (z_fn 0 (A 4) (nI p + 1).toNatClampNeg = 101) = decide (b (p + 1) = 101) := z_chq (j := 1) (ch := 101) hT (by omega) (by decide)
      have c2 : decide (z_fn 0 (A 4) (nI p + 2).toNatClampNeg = 99) = decide (b (p + 2) = 99) := z_chq (j := 2) (ch := 99) hT (by omega) (by decide)
      rw [c0, c1, c2]
      rw [hlk]
      show _ = (decide (3 = 3) && (decide (b (p + 0) = 114) && (decide (b (p + 1) = 101) && (decide (b (p + 2) = 99) && true))))
      simp [Bool.and_assoc]
    refine z_Ln.call (s := 0) (mj := 38) (as := [.ref 110, .ref 76, .int (nI p)]) (rr := []) (v := some (.int (z_B1 (z_mt 22 b p l)))) (T1 := (hC A E N V W ++ g, c)) rfl rfl ⟨⟨by omega, by omega⟩, (by decide : (0 : Nat) ≤ 8), (by decide +kernel : (3 : Nat) ≤ z_pg.2.1 38)⟩ hRm ?_ ⟨trivial, ⟨(Or.inl (by decide)), (z_sm0C 0 (by decide) rfl rfl), trivial, trivial, (Or.inl (by decide)), trivial, trivial, trivial⟩⟩ ?_
    · rw [← em]
      refine z_Ln.blk (pc' := 2) (lv' := [(3, .int 0), (0, .ref 110), (1, .ref 76), (2, .int (nI p))]) (st' := []) (H' := hC A E N V W ++ g) (C := []) 0 2 rfl trivial ?_
      exact s38_18_0 hRm (by omega) (by omega) (z_inA (p := p) (j := 0) (by omega)) (z_inA (p := p) (j := 1) (by omega)) (z_inA (p := p) (j := 2) (by omega))
    · cases hm : z_mt 22 b p l with
      | true =>
        refine z_Ln.blk (pc' := (if decide ((z_B1 true) = 0) = true then 54 else 51)) (lv' := [(6, .ref 22), (0, .ref 110), (1, .int (nI p)), (2, .int (nI (p + l))), (3, .ref 37), (4, .int 37), (5, .int 22)]) (st' := []) (H' := hC A E N V W ++ g) (C := []) 26 1 rfl trivial (z_Ln.brF (decide_eq_false (z_B1_t rfl)) ?_)
        refine z_Ln.blk (pc' := 53) (lv' := [(6, .ref 22), (0, .ref 110), (1, .int (nI p)), (2, .int (nI (p + l))), (3, .ref 37), (4, .int 37), (5, .int 22)]) (st' := [.ref 22]) (H' := hC A E N V W ++ g) (C := []) 27 1 rfl trivial ?_
        rw [if_pos rfl]
        exact z_Ln.ret rfl rfl
      | false =>
        have nx := nxt hm
        rw [hm] at nx
        refine z_Ln.blk (pc' := (if decide ((z_B1 false) = 0) = true then 54 else 51)) (lv' := [(6, .ref 22), (0, .ref 110), (1, .int (nI p)), (2, .int (nI (p + l))), (3, .ref 37), (4, .int 37), (5, .int 22)]) (st' := []) (H' := hC A E N V W ++ g) (C := []) 26 1 rfl trivial (z_Ln.brT (decide_eq_true (z_B1_f rfl)) ?_)
        exact nx
  · have hm : z_mt 22 b p l = false := by
      unfold z_mt
      rw [decide_eq_false (show ¬ (z_wls.getD 22 []).length = l from fun q => hlk q.symm)]
      rfl
    refine z_Ln.blk (pc' := (if decide (¬ 3 = ((nI (p + l)) - (nI p))) = true then 54 else 38)) (lv' := [(6, .ref 22), (0, .ref 110), (1, .int (nI p)), (2, .int (nI (p + l))), (3, .ref 37), (4, .int 37), (5, .int 22)]) (st' := []) (H' := hC A E N V W ++ g) (C := []) 17 4 rfl trivial (z_Ln.brT (decide_eq_true (by rw [es]; exact fun q => hlk ((nI_eq (a := 3) (b := l) (by decide) (by omega)).mp q).symm)) ?_)
    exact nxt hm
set_option maxRecDepth 10000 in
theorem sp_21 {L : Nat} {xs : Nat → Int32} {fv : Value} {f w : Nat} {c : Nat × Nat} {A : Nat → List (Nat × Int32)} {E : List (Nat × Option Nat)} {N : Nat → Nat} {V : Nat → Nat → Int32} {W : Nat} {g : List z_E} {b : Nat → Nat} {n p l d : Nat} (hT : z_Tx (A 4) b n) (hl : 1 ≤ l) (hp : p + l ≤ n) (hRm : z_Rm (hC A E N V W ++ g, c)) (hf : 5 ≤ f) (hw : 500 ≤ w) (hd : z_Ln L xs fv f w 35 60 [(0, .ref 110), (1, .int (nI p)), (2, .int (nI (p + l)))] [] (hC A E N V W ++ g, c) (.inl (some (.ref d))) (hC A E N V W ++ g, c)) : z_Ln L xs fv f w 35 11 [(0, .ref 110), (1, .int (nI p)), (2, .int (nI (p + l))), (3, .ref 37), (4, .int 37), (5, .int 21)] [] (hC A E N V W ++ g, c) (.inl (some (.ref (z_rs b p l d 16)))) (hC A E N V W ++ g, c) := by
  have hR0 : ((c.1 ≤ 601024 ∧ c.2 ≤ 7293034) ∧ 1 ≤ f ∧ 60 ≤ w) := ⟨hRm, by omega, by omega⟩
  have m36 : z_pg.2.1 36 = 1 := rfl
  have m38 : z_pg.2.1 38 = 4 := rfl
  have hn : n ≤ 1500 := hT.1
  have e : z_rs b p l d 16 = (if z_mt 21 b p l = true then 21 else z_rs b p l d 15) := rfl
  rw [e]
  refine z_Ln.blk (pc' := (if decide (37 ≤ 21) = true then 60 else 18)) (lv' := [(0, .ref 110), (1, .int (nI p)), (2, .int (nI (p + l))), (3, .ref 37), (4, .int 37), (5, .int 21)]) (st' := []) (H' := hC A E N V W ++ g) (C := []) 7 3 rfl trivial (z_Ln.brF (decide_eq_false (by decide)) ?_)
  refine z_Ln.blk (pc' := 29) (lv' := [(6, .ref 21), (0, .ref 110), (1, .int (nI p)), (2, .int (nI (p + l))), (3, .ref 37), (4, .int 37), (5, .int 21)]) (st' := [.ref 74]) (H' := hC A E N V W ++ g) (C := [((c.1 ≤ 601024 ∧ c.2 ≤ 7293034) ∧ 1 ≤ f ∧ 60 ≤ w), z_in 21 37 = true, ((c.1 ≤ 601024 ∧ c.2 ≤ 7293034) ∧ 1 ≤ f ∧ 60 ≤ w)]) 10 6 rfl ⟨hR0, (by decide : z_in 21 37 = true), hR0⟩ ?_
  refine z_Ln.call (s := 0) (mj := 36) (as := [.ref 74]) (rr := []) (v := some (.int 3)) (T1 := (hC A E N V W ++ g, c)) rfl rfl ⟨⟨by omega, by omega⟩, (by decide : (0 : Nat) ≤ 8), (by decide +kernel : (1 : Nat) ≤ z_pg.2.1 36)⟩ hRm (s36_17 hRm (by omega) (by omega)) ⟨trivial, ⟨(Or.inl (by decide)), (z_sm0C 0 (by decide) rfl rfl), trivial, trivial, (Or.inl (by decide)), trivial, trivial, trivial⟩⟩ ?_
  have es : nI (p + l) - nI p = nI l := by rw [pk_sub (by omega), show p + l - p = l by omega]
  have nxt : z_mt 21 b p l = false → z_Ln L xs fv f w 35 54 [(6, .ref 21), (0, .ref 110), (1, .int (nI p)), (2, .int (nI (p + l))), (3, .ref 37), (4, .int 37), (5, .int 21)] [] (hC A E N V W ++ g, c) (.inl (some (.ref (if z_mt 21 b p l = true then 21 else z_rs b p l d 15)))) (hC A E N V W ++ g, c) := by
    intro hm
    rw [hm, if_neg (by decide)]
    refine z_Ln.blk (pc' := 11) (lv' := [(5, .int 22), (6, .ref 21), (0, .ref 110), (1, .int (nI p)), (2, .int (nI (p + l))), (3, .ref 37), (4, .int 37)]) (st' := []) (H' := hC A E N V W ++ g) (C := []) 29 2 rfl trivial ?_
    exact z_Ln.lv (z_le.cons rfl rfl (z_le.cons rfl rfl (z_le.cons rfl rfl (z_le.cons rfl rfl (z_le.cons rfl rfl (z_le.cons rfl rfl z_le.nil)))))) (sp_22 hT hl hp hRm hf hw hd)
  by_cases hlk : l = 3
  · refine z_Ln.blk (pc' := (if decide (¬ 3 = ((nI (p + l)) - (nI p))) = true then 54 else 38)) (lv' := [(6, .ref 21), (0, .ref 110), (1, .int (nI p)), (2, .int (nI (p + l))), (3, .ref 37), (4, .int 37), (5, .int 21)]) (st' := []) (H' := hC A E N V W ++ g) (C := []) 17 4 rfl trivial (z_Ln.brF (decide_eq_false (by rw [es, hlk]; exact not_not_intro rfl)) ?_)
    refine z_Ln.blk (pc' := 45) (lv' := [(6, .ref 21), (0, .ref 110), (1, .int (nI p)), (2, .int (nI (p + l))), (3, .ref 37), (4, .int 37), (5, .int 21)]) (st' := [.int (nI p), .ref 74, .ref 110]) (H' := hC A E N V W ++ g) (C := [((c.1 ≤ 601024 ∧ c.2 ≤ 7293034) ∧ 1 ≤ f ∧ 60 ≤ w)]) 21 4 rfl hR0 ?_
    have em : (decide (z_fn 0 (A 4) (nI p + 0).toNatClampNeg = 108) && decide (z_fn 0 (A 4) (nI p + 1).toNatClampNeg = 101) && decide (z_fn 0 (A 4) (nI p + 2).toNatClampNeg = 116)) = z_mt 21 b p l := by
      have c0 : decide (z_fn 0 (A 4) (nI p + 0).toNatClampNeg = 108) = decide (b (p + 0) = 108) := z_chq (j := 0) (ch := 108) hT (by omega) (by decide)
      have c1 : decide (z_fn 0 (A 4) (nI p + 1).toNatClampNeg = 101) = decide (b (p + 1) = 101) := z_chq (j := 1) (ch := 101) hT (by omega) (by decide)
      have c2 : decide (z_fn 0 (A 4) (nI p + 2).toNatClampNeg = 116) = decide (b (p + 2) = 116) := z_chq (j := 2) (ch := 116) hT (by omega) (by decide)
      rw [c0, c1, c2]
      rw [hlk]
      show _ = (decide (3 = 3) && (decide (b (p + 0) = 108) && (decide (b (p + 1) = 101) && (decide (b (p + 2) = 116) && true))))
      simp [Bool.and_assoc]
    refine z_Ln.call (s := 0) (mj := 38) (as := [.ref 110, .ref 74, .int (nI p)]) (rr := []) (v := some (.int (z_B1 (z_mt 21 b p l)))) (T1 := (hC A E N V W ++ g, c)) rfl rfl ⟨⟨by omega, by omega⟩, (by decide : (0 : Nat) ≤ 8), (by decide +kernel : (3 : Nat) ≤ z_pg.2.1 38)⟩ hRm ?_ ⟨trivial, ⟨(Or.inl (by decide)), (z_sm0C 0 (by decide) rfl rfl), trivial, trivial, (Or.inl (by decide)), trivial, trivial, trivial⟩⟩ ?_
    · rw [← em]
      refine z_Ln.blk (pc' := 2) (lv' := [(3, .int 0), (0, .ref 110), (1, .ref 74), (2, .int (nI p))]) (st' := []) (H' := hC A E N V W ++ g) (C := []) 0 2 rfl trivial ?_
      exact s38_17_0 hRm (by omega) (by omega) (z_inA (p := p) (j := 0) (by omega)) (z_inA (p := p) (j := 1) (by omega)) (z_inA (p := p) (j := 2) (by omega))
    · cases hm : z_mt 21 b p l with
      | true =>
        refine z_Ln.blk (pc' := (if decide ((z_B1 true) = 0) = true then 54 else 51)) (lv' := [(6, .ref 21), (0, .ref 110), (1, .int (nI p)), (2, .int (nI (p + l))), (3, .ref 37), (4, .int 37), (5, .int 21)]) (st' := []) (H' := hC A E N V W ++ g) (C := []) 26 1 rfl trivial (z_Ln.brF (decide_eq_false (z_B1_t rfl)) ?_)
        refine z_Ln.blk (pc' := 53) (lv' := [(6, .ref 21), (0, .ref 110), (1, .int (nI p)), (2, .int (nI (p + l))), (3, .ref 37), (4, .int 37), (5, .int 21)]) (st' := [.ref 21]) (H' := hC A E N V W ++ g) (C := []) 27 1 rfl trivial ?_
        rw [if_pos rfl]
        exact z_Ln.ret rfl rfl
      | false =>
        have nx := nxt hm
        rw [hm] at nx
        refine z_Ln.blk (pc' := (if decide ((z_B1 false) = 0) = true then 54 else 51)) (lv' := [(6, .ref 21), (0, .ref 110), (1, .int (nI p)), (2, .int (nI (p + l))), (3, .ref 37), (4, .int 37), (5, .int 21)]) (st' := []) (H' := hC A E N V W ++ g) (C := []) 26 1 rfl trivial (z_Ln.brT (decide_eq_true (z_B1_f rfl)) ?_)
        exact nx
  · have hm : z_mt 21 b p l = false := by
      unfold z_mt
      rw [decide_eq_false (show ¬ (z_wls.getD 21 []).length = l from fun q => hlk q.symm)]
      rfl
    refine z_Ln.blk (pc' := (if decide (¬ 3 = ((nI (p + l)) - (nI p))) = true then 54 else 38)) (lv' := [(6, .ref 21), (0, .ref 110), (1, .int (nI p)), (2, .int (nI (p + l))), (3, .ref 37), (4, .int 37), (5, .int 21)]) (st' := []) (H' := hC A E N V W ++ g) (C := []) 17 4 rfl trivial (z_Ln.brT (decide_eq_true (by rw [es]; exact fun q => hlk ((nI_eq (a := 3) (b := l) (by decide) (by omega)).mp q).symm)) ?_)
    exact nxt hm
set_option maxRecDepth 10000 in
theorem sp_20 {L : Nat} {xs : Nat → Int32} {fv : Value} {f w : Nat} {c : Nat × Nat} {A : Nat → List (Nat × Int32)} {E : List (Nat × Option Nat)} {N : Nat → Nat} {V : Nat → Nat → Int32} {W : Nat} {g : List z_E} {b : Nat → Nat} {n p l d : Nat} (hT : z_Tx (A 4) b n) (hl : 1 ≤ l) (hp : p + l ≤ n) (hRm : z_Rm (hC A E N V W ++ g, c)) (hf : 5 ≤ f) (hw : 500 ≤ w) (hd : z_Ln L xs fv f w 35 60 [(0, .ref 110), (1, .int (nI p)), (2, .int (nI (p + l)))] [] (hC A E N V W ++ g, c) (.inl (some (.ref d))) (hC A E N V W ++ g, c)) : z_Ln L xs fv f w 35 11 [(0, .ref 110), (1, .int (nI p)), (2, .int (nI (p + l))), (3, .ref 37), (4, .int 37), (5, .int 20)] [] (hC A E N V W ++ g, c) (.inl (some (.ref (z_rs b p l d 17)))) (hC A E N V W ++ g, c) := by
  have hR0 : ((c.1 ≤ 601024 ∧ c.2 ≤ 7293034) ∧ 1 ≤ f ∧ 60 ≤ w) := ⟨hRm, by omega, by omega⟩
  have m36 : z_pg.2.1 36 = 1 := rfl
  have m38 : z_pg.2.1 38 = 4 := rfl
  have hn : n ≤ 1500 := hT.1
  have e : z_rs b p l d 17 = (if z_mt 20 b p l = true then 20 else z_rs b p l d 16) := rfl
  rw [e]
  refine z_Ln.blk (pc' := (if decide (37 ≤ 20) = true then 60 else 18)) (lv' := [(0, .ref 110), (1, .int (nI p)), (2, .int (nI (p + l))), (3, .ref 37), (4, .int 37), (5, .int 20)]) (st' := []) (H' := hC A E N V W ++ g) (C := []) 7 3 rfl trivial (z_Ln.brF (decide_eq_false (by decide)) ?_)
  refine z_Ln.blk (pc' := 29) (lv' := [(6, .ref 20), (0, .ref 110), (1, .int (nI p)), (2, .int (nI (p + l))), (3, .ref 37), (4, .int 37), (5, .int 20)]) (st' := [.ref 72]) (H' := hC A E N V W ++ g) (C := [((c.1 ≤ 601024 ∧ c.2 ≤ 7293034) ∧ 1 ≤ f ∧ 60 ≤ w), z_in 20 37 = true, ((c.1 ≤ 601024 ∧ c.2 ≤ 7293034) ∧ 1 ≤ f ∧ 60 ≤ w)]) 10 6 rfl ⟨hR0, (by decide : z_in 20 37 = true), hR0⟩ ?_
  refine z_Ln.call (s := 0) (mj := 36) (as := [.ref 72]) (rr := []) (v := some (.int 6)) (T1 := (hC A E N V W ++ g, c)) rfl rfl ⟨⟨by omega, by omega⟩, (by decide : (0 : Nat) ≤ 8), (by decide +kernel : (1 : Nat) ≤ z_pg.2.1 36)⟩ hRm (s36_16 hRm (by omega) (by omega)) ⟨trivial, ⟨(Or.inl (by decide)), (z_sm0C 0 (by decide) rfl rfl), trivial, trivial, (Or.inl (by decide)), trivial, trivial, trivial⟩⟩ ?_
  have es : nI (p + l) - nI p = nI l := by rw [pk_sub (by omega), show p + l - p = l by omega]
  have nxt : z_mt 20 b p l = false → z_Ln L xs fv f w 35 54 [(6, .ref 20), (0, .ref 110), (1, .int (nI p)), (2, .int (nI (p + l))), (3, .ref 37), (4, .int 37), (5, .int 20)] [] (hC A E N V W ++ g, c) (.inl (some (.ref (if z_mt 20 b p l = true then 20 else z_rs b p l d 16)))) (hC A E N V W ++ g, c) := by
    intro hm
    rw [hm, if_neg (by decide)]
    refine z_Ln.blk (pc' := 11) (lv' := [(5, .int 21), (6, .ref 20), (0, .ref 110), (1, .int (nI p)), (2, .int (nI (p + l))), (3, .ref 37), (4, .int 37)]) (st' := []) (H' := hC A E N V W ++ g) (C := []) 29 2 rfl trivial ?_
    exact z_Ln.lv (z_le.cons rfl rfl (z_le.cons rfl rfl (z_le.cons rfl rfl (z_le.cons rfl rfl (z_le.cons rfl rfl (z_le.cons rfl rfl z_le.nil)))))) (sp_21 hT hl hp hRm hf hw hd)
  by_cases hlk : l = 6
  · refine z_Ln.blk (pc' := (if decide (¬ 6 = ((nI (p + l)) - (nI p))) = true then 54 else 38)) (lv' := [(6, .ref 20), (0, .ref 110), (1, .int (nI p)), (2, .int (nI (p + l))), (3, .ref 37), (4, .int 37), (5, .int 20)]) (st' := []) (H' := hC A E N V W ++ g) (C := []) 17 4 rfl trivial (z_Ln.brF (decide_eq_false (by rw [es, hlk]; exact not_not_intro rfl)) ?_)
    refine z_Ln.blk (pc' := 45) (lv' := [(6, .ref 20), (0, .ref 110), (1, .int (nI p)), (2, .int (nI (p + l))), (3, .ref 37), (4, .int 37), (5, .int 20)]) (st' := [.int (nI p), .ref 72, .ref 110]) (H' := hC A E N V W ++ g) (C := [((c.1 ≤ 601024 ∧ c.2 ≤ 7293034) ∧ 1 ≤ f ∧ 60 ≤ w)]) 21 4 rfl hR0 ?_
    have em : (decide (z_fn 0 (A 4) (nI p + 0).toNatClampNeg = 101) && decide (z_fn 0 (A 4) (nI p + 1).toNatClampNeg = 102) && decide (z_fn 0 (A 4) (nI p + 2).toNatClampNeg = 102) && decide (z_fn 0 (A 4) (nI p + 3).toNatClampNeg = 101) && decide (z_fn 0 (A 4) (nI p + 4).toNatClampNeg = 99) && decide (z_fn 0 (A 4) (nI p + 5).toNatClampNeg = 116)) = z_mt 20 b p l := by
      have c0 : decide (z_fn 0 (A 4) (nI p + 0).toNatClampNeg = 101) = decide (b (p + 0) = 101) := z_chq (j := 0) (ch := 101) hT (by omega) (by decide)
      have c1 : decide (z_fn 0 (A 4) (nI p + 1).toNatClampNeg = 102) = decide (b (p + 1) = 102) := z_chq (j := 1) (ch := 102) hT (by omega) (by decide)
      have c2 : decide (z_fn 0 (A 4) (nI p + 2).toNatClampNeg = 102) = decide (b (p + 2) = 102) := z_chq (j := 2) (ch := 102) hT (by omega) (by decide)
      have c3 : decide (z_fn 0 (A 4) (nI p + 3).toNatClampNeg = 101) = decide (b (p + 3) = 101) := z_chq (j := 3) (ch := 101) hT (by omega) (by decide)
      have c4 : decide (z_fn 0 (A 4) (nI p + 4).toNatClampNeg = 99) = decide (b (p + 4) = 99) := z_chq (j := 4) (ch := 99) hT (by omega) (by decide)
      have c5 : decide (z_fn 0 (A 4) (nI p + 5).toNatClampNeg = 116) = decide (b (p + 5) = 116) := z_chq (j := 5) (ch := 116) hT (by omega) (by decide)
      rw [c0, c1, c2, c3, c4, c5]
      rw [hlk]
      show _ = (decide (6 = 6) && (decide (b (p + 0) = 101) && (decide (b (p + 1) = 102) && (decide (b (p + 2) = 102) && (decide (b (p + 3) = 101) && (decide (b (p + 4) = 99) && (decide (b (p + 5) = 116) && true)))))))
      simp [Bool.and_assoc]
    refine z_Ln.call (s := 0) (mj := 38) (as := [.ref 110, .ref 72, .int (nI p)]) (rr := []) (v := some (.int (z_B1 (z_mt 20 b p l)))) (T1 := (hC A E N V W ++ g, c)) rfl rfl ⟨⟨by omega, by omega⟩, (by decide : (0 : Nat) ≤ 8), (by decide +kernel : (3 : Nat) ≤ z_pg.2.1 38)⟩ hRm ?_ ⟨trivial, ⟨(Or.inl (by decide)), (z_sm0C 0 (by decide) rfl rfl), trivial, trivial, (Or.inl (by decide)), trivial, trivial, trivial⟩⟩ ?_
    · rw [← em]
      refine z_Ln.blk (pc' := 2) (lv' := [(3, .int 0), (0, .ref 110), (1, .ref 72), (2, .int (nI p))]) (st' := []) (H' := hC A E N V W ++ g) (C := []) 0 2 rfl trivial ?_
      exact s38_16_0 hRm (by omega) (by omega) (z_inA (p := p) (j := 0) (by omega)) (z_inA (p := p) (j := 1) (by omega)) (z_inA (p := p) (j := 2) (by omega)) (z_inA (p := p) (j := 3) (by omega)) (z_inA (p := p) (j := 4) (by omega)) (z_inA (p := p) (j := 5) (by omega))
    · cases hm : z_mt 20 b p l with
      | true =>
        refine z_Ln.blk (pc' := (if decide ((z_B1 true) = 0) = true then 54 else 51)) (lv' := [(6, .ref 20), (0, .ref 110), (1, .int (nI p)), (2, .int (nI (p + l))), (3, .ref 37), (4, .int 37), (5, .int 20)]) (st' := []) (H' := hC A E N V W ++ g) (C := []) 26 1 rfl trivial (z_Ln.brF (decide_eq_false (z_B1_t rfl)) ?_)
        refine z_Ln.blk (pc' := 53) (lv' := [(6, .ref 20), (0, .ref 110), (1, .int (nI p)), (2, .int (nI (p + l))), (3, .ref 37), (4, .int 37), (5, .int 20)]) (st' := [.ref 20]) (H' := hC A E N V W ++ g) (C := []) 27 1 rfl trivial ?_
        rw [if_pos rfl]
        exact z_Ln.ret rfl rfl
      | false =>
        have nx := nxt hm
        rw [hm] at nx
        refine z_Ln.blk (pc' := (if decide ((z_B1 false) = 0) = true then 54 else 51)) (lv' := [(6, .ref 20), (0, .ref 110), (1, .int (nI p)), (2, .int (nI (p + l))), (3, .ref 37), (4, .int 37), (5, .int 20)]) (st' := []) (H' := hC A E N V W ++ g) (C := []) 26 1 rfl trivial (z_Ln.brT (decide_eq_true (z_B1_f rfl)) ?_)
        exact nx
  · have hm : z_mt 20 b p l = false := by
      unfold z_mt
      rw [decide_eq_false (show ¬ (z_wls.getD 20 []).length = l from fun q => hlk q.symm)]
      rfl
    refine z_Ln.blk (pc' := (if decide (¬ 6 = ((nI (p + l)) - (nI p))) = true then 54 else 38)) (lv' := [(6, .ref 20), (0, .ref 110), (1, .int (nI p)), (2, .int (nI (p + l))), (3, .ref 37), (4, .int 37), (5, .int 20)]) (st' := []) (H' := hC A E N V W ++ g) (C := []) 17 4 rfl trivial (z_Ln.brT (decide_eq_true (by rw [es]; exact fun q => hlk ((nI_eq (a := 6) (b := l) (by decide) (by omega)).mp q).symm)) ?_)
    exact nxt hm
set_option maxRecDepth 10000 in
theorem sp_19 {L : Nat} {xs : Nat → Int32} {fv : Value} {f w : Nat} {c : Nat × Nat} {A : Nat → List (Nat × Int32)} {E : List (Nat × Option Nat)} {N : Nat → Nat} {V : Nat → Nat → Int32} {W : Nat} {g : List z_E} {b : Nat → Nat} {n p l d : Nat} (hT : z_Tx (A 4) b n) (hl : 1 ≤ l) (hp : p + l ≤ n) (hRm : z_Rm (hC A E N V W ++ g, c)) (hf : 5 ≤ f) (hw : 500 ≤ w) (hd : z_Ln L xs fv f w 35 60 [(0, .ref 110), (1, .int (nI p)), (2, .int (nI (p + l)))] [] (hC A E N V W ++ g, c) (.inl (some (.ref d))) (hC A E N V W ++ g, c)) : z_Ln L xs fv f w 35 11 [(0, .ref 110), (1, .int (nI p)), (2, .int (nI (p + l))), (3, .ref 37), (4, .int 37), (5, .int 19)] [] (hC A E N V W ++ g, c) (.inl (some (.ref (z_rs b p l d 18)))) (hC A E N V W ++ g, c) := by
  have hR0 : ((c.1 ≤ 601024 ∧ c.2 ≤ 7293034) ∧ 1 ≤ f ∧ 60 ≤ w) := ⟨hRm, by omega, by omega⟩
  have m36 : z_pg.2.1 36 = 1 := rfl
  have m38 : z_pg.2.1 38 = 4 := rfl
  have hn : n ≤ 1500 := hT.1
  have e : z_rs b p l d 18 = (if z_mt 19 b p l = true then 19 else z_rs b p l d 17) := rfl
  rw [e]
  refine z_Ln.blk (pc' := (if decide (37 ≤ 19) = true then 60 else 18)) (lv' := [(0, .ref 110), (1, .int (nI p)), (2, .int (nI (p + l))), (3, .ref 37), (4, .int 37), (5, .int 19)]) (st' := []) (H' := hC A E N V W ++ g) (C := []) 7 3 rfl trivial (z_Ln.brF (decide_eq_false (by decide)) ?_)
  refine z_Ln.blk (pc' := 29) (lv' := [(6, .ref 19), (0, .ref 110), (1, .int (nI p)), (2, .int (nI (p + l))), (3, .ref 37), (4, .int 37), (5, .int 19)]) (st' := [.ref 70]) (H' := hC A E N V W ++ g) (C := [((c.1 ≤ 601024 ∧ c.2 ≤ 7293034) ∧ 1 ≤ f ∧ 60 ≤ w), z_in 19 37 = true, ((c.1 ≤ 601024 ∧ c.2 ≤ 7293034) ∧ 1 ≤ f ∧ 60 ≤ w)]) 10 6 rfl ⟨hR0, (by decide : z_in 19 37 = true), hR0⟩ ?_
  refine z_Ln.call (s := 0) (mj := 36) (as := [.ref 70]) (rr := []) (v := some (.int 2)) (T1 := (hC A E N V W ++ g, c)) rfl rfl ⟨⟨by omega, by omega⟩, (by decide : (0 : Nat) ≤ 8), (by decide +kernel : (1 : Nat) ≤ z_pg.2.1 36)⟩ hRm (s36_15 hRm (by omega) (by omega)) ⟨trivial, ⟨(Or.inl (by decide)), (z_sm0C 0 (by decide) rfl rfl), trivial, trivial, (Or.inl (by decide)), trivial, trivial, trivial⟩⟩ ?_
  have es : nI (p + l) - nI p = nI l := by rw [pk_sub (by omega), show p + l - p = l by omega]
  have nxt : z_mt 19 b p l = false → z_Ln L xs fv f w 35 54 [(6, .ref 19), (0, .ref 110), (1, .int (nI p)), (2, .int (nI (p + l))), (3, .ref 37), (4, .int 37), (5, .int 19)] [] (hC A E N V W ++ g, c) (.inl (some (.ref (if z_mt 19 b p l = true then 19 else z_rs b p l d 17)))) (hC A E N V W ++ g, c) := by
    intro hm
    rw [hm, if_neg (by decide)]
    refine z_Ln.blk (pc' := 11) (lv' := [(5, .int 20), (6, .ref 19), (0, .ref 110), (1, .int (nI p)), (2, .int (nI (p + l))), (3, .ref 37), (4, .int 37)]) (st' := []) (H' := hC A E N V W ++ g) (C := []) 29 2 rfl trivial ?_
    exact z_Ln.lv (z_le.cons rfl rfl (z_le.cons rfl rfl (z_le.cons rfl rfl (z_le.cons rfl rfl (z_le.cons rfl rfl (z_le.cons rfl rfl z_le.nil)))))) (sp_20 hT hl hp hRm hf hw hd)
  by_cases hlk : l = 2
  · refine z_Ln.blk (pc' := (if decide (¬ 2 = ((nI (p + l)) - (nI p))) = true then 54 else 38)) (lv' := [(6, .ref 19), (0, .ref 110), (1, .int (nI p)), (2, .int (nI (p + l))), (3, .ref 37), (4, .int 37), (5, .int 19)]) (st' := []) (H' := hC A E N V W ++ g) (C := []) 17 4 rfl trivial (z_Ln.brF (decide_eq_false (by rw [es, hlk]; exact not_not_intro rfl)) ?_)
    refine z_Ln.blk (pc' := 45) (lv' := [(6, .ref 19), (0, .ref 110), (1, .int (nI p)), (2, .int (nI (p + l))), (3, .ref 37), (4, .int 37), (5, .int 19)]) (st' := [.int (nI p), .ref 70, .ref 110]) (H' := hC A E N V W ++ g) (C := [((c.1 ≤ 601024 ∧ c.2 ≤ 7293034) ∧ 1 ≤ f ∧ 60 ≤ w)]) 21 4 rfl hR0 ?_
    have em : (decide (z_fn 0 (A 4) (nI p + 0).toNatClampNeg = 45) && decide (z_fn 0 (A 4) (nI p + 1).toNatClampNeg = 62)) = z_mt 19 b p l := by
      have c0 : decide (z_fn 0 (A 4) (nI p + 0).toNatClampNeg = 45) = decide (b (p + 0) = 45) := z_chq (j := 0) (ch := 45) hT (by omega) (by decide)
      have c1 : decide (z_fn 0 (A 4) (nI p + 1).toNatClampNeg = 62) = decide (b (p + 1) = 62) := z_chq (j := 1) (ch := 62) hT (by omega) (by decide)
      rw [c0, c1]
      rw [hlk]
      show _ = (decide (2 = 2) && (decide (b (p + 0) = 45) && (decide (b (p + 1) = 62) && true)))
      simp [Bool.and_assoc]
    refine z_Ln.call (s := 0) (mj := 38) (as := [.ref 110, .ref 70, .int (nI p)]) (rr := []) (v := some (.int (z_B1 (z_mt 19 b p l)))) (T1 := (hC A E N V W ++ g, c)) rfl rfl ⟨⟨by omega, by omega⟩, (by decide : (0 : Nat) ≤ 8), (by decide +kernel : (3 : Nat) ≤ z_pg.2.1 38)⟩ hRm ?_ ⟨trivial, ⟨(Or.inl (by decide)), (z_sm0C 0 (by decide) rfl rfl), trivial, trivial, (Or.inl (by decide)), trivial, trivial, trivial⟩⟩ ?_
    · rw [← em]
      refine z_Ln.blk (pc' := 2) (lv' := [(3, .int 0), (0, .ref 110), (1, .ref 70), (2, .int (nI p))]) (st' := []) (H' := hC A E N V W ++ g) (C := []) 0 2 rfl trivial ?_
      exact s38_15_0 hRm (by omega) (by omega) (z_inA (p := p) (j := 0) (by omega)) (z_inA (p := p) (j := 1) (by omega))
    · cases hm : z_mt 19 b p l with
      | true =>
        refine z_Ln.blk (pc' := (if decide ((z_B1 true) = 0) = true then 54 else 51)) (lv' := [(6, .ref 19), (0, .ref 110), (1, .int (nI p)), (2, .int (nI (p + l))), (3, .ref 37), (4, .int 37), (5, .int 19)]) (st' := []) (H' := hC A E N V W ++ g) (C := []) 26 1 rfl trivial (z_Ln.brF (decide_eq_false (z_B1_t rfl)) ?_)
        refine z_Ln.blk (pc' := 53) (lv' := [(6, .ref 19), (0, .ref 110), (1, .int (nI p)), (2, .int (nI (p + l))), (3, .ref 37), (4, .int 37), (5, .int 19)]) (st' := [.ref 19]) (H' := hC A E N V W ++ g) (C := []) 27 1 rfl trivial ?_
        rw [if_pos rfl]
        exact z_Ln.ret rfl rfl
      | false =>
        have nx := nxt hm
        rw [hm] at nx
        refine z_Ln.blk (pc' := (if decide ((z_B1 false) = 0) = true then 54 else 51)) (lv' := [(6, .ref 19), (0, .ref 110), (1, .int (nI p)), (2, .int (nI (p + l))), (3, .ref 37), (4, .int 37), (5, .int 19)]) (st' := []) (H' := hC A E N V W ++ g) (C := []) 26 1 rfl trivial (z_Ln.brT (decide_eq_true (z_B1_f rfl)) ?_)
        exact nx
  · have hm : z_mt 19 b p l = false := by
      unfold z_mt
      rw [decide_eq_false (show ¬ (z_wls.getD 19 []).length = l from fun q => hlk q.symm)]
      rfl
    refine z_Ln.blk (pc' := (if decide (¬ 2 = ((nI (p + l)) - (nI p))) = true then 54 else 38)) (lv' := [(6, .ref 19), (0, .ref 110), (1, .int (nI p)), (2, .int (nI (p + l))), (3, .ref 37), (4, .int 37), (5, .int 19)]) (st' := []) (H' := hC A E N V W ++ g) (C := []) 17 4 rfl trivial (z_Ln.brT (decide_eq_true (by rw [es]; exact fun q => hlk ((nI_eq (a := 2) (b := l) (by decide) (by omega)).mp q).symm)) ?_)
    exact nxt hm
set_option maxRecDepth 10000 in
theorem sp_18 {L : Nat} {xs : Nat → Int32} {fv : Value} {f w : Nat} {c : Nat × Nat} {A : Nat → List (Nat × Int32)} {E : List (Nat × Option Nat)} {N : Nat → Nat} {V : Nat → Nat → Int32} {W : Nat} {g : List z_E} {b : Nat → Nat} {n p l d : Nat} (hT : z_Tx (A 4) b n) (hl : 1 ≤ l) (hp : p + l ≤ n) (hRm : z_Rm (hC A E N V W ++ g, c)) (hf : 5 ≤ f) (hw : 500 ≤ w) (hd : z_Ln L xs fv f w 35 60 [(0, .ref 110), (1, .int (nI p)), (2, .int (nI (p + l)))] [] (hC A E N V W ++ g, c) (.inl (some (.ref d))) (hC A E N V W ++ g, c)) : z_Ln L xs fv f w 35 11 [(0, .ref 110), (1, .int (nI p)), (2, .int (nI (p + l))), (3, .ref 37), (4, .int 37), (5, .int 18)] [] (hC A E N V W ++ g, c) (.inl (some (.ref (z_rs b p l d 19)))) (hC A E N V W ++ g, c) := by
  have hR0 : ((c.1 ≤ 601024 ∧ c.2 ≤ 7293034) ∧ 1 ≤ f ∧ 60 ≤ w) := ⟨hRm, by omega, by omega⟩
  have m36 : z_pg.2.1 36 = 1 := rfl
  have m38 : z_pg.2.1 38 = 4 := rfl
  have hn : n ≤ 1500 := hT.1
  have e : z_rs b p l d 19 = (if z_mt 18 b p l = true then 18 else z_rs b p l d 18) := rfl
  rw [e]
  refine z_Ln.blk (pc' := (if decide (37 ≤ 18) = true then 60 else 18)) (lv' := [(0, .ref 110), (1, .int (nI p)), (2, .int (nI (p + l))), (3, .ref 37), (4, .int 37), (5, .int 18)]) (st' := []) (H' := hC A E N V W ++ g) (C := []) 7 3 rfl trivial (z_Ln.brF (decide_eq_false (by decide)) ?_)
  refine z_Ln.blk (pc' := 29) (lv' := [(6, .ref 18), (0, .ref 110), (1, .int (nI p)), (2, .int (nI (p + l))), (3, .ref 37), (4, .int 37), (5, .int 18)]) (st' := [.ref 68]) (H' := hC A E N V W ++ g) (C := [((c.1 ≤ 601024 ∧ c.2 ≤ 7293034) ∧ 1 ≤ f ∧ 60 ≤ w), z_in 18 37 = true, ((c.1 ≤ 601024 ∧ c.2 ≤ 7293034) ∧ 1 ≤ f ∧ 60 ≤ w)]) 10 6 rfl ⟨hR0, (by decide : z_in 18 37 = true), hR0⟩ ?_
  refine z_Ln.call (s := 0) (mj := 36) (as := [.ref 68]) (rr := []) (v := some (.int 1)) (T1 := (hC A E N V W ++ g, c)) rfl rfl ⟨⟨by omega, by omega⟩, (by decide : (0 : Nat) ≤ 8), (by decide +kernel : (1 : Nat) ≤ z_pg.2.1 36)⟩ hRm (s36_14 hRm (by omega) (by omega)) ⟨trivial, ⟨(Or.inl (by decide)), (z_sm0C 0 (by decide) rfl rfl), trivial, trivial, (Or.inl (by decide)), trivial, trivial, trivial⟩⟩ ?_
  have es : nI (p + l) - nI p = nI l := by rw [pk_sub (by omega), show p + l - p = l by omega]
  have nxt : z_mt 18 b p l = false → z_Ln L xs fv f w 35 54 [(6, .ref 18), (0, .ref 110), (1, .int (nI p)), (2, .int (nI (p + l))), (3, .ref 37), (4, .int 37), (5, .int 18)] [] (hC A E N V W ++ g, c) (.inl (some (.ref (if z_mt 18 b p l = true then 18 else z_rs b p l d 18)))) (hC A E N V W ++ g, c) := by
    intro hm
    rw [hm, if_neg (by decide)]
    refine z_Ln.blk (pc' := 11) (lv' := [(5, .int 19), (6, .ref 18), (0, .ref 110), (1, .int (nI p)), (2, .int (nI (p + l))), (3, .ref 37), (4, .int 37)]) (st' := []) (H' := hC A E N V W ++ g) (C := []) 29 2 rfl trivial ?_
    exact z_Ln.lv (z_le.cons rfl rfl (z_le.cons rfl rfl (z_le.cons rfl rfl (z_le.cons rfl rfl (z_le.cons rfl rfl (z_le.cons rfl rfl z_le.nil)))))) (sp_19 hT hl hp hRm hf hw hd)
  by_cases hlk : l = 1
  · refine z_Ln.blk (pc' := (if decide (¬ 1 = ((nI (p + l)) - (nI p))) = true then 54 else 38)) (lv' := [(6, .ref 18), (0, .ref 110), (1, .int (nI p)), (2, .int (nI (p + l))), (3, .ref 37), (4, .int 37), (5, .int 18)]) (st' := []) (H' := hC A E N V W ++ g) (C := []) 17 4 rfl trivial (z_Ln.brF (decide_eq_false (by rw [es, hlk]; exact not_not_intro rfl)) ?_)
    refine z_Ln.blk (pc' := 45) (lv' := [(6, .ref 18), (0, .ref 110), (1, .int (nI p)), (2, .int (nI (p + l))), (3, .ref 37), (4, .int 37), (5, .int 18)]) (st' := [.int (nI p), .ref 68, .ref 110]) (H' := hC A E N V W ++ g) (C := [((c.1 ≤ 601024 ∧ c.2 ≤ 7293034) ∧ 1 ≤ f ∧ 60 ≤ w)]) 21 4 rfl hR0 ?_
    have em : (decide (z_fn 0 (A 4) (nI p + 0).toNatClampNeg = 124)) = z_mt 18 b p l := by
      have c0 : decide (z_fn 0 (A 4) (nI p + 0).toNatClampNeg = 124) = decide (b (p + 0) = 124) := z_chq (j := 0) (ch := 124) hT (by omega) (by decide)
      rw [c0]
      rw [hlk]
      show _ = (decide (1 = 1) && (decide (b (p + 0) = 124) && true))
      simp [Bool.and_assoc]
    refine z_Ln.call (s := 0) (mj := 38) (as := [.ref 110, .ref 68, .int (nI p)]) (rr := []) (v := some (.int (z_B1 (z_mt 18 b p l)))) (T1 := (hC A E N V W ++ g, c)) rfl rfl ⟨⟨by omega, by omega⟩, (by decide : (0 : Nat) ≤ 8), (by decide +kernel : (3 : Nat) ≤ z_pg.2.1 38)⟩ hRm ?_ ⟨trivial, ⟨(Or.inl (by decide)), (z_sm0C 0 (by decide) rfl rfl), trivial, trivial, (Or.inl (by decide)), trivial, trivial, trivial⟩⟩ ?_
    · rw [← em]
      refine z_Ln.blk (pc' := 2) (lv' := [(3, .int 0), (0, .ref 110), (1, .ref 68), (2, .int (nI p))]) (st' := []) (H' := hC A E N V W ++ g) (C := []) 0 2 rfl trivial ?_
      exact s38_14_0 hRm (by omega) (by omega) (z_inA (p := p) (j := 0) (by omega))
    · cases hm : z_mt 18 b p l with
      | true =>
        refine z_Ln.blk (pc' := (if decide ((z_B1 true) = 0) = true then 54 else 51)) (lv' := [(6, .ref 18), (0, .ref 110), (1, .int (nI p)), (2, .int (nI (p + l))), (3, .ref 37), (4, .int 37), (5, .int 18)]) (st' := []) (H' := hC A E N V W ++ g) (C := []) 26 1 rfl trivial (z_Ln.brF (decide_eq_false (z_B1_t rfl)) ?_)
        refine z_Ln.blk (pc' := 53) (lv' := [(6, .ref 18), (0, .ref 110), (1, .int (nI p)), (2, .int (nI (p + l))), (3, .ref 37), (4, .int 37), (5, .int 18)]) (st' := [.ref 18]) (H' := hC A E N V W ++ g) (C := []) 27 1 rfl trivial ?_
        rw [if_pos rfl]
        exact z_Ln.ret rfl rfl
      | false =>
        have nx := nxt hm
        rw [hm] at nx
        refine z_Ln.blk (pc' := (if decide ((z_B1 false) = 0) = true then 54 else 51)) (lv' := [(6, .ref 18), (0, .ref 110), (1, .int (nI p)), (2, .int (nI (p + l))), (3, .ref 37), (4, .int 37), (5, .int 18)]) (st' := []) (H' := hC A E N V W ++ g) (C := []) 26 1 rfl trivial (z_Ln.brT (decide_eq_true (z_B1_f rfl)) ?_)
        exact nx
  · have hm : z_mt 18 b p l = false := by
      unfold z_mt
      rw [decide_eq_false (show ¬ (z_wls.getD 18 []).length = l from fun q => hlk q.symm)]
      rfl
    refine z_Ln.blk (pc' := (if decide (¬ 1 = ((nI (p + l)) - (nI p))) = true then 54 else 38)) (lv' := [(6, .ref 18), (0, .ref 110), (1, .int (nI p)), (2, .int (nI (p + l))), (3, .ref 37), (4, .int 37), (5, .int 18)]) (st' := []) (H' := hC A E N V W ++ g) (C := []) 17 4 rfl trivial (z_Ln.brT (decide_eq_true (by rw [es]; exact fun q => hlk ((nI_eq (a := 1) (b := l) (by decide) (by omega)).mp q).symm)) ?_)
    exact nxt hm
set_option maxRecDepth 10000 in
theorem sp_17 {L : Nat} {xs : Nat → Int32} {fv : Value} {f w : Nat} {c : Nat × Nat} {A : Nat → List (Nat × Int32)} {E : List (Nat × Option Nat)} {N : Nat → Nat} {V : Nat → Nat → Int32} {W : Nat} {g : List z_E} {b : Nat → Nat} {n p l d : Nat} (hT : z_Tx (A 4) b n) (hl : 1 ≤ l) (hp : p + l ≤ n) (hRm : z_Rm (hC A E N V W ++ g, c)) (hf : 5 ≤ f) (hw : 500 ≤ w) (hd : z_Ln L xs fv f w 35 60 [(0, .ref 110), (1, .int (nI p)), (2, .int (nI (p + l)))] [] (hC A E N V W ++ g, c) (.inl (some (.ref d))) (hC A E N V W ++ g, c)) : z_Ln L xs fv f w 35 11 [(0, .ref 110), (1, .int (nI p)), (2, .int (nI (p + l))), (3, .ref 37), (4, .int 37), (5, .int 17)] [] (hC A E N V W ++ g, c) (.inl (some (.ref (z_rs b p l d 20)))) (hC A E N V W ++ g, c) := by
  have hR0 : ((c.1 ≤ 601024 ∧ c.2 ≤ 7293034) ∧ 1 ≤ f ∧ 60 ≤ w) := ⟨hRm, by omega, by omega⟩
  have m36 : z_pg.2.1 36 = 1 := rfl
  have m38 : z_pg.2.1 38 = 4 := rfl
  have hn : n ≤ 1500 := hT.1
  have e : z_rs b p l d 20 = (if z_mt 17 b p l = true then 17 else z_rs b p l d 19) := rfl
  rw [e]
  refine z_Ln.blk (pc' := (if decide (37 ≤ 17) = true then 60 else 18)) (lv' := [(0, .ref 110), (1, .int (nI p)), (2, .int (nI (p + l))), (3, .ref 37), (4, .int 37), (5, .int 17)]) (st' := []) (H' := hC A E N V W ++ g) (C := []) 7 3 rfl trivial (z_Ln.brF (decide_eq_false (by decide)) ?_)
  refine z_Ln.blk (pc' := 29) (lv' := [(6, .ref 17), (0, .ref 110), (1, .int (nI p)), (2, .int (nI (p + l))), (3, .ref 37), (4, .int 37), (5, .int 17)]) (st' := [.ref 66]) (H' := hC A E N V W ++ g) (C := [((c.1 ≤ 601024 ∧ c.2 ≤ 7293034) ∧ 1 ≤ f ∧ 60 ≤ w), z_in 17 37 = true, ((c.1 ≤ 601024 ∧ c.2 ≤ 7293034) ∧ 1 ≤ f ∧ 60 ≤ w)]) 10 6 rfl ⟨hR0, (by decide : z_in 17 37 = true), hR0⟩ ?_
  refine z_Ln.call (s := 0) (mj := 36) (as := [.ref 66]) (rr := []) (v := some (.int 1)) (T1 := (hC A E N V W ++ g, c)) rfl rfl ⟨⟨by omega, by omega⟩, (by decide : (0 : Nat) ≤ 8), (by decide +kernel : (1 : Nat) ≤ z_pg.2.1 36)⟩ hRm (s36_13 hRm (by omega) (by omega)) ⟨trivial, ⟨(Or.inl (by decide)), (z_sm0C 0 (by decide) rfl rfl), trivial, trivial, (Or.inl (by decide)), trivial, trivial, trivial⟩⟩ ?_
  have es : nI (p + l) - nI p = nI l := by rw [pk_sub (by omega), show p + l - p = l by omega]
  have nxt : z_mt 17 b p l = false → z_Ln L xs fv f w 35 54 [(6, .ref 17), (0, .ref 110), (1, .int (nI p)), (2, .int (nI (p + l))), (3, .ref 37), (4, .int 37), (5, .int 17)] [] (hC A E N V W ++ g, c) (.inl (some (.ref (if z_mt 17 b p l = true then 17 else z_rs b p l d 19)))) (hC A E N V W ++ g, c) := by
    intro hm
    rw [hm, if_neg (by decide)]
    refine z_Ln.blk (pc' := 11) (lv' := [(5, .int 18), (6, .ref 17), (0, .ref 110), (1, .int (nI p)), (2, .int (nI (p + l))), (3, .ref 37), (4, .int 37)]) (st' := []) (H' := hC A E N V W ++ g) (C := []) 29 2 rfl trivial ?_
    exact z_Ln.lv (z_le.cons rfl rfl (z_le.cons rfl rfl (z_le.cons rfl rfl (z_le.cons rfl rfl (z_le.cons rfl rfl (z_le.cons rfl rfl z_le.nil)))))) (sp_18 hT hl hp hRm hf hw hd)
  by_cases hlk : l = 1
  · refine z_Ln.blk (pc' := (if decide (¬ 1 = ((nI (p + l)) - (nI p))) = true then 54 else 38)) (lv' := [(6, .ref 17), (0, .ref 110), (1, .int (nI p)), (2, .int (nI (p + l))), (3, .ref 37), (4, .int 37), (5, .int 17)]) (st' := []) (H' := hC A E N V W ++ g) (C := []) 17 4 rfl trivial (z_Ln.brF (decide_eq_false (by rw [es, hlk]; exact not_not_intro rfl)) ?_)
    refine z_Ln.blk (pc' := 45) (lv' := [(6, .ref 17), (0, .ref 110), (1, .int (nI p)), (2, .int (nI (p + l))), (3, .ref 37), (4, .int 37), (5, .int 17)]) (st' := [.int (nI p), .ref 66, .ref 110]) (H' := hC A E N V W ++ g) (C := [((c.1 ≤ 601024 ∧ c.2 ≤ 7293034) ∧ 1 ≤ f ∧ 60 ≤ w)]) 21 4 rfl hR0 ?_
    have em : (decide (z_fn 0 (A 4) (nI p + 0).toNatClampNeg = 33)) = z_mt 17 b p l := by
      have c0 : decide (z_fn 0 (A 4) (nI p + 0).toNatClampNeg = 33) = decide (b (p + 0) = 33) := z_chq (j := 0) (ch := 33) hT (by omega) (by decide)
      rw [c0]
      rw [hlk]
      show _ = (decide (1 = 1) && (decide (b (p + 0) = 33) && true))
      simp [Bool.and_assoc]
    refine z_Ln.call (s := 0) (mj := 38) (as := [.ref 110, .ref 66, .int (nI p)]) (rr := []) (v := some (.int (z_B1 (z_mt 17 b p l)))) (T1 := (hC A E N V W ++ g, c)) rfl rfl ⟨⟨by omega, by omega⟩, (by decide : (0 : Nat) ≤ 8), (by decide +kernel : (3 : Nat) ≤ z_pg.2.1 38)⟩ hRm ?_ ⟨trivial, ⟨(Or.inl (by decide)), (z_sm0C 0 (by decide) rfl rfl), trivial, trivial, (Or.inl (by decide)), trivial, trivial, trivial⟩⟩ ?_
    · rw [← em]
      refine z_Ln.blk (pc' := 2) (lv' := [(3, .int 0), (0, .ref 110), (1, .ref 66), (2, .int (nI p))]) (st' := []) (H' := hC A E N V W ++ g) (C := []) 0 2 rfl trivial ?_
      exact s38_13_0 hRm (by omega) (by omega) (z_inA (p := p) (j := 0) (by omega))
    · cases hm : z_mt 17 b p l with
      | true =>
        refine z_Ln.blk (pc' := (if decide ((z_B1 true) = 0) = true then 54 else 51)) (lv' := [(6, .ref 17), (0, .ref 110), (1, .int (nI p)), (2, .int (nI (p + l))), (3, .ref 37), (4, .int 37), (5, .int 17)]) (st' := []) (H' := hC A E N V W ++ g) (C := []) 26 1 rfl trivial (z_Ln.brF (decide_eq_false (z_B1_t rfl)) ?_)
        refine z_Ln.blk (pc' := 53) (lv' := [(6, .ref 17), (0, .ref 110), (1, .int (nI p)), (2, .int (nI (p + l))), (3, .ref 37), (4, .int 37), (5, .int 17)]) (st' := [.ref 17]) (H' := hC A E N V W ++ g) (C := []) 27 1 rfl trivial ?_
        rw [if_pos rfl]
        exact z_Ln.ret rfl rfl
      | false =>
        have nx := nxt hm
        rw [hm] at nx
        refine z_Ln.blk (pc' := (if decide ((z_B1 false) = 0) = true then 54 else 51)) (lv' := [(6, .ref 17), (0, .ref 110), (1, .int (nI p)), (2, .int (nI (p + l))), (3, .ref 37), (4, .int 37), (5, .int 17)]) (st' := []) (H' := hC A E N V W ++ g) (C := []) 26 1 rfl trivial (z_Ln.brT (decide_eq_true (z_B1_f rfl)) ?_)
        exact nx
  · have hm : z_mt 17 b p l = false := by
      unfold z_mt
      rw [decide_eq_false (show ¬ (z_wls.getD 17 []).length = l from fun q => hlk q.symm)]
      rfl
    refine z_Ln.blk (pc' := (if decide (¬ 1 = ((nI (p + l)) - (nI p))) = true then 54 else 38)) (lv' := [(6, .ref 17), (0, .ref 110), (1, .int (nI p)), (2, .int (nI (p + l))), (3, .ref 37), (4, .int 37), (5, .int 17)]) (st' := []) (H' := hC A E N V W ++ g) (C := []) 17 4 rfl trivial (z_Ln.brT (decide_eq_true (by rw [es]; exact fun q => hlk ((nI_eq (a := 1) (b := l) (by decide) (by omega)).mp q).symm)) ?_)
    exact nxt hm
set_option maxRecDepth 10000 in
theorem sp_16 {L : Nat} {xs : Nat → Int32} {fv : Value} {f w : Nat} {c : Nat × Nat} {A : Nat → List (Nat × Int32)} {E : List (Nat × Option Nat)} {N : Nat → Nat} {V : Nat → Nat → Int32} {W : Nat} {g : List z_E} {b : Nat → Nat} {n p l d : Nat} (hT : z_Tx (A 4) b n) (hl : 1 ≤ l) (hp : p + l ≤ n) (hRm : z_Rm (hC A E N V W ++ g, c)) (hf : 5 ≤ f) (hw : 500 ≤ w) (hd : z_Ln L xs fv f w 35 60 [(0, .ref 110), (1, .int (nI p)), (2, .int (nI (p + l)))] [] (hC A E N V W ++ g, c) (.inl (some (.ref d))) (hC A E N V W ++ g, c)) : z_Ln L xs fv f w 35 11 [(0, .ref 110), (1, .int (nI p)), (2, .int (nI (p + l))), (3, .ref 37), (4, .int 37), (5, .int 16)] [] (hC A E N V W ++ g, c) (.inl (some (.ref (z_rs b p l d 21)))) (hC A E N V W ++ g, c) := by
  have hR0 : ((c.1 ≤ 601024 ∧ c.2 ≤ 7293034) ∧ 1 ≤ f ∧ 60 ≤ w) := ⟨hRm, by omega, by omega⟩
  have m36 : z_pg.2.1 36 = 1 := rfl
  have m38 : z_pg.2.1 38 = 4 := rfl
  have hn : n ≤ 1500 := hT.1
  have e : z_rs b p l d 21 = (if z_mt 16 b p l = true then 16 else z_rs b p l d 20) := rfl
  rw [e]
  refine z_Ln.blk (pc' := (if decide (37 ≤ 16) = true then 60 else 18)) (lv' := [(0, .ref 110), (1, .int (nI p)), (2, .int (nI (p + l))), (3, .ref 37), (4, .int 37), (5, .int 16)]) (st' := []) (H' := hC A E N V W ++ g) (C := []) 7 3 rfl trivial (z_Ln.brF (decide_eq_false (by decide)) ?_)
  refine z_Ln.blk (pc' := 29) (lv' := [(6, .ref 16), (0, .ref 110), (1, .int (nI p)), (2, .int (nI (p + l))), (3, .ref 37), (4, .int 37), (5, .int 16)]) (st' := [.ref 64]) (H' := hC A E N V W ++ g) (C := [((c.1 ≤ 601024 ∧ c.2 ≤ 7293034) ∧ 1 ≤ f ∧ 60 ≤ w), z_in 16 37 = true, ((c.1 ≤ 601024 ∧ c.2 ≤ 7293034) ∧ 1 ≤ f ∧ 60 ≤ w)]) 10 6 rfl ⟨hR0, (by decide : z_in 16 37 = true), hR0⟩ ?_
  refine z_Ln.call (s := 0) (mj := 36) (as := [.ref 64]) (rr := []) (v := some (.int 1)) (T1 := (hC A E N V W ++ g, c)) rfl rfl ⟨⟨by omega, by omega⟩, (by decide : (0 : Nat) ≤ 8), (by decide +kernel : (1 : Nat) ≤ z_pg.2.1 36)⟩ hRm (s36_12 hRm (by omega) (by omega)) ⟨trivial, ⟨(Or.inl (by decide)), (z_sm0C 0 (by decide) rfl rfl), trivial, trivial, (Or.inl (by decide)), trivial, trivial, trivial⟩⟩ ?_
  have es : nI (p + l) - nI p = nI l := by rw [pk_sub (by omega), show p + l - p = l by omega]
  have nxt : z_mt 16 b p l = false → z_Ln L xs fv f w 35 54 [(6, .ref 16), (0, .ref 110), (1, .int (nI p)), (2, .int (nI (p + l))), (3, .ref 37), (4, .int 37), (5, .int 16)] [] (hC A E N V W ++ g, c) (.inl (some (.ref (if z_mt 16 b p l = true then 16 else z_rs b p l d 20)))) (hC A E N V W ++ g, c) := by
    intro hm
    rw [hm, if_neg (by decide)]
    refine z_Ln.blk (pc' := 11) (lv' := [(5, .int 17), (6, .ref 16), (0, .ref 110), (1, .int (nI p)), (2, .int (nI (p + l))), (3, .ref 37), (4, .int 37)]) (st' := []) (H' := hC A E N V W ++ g) (C := []) 29 2 rfl trivial ?_
    exact z_Ln.lv (z_le.cons rfl rfl (z_le.cons rfl rfl (z_le.cons rfl rfl (z_le.cons rfl rfl (z_le.cons rfl rfl (z_le.cons rfl rfl z_le.nil)))))) (sp_17 hT hl hp hRm hf hw hd)
  by_cases hlk : l = 1
  · refine z_Ln.blk (pc' := (if decide (¬ 1 = ((nI (p + l)) - (nI p))) = true then 54 else 38)) (lv' := [(6, .ref 16), (0, .ref 110), (1, .int (nI p)), (2, .int (nI (p + l))), (3, .ref 37), (4, .int 37), (5, .int 16)]) (st' := []) (H' := hC A E N V W ++ g) (C := []) 17 4 rfl trivial (z_Ln.brF (decide_eq_false (by rw [es, hlk]; exact not_not_intro rfl)) ?_)
    refine z_Ln.blk (pc' := 45) (lv' := [(6, .ref 16), (0, .ref 110), (1, .int (nI p)), (2, .int (nI (p + l))), (3, .ref 37), (4, .int 37), (5, .int 16)]) (st' := [.int (nI p), .ref 64, .ref 110]) (H' := hC A E N V W ++ g) (C := [((c.1 ≤ 601024 ∧ c.2 ≤ 7293034) ∧ 1 ≤ f ∧ 60 ≤ w)]) 21 4 rfl hR0 ?_
    have em : (decide (z_fn 0 (A 4) (nI p + 0).toNatClampNeg = 42)) = z_mt 16 b p l := by
      have c0 : decide (z_fn 0 (A 4) (nI p + 0).toNatClampNeg = 42) = decide (b (p + 0) = 42) := z_chq (j := 0) (ch := 42) hT (by omega) (by decide)
      rw [c0]
      rw [hlk]
      show _ = (decide (1 = 1) && (decide (b (p + 0) = 42) && true))
      simp [Bool.and_assoc]
    refine z_Ln.call (s := 0) (mj := 38) (as := [.ref 110, .ref 64, .int (nI p)]) (rr := []) (v := some (.int (z_B1 (z_mt 16 b p l)))) (T1 := (hC A E N V W ++ g, c)) rfl rfl ⟨⟨by omega, by omega⟩, (by decide : (0 : Nat) ≤ 8), (by decide +kernel : (3 : Nat) ≤ z_pg.2.1 38)⟩ hRm ?_ ⟨trivial, ⟨(Or.inl (by decide)), (z_sm0C 0 (by decide) rfl rfl), trivial, trivial, (Or.inl (by decide)), trivial, trivial, trivial⟩⟩ ?_
    · rw [← em]
      refine z_Ln.blk (pc' := 2) (lv' := [(3, .int 0), (0, .ref 110), (1, .ref 64), (2, .int (nI p))]) (st' := []) (H' := hC A E N V W ++ g) (C := []) 0 2 rfl trivial ?_
      exact s38_12_0 hRm (by omega) (by omega) (z_inA (p := p) (j := 0) (by omega))
    · cases hm : z_mt 16 b p l with
      | true =>
        refine z_Ln.blk (pc' := (if decide ((z_B1 true) = 0) = true then 54 else 51)) (lv' := [(6, .ref 16), (0, .ref 110), (1, .int (nI p)), (2, .int (nI (p + l))), (3, .ref 37), (4, .int 37), (5, .int 16)]) (st' := []) (H' := hC A E N V W ++ g) (C := []) 26 1 rfl trivial (z_Ln.brF (decide_eq_false (z_B1_t rfl)) ?_)
        refine z_Ln.blk (pc' := 53) (lv' := [(6, .ref 16), (0, .ref 110), (1, .int (nI p)), (2, .int (nI (p + l))), (3, .ref 37), (4, .int 37), (5, .int 16)]) (st' := [.ref 16]) (H' := hC A E N V W ++ g) (C := []) 27 1 rfl trivial ?_
        rw [if_pos rfl]
        exact z_Ln.ret rfl rfl
      | false =>
        have nx := nxt hm
        rw [hm] at nx
        refine z_Ln.blk (pc' := (if decide ((z_B1 false) = 0) = true then 54 else 51)) (lv' := [(6, .ref 16), (0, .ref 110), (1, .int (nI p)), (2, .int (nI (p + l))), (3, .ref 37), (4, .int 37), (5, .int 16)]) (st' := []) (H' := hC A E N V W ++ g) (C := []) 26 1 rfl trivial (z_Ln.brT (decide_eq_true (z_B1_f rfl)) ?_)
        exact nx
  · have hm : z_mt 16 b p l = false := by
      unfold z_mt
      rw [decide_eq_false (show ¬ (z_wls.getD 16 []).length = l from fun q => hlk q.symm)]
      rfl
    refine z_Ln.blk (pc' := (if decide (¬ 1 = ((nI (p + l)) - (nI p))) = true then 54 else 38)) (lv' := [(6, .ref 16), (0, .ref 110), (1, .int (nI p)), (2, .int (nI (p + l))), (3, .ref 37), (4, .int 37), (5, .int 16)]) (st' := []) (H' := hC A E N V W ++ g) (C := []) 17 4 rfl trivial (z_Ln.brT (decide_eq_true (by rw [es]; exact fun q => hlk ((nI_eq (a := 1) (b := l) (by decide) (by omega)).mp q).symm)) ?_)
    exact nxt hm
set_option maxRecDepth 10000 in
theorem sp_15 {L : Nat} {xs : Nat → Int32} {fv : Value} {f w : Nat} {c : Nat × Nat} {A : Nat → List (Nat × Int32)} {E : List (Nat × Option Nat)} {N : Nat → Nat} {V : Nat → Nat → Int32} {W : Nat} {g : List z_E} {b : Nat → Nat} {n p l d : Nat} (hT : z_Tx (A 4) b n) (hl : 1 ≤ l) (hp : p + l ≤ n) (hRm : z_Rm (hC A E N V W ++ g, c)) (hf : 5 ≤ f) (hw : 500 ≤ w) (hd : z_Ln L xs fv f w 35 60 [(0, .ref 110), (1, .int (nI p)), (2, .int (nI (p + l)))] [] (hC A E N V W ++ g, c) (.inl (some (.ref d))) (hC A E N V W ++ g, c)) : z_Ln L xs fv f w 35 11 [(0, .ref 110), (1, .int (nI p)), (2, .int (nI (p + l))), (3, .ref 37), (4, .int 37), (5, .int 15)] [] (hC A E N V W ++ g, c) (.inl (some (.ref (z_rs b p l d 22)))) (hC A E N V W ++ g, c) := by
  have hR0 : ((c.1 ≤ 601024 ∧ c.2 ≤ 7293034) ∧ 1 ≤ f ∧ 60 ≤ w) := ⟨hRm, by omega, by omega⟩
  have m36 : z_pg.2.1 36 = 1 := rfl
  have m38 : z_pg.2.1 38 = 4 := rfl
  have hn : n ≤ 1500 := hT.1
  have e : z_rs b p l d 22 = (if z_mt 15 b p l = true then 15 else z_rs b p l d 21) := rfl
  rw [e]
  refine z_Ln.blk (pc' := (if decide (37 ≤ 15) = true then 60 else 18)) (lv' := [(0, .ref 110), (1, .int (nI p)), (2, .int (nI (p + l))), (3, .ref 37), (4, .int 37), (5, .int 15)]) (st' := []) (H' := hC A E N V W ++ g) (C := []) 7 3 rfl trivial (z_Ln.brF (decide_eq_false (by decide)) ?_)
  refine z_Ln.blk (pc' := 29) (lv' := [(6, .ref 15), (0, .ref 110), (1, .int (nI p)), (2, .int (nI (p + l))), (3, .ref 37), (4, .int 37), (5, .int 15)]) (st' := [.ref 62]) (H' := hC A E N V W ++ g) (C := [((c.1 ≤ 601024 ∧ c.2 ≤ 7293034) ∧ 1 ≤ f ∧ 60 ≤ w), z_in 15 37 = true, ((c.1 ≤ 601024 ∧ c.2 ≤ 7293034) ∧ 1 ≤ f ∧ 60 ≤ w)]) 10 6 rfl ⟨hR0, (by decide : z_in 15 37 = true), hR0⟩ ?_
  refine z_Ln.call (s := 0) (mj := 36) (as := [.ref 62]) (rr := []) (v := some (.int 1)) (T1 := (hC A E N V W ++ g, c)) rfl rfl ⟨⟨by omega, by omega⟩, (by decide : (0 : Nat) ≤ 8), (by decide +kernel : (1 : Nat) ≤ z_pg.2.1 36)⟩ hRm (s36_11 hRm (by omega) (by omega)) ⟨trivial, ⟨(Or.inl (by decide)), (z_sm0C 0 (by decide) rfl rfl), trivial, trivial, (Or.inl (by decide)), trivial, trivial, trivial⟩⟩ ?_
  have es : nI (p + l) - nI p = nI l := by rw [pk_sub (by omega), show p + l - p = l by omega]
  have nxt : z_mt 15 b p l = false → z_Ln L xs fv f w 35 54 [(6, .ref 15), (0, .ref 110), (1, .int (nI p)), (2, .int (nI (p + l))), (3, .ref 37), (4, .int 37), (5, .int 15)] [] (hC A E N V W ++ g, c) (.inl (some (.ref (if z_mt 15 b p l = true then 15 else z_rs b p l d 21)))) (hC A E N V W ++ g, c) := by
    intro hm
    rw [hm, if_neg (by decide)]
    refine z_Ln.blk (pc' := 11) (lv' := [(5, .int 16), (6, .ref 15), (0, .ref 110), (1, .int (nI p)), (2, .int (nI (p + l))), (3, .ref 37), (4, .int 37)]) (st' := []) (H' := hC A E N V W ++ g) (C := []) 29 2 rfl trivial ?_
    exact z_Ln.lv (z_le.cons rfl rfl (z_le.cons rfl rfl (z_le.cons rfl rfl (z_le.cons rfl rfl (z_le.cons rfl rfl (z_le.cons rfl rfl z_le.nil)))))) (sp_16 hT hl hp hRm hf hw hd)
  by_cases hlk : l = 1
  · refine z_Ln.blk (pc' := (if decide (¬ 1 = ((nI (p + l)) - (nI p))) = true then 54 else 38)) (lv' := [(6, .ref 15), (0, .ref 110), (1, .int (nI p)), (2, .int (nI (p + l))), (3, .ref 37), (4, .int 37), (5, .int 15)]) (st' := []) (H' := hC A E N V W ++ g) (C := []) 17 4 rfl trivial (z_Ln.brF (decide_eq_false (by rw [es, hlk]; exact not_not_intro rfl)) ?_)
    refine z_Ln.blk (pc' := 45) (lv' := [(6, .ref 15), (0, .ref 110), (1, .int (nI p)), (2, .int (nI (p + l))), (3, .ref 37), (4, .int 37), (5, .int 15)]) (st' := [.int (nI p), .ref 62, .ref 110]) (H' := hC A E N V W ++ g) (C := [((c.1 ≤ 601024 ∧ c.2 ≤ 7293034) ∧ 1 ≤ f ∧ 60 ≤ w)]) 21 4 rfl hR0 ?_
    have em : (decide (z_fn 0 (A 4) (nI p + 0).toNatClampNeg = 45)) = z_mt 15 b p l := by
      have c0 : decide (z_fn 0 (A 4) (nI p + 0).toNatClampNeg = 45) = decide (b (p + 0) = 45) := z_chq (j := 0) (ch := 45) hT (by omega) (by decide)
      rw [c0]
      rw [hlk]
      show _ = (decide (1 = 1) && (decide (b (p + 0) = 45) && true))
      simp [Bool.and_assoc]
    refine z_Ln.call (s := 0) (mj := 38) (as := [.ref 110, .ref 62, .int (nI p)]) (rr := []) (v := some (.int (z_B1 (z_mt 15 b p l)))) (T1 := (hC A E N V W ++ g, c)) rfl rfl ⟨⟨by omega, by omega⟩, (by decide : (0 : Nat) ≤ 8), (by decide +kernel : (3 : Nat) ≤ z_pg.2.1 38)⟩ hRm ?_ ⟨trivial, ⟨(Or.inl (by decide)), (z_sm0C 0 (by decide) rfl rfl), trivial, trivial, (Or.inl (by decide)), trivial, trivial, trivial⟩⟩ ?_
    · rw [← em]
      refine z_Ln.blk (pc' := 2) (lv' := [(3, .int 0), (0, .ref 110), (1, .ref 62), (2, .int (nI p))]) (st' := []) (H' := hC A E N V W ++ g) (C := []) 0 2 rfl trivial ?_
      exact s38_11_0 hRm (by omega) (by omega) (z_inA (p := p) (j := 0) (by omega))
    · cases hm : z_mt 15 b p l with
      | true =>
        refine z_Ln.blk (pc' := (if decide ((z_B1 true) = 0) = true then 54 else 51)) (lv' := [(6, .ref 15), (0, .ref 110), (1, .int (nI p)), (2, .int (nI (p + l))), (3, .ref 37), (4, .int 37), (5, .int 15)]) (st' := []) (H' := hC A E N V W ++ g) (C := []) 26 1 rfl trivial (z_Ln.brF (decide_eq_false (z_B1_t rfl)) ?_)
        refine z_Ln.blk (pc' := 53) (lv' := [(6, .ref 15), (0, .ref 110), (1, .int (nI p)), (2, .int (nI (p + l))), (3, .ref 37), (4, .int 37), (5, .int 15)]) (st' := [.ref 15]) (H' := hC A E N V W ++ g) (C := []) 27 1 rfl trivial ?_
        rw [if_pos rfl]
        exact z_Ln.ret rfl rfl
      | false =>
        have nx := nxt hm
        rw [hm] at nx
        refine z_Ln.blk (pc' := (if decide ((z_B1 false) = 0) = true then 54 else 51)) (lv' := [(6, .ref 15), (0, .ref 110), (1, .int (nI p)), (2, .int (nI (p + l))), (3, .ref 37), (4, .int 37), (5, .int 15)]) (st' := []) (H' := hC A E N V W ++ g) (C := []) 26 1 rfl trivial (z_Ln.brT (decide_eq_true (z_B1_f rfl)) ?_)
        exact nx
  · have hm : z_mt 15 b p l = false := by
      unfold z_mt
      rw [decide_eq_false (show ¬ (z_wls.getD 15 []).length = l from fun q => hlk q.symm)]
      rfl
    refine z_Ln.blk (pc' := (if decide (¬ 1 = ((nI (p + l)) - (nI p))) = true then 54 else 38)) (lv' := [(6, .ref 15), (0, .ref 110), (1, .int (nI p)), (2, .int (nI (p + l))), (3, .ref 37), (4, .int 37), (5, .int 15)]) (st' := []) (H' := hC A E N V W ++ g) (C := []) 17 4 rfl trivial (z_Ln.brT (decide_eq_true (by rw [es]; exact fun q => hlk ((nI_eq (a := 1) (b := l) (by decide) (by omega)).mp q).symm)) ?_)
    exact nxt hm
set_option maxRecDepth 10000 in
theorem sp_14 {L : Nat} {xs : Nat → Int32} {fv : Value} {f w : Nat} {c : Nat × Nat} {A : Nat → List (Nat × Int32)} {E : List (Nat × Option Nat)} {N : Nat → Nat} {V : Nat → Nat → Int32} {W : Nat} {g : List z_E} {b : Nat → Nat} {n p l d : Nat} (hT : z_Tx (A 4) b n) (hl : 1 ≤ l) (hp : p + l ≤ n) (hRm : z_Rm (hC A E N V W ++ g, c)) (hf : 5 ≤ f) (hw : 500 ≤ w) (hd : z_Ln L xs fv f w 35 60 [(0, .ref 110), (1, .int (nI p)), (2, .int (nI (p + l)))] [] (hC A E N V W ++ g, c) (.inl (some (.ref d))) (hC A E N V W ++ g, c)) : z_Ln L xs fv f w 35 11 [(0, .ref 110), (1, .int (nI p)), (2, .int (nI (p + l))), (3, .ref 37), (4, .int 37), (5, .int 14)] [] (hC A E N V W ++ g, c) (.inl (some (.ref (z_rs b p l d 23)))) (hC A E N V W ++ g, c) := by
  have hR0 : ((c.1 ≤ 601024 ∧ c.2 ≤ 7293034) ∧ 1 ≤ f ∧ 60 ≤ w) := ⟨hRm, by omega, by omega⟩
  have m36 : z_pg.2.1 36 = 1 := rfl
  have m38 : z_pg.2.1 38 = 4 := rfl
  have hn : n ≤ 1500 := hT.1
  have e : z_rs b p l d 23 = (if z_mt 14 b p l = true then 14 else z_rs b p l d 22) := rfl
  rw [e]
  refine z_Ln.blk (pc' := (if decide (37 ≤ 14) = true then 60 else 18)) (lv' := [(0, .ref 110), (1, .int (nI p)), (2, .int (nI (p + l))), (3, .ref 37), (4, .int 37), (5, .int 14)]) (st' := []) (H' := hC A E N V W ++ g) (C := []) 7 3 rfl trivial (z_Ln.brF (decide_eq_false (by decide)) ?_)
  refine z_Ln.blk (pc' := 29) (lv' := [(6, .ref 14), (0, .ref 110), (1, .int (nI p)), (2, .int (nI (p + l))), (3, .ref 37), (4, .int 37), (5, .int 14)]) (st' := [.ref 60]) (H' := hC A E N V W ++ g) (C := [((c.1 ≤ 601024 ∧ c.2 ≤ 7293034) ∧ 1 ≤ f ∧ 60 ≤ w), z_in 14 37 = true, ((c.1 ≤ 601024 ∧ c.2 ≤ 7293034) ∧ 1 ≤ f ∧ 60 ≤ w)]) 10 6 rfl ⟨hR0, (by decide : z_in 14 37 = true), hR0⟩ ?_
  refine z_Ln.call (s := 0) (mj := 36) (as := [.ref 60]) (rr := []) (v := some (.int 1)) (T1 := (hC A E N V W ++ g, c)) rfl rfl ⟨⟨by omega, by omega⟩, (by decide : (0 : Nat) ≤ 8), (by decide +kernel : (1 : Nat) ≤ z_pg.2.1 36)⟩ hRm (s36_10 hRm (by omega) (by omega)) ⟨trivial, ⟨(Or.inl (by decide)), (z_sm0C 0 (by decide) rfl rfl), trivial, trivial, (Or.inl (by decide)), trivial, trivial, trivial⟩⟩ ?_
  have es : nI (p + l) - nI p = nI l := by rw [pk_sub (by omega), show p + l - p = l by omega]
  have nxt : z_mt 14 b p l = false → z_Ln L xs fv f w 35 54 [(6, .ref 14), (0, .ref 110), (1, .int (nI p)), (2, .int (nI (p + l))), (3, .ref 37), (4, .int 37), (5, .int 14)] [] (hC A E N V W ++ g, c) (.inl (some (.ref (if z_mt 14 b p l = true then 14 else z_rs b p l d 22)))) (hC A E N V W ++ g, c) := by
    intro hm
    rw [hm, if_neg (by decide)]
    refine z_Ln.blk (pc' := 11) (lv' := [(5, .int 15), (6, .ref 14), (0, .ref 110), (1, .int (nI p)), (2, .int (nI (p + l))), (3, .ref 37), (4, .int 37)]) (st' := []) (H' := hC A E N V W ++ g) (C := []) 29 2 rfl trivial ?_
    exact z_Ln.lv (z_le.cons rfl rfl (z_le.cons rfl rfl (z_le.cons rfl rfl (z_le.cons rfl rfl (z_le.cons rfl rfl (z_le.cons rfl rfl z_le.nil)))))) (sp_15 hT hl hp hRm hf hw hd)
  by_cases hlk : l = 1
  · refine z_Ln.blk (pc' := (if decide (¬ 1 = ((nI (p + l)) - (nI p))) = true then 54 else 38)) (lv' := [(6, .ref 14), (0, .ref 110), (1, .int (nI p)), (2, .int (nI (p + l))), (3, .ref 37), (4, .int 37), (5, .int 14)]) (st' := []) (H' := hC A E N V W ++ g) (C := []) 17 4 rfl trivial (z_Ln.brF (decide_eq_false (by rw [es, hlk]; exact not_not_intro rfl)) ?_)
    refine z_Ln.blk (pc' := 45) (lv' := [(6, .ref 14), (0, .ref 110), (1, .int (nI p)), (2, .int (nI (p + l))), (3, .ref 37), (4, .int 37), (5, .int 14)]) (st' := [.int (nI p), .ref 60, .ref 110]) (H' := hC A E N V W ++ g) (C := [((c.1 ≤ 601024 ∧ c.2 ≤ 7293034) ∧ 1 ≤ f ∧ 60 ≤ w)]) 21 4 rfl hR0 ?_
    have em : (decide (z_fn 0 (A 4) (nI p + 0).toNatClampNeg = 43)) = z_mt 14 b p l := by
      have c0 : decide (z_fn 0 (A 4) (nI p + 0).toNatClampNeg = 43) = decide (b (p + 0) = 43) := z_chq (j := 0) (ch := 43) hT (by omega) (by decide)
      rw [c0]
      rw [hlk]
      show _ = (decide (1 = 1) && (decide (b (p + 0) = 43) && true))
      simp [Bool.and_assoc]
    refine z_Ln.call (s := 0) (mj := 38) (as := [.ref 110, .ref 60, .int (nI p)]) (rr := []) (v := some (.int (z_B1 (z_mt 14 b p l)))) (T1 := (hC A E N V W ++ g, c)) rfl rfl ⟨⟨by omega, by omega⟩, (by decide : (0 : Nat) ≤ 8), (by decide +kernel : (3 : Nat) ≤ z_pg.2.1 38)⟩ hRm ?_ ⟨trivial, ⟨(Or.inl (by decide)), (z_sm0C 0 (by decide) rfl rfl), trivial, trivial, (Or.inl (by decide)), trivial, trivial, trivial⟩⟩ ?_
    · rw [← em]
      refine z_Ln.blk (pc' := 2) (lv' := [(3, .int 0), (0, .ref 110), (1, .ref 60), (2, .int (nI p))]) (st' := []) (H' := hC A E N V W ++ g) (C := []) 0 2 rfl trivial ?_
      exact s38_10_0 hRm (by omega) (by omega) (z_inA (p := p) (j := 0) (by omega))
    · cases hm : z_mt 14 b p l with
      | true =>
        refine z_Ln.blk (pc' := (if decide ((z_B1 true) = 0) = true then 54 else 51)) (lv' := [(6, .ref 14), (0, .ref 110), (1, .int (nI p)), (2, .int (nI (p + l))), (3, .ref 37), (4, .int 37), (5, .int 14)]) (st' := []) (H' := hC A E N V W ++ g) (C := []) 26 1 rfl trivial (z_Ln.brF (decide_eq_false (z_B1_t rfl)) ?_)
        refine z_Ln.blk (pc' := 53) (lv' := [(6, .ref 14), (0, .ref 110), (1, .int (nI p)), (2, .int (nI (p + l))), (3, .ref 37), (4, .int 37), (5, .int 14)]) (st' := [.ref 14]) (H' := hC A E N V W ++ g) (C := []) 27 1 rfl trivial ?_
        rw [if_pos rfl]
        exact z_Ln.ret rfl rfl
      | false =>
        have nx := nxt hm
        rw [hm] at nx
        refine z_Ln.blk (pc' := (if decide ((z_B1 false) = 0) = true then 54 else 51)) (lv' := [(6, .ref 14), (0, .ref 110), (1, .int (nI p)), (2, .int (nI (p + l))), (3, .ref 37), (4, .int 37), (5, .int 14)]) (st' := []) (H' := hC A E N V W ++ g) (C := []) 26 1 rfl trivial (z_Ln.brT (decide_eq_true (z_B1_f rfl)) ?_)
        exact nx
  · have hm : z_mt 14 b p l = false := by
      unfold z_mt
      rw [decide_eq_false (show ¬ (z_wls.getD 14 []).length = l from fun q => hlk q.symm)]
      rfl
    refine z_Ln.blk (pc' := (if decide (¬ 1 = ((nI (p + l)) - (nI p))) = true then 54 else 38)) (lv' := [(6, .ref 14), (0, .ref 110), (1, .int (nI p)), (2, .int (nI (p + l))), (3, .ref 37), (4, .int 37), (5, .int 14)]) (st' := []) (H' := hC A E N V W ++ g) (C := []) 17 4 rfl trivial (z_Ln.brT (decide_eq_true (by rw [es]; exact fun q => hlk ((nI_eq (a := 1) (b := l) (by decide) (by omega)).mp q).symm)) ?_)
    exact nxt hm
set_option maxRecDepth 10000 in
theorem sp_13 {L : Nat} {xs : Nat → Int32} {fv : Value} {f w : Nat} {c : Nat × Nat} {A : Nat → List (Nat × Int32)} {E : List (Nat × Option Nat)} {N : Nat → Nat} {V : Nat → Nat → Int32} {W : Nat} {g : List z_E} {b : Nat → Nat} {n p l d : Nat} (hT : z_Tx (A 4) b n) (hl : 1 ≤ l) (hp : p + l ≤ n) (hRm : z_Rm (hC A E N V W ++ g, c)) (hf : 5 ≤ f) (hw : 500 ≤ w) (hd : z_Ln L xs fv f w 35 60 [(0, .ref 110), (1, .int (nI p)), (2, .int (nI (p + l)))] [] (hC A E N V W ++ g, c) (.inl (some (.ref d))) (hC A E N V W ++ g, c)) : z_Ln L xs fv f w 35 11 [(0, .ref 110), (1, .int (nI p)), (2, .int (nI (p + l))), (3, .ref 37), (4, .int 37), (5, .int 13)] [] (hC A E N V W ++ g, c) (.inl (some (.ref (z_rs b p l d 24)))) (hC A E N V W ++ g, c) := by
  have hR0 : ((c.1 ≤ 601024 ∧ c.2 ≤ 7293034) ∧ 1 ≤ f ∧ 60 ≤ w) := ⟨hRm, by omega, by omega⟩
  have m36 : z_pg.2.1 36 = 1 := rfl
  have m38 : z_pg.2.1 38 = 4 := rfl
  have hn : n ≤ 1500 := hT.1
  have e : z_rs b p l d 24 = (if z_mt 13 b p l = true then 13 else z_rs b p l d 23) := rfl
  rw [e]
  refine z_Ln.blk (pc' := (if decide (37 ≤ 13) = true then 60 else 18)) (lv' := [(0, .ref 110), (1, .int (nI p)), (2, .int (nI (p + l))), (3, .ref 37), (4, .int 37), (5, .int 13)]) (st' := []) (H' := hC A E N V W ++ g) (C := []) 7 3 rfl trivial (z_Ln.brF (decide_eq_false (by decide)) ?_)
  refine z_Ln.blk (pc' := 29) (lv' := [(6, .ref 13), (0, .ref 110), (1, .int (nI p)), (2, .int (nI (p + l))), (3, .ref 37), (4, .int 37), (5, .int 13)]) (st' := [.ref 58]) (H' := hC A E N V W ++ g) (C := [((c.1 ≤ 601024 ∧ c.2 ≤ 7293034) ∧ 1 ≤ f ∧ 60 ≤ w), z_in 13 37 = true, ((c.1 ≤ 601024 ∧ c.2 ≤ 7293034) ∧ 1 ≤ f ∧ 60 ≤ w)]) 10 6 rfl ⟨hR0, (by decide : z_in 13 37 = true), hR0⟩ ?_
  refine z_Ln.call (s := 0) (mj := 36) (as := [.ref 58]) (rr := []) (v := some (.int 1)) (T1 := (hC A E N V W ++ g, c)) rfl rfl ⟨⟨by omega, by omega⟩, (by decide : (0 : Nat) ≤ 8), (by decide +kernel : (1 : Nat) ≤ z_pg.2.1 36)⟩ hRm (s36_9 hRm (by omega) (by omega)) ⟨trivial, ⟨(Or.inl (by decide)), (z_sm0C 0 (by decide) rfl rfl), trivial, trivial, (Or.inl (by decide)), trivial, trivial, trivial⟩⟩ ?_
  have es : nI (p + l) - nI p = nI l := by rw [pk_sub (by omega), show p + l - p = l by omega]
  have nxt : z_mt 13 b p l = false → z_Ln L xs fv f w 35 54 [(6, .ref 13), (0, .ref 110), (1, .int (nI p)), (2, .int (nI (p + l))), (3, .ref 37), (4, .int 37), (5, .int 13)] [] (hC A E N V W ++ g, c) (.inl (some (.ref (if z_mt 13 b p l = true then 13 else z_rs b p l d 23)))) (hC A E N V W ++ g, c) := by
    intro hm
    rw [hm, if_neg (by decide)]
    refine z_Ln.blk (pc' := 11) (lv' := [(5, .int 14), (6, .ref 13), (0, .ref 110), (1, .int (nI p)), (2, .int (nI (p + l))), (3, .ref 37), (4, .int 37)]) (st' := []) (H' := hC A E N V W ++ g) (C := []) 29 2 rfl trivial ?_
    exact z_Ln.lv (z_le.cons rfl rfl (z_le.cons rfl rfl (z_le.cons rfl rfl (z_le.cons rfl rfl (z_le.cons rfl rfl (z_le.cons rfl rfl z_le.nil)))))) (sp_14 hT hl hp hRm hf hw hd)
  by_cases hlk : l = 1
  · refine z_Ln.blk (pc' := (if decide (¬ 1 = ((nI (p + l)) - (nI p))) = true then 54 else 38)) (lv' := [(6, .ref 13), (0, .ref 110), (1, .int (nI p)), (2, .int (nI (p + l))), (3, .ref 37), (4, .int 37), (5, .int 13)]) (st' := []) (H' := hC A E N V W ++ g) (C := []) 17 4 rfl trivial (z_Ln.brF (decide_eq_false (by rw [es, hlk]; exact not_not_intro rfl)) ?_)
    refine z_Ln.blk (pc' := 45) (lv' := [(6, .ref 13), (0, .ref 110), (1, .int (nI p)), (2, .int (nI (p + l))), (3, .ref 37), (4, .int 37), (5, .int 13)]) (st' := [.int (nI p), .ref 58, .ref 110]) (H' := hC A E N V W ++ g) (C := [((c.1 ≤ 601024 ∧ c.2 ≤ 7293034) ∧ 1 ≤ f ∧ 60 ≤ w)]) 21 4 rfl hR0 ?_
    have em : (decide (z_fn 0 (A 4) (nI p + 0).toNatClampNeg = 60)) = z_mt 13 b p l := by
      have c0 : decide (z_fn 0 (A 4) (nI p + 0).toNatClampNeg = 60) = decide (b (p + 0) = 60) := z_chq (j := 0) (ch := 60) hT (by omega) (by decide)
      rw [c0]
      rw [hlk]
      show _ = (decide (1 = 1) && (decide (b (p + 0) = 60) && true))
      simp [Bool.and_assoc]
    refine z_Ln.call (s := 0) (mj := 38) (as := [.ref 110, .ref 58, .int (nI p)]) (rr := []) (v := some (.int (z_B1 (z_mt 13 b p l)))) (T1 := (hC A E N V W ++ g, c)) rfl rfl ⟨⟨by omega, by omega⟩, (by decide : (0 : Nat) ≤ 8), (by decide +kernel : (3 : Nat) ≤ z_pg.2.1 38)⟩ hRm ?_ ⟨trivial, ⟨(Or.inl (by decide)), (z_sm0C 0 (by decide) rfl rfl), trivial, trivial, (Or.inl (by decide)), trivial, trivial, trivial⟩⟩ ?_
    · rw [← em]
      refine z_Ln.blk (pc' := 2) (lv' := [(3, .int 0), (0, .ref 110), (1, .ref 58), (2, .int (nI p))]) (st' := []) (H' := hC A E N V W ++ g) (C := []) 0 2 rfl trivial ?_
      exact s38_9_0 hRm (by omega) (by omega) (z_inA (p := p) (j := 0) (by omega))
    · cases hm : z_mt 13 b p l with
      | true =>
        refine z_Ln.blk (pc' := (if decide ((z_B1 true) = 0) = true then 54 else 51)) (lv' := [(6, .ref 13), (0, .ref 110), (1, .int (nI p)), (2, .int (nI (p + l))), (3, .ref 37), (4, .int 37), (5, .int 13)]) (st' := []) (H' := hC A E N V W ++ g) (C := []) 26 1 rfl trivial (z_Ln.brF (decide_eq_false (z_B1_t rfl)) ?_)
        refine z_Ln.blk (pc' := 53) (lv' := [(6, .ref 13), (0, .ref 110), (1, .int (nI p)), (2, .int (nI (p + l))), (3, .ref 37), (4, .int 37), (5, .int 13)]) (st' := [.ref 13]) (H' := hC A E N V W ++ g) (C := []) 27 1 rfl trivial ?_
        rw [if_pos rfl]
        exact z_Ln.ret rfl rfl
      | false =>
        have nx := nxt hm
        rw [hm] at nx
        refine z_Ln.blk (pc' := (if decide ((z_B1 false) = 0) = true then 54 else 51)) (lv' := [(6, .ref 13), (0, .ref 110), (1, .int (nI p)), (2, .int (nI (p + l))), (3, .ref 37), (4, .int 37), (5, .int 13)]) (st' := []) (H' := hC A E N V W ++ g) (C := []) 26 1 rfl trivial (z_Ln.brT (decide_eq_true (z_B1_f rfl)) ?_)
        exact nx
  · have hm : z_mt 13 b p l = false := by
      unfold z_mt
      rw [decide_eq_false (show ¬ (z_wls.getD 13 []).length = l from fun q => hlk q.symm)]
      rfl
    refine z_Ln.blk (pc' := (if decide (¬ 1 = ((nI (p + l)) - (nI p))) = true then 54 else 38)) (lv' := [(6, .ref 13), (0, .ref 110), (1, .int (nI p)), (2, .int (nI (p + l))), (3, .ref 37), (4, .int 37), (5, .int 13)]) (st' := []) (H' := hC A E N V W ++ g) (C := []) 17 4 rfl trivial (z_Ln.brT (decide_eq_true (by rw [es]; exact fun q => hlk ((nI_eq (a := 1) (b := l) (by decide) (by omega)).mp q).symm)) ?_)
    exact nxt hm
set_option maxRecDepth 10000 in
theorem sp_12 {L : Nat} {xs : Nat → Int32} {fv : Value} {f w : Nat} {c : Nat × Nat} {A : Nat → List (Nat × Int32)} {E : List (Nat × Option Nat)} {N : Nat → Nat} {V : Nat → Nat → Int32} {W : Nat} {g : List z_E} {b : Nat → Nat} {n p l d : Nat} (hT : z_Tx (A 4) b n) (hl : 1 ≤ l) (hp : p + l ≤ n) (hRm : z_Rm (hC A E N V W ++ g, c)) (hf : 5 ≤ f) (hw : 500 ≤ w) (hd : z_Ln L xs fv f w 35 60 [(0, .ref 110), (1, .int (nI p)), (2, .int (nI (p + l)))] [] (hC A E N V W ++ g, c) (.inl (some (.ref d))) (hC A E N V W ++ g, c)) : z_Ln L xs fv f w 35 11 [(0, .ref 110), (1, .int (nI p)), (2, .int (nI (p + l))), (3, .ref 37), (4, .int 37), (5, .int 12)] [] (hC A E N V W ++ g, c) (.inl (some (.ref (z_rs b p l d 25)))) (hC A E N V W ++ g, c) := by
  have hR0 : ((c.1 ≤ 601024 ∧ c.2 ≤ 7293034) ∧ 1 ≤ f ∧ 60 ≤ w) := ⟨hRm, by omega, by omega⟩
  have m36 : z_pg.2.1 36 = 1 := rfl
  have m38 : z_pg.2.1 38 = 4 := rfl
  have hn : n ≤ 1500 := hT.1
  have e : z_rs b p l d 25 = (if z_mt 12 b p l = true then 12 else z_rs b p l d 24) := rfl
  rw [e]
  refine z_Ln.blk (pc' := (if decide (37 ≤ 12) = true then 60 else 18)) (lv' := [(0, .ref 110), (1, .int (nI p)), (2, .int (nI (p + l))), (3, .ref 37), (4, .int 37), (5, .int 12)]) (st' := []) (H' := hC A E N V W ++ g) (C := []) 7 3 rfl trivial (z_Ln.brF (decide_eq_false (by decide)) ?_)
  refine z_Ln.blk (pc' := 29) (lv' := [(6, .ref 12), (0, .ref 110), (1, .int (nI p)), (2, .int (nI (p + l))), (3, .ref 37), (4, .int 37), (5, .int 12)]) (st' := [.ref 56]) (H' := hC A E N V W ++ g) (C := [((c.1 ≤ 601024 ∧ c.2 ≤ 7293034) ∧ 1 ≤ f ∧ 60 ≤ w), z_in 12 37 = true, ((c.1 ≤ 601024 ∧ c.2 ≤ 7293034) ∧ 1 ≤ f ∧ 60 ≤ w)]) 10 6 rfl ⟨hR0, (by decide : z_in 12 37 = true), hR0⟩ ?_
  refine z_Ln.call (s := 0) (mj := 36) (as := [.ref 56]) (rr := []) (v := some (.int 1)) (T1 := (hC A E N V W ++ g, c)) rfl rfl ⟨⟨by omega, by omega⟩, (by decide : (0 : Nat) ≤ 8), (by decide +kernel : (1 : Nat) ≤ z_pg.2.1 36)⟩ hRm (s36_8 hRm (by omega) (by omega)) ⟨trivial, ⟨(Or.inl (by decide)), (z_sm0C 0 (by decide) rfl rfl), trivial, trivial, (Or.inl (by decide)), trivial, trivial, trivial⟩⟩ ?_
  have es : nI (p + l) - nI p = nI l := by rw [pk_sub (by omega), show p + l - p = l by omega]
  have nxt : z_mt 12 b p l = false → z_Ln L xs fv f w 35 54 [(6, .ref 12), (0, .ref 110), (1, .int (nI p)), (2, .int (nI (p + l))), (3, .ref 37), (4, .int 37), (5, .int 12)] [] (hC A E N V W ++ g, c) (.inl (some (.ref (if z_mt 12 b p l = true then 12 else z_rs b p l d 24)))) (hC A E N V W ++ g, c) := by
    intro hm
    rw [hm, if_neg (by decide)]
    refine z_Ln.blk (pc' := 11) (lv' := [(5, .int 13), (6, .ref 12), (0, .ref 110), (1, .int (nI p)), (2, .int (nI (p + l))), (3, .ref 37), (4, .int 37)]) (st' := []) (H' := hC A E N V W ++ g) (C := []) 29 2 rfl trivial ?_
    exact z_Ln.lv (z_le.cons rfl rfl (z_le.cons rfl rfl (z_le.cons rfl rfl (z_le.cons rfl rfl (z_le.cons rfl rfl (z_le.cons rfl rfl z_le.nil)))))) (sp_13 hT hl hp hRm hf hw hd)
  by_cases hlk : l = 1
  · refine z_Ln.blk (pc' := (if decide (¬ 1 = ((nI (p + l)) - (nI p))) = true then 54 else 38)) (lv' := [(6, .ref 12), (0, .ref 110), (1, .int (nI p)), (2, .int (nI (p + l))), (3, .ref 37), (4, .int 37), (5, .int 12)]) (st' := []) (H' := hC A E N V W ++ g) (C := []) 17 4 rfl trivial (z_Ln.brF (decide_eq_false (by rw [es, hlk]; exact not_not_intro rfl)) ?_)
    refine z_Ln.blk (pc' := 45) (lv' := [(6, .ref 12), (0, .ref 110), (1, .int (nI p)), (2, .int (nI (p + l))), (3, .ref 37), (4, .int 37), (5, .int 12)]) (st' := [.int (nI p), .ref 56, .ref 110]) (H' := hC A E N V W ++ g) (C := [((c.1 ≤ 601024 ∧ c.2 ≤ 7293034) ∧ 1 ≤ f ∧ 60 ≤ w)]) 21 4 rfl hR0 ?_
    have em : (decide (z_fn 0 (A 4) (nI p + 0).toNatClampNeg = 61)) = z_mt 12 b p l := by
      have c0 : decide (z_fn 0 (A 4) (nI p + 0).toNatClampNeg = 61) = decide (b (p + 0) = 61) := z_chq (j := 0) (ch := 61) hT (by omega) (by decide)
      rw [c0]
      rw [hlk]
      show _ = (decide (1 = 1) && (decide (b (p + 0) = 61) && true))
      simp [Bool.and_assoc]
    refine z_Ln.call (s := 0) (mj := 38) (as := [.ref 110, .ref 56, .int (nI p)]) (rr := []) (v := some (.int (z_B1 (z_mt 12 b p l)))) (T1 := (hC A E N V W ++ g, c)) rfl rfl ⟨⟨by omega, by omega⟩, (by decide : (0 : Nat) ≤ 8), (by decide +kernel : (3 : Nat) ≤ z_pg.2.1 38)⟩ hRm ?_ ⟨trivial, ⟨(Or.inl (by decide)), (z_sm0C 0 (by decide) rfl rfl), trivial, trivial, (Or.inl (by decide)), trivial, trivial, trivial⟩⟩ ?_
    · rw [← em]
      refine z_Ln.blk (pc' := 2) (lv' := [(3, .int 0), (0, .ref 110), (1, .ref 56), (2, .int (nI p))]) (st' := []) (H' := hC A E N V W ++ g) (C := []) 0 2 rfl trivial ?_
      exact s38_8_0 hRm (by omega) (by omega) (z_inA (p := p) (j := 0) (by omega))
    · cases hm : z_mt 12 b p l with
      | true =>
        refine z_Ln.blk (pc' := (if decide ((z_B1 true) = 0) = true then 54 else 51)) (lv' := [(6, .ref 12), (0, .ref 110), (1, .int (nI p)), (2, .int (nI (p + l))), (3, .ref 37), (4, .int 37), (5, .int 12)]) (st' := []) (H' := hC A E N V W ++ g) (C := []) 26 1 rfl trivial (z_Ln.brF (decide_eq_false (z_B1_t rfl)) ?_)
        refine z_Ln.blk (pc' := 53) (lv' := [(6, .ref 12), (0, .ref 110), (1, .int (nI p)), (2, .int (nI (p + l))), (3, .ref 37), (4, .int 37), (5, .int 12)]) (st' := [.ref 12]) (H' := hC A E N V W ++ g) (C := []) 27 1 rfl trivial ?_
        rw [if_pos rfl]
        exact z_Ln.ret rfl rfl
      | false =>
        have nx := nxt hm
        rw [hm] at nx
        refine z_Ln.blk (pc' := (if decide ((z_B1 false) = 0) = true then 54 else 51)) (lv' := [(6, .ref 12), (0, .ref 110), (1, .int (nI p)), (2, .int (nI (p + l))), (3, .ref 37), (4, .int 37), (5, .int 12)]) (st' := []) (H' := hC A E N V W ++ g) (C := []) 26 1 rfl trivial (z_Ln.brT (decide_eq_true (z_B1_f rfl)) ?_)
        exact nx
  · have hm : z_mt 12 b p l = false := by
      unfold z_mt
      rw [decide_eq_false (show ¬ (z_wls.getD 12 []).length = l from fun q => hlk q.symm)]
      rfl
    refine z_Ln.blk (pc' := (if decide (¬ 1 = ((nI (p + l)) - (nI p))) = true then 54 else 38)) (lv' := [(6, .ref 12), (0, .ref 110), (1, .int (nI p)), (2, .int (nI (p + l))), (3, .ref 37), (4, .int 37), (5, .int 12)]) (st' := []) (H' := hC A E N V W ++ g) (C := []) 17 4 rfl trivial (z_Ln.brT (decide_eq_true (by rw [es]; exact fun q => hlk ((nI_eq (a := 1) (b := l) (by decide) (by omega)).mp q).symm)) ?_)
    exact nxt hm
set_option maxRecDepth 10000 in
theorem sp_11 {L : Nat} {xs : Nat → Int32} {fv : Value} {f w : Nat} {c : Nat × Nat} {A : Nat → List (Nat × Int32)} {E : List (Nat × Option Nat)} {N : Nat → Nat} {V : Nat → Nat → Int32} {W : Nat} {g : List z_E} {b : Nat → Nat} {n p l d : Nat} (hT : z_Tx (A 4) b n) (hl : 1 ≤ l) (hp : p + l ≤ n) (hRm : z_Rm (hC A E N V W ++ g, c)) (hf : 5 ≤ f) (hw : 500 ≤ w) (hd : z_Ln L xs fv f w 35 60 [(0, .ref 110), (1, .int (nI p)), (2, .int (nI (p + l)))] [] (hC A E N V W ++ g, c) (.inl (some (.ref d))) (hC A E N V W ++ g, c)) : z_Ln L xs fv f w 35 11 [(0, .ref 110), (1, .int (nI p)), (2, .int (nI (p + l))), (3, .ref 37), (4, .int 37), (5, .int 11)] [] (hC A E N V W ++ g, c) (.inl (some (.ref (z_rs b p l d 26)))) (hC A E N V W ++ g, c) := by
  have hR0 : ((c.1 ≤ 601024 ∧ c.2 ≤ 7293034) ∧ 1 ≤ f ∧ 60 ≤ w) := ⟨hRm, by omega, by omega⟩
  have m36 : z_pg.2.1 36 = 1 := rfl
  have m38 : z_pg.2.1 38 = 4 := rfl
  have hn : n ≤ 1500 := hT.1
  have e : z_rs b p l d 26 = (if z_mt 11 b p l = true then 11 else z_rs b p l d 25) := rfl
  rw [e]
  refine z_Ln.blk (pc' := (if decide (37 ≤ 11) = true then 60 else 18)) (lv' := [(0, .ref 110), (1, .int (nI p)), (2, .int (nI (p + l))), (3, .ref 37), (4, .int 37), (5, .int 11)]) (st' := []) (H' := hC A E N V W ++ g) (C := []) 7 3 rfl trivial (z_Ln.brF (decide_eq_false (by decide)) ?_)
  refine z_Ln.blk (pc' := 29) (lv' := [(6, .ref 11), (0, .ref 110), (1, .int (nI p)), (2, .int (nI (p + l))), (3, .ref 37), (4, .int 37), (5, .int 11)]) (st' := [.ref 54]) (H' := hC A E N V W ++ g) (C := [((c.1 ≤ 601024 ∧ c.2 ≤ 7293034) ∧ 1 ≤ f ∧ 60 ≤ w), z_in 11 37 = true, ((c.1 ≤ 601024 ∧ c.2 ≤ 7293034) ∧ 1 ≤ f ∧ 60 ≤ w)]) 10 6 rfl ⟨hR0, (by decide : z_in 11 37 = true), hR0⟩ ?_
  refine z_Ln.call (s := 0) (mj := 36) (as := [.ref 54]) (rr := []) (v := some (.int 1)) (T1 := (hC A E N V W ++ g, c)) rfl rfl ⟨⟨by omega, by omega⟩, (by decide : (0 : Nat) ≤ 8), (by decide +kernel : (1 : Nat) ≤ z_pg.2.1 36)⟩ hRm (s36_7 hRm (by omega) (by omega)) ⟨trivial, ⟨(Or.inl (by decide)), (z_sm0C 0 (by decide) rfl rfl), trivial, trivial, (Or.inl (by decide)), trivial, trivial, trivial⟩⟩ ?_
  have es : nI (p + l) - nI p = nI l := by rw [pk_sub (by omega), show p + l - p = l by omega]
  have nxt : z_mt 11 b p l = false → z_Ln L xs fv f w 35 54 [(6, .ref 11), (0, .ref 110), (1, .int (nI p)), (2, .int (nI (p + l))), (3, .ref 37), (4, .int 37), (5, .int 11)] [] (hC A E N V W ++ g, c) (.inl (some (.ref (if z_mt 11 b p l = true then 11 else z_rs b p l d 25)))) (hC A E N V W ++ g, c) := by
    intro hm
    rw [hm, if_neg (by decide)]
    refine z_Ln.blk (pc' := 11) (lv' := [(5, .int 12), (6, .ref 11), (0, .ref 110), (1, .int (nI p)), (2, .int (nI (p + l))), (3, .ref 37), (4, .int 37)]) (st' := []) (H' := hC A E N V W ++ g) (C := []) 29 2 rfl trivial ?_
    exact z_Ln.lv (z_le.cons rfl rfl (z_le.cons rfl rfl (z_le.cons rfl rfl (z_le.cons rfl rfl (z_le.cons rfl rfl (z_le.cons rfl rfl z_le.nil)))))) (sp_12 hT hl hp hRm hf hw hd)
  by_cases hlk : l = 1
  · refine z_Ln.blk (pc' := (if decide (¬ 1 = ((nI (p + l)) - (nI p))) = true then 54 else 38)) (lv' := [(6, .ref 11), (0, .ref 110), (1, .int (nI p)), (2, .int (nI (p + l))), (3, .ref 37), (4, .int 37), (5, .int 11)]) (st' := []) (H' := hC A E N V W ++ g) (C := []) 17 4 rfl trivial (z_Ln.brF (decide_eq_false (by rw [es, hlk]; exact not_not_intro rfl)) ?_)
    refine z_Ln.blk (pc' := 45) (lv' := [(6, .ref 11), (0, .ref 110), (1, .int (nI p)), (2, .int (nI (p + l))), (3, .ref 37), (4, .int 37), (5, .int 11)]) (st' := [.int (nI p), .ref 54, .ref 110]) (H' := hC A E N V W ++ g) (C := [((c.1 ≤ 601024 ∧ c.2 ≤ 7293034) ∧ 1 ≤ f ∧ 60 ≤ w)]) 21 4 rfl hR0 ?_
    have em : (decide (z_fn 0 (A 4) (nI p + 0).toNatClampNeg = 44)) = z_mt 11 b p l := by
      have c0 : decide (z_fn 0 (A 4) (nI p + 0).toNatClampNeg = 44) = decide (b (p + 0) = 44) := z_chq (j := 0) (ch := 44) hT (by omega) (by decide)
      rw [c0]
      rw [hlk]
      show _ = (decide (1 = 1) && (decide (b (p + 0) = 44) && true))
      simp [Bool.and_assoc]
    refine z_Ln.call (s := 0) (mj := 38) (as := [.ref 110, .ref 54, .int (nI p)]) (rr := []) (v := some (.int (z_B1 (z_mt 11 b p l)))) (T1 := (hC A E N V W ++ g, c)) rfl rfl ⟨⟨by omega, by omega⟩, (by decide : (0 : Nat) ≤ 8), (by decide +kernel : (3 : Nat) ≤ z_pg.2.1 38)⟩ hRm ?_ ⟨trivial, ⟨(Or.inl (by decide)), (z_sm0C 0 (by decide) rfl rfl), trivial, trivial, (Or.inl (by decide)), trivial, trivial, trivial⟩⟩ ?_
    · rw [← em]
      refine z_Ln.blk (pc' := 2) (lv' := [(3, .int 0), (0, .ref 110), (1, .ref 54), (2, .int (nI p))]) (st' := []) (H' := hC A E N V W ++ g) (C := []) 0 2 rfl trivial ?_
      exact s38_7_0 hRm (by omega) (by omega) (z_inA (p := p) (j := 0) (by omega))
    · cases hm : z_mt 11 b p l with
      | true =>
        refine z_Ln.blk (pc' := (if decide ((z_B1 true) = 0) = true then 54 else 51)) (lv' := [(6, .ref 11), (0, .ref 110), (1, .int (nI p)), (2, .int (nI (p + l))), (3, .ref 37), (4, .int 37), (5, .int 11)]) (st' := []) (H' := hC A E N V W ++ g) (C := []) 26 1 rfl trivial (z_Ln.brF (decide_eq_false (z_B1_t rfl)) ?_)
        refine z_Ln.blk (pc' := 53) (lv' := [(6, .ref 11), (0, .ref 110), (1, .int (nI p)), (2, .int (nI (p + l))), (3, .ref 37), (4, .int 37), (5, .int 11)]) (st' := [.ref 11]) (H' := hC A E N V W ++ g) (C := []) 27 1 rfl trivial ?_
        rw [if_pos rfl]
        exact z_Ln.ret rfl rfl
      | false =>
        have nx := nxt hm
        rw [hm] at nx
        refine z_Ln.blk (pc' := (if decide ((z_B1 false) = 0) = true then 54 else 51)) (lv' := [(6, .ref 11), (0, .ref 110), (1, .int (nI p)), (2, .int (nI (p + l))), (3, .ref 37), (4, .int 37), (5, .int 11)]) (st' := []) (H' := hC A E N V W ++ g) (C := []) 26 1 rfl trivial (z_Ln.brT (decide_eq_true (z_B1_f rfl)) ?_)
        exact nx
  · have hm : z_mt 11 b p l = false := by
      unfold z_mt
      rw [decide_eq_false (show ¬ (z_wls.getD 11 []).length = l from fun q => hlk q.symm)]
      rfl
    refine z_Ln.blk (pc' := (if decide (¬ 1 = ((nI (p + l)) - (nI p))) = true then 54 else 38)) (lv' := [(6, .ref 11), (0, .ref 110), (1, .int (nI p)), (2, .int (nI (p + l))), (3, .ref 37), (4, .int 37), (5, .int 11)]) (st' := []) (H' := hC A E N V W ++ g) (C := []) 17 4 rfl trivial (z_Ln.brT (decide_eq_true (by rw [es]; exact fun q => hlk ((nI_eq (a := 1) (b := l) (by decide) (by omega)).mp q).symm)) ?_)
    exact nxt hm
set_option maxRecDepth 10000 in
theorem sp_10 {L : Nat} {xs : Nat → Int32} {fv : Value} {f w : Nat} {c : Nat × Nat} {A : Nat → List (Nat × Int32)} {E : List (Nat × Option Nat)} {N : Nat → Nat} {V : Nat → Nat → Int32} {W : Nat} {g : List z_E} {b : Nat → Nat} {n p l d : Nat} (hT : z_Tx (A 4) b n) (hl : 1 ≤ l) (hp : p + l ≤ n) (hRm : z_Rm (hC A E N V W ++ g, c)) (hf : 5 ≤ f) (hw : 500 ≤ w) (hd : z_Ln L xs fv f w 35 60 [(0, .ref 110), (1, .int (nI p)), (2, .int (nI (p + l)))] [] (hC A E N V W ++ g, c) (.inl (some (.ref d))) (hC A E N V W ++ g, c)) : z_Ln L xs fv f w 35 11 [(0, .ref 110), (1, .int (nI p)), (2, .int (nI (p + l))), (3, .ref 37), (4, .int 37), (5, .int 10)] [] (hC A E N V W ++ g, c) (.inl (some (.ref (z_rs b p l d 27)))) (hC A E N V W ++ g, c) := by
  have hR0 : ((c.1 ≤ 601024 ∧ c.2 ≤ 7293034) ∧ 1 ≤ f ∧ 60 ≤ w) := ⟨hRm, by omega, by omega⟩
  have m36 : z_pg.2.1 36 = 1 := rfl
  have m38 : z_pg.2.1 38 = 4 := rfl
  have hn : n ≤ 1500 := hT.1
  have e : z_rs b p l d 27 = (if z_mt 10 b p l = true then 10 else z_rs b p l d 26) := rfl
  rw [e]
  refine z_Ln.blk (pc' := (if decide (37 ≤ 10) = true then 60 else 18)) (lv' := [(0, .ref 110), (1, .int (nI p)), (2, .int (nI (p + l))), (3, .ref 37), (4, .int 37), (5, .int 10)]) (st' := []) (H' := hC A E N V W ++ g) (C := []) 7 3 rfl trivial (z_Ln.brF (decide_eq_false (by decide)) ?_)
  refine z_Ln.blk (pc' := 29) (lv' := [(6, .ref 10), (0, .ref 110), (1, .int (nI p)), (2, .int (nI (p + l))), (3, .ref 37), (4, .int 37), (5, .int 10)]) (st' := [.ref 52]) (H' := hC A E N V W ++ g) (C := [((c.1 ≤ 601024 ∧ c.2 ≤ 7293034) ∧ 1 ≤ f ∧ 60 ≤ w), z_in 10 37 = true, ((c.1 ≤ 601024 ∧ c.2 ≤ 7293034) ∧ 1 ≤ f ∧ 60 ≤ w)]) 10 6 rfl ⟨hR0, (by decide : z_in 10 37 = true), hR0⟩ ?_
  refine z_Ln.call (s := 0) (mj := 36) (as := [.ref 52]) (rr := []) (v := some (.int 1)) (T1 := (hC A E N V W ++ g, c)) rfl rfl ⟨⟨by omega, by omega⟩, (by decide : (0 : Nat) ≤ 8), (by decide +kernel : (1 : Nat) ≤ z_pg.2.1 36)⟩ hRm (s36_6 hRm (by omega) (by omega)) ⟨trivial, ⟨(Or.inl (by decide)), (z_sm0C 0 (by decide) rfl rfl), trivial, trivial, (Or.inl (by decide)), trivial, trivial, trivial⟩⟩ ?_
  have es : nI (p + l) - nI p = nI l := by rw [pk_sub (by omega), show p + l - p = l by omega]
  have nxt : z_mt 10 b p l = false → z_Ln L xs fv f w 35 54 [(6, .ref 10), (0, .ref 110), (1, .int (nI p)), (2, .int (nI (p + l))), (3, .ref 37), (4, .int 37), (5, .int 10)] [] (hC A E N V W ++ g, c) (.inl (some (.ref (if z_mt 10 b p l = true then 10 else z_rs b p l d 26)))) (hC A E N V W ++ g, c) := by
    intro hm
    rw [hm, if_neg (by decide)]
    refine z_Ln.blk (pc' := 11) (lv' := [(5, .int 11), (6, .ref 10), (0, .ref 110), (1, .int (nI p)), (2, .int (nI (p + l))), (3, .ref 37), (4, .int 37)]) (st' := []) (H' := hC A E N V W ++ g) (C := []) 29 2 rfl trivial ?_
    exact z_Ln.lv (z_le.cons rfl rfl (z_le.cons rfl rfl (z_le.cons rfl rfl (z_le.cons rfl rfl (z_le.cons rfl rfl (z_le.cons rfl rfl z_le.nil)))))) (sp_11 hT hl hp hRm hf hw hd)
  by_cases hlk : l = 1
  · refine z_Ln.blk (pc' := (if decide (¬ 1 = ((nI (p + l)) - (nI p))) = true then 54 else 38)) (lv' := [(6, .ref 10), (0, .ref 110), (1, .int (nI p)), (2, .int (nI (p + l))), (3, .ref 37), (4, .int 37), (5, .int 10)]) (st' := []) (H' := hC A E N V W ++ g) (C := []) 17 4 rfl trivial (z_Ln.brF (decide_eq_false (by rw [es, hlk]; exact not_not_intro rfl)) ?_)
    refine z_Ln.blk (pc' := 45) (lv' := [(6, .ref 10), (0, .ref 110), (1, .int (nI p)), (2, .int (nI (p + l))), (3, .ref 37), (4, .int 37), (5, .int 10)]) (st' := [.int (nI p), .ref 52, .ref 110]) (H' := hC A E N V W ++ g) (C := [((c.1 ≤ 601024 ∧ c.2 ≤ 7293034) ∧ 1 ≤ f ∧ 60 ≤ w)]) 21 4 rfl hR0 ?_
    have em : (decide (z_fn 0 (A 4) (nI p + 0).toNatClampNeg = 59)) = z_mt 10 b p l := by
      have c0 : decide (z_fn 0 (A 4) (nI p + 0).toNatClampNeg = 59) = decide (b (p + 0) = 59) := z_chq (j := 0) (ch := 59) hT (by omega) (by decide)
      rw [c0]
      rw [hlk]
      show _ = (decide (1 = 1) && (decide (b (p + 0) = 59) && true))
      simp [Bool.and_assoc]
    refine z_Ln.call (s := 0) (mj := 38) (as := [.ref 110, .ref 52, .int (nI p)]) (rr := []) (v := some (.int (z_B1 (z_mt 10 b p l)))) (T1 := (hC A E N V W ++ g, c)) rfl rfl ⟨⟨by omega, by omega⟩, (by decide : (0 : Nat) ≤ 8), (by decide +kernel : (3 : Nat) ≤ z_pg.2.1 38)⟩ hRm ?_ ⟨trivial, ⟨(Or.inl (by decide)), (z_sm0C 0 (by decide) rfl rfl), trivial, trivial, (Or.inl (by decide)), trivial, trivial, trivial⟩⟩ ?_
    · rw [← em]
      refine z_Ln.blk (pc' := 2) (lv' := [(3, .int 0), (0, .ref 110), (1, .ref 52), (2, .int (nI p))]) (st' := []) (H' := hC A E N V W ++ g) (C := []) 0 2 rfl trivial ?_
      exact s38_6_0 hRm (by omega) (by omega) (z_inA (p := p) (j := 0) (by omega))
    · cases hm : z_mt 10 b p l with
      | true =>
        refine z_Ln.blk (pc' := (if decide ((z_B1 true) = 0) = true then 54 else 51)) (lv' := [(6, .ref 10), (0, .ref 110), (1, .int (nI p)), (2, .int (nI (p + l))), (3, .ref 37), (4, .int 37), (5, .int 10)]) (st' := []) (H' := hC A E N V W ++ g) (C := []) 26 1 rfl trivial (z_Ln.brF (decide_eq_false (z_B1_t rfl)) ?_)
        refine z_Ln.blk (pc' := 53) (lv' := [(6, .ref 10), (0, .ref 110), (1, .int (nI p)), (2, .int (nI (p + l))), (3, .ref 37), (4, .int 37), (5, .int 10)]) (st' := [.ref 10]) (H' := hC A E N V W ++ g) (C := []) 27 1 rfl trivial ?_
        rw [if_pos rfl]
        exact z_Ln.ret rfl rfl
      | false =>
        have nx := nxt hm
        rw [hm] at nx
        refine z_Ln.blk (pc' := (if decide ((z_B1 false) = 0) = true then 54 else 51)) (lv' := [(6, .ref 10), (0, .ref 110), (1, .int (nI p)), (2, .int (nI (p + l))), (3, .ref 37), (4, .int 37), (5, .int 10)]) (st' := []) (H' := hC A E N V W ++ g) (C := []) 26 1 rfl trivial (z_Ln.brT (decide_eq_true (z_B1_f rfl)) ?_)
        exact nx
  · have hm : z_mt 10 b p l = false := by
      unfold z_mt
      rw [decide_eq_false (show ¬ (z_wls.getD 10 []).length = l from fun q => hlk q.symm)]
      rfl
    refine z_Ln.blk (pc' := (if decide (¬ 1 = ((nI (p + l)) - (nI p))) = true then 54 else 38)) (lv' := [(6, .ref 10), (0, .ref 110), (1, .int (nI p)), (2, .int (nI (p + l))), (3, .ref 37), (4, .int 37), (5, .int 10)]) (st' := []) (H' := hC A E N V W ++ g) (C := []) 17 4 rfl trivial (z_Ln.brT (decide_eq_true (by rw [es]; exact fun q => hlk ((nI_eq (a := 1) (b := l) (by decide) (by omega)).mp q).symm)) ?_)
    exact nxt hm
set_option maxRecDepth 10000 in
theorem sp_9 {L : Nat} {xs : Nat → Int32} {fv : Value} {f w : Nat} {c : Nat × Nat} {A : Nat → List (Nat × Int32)} {E : List (Nat × Option Nat)} {N : Nat → Nat} {V : Nat → Nat → Int32} {W : Nat} {g : List z_E} {b : Nat → Nat} {n p l d : Nat} (hT : z_Tx (A 4) b n) (hl : 1 ≤ l) (hp : p + l ≤ n) (hRm : z_Rm (hC A E N V W ++ g, c)) (hf : 5 ≤ f) (hw : 500 ≤ w) (hd : z_Ln L xs fv f w 35 60 [(0, .ref 110), (1, .int (nI p)), (2, .int (nI (p + l)))] [] (hC A E N V W ++ g, c) (.inl (some (.ref d))) (hC A E N V W ++ g, c)) : z_Ln L xs fv f w 35 11 [(0, .ref 110), (1, .int (nI p)), (2, .int (nI (p + l))), (3, .ref 37), (4, .int 37), (5, .int 9)] [] (hC A E N V W ++ g, c) (.inl (some (.ref (z_rs b p l d 28)))) (hC A E N V W ++ g, c) := by
  have hR0 : ((c.1 ≤ 601024 ∧ c.2 ≤ 7293034) ∧ 1 ≤ f ∧ 60 ≤ w) := ⟨hRm, by omega, by omega⟩
  have m36 : z_pg.2.1 36 = 1 := rfl
  have m38 : z_pg.2.1 38 = 4 := rfl
  have hn : n ≤ 1500 := hT.1
  have e : z_rs b p l d 28 = (if z_mt 9 b p l = true then 9 else z_rs b p l d 27) := rfl
  rw [e]
  refine z_Ln.blk (pc' := (if decide (37 ≤ 9) = true then 60 else 18)) (lv' := [(0, .ref 110), (1, .int (nI p)), (2, .int (nI (p + l))), (3, .ref 37), (4, .int 37), (5, .int 9)]) (st' := []) (H' := hC A E N V W ++ g) (C := []) 7 3 rfl trivial (z_Ln.brF (decide_eq_false (by decide)) ?_)
  refine z_Ln.blk (pc' := 29) (lv' := [(6, .ref 9), (0, .ref 110), (1, .int (nI p)), (2, .int (nI (p + l))), (3, .ref 37), (4, .int 37), (5, .int 9)]) (st' := [.ref 50]) (H' := hC A E N V W ++ g) (C := [((c.1 ≤ 601024 ∧ c.2 ≤ 7293034) ∧ 1 ≤ f ∧ 60 ≤ w), z_in 9 37 = true, ((c.1 ≤ 601024 ∧ c.2 ≤ 7293034) ∧ 1 ≤ f ∧ 60 ≤ w)]) 10 6 rfl ⟨hR0, (by decide : z_in 9 37 = true), hR0⟩ ?_
  refine z_Ln.call (s := 0) (mj := 36) (as := [.ref 50]) (rr := []) (v := some (.int 1)) (T1 := (hC A E N V W ++ g, c)) rfl rfl ⟨⟨by omega, by omega⟩, (by decide : (0 : Nat) ≤ 8), (by decide +kernel : (1 : Nat) ≤ z_pg.2.1 36)⟩ hRm (s36_5 hRm (by omega) (by omega)) ⟨trivial, ⟨(Or.inl (by decide)), (z_sm0C 0 (by decide) rfl rfl), trivial, trivial, (Or.inl (by decide)), trivial, trivial, trivial⟩⟩ ?_
  have es : nI (p + l) - nI p = nI l := by rw [pk_sub (by omega), show p + l - p = l by omega]
  have nxt : z_mt 9 b p l = false → z_Ln L xs fv f w 35 54 [(6, .ref 9), (0, .ref 110), (1, .int (nI p)), (2, .int (nI (p + l))), (3, .ref 37), (4, .int 37), (5, .int 9)] [] (hC A E N V W ++ g, c) (.inl (some (.ref (if z_mt 9 b p l = true then 9 else z_rs b p l d 27)))) (hC A E N V W ++ g, c) := by
    intro hm
    rw [hm, if_neg (by decide)]
    refine z_Ln.blk (pc' := 11) (lv' := [(5, .int 10), (6, .ref 9), (0, .ref 110), (1, .int (nI p)), (2, .int (nI (p + l))), (3, .ref 37), (4, .int 37)]) (st' := []) (H' := hC A E N V W ++ g) (C := []) 29 2 rfl trivial ?_
    exact z_Ln.lv (z_le.cons rfl rfl (z_le.cons rfl rfl (z_le.cons rfl rfl (z_le.cons rfl rfl (z_le.cons rfl rfl (z_le.cons rfl rfl z_le.nil)))))) (sp_10 hT hl hp hRm hf hw hd)
  by_cases hlk : l = 1
  · refine z_Ln.blk (pc' := (if decide (¬ 1 = ((nI (p + l)) - (nI p))) = true then 54 else 38)) (lv' := [(6, .ref 9), (0, .ref 110), (1, .int (nI p)), (2, .int (nI (p + l))), (3, .ref 37), (4, .int 37), (5, .int 9)]) (st' := []) (H' := hC A E N V W ++ g) (C := []) 17 4 rfl trivial (z_Ln.brF (decide_eq_false (by rw [es, hlk]; exact not_not_intro rfl)) ?_)
    refine z_Ln.blk (pc' := 45) (lv' := [(6, .ref 9), (0, .ref 110), (1, .int (nI p)), (2, .int (nI (p + l))), (3, .ref 37), (4, .int 37), (5, .int 9)]) (st' := [.int (nI p), .ref 50, .ref 110]) (H' := hC A E N V W ++ g) (C := [((c.1 ≤ 601024 ∧ c.2 ≤ 7293034) ∧ 1 ≤ f ∧ 60 ≤ w)]) 21 4 rfl hR0 ?_
    have em : (decide (z_fn 0 (A 4) (nI p + 0).toNatClampNeg = 58)) = z_mt 9 b p l := by
      have c0 : decide (z_fn 0 (A 4) (nI p + 0).toNatClampNeg = 58) = decide (b (p + 0) = 58) := z_chq (j := 0) (ch := 58) hT (by omega) (by decide)
      rw [c0]
      rw [hlk]
      show _ = (decide (1 = 1) && (decide (b (p + 0) = 58) && true))
      simp [Bool.and_assoc]
    refine z_Ln.call (s := 0) (mj := 38) (as := [.ref 110, .ref 50, .int (nI p)]) (rr := []) (v := some (.int (z_B1 (z_mt 9 b p l)))) (T1 := (hC A E N V W ++ g, c)) rfl rfl ⟨⟨by omega, by omega⟩, (by decide : (0 : Nat) ≤ 8), (by decide +kernel : (3 : Nat) ≤ z_pg.2.1 38)⟩ hRm ?_ ⟨trivial, ⟨(Or.inl (by decide)), (z_sm0C 0 (by decide) rfl rfl), trivial, trivial, (Or.inl (by decide)), trivial, trivial, trivial⟩⟩ ?_
    · rw [← em]
      refine z_Ln.blk (pc' := 2) (lv' := [(3, .int 0), (0, .ref 110), (1, .ref 50), (2, .int (nI p))]) (st' := []) (H' := hC A E N V W ++ g) (C := []) 0 2 rfl trivial ?_
      exact s38_5_0 hRm (by omega) (by omega) (z_inA (p := p) (j := 0) (by omega))
    · cases hm : z_mt 9 b p l with
      | true =>
        refine z_Ln.blk (pc' := (if decide ((z_B1 true) = 0) = true then 54 else 51)) (lv' := [(6, .ref 9), (0, .ref 110), (1, .int (nI p)), (2, .int (nI (p + l))), (3, .ref 37), (4, .int 37), (5, .int 9)]) (st' := []) (H' := hC A E N V W ++ g) (C := []) 26 1 rfl trivial (z_Ln.brF (decide_eq_false (z_B1_t rfl)) ?_)
        refine z_Ln.blk (pc' := 53) (lv' := [(6, .ref 9), (0, .ref 110), (1, .int (nI p)), (2, .int (nI (p + l))), (3, .ref 37), (4, .int 37), (5, .int 9)]) (st' := [.ref 9]) (H' := hC A E N V W ++ g) (C := []) 27 1 rfl trivial ?_
        rw [if_pos rfl]
        exact z_Ln.ret rfl rfl
      | false =>
        have nx := nxt hm
        rw [hm] at nx
        refine z_Ln.blk (pc' := (if decide ((z_B1 false) = 0) = true then 54 else 51)) (lv' := [(6, .ref 9), (0, .ref 110), (1, .int (nI p)), (2, .int (nI (p + l))), (3, .ref 37), (4, .int 37), (5, .int 9)]) (st' := []) (H' := hC A E N V W ++ g) (C := []) 26 1 rfl trivial (z_Ln.brT (decide_eq_true (z_B1_f rfl)) ?_)
        exact nx
  · have hm : z_mt 9 b p l = false := by
      unfold z_mt
      rw [decide_eq_false (show ¬ (z_wls.getD 9 []).length = l from fun q => hlk q.symm)]
      rfl
    refine z_Ln.blk (pc' := (if decide (¬ 1 = ((nI (p + l)) - (nI p))) = true then 54 else 38)) (lv' := [(6, .ref 9), (0, .ref 110), (1, .int (nI p)), (2, .int (nI (p + l))), (3, .ref 37), (4, .int 37), (5, .int 9)]) (st' := []) (H' := hC A E N V W ++ g) (C := []) 17 4 rfl trivial (z_Ln.brT (decide_eq_true (by rw [es]; exact fun q => hlk ((nI_eq (a := 1) (b := l) (by decide) (by omega)).mp q).symm)) ?_)
    exact nxt hm
set_option maxRecDepth 10000 in
theorem sp_8 {L : Nat} {xs : Nat → Int32} {fv : Value} {f w : Nat} {c : Nat × Nat} {A : Nat → List (Nat × Int32)} {E : List (Nat × Option Nat)} {N : Nat → Nat} {V : Nat → Nat → Int32} {W : Nat} {g : List z_E} {b : Nat → Nat} {n p l d : Nat} (hT : z_Tx (A 4) b n) (hl : 1 ≤ l) (hp : p + l ≤ n) (hRm : z_Rm (hC A E N V W ++ g, c)) (hf : 5 ≤ f) (hw : 500 ≤ w) (hd : z_Ln L xs fv f w 35 60 [(0, .ref 110), (1, .int (nI p)), (2, .int (nI (p + l)))] [] (hC A E N V W ++ g, c) (.inl (some (.ref d))) (hC A E N V W ++ g, c)) : z_Ln L xs fv f w 35 11 [(0, .ref 110), (1, .int (nI p)), (2, .int (nI (p + l))), (3, .ref 37), (4, .int 37), (5, .int 8)] [] (hC A E N V W ++ g, c) (.inl (some (.ref (z_rs b p l d 29)))) (hC A E N V W ++ g, c) := by
  have hR0 : ((c.1 ≤ 601024 ∧ c.2 ≤ 7293034) ∧ 1 ≤ f ∧ 60 ≤ w) := ⟨hRm, by omega, by omega⟩
  have m36 : z_pg.2.1 36 = 1 := rfl
  have m38 : z_pg.2.1 38 = 4 := rfl
  have hn : n ≤ 1500 := hT.1
  have e : z_rs b p l d 29 = (if z_mt 8 b p l = true then 8 else z_rs b p l d 28) := rfl
  rw [e]
  refine z_Ln.blk (pc' := (if decide (37 ≤ 8) = true then 60 else 18)) (lv' := [(0, .ref 110), (1, .int (nI p)), (2, .int (nI (p + l))), (3, .ref 37), (4, .int 37), (5, .int 8)]) (st' := []) (H' := hC A E N V W ++ g) (C := []) 7 3 rfl trivial (z_Ln.brF (decide_eq_false (by decide)) ?_)
  refine z_Ln.blk (pc' := 29) (lv' := [(6, .ref 8), (0, .ref 110), (1, .int (nI p)), (2, .int (nI (p + l))), (3, .ref 37), (4, .int 37), (5, .int 8)]) (st' := [.ref 48]) (H' := hC A E N V W ++ g) (C := [((c.1 ≤ 601024 ∧ c.2 ≤ 7293034) ∧ 1 ≤ f ∧ 60 ≤ w), z_in 8 37 = true, ((c.1 ≤ 601024 ∧ c.2 ≤ 7293034) ∧ 1 ≤ f ∧ 60 ≤ w)]) 10 6 rfl ⟨hR0, (by decide : z_in 8 37 = true), hR0⟩ ?_
  refine z_Ln.call (s := 0) (mj := 36) (as := [.ref 48]) (rr := []) (v := some (.int 1)) (T1 := (hC A E N V W ++ g, c)) rfl rfl ⟨⟨by omega, by omega⟩, (by decide : (0 : Nat) ≤ 8), (by decide +kernel : (1 : Nat) ≤ z_pg.2.1 36)⟩ hRm (s36_4 hRm (by omega) (by omega)) ⟨trivial, ⟨(Or.inl (by decide)), (z_sm0C 0 (by decide) rfl rfl), trivial, trivial, (Or.inl (by decide)), trivial, trivial, trivial⟩⟩ ?_
  have es : nI (p + l) - nI p = nI l := by rw [pk_sub (by omega), show p + l - p = l by omega]
  have nxt : z_mt 8 b p l = false → z_Ln L xs fv f w 35 54 [(6, .ref 8), (0, .ref 110), (1, .int (nI p)), (2, .int (nI (p + l))), (3, .ref 37), (4, .int 37), (5, .int 8)] [] (hC A E N V W ++ g, c) (.inl (some (.ref (if z_mt 8 b p l = true then 8 else z_rs b p l d 28)))) (hC A E N V W ++ g, c) := by
    intro hm
    rw [hm, if_neg (by decide)]
    refine z_Ln.blk (pc' := 11) (lv' := [(5, .int 9), (6, .ref 8), (0, .ref 110), (1, .int (nI p)), (2, .int (nI (p + l))), (3, .ref 37), (4, .int 37)]) (st' := []) (H' := hC A E N V W ++ g) (C := []) 29 2 rfl trivial ?_
    exact z_Ln.lv (z_le.cons rfl rfl (z_le.cons rfl rfl (z_le.cons rfl rfl (z_le.cons rfl rfl (z_le.cons rfl rfl (z_le.cons rfl rfl z_le.nil)))))) (sp_9 hT hl hp hRm hf hw hd)
  by_cases hlk : l = 1
  · refine z_Ln.blk (pc' := (if decide (¬ 1 = ((nI (p + l)) - (nI p))) = true then 54 else 38)) (lv' := [(6, .ref 8), (0, .ref 110), (1, .int (nI p)), (2, .int (nI (p + l))), (3, .ref 37), (4, .int 37), (5, .int 8)]) (st' := []) (H' := hC A E N V W ++ g) (C := []) 17 4 rfl trivial (z_Ln.brF (decide_eq_false (by rw [es, hlk]; exact not_not_intro rfl)) ?_)
    refine z_Ln.blk (pc' := 45) (lv' := [(6, .ref 8), (0, .ref 110), (1, .int (nI p)), (2, .int (nI (p + l))), (3, .ref 37), (4, .int 37), (5, .int 8)]) (st' := [.int (nI p), .ref 48, .ref 110]) (H' := hC A E N V W ++ g) (C := [((c.1 ≤ 601024 ∧ c.2 ≤ 7293034) ∧ 1 ≤ f ∧ 60 ≤ w)]) 21 4 rfl hR0 ?_
    have em : (decide (z_fn 0 (A 4) (nI p + 0).toNatClampNeg = 125)) = z_mt 8 b p l := by
      have c0 : decide (z_fn 0 (A 4) (nI p + 0).toNatClampNeg = 125) = decide (b (p + 0) = 125) := z_chq (j := 0) (ch := 125) hT (by omega) (by decide)
      rw [c0]
      rw [hlk]
      show _ = (decide (1 = 1) && (decide (b (p + 0) = 125) && true))
      simp [Bool.and_assoc]
    refine z_Ln.call (s := 0) (mj := 38) (as := [.ref 110, .ref 48, .int (nI p)]) (rr := []) (v := some (.int (z_B1 (z_mt 8 b p l)))) (T1 := (hC A E N V W ++ g, c)) rfl rfl ⟨⟨by omega, by omega⟩, (by decide : (0 : Nat) ≤ 8), (by decide +kernel : (3 : Nat) ≤ z_pg.2.1 38)⟩ hRm ?_ ⟨trivial, ⟨(Or.inl (by decide)), (z_sm0C 0 (by decide) rfl rfl), trivial, trivial, (Or.inl (by decide)), trivial, trivial, trivial⟩⟩ ?_
    · rw [← em]
      refine z_Ln.blk (pc' := 2) (lv' := [(3, .int 0), (0, .ref 110), (1, .ref 48), (2, .int (nI p))]) (st' := []) (H' := hC A E N V W ++ g) (C := []) 0 2 rfl trivial ?_
      exact s38_4_0 hRm (by omega) (by omega) (z_inA (p := p) (j := 0) (by omega))
    · cases hm : z_mt 8 b p l with
      | true =>
        refine z_Ln.blk (pc' := (if decide ((z_B1 true) = 0) = true then 54 else 51)) (lv' := [(6, .ref 8), (0, .ref 110), (1, .int (nI p)), (2, .int (nI (p + l))), (3, .ref 37), (4, .int 37), (5, .int 8)]) (st' := []) (H' := hC A E N V W ++ g) (C := []) 26 1 rfl trivial (z_Ln.brF (decide_eq_false (z_B1_t rfl)) ?_)
        refine z_Ln.blk (pc' := 53) (lv' := [(6, .ref 8), (0, .ref 110), (1, .int (nI p)), (2, .int (nI (p + l))), (3, .ref 37), (4, .int 37), (5, .int 8)]) (st' := [.ref 8]) (H' := hC A E N V W ++ g) (C := []) 27 1 rfl trivial ?_
        rw [if_pos rfl]
        exact z_Ln.ret rfl rfl
      | false =>
        have nx := nxt hm
        rw [hm] at nx
        refine z_Ln.blk (pc' := (if decide ((z_B1 false) = 0) = true then 54 else 51)) (lv' := [(6, .ref 8), (0, .ref 110), (1, .int (nI p)), (2, .int (nI (p + l))), (3, .ref 37), (4, .int 37), (5, .int 8)]) (st' := []) (H' := hC A E N V W ++ g) (C := []) 26 1 rfl trivial (z_Ln.brT (decide_eq_true (z_B1_f rfl)) ?_)
        exact nx
  · have hm : z_mt 8 b p l = false := by
      unfold z_mt
      rw [decide_eq_false (show ¬ (z_wls.getD 8 []).length = l from fun q => hlk q.symm)]
      rfl
    refine z_Ln.blk (pc' := (if decide (¬ 1 = ((nI (p + l)) - (nI p))) = true then 54 else 38)) (lv' := [(6, .ref 8), (0, .ref 110), (1, .int (nI p)), (2, .int (nI (p + l))), (3, .ref 37), (4, .int 37), (5, .int 8)]) (st' := []) (H' := hC A E N V W ++ g) (C := []) 17 4 rfl trivial (z_Ln.brT (decide_eq_true (by rw [es]; exact fun q => hlk ((nI_eq (a := 1) (b := l) (by decide) (by omega)).mp q).symm)) ?_)
    exact nxt hm
set_option maxRecDepth 10000 in
theorem sp_7 {L : Nat} {xs : Nat → Int32} {fv : Value} {f w : Nat} {c : Nat × Nat} {A : Nat → List (Nat × Int32)} {E : List (Nat × Option Nat)} {N : Nat → Nat} {V : Nat → Nat → Int32} {W : Nat} {g : List z_E} {b : Nat → Nat} {n p l d : Nat} (hT : z_Tx (A 4) b n) (hl : 1 ≤ l) (hp : p + l ≤ n) (hRm : z_Rm (hC A E N V W ++ g, c)) (hf : 5 ≤ f) (hw : 500 ≤ w) (hd : z_Ln L xs fv f w 35 60 [(0, .ref 110), (1, .int (nI p)), (2, .int (nI (p + l)))] [] (hC A E N V W ++ g, c) (.inl (some (.ref d))) (hC A E N V W ++ g, c)) : z_Ln L xs fv f w 35 11 [(0, .ref 110), (1, .int (nI p)), (2, .int (nI (p + l))), (3, .ref 37), (4, .int 37), (5, .int 7)] [] (hC A E N V W ++ g, c) (.inl (some (.ref (z_rs b p l d 30)))) (hC A E N V W ++ g, c) := by
  have hR0 : ((c.1 ≤ 601024 ∧ c.2 ≤ 7293034) ∧ 1 ≤ f ∧ 60 ≤ w) := ⟨hRm, by omega, by omega⟩
  have m36 : z_pg.2.1 36 = 1 := rfl
  have m38 : z_pg.2.1 38 = 4 := rfl
  have hn : n ≤ 1500 := hT.1
  have e : z_rs b p l d 30 = (if z_mt 7 b p l = true then 7 else z_rs b p l d 29) := rfl
  rw [e]
  refine z_Ln.blk (pc' := (if decide (37 ≤ 7) = true then 60 else 18)) (lv' := [(0, .ref 110), (1, .int (nI p)), (2, .int (nI (p + l))), (3, .ref 37), (4, .int 37), (5, .int 7)]) (st' := []) (H' := hC A E N V W ++ g) (C := []) 7 3 rfl trivial (z_Ln.brF (decide_eq_false (by decide)) ?_)
  refine z_Ln.blk (pc' := 29) (lv' := [(6, .ref 7), (0, .ref 110), (1, .int (nI p)), (2, .int (nI (p + l))), (3, .ref 37), (4, .int 37), (5, .int 7)]) (st' := [.ref 46]) (H' := hC A E N V W ++ g) (C := [((c.1 ≤ 601024 ∧ c.2 ≤ 7293034) ∧ 1 ≤ f ∧ 60 ≤ w), z_in 7 37 = true, ((c.1 ≤ 601024 ∧ c.2 ≤ 7293034) ∧ 1 ≤ f ∧ 60 ≤ w)]) 10 6 rfl ⟨hR0, (by decide : z_in 7 37 = true), hR0⟩ ?_
  refine z_Ln.call (s := 0) (mj := 36) (as := [.ref 46]) (rr := []) (v := some (.int 1)) (T1 := (hC A E N V W ++ g, c)) rfl rfl ⟨⟨by omega, by omega⟩, (by decide : (0 : Nat) ≤ 8), (by decide +kernel : (1 : Nat) ≤ z_pg.2.1 36)⟩ hRm (s36_3 hRm (by omega) (by omega)) ⟨trivial, ⟨(Or.inl (by decide)), (z_sm0C 0 (by decide) rfl rfl), trivial, trivial, (Or.inl (by decide)), trivial, trivial, trivial⟩⟩ ?_
  have es : nI (p + l) - nI p = nI l := by rw [pk_sub (by omega), show p + l - p = l by omega]
  have nxt : z_mt 7 b p l = false → z_Ln L xs fv f w 35 54 [(6, .ref 7), (0, .ref 110), (1, .int (nI p)), (2, .int (nI (p + l))), (3, .ref 37), (4, .int 37), (5, .int 7)] [] (hC A E N V W ++ g, c) (.inl (some (.ref (if z_mt 7 b p l = true then 7 else z_rs b p l d 29)))) (hC A E N V W ++ g, c) := by
    intro hm
    rw [hm, if_neg (by decide)]
    refine z_Ln.blk (pc' := 11) (lv' := [(5, .int 8), (6, .ref 7), (0, .ref 110), (1, .int (nI p)), (2, .int (nI (p + l))), (3, .ref 37), (4, .int 37)]) (st' := []) (H' := hC A E N V W ++ g) (C := []) 29 2 rfl trivial ?_
    exact z_Ln.lv (z_le.cons rfl rfl (z_le.cons rfl rfl (z_le.cons rfl rfl (z_le.cons rfl rfl (z_le.cons rfl rfl (z_le.cons rfl rfl z_le.nil)))))) (sp_8 hT hl hp hRm hf hw hd)
  by_cases hlk : l = 1
  · refine z_Ln.blk (pc' := (if decide (¬ 1 = ((nI (p + l)) - (nI p))) = true then 54 else 38)) (lv' := [(6, .ref 7), (0, .ref 110), (1, .int (nI p)), (2, .int (nI (p + l))), (3, .ref 37), (4, .int 37), (5, .int 7)]) (st' := []) (H' := hC A E N V W ++ g) (C := []) 17 4 rfl trivial (z_Ln.brF (decide_eq_false (by rw [es, hlk]; exact not_not_intro rfl)) ?_)
    refine z_Ln.blk (pc' := 45) (lv' := [(6, .ref 7), (0, .ref 110), (1, .int (nI p)), (2, .int (nI (p + l))), (3, .ref 37), (4, .int 37), (5, .int 7)]) (st' := [.int (nI p), .ref 46, .ref 110]) (H' := hC A E N V W ++ g) (C := [((c.1 ≤ 601024 ∧ c.2 ≤ 7293034) ∧ 1 ≤ f ∧ 60 ≤ w)]) 21 4 rfl hR0 ?_
    have em : (decide (z_fn 0 (A 4) (nI p + 0).toNatClampNeg = 123)) = z_mt 7 b p l := by
      have c0 : decide (z_fn 0 (A 4) (nI p + 0).toNatClampNeg = 123) = decide (b (p + 0) = 123) := z_chq (j := 0) (ch := 123) hT (by omega) (by decide)
      rw [c0]
      rw [hlk]
      show _ = (decide (1 = 1) && (decide (b (p + 0) = 123) && true))
      simp [Bool.and_assoc]
    refine z_Ln.call (s := 0) (mj := 38) (as := [.ref 110, .ref 46, .int (nI p)]) (rr := []) (v := some (.int (z_B1 (z_mt 7 b p l)))) (T1 := (hC A E N V W ++ g, c)) rfl rfl ⟨⟨by omega, by omega⟩, (by decide : (0 : Nat) ≤ 8), (by decide +kernel : (3 : Nat) ≤ z_pg.2.1 38)⟩ hRm ?_ ⟨trivial, ⟨(Or.inl (by decide)), (z_sm0C 0 (by decide) rfl rfl), trivial, trivial, (Or.inl (by decide)), trivial, trivial, trivial⟩⟩ ?_
    · rw [← em]
      refine z_Ln.blk (pc' := 2) (lv' := [(3, .int 0), (0, .ref 110), (1, .ref 46), (2, .int (nI p))]) (st' := []) (H' := hC A E N V W ++ g) (C := []) 0 2 rfl trivial ?_
      exact s38_3_0 hRm (by omega) (by omega) (z_inA (p := p) (j := 0) (by omega))
    · cases hm : z_mt 7 b p l with
      | true =>
        refine z_Ln.blk (pc' := (if decide ((z_B1 true) = 0) = true then 54 else 51)) (lv' := [(6, .ref 7), (0, .ref 110), (1, .int (nI p)), (2, .int (nI (p + l))), (3, .ref 37), (4, .int 37), (5, .int 7)]) (st' := []) (H' := hC A E N V W ++ g) (C := []) 26 1 rfl trivial (z_Ln.brF (decide_eq_false (z_B1_t rfl)) ?_)
        refine z_Ln.blk (pc' := 53) (lv' := [(6, .ref 7), (0, .ref 110), (1, .int (nI p)), (2, .int (nI (p + l))), (3, .ref 37), (4, .int 37), (5, .int 7)]) (st' := [.ref 7]) (H' := hC A E N V W ++ g) (C := []) 27 1 rfl trivial ?_
        rw [if_pos rfl]
        exact z_Ln.ret rfl rfl
      | false =>
        have nx := nxt hm
        rw [hm] at nx
        refine z_Ln.blk (pc' := (if decide ((z_B1 false) = 0) = true then 54 else 51)) (lv' := [(6, .ref 7), (0, .ref 110), (1, .int (nI p)), (2, .int (nI (p + l))), (3, .ref 37), (4, .int 37), (5, .int 7)]) (st' := []) (H' := hC A E N V W ++ g) (C := []) 26 1 rfl trivial (z_Ln.brT (decide_eq_true (z_B1_f rfl)) ?_)
        exact nx
  · have hm : z_mt 7 b p l = false := by
      unfold z_mt
      rw [decide_eq_false (show ¬ (z_wls.getD 7 []).length = l from fun q => hlk q.symm)]
      rfl
    refine z_Ln.blk (pc' := (if decide (¬ 1 = ((nI (p + l)) - (nI p))) = true then 54 else 38)) (lv' := [(6, .ref 7), (0, .ref 110), (1, .int (nI p)), (2, .int (nI (p + l))), (3, .ref 37), (4, .int 37), (5, .int 7)]) (st' := []) (H' := hC A E N V W ++ g) (C := []) 17 4 rfl trivial (z_Ln.brT (decide_eq_true (by rw [es]; exact fun q => hlk ((nI_eq (a := 1) (b := l) (by decide) (by omega)).mp q).symm)) ?_)
    exact nxt hm
set_option maxRecDepth 10000 in
theorem sp_6 {L : Nat} {xs : Nat → Int32} {fv : Value} {f w : Nat} {c : Nat × Nat} {A : Nat → List (Nat × Int32)} {E : List (Nat × Option Nat)} {N : Nat → Nat} {V : Nat → Nat → Int32} {W : Nat} {g : List z_E} {b : Nat → Nat} {n p l d : Nat} (hT : z_Tx (A 4) b n) (hl : 1 ≤ l) (hp : p + l ≤ n) (hRm : z_Rm (hC A E N V W ++ g, c)) (hf : 5 ≤ f) (hw : 500 ≤ w) (hd : z_Ln L xs fv f w 35 60 [(0, .ref 110), (1, .int (nI p)), (2, .int (nI (p + l)))] [] (hC A E N V W ++ g, c) (.inl (some (.ref d))) (hC A E N V W ++ g, c)) : z_Ln L xs fv f w 35 11 [(0, .ref 110), (1, .int (nI p)), (2, .int (nI (p + l))), (3, .ref 37), (4, .int 37), (5, .int 6)] [] (hC A E N V W ++ g, c) (.inl (some (.ref (z_rs b p l d 31)))) (hC A E N V W ++ g, c) := by
  have hR0 : ((c.1 ≤ 601024 ∧ c.2 ≤ 7293034) ∧ 1 ≤ f ∧ 60 ≤ w) := ⟨hRm, by omega, by omega⟩
  have m36 : z_pg.2.1 36 = 1 := rfl
  have m38 : z_pg.2.1 38 = 4 := rfl
  have hn : n ≤ 1500 := hT.1
  have e : z_rs b p l d 31 = (if z_mt 6 b p l = true then 6 else z_rs b p l d 30) := rfl
  rw [e]
  refine z_Ln.blk (pc' := (if decide (37 ≤ 6) = true then 60 else 18)) (lv' := [(0, .ref 110), (1, .int (nI p)), (2, .int (nI (p + l))), (3, .ref 37), (4, .int 37), (5, .int 6)]) (st' := []) (H' := hC A E N V W ++ g) (C := []) 7 3 rfl trivial (z_Ln.brF (decide_eq_false (by decide)) ?_)
  refine z_Ln.blk (pc' := 29) (lv' := [(6, .ref 6), (0, .ref 110), (1, .int (nI p)), (2, .int (nI (p + l))), (3, .ref 37), (4, .int 37), (5, .int 6)]) (st' := [.ref 44]) (H' := hC A E N V W ++ g) (C := [((c.1 ≤ 601024 ∧ c.2 ≤ 7293034) ∧ 1 ≤ f ∧ 60 ≤ w), z_in 6 37 = true, ((c.1 ≤ 601024 ∧ c.2 ≤ 7293034) ∧ 1 ≤ f ∧ 60 ≤ w)]) 10 6 rfl ⟨hR0, (by decide : z_in 6 37 = true), hR0⟩ ?_
  refine z_Ln.call (s := 0) (mj := 36) (as := [.ref 44]) (rr := []) (v := some (.int 1)) (T1 := (hC A E N V W ++ g, c)) rfl rfl ⟨⟨by omega, by omega⟩, (by decide : (0 : Nat) ≤ 8), (by decide +kernel : (1 : Nat) ≤ z_pg.2.1 36)⟩ hRm (s36_2 hRm (by omega) (by omega)) ⟨trivial, ⟨(Or.inl (by decide)), (z_sm0C 0 (by decide) rfl rfl), trivial, trivial, (Or.inl (by decide)), trivial, trivial, trivial⟩⟩ ?_
  have es : nI (p + l) - nI p = nI l := by rw [pk_sub (by omega), show p + l - p = l by omega]
  have nxt : z_mt 6 b p l = false → z_Ln L xs fv f w 35 54 [(6, .ref 6), (0, .ref 110), (1, .int (nI p)), (2, .int (nI (p + l))), (3, .ref 37), (4, .int 37), (5, .int 6)] [] (hC A E N V W ++ g, c) (.inl (some (.ref (if z_mt 6 b p l = true then 6 else z_rs b p l d 30)))) (hC A E N V W ++ g, c) := by
    intro hm
    rw [hm, if_neg (by decide)]
    refine z_Ln.blk (pc' := 11) (lv' := [(5, .int 7), (6, .ref 6), (0, .ref 110), (1, .int (nI p)), (2, .int (nI (p + l))), (3, .ref 37), (4, .int 37)]) (st' := []) (H' := hC A E N V W ++ g) (C := []) 29 2 rfl trivial ?_
    exact z_Ln.lv (z_le.cons rfl rfl (z_le.cons rfl rfl (z_le.cons rfl rfl (z_le.cons rfl rfl (z_le.cons rfl rfl (z_le.cons rfl rfl z_le.nil)))))) (sp_7 hT hl hp hRm hf hw hd)
  by_cases hlk : l = 1
  · refine z_Ln.blk (pc' := (if decide (¬ 1 = ((nI (p + l)) - (nI p))) = true then 54 else 38)) (lv' := [(6, .ref 6), (0, .ref 110), (1, .int (nI p)), (2, .int (nI (p + l))), (3, .ref 37), (4, .int 37), (5, .int 6)]) (st' := []) (H' := hC A E N V W ++ g) (C := []) 17 4 rfl trivial (z_Ln.brF (decide_eq_false (by rw [es, hlk]; exact not_not_intro rfl)) ?_)
    refine z_Ln.blk (pc' := 45) (lv' := [(6, .ref 6), (0, .ref 110), (1, .int (nI p)), (2, .int (nI (p + l))), (3, .ref 37), (4, .int 37), (5, .int 6)]) (st' := [.int (nI p), .ref 44, .ref 110]) (H' := hC A E N V W ++ g) (C := [((c.1 ≤ 601024 ∧ c.2 ≤ 7293034) ∧ 1 ≤ f ∧ 60 ≤ w)]) 21 4 rfl hR0 ?_
    have em : (decide (z_fn 0 (A 4) (nI p + 0).toNatClampNeg = 41)) = z_mt 6 b p l := by
      have c0 : decide (z_fn 0 (A 4) (nI p + 0).toNatClampNeg = 41) = decide (b (p + 0) = 41) := z_chq (j := 0) (ch := 41) hT (by omega) (by decide)
      rw [c0]
      rw [hlk]
      show _ = (decide (1 = 1) && (decide (b (p + 0) = 41) && true))
      simp [Bool.and_assoc]
    refine z_Ln.call (s := 0) (mj := 38) (as := [.ref 110, .ref 44, .int (nI p)]) (rr := []) (v := some (.int (z_B1 (z_mt 6 b p l)))) (T1 := (hC A E N V W ++ g, c)) rfl rfl ⟨⟨by omega, by omega⟩, (by decide : (0 : Nat) ≤ 8), (by decide +kernel : (3 : Nat) ≤ z_pg.2.1 38)⟩ hRm ?_ ⟨trivial, ⟨(Or.inl (by decide)), (z_sm0C 0 (by decide) rfl rfl), trivial, trivial, (Or.inl (by decide)), trivial, trivial, trivial⟩⟩ ?_
    · rw [← em]
      refine z_Ln.blk (pc' := 2) (lv' := [(3, .int 0), (0, .ref 110), (1, .ref 44), (2, .int (nI p))]) (st' := []) (H' := hC A E N V W ++ g) (C := []) 0 2 rfl trivial ?_
      exact s38_2_0 hRm (by omega) (by omega) (z_inA (p := p) (j := 0) (by omega))
    · cases hm : z_mt 6 b p l with
      | true =>
        refine z_Ln.blk (pc' := (if decide ((z_B1 true) = 0) = true then 54 else 51)) (lv' := [(6, .ref 6), (0, .ref 110), (1, .int (nI p)), (2, .int (nI (p + l))), (3, .ref 37), (4, .int 37), (5, .int 6)]) (st' := []) (H' := hC A E N V W ++ g) (C := []) 26 1 rfl trivial (z_Ln.brF (decide_eq_false (z_B1_t rfl)) ?_)
        refine z_Ln.blk (pc' := 53) (lv' := [(6, .ref 6), (0, .ref 110), (1, .int (nI p)), (2, .int (nI (p + l))), (3, .ref 37), (4, .int 37), (5, .int 6)]) (st' := [.ref 6]) (H' := hC A E N V W ++ g) (C := []) 27 1 rfl trivial ?_
        rw [if_pos rfl]
        exact z_Ln.ret rfl rfl
      | false =>
        have nx := nxt hm
        rw [hm] at nx
        refine z_Ln.blk (pc' := (if decide ((z_B1 false) = 0) = true then 54 else 51)) (lv' := [(6, .ref 6), (0, .ref 110), (1, .int (nI p)), (2, .int (nI (p + l))), (3, .ref 37), (4, .int 37), (5, .int 6)]) (st' := []) (H' := hC A E N V W ++ g) (C := []) 26 1 rfl trivial (z_Ln.brT (decide_eq_true (z_B1_f rfl)) ?_)
        exact nx
  · have hm : z_mt 6 b p l = false := by
      unfold z_mt
      rw [decide_eq_false (show ¬ (z_wls.getD 6 []).length = l from fun q => hlk q.symm)]
      rfl
    refine z_Ln.blk (pc' := (if decide (¬ 1 = ((nI (p + l)) - (nI p))) = true then 54 else 38)) (lv' := [(6, .ref 6), (0, .ref 110), (1, .int (nI p)), (2, .int (nI (p + l))), (3, .ref 37), (4, .int 37), (5, .int 6)]) (st' := []) (H' := hC A E N V W ++ g) (C := []) 17 4 rfl trivial (z_Ln.brT (decide_eq_true (by rw [es]; exact fun q => hlk ((nI_eq (a := 1) (b := l) (by decide) (by omega)).mp q).symm)) ?_)
    exact nxt hm
set_option maxRecDepth 10000 in
theorem sp_5 {L : Nat} {xs : Nat → Int32} {fv : Value} {f w : Nat} {c : Nat × Nat} {A : Nat → List (Nat × Int32)} {E : List (Nat × Option Nat)} {N : Nat → Nat} {V : Nat → Nat → Int32} {W : Nat} {g : List z_E} {b : Nat → Nat} {n p l d : Nat} (hT : z_Tx (A 4) b n) (hl : 1 ≤ l) (hp : p + l ≤ n) (hRm : z_Rm (hC A E N V W ++ g, c)) (hf : 5 ≤ f) (hw : 500 ≤ w) (hd : z_Ln L xs fv f w 35 60 [(0, .ref 110), (1, .int (nI p)), (2, .int (nI (p + l)))] [] (hC A E N V W ++ g, c) (.inl (some (.ref d))) (hC A E N V W ++ g, c)) : z_Ln L xs fv f w 35 11 [(0, .ref 110), (1, .int (nI p)), (2, .int (nI (p + l))), (3, .ref 37), (4, .int 37), (5, .int 5)] [] (hC A E N V W ++ g, c) (.inl (some (.ref (z_rs b p l d 32)))) (hC A E N V W ++ g, c) := by
  have hR0 : ((c.1 ≤ 601024 ∧ c.2 ≤ 7293034) ∧ 1 ≤ f ∧ 60 ≤ w) := ⟨hRm, by omega, by omega⟩
  have m36 : z_pg.2.1 36 = 1 := rfl
  have m38 : z_pg.2.1 38 = 4 := rfl
  have hn : n ≤ 1500 := hT.1
  have e : z_rs b p l d 32 = (if z_mt 5 b p l = true then 5 else z_rs b p l d 31) := rfl
  rw [e]
  refine z_Ln.blk (pc' := (if decide (37 ≤ 5) = true then 60 else 18)) (lv' := [(0, .ref 110), (1, .int (nI p)), (2, .int (nI (p + l))), (3, .ref 37), (4, .int 37), (5, .int 5)]) (st' := []) (H' := hC A E N V W ++ g) (C := []) 7 3 rfl trivial (z_Ln.brF (decide_eq_false (by decide)) ?_)
  refine z_Ln.blk (pc' := 29) (lv' := [(6, .ref 5), (0, .ref 110), (1, .int (nI p)), (2, .int (nI (p + l))), (3, .ref 37), (4, .int 37), (5, .int 5)]) (st' := [.ref 42]) (H' := hC A E N V W ++ g) (C := [((c.1 ≤ 601024 ∧ c.2 ≤ 7293034) ∧ 1 ≤ f ∧ 60 ≤ w), z_in 5 37 = true, ((c.1 ≤ 601024 ∧ c.2 ≤ 7293034) ∧ 1 ≤ f ∧ 60 ≤ w)]) 10 6 rfl ⟨hR0, (by decide : z_in 5 37 = true), hR0⟩ ?_
  refine z_Ln.call (s := 0) (mj := 36) (as := [.ref 42]) (rr := []) (v := some (.int 1)) (T1 := (hC A E N V W ++ g, c)) rfl rfl ⟨⟨by omega, by omega⟩, (by decide : (0 : Nat) ≤ 8), (by decide +kernel : (1 : Nat) ≤ z_pg.2.1 36)⟩ hRm (s36_1 hRm (by omega) (by omega)) ⟨trivial, ⟨(Or.inl (by decide)), (z_sm0C 0 (by decide) rfl rfl), trivial, trivial, (Or.inl (by decide)), trivial, trivial, trivial⟩⟩ ?_
  have es : nI (p + l) - nI p = nI l := by rw [pk_sub (by omega), show p + l - p = l by omega]
  have nxt : z_mt 5 b p l = false → z_Ln L xs fv f w 35 54 [(6, .ref 5), (0, .ref 110), (1, .int (nI p)), (2, .int (nI (p + l))), (3, .ref 37), (4, .int 37), (5, .int 5)] [] (hC A E N V W ++ g, c) (.inl (some (.ref (if z_mt 5 b p l = true then 5 else z_rs b p l d 31)))) (hC A E N V W ++ g, c) := by
    intro hm
    rw [hm, if_neg (by decide)]
    refine z_Ln.blk (pc' := 11) (lv' := [(5, .int 6), (6, .ref 5), (0, .ref 110), (1, .int (nI p)), (2, .int (nI (p + l))), (3, .ref 37), (4, .int 37)]) (st' := []) (H' := hC A E N V W ++ g) (C := []) 29 2 rfl trivial ?_
    exact z_Ln.lv (z_le.cons rfl rfl (z_le.cons rfl rfl (z_le.cons rfl rfl (z_le.cons rfl rfl (z_le.cons rfl rfl (z_le.cons rfl rfl z_le.nil)))))) (sp_6 hT hl hp hRm hf hw hd)
  by_cases hlk : l = 1
  · refine z_Ln.blk (pc' := (if decide (¬ 1 = ((nI (p + l)) - (nI p))) = true then 54 else 38)) (lv' := [(6, .ref 5), (0, .ref 110), (1, .int (nI p)), (2, .int (nI (p + l))), (3, .ref 37), (4, .int 37), (5, .int 5)]) (st' := []) (H' := hC A E N V W ++ g) (C := []) 17 4 rfl trivial (z_Ln.brF (decide_eq_false (by rw [es, hlk]; exact not_not_intro rfl)) ?_)
    refine z_Ln.blk (pc' := 45) (lv' := [(6, .ref 5), (0, .ref 110), (1, .int (nI p)), (2, .int (nI (p + l))), (3, .ref 37), (4, .int 37), (5, .int 5)]) (st' := [.int (nI p), .ref 42, .ref 110]) (H' := hC A E N V W ++ g) (C := [((c.1 ≤ 601024 ∧ c.2 ≤ 7293034) ∧ 1 ≤ f ∧ 60 ≤ w)]) 21 4 rfl hR0 ?_
    have em : (decide (z_fn 0 (A 4) (nI p + 0).toNatClampNeg = 40)) = z_mt 5 b p l := by
      have c0 : decide (z_fn 0 (A 4) (nI p + 0).toNatClampNeg = 40) = decide (b (p + 0) = 40) := z_chq (j := 0) (ch := 40) hT (by omega) (by decide)
      rw [c0]
      rw [hlk]
      show _ = (decide (1 = 1) && (decide (b (p + 0) = 40) && true))
      simp [Bool.and_assoc]
    refine z_Ln.call (s := 0) (mj := 38) (as := [.ref 110, .ref 42, .int (nI p)]) (rr := []) (v := some (.int (z_B1 (z_mt 5 b p l)))) (T1 := (hC A E N V W ++ g, c)) rfl rfl ⟨⟨by omega, by omega⟩, (by decide : (0 : Nat) ≤ 8), (by decide +kernel : (3 : Nat) ≤ z_pg.2.1 38)⟩ hRm ?_ ⟨trivial, ⟨(Or.inl (by decide)), (z_sm0C 0 (by decide) rfl rfl), trivial, trivial, (Or.inl (by decide)), trivial, trivial, trivial⟩⟩ ?_
    · rw [← em]
      refine z_Ln.blk (pc' := 2) (lv' := [(3, .int 0), (0, .ref 110), (1, .ref 42), (2, .int (nI p))]) (st' := []) (H' := hC A E N V W ++ g) (C := []) 0 2 rfl trivial ?_
      exact s38_1_0 hRm (by omega) (by omega) (z_inA (p := p) (j := 0) (by omega))
    · cases hm : z_mt 5 b p l with
      | true =>
        refine z_Ln.blk (pc' := (if decide ((z_B1 true) = 0) = true then 54 else 51)) (lv' := [(6, .ref 5), (0, .ref 110), (1, .int (nI p)), (2, .int (nI (p + l))), (3, .ref 37), (4, .int 37), (5, .int 5)]) (st' := []) (H' := hC A E N V W ++ g) (C := []) 26 1 rfl trivial (z_Ln.brF (decide_eq_false (z_B1_t rfl)) ?_)
        refine z_Ln.blk (pc' := 53) (lv' := [(6, .ref 5), (0, .ref 110), (1, .int (nI p)), (2, .int (nI (p + l))), (3, .ref 37), (4, .int 37), (5, .int 5)]) (st' := [.ref 5]) (H' := hC A E N V W ++ g) (C := []) 27 1 rfl trivial ?_
        rw [if_pos rfl]
        exact z_Ln.ret rfl rfl
      | false =>
        have nx := nxt hm
        rw [hm] at nx
        refine z_Ln.blk (pc' := (if decide ((z_B1 false) = 0) = true then 54 else 51)) (lv' := [(6, .ref 5), (0, .ref 110), (1, .int (nI p)), (2, .int (nI (p + l))), (3, .ref 37), (4, .int 37), (5, .int 5)]) (st' := []) (H' := hC A E N V W ++ g) (C := []) 26 1 rfl trivial (z_Ln.brT (decide_eq_true (z_B1_f rfl)) ?_)
        exact nx
  · have hm : z_mt 5 b p l = false := by
      unfold z_mt
      rw [decide_eq_false (show ¬ (z_wls.getD 5 []).length = l from fun q => hlk q.symm)]
      rfl
    refine z_Ln.blk (pc' := (if decide (¬ 1 = ((nI (p + l)) - (nI p))) = true then 54 else 38)) (lv' := [(6, .ref 5), (0, .ref 110), (1, .int (nI p)), (2, .int (nI (p + l))), (3, .ref 37), (4, .int 37), (5, .int 5)]) (st' := []) (H' := hC A E N V W ++ g) (C := []) 17 4 rfl trivial (z_Ln.brT (decide_eq_true (by rw [es]; exact fun q => hlk ((nI_eq (a := 1) (b := l) (by decide) (by omega)).mp q).symm)) ?_)
    exact nxt hm
set_option maxRecDepth 10000 in
theorem sp_4 {L : Nat} {xs : Nat → Int32} {fv : Value} {f w : Nat} {c : Nat × Nat} {A : Nat → List (Nat × Int32)} {E : List (Nat × Option Nat)} {N : Nat → Nat} {V : Nat → Nat → Int32} {W : Nat} {g : List z_E} {b : Nat → Nat} {n p l d : Nat} (hT : z_Tx (A 4) b n) (hl : 1 ≤ l) (hp : p + l ≤ n) (hRm : z_Rm (hC A E N V W ++ g, c)) (hf : 5 ≤ f) (hw : 500 ≤ w) (hd : z_Ln L xs fv f w 35 60 [(0, .ref 110), (1, .int (nI p)), (2, .int (nI (p + l)))] [] (hC A E N V W ++ g, c) (.inl (some (.ref d))) (hC A E N V W ++ g, c)) : z_Ln L xs fv f w 35 11 [(0, .ref 110), (1, .int (nI p)), (2, .int (nI (p + l))), (3, .ref 37), (4, .int 37), (5, .int 4)] [] (hC A E N V W ++ g, c) (.inl (some (.ref (z_rs b p l d 33)))) (hC A E N V W ++ g, c) := by
  have hR0 : ((c.1 ≤ 601024 ∧ c.2 ≤ 7293034) ∧ 1 ≤ f ∧ 60 ≤ w) := ⟨hRm, by omega, by omega⟩
  have m36 : z_pg.2.1 36 = 1 := rfl
  have m38 : z_pg.2.1 38 = 4 := rfl
  have hn : n ≤ 1500 := hT.1
  have e : z_rs b p l d 33 = (if z_mt 4 b p l = true then 4 else z_rs b p l d 32) := rfl
  rw [e]
  refine z_Ln.blk (pc' := (if decide (37 ≤ 4) = true then 60 else 18)) (lv' := [(0, .ref 110), (1, .int (nI p)), (2, .int (nI (p + l))), (3, .ref 37), (4, .int 37), (5, .int 4)]) (st' := []) (H' := hC A E N V W ++ g) (C := []) 7 3 rfl trivial (z_Ln.brF (decide_eq_false (by decide)) ?_)
  refine z_Ln.blk (pc' := 29) (lv' := [(6, .ref 4), (0, .ref 110), (1, .int (nI p)), (2, .int (nI (p + l))), (3, .ref 37), (4, .int 37), (5, .int 4)]) (st' := [.ref 40]) (H' := hC A E N V W ++ g) (C := [((c.1 ≤ 601024 ∧ c.2 ≤ 7293034) ∧ 1 ≤ f ∧ 60 ≤ w), z_in 4 37 = true, ((c.1 ≤ 601024 ∧ c.2 ≤ 7293034) ∧ 1 ≤ f ∧ 60 ≤ w)]) 10 6 rfl ⟨hR0, (by decide : z_in 4 37 = true), hR0⟩ ?_
  refine z_Ln.call (s := 0) (mj := 36) (as := [.ref 40]) (rr := []) (v := some (.int 0)) (T1 := (hC A E N V W ++ g, c)) rfl rfl ⟨⟨by omega, by omega⟩, (by decide : (0 : Nat) ≤ 8), (by decide +kernel : (1 : Nat) ≤ z_pg.2.1 36)⟩ hRm (s36_0 hRm (by omega) (by omega)) ⟨trivial, ⟨(Or.inl (by decide)), (z_sm0C 0 (by decide) rfl rfl), trivial, trivial, (Or.inl (by decide)), trivial, trivial, trivial⟩⟩ ?_
  have es : nI (p + l) - nI p = nI l := by rw [pk_sub (by omega), show p + l - p = l by omega]
  have nxt : z_mt 4 b p l = false → z_Ln L xs fv f w 35 54 [(6, .ref 4), (0, .ref 110), (1, .int (nI p)), (2, .int (nI (p + l))), (3, .ref 37), (4, .int 37), (5, .int 4)] [] (hC A E N V W ++ g, c) (.inl (some (.ref (if z_mt 4 b p l = true then 4 else z_rs b p l d 32)))) (hC A E N V W ++ g, c) := by
    intro hm
    rw [hm, if_neg (by decide)]
    refine z_Ln.blk (pc' := 11) (lv' := [(5, .int 5), (6, .ref 4), (0, .ref 110), (1, .int (nI p)), (2, .int (nI (p + l))), (3, .ref 37), (4, .int 37)]) (st' := []) (H' := hC A E N V W ++ g) (C := []) 29 2 rfl trivial ?_
    exact z_Ln.lv (z_le.cons rfl rfl (z_le.cons rfl rfl (z_le.cons rfl rfl (z_le.cons rfl rfl (z_le.cons rfl rfl (z_le.cons rfl rfl z_le.nil)))))) (sp_5 hT hl hp hRm hf hw hd)
  by_cases hlk : l = 0
  · omega
  · have hm : z_mt 4 b p l = false := by
      unfold z_mt
      rw [decide_eq_false (show ¬ (z_wls.getD 4 []).length = l from fun q => hlk q.symm)]
      rfl
    refine z_Ln.blk (pc' := (if decide (¬ 0 = ((nI (p + l)) - (nI p))) = true then 54 else 38)) (lv' := [(6, .ref 4), (0, .ref 110), (1, .int (nI p)), (2, .int (nI (p + l))), (3, .ref 37), (4, .int 37), (5, .int 4)]) (st' := []) (H' := hC A E N V W ++ g) (C := []) 17 4 rfl trivial (z_Ln.brT (decide_eq_true (by rw [es]; exact fun q => hlk ((nI_eq (a := 0) (b := l) (by decide) (by omega)).mp q).symm)) ?_)
    exact nxt hm
set_option maxRecDepth 10000 in
theorem sp_3 {L : Nat} {xs : Nat → Int32} {fv : Value} {f w : Nat} {c : Nat × Nat} {A : Nat → List (Nat × Int32)} {E : List (Nat × Option Nat)} {N : Nat → Nat} {V : Nat → Nat → Int32} {W : Nat} {g : List z_E} {b : Nat → Nat} {n p l d : Nat} (hT : z_Tx (A 4) b n) (hl : 1 ≤ l) (hp : p + l ≤ n) (hRm : z_Rm (hC A E N V W ++ g, c)) (hf : 5 ≤ f) (hw : 500 ≤ w) (hd : z_Ln L xs fv f w 35 60 [(0, .ref 110), (1, .int (nI p)), (2, .int (nI (p + l)))] [] (hC A E N V W ++ g, c) (.inl (some (.ref d))) (hC A E N V W ++ g, c)) : z_Ln L xs fv f w 35 11 [(0, .ref 110), (1, .int (nI p)), (2, .int (nI (p + l))), (3, .ref 37), (4, .int 37), (5, .int 3)] [] (hC A E N V W ++ g, c) (.inl (some (.ref (z_rs b p l d 34)))) (hC A E N V W ++ g, c) := by
  have hR0 : ((c.1 ≤ 601024 ∧ c.2 ≤ 7293034) ∧ 1 ≤ f ∧ 60 ≤ w) := ⟨hRm, by omega, by omega⟩
  have m36 : z_pg.2.1 36 = 1 := rfl
  have m38 : z_pg.2.1 38 = 4 := rfl
  have hn : n ≤ 1500 := hT.1
  have e : z_rs b p l d 34 = (if z_mt 3 b p l = true then 3 else z_rs b p l d 33) := rfl
  rw [e]
  refine z_Ln.blk (pc' := (if decide (37 ≤ 3) = true then 60 else 18)) (lv' := [(0, .ref 110), (1, .int (nI p)), (2, .int (nI (p + l))), (3, .ref 37), (4, .int 37), (5, .int 3)]) (st' := []) (H' := hC A E N V W ++ g) (C := []) 7 3 rfl trivial (z_Ln.brF (decide_eq_false (by decide)) ?_)
  refine z_Ln.blk (pc' := 29) (lv' := [(6, .ref 3), (0, .ref 110), (1, .int (nI p)), (2, .int (nI (p + l))), (3, .ref 37), (4, .int 37), (5, .int 3)]) (st' := [.ref 40]) (H' := hC A E N V W ++ g) (C := [((c.1 ≤ 601024 ∧ c.2 ≤ 7293034) ∧ 1 ≤ f ∧ 60 ≤ w), z_in 3 37 = true, ((c.1 ≤ 601024 ∧ c.2 ≤ 7293034) ∧ 1 ≤ f ∧ 60 ≤ w)]) 10 6 rfl ⟨hR0, (by decide : z_in 3 37 = true), hR0⟩ ?_
  refine z_Ln.call (s := 0) (mj := 36) (as := [.ref 40]) (rr := []) (v := some (.int 0)) (T1 := (hC A E N V W ++ g, c)) rfl rfl ⟨⟨by omega, by omega⟩, (by decide : (0 : Nat) ≤ 8), (by decide +kernel : (1 : Nat) ≤ z_pg.2.1 36)⟩ hRm (s36_0 hRm (by omega) (by omega)) ⟨trivial, ⟨(Or.inl (by decide)), (z_sm0C 0 (by decide) rfl rfl), trivial, trivial, (Or.inl (by decide)), trivial, trivial, trivial⟩⟩ ?_
  have es : nI (p + l) - nI p = nI l := by rw [pk_sub (by omega), show p + l - p = l by omega]
  have nxt : z_mt 3 b p l = false → z_Ln L xs fv f w 35 54 [(6, .ref 3), (0, .ref 110), (1, .int (nI p)), (2, .int (nI (p + l))), (3, .ref 37), (4, .int 37), (5, .int 3)] [] (hC A E N V W ++ g, c) (.inl (some (.ref (if z_mt 3 b p l = true then 3 else z_rs b p l d 33)))) (hC A E N V W ++ g, c) := by
    intro hm
    rw [hm, if_neg (by decide)]
    refine z_Ln.blk (pc' := 11) (lv' := [(5, .int 4), (6, .ref 3), (0, .ref 110), (1, .int (nI p)), (2, .int (nI (p + l))), (3, .ref 37), (4, .int 37)]) (st' := []) (H' := hC A E N V W ++ g) (C := []) 29 2 rfl trivial ?_
    exact z_Ln.lv (z_le.cons rfl rfl (z_le.cons rfl rfl (z_le.cons rfl rfl (z_le.cons rfl rfl (z_le.cons rfl rfl (z_le.cons rfl rfl z_le.nil)))))) (sp_4 hT hl hp hRm hf hw hd)
  by_cases hlk : l = 0
  · omega
  · have hm : z_mt 3 b p l = false := by
      unfold z_mt
      rw [decide_eq_false (show ¬ (z_wls.getD 3 []).length = l from fun q => hlk q.symm)]
      rfl
    refine z_Ln.blk (pc' := (if decide (¬ 0 = ((nI (p + l)) - (nI p))) = true then 54 else 38)) (lv' := [(6, .ref 3), (0, .ref 110), (1, .int (nI p)), (2, .int (nI (p + l))), (3, .ref 37), (4, .int 37), (5, .int 3)]) (st' := []) (H' := hC A E N V W ++ g) (C := []) 17 4 rfl trivial (z_Ln.brT (decide_eq_true (by rw [es]; exact fun q => hlk ((nI_eq (a := 0) (b := l) (by decide) (by omega)).mp q).symm)) ?_)
    exact nxt hm
set_option maxRecDepth 10000 in
theorem sp_2 {L : Nat} {xs : Nat → Int32} {fv : Value} {f w : Nat} {c : Nat × Nat} {A : Nat → List (Nat × Int32)} {E : List (Nat × Option Nat)} {N : Nat → Nat} {V : Nat → Nat → Int32} {W : Nat} {g : List z_E} {b : Nat → Nat} {n p l d : Nat} (hT : z_Tx (A 4) b n) (hl : 1 ≤ l) (hp : p + l ≤ n) (hRm : z_Rm (hC A E N V W ++ g, c)) (hf : 5 ≤ f) (hw : 500 ≤ w) (hd : z_Ln L xs fv f w 35 60 [(0, .ref 110), (1, .int (nI p)), (2, .int (nI (p + l)))] [] (hC A E N V W ++ g, c) (.inl (some (.ref d))) (hC A E N V W ++ g, c)) : z_Ln L xs fv f w 35 11 [(0, .ref 110), (1, .int (nI p)), (2, .int (nI (p + l))), (3, .ref 37), (4, .int 37), (5, .int 2)] [] (hC A E N V W ++ g, c) (.inl (some (.ref (z_rs b p l d 35)))) (hC A E N V W ++ g, c) := by
  have hR0 : ((c.1 ≤ 601024 ∧ c.2 ≤ 7293034) ∧ 1 ≤ f ∧ 60 ≤ w) := ⟨hRm, by omega, by omega⟩
  have m36 : z_pg.2.1 36 = 1 := rfl
  have m38 : z_pg.2.1 38 = 4 := rfl
  have hn : n ≤ 1500 := hT.1
  have e : z_rs b p l d 35 = (if z_mt 2 b p l = true then 2 else z_rs b p l d 34) := rfl
  rw [e]
  refine z_Ln.blk (pc' := (if decide (37 ≤ 2) = true then 60 else 18)) (lv' := [(0, .ref 110), (1, .int (nI p)), (2, .int (nI (p + l))), (3, .ref 37), (4, .int 37), (5, .int 2)]) (st' := []) (H' := hC A E N V W ++ g) (C := []) 7 3 rfl trivial (z_Ln.brF (decide_eq_false (by decide)) ?_)
  refine z_Ln.blk (pc' := 29) (lv' := [(6, .ref 2), (0, .ref 110), (1, .int (nI p)), (2, .int (nI (p + l))), (3, .ref 37), (4, .int 37), (5, .int 2)]) (st' := [.ref 40]) (H' := hC A E N V W ++ g) (C := [((c.1 ≤ 601024 ∧ c.2 ≤ 7293034) ∧ 1 ≤ f ∧ 60 ≤ w), z_in 2 37 = true, ((c.1 ≤ 601024 ∧ c.2 ≤ 7293034) ∧ 1 ≤ f ∧ 60 ≤ w)]) 10 6 rfl ⟨hR0, (by decide : z_in 2 37 = true), hR0⟩ ?_
  refine z_Ln.call (s := 0) (mj := 36) (as := [.ref 40]) (rr := []) (v := some (.int 0)) (T1 := (hC A E N V W ++ g, c)) rfl rfl ⟨⟨by omega, by omega⟩, (by decide : (0 : Nat) ≤ 8), (by decide +kernel : (1 : Nat) ≤ z_pg.2.1 36)⟩ hRm (s36_0 hRm (by omega) (by omega)) ⟨trivial, ⟨(Or.inl (by decide)), (z_sm0C 0 (by decide) rfl rfl), trivial, trivial, (Or.inl (by decide)), trivial, trivial, trivial⟩⟩ ?_
  have es : nI (p + l) - nI p = nI l := by rw [pk_sub (by omega), show p + l - p = l by omega]
  have nxt : z_mt 2 b p l = false → z_Ln L xs fv f w 35 54 [(6, .ref 2), (0, .ref 110), (1, .int (nI p)), (2, .int (nI (p + l))), (3, .ref 37), (4, .int 37), (5, .int 2)] [] (hC A E N V W ++ g, c) (.inl (some (.ref (if z_mt 2 b p l = true then 2 else z_rs b p l d 34)))) (hC A E N V W ++ g, c) := by
    intro hm
    rw [hm, if_neg (by decide)]
    refine z_Ln.blk (pc' := 11) (lv' := [(5, .int 3), (6, .ref 2), (0, .ref 110), (1, .int (nI p)), (2, .int (nI (p + l))), (3, .ref 37), (4, .int 37)]) (st' := []) (H' := hC A E N V W ++ g) (C := []) 29 2 rfl trivial ?_
    exact z_Ln.lv (z_le.cons rfl rfl (z_le.cons rfl rfl (z_le.cons rfl rfl (z_le.cons rfl rfl (z_le.cons rfl rfl (z_le.cons rfl rfl z_le.nil)))))) (sp_3 hT hl hp hRm hf hw hd)
  by_cases hlk : l = 0
  · omega
  · have hm : z_mt 2 b p l = false := by
      unfold z_mt
      rw [decide_eq_false (show ¬ (z_wls.getD 2 []).length = l from fun q => hlk q.symm)]
      rfl
    refine z_Ln.blk (pc' := (if decide (¬ 0 = ((nI (p + l)) - (nI p))) = true then 54 else 38)) (lv' := [(6, .ref 2), (0, .ref 110), (1, .int (nI p)), (2, .int (nI (p + l))), (3, .ref 37), (4, .int 37), (5, .int 2)]) (st' := []) (H' := hC A E N V W ++ g) (C := []) 17 4 rfl trivial (z_Ln.brT (decide_eq_true (by rw [es]; exact fun q => hlk ((nI_eq (a := 0) (b := l) (by decide) (by omega)).mp q).symm)) ?_)
    exact nxt hm
set_option maxRecDepth 10000 in
theorem sp_1 {L : Nat} {xs : Nat → Int32} {fv : Value} {f w : Nat} {c : Nat × Nat} {A : Nat → List (Nat × Int32)} {E : List (Nat × Option Nat)} {N : Nat → Nat} {V : Nat → Nat → Int32} {W : Nat} {g : List z_E} {b : Nat → Nat} {n p l d : Nat} (hT : z_Tx (A 4) b n) (hl : 1 ≤ l) (hp : p + l ≤ n) (hRm : z_Rm (hC A E N V W ++ g, c)) (hf : 5 ≤ f) (hw : 500 ≤ w) (hd : z_Ln L xs fv f w 35 60 [(0, .ref 110), (1, .int (nI p)), (2, .int (nI (p + l)))] [] (hC A E N V W ++ g, c) (.inl (some (.ref d))) (hC A E N V W ++ g, c)) : z_Ln L xs fv f w 35 11 [(0, .ref 110), (1, .int (nI p)), (2, .int (nI (p + l))), (3, .ref 37), (4, .int 37), (5, .int 1)] [] (hC A E N V W ++ g, c) (.inl (some (.ref (z_rs b p l d 36)))) (hC A E N V W ++ g, c) := by
  have hR0 : ((c.1 ≤ 601024 ∧ c.2 ≤ 7293034) ∧ 1 ≤ f ∧ 60 ≤ w) := ⟨hRm, by omega, by omega⟩
  have m36 : z_pg.2.1 36 = 1 := rfl
  have m38 : z_pg.2.1 38 = 4 := rfl
  have hn : n ≤ 1500 := hT.1
  have e : z_rs b p l d 36 = (if z_mt 1 b p l = true then 1 else z_rs b p l d 35) := rfl
  rw [e]
  refine z_Ln.blk (pc' := (if decide (37 ≤ 1) = true then 60 else 18)) (lv' := [(0, .ref 110), (1, .int (nI p)), (2, .int (nI (p + l))), (3, .ref 37), (4, .int 37), (5, .int 1)]) (st' := []) (H' := hC A E N V W ++ g) (C := []) 7 3 rfl trivial (z_Ln.brF (decide_eq_false (by decide)) ?_)
  refine z_Ln.blk (pc' := 29) (lv' := [(6, .ref 1), (0, .ref 110), (1, .int (nI p)), (2, .int (nI (p + l))), (3, .ref 37), (4, .int 37), (5, .int 1)]) (st' := [.ref 40]) (H' := hC A E N V W ++ g) (C := [((c.1 ≤ 601024 ∧ c.2 ≤ 7293034) ∧ 1 ≤ f ∧ 60 ≤ w), z_in 1 37 = true, ((c.1 ≤ 601024 ∧ c.2 ≤ 7293034) ∧ 1 ≤ f ∧ 60 ≤ w)]) 10 6 rfl ⟨hR0, (by decide : z_in 1 37 = true), hR0⟩ ?_
  refine z_Ln.call (s := 0) (mj := 36) (as := [.ref 40]) (rr := []) (v := some (.int 0)) (T1 := (hC A E N V W ++ g, c)) rfl rfl ⟨⟨by omega, by omega⟩, (by decide : (0 : Nat) ≤ 8), (by decide +kernel : (1 : Nat) ≤ z_pg.2.1 36)⟩ hRm (s36_0 hRm (by omega) (by omega)) ⟨trivial, ⟨(Or.inl (by decide)), (z_sm0C 0 (by decide) rfl rfl), trivial, trivial, (Or.inl (by decide)), trivial, trivial, trivial⟩⟩ ?_
  have es : nI (p + l) - nI p = nI l := by rw [pk_sub (by omega), show p + l - p = l by omega]
  have nxt : z_mt 1 b p l = false → z_Ln L xs fv f w 35 54 [(6, .ref 1), (0, .ref 110), (1, .int (nI p)), (2, .int (nI (p + l))), (3, .ref 37), (4, .int 37), (5, .int 1)] [] (hC A E N V W ++ g, c) (.inl (some (.ref (if z_mt 1 b p l = true then 1 else z_rs b p l d 35)))) (hC A E N V W ++ g, c) := by
    intro hm
    rw [hm, if_neg (by decide)]
    refine z_Ln.blk (pc' := 11) (lv' := [(5, .int 2), (6, .ref 1), (0, .ref 110), (1, .int (nI p)), (2, .int (nI (p + l))), (3, .ref 37), (4, .int 37)]) (st' := []) (H' := hC A E N V W ++ g) (C := []) 29 2 rfl trivial ?_
    exact z_Ln.lv (z_le.cons rfl rfl (z_le.cons rfl rfl (z_le.cons rfl rfl (z_le.cons rfl rfl (z_le.cons rfl rfl (z_le.cons rfl rfl z_le.nil)))))) (sp_2 hT hl hp hRm hf hw hd)
  by_cases hlk : l = 0
  · omega
  · have hm : z_mt 1 b p l = false := by
      unfold z_mt
      rw [decide_eq_false (show ¬ (z_wls.getD 1 []).length = l from fun q => hlk q.symm)]
      rfl
    refine z_Ln.blk (pc' := (if decide (¬ 0 = ((nI (p + l)) - (nI p))) = true then 54 else 38)) (lv' := [(6, .ref 1), (0, .ref 110), (1, .int (nI p)), (2, .int (nI (p + l))), (3, .ref 37), (4, .int 37), (5, .int 1)]) (st' := []) (H' := hC A E N V W ++ g) (C := []) 17 4 rfl trivial (z_Ln.brT (decide_eq_true (by rw [es]; exact fun q => hlk ((nI_eq (a := 0) (b := l) (by decide) (by omega)).mp q).symm)) ?_)
    exact nxt hm
set_option maxRecDepth 10000 in
theorem sp_0 {L : Nat} {xs : Nat → Int32} {fv : Value} {f w : Nat} {c : Nat × Nat} {A : Nat → List (Nat × Int32)} {E : List (Nat × Option Nat)} {N : Nat → Nat} {V : Nat → Nat → Int32} {W : Nat} {g : List z_E} {b : Nat → Nat} {n p l d : Nat} (hT : z_Tx (A 4) b n) (hl : 1 ≤ l) (hp : p + l ≤ n) (hRm : z_Rm (hC A E N V W ++ g, c)) (hf : 5 ≤ f) (hw : 500 ≤ w) (hd : z_Ln L xs fv f w 35 60 [(0, .ref 110), (1, .int (nI p)), (2, .int (nI (p + l)))] [] (hC A E N V W ++ g, c) (.inl (some (.ref d))) (hC A E N V W ++ g, c)) : z_Ln L xs fv f w 35 11 [(0, .ref 110), (1, .int (nI p)), (2, .int (nI (p + l))), (3, .ref 37), (4, .int 37), (5, .int 0)] [] (hC A E N V W ++ g, c) (.inl (some (.ref (z_rs b p l d 37)))) (hC A E N V W ++ g, c) := by
  have hR0 : ((c.1 ≤ 601024 ∧ c.2 ≤ 7293034) ∧ 1 ≤ f ∧ 60 ≤ w) := ⟨hRm, by omega, by omega⟩
  have m36 : z_pg.2.1 36 = 1 := rfl
  have m38 : z_pg.2.1 38 = 4 := rfl
  have hn : n ≤ 1500 := hT.1
  have e : z_rs b p l d 37 = (if z_mt 0 b p l = true then 0 else z_rs b p l d 36) := rfl
  rw [e]
  refine z_Ln.blk (pc' := (if decide (37 ≤ 0) = true then 60 else 18)) (lv' := [(0, .ref 110), (1, .int (nI p)), (2, .int (nI (p + l))), (3, .ref 37), (4, .int 37), (5, .int 0)]) (st' := []) (H' := hC A E N V W ++ g) (C := []) 7 3 rfl trivial (z_Ln.brF (decide_eq_false (by decide)) ?_)
  refine z_Ln.blk (pc' := 29) (lv' := [(6, .ref 0), (0, .ref 110), (1, .int (nI p)), (2, .int (nI (p + l))), (3, .ref 37), (4, .int 37), (5, .int 0)]) (st' := [.ref 40]) (H' := hC A E N V W ++ g) (C := [((c.1 ≤ 601024 ∧ c.2 ≤ 7293034) ∧ 1 ≤ f ∧ 60 ≤ w), z_in 0 37 = true, ((c.1 ≤ 601024 ∧ c.2 ≤ 7293034) ∧ 1 ≤ f ∧ 60 ≤ w)]) 10 6 rfl ⟨hR0, (by decide : z_in 0 37 = true), hR0⟩ ?_
  refine z_Ln.call (s := 0) (mj := 36) (as := [.ref 40]) (rr := []) (v := some (.int 0)) (T1 := (hC A E N V W ++ g, c)) rfl rfl ⟨⟨by omega, by omega⟩, (by decide : (0 : Nat) ≤ 8), (by decide +kernel : (1 : Nat) ≤ z_pg.2.1 36)⟩ hRm (s36_0 hRm (by omega) (by omega)) ⟨trivial, ⟨(Or.inl (by decide)), (z_sm0C 0 (by decide) rfl rfl), trivial, trivial, (Or.inl (by decide)), trivial, trivial, trivial⟩⟩ ?_
  have es : nI (p + l) - nI p = nI l := by rw [pk_sub (by omega), show p + l - p = l by omega]
  have nxt : z_mt 0 b p l = false → z_Ln L xs fv f w 35 54 [(6, .ref 0), (0, .ref 110), (1, .int (nI p)), (2, .int (nI (p + l))), (3, .ref 37), (4, .int 37), (5, .int 0)] [] (hC A E N V W ++ g, c) (.inl (some (.ref (if z_mt 0 b p l = true then 0 else z_rs b p l d 36)))) (hC A E N V W ++ g, c) := by
    intro hm
    rw [hm, if_neg (by decide)]
    refine z_Ln.blk (pc' := 11) (lv' := [(5, .int 1), (6, .ref 0), (0, .ref 110), (1, .int (nI p)), (2, .int (nI (p + l))), (3, .ref 37), (4, .int 37)]) (st' := []) (H' := hC A E N V W ++ g) (C := []) 29 2 rfl trivial ?_
    exact z_Ln.lv (z_le.cons rfl rfl (z_le.cons rfl rfl (z_le.cons rfl rfl (z_le.cons rfl rfl (z_le.cons rfl rfl (z_le.cons rfl rfl z_le.nil)))))) (sp_1 hT hl hp hRm hf hw hd)
  by_cases hlk : l = 0
  · omega
  · have hm : z_mt 0 b p l = false := by
      unfold z_mt
      rw [decide_eq_false (show ¬ (z_wls.getD 0 []).length = l from fun q => hlk q.symm)]
      rfl
    refine z_Ln.blk (pc' := (if decide (¬ 0 = ((nI (p + l)) - (nI p))) = true then 54 else 38)) (lv' := [(6, .ref 0), (0, .ref 110), (1, .int (nI p)), (2, .int (nI (p + l))), (3, .ref 37), (4, .int 37), (5, .int 0)]) (st' := []) (H' := hC A E N V W ++ g) (C := []) 17 4 rfl trivial (z_Ln.brT (decide_eq_true (by rw [es]; exact fun q => hlk ((nI_eq (a := 0) (b := l) (by decide) (by omega)).mp q).symm)) ?_)
    exact nxt hm
