/-! PRINTED BY A PROGRAM OF MINE: the constants' letters, and how the class spells. -/
set_option maxRecDepth 10000 in
theorem s37_0 {L : Nat} {xs : Nat → Int32} {fv : Value} {f w : Nat} {c : Nat × Nat} {A : Nat → List (Nat × Int32)} {E : List (Nat × Option Nat)} {N : Nat → Nat} {V : Nat → Nat → Int32} {W : Nat} {g : List z_E}  (hRm : z_Rm (hC A E N V W ++ g, c)) (hf : 1 ≤ f) (hw : 60 ≤ w) : z_Ln L xs fv f w 37 0 [(0, .ref 40)] [] (hC A E N V W ++ g, c) (.inl (some (.int 0))) (hC A E N V W ++ g, c) := by
  have hR0 : ((c.1 ≤ 601024 ∧ c.2 ≤ 7293034) ∧ 1 ≤ f ∧ 60 ≤ w) := ⟨hRm, by omega, by omega⟩
  refine z_Ln.blk (pc' := (if decide (1 = 0) = true then 13 else 6)) (lv' := [(0, .ref 40)]) (st' := []) (H' := hC A E N V W ++ g) (C := []) 0 2 rfl trivial (z_Ln.brF (decide_eq_false (by decide)) ?_)
  refine z_Ln.blk (pc' := 14) (lv' := [(0, .ref 40)]) (st' := [.int 0]) (H' := hC A E N V W ++ g) (C := [((c.1 ≤ 601024 ∧ c.2 ≤ 7293034) ∧ 1 ≤ f ∧ 60 ≤ w)]) 2 3 rfl hR0 ?_
  exact z_Ln.ret rfl rfl
set_option maxRecDepth 10000 in
theorem s36_0 {L : Nat} {xs : Nat → Int32} {fv : Value} {f w : Nat} {c : Nat × Nat} {A : Nat → List (Nat × Int32)} {E : List (Nat × Option Nat)} {N : Nat → Nat} {V : Nat → Nat → Int32} {W : Nat} {g : List z_E}  (hRm : z_Rm (hC A E N V W ++ g, c)) (hf : 2 ≤ f) (hw : 120 ≤ w) : z_Ln L xs fv f w 36 0 [(0, .ref 40)] [] (hC A E N V W ++ g, c) (.inl (some (.int 0))) (hC A E N V W ++ g, c) := by
  have hR0 : ((c.1 ≤ 601024 ∧ c.2 ≤ 7293034) ∧ 1 ≤ f ∧ 60 ≤ w) := ⟨hRm, by omega, by omega⟩
  have m37 : z_pg.2.1 37 = 1 := rfl
  refine z_Ln.blk (pc' := 6) (lv' := [(0, .ref 40)]) (st' := [.ref 40, .int 0]) (H' := hC A E N V W ++ g) (C := [((c.1 ≤ 601024 ∧ c.2 ≤ 7293034) ∧ 1 ≤ f ∧ 60 ≤ w), ((c.1 ≤ 601024 ∧ c.2 ≤ 7293034) ∧ 1 ≤ f ∧ 60 ≤ w)]) 0 4 rfl ⟨hR0, hR0⟩ ?_
  refine z_Ln.call (s := 0) (mj := 37) (as := [.ref 40]) (rr := [.int 0]) (v := some (.int 0)) (T1 := (hC A E N V W ++ g, c)) rfl rfl ⟨⟨by omega, by have : z_pg.2.1 37 = 1 := rfl; omega⟩, (by decide : (1 : Nat) ≤ 8), (by decide +kernel : (1 : Nat) ≤ z_pg.2.1 37)⟩ hRm (s37_0 hRm (by omega) (by omega)) ⟨⟨trivial, trivial⟩, ⟨(Or.inl (by decide)), trivial⟩⟩ ?_
  refine z_Ln.blk (pc' := 10) (lv' := [(0, .ref 40)]) (st' := [.int 0]) (H' := hC A E N V W ++ g) (C := []) 5 1 rfl trivial ?_
  exact z_Ln.ret rfl rfl
set_option maxRecDepth 10000 in
theorem s37_1 {L : Nat} {xs : Nat → Int32} {fv : Value} {f w : Nat} {c : Nat × Nat} {A : Nat → List (Nat × Int32)} {E : List (Nat × Option Nat)} {N : Nat → Nat} {V : Nat → Nat → Int32} {W : Nat} {g : List z_E}  (hRm : z_Rm (hC A E N V W ++ g, c)) (hf : 1 ≤ f) (hw : 60 ≤ w) : z_Ln L xs fv f w 37 0 [(0, .ref 42)] [] (hC A E N V W ++ g, c) (.inl (some (.int 0))) (hC A E N V W ++ g, c) := by
  have hR0 : ((c.1 ≤ 601024 ∧ c.2 ≤ 7293034) ∧ 1 ≤ f ∧ 60 ≤ w) := ⟨hRm, by omega, by omega⟩
  refine z_Ln.blk (pc' := (if decide (1 = 0) = true then 13 else 6)) (lv' := [(0, .ref 42)]) (st' := []) (H' := hC A E N V W ++ g) (C := []) 0 2 rfl trivial (z_Ln.brF (decide_eq_false (by decide)) ?_)
  refine z_Ln.blk (pc' := 14) (lv' := [(0, .ref 42)]) (st' := [.int 0]) (H' := hC A E N V W ++ g) (C := [((c.1 ≤ 601024 ∧ c.2 ≤ 7293034) ∧ 1 ≤ f ∧ 60 ≤ w)]) 2 3 rfl hR0 ?_
  exact z_Ln.ret rfl rfl
set_option maxRecDepth 10000 in
theorem s36_1 {L : Nat} {xs : Nat → Int32} {fv : Value} {f w : Nat} {c : Nat × Nat} {A : Nat → List (Nat × Int32)} {E : List (Nat × Option Nat)} {N : Nat → Nat} {V : Nat → Nat → Int32} {W : Nat} {g : List z_E}  (hRm : z_Rm (hC A E N V W ++ g, c)) (hf : 2 ≤ f) (hw : 120 ≤ w) : z_Ln L xs fv f w 36 0 [(0, .ref 42)] [] (hC A E N V W ++ g, c) (.inl (some (.int 1))) (hC A E N V W ++ g, c) := by
  have hR0 : ((c.1 ≤ 601024 ∧ c.2 ≤ 7293034) ∧ 1 ≤ f ∧ 60 ≤ w) := ⟨hRm, by omega, by omega⟩
  have m37 : z_pg.2.1 37 = 1 := rfl
  refine z_Ln.blk (pc' := 6) (lv' := [(0, .ref 42)]) (st' := [.ref 42, .int 1]) (H' := hC A E N V W ++ g) (C := [((c.1 ≤ 601024 ∧ c.2 ≤ 7293034) ∧ 1 ≤ f ∧ 60 ≤ w), ((c.1 ≤ 601024 ∧ c.2 ≤ 7293034) ∧ 1 ≤ f ∧ 60 ≤ w)]) 0 4 rfl ⟨hR0, hR0⟩ ?_
  refine z_Ln.call (s := 0) (mj := 37) (as := [.ref 42]) (rr := [.int 1]) (v := some (.int 0)) (T1 := (hC A E N V W ++ g, c)) rfl rfl ⟨⟨by omega, by have : z_pg.2.1 37 = 1 := rfl; omega⟩, (by decide : (1 : Nat) ≤ 8), (by decide +kernel : (1 : Nat) ≤ z_pg.2.1 37)⟩ hRm (s37_1 hRm (by omega) (by omega)) ⟨⟨trivial, trivial⟩, ⟨(Or.inl (by decide)), trivial⟩⟩ ?_
  refine z_Ln.blk (pc' := 10) (lv' := [(0, .ref 42)]) (st' := [.int 1]) (H' := hC A E N V W ++ g) (C := []) 5 1 rfl trivial ?_
  exact z_Ln.ret rfl rfl
set_option maxRecDepth 10000 in
theorem s40_1 {L : Nat} {xs : Nat → Int32} {fv : Value} {f w : Nat} {c : Nat × Nat} {A : Nat → List (Nat × Int32)} {E : List (Nat × Option Nat)} {N : Nat → Nat} {V : Nat → Nat → Int32} {W : Nat} {g : List z_E}  (hRm : z_Rm (hC A E N V W ++ g, c)) (hf : 1 ≤ f) (hw : 60 ≤ w) : z_Ln L xs fv f w 40 0 [(0, .ref 42)] [] (hC A E N V W ++ g, c) (.inl (some (.int 1))) (hC A E N V W ++ g, c) := by
  have hR0 : ((c.1 ≤ 601024 ∧ c.2 ≤ 7293034) ∧ 1 ≤ f ∧ 60 ≤ w) := ⟨hRm, by omega, by omega⟩
  refine z_Ln.blk (pc' := (if decide (1 = 0) = true then 17 else 6)) (lv' := [(0, .ref 42)]) (st' := []) (H' := hC A E N V W ++ g) (C := []) 0 2 rfl trivial (z_Ln.brF (decide_eq_false (by decide)) ?_)
  refine z_Ln.blk (pc' := (if decide (¬ 0 = 0) = true then 17 else 13)) (lv' := [(0, .ref 42)]) (st' := []) (H' := hC A E N V W ++ g) (C := [((c.1 ≤ 601024 ∧ c.2 ≤ 7293034) ∧ 1 ≤ f ∧ 60 ≤ w)]) 2 3 rfl hR0 (z_Ln.brF (decide_eq_false (by decide)) ?_)
  refine z_Ln.blk (pc' := 18) (lv' := [(0, .ref 42)]) (st' := [.int 1]) (H' := hC A E N V W ++ g) (C := []) 5 2 rfl trivial ?_
  exact z_Ln.ret rfl rfl
set_option maxRecDepth 10000 in
theorem s37_2 {L : Nat} {xs : Nat → Int32} {fv : Value} {f w : Nat} {c : Nat × Nat} {A : Nat → List (Nat × Int32)} {E : List (Nat × Option Nat)} {N : Nat → Nat} {V : Nat → Nat → Int32} {W : Nat} {g : List z_E}  (hRm : z_Rm (hC A E N V W ++ g, c)) (hf : 1 ≤ f) (hw : 60 ≤ w) : z_Ln L xs fv f w 37 0 [(0, .ref 44)] [] (hC A E N V W ++ g, c) (.inl (some (.int 0))) (hC A E N V W ++ g, c) := by
  have hR0 : ((c.1 ≤ 601024 ∧ c.2 ≤ 7293034) ∧ 1 ≤ f ∧ 60 ≤ w) := ⟨hRm, by omega, by omega⟩
  refine z_Ln.blk (pc' := (if decide (1 = 0) = true then 13 else 6)) (lv' := [(0, .ref 44)]) (st' := []) (H' := hC A E N V W ++ g) (C := []) 0 2 rfl trivial (z_Ln.brF (decide_eq_false (by decide)) ?_)
  refine z_Ln.blk (pc' := 14) (lv' := [(0, .ref 44)]) (st' := [.int 0]) (H' := hC A E N V W ++ g) (C := [((c.1 ≤ 601024 ∧ c.2 ≤ 7293034) ∧ 1 ≤ f ∧ 60 ≤ w)]) 2 3 rfl hR0 ?_
  exact z_Ln.ret rfl rfl
set_option maxRecDepth 10000 in
theorem s36_2 {L : Nat} {xs : Nat → Int32} {fv : Value} {f w : Nat} {c : Nat × Nat} {A : Nat → List (Nat × Int32)} {E : List (Nat × Option Nat)} {N : Nat → Nat} {V : Nat → Nat → Int32} {W : Nat} {g : List z_E}  (hRm : z_Rm (hC A E N V W ++ g, c)) (hf : 2 ≤ f) (hw : 120 ≤ w) : z_Ln L xs fv f w 36 0 [(0, .ref 44)] [] (hC A E N V W ++ g, c) (.inl (some (.int 1))) (hC A E N V W ++ g, c) := by
  have hR0 : ((c.1 ≤ 601024 ∧ c.2 ≤ 7293034) ∧ 1 ≤ f ∧ 60 ≤ w) := ⟨hRm, by omega, by omega⟩
  have m37 : z_pg.2.1 37 = 1 := rfl
  refine z_Ln.blk (pc' := 6) (lv' := [(0, .ref 44)]) (st' := [.ref 44, .int 1]) (H' := hC A E N V W ++ g) (C := [((c.1 ≤ 601024 ∧ c.2 ≤ 7293034) ∧ 1 ≤ f ∧ 60 ≤ w), ((c.1 ≤ 601024 ∧ c.2 ≤ 7293034) ∧ 1 ≤ f ∧ 60 ≤ w)]) 0 4 rfl ⟨hR0, hR0⟩ ?_
  refine z_Ln.call (s := 0) (mj := 37) (as := [.ref 44]) (rr := [.int 1]) (v := some (.int 0)) (T1 := (hC A E N V W ++ g, c)) rfl rfl ⟨⟨by omega, by have : z_pg.2.1 37 = 1 := rfl; omega⟩, (by decide : (1 : Nat) ≤ 8), (by decide +kernel : (1 : Nat) ≤ z_pg.2.1 37)⟩ hRm (s37_2 hRm (by omega) (by omega)) ⟨⟨trivial, trivial⟩, ⟨(Or.inl (by decide)), trivial⟩⟩ ?_
  refine z_Ln.blk (pc' := 10) (lv' := [(0, .ref 44)]) (st' := [.int 1]) (H' := hC A E N V W ++ g) (C := []) 5 1 rfl trivial ?_
  exact z_Ln.ret rfl rfl
set_option maxRecDepth 10000 in
theorem s40_2 {L : Nat} {xs : Nat → Int32} {fv : Value} {f w : Nat} {c : Nat × Nat} {A : Nat → List (Nat × Int32)} {E : List (Nat × Option Nat)} {N : Nat → Nat} {V : Nat → Nat → Int32} {W : Nat} {g : List z_E}  (hRm : z_Rm (hC A E N V W ++ g, c)) (hf : 1 ≤ f) (hw : 60 ≤ w) : z_Ln L xs fv f w 40 0 [(0, .ref 44)] [] (hC A E N V W ++ g, c) (.inl (some (.int 1))) (hC A E N V W ++ g, c) := by
  have hR0 : ((c.1 ≤ 601024 ∧ c.2 ≤ 7293034) ∧ 1 ≤ f ∧ 60 ≤ w) := ⟨hRm, by omega, by omega⟩
  refine z_Ln.blk (pc' := (if decide (1 = 0) = true then 17 else 6)) (lv' := [(0, .ref 44)]) (st' := []) (H' := hC A E N V W ++ g) (C := []) 0 2 rfl trivial (z_Ln.brF (decide_eq_false (by decide)) ?_)
  refine z_Ln.blk (pc' := (if decide (¬ 0 = 0) = true then 17 else 13)) (lv' := [(0, .ref 44)]) (st' := []) (H' := hC A E N V W ++ g) (C := [((c.1 ≤ 601024 ∧ c.2 ≤ 7293034) ∧ 1 ≤ f ∧ 60 ≤ w)]) 2 3 rfl hR0 (z_Ln.brF (decide_eq_false (by decide)) ?_)
  refine z_Ln.blk (pc' := 18) (lv' := [(0, .ref 44)]) (st' := [.int 1]) (H' := hC A E N V W ++ g) (C := []) 5 2 rfl trivial ?_
  exact z_Ln.ret rfl rfl
set_option maxRecDepth 10000 in
theorem s37_3 {L : Nat} {xs : Nat → Int32} {fv : Value} {f w : Nat} {c : Nat × Nat} {A : Nat → List (Nat × Int32)} {E : List (Nat × Option Nat)} {N : Nat → Nat} {V : Nat → Nat → Int32} {W : Nat} {g : List z_E}  (hRm : z_Rm (hC A E N V W ++ g, c)) (hf : 1 ≤ f) (hw : 60 ≤ w) : z_Ln L xs fv f w 37 0 [(0, .ref 46)] [] (hC A E N V W ++ g, c) (.inl (some (.int 0))) (hC A E N V W ++ g, c) := by
  have hR0 : ((c.1 ≤ 601024 ∧ c.2 ≤ 7293034) ∧ 1 ≤ f ∧ 60 ≤ w) := ⟨hRm, by omega, by omega⟩
  refine z_Ln.blk (pc' := (if decide (1 = 0) = true then 13 else 6)) (lv' := [(0, .ref 46)]) (st' := []) (H' := hC A E N V W ++ g) (C := []) 0 2 rfl trivial (z_Ln.brF (decide_eq_false (by decide)) ?_)
  refine z_Ln.blk (pc' := 14) (lv' := [(0, .ref 46)]) (st' := [.int 0]) (H' := hC A E N V W ++ g) (C := [((c.1 ≤ 601024 ∧ c.2 ≤ 7293034) ∧ 1 ≤ f ∧ 60 ≤ w)]) 2 3 rfl hR0 ?_
  exact z_Ln.ret rfl rfl
set_option maxRecDepth 10000 in
theorem s36_3 {L : Nat} {xs : Nat → Int32} {fv : Value} {f w : Nat} {c : Nat × Nat} {A : Nat → List (Nat × Int32)} {E : List (Nat × Option Nat)} {N : Nat → Nat} {V : Nat → Nat → Int32} {W : Nat} {g : List z_E}  (hRm : z_Rm (hC A E N V W ++ g, c)) (hf : 2 ≤ f) (hw : 120 ≤ w) : z_Ln L xs fv f w 36 0 [(0, .ref 46)] [] (hC A E N V W ++ g, c) (.inl (some (.int 1))) (hC A E N V W ++ g, c) := by
  have hR0 : ((c.1 ≤ 601024 ∧ c.2 ≤ 7293034) ∧ 1 ≤ f ∧ 60 ≤ w) := ⟨hRm, by omega, by omega⟩
  have m37 : z_pg.2.1 37 = 1 := rfl
  refine z_Ln.blk (pc' := 6) (lv' := [(0, .ref 46)]) (st' := [.ref 46, .int 1]) (H' := hC A E N V W ++ g) (C := [((c.1 ≤ 601024 ∧ c.2 ≤ 7293034) ∧ 1 ≤ f ∧ 60 ≤ w), ((c.1 ≤ 601024 ∧ c.2 ≤ 7293034) ∧ 1 ≤ f ∧ 60 ≤ w)]) 0 4 rfl ⟨hR0, hR0⟩ ?_
  refine z_Ln.call (s := 0) (mj := 37) (as := [.ref 46]) (rr := [.int 1]) (v := some (.int 0)) (T1 := (hC A E N V W ++ g, c)) rfl rfl ⟨⟨by omega, by have : z_pg.2.1 37 = 1 := rfl; omega⟩, (by decide : (1 : Nat) ≤ 8), (by decide +kernel : (1 : Nat) ≤ z_pg.2.1 37)⟩ hRm (s37_3 hRm (by omega) (by omega)) ⟨⟨trivial, trivial⟩, ⟨(Or.inl (by decide)), trivial⟩⟩ ?_
  refine z_Ln.blk (pc' := 10) (lv' := [(0, .ref 46)]) (st' := [.int 1]) (H' := hC A E N V W ++ g) (C := []) 5 1 rfl trivial ?_
  exact z_Ln.ret rfl rfl
set_option maxRecDepth 10000 in
theorem s40_3 {L : Nat} {xs : Nat → Int32} {fv : Value} {f w : Nat} {c : Nat × Nat} {A : Nat → List (Nat × Int32)} {E : List (Nat × Option Nat)} {N : Nat → Nat} {V : Nat → Nat → Int32} {W : Nat} {g : List z_E}  (hRm : z_Rm (hC A E N V W ++ g, c)) (hf : 1 ≤ f) (hw : 60 ≤ w) : z_Ln L xs fv f w 40 0 [(0, .ref 46)] [] (hC A E N V W ++ g, c) (.inl (some (.int 1))) (hC A E N V W ++ g, c) := by
  have hR0 : ((c.1 ≤ 601024 ∧ c.2 ≤ 7293034) ∧ 1 ≤ f ∧ 60 ≤ w) := ⟨hRm, by omega, by omega⟩
  refine z_Ln.blk (pc' := (if decide (1 = 0) = true then 17 else 6)) (lv' := [(0, .ref 46)]) (st' := []) (H' := hC A E N V W ++ g) (C := []) 0 2 rfl trivial (z_Ln.brF (decide_eq_false (by decide)) ?_)
  refine z_Ln.blk (pc' := (if decide (¬ 0 = 0) = true then 17 else 13)) (lv' := [(0, .ref 46)]) (st' := []) (H' := hC A E N V W ++ g) (C := [((c.1 ≤ 601024 ∧ c.2 ≤ 7293034) ∧ 1 ≤ f ∧ 60 ≤ w)]) 2 3 rfl hR0 (z_Ln.brF (decide_eq_false (by decide)) ?_)
  refine z_Ln.blk (pc' := 18) (lv' := [(0, .ref 46)]) (st' := [.int 1]) (H' := hC A E N V W ++ g) (C := []) 5 2 rfl trivial ?_
  exact z_Ln.ret rfl rfl
set_option maxRecDepth 10000 in
theorem s37_4 {L : Nat} {xs : Nat → Int32} {fv : Value} {f w : Nat} {c : Nat × Nat} {A : Nat → List (Nat × Int32)} {E : List (Nat × Option Nat)} {N : Nat → Nat} {V : Nat → Nat → Int32} {W : Nat} {g : List z_E}  (hRm : z_Rm (hC A E N V W ++ g, c)) (hf : 1 ≤ f) (hw : 60 ≤ w) : z_Ln L xs fv f w 37 0 [(0, .ref 48)] [] (hC A E N V W ++ g, c) (.inl (some (.int 0))) (hC A E N V W ++ g, c) := by
  have hR0 : ((c.1 ≤ 601024 ∧ c.2 ≤ 7293034) ∧ 1 ≤ f ∧ 60 ≤ w) := ⟨hRm, by omega, by omega⟩
  refine z_Ln.blk (pc' := (if decide (1 = 0) = true then 13 else 6)) (lv' := [(0, .ref 48)]) (st' := []) (H' := hC A E N V W ++ g) (C := []) 0 2 rfl trivial (z_Ln.brF (decide_eq_false (by decide)) ?_)
  refine z_Ln.blk (pc' := 14) (lv' := [(0, .ref 48)]) (st' := [.int 0]) (H' := hC A E N V W ++ g) (C := [((c.1 ≤ 601024 ∧ c.2 ≤ 7293034) ∧ 1 ≤ f ∧ 60 ≤ w)]) 2 3 rfl hR0 ?_
  exact z_Ln.ret rfl rfl
set_option maxRecDepth 10000 in
theorem s36_4 {L : Nat} {xs : Nat → Int32} {fv : Value} {f w : Nat} {c : Nat × Nat} {A : Nat → List (Nat × Int32)} {E : List (Nat × Option Nat)} {N : Nat → Nat} {V : Nat → Nat → Int32} {W : Nat} {g : List z_E}  (hRm : z_Rm (hC A E N V W ++ g, c)) (hf : 2 ≤ f) (hw : 120 ≤ w) : z_Ln L xs fv f w 36 0 [(0, .ref 48)] [] (hC A E N V W ++ g, c) (.inl (some (.int 1))) (hC A E N V W ++ g, c) := by
  have hR0 : ((c.1 ≤ 601024 ∧ c.2 ≤ 7293034) ∧ 1 ≤ f ∧ 60 ≤ w) := ⟨hRm, by omega, by omega⟩
  have m37 : z_pg.2.1 37 = 1 := rfl
  refine z_Ln.blk (pc' := 6) (lv' := [(0, .ref 48)]) (st' := [.ref 48, .int 1]) (H' := hC A E N V W ++ g) (C := [((c.1 ≤ 601024 ∧ c.2 ≤ 7293034) ∧ 1 ≤ f ∧ 60 ≤ w), ((c.1 ≤ 601024 ∧ c.2 ≤ 7293034) ∧ 1 ≤ f ∧ 60 ≤ w)]) 0 4 rfl ⟨hR0, hR0⟩ ?_
  refine z_Ln.call (s := 0) (mj := 37) (as := [.ref 48]) (rr := [.int 1]) (v := some (.int 0)) (T1 := (hC A E N V W ++ g, c)) rfl rfl ⟨⟨by omega, by have : z_pg.2.1 37 = 1 := rfl; omega⟩, (by decide : (1 : Nat) ≤ 8), (by decide +kernel : (1 : Nat) ≤ z_pg.2.1 37)⟩ hRm (s37_4 hRm (by omega) (by omega)) ⟨⟨trivial, trivial⟩, ⟨(Or.inl (by decide)), trivial⟩⟩ ?_
  refine z_Ln.blk (pc' := 10) (lv' := [(0, .ref 48)]) (st' := [.int 1]) (H' := hC A E N V W ++ g) (C := []) 5 1 rfl trivial ?_
  exact z_Ln.ret rfl rfl
set_option maxRecDepth 10000 in
theorem s40_4 {L : Nat} {xs : Nat → Int32} {fv : Value} {f w : Nat} {c : Nat × Nat} {A : Nat → List (Nat × Int32)} {E : List (Nat × Option Nat)} {N : Nat → Nat} {V : Nat → Nat → Int32} {W : Nat} {g : List z_E}  (hRm : z_Rm (hC A E N V W ++ g, c)) (hf : 1 ≤ f) (hw : 60 ≤ w) : z_Ln L xs fv f w 40 0 [(0, .ref 48)] [] (hC A E N V W ++ g, c) (.inl (some (.int 1))) (hC A E N V W ++ g, c) := by
  have hR0 : ((c.1 ≤ 601024 ∧ c.2 ≤ 7293034) ∧ 1 ≤ f ∧ 60 ≤ w) := ⟨hRm, by omega, by omega⟩
  refine z_Ln.blk (pc' := (if decide (1 = 0) = true then 17 else 6)) (lv' := [(0, .ref 48)]) (st' := []) (H' := hC A E N V W ++ g) (C := []) 0 2 rfl trivial (z_Ln.brF (decide_eq_false (by decide)) ?_)
  refine z_Ln.blk (pc' := (if decide (¬ 0 = 0) = true then 17 else 13)) (lv' := [(0, .ref 48)]) (st' := []) (H' := hC A E N V W ++ g) (C := [((c.1 ≤ 601024 ∧ c.2 ≤ 7293034) ∧ 1 ≤ f ∧ 60 ≤ w)]) 2 3 rfl hR0 (z_Ln.brF (decide_eq_false (by decide)) ?_)
  refine z_Ln.blk (pc' := 18) (lv' := [(0, .ref 48)]) (st' := [.int 1]) (H' := hC A E N V W ++ g) (C := []) 5 2 rfl trivial ?_
  exact z_Ln.ret rfl rfl
set_option maxRecDepth 10000 in
theorem s37_5 {L : Nat} {xs : Nat → Int32} {fv : Value} {f w : Nat} {c : Nat × Nat} {A : Nat → List (Nat × Int32)} {E : List (Nat × Option Nat)} {N : Nat → Nat} {V : Nat → Nat → Int32} {W : Nat} {g : List z_E}  (hRm : z_Rm (hC A E N V W ++ g, c)) (hf : 1 ≤ f) (hw : 60 ≤ w) : z_Ln L xs fv f w 37 0 [(0, .ref 50)] [] (hC A E N V W ++ g, c) (.inl (some (.int 0))) (hC A E N V W ++ g, c) := by
  have hR0 : ((c.1 ≤ 601024 ∧ c.2 ≤ 7293034) ∧ 1 ≤ f ∧ 60 ≤ w) := ⟨hRm, by omega, by omega⟩
  refine z_Ln.blk (pc' := (if decide (1 = 0) = true then 13 else 6)) (lv' := [(0, .ref 50)]) (st' := []) (H' := hC A E N V W ++ g) (C := []) 0 2 rfl trivial (z_Ln.brF (decide_eq_false (by decide)) ?_)
  refine z_Ln.blk (pc' := 14) (lv' := [(0, .ref 50)]) (st' := [.int 0]) (H' := hC A E N V W ++ g) (C := [((c.1 ≤ 601024 ∧ c.2 ≤ 7293034) ∧ 1 ≤ f ∧ 60 ≤ w)]) 2 3 rfl hR0 ?_
  exact z_Ln.ret rfl rfl
set_option maxRecDepth 10000 in
theorem s36_5 {L : Nat} {xs : Nat → Int32} {fv : Value} {f w : Nat} {c : Nat × Nat} {A : Nat → List (Nat × Int32)} {E : List (Nat × Option Nat)} {N : Nat → Nat} {V : Nat → Nat → Int32} {W : Nat} {g : List z_E}  (hRm : z_Rm (hC A E N V W ++ g, c)) (hf : 2 ≤ f) (hw : 120 ≤ w) : z_Ln L xs fv f w 36 0 [(0, .ref 50)] [] (hC A E N V W ++ g, c) (.inl (some (.int 1))) (hC A E N V W ++ g, c) := by
  have hR0 : ((c.1 ≤ 601024 ∧ c.2 ≤ 7293034) ∧ 1 ≤ f ∧ 60 ≤ w) := ⟨hRm, by omega, by omega⟩
  have m37 : z_pg.2.1 37 = 1 := rfl
  refine z_Ln.blk (pc' := 6) (lv' := [(0, .ref 50)]) (st' := [.ref 50, .int 1]) (H' := hC A E N V W ++ g) (C := [((c.1 ≤ 601024 ∧ c.2 ≤ 7293034) ∧ 1 ≤ f ∧ 60 ≤ w), ((c.1 ≤ 601024 ∧ c.2 ≤ 7293034) ∧ 1 ≤ f ∧ 60 ≤ w)]) 0 4 rfl ⟨hR0, hR0⟩ ?_
  refine z_Ln.call (s := 0) (mj := 37) (as := [.ref 50]) (rr := [.int 1]) (v := some (.int 0)) (T1 := (hC A E N V W ++ g, c)) rfl rfl ⟨⟨by omega, by have : z_pg.2.1 37 = 1 := rfl; omega⟩, (by decide : (1 : Nat) ≤ 8), (by decide +kernel : (1 : Nat) ≤ z_pg.2.1 37)⟩ hRm (s37_5 hRm (by omega) (by omega)) ⟨⟨trivial, trivial⟩, ⟨(Or.inl (by decide)), trivial⟩⟩ ?_
  refine z_Ln.blk (pc' := 10) (lv' := [(0, .ref 50)]) (st' := [.int 1]) (H' := hC A E N V W ++ g) (C := []) 5 1 rfl trivial ?_
  exact z_Ln.ret rfl rfl
set_option maxRecDepth 10000 in
theorem s40_5 {L : Nat} {xs : Nat → Int32} {fv : Value} {f w : Nat} {c : Nat × Nat} {A : Nat → List (Nat × Int32)} {E : List (Nat × Option Nat)} {N : Nat → Nat} {V : Nat → Nat → Int32} {W : Nat} {g : List z_E}  (hRm : z_Rm (hC A E N V W ++ g, c)) (hf : 1 ≤ f) (hw : 60 ≤ w) : z_Ln L xs fv f w 40 0 [(0, .ref 50)] [] (hC A E N V W ++ g, c) (.inl (some (.int 1))) (hC A E N V W ++ g, c) := by
  have hR0 : ((c.1 ≤ 601024 ∧ c.2 ≤ 7293034) ∧ 1 ≤ f ∧ 60 ≤ w) := ⟨hRm, by omega, by omega⟩
  refine z_Ln.blk (pc' := (if decide (1 = 0) = true then 17 else 6)) (lv' := [(0, .ref 50)]) (st' := []) (H' := hC A E N V W ++ g) (C := []) 0 2 rfl trivial (z_Ln.brF (decide_eq_false (by decide)) ?_)
  refine z_Ln.blk (pc' := (if decide (¬ 0 = 0) = true then 17 else 13)) (lv' := [(0, .ref 50)]) (st' := []) (H' := hC A E N V W ++ g) (C := [((c.1 ≤ 601024 ∧ c.2 ≤ 7293034) ∧ 1 ≤ f ∧ 60 ≤ w)]) 2 3 rfl hR0 (z_Ln.brF (decide_eq_false (by decide)) ?_)
  refine z_Ln.blk (pc' := 18) (lv' := [(0, .ref 50)]) (st' := [.int 1]) (H' := hC A E N V W ++ g) (C := []) 5 2 rfl trivial ?_
  exact z_Ln.ret rfl rfl
set_option maxRecDepth 10000 in
theorem s37_6 {L : Nat} {xs : Nat → Int32} {fv : Value} {f w : Nat} {c : Nat × Nat} {A : Nat → List (Nat × Int32)} {E : List (Nat × Option Nat)} {N : Nat → Nat} {V : Nat → Nat → Int32} {W : Nat} {g : List z_E}  (hRm : z_Rm (hC A E N V W ++ g, c)) (hf : 1 ≤ f) (hw : 60 ≤ w) : z_Ln L xs fv f w 37 0 [(0, .ref 52)] [] (hC A E N V W ++ g, c) (.inl (some (.int 0))) (hC A E N V W ++ g, c) := by
  have hR0 : ((c.1 ≤ 601024 ∧ c.2 ≤ 7293034) ∧ 1 ≤ f ∧ 60 ≤ w) := ⟨hRm, by omega, by omega⟩
  refine z_Ln.blk (pc' := (if decide (1 = 0) = true then 13 else 6)) (lv' := [(0, .ref 52)]) (st' := []) (H' := hC A E N V W ++ g) (C := []) 0 2 rfl trivial (z_Ln.brF (decide_eq_false (by decide)) ?_)
  refine z_Ln.blk (pc' := 14) (lv' := [(0, .ref 52)]) (st' := [.int 0]) (H' := hC A E N V W ++ g) (C := [((c.1 ≤ 601024 ∧ c.2 ≤ 7293034) ∧ 1 ≤ f ∧ 60 ≤ w)]) 2 3 rfl hR0 ?_
  exact z_Ln.ret rfl rfl
set_option maxRecDepth 10000 in
theorem s36_6 {L : Nat} {xs : Nat → Int32} {fv : Value} {f w : Nat} {c : Nat × Nat} {A : Nat → List (Nat × Int32)} {E : List (Nat × Option Nat)} {N : Nat → Nat} {V : Nat → Nat → Int32} {W : Nat} {g : List z_E}  (hRm : z_Rm (hC A E N V W ++ g, c)) (hf : 2 ≤ f) (hw : 120 ≤ w) : z_Ln L xs fv f w 36 0 [(0, .ref 52)] [] (hC A E N V W ++ g, c) (.inl (some (.int 1))) (hC A E N V W ++ g, c) := by
  have hR0 : ((c.1 ≤ 601024 ∧ c.2 ≤ 7293034) ∧ 1 ≤ f ∧ 60 ≤ w) := ⟨hRm, by omega, by omega⟩
  have m37 : z_pg.2.1 37 = 1 := rfl
  refine z_Ln.blk (pc' := 6) (lv' := [(0, .ref 52)]) (st' := [.ref 52, .int 1]) (H' := hC A E N V W ++ g) (C := [((c.1 ≤ 601024 ∧ c.2 ≤ 7293034) ∧ 1 ≤ f ∧ 60 ≤ w), ((c.1 ≤ 601024 ∧ c.2 ≤ 7293034) ∧ 1 ≤ f ∧ 60 ≤ w)]) 0 4 rfl ⟨hR0, hR0⟩ ?_
  refine z_Ln.call (s := 0) (mj := 37) (as := [.ref 52]) (rr := [.int 1]) (v := some (.int 0)) (T1 := (hC A E N V W ++ g, c)) rfl rfl ⟨⟨by omega, by have : z_pg.2.1 37 = 1 := rfl; omega⟩, (by decide : (1 : Nat) ≤ 8), (by decide +kernel : (1 : Nat) ≤ z_pg.2.1 37)⟩ hRm (s37_6 hRm (by omega) (by omega)) ⟨⟨trivial, trivial⟩, ⟨(Or.inl (by decide)), trivial⟩⟩ ?_
  refine z_Ln.blk (pc' := 10) (lv' := [(0, .ref 52)]) (st' := [.int 1]) (H' := hC A E N V W ++ g) (C := []) 5 1 rfl trivial ?_
  exact z_Ln.ret rfl rfl
set_option maxRecDepth 10000 in
theorem s40_6 {L : Nat} {xs : Nat → Int32} {fv : Value} {f w : Nat} {c : Nat × Nat} {A : Nat → List (Nat × Int32)} {E : List (Nat × Option Nat)} {N : Nat → Nat} {V : Nat → Nat → Int32} {W : Nat} {g : List z_E}  (hRm : z_Rm (hC A E N V W ++ g, c)) (hf : 1 ≤ f) (hw : 60 ≤ w) : z_Ln L xs fv f w 40 0 [(0, .ref 52)] [] (hC A E N V W ++ g, c) (.inl (some (.int 1))) (hC A E N V W ++ g, c) := by
  have hR0 : ((c.1 ≤ 601024 ∧ c.2 ≤ 7293034) ∧ 1 ≤ f ∧ 60 ≤ w) := ⟨hRm, by omega, by omega⟩
  refine z_Ln.blk (pc' := (if decide (1 = 0) = true then 17 else 6)) (lv' := [(0, .ref 52)]) (st' := []) (H' := hC A E N V W ++ g) (C := []) 0 2 rfl trivial (z_Ln.brF (decide_eq_false (by decide)) ?_)
  refine z_Ln.blk (pc' := (if decide (¬ 0 = 0) = true then 17 else 13)) (lv' := [(0, .ref 52)]) (st' := []) (H' := hC A E N V W ++ g) (C := [((c.1 ≤ 601024 ∧ c.2 ≤ 7293034) ∧ 1 ≤ f ∧ 60 ≤ w)]) 2 3 rfl hR0 (z_Ln.brF (decide_eq_false (by decide)) ?_)
  refine z_Ln.blk (pc' := 18) (lv' := [(0, .ref 52)]) (st' := [.int 1]) (H' := hC A E N V W ++ g) (C := []) 5 2 rfl trivial ?_
  exact z_Ln.ret rfl rfl
set_option maxRecDepth 10000 in
theorem s37_7 {L : Nat} {xs : Nat → Int32} {fv : Value} {f w : Nat} {c : Nat × Nat} {A : Nat → List (Nat × Int32)} {E : List (Nat × Option Nat)} {N : Nat → Nat} {V : Nat → Nat → Int32} {W : Nat} {g : List z_E}  (hRm : z_Rm (hC A E N V W ++ g, c)) (hf : 1 ≤ f) (hw : 60 ≤ w) : z_Ln L xs fv f w 37 0 [(0, .ref 54)] [] (hC A E N V W ++ g, c) (.inl (some (.int 0))) (hC A E N V W ++ g, c) := by
  have hR0 : ((c.1 ≤ 601024 ∧ c.2 ≤ 7293034) ∧ 1 ≤ f ∧ 60 ≤ w) := ⟨hRm, by omega, by omega⟩
  refine z_Ln.blk (pc' := (if decide (1 = 0) = true then 13 else 6)) (lv' := [(0, .ref 54)]) (st' := []) (H' := hC A E N V W ++ g) (C := []) 0 2 rfl trivial (z_Ln.brF (decide_eq_false (by decide)) ?_)
  refine z_Ln.blk (pc' := 14) (lv' := [(0, .ref 54)]) (st' := [.int 0]) (H' := hC A E N V W ++ g) (C := [((c.1 ≤ 601024 ∧ c.2 ≤ 7293034) ∧ 1 ≤ f ∧ 60 ≤ w)]) 2 3 rfl hR0 ?_
  exact z_Ln.ret rfl rfl
set_option maxRecDepth 10000 in
theorem s36_7 {L : Nat} {xs : Nat → Int32} {fv : Value} {f w : Nat} {c : Nat × Nat} {A : Nat → List (Nat × Int32)} {E : List (Nat × Option Nat)} {N : Nat → Nat} {V : Nat → Nat → Int32} {W : Nat} {g : List z_E}  (hRm : z_Rm (hC A E N V W ++ g, c)) (hf : 2 ≤ f) (hw : 120 ≤ w) : z_Ln L xs fv f w 36 0 [(0, .ref 54)] [] (hC A E N V W ++ g, c) (.inl (some (.int 1))) (hC A E N V W ++ g, c) := by
  have hR0 : ((c.1 ≤ 601024 ∧ c.2 ≤ 7293034) ∧ 1 ≤ f ∧ 60 ≤ w) := ⟨hRm, by omega, by omega⟩
  have m37 : z_pg.2.1 37 = 1 := rfl
  refine z_Ln.blk (pc' := 6) (lv' := [(0, .ref 54)]) (st' := [.ref 54, .int 1]) (H' := hC A E N V W ++ g) (C := [((c.1 ≤ 601024 ∧ c.2 ≤ 7293034) ∧ 1 ≤ f ∧ 60 ≤ w), ((c.1 ≤ 601024 ∧ c.2 ≤ 7293034) ∧ 1 ≤ f ∧ 60 ≤ w)]) 0 4 rfl ⟨hR0, hR0⟩ ?_
  refine z_Ln.call (s := 0) (mj := 37) (as := [.ref 54]) (rr := [.int 1]) (v := some (.int 0)) (T1 := (hC A E N V W ++ g, c)) rfl rfl ⟨⟨by omega, by have : z_pg.2.1 37 = 1 := rfl; omega⟩, (by decide : (1 : Nat) ≤ 8), (by decide +kernel : (1 : Nat) ≤ z_pg.2.1 37)⟩ hRm (s37_7 hRm (by omega) (by omega)) ⟨⟨trivial, trivial⟩, ⟨(Or.inl (by decide)), trivial⟩⟩ ?_
  refine z_Ln.blk (pc' := 10) (lv' := [(0, .ref 54)]) (st' := [.int 1]) (H' := hC A E N V W ++ g) (C := []) 5 1 rfl trivial ?_
  exact z_Ln.ret rfl rfl
set_option maxRecDepth 10000 in
theorem s40_7 {L : Nat} {xs : Nat → Int32} {fv : Value} {f w : Nat} {c : Nat × Nat} {A : Nat → List (Nat × Int32)} {E : List (Nat × Option Nat)} {N : Nat → Nat} {V : Nat → Nat → Int32} {W : Nat} {g : List z_E}  (hRm : z_Rm (hC A E N V W ++ g, c)) (hf : 1 ≤ f) (hw : 60 ≤ w) : z_Ln L xs fv f w 40 0 [(0, .ref 54)] [] (hC A E N V W ++ g, c) (.inl (some (.int 1))) (hC A E N V W ++ g, c) := by
  have hR0 : ((c.1 ≤ 601024 ∧ c.2 ≤ 7293034) ∧ 1 ≤ f ∧ 60 ≤ w) := ⟨hRm, by omega, by omega⟩
  refine z_Ln.blk (pc' := (if decide (1 = 0) = true then 17 else 6)) (lv' := [(0, .ref 54)]) (st' := []) (H' := hC A E N V W ++ g) (C := []) 0 2 rfl trivial (z_Ln.brF (decide_eq_false (by decide)) ?_)
  refine z_Ln.blk (pc' := (if decide (¬ 0 = 0) = true then 17 else 13)) (lv' := [(0, .ref 54)]) (st' := []) (H' := hC A E N V W ++ g) (C := [((c.1 ≤ 601024 ∧ c.2 ≤ 7293034) ∧ 1 ≤ f ∧ 60 ≤ w)]) 2 3 rfl hR0 (z_Ln.brF (decide_eq_false (by decide)) ?_)
  refine z_Ln.blk (pc' := 18) (lv' := [(0, .ref 54)]) (st' := [.int 1]) (H' := hC A E N V W ++ g) (C := []) 5 2 rfl trivial ?_
  exact z_Ln.ret rfl rfl
set_option maxRecDepth 10000 in
theorem s37_8 {L : Nat} {xs : Nat → Int32} {fv : Value} {f w : Nat} {c : Nat × Nat} {A : Nat → List (Nat × Int32)} {E : List (Nat × Option Nat)} {N : Nat → Nat} {V : Nat → Nat → Int32} {W : Nat} {g : List z_E}  (hRm : z_Rm (hC A E N V W ++ g, c)) (hf : 1 ≤ f) (hw : 60 ≤ w) : z_Ln L xs fv f w 37 0 [(0, .ref 56)] [] (hC A E N V W ++ g, c) (.inl (some (.int 0))) (hC A E N V W ++ g, c) := by
  have hR0 : ((c.1 ≤ 601024 ∧ c.2 ≤ 7293034) ∧ 1 ≤ f ∧ 60 ≤ w) := ⟨hRm, by omega, by omega⟩
  refine z_Ln.blk (pc' := (if decide (1 = 0) = true then 13 else 6)) (lv' := [(0, .ref 56)]) (st' := []) (H' := hC A E N V W ++ g) (C := []) 0 2 rfl trivial (z_Ln.brF (decide_eq_false (by decide)) ?_)
  refine z_Ln.blk (pc' := 14) (lv' := [(0, .ref 56)]) (st' := [.int 0]) (H' := hC A E N V W ++ g) (C := [((c.1 ≤ 601024 ∧ c.2 ≤ 7293034) ∧ 1 ≤ f ∧ 60 ≤ w)]) 2 3 rfl hR0 ?_
  exact z_Ln.ret rfl rfl
set_option maxRecDepth 10000 in
theorem s36_8 {L : Nat} {xs : Nat → Int32} {fv : Value} {f w : Nat} {c : Nat × Nat} {A : Nat → List (Nat × Int32)} {E : List (Nat × Option Nat)} {N : Nat → Nat} {V : Nat → Nat → Int32} {W : Nat} {g : List z_E}  (hRm : z_Rm (hC A E N V W ++ g, c)) (hf : 2 ≤ f) (hw : 120 ≤ w) : z_Ln L xs fv f w 36 0 [(0, .ref 56)] [] (hC A E N V W ++ g, c) (.inl (some (.int 1))) (hC A E N V W ++ g, c) := by
  have hR0 : ((c.1 ≤ 601024 ∧ c.2 ≤ 7293034) ∧ 1 ≤ f ∧ 60 ≤ w) := ⟨hRm, by omega, by omega⟩
  have m37 : z_pg.2.1 37 = 1 := rfl
  refine z_Ln.blk (pc' := 6) (lv' := [(0, .ref 56)]) (st' := [.ref 56, .int 1]) (H' := hC A E N V W ++ g) (C := [((c.1 ≤ 601024 ∧ c.2 ≤ 7293034) ∧ 1 ≤ f ∧ 60 ≤ w), ((c.1 ≤ 601024 ∧ c.2 ≤ 7293034) ∧ 1 ≤ f ∧ 60 ≤ w)]) 0 4 rfl ⟨hR0, hR0⟩ ?_
  refine z_Ln.call (s := 0) (mj := 37) (as := [.ref 56]) (rr := [.int 1]) (v := some (.int 0)) (T1 := (hC A E N V W ++ g, c)) rfl rfl ⟨⟨by omega, by have : z_pg.2.1 37 = 1 := rfl; omega⟩, (by decide : (1 : Nat) ≤ 8), (by decide +kernel : (1 : Nat) ≤ z_pg.2.1 37)⟩ hRm (s37_8 hRm (by omega) (by omega)) ⟨⟨trivial, trivial⟩, ⟨(Or.inl (by decide)), trivial⟩⟩ ?_
  refine z_Ln.blk (pc' := 10) (lv' := [(0, .ref 56)]) (st' := [.int 1]) (H' := hC A E N V W ++ g) (C := []) 5 1 rfl trivial ?_
  exact z_Ln.ret rfl rfl
set_option maxRecDepth 10000 in
theorem s40_8 {L : Nat} {xs : Nat → Int32} {fv : Value} {f w : Nat} {c : Nat × Nat} {A : Nat → List (Nat × Int32)} {E : List (Nat × Option Nat)} {N : Nat → Nat} {V : Nat → Nat → Int32} {W : Nat} {g : List z_E}  (hRm : z_Rm (hC A E N V W ++ g, c)) (hf : 1 ≤ f) (hw : 60 ≤ w) : z_Ln L xs fv f w 40 0 [(0, .ref 56)] [] (hC A E N V W ++ g, c) (.inl (some (.int 1))) (hC A E N V W ++ g, c) := by
  have hR0 : ((c.1 ≤ 601024 ∧ c.2 ≤ 7293034) ∧ 1 ≤ f ∧ 60 ≤ w) := ⟨hRm, by omega, by omega⟩
  refine z_Ln.blk (pc' := (if decide (1 = 0) = true then 17 else 6)) (lv' := [(0, .ref 56)]) (st' := []) (H' := hC A E N V W ++ g) (C := []) 0 2 rfl trivial (z_Ln.brF (decide_eq_false (by decide)) ?_)
  refine z_Ln.blk (pc' := (if decide (¬ 0 = 0) = true then 17 else 13)) (lv' := [(0, .ref 56)]) (st' := []) (H' := hC A E N V W ++ g) (C := [((c.1 ≤ 601024 ∧ c.2 ≤ 7293034) ∧ 1 ≤ f ∧ 60 ≤ w)]) 2 3 rfl hR0 (z_Ln.brF (decide_eq_false (by decide)) ?_)
  refine z_Ln.blk (pc' := 18) (lv' := [(0, .ref 56)]) (st' := [.int 1]) (H' := hC A E N V W ++ g) (C := []) 5 2 rfl trivial ?_
  exact z_Ln.ret rfl rfl
set_option maxRecDepth 10000 in
theorem s37_9 {L : Nat} {xs : Nat → Int32} {fv : Value} {f w : Nat} {c : Nat × Nat} {A : Nat → List (Nat × Int32)} {E : List (Nat × Option Nat)} {N : Nat → Nat} {V : Nat → Nat → Int32} {W : Nat} {g : List z_E}  (hRm : z_Rm (hC A E N V W ++ g, c)) (hf : 1 ≤ f) (hw : 60 ≤ w) : z_Ln L xs fv f w 37 0 [(0, .ref 58)] [] (hC A E N V W ++ g, c) (.inl (some (.int 0))) (hC A E N V W ++ g, c) := by
  have hR0 : ((c.1 ≤ 601024 ∧ c.2 ≤ 7293034) ∧ 1 ≤ f ∧ 60 ≤ w) := ⟨hRm, by omega, by omega⟩
  refine z_Ln.blk (pc' := (if decide (1 = 0) = true then 13 else 6)) (lv' := [(0, .ref 58)]) (st' := []) (H' := hC A E N V W ++ g) (C := []) 0 2 rfl trivial (z_Ln.brF (decide_eq_false (by decide)) ?_)
  refine z_Ln.blk (pc' := 14) (lv' := [(0, .ref 58)]) (st' := [.int 0]) (H' := hC A E N V W ++ g) (C := [((c.1 ≤ 601024 ∧ c.2 ≤ 7293034) ∧ 1 ≤ f ∧ 60 ≤ w)]) 2 3 rfl hR0 ?_
  exact z_Ln.ret rfl rfl
set_option maxRecDepth 10000 in
theorem s36_9 {L : Nat} {xs : Nat → Int32} {fv : Value} {f w : Nat} {c : Nat × Nat} {A : Nat → List (Nat × Int32)} {E : List (Nat × Option Nat)} {N : Nat → Nat} {V : Nat → Nat → Int32} {W : Nat} {g : List z_E}  (hRm : z_Rm (hC A E N V W ++ g, c)) (hf : 2 ≤ f) (hw : 120 ≤ w) : z_Ln L xs fv f w 36 0 [(0, .ref 58)] [] (hC A E N V W ++ g, c) (.inl (some (.int 1))) (hC A E N V W ++ g, c) := by
  have hR0 : ((c.1 ≤ 601024 ∧ c.2 ≤ 7293034) ∧ 1 ≤ f ∧ 60 ≤ w) := ⟨hRm, by omega, by omega⟩
  have m37 : z_pg.2.1 37 = 1 := rfl
  refine z_Ln.blk (pc' := 6) (lv' := [(0, .ref 58)]) (st' := [.ref 58, .int 1]) (H' := hC A E N V W ++ g) (C := [((c.1 ≤ 601024 ∧ c.2 ≤ 7293034) ∧ 1 ≤ f ∧ 60 ≤ w), ((c.1 ≤ 601024 ∧ c.2 ≤ 7293034) ∧ 1 ≤ f ∧ 60 ≤ w)]) 0 4 rfl ⟨hR0, hR0⟩ ?_
  refine z_Ln.call (s := 0) (mj := 37) (as := [.ref 58]) (rr := [.int 1]) (v := some (.int 0)) (T1 := (hC A E N V W ++ g, c)) rfl rfl ⟨⟨by omega, by have : z_pg.2.1 37 = 1 := rfl; omega⟩, (by decide : (1 : Nat) ≤ 8), (by decide +kernel : (1 : Nat) ≤ z_pg.2.1 37)⟩ hRm (s37_9 hRm (by omega) (by omega)) ⟨⟨trivial, trivial⟩, ⟨(Or.inl (by decide)), trivial⟩⟩ ?_
  refine z_Ln.blk (pc' := 10) (lv' := [(0, .ref 58)]) (st' := [.int 1]) (H' := hC A E N V W ++ g) (C := []) 5 1 rfl trivial ?_
  exact z_Ln.ret rfl rfl
set_option maxRecDepth 10000 in
theorem s40_9 {L : Nat} {xs : Nat → Int32} {fv : Value} {f w : Nat} {c : Nat × Nat} {A : Nat → List (Nat × Int32)} {E : List (Nat × Option Nat)} {N : Nat → Nat} {V : Nat → Nat → Int32} {W : Nat} {g : List z_E}  (hRm : z_Rm (hC A E N V W ++ g, c)) (hf : 1 ≤ f) (hw : 60 ≤ w) : z_Ln L xs fv f w 40 0 [(0, .ref 58)] [] (hC A E N V W ++ g, c) (.inl (some (.int 1))) (hC A E N V W ++ g, c) := by
  have hR0 : ((c.1 ≤ 601024 ∧ c.2 ≤ 7293034) ∧ 1 ≤ f ∧ 60 ≤ w) := ⟨hRm, by omega, by omega⟩
  refine z_Ln.blk (pc' := (if decide (1 = 0) = true then 17 else 6)) (lv' := [(0, .ref 58)]) (st' := []) (H' := hC A E N V W ++ g) (C := []) 0 2 rfl trivial (z_Ln.brF (decide_eq_false (by decide)) ?_)
  refine z_Ln.blk (pc' := (if decide (¬ 0 = 0) = true then 17 else 13)) (lv' := [(0, .ref 58)]) (st' := []) (H' := hC A E N V W ++ g) (C := [((c.1 ≤ 601024 ∧ c.2 ≤ 7293034) ∧ 1 ≤ f ∧ 60 ≤ w)]) 2 3 rfl hR0 (z_Ln.brF (decide_eq_false (by decide)) ?_)
  refine z_Ln.blk (pc' := 18) (lv' := [(0, .ref 58)]) (st' := [.int 1]) (H' := hC A E N V W ++ g) (C := []) 5 2 rfl trivial ?_
  exact z_Ln.ret rfl rfl
set_option maxRecDepth 10000 in
theorem s37_10 {L : Nat} {xs : Nat → Int32} {fv : Value} {f w : Nat} {c : Nat × Nat} {A : Nat → List (Nat × Int32)} {E : List (Nat × Option Nat)} {N : Nat → Nat} {V : Nat → Nat → Int32} {W : Nat} {g : List z_E}  (hRm : z_Rm (hC A E N V W ++ g, c)) (hf : 1 ≤ f) (hw : 60 ≤ w) : z_Ln L xs fv f w 37 0 [(0, .ref 60)] [] (hC A E N V W ++ g, c) (.inl (some (.int 0))) (hC A E N V W ++ g, c) := by
  have hR0 : ((c.1 ≤ 601024 ∧ c.2 ≤ 7293034) ∧ 1 ≤ f ∧ 60 ≤ w) := ⟨hRm, by omega, by omega⟩
  refine z_Ln.blk (pc' := (if decide (1 = 0) = true then 13 else 6)) (lv' := [(0, .ref 60)]) (st' := []) (H' := hC A E N V W ++ g) (C := []) 0 2 rfl trivial (z_Ln.brF (decide_eq_false (by decide)) ?_)
  refine z_Ln.blk (pc' := 14) (lv' := [(0, .ref 60)]) (st' := [.int 0]) (H' := hC A E N V W ++ g) (C := [((c.1 ≤ 601024 ∧ c.2 ≤ 7293034) ∧ 1 ≤ f ∧ 60 ≤ w)]) 2 3 rfl hR0 ?_
  exact z_Ln.ret rfl rfl
set_option maxRecDepth 10000 in
theorem s36_10 {L : Nat} {xs : Nat → Int32} {fv : Value} {f w : Nat} {c : Nat × Nat} {A : Nat → List (Nat × Int32)} {E : List (Nat × Option Nat)} {N : Nat → Nat} {V : Nat → Nat → Int32} {W : Nat} {g : List z_E}  (hRm : z_Rm (hC A E N V W ++ g, c)) (hf : 2 ≤ f) (hw : 120 ≤ w) : z_Ln L xs fv f w 36 0 [(0, .ref 60)] [] (hC A E N V W ++ g, c) (.inl (some (.int 1))) (hC A E N V W ++ g, c) := by
  have hR0 : ((c.1 ≤ 601024 ∧ c.2 ≤ 7293034) ∧ 1 ≤ f ∧ 60 ≤ w) := ⟨hRm, by omega, by omega⟩
  have m37 : z_pg.2.1 37 = 1 := rfl
  refine z_Ln.blk (pc' := 6) (lv' := [(0, .ref 60)]) (st' := [.ref 60, .int 1]) (H' := hC A E N V W ++ g) (C := [((c.1 ≤ 601024 ∧ c.2 ≤ 7293034) ∧ 1 ≤ f ∧ 60 ≤ w), ((c.1 ≤ 601024 ∧ c.2 ≤ 7293034) ∧ 1 ≤ f ∧ 60 ≤ w)]) 0 4 rfl ⟨hR0, hR0⟩ ?_
  refine z_Ln.call (s := 0) (mj := 37) (as := [.ref 60]) (rr := [.int 1]) (v := some (.int 0)) (T1 := (hC A E N V W ++ g, c)) rfl rfl ⟨⟨by omega, by have : z_pg.2.1 37 = 1 := rfl; omega⟩, (by decide : (1 : Nat) ≤ 8), (by decide +kernel : (1 : Nat) ≤ z_pg.2.1 37)⟩ hRm (s37_10 hRm (by omega) (by omega)) ⟨⟨trivial, trivial⟩, ⟨(Or.inl (by decide)), trivial⟩⟩ ?_
  refine z_Ln.blk (pc' := 10) (lv' := [(0, .ref 60)]) (st' := [.int 1]) (H' := hC A E N V W ++ g) (C := []) 5 1 rfl trivial ?_
  exact z_Ln.ret rfl rfl
set_option maxRecDepth 10000 in
theorem s40_10 {L : Nat} {xs : Nat → Int32} {fv : Value} {f w : Nat} {c : Nat × Nat} {A : Nat → List (Nat × Int32)} {E : List (Nat × Option Nat)} {N : Nat → Nat} {V : Nat → Nat → Int32} {W : Nat} {g : List z_E}  (hRm : z_Rm (hC A E N V W ++ g, c)) (hf : 1 ≤ f) (hw : 60 ≤ w) : z_Ln L xs fv f w 40 0 [(0, .ref 60)] [] (hC A E N V W ++ g, c) (.inl (some (.int 1))) (hC A E N V W ++ g, c) := by
  have hR0 : ((c.1 ≤ 601024 ∧ c.2 ≤ 7293034) ∧ 1 ≤ f ∧ 60 ≤ w) := ⟨hRm, by omega, by omega⟩
  refine z_Ln.blk (pc' := (if decide (1 = 0) = true then 17 else 6)) (lv' := [(0, .ref 60)]) (st' := []) (H' := hC A E N V W ++ g) (C := []) 0 2 rfl trivial (z_Ln.brF (decide_eq_false (by decide)) ?_)
  refine z_Ln.blk (pc' := (if decide (¬ 0 = 0) = true then 17 else 13)) (lv' := [(0, .ref 60)]) (st' := []) (H' := hC A E N V W ++ g) (C := [((c.1 ≤ 601024 ∧ c.2 ≤ 7293034) ∧ 1 ≤ f ∧ 60 ≤ w)]) 2 3 rfl hR0 (z_Ln.brF (decide_eq_false (by decide)) ?_)
  refine z_Ln.blk (pc' := 18) (lv' := [(0, .ref 60)]) (st' := [.int 1]) (H' := hC A E N V W ++ g) (C := []) 5 2 rfl trivial ?_
  exact z_Ln.ret rfl rfl
set_option maxRecDepth 10000 in
theorem s37_11 {L : Nat} {xs : Nat → Int32} {fv : Value} {f w : Nat} {c : Nat × Nat} {A : Nat → List (Nat × Int32)} {E : List (Nat × Option Nat)} {N : Nat → Nat} {V : Nat → Nat → Int32} {W : Nat} {g : List z_E}  (hRm : z_Rm (hC A E N V W ++ g, c)) (hf : 1 ≤ f) (hw : 60 ≤ w) : z_Ln L xs fv f w 37 0 [(0, .ref 62)] [] (hC A E N V W ++ g, c) (.inl (some (.int 0))) (hC A E N V W ++ g, c) := by
  have hR0 : ((c.1 ≤ 601024 ∧ c.2 ≤ 7293034) ∧ 1 ≤ f ∧ 60 ≤ w) := ⟨hRm, by omega, by omega⟩
  refine z_Ln.blk (pc' := (if decide (1 = 0) = true then 13 else 6)) (lv' := [(0, .ref 62)]) (st' := []) (H' := hC A E N V W ++ g) (C := []) 0 2 rfl trivial (z_Ln.brF (decide_eq_false (by decide)) ?_)
  refine z_Ln.blk (pc' := 14) (lv' := [(0, .ref 62)]) (st' := [.int 0]) (H' := hC A E N V W ++ g) (C := [((c.1 ≤ 601024 ∧ c.2 ≤ 7293034) ∧ 1 ≤ f ∧ 60 ≤ w)]) 2 3 rfl hR0 ?_
  exact z_Ln.ret rfl rfl
set_option maxRecDepth 10000 in
theorem s36_11 {L : Nat} {xs : Nat → Int32} {fv : Value} {f w : Nat} {c : Nat × Nat} {A : Nat → List (Nat × Int32)} {E : List (Nat × Option Nat)} {N : Nat → Nat} {V : Nat → Nat → Int32} {W : Nat} {g : List z_E}  (hRm : z_Rm (hC A E N V W ++ g, c)) (hf : 2 ≤ f) (hw : 120 ≤ w) : z_Ln L xs fv f w 36 0 [(0, .ref 62)] [] (hC A E N V W ++ g, c) (.inl (some (.int 1))) (hC A E N V W ++ g, c) := by
  have hR0 : ((c.1 ≤ 601024 ∧ c.2 ≤ 7293034) ∧ 1 ≤ f ∧ 60 ≤ w) := ⟨hRm, by omega, by omega⟩
  have m37 : z_pg.2.1 37 = 1 := rfl
  refine z_Ln.blk (pc' := 6) (lv' := [(0, .ref 62)]) (st' := [.ref 62, .int 1]) (H' := hC A E N V W ++ g) (C := [((c.1 ≤ 601024 ∧ c.2 ≤ 7293034) ∧ 1 ≤ f ∧ 60 ≤ w), ((c.1 ≤ 601024 ∧ c.2 ≤ 7293034) ∧ 1 ≤ f ∧ 60 ≤ w)]) 0 4 rfl ⟨hR0, hR0⟩ ?_
  refine z_Ln.call (s := 0) (mj := 37) (as := [.ref 62]) (rr := [.int 1]) (v := some (.int 0)) (T1 := (hC A E N V W ++ g, c)) rfl rfl ⟨⟨by omega, by have : z_pg.2.1 37 = 1 := rfl; omega⟩, (by decide : (1 : Nat) ≤ 8), (by decide +kernel : (1 : Nat) ≤ z_pg.2.1 37)⟩ hRm (s37_11 hRm (by omega) (by omega)) ⟨⟨trivial, trivial⟩, ⟨(Or.inl (by decide)), trivial⟩⟩ ?_
  refine z_Ln.blk (pc' := 10) (lv' := [(0, .ref 62)]) (st' := [.int 1]) (H' := hC A E N V W ++ g) (C := []) 5 1 rfl trivial ?_
  exact z_Ln.ret rfl rfl
set_option maxRecDepth 10000 in
theorem s40_11 {L : Nat} {xs : Nat → Int32} {fv : Value} {f w : Nat} {c : Nat × Nat} {A : Nat → List (Nat × Int32)} {E : List (Nat × Option Nat)} {N : Nat → Nat} {V : Nat → Nat → Int32} {W : Nat} {g : List z_E}  (hRm : z_Rm (hC A E N V W ++ g, c)) (hf : 1 ≤ f) (hw : 60 ≤ w) : z_Ln L xs fv f w 40 0 [(0, .ref 62)] [] (hC A E N V W ++ g, c) (.inl (some (.int 1))) (hC A E N V W ++ g, c) := by
  have hR0 : ((c.1 ≤ 601024 ∧ c.2 ≤ 7293034) ∧ 1 ≤ f ∧ 60 ≤ w) := ⟨hRm, by omega, by omega⟩
  refine z_Ln.blk (pc' := (if decide (1 = 0) = true then 17 else 6)) (lv' := [(0, .ref 62)]) (st' := []) (H' := hC A E N V W ++ g) (C := []) 0 2 rfl trivial (z_Ln.brF (decide_eq_false (by decide)) ?_)
  refine z_Ln.blk (pc' := (if decide (¬ 0 = 0) = true then 17 else 13)) (lv' := [(0, .ref 62)]) (st' := []) (H' := hC A E N V W ++ g) (C := [((c.1 ≤ 601024 ∧ c.2 ≤ 7293034) ∧ 1 ≤ f ∧ 60 ≤ w)]) 2 3 rfl hR0 (z_Ln.brF (decide_eq_false (by decide)) ?_)
  refine z_Ln.blk (pc' := 18) (lv' := [(0, .ref 62)]) (st' := [.int 1]) (H' := hC A E N V W ++ g) (C := []) 5 2 rfl trivial ?_
  exact z_Ln.ret rfl rfl
set_option maxRecDepth 10000 in
theorem s37_12 {L : Nat} {xs : Nat → Int32} {fv : Value} {f w : Nat} {c : Nat × Nat} {A : Nat → List (Nat × Int32)} {E : List (Nat × Option Nat)} {N : Nat → Nat} {V : Nat → Nat → Int32} {W : Nat} {g : List z_E}  (hRm : z_Rm (hC A E N V W ++ g, c)) (hf : 1 ≤ f) (hw : 60 ≤ w) : z_Ln L xs fv f w 37 0 [(0, .ref 64)] [] (hC A E N V W ++ g, c) (.inl (some (.int 0))) (hC A E N V W ++ g, c) := by
  have hR0 : ((c.1 ≤ 601024 ∧ c.2 ≤ 7293034) ∧ 1 ≤ f ∧ 60 ≤ w) := ⟨hRm, by omega, by omega⟩
  refine z_Ln.blk (pc' := (if decide (1 = 0) = true then 13 else 6)) (lv' := [(0, .ref 64)]) (st' := []) (H' := hC A E N V W ++ g) (C := []) 0 2 rfl trivial (z_Ln.brF (decide_eq_false (by decide)) ?_)
  refine z_Ln.blk (pc' := 14) (lv' := [(0, .ref 64)]) (st' := [.int 0]) (H' := hC A E N V W ++ g) (C := [((c.1 ≤ 601024 ∧ c.2 ≤ 7293034) ∧ 1 ≤ f ∧ 60 ≤ w)]) 2 3 rfl hR0 ?_
  exact z_Ln.ret rfl rfl
set_option maxRecDepth 10000 in
theorem s36_12 {L : Nat} {xs : Nat → Int32} {fv : Value} {f w : Nat} {c : Nat × Nat} {A : Nat → List (Nat × Int32)} {E : List (Nat × Option Nat)} {N : Nat → Nat} {V : Nat → Nat → Int32} {W : Nat} {g : List z_E}  (hRm : z_Rm (hC A E N V W ++ g, c)) (hf : 2 ≤ f) (hw : 120 ≤ w) : z_Ln L xs fv f w 36 0 [(0, .ref 64)] [] (hC A E N V W ++ g, c) (.inl (some (.int 1))) (hC A E N V W ++ g, c) := by
  have hR0 : ((c.1 ≤ 601024 ∧ c.2 ≤ 7293034) ∧ 1 ≤ f ∧ 60 ≤ w) := ⟨hRm, by omega, by omega⟩
  have m37 : z_pg.2.1 37 = 1 := rfl
  refine z_Ln.blk (pc' := 6) (lv' := [(0, .ref 64)]) (st' := [.ref 64, .int 1]) (H' := hC A E N V W ++ g) (C := [((c.1 ≤ 601024 ∧ c.2 ≤ 7293034) ∧ 1 ≤ f ∧ 60 ≤ w), ((c.1 ≤ 601024 ∧ c.2 ≤ 7293034) ∧ 1 ≤ f ∧ 60 ≤ w)]) 0 4 rfl ⟨hR0, hR0⟩ ?_
  refine z_Ln.call (s := 0) (mj := 37) (as := [.ref 64]) (rr := [.int 1]) (v := some (.int 0)) (T1 := (hC A E N V W ++ g, c)) rfl rfl ⟨⟨by omega, by have : z_pg.2.1 37 = 1 := rfl; omega⟩, (by decide : (1 : Nat) ≤ 8), (by decide +kernel : (1 : Nat) ≤ z_pg.2.1 37)⟩ hRm (s37_12 hRm (by omega) (by omega)) ⟨⟨trivial, trivial⟩, ⟨(Or.inl (by decide)), trivial⟩⟩ ?_
  refine z_Ln.blk (pc' := 10) (lv' := [(0, .ref 64)]) (st' := [.int 1]) (H' := hC A E N V W ++ g) (C := []) 5 1 rfl trivial ?_
  exact z_Ln.ret rfl rfl
set_option maxRecDepth 10000 in
theorem s40_12 {L : Nat} {xs : Nat → Int32} {fv : Value} {f w : Nat} {c : Nat × Nat} {A : Nat → List (Nat × Int32)} {E : List (Nat × Option Nat)} {N : Nat → Nat} {V : Nat → Nat → Int32} {W : Nat} {g : List z_E}  (hRm : z_Rm (hC A E N V W ++ g, c)) (hf : 1 ≤ f) (hw : 60 ≤ w) : z_Ln L xs fv f w 40 0 [(0, .ref 64)] [] (hC A E N V W ++ g, c) (.inl (some (.int 1))) (hC A E N V W ++ g, c) := by
  have hR0 : ((c.1 ≤ 601024 ∧ c.2 ≤ 7293034) ∧ 1 ≤ f ∧ 60 ≤ w) := ⟨hRm, by omega, by omega⟩
  refine z_Ln.blk (pc' := (if decide (1 = 0) = true then 17 else 6)) (lv' := [(0, .ref 64)]) (st' := []) (H' := hC A E N V W ++ g) (C := []) 0 2 rfl trivial (z_Ln.brF (decide_eq_false (by decide)) ?_)
  refine z_Ln.blk (pc' := (if decide (¬ 0 = 0) = true then 17 else 13)) (lv' := [(0, .ref 64)]) (st' := []) (H' := hC A E N V W ++ g) (C := [((c.1 ≤ 601024 ∧ c.2 ≤ 7293034) ∧ 1 ≤ f ∧ 60 ≤ w)]) 2 3 rfl hR0 (z_Ln.brF (decide_eq_false (by decide)) ?_)
  refine z_Ln.blk (pc' := 18) (lv' := [(0, .ref 64)]) (st' := [.int 1]) (H' := hC A E N V W ++ g) (C := []) 5 2 rfl trivial ?_
  exact z_Ln.ret rfl rfl
set_option maxRecDepth 10000 in
theorem s37_13 {L : Nat} {xs : Nat → Int32} {fv : Value} {f w : Nat} {c : Nat × Nat} {A : Nat → List (Nat × Int32)} {E : List (Nat × Option Nat)} {N : Nat → Nat} {V : Nat → Nat → Int32} {W : Nat} {g : List z_E}  (hRm : z_Rm (hC A E N V W ++ g, c)) (hf : 1 ≤ f) (hw : 60 ≤ w) : z_Ln L xs fv f w 37 0 [(0, .ref 66)] [] (hC A E N V W ++ g, c) (.inl (some (.int 0))) (hC A E N V W ++ g, c) := by
  have hR0 : ((c.1 ≤ 601024 ∧ c.2 ≤ 7293034) ∧ 1 ≤ f ∧ 60 ≤ w) := ⟨hRm, by omega, by omega⟩
  refine z_Ln.blk (pc' := (if decide (1 = 0) = true then 13 else 6)) (lv' := [(0, .ref 66)]) (st' := []) (H' := hC A E N V W ++ g) (C := []) 0 2 rfl trivial (z_Ln.brF (decide_eq_false (by decide)) ?_)
  refine z_Ln.blk (pc' := 14) (lv' := [(0, .ref 66)]) (st' := [.int 0]) (H' := hC A E N V W ++ g) (C := [((c.1 ≤ 601024 ∧ c.2 ≤ 7293034) ∧ 1 ≤ f ∧ 60 ≤ w)]) 2 3 rfl hR0 ?_
  exact z_Ln.ret rfl rfl
set_option maxRecDepth 10000 in
theorem s36_13 {L : Nat} {xs : Nat → Int32} {fv : Value} {f w : Nat} {c : Nat × Nat} {A : Nat → List (Nat × Int32)} {E : List (Nat × Option Nat)} {N : Nat → Nat} {V : Nat → Nat → Int32} {W : Nat} {g : List z_E}  (hRm : z_Rm (hC A E N V W ++ g, c)) (hf : 2 ≤ f) (hw : 120 ≤ w) : z_Ln L xs fv f w 36 0 [(0, .ref 66)] [] (hC A E N V W ++ g, c) (.inl (some (.int 1))) (hC A E N V W ++ g, c) := by
  have hR0 : ((c.1 ≤ 601024 ∧ c.2 ≤ 7293034) ∧ 1 ≤ f ∧ 60 ≤ w) := ⟨hRm, by omega, by omega⟩
  have m37 : z_pg.2.1 37 = 1 := rfl
  refine z_Ln.blk (pc' := 6) (lv' := [(0, .ref 66)]) (st' := [.ref 66, .int 1]) (H' := hC A E N V W ++ g) (C := [((c.1 ≤ 601024 ∧ c.2 ≤ 7293034) ∧ 1 ≤ f ∧ 60 ≤ w), ((c.1 ≤ 601024 ∧ c.2 ≤ 7293034) ∧ 1 ≤ f ∧ 60 ≤ w)]) 0 4 rfl ⟨hR0, hR0⟩ ?_
  refine z_Ln.call (s := 0) (mj := 37) (as := [.ref 66]) (rr := [.int 1]) (v := some (.int 0)) (T1 := (hC A E N V W ++ g, c)) rfl rfl ⟨⟨by omega, by have : z_pg.2.1 37 = 1 := rfl; omega⟩, (by decide : (1 : Nat) ≤ 8), (by decide +kernel : (1 : Nat) ≤ z_pg.2.1 37)⟩ hRm (s37_13 hRm (by omega) (by omega)) ⟨⟨trivial, trivial⟩, ⟨(Or.inl (by decide)), trivial⟩⟩ ?_
  refine z_Ln.blk (pc' := 10) (lv' := [(0, .ref 66)]) (st' := [.int 1]) (H' := hC A E N V W ++ g) (C := []) 5 1 rfl trivial ?_
  exact z_Ln.ret rfl rfl
set_option maxRecDepth 10000 in
theorem s40_13 {L : Nat} {xs : Nat → Int32} {fv : Value} {f w : Nat} {c : Nat × Nat} {A : Nat → List (Nat × Int32)} {E : List (Nat × Option Nat)} {N : Nat → Nat} {V : Nat → Nat → Int32} {W : Nat} {g : List z_E}  (hRm : z_Rm (hC A E N V W ++ g, c)) (hf : 1 ≤ f) (hw : 60 ≤ w) : z_Ln L xs fv f w 40 0 [(0, .ref 66)] [] (hC A E N V W ++ g, c) (.inl (some (.int 1))) (hC A E N V W ++ g, c) := by
  have hR0 : ((c.1 ≤ 601024 ∧ c.2 ≤ 7293034) ∧ 1 ≤ f ∧ 60 ≤ w) := ⟨hRm, by omega, by omega⟩
  refine z_Ln.blk (pc' := (if decide (1 = 0) = true then 17 else 6)) (lv' := [(0, .ref 66)]) (st' := []) (H' := hC A E N V W ++ g) (C := []) 0 2 rfl trivial (z_Ln.brF (decide_eq_false (by decide)) ?_)
  refine z_Ln.blk (pc' := (if decide (¬ 0 = 0) = true then 17 else 13)) (lv' := [(0, .ref 66)]) (st' := []) (H' := hC A E N V W ++ g) (C := [((c.1 ≤ 601024 ∧ c.2 ≤ 7293034) ∧ 1 ≤ f ∧ 60 ≤ w)]) 2 3 rfl hR0 (z_Ln.brF (decide_eq_false (by decide)) ?_)
  refine z_Ln.blk (pc' := 18) (lv' := [(0, .ref 66)]) (st' := [.int 1]) (H' := hC A E N V W ++ g) (C := []) 5 2 rfl trivial ?_
  exact z_Ln.ret rfl rfl
set_option maxRecDepth 10000 in
theorem s37_14 {L : Nat} {xs : Nat → Int32} {fv : Value} {f w : Nat} {c : Nat × Nat} {A : Nat → List (Nat × Int32)} {E : List (Nat × Option Nat)} {N : Nat → Nat} {V : Nat → Nat → Int32} {W : Nat} {g : List z_E}  (hRm : z_Rm (hC A E N V W ++ g, c)) (hf : 1 ≤ f) (hw : 60 ≤ w) : z_Ln L xs fv f w 37 0 [(0, .ref 68)] [] (hC A E N V W ++ g, c) (.inl (some (.int 0))) (hC A E N V W ++ g, c) := by
  have hR0 : ((c.1 ≤ 601024 ∧ c.2 ≤ 7293034) ∧ 1 ≤ f ∧ 60 ≤ w) := ⟨hRm, by omega, by omega⟩
  refine z_Ln.blk (pc' := (if decide (1 = 0) = true then 13 else 6)) (lv' := [(0, .ref 68)]) (st' := []) (H' := hC A E N V W ++ g) (C := []) 0 2 rfl trivial (z_Ln.brF (decide_eq_false (by decide)) ?_)
  refine z_Ln.blk (pc' := 14) (lv' := [(0, .ref 68)]) (st' := [.int 0]) (H' := hC A E N V W ++ g) (C := [((c.1 ≤ 601024 ∧ c.2 ≤ 7293034) ∧ 1 ≤ f ∧ 60 ≤ w)]) 2 3 rfl hR0 ?_
  exact z_Ln.ret rfl rfl
set_option maxRecDepth 10000 in
theorem s36_14 {L : Nat} {xs : Nat → Int32} {fv : Value} {f w : Nat} {c : Nat × Nat} {A : Nat → List (Nat × Int32)} {E : List (Nat × Option Nat)} {N : Nat → Nat} {V : Nat → Nat → Int32} {W : Nat} {g : List z_E}  (hRm : z_Rm (hC A E N V W ++ g, c)) (hf : 2 ≤ f) (hw : 120 ≤ w) : z_Ln L xs fv f w 36 0 [(0, .ref 68)] [] (hC A E N V W ++ g, c) (.inl (some (.int 1))) (hC A E N V W ++ g, c) := by
  have hR0 : ((c.1 ≤ 601024 ∧ c.2 ≤ 7293034) ∧ 1 ≤ f ∧ 60 ≤ w) := ⟨hRm, by omega, by omega⟩
  have m37 : z_pg.2.1 37 = 1 := rfl
  refine z_Ln.blk (pc' := 6) (lv' := [(0, .ref 68)]) (st' := [.ref 68, .int 1]) (H' := hC A E N V W ++ g) (C := [((c.1 ≤ 601024 ∧ c.2 ≤ 7293034) ∧ 1 ≤ f ∧ 60 ≤ w), ((c.1 ≤ 601024 ∧ c.2 ≤ 7293034) ∧ 1 ≤ f ∧ 60 ≤ w)]) 0 4 rfl ⟨hR0, hR0⟩ ?_
  refine z_Ln.call (s := 0) (mj := 37) (as := [.ref 68]) (rr := [.int 1]) (v := some (.int 0)) (T1 := (hC A E N V W ++ g, c)) rfl rfl ⟨⟨by omega, by have : z_pg.2.1 37 = 1 := rfl; omega⟩, (by decide : (1 : Nat) ≤ 8), (by decide +kernel : (1 : Nat) ≤ z_pg.2.1 37)⟩ hRm (s37_14 hRm (by omega) (by omega)) ⟨⟨trivial, trivial⟩, ⟨(Or.inl (by decide)), trivial⟩⟩ ?_
  refine z_Ln.blk (pc' := 10) (lv' := [(0, .ref 68)]) (st' := [.int 1]) (H' := hC A E N V W ++ g) (C := []) 5 1 rfl trivial ?_
  exact z_Ln.ret rfl rfl
set_option maxRecDepth 10000 in
theorem s40_14 {L : Nat} {xs : Nat → Int32} {fv : Value} {f w : Nat} {c : Nat × Nat} {A : Nat → List (Nat × Int32)} {E : List (Nat × Option Nat)} {N : Nat → Nat} {V : Nat → Nat → Int32} {W : Nat} {g : List z_E}  (hRm : z_Rm (hC A E N V W ++ g, c)) (hf : 1 ≤ f) (hw : 60 ≤ w) : z_Ln L xs fv f w 40 0 [(0, .ref 68)] [] (hC A E N V W ++ g, c) (.inl (some (.int 1))) (hC A E N V W ++ g, c) := by
  have hR0 : ((c.1 ≤ 601024 ∧ c.2 ≤ 7293034) ∧ 1 ≤ f ∧ 60 ≤ w) := ⟨hRm, by omega, by omega⟩
  refine z_Ln.blk (pc' := (if decide (1 = 0) = true then 17 else 6)) (lv' := [(0, .ref 68)]) (st' := []) (H' := hC A E N V W ++ g) (C := []) 0 2 rfl trivial (z_Ln.brF (decide_eq_false (by decide)) ?_)
  refine z_Ln.blk (pc' := (if decide (¬ 0 = 0) = true then 17 else 13)) (lv' := [(0, .ref 68)]) (st' := []) (H' := hC A E N V W ++ g) (C := [((c.1 ≤ 601024 ∧ c.2 ≤ 7293034) ∧ 1 ≤ f ∧ 60 ≤ w)]) 2 3 rfl hR0 (z_Ln.brF (decide_eq_false (by decide)) ?_)
  refine z_Ln.blk (pc' := 18) (lv' := [(0, .ref 68)]) (st' := [.int 1]) (H' := hC A E N V W ++ g) (C := []) 5 2 rfl trivial ?_
  exact z_Ln.ret rfl rfl
set_option maxRecDepth 10000 in
theorem s37_15 {L : Nat} {xs : Nat → Int32} {fv : Value} {f w : Nat} {c : Nat × Nat} {A : Nat → List (Nat × Int32)} {E : List (Nat × Option Nat)} {N : Nat → Nat} {V : Nat → Nat → Int32} {W : Nat} {g : List z_E}  (hRm : z_Rm (hC A E N V W ++ g, c)) (hf : 1 ≤ f) (hw : 60 ≤ w) : z_Ln L xs fv f w 37 0 [(0, .ref 70)] [] (hC A E N V W ++ g, c) (.inl (some (.int 0))) (hC A E N V W ++ g, c) := by
  have hR0 : ((c.1 ≤ 601024 ∧ c.2 ≤ 7293034) ∧ 1 ≤ f ∧ 60 ≤ w) := ⟨hRm, by omega, by omega⟩
  refine z_Ln.blk (pc' := (if decide (1 = 0) = true then 13 else 6)) (lv' := [(0, .ref 70)]) (st' := []) (H' := hC A E N V W ++ g) (C := []) 0 2 rfl trivial (z_Ln.brF (decide_eq_false (by decide)) ?_)
  refine z_Ln.blk (pc' := 14) (lv' := [(0, .ref 70)]) (st' := [.int 0]) (H' := hC A E N V W ++ g) (C := [((c.1 ≤ 601024 ∧ c.2 ≤ 7293034) ∧ 1 ≤ f ∧ 60 ≤ w)]) 2 3 rfl hR0 ?_
  exact z_Ln.ret rfl rfl
set_option maxRecDepth 10000 in
theorem s36_15 {L : Nat} {xs : Nat → Int32} {fv : Value} {f w : Nat} {c : Nat × Nat} {A : Nat → List (Nat × Int32)} {E : List (Nat × Option Nat)} {N : Nat → Nat} {V : Nat → Nat → Int32} {W : Nat} {g : List z_E}  (hRm : z_Rm (hC A E N V W ++ g, c)) (hf : 2 ≤ f) (hw : 120 ≤ w) : z_Ln L xs fv f w 36 0 [(0, .ref 70)] [] (hC A E N V W ++ g, c) (.inl (some (.int 2))) (hC A E N V W ++ g, c) := by
  have hR0 : ((c.1 ≤ 601024 ∧ c.2 ≤ 7293034) ∧ 1 ≤ f ∧ 60 ≤ w) := ⟨hRm, by omega, by omega⟩
  have m37 : z_pg.2.1 37 = 1 := rfl
  refine z_Ln.blk (pc' := 6) (lv' := [(0, .ref 70)]) (st' := [.ref 70, .int 2]) (H' := hC A E N V W ++ g) (C := [((c.1 ≤ 601024 ∧ c.2 ≤ 7293034) ∧ 1 ≤ f ∧ 60 ≤ w), ((c.1 ≤ 601024 ∧ c.2 ≤ 7293034) ∧ 1 ≤ f ∧ 60 ≤ w)]) 0 4 rfl ⟨hR0, hR0⟩ ?_
  refine z_Ln.call (s := 0) (mj := 37) (as := [.ref 70]) (rr := [.int 2]) (v := some (.int 0)) (T1 := (hC A E N V W ++ g, c)) rfl rfl ⟨⟨by omega, by have : z_pg.2.1 37 = 1 := rfl; omega⟩, (by decide : (1 : Nat) ≤ 8), (by decide +kernel : (1 : Nat) ≤ z_pg.2.1 37)⟩ hRm (s37_15 hRm (by omega) (by omega)) ⟨⟨trivial, trivial⟩, ⟨(Or.inl (by decide)), trivial⟩⟩ ?_
  refine z_Ln.blk (pc' := 10) (lv' := [(0, .ref 70)]) (st' := [.int 2]) (H' := hC A E N V W ++ g) (C := []) 5 1 rfl trivial ?_
  exact z_Ln.ret rfl rfl
set_option maxRecDepth 10000 in
theorem s40_15 {L : Nat} {xs : Nat → Int32} {fv : Value} {f w : Nat} {c : Nat × Nat} {A : Nat → List (Nat × Int32)} {E : List (Nat × Option Nat)} {N : Nat → Nat} {V : Nat → Nat → Int32} {W : Nat} {g : List z_E}  (hRm : z_Rm (hC A E N V W ++ g, c)) (hf : 1 ≤ f) (hw : 60 ≤ w) : z_Ln L xs fv f w 40 0 [(0, .ref 70)] [] (hC A E N V W ++ g, c) (.inl (some (.int 1))) (hC A E N V W ++ g, c) := by
  have hR0 : ((c.1 ≤ 601024 ∧ c.2 ≤ 7293034) ∧ 1 ≤ f ∧ 60 ≤ w) := ⟨hRm, by omega, by omega⟩
  refine z_Ln.blk (pc' := (if decide (1 = 0) = true then 17 else 6)) (lv' := [(0, .ref 70)]) (st' := []) (H' := hC A E N V W ++ g) (C := []) 0 2 rfl trivial (z_Ln.brF (decide_eq_false (by decide)) ?_)
  refine z_Ln.blk (pc' := (if decide (¬ 0 = 0) = true then 17 else 13)) (lv' := [(0, .ref 70)]) (st' := []) (H' := hC A E N V W ++ g) (C := [((c.1 ≤ 601024 ∧ c.2 ≤ 7293034) ∧ 1 ≤ f ∧ 60 ≤ w)]) 2 3 rfl hR0 (z_Ln.brF (decide_eq_false (by decide)) ?_)
  refine z_Ln.blk (pc' := 18) (lv' := [(0, .ref 70)]) (st' := [.int 1]) (H' := hC A E N V W ++ g) (C := []) 5 2 rfl trivial ?_
  exact z_Ln.ret rfl rfl
set_option maxRecDepth 10000 in
theorem s37_16 {L : Nat} {xs : Nat → Int32} {fv : Value} {f w : Nat} {c : Nat × Nat} {A : Nat → List (Nat × Int32)} {E : List (Nat × Option Nat)} {N : Nat → Nat} {V : Nat → Nat → Int32} {W : Nat} {g : List z_E}  (hRm : z_Rm (hC A E N V W ++ g, c)) (hf : 1 ≤ f) (hw : 60 ≤ w) : z_Ln L xs fv f w 37 0 [(0, .ref 72)] [] (hC A E N V W ++ g, c) (.inl (some (.int 0))) (hC A E N V W ++ g, c) := by
  have hR0 : ((c.1 ≤ 601024 ∧ c.2 ≤ 7293034) ∧ 1 ≤ f ∧ 60 ≤ w) := ⟨hRm, by omega, by omega⟩
  refine z_Ln.blk (pc' := (if decide (1 = 0) = true then 13 else 6)) (lv' := [(0, .ref 72)]) (st' := []) (H' := hC A E N V W ++ g) (C := []) 0 2 rfl trivial (z_Ln.brF (decide_eq_false (by decide)) ?_)
  refine z_Ln.blk (pc' := 14) (lv' := [(0, .ref 72)]) (st' := [.int 0]) (H' := hC A E N V W ++ g) (C := [((c.1 ≤ 601024 ∧ c.2 ≤ 7293034) ∧ 1 ≤ f ∧ 60 ≤ w)]) 2 3 rfl hR0 ?_
  exact z_Ln.ret rfl rfl
set_option maxRecDepth 10000 in
theorem s36_16 {L : Nat} {xs : Nat → Int32} {fv : Value} {f w : Nat} {c : Nat × Nat} {A : Nat → List (Nat × Int32)} {E : List (Nat × Option Nat)} {N : Nat → Nat} {V : Nat → Nat → Int32} {W : Nat} {g : List z_E}  (hRm : z_Rm (hC A E N V W ++ g, c)) (hf : 2 ≤ f) (hw : 120 ≤ w) : z_Ln L xs fv f w 36 0 [(0, .ref 72)] [] (hC A E N V W ++ g, c) (.inl (some (.int 6))) (hC A E N V W ++ g, c) := by
  have hR0 : ((c.1 ≤ 601024 ∧ c.2 ≤ 7293034) ∧ 1 ≤ f ∧ 60 ≤ w) := ⟨hRm, by omega, by omega⟩
  have m37 : z_pg.2.1 37 = 1 := rfl
  refine z_Ln.blk (pc' := 6) (lv' := [(0, .ref 72)]) (st' := [.ref 72, .int 6]) (H' := hC A E N V W ++ g) (C := [((c.1 ≤ 601024 ∧ c.2 ≤ 7293034) ∧ 1 ≤ f ∧ 60 ≤ w), ((c.1 ≤ 601024 ∧ c.2 ≤ 7293034) ∧ 1 ≤ f ∧ 60 ≤ w)]) 0 4 rfl ⟨hR0, hR0⟩ ?_
  refine z_Ln.call (s := 0) (mj := 37) (as := [.ref 72]) (rr := [.int 6]) (v := some (.int 0)) (T1 := (hC A E N V W ++ g, c)) rfl rfl ⟨⟨by omega, by have : z_pg.2.1 37 = 1 := rfl; omega⟩, (by decide : (1 : Nat) ≤ 8), (by decide +kernel : (1 : Nat) ≤ z_pg.2.1 37)⟩ hRm (s37_16 hRm (by omega) (by omega)) ⟨⟨trivial, trivial⟩, ⟨(Or.inl (by decide)), trivial⟩⟩ ?_
  refine z_Ln.blk (pc' := 10) (lv' := [(0, .ref 72)]) (st' := [.int 6]) (H' := hC A E N V W ++ g) (C := []) 5 1 rfl trivial ?_
  exact z_Ln.ret rfl rfl
set_option maxRecDepth 10000 in
theorem s40_16 {L : Nat} {xs : Nat → Int32} {fv : Value} {f w : Nat} {c : Nat × Nat} {A : Nat → List (Nat × Int32)} {E : List (Nat × Option Nat)} {N : Nat → Nat} {V : Nat → Nat → Int32} {W : Nat} {g : List z_E}  (hRm : z_Rm (hC A E N V W ++ g, c)) (hf : 1 ≤ f) (hw : 60 ≤ w) : z_Ln L xs fv f w 40 0 [(0, .ref 72)] [] (hC A E N V W ++ g, c) (.inl (some (.int 1))) (hC A E N V W ++ g, c) := by
  have hR0 : ((c.1 ≤ 601024 ∧ c.2 ≤ 7293034) ∧ 1 ≤ f ∧ 60 ≤ w) := ⟨hRm, by omega, by omega⟩
  refine z_Ln.blk (pc' := (if decide (1 = 0) = true then 17 else 6)) (lv' := [(0, .ref 72)]) (st' := []) (H' := hC A E N V W ++ g) (C := []) 0 2 rfl trivial (z_Ln.brF (decide_eq_false (by decide)) ?_)
  refine z_Ln.blk (pc' := (if decide (¬ 0 = 0) = true then 17 else 13)) (lv' := [(0, .ref 72)]) (st' := []) (H' := hC A E N V W ++ g) (C := [((c.1 ≤ 601024 ∧ c.2 ≤ 7293034) ∧ 1 ≤ f ∧ 60 ≤ w)]) 2 3 rfl hR0 (z_Ln.brF (decide_eq_false (by decide)) ?_)
  refine z_Ln.blk (pc' := 18) (lv' := [(0, .ref 72)]) (st' := [.int 1]) (H' := hC A E N V W ++ g) (C := []) 5 2 rfl trivial ?_
  exact z_Ln.ret rfl rfl
set_option maxRecDepth 10000 in
theorem s37_17 {L : Nat} {xs : Nat → Int32} {fv : Value} {f w : Nat} {c : Nat × Nat} {A : Nat → List (Nat × Int32)} {E : List (Nat × Option Nat)} {N : Nat → Nat} {V : Nat → Nat → Int32} {W : Nat} {g : List z_E}  (hRm : z_Rm (hC A E N V W ++ g, c)) (hf : 1 ≤ f) (hw : 60 ≤ w) : z_Ln L xs fv f w 37 0 [(0, .ref 74)] [] (hC A E N V W ++ g, c) (.inl (some (.int 0))) (hC A E N V W ++ g, c) := by
  have hR0 : ((c.1 ≤ 601024 ∧ c.2 ≤ 7293034) ∧ 1 ≤ f ∧ 60 ≤ w) := ⟨hRm, by omega, by omega⟩
  refine z_Ln.blk (pc' := (if decide (1 = 0) = true then 13 else 6)) (lv' := [(0, .ref 74)]) (st' := []) (H' := hC A E N V W ++ g) (C := []) 0 2 rfl trivial (z_Ln.brF (decide_eq_false (by decide)) ?_)
  refine z_Ln.blk (pc' := 14) (lv' := [(0, .ref 74)]) (st' := [.int 0]) (H' := hC A E N V W ++ g) (C := [((c.1 ≤ 601024 ∧ c.2 ≤ 7293034) ∧ 1 ≤ f ∧ 60 ≤ w)]) 2 3 rfl hR0 ?_
  exact z_Ln.ret rfl rfl
set_option maxRecDepth 10000 in
theorem s36_17 {L : Nat} {xs : Nat → Int32} {fv : Value} {f w : Nat} {c : Nat × Nat} {A : Nat → List (Nat × Int32)} {E : List (Nat × Option Nat)} {N : Nat → Nat} {V : Nat → Nat → Int32} {W : Nat} {g : List z_E}  (hRm : z_Rm (hC A E N V W ++ g, c)) (hf : 2 ≤ f) (hw : 120 ≤ w) : z_Ln L xs fv f w 36 0 [(0, .ref 74)] [] (hC A E N V W ++ g, c) (.inl (some (.int 3))) (hC A E N V W ++ g, c) := by
  have hR0 : ((c.1 ≤ 601024 ∧ c.2 ≤ 7293034) ∧ 1 ≤ f ∧ 60 ≤ w) := ⟨hRm, by omega, by omega⟩
  have m37 : z_pg.2.1 37 = 1 := rfl
  refine z_Ln.blk (pc' := 6) (lv' := [(0, .ref 74)]) (st' := [.ref 74, .int 3]) (H' := hC A E N V W ++ g) (C := [((c.1 ≤ 601024 ∧ c.2 ≤ 7293034) ∧ 1 ≤ f ∧ 60 ≤ w), ((c.1 ≤ 601024 ∧ c.2 ≤ 7293034) ∧ 1 ≤ f ∧ 60 ≤ w)]) 0 4 rfl ⟨hR0, hR0⟩ ?_
  refine z_Ln.call (s := 0) (mj := 37) (as := [.ref 74]) (rr := [.int 3]) (v := some (.int 0)) (T1 := (hC A E N V W ++ g, c)) rfl rfl ⟨⟨by omega, by have : z_pg.2.1 37 = 1 := rfl; omega⟩, (by decide : (1 : Nat) ≤ 8), (by decide +kernel : (1 : Nat) ≤ z_pg.2.1 37)⟩ hRm (s37_17 hRm (by omega) (by omega)) ⟨⟨trivial, trivial⟩, ⟨(Or.inl (by decide)), trivial⟩⟩ ?_
  refine z_Ln.blk (pc' := 10) (lv' := [(0, .ref 74)]) (st' := [.int 3]) (H' := hC A E N V W ++ g) (C := []) 5 1 rfl trivial ?_
  exact z_Ln.ret rfl rfl
set_option maxRecDepth 10000 in
theorem s40_17 {L : Nat} {xs : Nat → Int32} {fv : Value} {f w : Nat} {c : Nat × Nat} {A : Nat → List (Nat × Int32)} {E : List (Nat × Option Nat)} {N : Nat → Nat} {V : Nat → Nat → Int32} {W : Nat} {g : List z_E}  (hRm : z_Rm (hC A E N V W ++ g, c)) (hf : 1 ≤ f) (hw : 60 ≤ w) : z_Ln L xs fv f w 40 0 [(0, .ref 74)] [] (hC A E N V W ++ g, c) (.inl (some (.int 1))) (hC A E N V W ++ g, c) := by
  have hR0 : ((c.1 ≤ 601024 ∧ c.2 ≤ 7293034) ∧ 1 ≤ f ∧ 60 ≤ w) := ⟨hRm, by omega, by omega⟩
  refine z_Ln.blk (pc' := (if decide (1 = 0) = true then 17 else 6)) (lv' := [(0, .ref 74)]) (st' := []) (H' := hC A E N V W ++ g) (C := []) 0 2 rfl trivial (z_Ln.brF (decide_eq_false (by decide)) ?_)
  refine z_Ln.blk (pc' := (if decide (¬ 0 = 0) = true then 17 else 13)) (lv' := [(0, .ref 74)]) (st' := []) (H' := hC A E N V W ++ g) (C := [((c.1 ≤ 601024 ∧ c.2 ≤ 7293034) ∧ 1 ≤ f ∧ 60 ≤ w)]) 2 3 rfl hR0 (z_Ln.brF (decide_eq_false (by decide)) ?_)
  refine z_Ln.blk (pc' := 18) (lv' := [(0, .ref 74)]) (st' := [.int 1]) (H' := hC A E N V W ++ g) (C := []) 5 2 rfl trivial ?_
  exact z_Ln.ret rfl rfl
set_option maxRecDepth 10000 in
theorem s37_18 {L : Nat} {xs : Nat → Int32} {fv : Value} {f w : Nat} {c : Nat × Nat} {A : Nat → List (Nat × Int32)} {E : List (Nat × Option Nat)} {N : Nat → Nat} {V : Nat → Nat → Int32} {W : Nat} {g : List z_E}  (hRm : z_Rm (hC A E N V W ++ g, c)) (hf : 1 ≤ f) (hw : 60 ≤ w) : z_Ln L xs fv f w 37 0 [(0, .ref 76)] [] (hC A E N V W ++ g, c) (.inl (some (.int 0))) (hC A E N V W ++ g, c) := by
  have hR0 : ((c.1 ≤ 601024 ∧ c.2 ≤ 7293034) ∧ 1 ≤ f ∧ 60 ≤ w) := ⟨hRm, by omega, by omega⟩
  refine z_Ln.blk (pc' := (if decide (1 = 0) = true then 13 else 6)) (lv' := [(0, .ref 76)]) (st' := []) (H' := hC A E N V W ++ g) (C := []) 0 2 rfl trivial (z_Ln.brF (decide_eq_false (by decide)) ?_)
  refine z_Ln.blk (pc' := 14) (lv' := [(0, .ref 76)]) (st' := [.int 0]) (H' := hC A E N V W ++ g) (C := [((c.1 ≤ 601024 ∧ c.2 ≤ 7293034) ∧ 1 ≤ f ∧ 60 ≤ w)]) 2 3 rfl hR0 ?_
  exact z_Ln.ret rfl rfl
set_option maxRecDepth 10000 in
theorem s36_18 {L : Nat} {xs : Nat → Int32} {fv : Value} {f w : Nat} {c : Nat × Nat} {A : Nat → List (Nat × Int32)} {E : List (Nat × Option Nat)} {N : Nat → Nat} {V : Nat → Nat → Int32} {W : Nat} {g : List z_E}  (hRm : z_Rm (hC A E N V W ++ g, c)) (hf : 2 ≤ f) (hw : 120 ≤ w) : z_Ln L xs fv f w 36 0 [(0, .ref 76)] [] (hC A E N V W ++ g, c) (.inl (some (.int 3))) (hC A E N V W ++ g, c) := by
  have hR0 : ((c.1 ≤ 601024 ∧ c.2 ≤ 7293034) ∧ 1 ≤ f ∧ 60 ≤ w) := ⟨hRm, by omega, by omega⟩
  have m37 : z_pg.2.1 37 = 1 := rfl
  refine z_Ln.blk (pc' := 6) (lv' := [(0, .ref 76)]) (st' := [.ref 76, .int 3]) (H' := hC A E N V W ++ g) (C := [((c.1 ≤ 601024 ∧ c.2 ≤ 7293034) ∧ 1 ≤ f ∧ 60 ≤ w), ((c.1 ≤ 601024 ∧ c.2 ≤ 7293034) ∧ 1 ≤ f ∧ 60 ≤ w)]) 0 4 rfl ⟨hR0, hR0⟩ ?_
  refine z_Ln.call (s := 0) (mj := 37) (as := [.ref 76]) (rr := [.int 3]) (v := some (.int 0)) (T1 := (hC A E N V W ++ g, c)) rfl rfl ⟨⟨by omega, by have : z_pg.2.1 37 = 1 := rfl; omega⟩, (by decide : (1 : Nat) ≤ 8), (by decide +kernel : (1 : Nat) ≤ z_pg.2.1 37)⟩ hRm (s37_18 hRm (by omega) (by omega)) ⟨⟨trivial, trivial⟩, ⟨(Or.inl (by decide)), trivial⟩⟩ ?_
  refine z_Ln.blk (pc' := 10) (lv' := [(0, .ref 76)]) (st' := [.int 3]) (H' := hC A E N V W ++ g) (C := []) 5 1 rfl trivial ?_
  exact z_Ln.ret rfl rfl
set_option maxRecDepth 10000 in
theorem s40_18 {L : Nat} {xs : Nat → Int32} {fv : Value} {f w : Nat} {c : Nat × Nat} {A : Nat → List (Nat × Int32)} {E : List (Nat × Option Nat)} {N : Nat → Nat} {V : Nat → Nat → Int32} {W : Nat} {g : List z_E}  (hRm : z_Rm (hC A E N V W ++ g, c)) (hf : 1 ≤ f) (hw : 60 ≤ w) : z_Ln L xs fv f w 40 0 [(0, .ref 76)] [] (hC A E N V W ++ g, c) (.inl (some (.int 1))) (hC A E N V W ++ g, c) := by
  have hR0 : ((c.1 ≤ 601024 ∧ c.2 ≤ 7293034) ∧ 1 ≤ f ∧ 60 ≤ w) := ⟨hRm, by omega, by omega⟩
  refine z_Ln.blk (pc' := (if decide (1 = 0) = true then 17 else 6)) (lv' := [(0, .ref 76)]) (st' := []) (H' := hC A E N V W ++ g) (C := []) 0 2 rfl trivial (z_Ln.brF (decide_eq_false (by decide)) ?_)
  refine z_Ln.blk (pc' := (if decide (¬ 0 = 0) = true then 17 else 13)) (lv' := [(0, .ref 76)]) (st' := []) (H' := hC A E N V W ++ g) (C := [((c.1 ≤ 601024 ∧ c.2 ≤ 7293034) ∧ 1 ≤ f ∧ 60 ≤ w)]) 2 3 rfl hR0 (z_Ln.brF (decide_eq_false (by decide)) ?_)
  refine z_Ln.blk (pc' := 18) (lv' := [(0, .ref 76)]) (st' := [.int 1]) (H' := hC A E N V W ++ g) (C := []) 5 2 rfl trivial ?_
  exact z_Ln.ret rfl rfl
set_option maxRecDepth 10000 in
theorem s37_19 {L : Nat} {xs : Nat → Int32} {fv : Value} {f w : Nat} {c : Nat × Nat} {A : Nat → List (Nat × Int32)} {E : List (Nat × Option Nat)} {N : Nat → Nat} {V : Nat → Nat → Int32} {W : Nat} {g : List z_E}  (hRm : z_Rm (hC A E N V W ++ g, c)) (hf : 1 ≤ f) (hw : 60 ≤ w) : z_Ln L xs fv f w 37 0 [(0, .ref 78)] [] (hC A E N V W ++ g, c) (.inl (some (.int 0))) (hC A E N V W ++ g, c) := by
  have hR0 : ((c.1 ≤ 601024 ∧ c.2 ≤ 7293034) ∧ 1 ≤ f ∧ 60 ≤ w) := ⟨hRm, by omega, by omega⟩
  refine z_Ln.blk (pc' := (if decide (1 = 0) = true then 13 else 6)) (lv' := [(0, .ref 78)]) (st' := []) (H' := hC A E N V W ++ g) (C := []) 0 2 rfl trivial (z_Ln.brF (decide_eq_false (by decide)) ?_)
  refine z_Ln.blk (pc' := 14) (lv' := [(0, .ref 78)]) (st' := [.int 0]) (H' := hC A E N V W ++ g) (C := [((c.1 ≤ 601024 ∧ c.2 ≤ 7293034) ∧ 1 ≤ f ∧ 60 ≤ w)]) 2 3 rfl hR0 ?_
  exact z_Ln.ret rfl rfl
set_option maxRecDepth 10000 in
theorem s36_19 {L : Nat} {xs : Nat → Int32} {fv : Value} {f w : Nat} {c : Nat × Nat} {A : Nat → List (Nat × Int32)} {E : List (Nat × Option Nat)} {N : Nat → Nat} {V : Nat → Nat → Int32} {W : Nat} {g : List z_E}  (hRm : z_Rm (hC A E N V W ++ g, c)) (hf : 2 ≤ f) (hw : 120 ≤ w) : z_Ln L xs fv f w 36 0 [(0, .ref 78)] [] (hC A E N V W ++ g, c) (.inl (some (.int 2))) (hC A E N V W ++ g, c) := by
  have hR0 : ((c.1 ≤ 601024 ∧ c.2 ≤ 7293034) ∧ 1 ≤ f ∧ 60 ≤ w) := ⟨hRm, by omega, by omega⟩
  have m37 : z_pg.2.1 37 = 1 := rfl
  refine z_Ln.blk (pc' := 6) (lv' := [(0, .ref 78)]) (st' := [.ref 78, .int 2]) (H' := hC A E N V W ++ g) (C := [((c.1 ≤ 601024 ∧ c.2 ≤ 7293034) ∧ 1 ≤ f ∧ 60 ≤ w), ((c.1 ≤ 601024 ∧ c.2 ≤ 7293034) ∧ 1 ≤ f ∧ 60 ≤ w)]) 0 4 rfl ⟨hR0, hR0⟩ ?_
  refine z_Ln.call (s := 0) (mj := 37) (as := [.ref 78]) (rr := [.int 2]) (v := some (.int 0)) (T1 := (hC A E N V W ++ g, c)) rfl rfl ⟨⟨by omega, by have : z_pg.2.1 37 = 1 := rfl; omega⟩, (by decide : (1 : Nat) ≤ 8), (by decide +kernel : (1 : Nat) ≤ z_pg.2.1 37)⟩ hRm (s37_19 hRm (by omega) (by omega)) ⟨⟨trivial, trivial⟩, ⟨(Or.inl (by decide)), trivial⟩⟩ ?_
  refine z_Ln.blk (pc' := 10) (lv' := [(0, .ref 78)]) (st' := [.int 2]) (H' := hC A E N V W ++ g) (C := []) 5 1 rfl trivial ?_
  exact z_Ln.ret rfl rfl
set_option maxRecDepth 10000 in
theorem s40_19 {L : Nat} {xs : Nat → Int32} {fv : Value} {f w : Nat} {c : Nat × Nat} {A : Nat → List (Nat × Int32)} {E : List (Nat × Option Nat)} {N : Nat → Nat} {V : Nat → Nat → Int32} {W : Nat} {g : List z_E}  (hRm : z_Rm (hC A E N V W ++ g, c)) (hf : 1 ≤ f) (hw : 60 ≤ w) : z_Ln L xs fv f w 40 0 [(0, .ref 78)] [] (hC A E N V W ++ g, c) (.inl (some (.int 1))) (hC A E N V W ++ g, c) := by
  have hR0 : ((c.1 ≤ 601024 ∧ c.2 ≤ 7293034) ∧ 1 ≤ f ∧ 60 ≤ w) := ⟨hRm, by omega, by omega⟩
  refine z_Ln.blk (pc' := (if decide (1 = 0) = true then 17 else 6)) (lv' := [(0, .ref 78)]) (st' := []) (H' := hC A E N V W ++ g) (C := []) 0 2 rfl trivial (z_Ln.brF (decide_eq_false (by decide)) ?_)
  refine z_Ln.blk (pc' := (if decide (¬ 0 = 0) = true then 17 else 13)) (lv' := [(0, .ref 78)]) (st' := []) (H' := hC A E N V W ++ g) (C := [((c.1 ≤ 601024 ∧ c.2 ≤ 7293034) ∧ 1 ≤ f ∧ 60 ≤ w)]) 2 3 rfl hR0 (z_Ln.brF (decide_eq_false (by decide)) ?_)
  refine z_Ln.blk (pc' := 18) (lv' := [(0, .ref 78)]) (st' := [.int 1]) (H' := hC A E N V W ++ g) (C := []) 5 2 rfl trivial ?_
  exact z_Ln.ret rfl rfl
set_option maxRecDepth 10000 in
theorem s37_20 {L : Nat} {xs : Nat → Int32} {fv : Value} {f w : Nat} {c : Nat × Nat} {A : Nat → List (Nat × Int32)} {E : List (Nat × Option Nat)} {N : Nat → Nat} {V : Nat → Nat → Int32} {W : Nat} {g : List z_E}  (hRm : z_Rm (hC A E N V W ++ g, c)) (hf : 1 ≤ f) (hw : 60 ≤ w) : z_Ln L xs fv f w 37 0 [(0, .ref 80)] [] (hC A E N V W ++ g, c) (.inl (some (.int 0))) (hC A E N V W ++ g, c) := by
  have hR0 : ((c.1 ≤ 601024 ∧ c.2 ≤ 7293034) ∧ 1 ≤ f ∧ 60 ≤ w) := ⟨hRm, by omega, by omega⟩
  refine z_Ln.blk (pc' := (if decide (1 = 0) = true then 13 else 6)) (lv' := [(0, .ref 80)]) (st' := []) (H' := hC A E N V W ++ g) (C := []) 0 2 rfl trivial (z_Ln.brF (decide_eq_false (by decide)) ?_)
  refine z_Ln.blk (pc' := 14) (lv' := [(0, .ref 80)]) (st' := [.int 0]) (H' := hC A E N V W ++ g) (C := [((c.1 ≤ 601024 ∧ c.2 ≤ 7293034) ∧ 1 ≤ f ∧ 60 ≤ w)]) 2 3 rfl hR0 ?_
  exact z_Ln.ret rfl rfl
set_option maxRecDepth 10000 in
theorem s36_20 {L : Nat} {xs : Nat → Int32} {fv : Value} {f w : Nat} {c : Nat × Nat} {A : Nat → List (Nat × Int32)} {E : List (Nat × Option Nat)} {N : Nat → Nat} {V : Nat → Nat → Int32} {W : Nat} {g : List z_E}  (hRm : z_Rm (hC A E N V W ++ g, c)) (hf : 2 ≤ f) (hw : 120 ≤ w) : z_Ln L xs fv f w 36 0 [(0, .ref 80)] [] (hC A E N V W ++ g, c) (.inl (some (.int 2))) (hC A E N V W ++ g, c) := by
  have hR0 : ((c.1 ≤ 601024 ∧ c.2 ≤ 7293034) ∧ 1 ≤ f ∧ 60 ≤ w) := ⟨hRm, by omega, by omega⟩
  have m37 : z_pg.2.1 37 = 1 := rfl
  refine z_Ln.blk (pc' := 6) (lv' := [(0, .ref 80)]) (st' := [.ref 80, .int 2]) (H' := hC A E N V W ++ g) (C := [((c.1 ≤ 601024 ∧ c.2 ≤ 7293034) ∧ 1 ≤ f ∧ 60 ≤ w), ((c.1 ≤ 601024 ∧ c.2 ≤ 7293034) ∧ 1 ≤ f ∧ 60 ≤ w)]) 0 4 rfl ⟨hR0, hR0⟩ ?_
  refine z_Ln.call (s := 0) (mj := 37) (as := [.ref 80]) (rr := [.int 2]) (v := some (.int 0)) (T1 := (hC A E N V W ++ g, c)) rfl rfl ⟨⟨by omega, by have : z_pg.2.1 37 = 1 := rfl; omega⟩, (by decide : (1 : Nat) ≤ 8), (by decide +kernel : (1 : Nat) ≤ z_pg.2.1 37)⟩ hRm (s37_20 hRm (by omega) (by omega)) ⟨⟨trivial, trivial⟩, ⟨(Or.inl (by decide)), trivial⟩⟩ ?_
  refine z_Ln.blk (pc' := 10) (lv' := [(0, .ref 80)]) (st' := [.int 2]) (H' := hC A E N V W ++ g) (C := []) 5 1 rfl trivial ?_
  exact z_Ln.ret rfl rfl
set_option maxRecDepth 10000 in
theorem s40_20 {L : Nat} {xs : Nat → Int32} {fv : Value} {f w : Nat} {c : Nat × Nat} {A : Nat → List (Nat × Int32)} {E : List (Nat × Option Nat)} {N : Nat → Nat} {V : Nat → Nat → Int32} {W : Nat} {g : List z_E}  (hRm : z_Rm (hC A E N V W ++ g, c)) (hf : 1 ≤ f) (hw : 60 ≤ w) : z_Ln L xs fv f w 40 0 [(0, .ref 80)] [] (hC A E N V W ++ g, c) (.inl (some (.int 1))) (hC A E N V W ++ g, c) := by
  have hR0 : ((c.1 ≤ 601024 ∧ c.2 ≤ 7293034) ∧ 1 ≤ f ∧ 60 ≤ w) := ⟨hRm, by omega, by omega⟩
  refine z_Ln.blk (pc' := (if decide (1 = 0) = true then 17 else 6)) (lv' := [(0, .ref 80)]) (st' := []) (H' := hC A E N V W ++ g) (C := []) 0 2 rfl trivial (z_Ln.brF (decide_eq_false (by decide)) ?_)
  refine z_Ln.blk (pc' := (if decide (¬ 0 = 0) = true then 17 else 13)) (lv' := [(0, .ref 80)]) (st' := []) (H' := hC A E N V W ++ g) (C := [((c.1 ≤ 601024 ∧ c.2 ≤ 7293034) ∧ 1 ≤ f ∧ 60 ≤ w)]) 2 3 rfl hR0 (z_Ln.brF (decide_eq_false (by decide)) ?_)
  refine z_Ln.blk (pc' := 18) (lv' := [(0, .ref 80)]) (st' := [.int 1]) (H' := hC A E N V W ++ g) (C := []) 5 2 rfl trivial ?_
  exact z_Ln.ret rfl rfl
set_option maxRecDepth 10000 in
theorem s37_21 {L : Nat} {xs : Nat → Int32} {fv : Value} {f w : Nat} {c : Nat × Nat} {A : Nat → List (Nat × Int32)} {E : List (Nat × Option Nat)} {N : Nat → Nat} {V : Nat → Nat → Int32} {W : Nat} {g : List z_E}  (hRm : z_Rm (hC A E N V W ++ g, c)) (hf : 1 ≤ f) (hw : 60 ≤ w) : z_Ln L xs fv f w 37 0 [(0, .ref 82)] [] (hC A E N V W ++ g, c) (.inl (some (.int 0))) (hC A E N V W ++ g, c) := by
  have hR0 : ((c.1 ≤ 601024 ∧ c.2 ≤ 7293034) ∧ 1 ≤ f ∧ 60 ≤ w) := ⟨hRm, by omega, by omega⟩
  refine z_Ln.blk (pc' := (if decide (1 = 0) = true then 13 else 6)) (lv' := [(0, .ref 82)]) (st' := []) (H' := hC A E N V W ++ g) (C := []) 0 2 rfl trivial (z_Ln.brF (decide_eq_false (by decide)) ?_)
  refine z_Ln.blk (pc' := 14) (lv' := [(0, .ref 82)]) (st' := [.int 0]) (H' := hC A E N V W ++ g) (C := [((c.1 ≤ 601024 ∧ c.2 ≤ 7293034) ∧ 1 ≤ f ∧ 60 ≤ w)]) 2 3 rfl hR0 ?_
  exact z_Ln.ret rfl rfl
set_option maxRecDepth 10000 in
theorem s36_21 {L : Nat} {xs : Nat → Int32} {fv : Value} {f w : Nat} {c : Nat × Nat} {A : Nat → List (Nat × Int32)} {E : List (Nat × Option Nat)} {N : Nat → Nat} {V : Nat → Nat → Int32} {W : Nat} {g : List z_E}  (hRm : z_Rm (hC A E N V W ++ g, c)) (hf : 2 ≤ f) (hw : 120 ≤ w) : z_Ln L xs fv f w 36 0 [(0, .ref 82)] [] (hC A E N V W ++ g, c) (.inl (some (.int 4))) (hC A E N V W ++ g, c) := by
  have hR0 : ((c.1 ≤ 601024 ∧ c.2 ≤ 7293034) ∧ 1 ≤ f ∧ 60 ≤ w) := ⟨hRm, by omega, by omega⟩
  have m37 : z_pg.2.1 37 = 1 := rfl
  refine z_Ln.blk (pc' := 6) (lv' := [(0, .ref 82)]) (st' := [.ref 82, .int 4]) (H' := hC A E N V W ++ g) (C := [((c.1 ≤ 601024 ∧ c.2 ≤ 7293034) ∧ 1 ≤ f ∧ 60 ≤ w), ((c.1 ≤ 601024 ∧ c.2 ≤ 7293034) ∧ 1 ≤ f ∧ 60 ≤ w)]) 0 4 rfl ⟨hR0, hR0⟩ ?_
  refine z_Ln.call (s := 0) (mj := 37) (as := [.ref 82]) (rr := [.int 4]) (v := some (.int 0)) (T1 := (hC A E N V W ++ g, c)) rfl rfl ⟨⟨by omega, by have : z_pg.2.1 37 = 1 := rfl; omega⟩, (by decide : (1 : Nat) ≤ 8), (by decide +kernel : (1 : Nat) ≤ z_pg.2.1 37)⟩ hRm (s37_21 hRm (by omega) (by omega)) ⟨⟨trivial, trivial⟩, ⟨(Or.inl (by decide)), trivial⟩⟩ ?_
  refine z_Ln.blk (pc' := 10) (lv' := [(0, .ref 82)]) (st' := [.int 4]) (H' := hC A E N V W ++ g) (C := []) 5 1 rfl trivial ?_
  exact z_Ln.ret rfl rfl
set_option maxRecDepth 10000 in
theorem s40_21 {L : Nat} {xs : Nat → Int32} {fv : Value} {f w : Nat} {c : Nat × Nat} {A : Nat → List (Nat × Int32)} {E : List (Nat × Option Nat)} {N : Nat → Nat} {V : Nat → Nat → Int32} {W : Nat} {g : List z_E}  (hRm : z_Rm (hC A E N V W ++ g, c)) (hf : 1 ≤ f) (hw : 60 ≤ w) : z_Ln L xs fv f w 40 0 [(0, .ref 82)] [] (hC A E N V W ++ g, c) (.inl (some (.int 1))) (hC A E N V W ++ g, c) := by
  have hR0 : ((c.1 ≤ 601024 ∧ c.2 ≤ 7293034) ∧ 1 ≤ f ∧ 60 ≤ w) := ⟨hRm, by omega, by omega⟩
  refine z_Ln.blk (pc' := (if decide (1 = 0) = true then 17 else 6)) (lv' := [(0, .ref 82)]) (st' := []) (H' := hC A E N V W ++ g) (C := []) 0 2 rfl trivial (z_Ln.brF (decide_eq_false (by decide)) ?_)
  refine z_Ln.blk (pc' := (if decide (¬ 0 = 0) = true then 17 else 13)) (lv' := [(0, .ref 82)]) (st' := []) (H' := hC A E N V W ++ g) (C := [((c.1 ≤ 601024 ∧ c.2 ≤ 7293034) ∧ 1 ≤ f ∧ 60 ≤ w)]) 2 3 rfl hR0 (z_Ln.brF (decide_eq_false (by decide)) ?_)
  refine z_Ln.blk (pc' := 18) (lv' := [(0, .ref 82)]) (st' := [.int 1]) (H' := hC A E N V W ++ g) (C := []) 5 2 rfl trivial ?_
  exact z_Ln.ret rfl rfl
set_option maxRecDepth 10000 in
theorem s37_22 {L : Nat} {xs : Nat → Int32} {fv : Value} {f w : Nat} {c : Nat × Nat} {A : Nat → List (Nat × Int32)} {E : List (Nat × Option Nat)} {N : Nat → Nat} {V : Nat → Nat → Int32} {W : Nat} {g : List z_E}  (hRm : z_Rm (hC A E N V W ++ g, c)) (hf : 1 ≤ f) (hw : 60 ≤ w) : z_Ln L xs fv f w 37 0 [(0, .ref 84)] [] (hC A E N V W ++ g, c) (.inl (some (.int 0))) (hC A E N V W ++ g, c) := by
  have hR0 : ((c.1 ≤ 601024 ∧ c.2 ≤ 7293034) ∧ 1 ≤ f ∧ 60 ≤ w) := ⟨hRm, by omega, by omega⟩
  refine z_Ln.blk (pc' := (if decide (1 = 0) = true then 13 else 6)) (lv' := [(0, .ref 84)]) (st' := []) (H' := hC A E N V W ++ g) (C := []) 0 2 rfl trivial (z_Ln.brF (decide_eq_false (by decide)) ?_)
  refine z_Ln.blk (pc' := 14) (lv' := [(0, .ref 84)]) (st' := [.int 0]) (H' := hC A E N V W ++ g) (C := [((c.1 ≤ 601024 ∧ c.2 ≤ 7293034) ∧ 1 ≤ f ∧ 60 ≤ w)]) 2 3 rfl hR0 ?_
  exact z_Ln.ret rfl rfl
set_option maxRecDepth 10000 in
theorem s36_22 {L : Nat} {xs : Nat → Int32} {fv : Value} {f w : Nat} {c : Nat × Nat} {A : Nat → List (Nat × Int32)} {E : List (Nat × Option Nat)} {N : Nat → Nat} {V : Nat → Nat → Int32} {W : Nat} {g : List z_E}  (hRm : z_Rm (hC A E N V W ++ g, c)) (hf : 2 ≤ f) (hw : 120 ≤ w) : z_Ln L xs fv f w 36 0 [(0, .ref 84)] [] (hC A E N V W ++ g, c) (.inl (some (.int 4))) (hC A E N V W ++ g, c) := by
  have hR0 : ((c.1 ≤ 601024 ∧ c.2 ≤ 7293034) ∧ 1 ≤ f ∧ 60 ≤ w) := ⟨hRm, by omega, by omega⟩
  have m37 : z_pg.2.1 37 = 1 := rfl
  refine z_Ln.blk (pc' := 6) (lv' := [(0, .ref 84)]) (st' := [.ref 84, .int 4]) (H' := hC A E N V W ++ g) (C := [((c.1 ≤ 601024 ∧ c.2 ≤ 7293034) ∧ 1 ≤ f ∧ 60 ≤ w), ((c.1 ≤ 601024 ∧ c.2 ≤ 7293034) ∧ 1 ≤ f ∧ 60 ≤ w)]) 0 4 rfl ⟨hR0, hR0⟩ ?_
  refine z_Ln.call (s := 0) (mj := 37) (as := [.ref 84]) (rr := [.int 4]) (v := some (.int 0)) (T1 := (hC A E N V W ++ g, c)) rfl rfl ⟨⟨by omega, by have : z_pg.2.1 37 = 1 := rfl; omega⟩, (by decide : (1 : Nat) ≤ 8), (by decide +kernel : (1 : Nat) ≤ z_pg.2.1 37)⟩ hRm (s37_22 hRm (by omega) (by omega)) ⟨⟨trivial, trivial⟩, ⟨(Or.inl (by decide)), trivial⟩⟩ ?_
  refine z_Ln.blk (pc' := 10) (lv' := [(0, .ref 84)]) (st' := [.int 4]) (H' := hC A E N V W ++ g) (C := []) 5 1 rfl trivial ?_
  exact z_Ln.ret rfl rfl
set_option maxRecDepth 10000 in
theorem s40_22 {L : Nat} {xs : Nat → Int32} {fv : Value} {f w : Nat} {c : Nat × Nat} {A : Nat → List (Nat × Int32)} {E : List (Nat × Option Nat)} {N : Nat → Nat} {V : Nat → Nat → Int32} {W : Nat} {g : List z_E}  (hRm : z_Rm (hC A E N V W ++ g, c)) (hf : 1 ≤ f) (hw : 60 ≤ w) : z_Ln L xs fv f w 40 0 [(0, .ref 84)] [] (hC A E N V W ++ g, c) (.inl (some (.int 1))) (hC A E N V W ++ g, c) := by
  have hR0 : ((c.1 ≤ 601024 ∧ c.2 ≤ 7293034) ∧ 1 ≤ f ∧ 60 ≤ w) := ⟨hRm, by omega, by omega⟩
  refine z_Ln.blk (pc' := (if decide (1 = 0) = true then 17 else 6)) (lv' := [(0, .ref 84)]) (st' := []) (H' := hC A E N V W ++ g) (C := []) 0 2 rfl trivial (z_Ln.brF (decide_eq_false (by decide)) ?_)
  refine z_Ln.blk (pc' := (if decide (¬ 0 = 0) = true then 17 else 13)) (lv' := [(0, .ref 84)]) (st' := []) (H' := hC A E N V W ++ g) (C := [((c.1 ≤ 601024 ∧ c.2 ≤ 7293034) ∧ 1 ≤ f ∧ 60 ≤ w)]) 2 3 rfl hR0 (z_Ln.brF (decide_eq_false (by decide)) ?_)
  refine z_Ln.blk (pc' := 18) (lv' := [(0, .ref 84)]) (st' := [.int 1]) (H' := hC A E N V W ++ g) (C := []) 5 2 rfl trivial ?_
  exact z_Ln.ret rfl rfl
set_option maxRecDepth 10000 in
theorem s37_23 {L : Nat} {xs : Nat → Int32} {fv : Value} {f w : Nat} {c : Nat × Nat} {A : Nat → List (Nat × Int32)} {E : List (Nat × Option Nat)} {N : Nat → Nat} {V : Nat → Nat → Int32} {W : Nat} {g : List z_E}  (hRm : z_Rm (hC A E N V W ++ g, c)) (hf : 1 ≤ f) (hw : 60 ≤ w) : z_Ln L xs fv f w 37 0 [(0, .ref 86)] [] (hC A E N V W ++ g, c) (.inl (some (.int 0))) (hC A E N V W ++ g, c) := by
  have hR0 : ((c.1 ≤ 601024 ∧ c.2 ≤ 7293034) ∧ 1 ≤ f ∧ 60 ≤ w) := ⟨hRm, by omega, by omega⟩
  refine z_Ln.blk (pc' := (if decide (1 = 0) = true then 13 else 6)) (lv' := [(0, .ref 86)]) (st' := []) (H' := hC A E N V W ++ g) (C := []) 0 2 rfl trivial (z_Ln.brF (decide_eq_false (by decide)) ?_)
  refine z_Ln.blk (pc' := 14) (lv' := [(0, .ref 86)]) (st' := [.int 0]) (H' := hC A E N V W ++ g) (C := [((c.1 ≤ 601024 ∧ c.2 ≤ 7293034) ∧ 1 ≤ f ∧ 60 ≤ w)]) 2 3 rfl hR0 ?_
  exact z_Ln.ret rfl rfl
set_option maxRecDepth 10000 in
theorem s36_23 {L : Nat} {xs : Nat → Int32} {fv : Value} {f w : Nat} {c : Nat × Nat} {A : Nat → List (Nat × Int32)} {E : List (Nat × Option Nat)} {N : Nat → Nat} {V : Nat → Nat → Int32} {W : Nat} {g : List z_E}  (hRm : z_Rm (hC A E N V W ++ g, c)) (hf : 2 ≤ f) (hw : 120 ≤ w) : z_Ln L xs fv f w 36 0 [(0, .ref 86)] [] (hC A E N V W ++ g, c) (.inl (some (.int 2))) (hC A E N V W ++ g, c) := by
  have hR0 : ((c.1 ≤ 601024 ∧ c.2 ≤ 7293034) ∧ 1 ≤ f ∧ 60 ≤ w) := ⟨hRm, by omega, by omega⟩
  have m37 : z_pg.2.1 37 = 1 := rfl
  refine z_Ln.blk (pc' := 6) (lv' := [(0, .ref 86)]) (st' := [.ref 86, .int 2]) (H' := hC A E N V W ++ g) (C := [((c.1 ≤ 601024 ∧ c.2 ≤ 7293034) ∧ 1 ≤ f ∧ 60 ≤ w), ((c.1 ≤ 601024 ∧ c.2 ≤ 7293034) ∧ 1 ≤ f ∧ 60 ≤ w)]) 0 4 rfl ⟨hR0, hR0⟩ ?_
  refine z_Ln.call (s := 0) (mj := 37) (as := [.ref 86]) (rr := [.int 2]) (v := some (.int 0)) (T1 := (hC A E N V W ++ g, c)) rfl rfl ⟨⟨by omega, by have : z_pg.2.1 37 = 1 := rfl; omega⟩, (by decide : (1 : Nat) ≤ 8), (by decide +kernel : (1 : Nat) ≤ z_pg.2.1 37)⟩ hRm (s37_23 hRm (by omega) (by omega)) ⟨⟨trivial, trivial⟩, ⟨(Or.inl (by decide)), trivial⟩⟩ ?_
  refine z_Ln.blk (pc' := 10) (lv' := [(0, .ref 86)]) (st' := [.int 2]) (H' := hC A E N V W ++ g) (C := []) 5 1 rfl trivial ?_
  exact z_Ln.ret rfl rfl
set_option maxRecDepth 10000 in
theorem s40_23 {L : Nat} {xs : Nat → Int32} {fv : Value} {f w : Nat} {c : Nat × Nat} {A : Nat → List (Nat × Int32)} {E : List (Nat × Option Nat)} {N : Nat → Nat} {V : Nat → Nat → Int32} {W : Nat} {g : List z_E}  (hRm : z_Rm (hC A E N V W ++ g, c)) (hf : 1 ≤ f) (hw : 60 ≤ w) : z_Ln L xs fv f w 40 0 [(0, .ref 86)] [] (hC A E N V W ++ g, c) (.inl (some (.int 1))) (hC A E N V W ++ g, c) := by
  have hR0 : ((c.1 ≤ 601024 ∧ c.2 ≤ 7293034) ∧ 1 ≤ f ∧ 60 ≤ w) := ⟨hRm, by omega, by omega⟩
  refine z_Ln.blk (pc' := (if decide (1 = 0) = true then 17 else 6)) (lv' := [(0, .ref 86)]) (st' := []) (H' := hC A E N V W ++ g) (C := []) 0 2 rfl trivial (z_Ln.brF (decide_eq_false (by decide)) ?_)
  refine z_Ln.blk (pc' := (if decide (¬ 0 = 0) = true then 17 else 13)) (lv' := [(0, .ref 86)]) (st' := []) (H' := hC A E N V W ++ g) (C := [((c.1 ≤ 601024 ∧ c.2 ≤ 7293034) ∧ 1 ≤ f ∧ 60 ≤ w)]) 2 3 rfl hR0 (z_Ln.brF (decide_eq_false (by decide)) ?_)
  refine z_Ln.blk (pc' := 18) (lv' := [(0, .ref 86)]) (st' := [.int 1]) (H' := hC A E N V W ++ g) (C := []) 5 2 rfl trivial ?_
  exact z_Ln.ret rfl rfl
set_option maxRecDepth 10000 in
theorem s37_24 {L : Nat} {xs : Nat → Int32} {fv : Value} {f w : Nat} {c : Nat × Nat} {A : Nat → List (Nat × Int32)} {E : List (Nat × Option Nat)} {N : Nat → Nat} {V : Nat → Nat → Int32} {W : Nat} {g : List z_E}  (hRm : z_Rm (hC A E N V W ++ g, c)) (hf : 1 ≤ f) (hw : 60 ≤ w) : z_Ln L xs fv f w 37 0 [(0, .ref 88)] [] (hC A E N V W ++ g, c) (.inl (some (.int 0))) (hC A E N V W ++ g, c) := by
  have hR0 : ((c.1 ≤ 601024 ∧ c.2 ≤ 7293034) ∧ 1 ≤ f ∧ 60 ≤ w) := ⟨hRm, by omega, by omega⟩
  refine z_Ln.blk (pc' := (if decide (1 = 0) = true then 13 else 6)) (lv' := [(0, .ref 88)]) (st' := []) (H' := hC A E N V W ++ g) (C := []) 0 2 rfl trivial (z_Ln.brF (decide_eq_false (by decide)) ?_)
  refine z_Ln.blk (pc' := 14) (lv' := [(0, .ref 88)]) (st' := [.int 0]) (H' := hC A E N V W ++ g) (C := [((c.1 ≤ 601024 ∧ c.2 ≤ 7293034) ∧ 1 ≤ f ∧ 60 ≤ w)]) 2 3 rfl hR0 ?_
  exact z_Ln.ret rfl rfl
set_option maxRecDepth 10000 in
theorem s36_24 {L : Nat} {xs : Nat → Int32} {fv : Value} {f w : Nat} {c : Nat × Nat} {A : Nat → List (Nat × Int32)} {E : List (Nat × Option Nat)} {N : Nat → Nat} {V : Nat → Nat → Int32} {W : Nat} {g : List z_E}  (hRm : z_Rm (hC A E N V W ++ g, c)) (hf : 2 ≤ f) (hw : 120 ≤ w) : z_Ln L xs fv f w 36 0 [(0, .ref 88)] [] (hC A E N V W ++ g, c) (.inl (some (.int 6))) (hC A E N V W ++ g, c) := by
  have hR0 : ((c.1 ≤ 601024 ∧ c.2 ≤ 7293034) ∧ 1 ≤ f ∧ 60 ≤ w) := ⟨hRm, by omega, by omega⟩
  have m37 : z_pg.2.1 37 = 1 := rfl
  refine z_Ln.blk (pc' := 6) (lv' := [(0, .ref 88)]) (st' := [.ref 88, .int 6]) (H' := hC A E N V W ++ g) (C := [((c.1 ≤ 601024 ∧ c.2 ≤ 7293034) ∧ 1 ≤ f ∧ 60 ≤ w), ((c.1 ≤ 601024 ∧ c.2 ≤ 7293034) ∧ 1 ≤ f ∧ 60 ≤ w)]) 0 4 rfl ⟨hR0, hR0⟩ ?_
  refine z_Ln.call (s := 0) (mj := 37) (as := [.ref 88]) (rr := [.int 6]) (v := some (.int 0)) (T1 := (hC A E N V W ++ g, c)) rfl rfl ⟨⟨by omega, by have : z_pg.2.1 37 = 1 := rfl; omega⟩, (by decide : (1 : Nat) ≤ 8), (by decide +kernel : (1 : Nat) ≤ z_pg.2.1 37)⟩ hRm (s37_24 hRm (by omega) (by omega)) ⟨⟨trivial, trivial⟩, ⟨(Or.inl (by decide)), trivial⟩⟩ ?_
  refine z_Ln.blk (pc' := 10) (lv' := [(0, .ref 88)]) (st' := [.int 6]) (H' := hC A E N V W ++ g) (C := []) 5 1 rfl trivial ?_
  exact z_Ln.ret rfl rfl
set_option maxRecDepth 10000 in
theorem s40_24 {L : Nat} {xs : Nat → Int32} {fv : Value} {f w : Nat} {c : Nat × Nat} {A : Nat → List (Nat × Int32)} {E : List (Nat × Option Nat)} {N : Nat → Nat} {V : Nat → Nat → Int32} {W : Nat} {g : List z_E}  (hRm : z_Rm (hC A E N V W ++ g, c)) (hf : 1 ≤ f) (hw : 60 ≤ w) : z_Ln L xs fv f w 40 0 [(0, .ref 88)] [] (hC A E N V W ++ g, c) (.inl (some (.int 1))) (hC A E N V W ++ g, c) := by
  have hR0 : ((c.1 ≤ 601024 ∧ c.2 ≤ 7293034) ∧ 1 ≤ f ∧ 60 ≤ w) := ⟨hRm, by omega, by omega⟩
  refine z_Ln.blk (pc' := (if decide (1 = 0) = true then 17 else 6)) (lv' := [(0, .ref 88)]) (st' := []) (H' := hC A E N V W ++ g) (C := []) 0 2 rfl trivial (z_Ln.brF (decide_eq_false (by decide)) ?_)
  refine z_Ln.blk (pc' := (if decide (¬ 0 = 0) = true then 17 else 13)) (lv' := [(0, .ref 88)]) (st' := []) (H' := hC A E N V W ++ g) (C := [((c.1 ≤ 601024 ∧ c.2 ≤ 7293034) ∧ 1 ≤ f ∧ 60 ≤ w)]) 2 3 rfl hR0 (z_Ln.brF (decide_eq_false (by decide)) ?_)
  refine z_Ln.blk (pc' := 18) (lv' := [(0, .ref 88)]) (st' := [.int 1]) (H' := hC A E N V W ++ g) (C := []) 5 2 rfl trivial ?_
  exact z_Ln.ret rfl rfl
set_option maxRecDepth 10000 in
theorem s37_25 {L : Nat} {xs : Nat → Int32} {fv : Value} {f w : Nat} {c : Nat × Nat} {A : Nat → List (Nat × Int32)} {E : List (Nat × Option Nat)} {N : Nat → Nat} {V : Nat → Nat → Int32} {W : Nat} {g : List z_E}  (hRm : z_Rm (hC A E N V W ++ g, c)) (hf : 1 ≤ f) (hw : 60 ≤ w) : z_Ln L xs fv f w 37 0 [(0, .ref 90)] [] (hC A E N V W ++ g, c) (.inl (some (.int 0))) (hC A E N V W ++ g, c) := by
  have hR0 : ((c.1 ≤ 601024 ∧ c.2 ≤ 7293034) ∧ 1 ≤ f ∧ 60 ≤ w) := ⟨hRm, by omega, by omega⟩
  refine z_Ln.blk (pc' := (if decide (1 = 0) = true then 13 else 6)) (lv' := [(0, .ref 90)]) (st' := []) (H' := hC A E N V W ++ g) (C := []) 0 2 rfl trivial (z_Ln.brF (decide_eq_false (by decide)) ?_)
  refine z_Ln.blk (pc' := 14) (lv' := [(0, .ref 90)]) (st' := [.int 0]) (H' := hC A E N V W ++ g) (C := [((c.1 ≤ 601024 ∧ c.2 ≤ 7293034) ∧ 1 ≤ f ∧ 60 ≤ w)]) 2 3 rfl hR0 ?_
  exact z_Ln.ret rfl rfl
set_option maxRecDepth 10000 in
theorem s36_25 {L : Nat} {xs : Nat → Int32} {fv : Value} {f w : Nat} {c : Nat × Nat} {A : Nat → List (Nat × Int32)} {E : List (Nat × Option Nat)} {N : Nat → Nat} {V : Nat → Nat → Int32} {W : Nat} {g : List z_E}  (hRm : z_Rm (hC A E N V W ++ g, c)) (hf : 2 ≤ f) (hw : 120 ≤ w) : z_Ln L xs fv f w 36 0 [(0, .ref 90)] [] (hC A E N V W ++ g, c) (.inl (some (.int 4))) (hC A E N V W ++ g, c) := by
  have hR0 : ((c.1 ≤ 601024 ∧ c.2 ≤ 7293034) ∧ 1 ≤ f ∧ 60 ≤ w) := ⟨hRm, by omega, by omega⟩
  have m37 : z_pg.2.1 37 = 1 := rfl
  refine z_Ln.blk (pc' := 6) (lv' := [(0, .ref 90)]) (st' := [.ref 90, .int 4]) (H' := hC A E N V W ++ g) (C := [((c.1 ≤ 601024 ∧ c.2 ≤ 7293034) ∧ 1 ≤ f ∧ 60 ≤ w), ((c.1 ≤ 601024 ∧ c.2 ≤ 7293034) ∧ 1 ≤ f ∧ 60 ≤ w)]) 0 4 rfl ⟨hR0, hR0⟩ ?_
  refine z_Ln.call (s := 0) (mj := 37) (as := [.ref 90]) (rr := [.int 4]) (v := some (.int 0)) (T1 := (hC A E N V W ++ g, c)) rfl rfl ⟨⟨by omega, by have : z_pg.2.1 37 = 1 := rfl; omega⟩, (by decide : (1 : Nat) ≤ 8), (by decide +kernel : (1 : Nat) ≤ z_pg.2.1 37)⟩ hRm (s37_25 hRm (by omega) (by omega)) ⟨⟨trivial, trivial⟩, ⟨(Or.inl (by decide)), trivial⟩⟩ ?_
  refine z_Ln.blk (pc' := 10) (lv' := [(0, .ref 90)]) (st' := [.int 4]) (H' := hC A E N V W ++ g) (C := []) 5 1 rfl trivial ?_
  exact z_Ln.ret rfl rfl
set_option maxRecDepth 10000 in
theorem s40_25 {L : Nat} {xs : Nat → Int32} {fv : Value} {f w : Nat} {c : Nat × Nat} {A : Nat → List (Nat × Int32)} {E : List (Nat × Option Nat)} {N : Nat → Nat} {V : Nat → Nat → Int32} {W : Nat} {g : List z_E}  (hRm : z_Rm (hC A E N V W ++ g, c)) (hf : 1 ≤ f) (hw : 60 ≤ w) : z_Ln L xs fv f w 40 0 [(0, .ref 90)] [] (hC A E N V W ++ g, c) (.inl (some (.int 1))) (hC A E N V W ++ g, c) := by
  have hR0 : ((c.1 ≤ 601024 ∧ c.2 ≤ 7293034) ∧ 1 ≤ f ∧ 60 ≤ w) := ⟨hRm, by omega, by omega⟩
  refine z_Ln.blk (pc' := (if decide (1 = 0) = true then 17 else 6)) (lv' := [(0, .ref 90)]) (st' := []) (H' := hC A E N V W ++ g) (C := []) 0 2 rfl trivial (z_Ln.brF (decide_eq_false (by decide)) ?_)
  refine z_Ln.blk (pc' := (if decide (¬ 0 = 0) = true then 17 else 13)) (lv' := [(0, .ref 90)]) (st' := []) (H' := hC A E N V W ++ g) (C := [((c.1 ≤ 601024 ∧ c.2 ≤ 7293034) ∧ 1 ≤ f ∧ 60 ≤ w)]) 2 3 rfl hR0 (z_Ln.brF (decide_eq_false (by decide)) ?_)
  refine z_Ln.blk (pc' := 18) (lv' := [(0, .ref 90)]) (st' := [.int 1]) (H' := hC A E N V W ++ g) (C := []) 5 2 rfl trivial ?_
  exact z_Ln.ret rfl rfl
set_option maxRecDepth 10000 in
theorem s37_26 {L : Nat} {xs : Nat → Int32} {fv : Value} {f w : Nat} {c : Nat × Nat} {A : Nat → List (Nat × Int32)} {E : List (Nat × Option Nat)} {N : Nat → Nat} {V : Nat → Nat → Int32} {W : Nat} {g : List z_E}  (hRm : z_Rm (hC A E N V W ++ g, c)) (hf : 1 ≤ f) (hw : 60 ≤ w) : z_Ln L xs fv f w 37 0 [(0, .ref 92)] [] (hC A E N V W ++ g, c) (.inl (some (.int 0))) (hC A E N V W ++ g, c) := by
  have hR0 : ((c.1 ≤ 601024 ∧ c.2 ≤ 7293034) ∧ 1 ≤ f ∧ 60 ≤ w) := ⟨hRm, by omega, by omega⟩
  refine z_Ln.blk (pc' := (if decide (1 = 0) = true then 13 else 6)) (lv' := [(0, .ref 92)]) (st' := []) (H' := hC A E N V W ++ g) (C := []) 0 2 rfl trivial (z_Ln.brF (decide_eq_false (by decide)) ?_)
  refine z_Ln.blk (pc' := 14) (lv' := [(0, .ref 92)]) (st' := [.int 0]) (H' := hC A E N V W ++ g) (C := [((c.1 ≤ 601024 ∧ c.2 ≤ 7293034) ∧ 1 ≤ f ∧ 60 ≤ w)]) 2 3 rfl hR0 ?_
  exact z_Ln.ret rfl rfl
set_option maxRecDepth 10000 in
theorem s36_26 {L : Nat} {xs : Nat → Int32} {fv : Value} {f w : Nat} {c : Nat × Nat} {A : Nat → List (Nat × Int32)} {E : List (Nat × Option Nat)} {N : Nat → Nat} {V : Nat → Nat → Int32} {W : Nat} {g : List z_E}  (hRm : z_Rm (hC A E N V W ++ g, c)) (hf : 2 ≤ f) (hw : 120 ≤ w) : z_Ln L xs fv f w 36 0 [(0, .ref 92)] [] (hC A E N V W ++ g, c) (.inl (some (.int 6))) (hC A E N V W ++ g, c) := by
  have hR0 : ((c.1 ≤ 601024 ∧ c.2 ≤ 7293034) ∧ 1 ≤ f ∧ 60 ≤ w) := ⟨hRm, by omega, by omega⟩
  have m37 : z_pg.2.1 37 = 1 := rfl
  refine z_Ln.blk (pc' := 6) (lv' := [(0, .ref 92)]) (st' := [.ref 92, .int 6]) (H' := hC A E N V W ++ g) (C := [((c.1 ≤ 601024 ∧ c.2 ≤ 7293034) ∧ 1 ≤ f ∧ 60 ≤ w), ((c.1 ≤ 601024 ∧ c.2 ≤ 7293034) ∧ 1 ≤ f ∧ 60 ≤ w)]) 0 4 rfl ⟨hR0, hR0⟩ ?_
  refine z_Ln.call (s := 0) (mj := 37) (as := [.ref 92]) (rr := [.int 6]) (v := some (.int 0)) (T1 := (hC A E N V W ++ g, c)) rfl rfl ⟨⟨by omega, by have : z_pg.2.1 37 = 1 := rfl; omega⟩, (by decide : (1 : Nat) ≤ 8), (by decide +kernel : (1 : Nat) ≤ z_pg.2.1 37)⟩ hRm (s37_26 hRm (by omega) (by omega)) ⟨⟨trivial, trivial⟩, ⟨(Or.inl (by decide)), trivial⟩⟩ ?_
  refine z_Ln.blk (pc' := 10) (lv' := [(0, .ref 92)]) (st' := [.int 6]) (H' := hC A E N V W ++ g) (C := []) 5 1 rfl trivial ?_
  exact z_Ln.ret rfl rfl
set_option maxRecDepth 10000 in
theorem s40_26 {L : Nat} {xs : Nat → Int32} {fv : Value} {f w : Nat} {c : Nat × Nat} {A : Nat → List (Nat × Int32)} {E : List (Nat × Option Nat)} {N : Nat → Nat} {V : Nat → Nat → Int32} {W : Nat} {g : List z_E}  (hRm : z_Rm (hC A E N V W ++ g, c)) (hf : 1 ≤ f) (hw : 60 ≤ w) : z_Ln L xs fv f w 40 0 [(0, .ref 92)] [] (hC A E N V W ++ g, c) (.inl (some (.int 1))) (hC A E N V W ++ g, c) := by
  have hR0 : ((c.1 ≤ 601024 ∧ c.2 ≤ 7293034) ∧ 1 ≤ f ∧ 60 ≤ w) := ⟨hRm, by omega, by omega⟩
  refine z_Ln.blk (pc' := (if decide (1 = 0) = true then 17 else 6)) (lv' := [(0, .ref 92)]) (st' := []) (H' := hC A E N V W ++ g) (C := []) 0 2 rfl trivial (z_Ln.brF (decide_eq_false (by decide)) ?_)
  refine z_Ln.blk (pc' := (if decide (¬ 0 = 0) = true then 17 else 13)) (lv' := [(0, .ref 92)]) (st' := []) (H' := hC A E N V W ++ g) (C := [((c.1 ≤ 601024 ∧ c.2 ≤ 7293034) ∧ 1 ≤ f ∧ 60 ≤ w)]) 2 3 rfl hR0 (z_Ln.brF (decide_eq_false (by decide)) ?_)
  refine z_Ln.blk (pc' := 18) (lv' := [(0, .ref 92)]) (st' := [.int 1]) (H' := hC A E N V W ++ g) (C := []) 5 2 rfl trivial ?_
  exact z_Ln.ret rfl rfl
set_option maxRecDepth 10000 in
theorem s37_27 {L : Nat} {xs : Nat → Int32} {fv : Value} {f w : Nat} {c : Nat × Nat} {A : Nat → List (Nat × Int32)} {E : List (Nat × Option Nat)} {N : Nat → Nat} {V : Nat → Nat → Int32} {W : Nat} {g : List z_E}  (hRm : z_Rm (hC A E N V W ++ g, c)) (hf : 1 ≤ f) (hw : 60 ≤ w) : z_Ln L xs fv f w 37 0 [(0, .ref 94)] [] (hC A E N V W ++ g, c) (.inl (some (.int 0))) (hC A E N V W ++ g, c) := by
  have hR0 : ((c.1 ≤ 601024 ∧ c.2 ≤ 7293034) ∧ 1 ≤ f ∧ 60 ≤ w) := ⟨hRm, by omega, by omega⟩
  refine z_Ln.blk (pc' := (if decide (1 = 0) = true then 13 else 6)) (lv' := [(0, .ref 94)]) (st' := []) (H' := hC A E N V W ++ g) (C := []) 0 2 rfl trivial (z_Ln.brF (decide_eq_false (by decide)) ?_)
  refine z_Ln.blk (pc' := 14) (lv' := [(0, .ref 94)]) (st' := [.int 0]) (H' := hC A E N V W ++ g) (C := [((c.1 ≤ 601024 ∧ c.2 ≤ 7293034) ∧ 1 ≤ f ∧ 60 ≤ w)]) 2 3 rfl hR0 ?_
  exact z_Ln.ret rfl rfl
set_option maxRecDepth 10000 in
theorem s36_27 {L : Nat} {xs : Nat → Int32} {fv : Value} {f w : Nat} {c : Nat × Nat} {A : Nat → List (Nat × Int32)} {E : List (Nat × Option Nat)} {N : Nat → Nat} {V : Nat → Nat → Int32} {W : Nat} {g : List z_E}  (hRm : z_Rm (hC A E N V W ++ g, c)) (hf : 2 ≤ f) (hw : 120 ≤ w) : z_Ln L xs fv f w 36 0 [(0, .ref 94)] [] (hC A E N V W ++ g, c) (.inl (some (.int 3))) (hC A E N V W ++ g, c) := by
  have hR0 : ((c.1 ≤ 601024 ∧ c.2 ≤ 7293034) ∧ 1 ≤ f ∧ 60 ≤ w) := ⟨hRm, by omega, by omega⟩
  have m37 : z_pg.2.1 37 = 1 := rfl
  refine z_Ln.blk (pc' := 6) (lv' := [(0, .ref 94)]) (st' := [.ref 94, .int 3]) (H' := hC A E N V W ++ g) (C := [((c.1 ≤ 601024 ∧ c.2 ≤ 7293034) ∧ 1 ≤ f ∧ 60 ≤ w), ((c.1 ≤ 601024 ∧ c.2 ≤ 7293034) ∧ 1 ≤ f ∧ 60 ≤ w)]) 0 4 rfl ⟨hR0, hR0⟩ ?_
  refine z_Ln.call (s := 0) (mj := 37) (as := [.ref 94]) (rr := [.int 3]) (v := some (.int 0)) (T1 := (hC A E N V W ++ g, c)) rfl rfl ⟨⟨by omega, by have : z_pg.2.1 37 = 1 := rfl; omega⟩, (by decide : (1 : Nat) ≤ 8), (by decide +kernel : (1 : Nat) ≤ z_pg.2.1 37)⟩ hRm (s37_27 hRm (by omega) (by omega)) ⟨⟨trivial, trivial⟩, ⟨(Or.inl (by decide)), trivial⟩⟩ ?_
  refine z_Ln.blk (pc' := 10) (lv' := [(0, .ref 94)]) (st' := [.int 3]) (H' := hC A E N V W ++ g) (C := []) 5 1 rfl trivial ?_
  exact z_Ln.ret rfl rfl
set_option maxRecDepth 10000 in
theorem s40_27 {L : Nat} {xs : Nat → Int32} {fv : Value} {f w : Nat} {c : Nat × Nat} {A : Nat → List (Nat × Int32)} {E : List (Nat × Option Nat)} {N : Nat → Nat} {V : Nat → Nat → Int32} {W : Nat} {g : List z_E}  (hRm : z_Rm (hC A E N V W ++ g, c)) (hf : 1 ≤ f) (hw : 60 ≤ w) : z_Ln L xs fv f w 40 0 [(0, .ref 94)] [] (hC A E N V W ++ g, c) (.inl (some (.int 1))) (hC A E N V W ++ g, c) := by
  have hR0 : ((c.1 ≤ 601024 ∧ c.2 ≤ 7293034) ∧ 1 ≤ f ∧ 60 ≤ w) := ⟨hRm, by omega, by omega⟩
  refine z_Ln.blk (pc' := (if decide (1 = 0) = true then 17 else 6)) (lv' := [(0, .ref 94)]) (st' := []) (H' := hC A E N V W ++ g) (C := []) 0 2 rfl trivial (z_Ln.brF (decide_eq_false (by decide)) ?_)
  refine z_Ln.blk (pc' := (if decide (¬ 0 = 0) = true then 17 else 13)) (lv' := [(0, .ref 94)]) (st' := []) (H' := hC A E N V W ++ g) (C := [((c.1 ≤ 601024 ∧ c.2 ≤ 7293034) ∧ 1 ≤ f ∧ 60 ≤ w)]) 2 3 rfl hR0 (z_Ln.brF (decide_eq_false (by decide)) ?_)
  refine z_Ln.blk (pc' := 18) (lv' := [(0, .ref 94)]) (st' := [.int 1]) (H' := hC A E N V W ++ g) (C := []) 5 2 rfl trivial ?_
  exact z_Ln.ret rfl rfl
set_option maxRecDepth 10000 in
theorem s37_28 {L : Nat} {xs : Nat → Int32} {fv : Value} {f w : Nat} {c : Nat × Nat} {A : Nat → List (Nat × Int32)} {E : List (Nat × Option Nat)} {N : Nat → Nat} {V : Nat → Nat → Int32} {W : Nat} {g : List z_E}  (hRm : z_Rm (hC A E N V W ++ g, c)) (hf : 1 ≤ f) (hw : 60 ≤ w) : z_Ln L xs fv f w 37 0 [(0, .ref 96)] [] (hC A E N V W ++ g, c) (.inl (some (.int 0))) (hC A E N V W ++ g, c) := by
  have hR0 : ((c.1 ≤ 601024 ∧ c.2 ≤ 7293034) ∧ 1 ≤ f ∧ 60 ≤ w) := ⟨hRm, by omega, by omega⟩
  refine z_Ln.blk (pc' := (if decide (1 = 0) = true then 13 else 6)) (lv' := [(0, .ref 96)]) (st' := []) (H' := hC A E N V W ++ g) (C := []) 0 2 rfl trivial (z_Ln.brF (decide_eq_false (by decide)) ?_)
  refine z_Ln.blk (pc' := 14) (lv' := [(0, .ref 96)]) (st' := [.int 0]) (H' := hC A E N V W ++ g) (C := [((c.1 ≤ 601024 ∧ c.2 ≤ 7293034) ∧ 1 ≤ f ∧ 60 ≤ w)]) 2 3 rfl hR0 ?_
  exact z_Ln.ret rfl rfl
set_option maxRecDepth 10000 in
theorem s36_28 {L : Nat} {xs : Nat → Int32} {fv : Value} {f w : Nat} {c : Nat × Nat} {A : Nat → List (Nat × Int32)} {E : List (Nat × Option Nat)} {N : Nat → Nat} {V : Nat → Nat → Int32} {W : Nat} {g : List z_E}  (hRm : z_Rm (hC A E N V W ++ g, c)) (hf : 2 ≤ f) (hw : 120 ≤ w) : z_Ln L xs fv f w 36 0 [(0, .ref 96)] [] (hC A E N V W ++ g, c) (.inl (some (.int 4))) (hC A E N V W ++ g, c) := by
  have hR0 : ((c.1 ≤ 601024 ∧ c.2 ≤ 7293034) ∧ 1 ≤ f ∧ 60 ≤ w) := ⟨hRm, by omega, by omega⟩
  have m37 : z_pg.2.1 37 = 1 := rfl
  refine z_Ln.blk (pc' := 6) (lv' := [(0, .ref 96)]) (st' := [.ref 96, .int 4]) (H' := hC A E N V W ++ g) (C := [((c.1 ≤ 601024 ∧ c.2 ≤ 7293034) ∧ 1 ≤ f ∧ 60 ≤ w), ((c.1 ≤ 601024 ∧ c.2 ≤ 7293034) ∧ 1 ≤ f ∧ 60 ≤ w)]) 0 4 rfl ⟨hR0, hR0⟩ ?_
  refine z_Ln.call (s := 0) (mj := 37) (as := [.ref 96]) (rr := [.int 4]) (v := some (.int 0)) (T1 := (hC A E N V W ++ g, c)) rfl rfl ⟨⟨by omega, by have : z_pg.2.1 37 = 1 := rfl; omega⟩, (by decide : (1 : Nat) ≤ 8), (by decide +kernel : (1 : Nat) ≤ z_pg.2.1 37)⟩ hRm (s37_28 hRm (by omega) (by omega)) ⟨⟨trivial, trivial⟩, ⟨(Or.inl (by decide)), trivial⟩⟩ ?_
  refine z_Ln.blk (pc' := 10) (lv' := [(0, .ref 96)]) (st' := [.int 4]) (H' := hC A E N V W ++ g) (C := []) 5 1 rfl trivial ?_
  exact z_Ln.ret rfl rfl
set_option maxRecDepth 10000 in
theorem s40_28 {L : Nat} {xs : Nat → Int32} {fv : Value} {f w : Nat} {c : Nat × Nat} {A : Nat → List (Nat × Int32)} {E : List (Nat × Option Nat)} {N : Nat → Nat} {V : Nat → Nat → Int32} {W : Nat} {g : List z_E}  (hRm : z_Rm (hC A E N V W ++ g, c)) (hf : 1 ≤ f) (hw : 60 ≤ w) : z_Ln L xs fv f w 40 0 [(0, .ref 96)] [] (hC A E N V W ++ g, c) (.inl (some (.int 1))) (hC A E N V W ++ g, c) := by
  have hR0 : ((c.1 ≤ 601024 ∧ c.2 ≤ 7293034) ∧ 1 ≤ f ∧ 60 ≤ w) := ⟨hRm, by omega, by omega⟩
  refine z_Ln.blk (pc' := (if decide (1 = 0) = true then 17 else 6)) (lv' := [(0, .ref 96)]) (st' := []) (H' := hC A E N V W ++ g) (C := []) 0 2 rfl trivial (z_Ln.brF (decide_eq_false (by decide)) ?_)
  refine z_Ln.blk (pc' := (if decide (¬ 0 = 0) = true then 17 else 13)) (lv' := [(0, .ref 96)]) (st' := []) (H' := hC A E N V W ++ g) (C := [((c.1 ≤ 601024 ∧ c.2 ≤ 7293034) ∧ 1 ≤ f ∧ 60 ≤ w)]) 2 3 rfl hR0 (z_Ln.brF (decide_eq_false (by decide)) ?_)
  refine z_Ln.blk (pc' := 18) (lv' := [(0, .ref 96)]) (st' := [.int 1]) (H' := hC A E N V W ++ g) (C := []) 5 2 rfl trivial ?_
  exact z_Ln.ret rfl rfl
set_option maxRecDepth 10000 in
theorem s37_29 {L : Nat} {xs : Nat → Int32} {fv : Value} {f w : Nat} {c : Nat × Nat} {A : Nat → List (Nat × Int32)} {E : List (Nat × Option Nat)} {N : Nat → Nat} {V : Nat → Nat → Int32} {W : Nat} {g : List z_E}  (hRm : z_Rm (hC A E N V W ++ g, c)) (hf : 1 ≤ f) (hw : 60 ≤ w) : z_Ln L xs fv f w 37 0 [(0, .ref 98)] [] (hC A E N V W ++ g, c) (.inl (some (.int 0))) (hC A E N V W ++ g, c) := by
  have hR0 : ((c.1 ≤ 601024 ∧ c.2 ≤ 7293034) ∧ 1 ≤ f ∧ 60 ≤ w) := ⟨hRm, by omega, by omega⟩
  refine z_Ln.blk (pc' := (if decide (1 = 0) = true then 13 else 6)) (lv' := [(0, .ref 98)]) (st' := []) (H' := hC A E N V W ++ g) (C := []) 0 2 rfl trivial (z_Ln.brF (decide_eq_false (by decide)) ?_)
  refine z_Ln.blk (pc' := 14) (lv' := [(0, .ref 98)]) (st' := [.int 0]) (H' := hC A E N V W ++ g) (C := [((c.1 ≤ 601024 ∧ c.2 ≤ 7293034) ∧ 1 ≤ f ∧ 60 ≤ w)]) 2 3 rfl hR0 ?_
  exact z_Ln.ret rfl rfl
set_option maxRecDepth 10000 in
theorem s36_29 {L : Nat} {xs : Nat → Int32} {fv : Value} {f w : Nat} {c : Nat × Nat} {A : Nat → List (Nat × Int32)} {E : List (Nat × Option Nat)} {N : Nat → Nat} {V : Nat → Nat → Int32} {W : Nat} {g : List z_E}  (hRm : z_Rm (hC A E N V W ++ g, c)) (hf : 2 ≤ f) (hw : 120 ≤ w) : z_Ln L xs fv f w 36 0 [(0, .ref 98)] [] (hC A E N V W ++ g, c) (.inl (some (.int 5))) (hC A E N V W ++ g, c) := by
  have hR0 : ((c.1 ≤ 601024 ∧ c.2 ≤ 7293034) ∧ 1 ≤ f ∧ 60 ≤ w) := ⟨hRm, by omega, by omega⟩
  have m37 : z_pg.2.1 37 = 1 := rfl
  refine z_Ln.blk (pc' := 6) (lv' := [(0, .ref 98)]) (st' := [.ref 98, .int 5]) (H' := hC A E N V W ++ g) (C := [((c.1 ≤ 601024 ∧ c.2 ≤ 7293034) ∧ 1 ≤ f ∧ 60 ≤ w), ((c.1 ≤ 601024 ∧ c.2 ≤ 7293034) ∧ 1 ≤ f ∧ 60 ≤ w)]) 0 4 rfl ⟨hR0, hR0⟩ ?_
  refine z_Ln.call (s := 0) (mj := 37) (as := [.ref 98]) (rr := [.int 5]) (v := some (.int 0)) (T1 := (hC A E N V W ++ g, c)) rfl rfl ⟨⟨by omega, by have : z_pg.2.1 37 = 1 := rfl; omega⟩, (by decide : (1 : Nat) ≤ 8), (by decide +kernel : (1 : Nat) ≤ z_pg.2.1 37)⟩ hRm (s37_29 hRm (by omega) (by omega)) ⟨⟨trivial, trivial⟩, ⟨(Or.inl (by decide)), trivial⟩⟩ ?_
  refine z_Ln.blk (pc' := 10) (lv' := [(0, .ref 98)]) (st' := [.int 5]) (H' := hC A E N V W ++ g) (C := []) 5 1 rfl trivial ?_
  exact z_Ln.ret rfl rfl
set_option maxRecDepth 10000 in
theorem s40_29 {L : Nat} {xs : Nat → Int32} {fv : Value} {f w : Nat} {c : Nat × Nat} {A : Nat → List (Nat × Int32)} {E : List (Nat × Option Nat)} {N : Nat → Nat} {V : Nat → Nat → Int32} {W : Nat} {g : List z_E}  (hRm : z_Rm (hC A E N V W ++ g, c)) (hf : 1 ≤ f) (hw : 60 ≤ w) : z_Ln L xs fv f w 40 0 [(0, .ref 98)] [] (hC A E N V W ++ g, c) (.inl (some (.int 1))) (hC A E N V W ++ g, c) := by
  have hR0 : ((c.1 ≤ 601024 ∧ c.2 ≤ 7293034) ∧ 1 ≤ f ∧ 60 ≤ w) := ⟨hRm, by omega, by omega⟩
  refine z_Ln.blk (pc' := (if decide (1 = 0) = true then 17 else 6)) (lv' := [(0, .ref 98)]) (st' := []) (H' := hC A E N V W ++ g) (C := []) 0 2 rfl trivial (z_Ln.brF (decide_eq_false (by decide)) ?_)
  refine z_Ln.blk (pc' := (if decide (¬ 0 = 0) = true then 17 else 13)) (lv' := [(0, .ref 98)]) (st' := []) (H' := hC A E N V W ++ g) (C := [((c.1 ≤ 601024 ∧ c.2 ≤ 7293034) ∧ 1 ≤ f ∧ 60 ≤ w)]) 2 3 rfl hR0 (z_Ln.brF (decide_eq_false (by decide)) ?_)
  refine z_Ln.blk (pc' := 18) (lv' := [(0, .ref 98)]) (st' := [.int 1]) (H' := hC A E N V W ++ g) (C := []) 5 2 rfl trivial ?_
  exact z_Ln.ret rfl rfl
set_option maxRecDepth 10000 in
theorem s37_30 {L : Nat} {xs : Nat → Int32} {fv : Value} {f w : Nat} {c : Nat × Nat} {A : Nat → List (Nat × Int32)} {E : List (Nat × Option Nat)} {N : Nat → Nat} {V : Nat → Nat → Int32} {W : Nat} {g : List z_E}  (hRm : z_Rm (hC A E N V W ++ g, c)) (hf : 1 ≤ f) (hw : 60 ≤ w) : z_Ln L xs fv f w 37 0 [(0, .ref 100)] [] (hC A E N V W ++ g, c) (.inl (some (.int 0))) (hC A E N V W ++ g, c) := by
  have hR0 : ((c.1 ≤ 601024 ∧ c.2 ≤ 7293034) ∧ 1 ≤ f ∧ 60 ≤ w) := ⟨hRm, by omega, by omega⟩
  refine z_Ln.blk (pc' := (if decide (1 = 0) = true then 13 else 6)) (lv' := [(0, .ref 100)]) (st' := []) (H' := hC A E N V W ++ g) (C := []) 0 2 rfl trivial (z_Ln.brF (decide_eq_false (by decide)) ?_)
  refine z_Ln.blk (pc' := 14) (lv' := [(0, .ref 100)]) (st' := [.int 0]) (H' := hC A E N V W ++ g) (C := [((c.1 ≤ 601024 ∧ c.2 ≤ 7293034) ∧ 1 ≤ f ∧ 60 ≤ w)]) 2 3 rfl hR0 ?_
  exact z_Ln.ret rfl rfl
set_option maxRecDepth 10000 in
theorem s36_30 {L : Nat} {xs : Nat → Int32} {fv : Value} {f w : Nat} {c : Nat × Nat} {A : Nat → List (Nat × Int32)} {E : List (Nat × Option Nat)} {N : Nat → Nat} {V : Nat → Nat → Int32} {W : Nat} {g : List z_E}  (hRm : z_Rm (hC A E N V W ++ g, c)) (hf : 2 ≤ f) (hw : 120 ≤ w) : z_Ln L xs fv f w 36 0 [(0, .ref 100)] [] (hC A E N V W ++ g, c) (.inl (some (.int 3))) (hC A E N V W ++ g, c) := by
  have hR0 : ((c.1 ≤ 601024 ∧ c.2 ≤ 7293034) ∧ 1 ≤ f ∧ 60 ≤ w) := ⟨hRm, by omega, by omega⟩
  have m37 : z_pg.2.1 37 = 1 := rfl
  refine z_Ln.blk (pc' := 6) (lv' := [(0, .ref 100)]) (st' := [.ref 100, .int 3]) (H' := hC A E N V W ++ g) (C := [((c.1 ≤ 601024 ∧ c.2 ≤ 7293034) ∧ 1 ≤ f ∧ 60 ≤ w), ((c.1 ≤ 601024 ∧ c.2 ≤ 7293034) ∧ 1 ≤ f ∧ 60 ≤ w)]) 0 4 rfl ⟨hR0, hR0⟩ ?_
  refine z_Ln.call (s := 0) (mj := 37) (as := [.ref 100]) (rr := [.int 3]) (v := some (.int 0)) (T1 := (hC A E N V W ++ g, c)) rfl rfl ⟨⟨by omega, by have : z_pg.2.1 37 = 1 := rfl; omega⟩, (by decide : (1 : Nat) ≤ 8), (by decide +kernel : (1 : Nat) ≤ z_pg.2.1 37)⟩ hRm (s37_30 hRm (by omega) (by omega)) ⟨⟨trivial, trivial⟩, ⟨(Or.inl (by decide)), trivial⟩⟩ ?_
  refine z_Ln.blk (pc' := 10) (lv' := [(0, .ref 100)]) (st' := [.int 3]) (H' := hC A E N V W ++ g) (C := []) 5 1 rfl trivial ?_
  exact z_Ln.ret rfl rfl
set_option maxRecDepth 10000 in
theorem s40_30 {L : Nat} {xs : Nat → Int32} {fv : Value} {f w : Nat} {c : Nat × Nat} {A : Nat → List (Nat × Int32)} {E : List (Nat × Option Nat)} {N : Nat → Nat} {V : Nat → Nat → Int32} {W : Nat} {g : List z_E}  (hRm : z_Rm (hC A E N V W ++ g, c)) (hf : 1 ≤ f) (hw : 60 ≤ w) : z_Ln L xs fv f w 40 0 [(0, .ref 100)] [] (hC A E N V W ++ g, c) (.inl (some (.int 1))) (hC A E N V W ++ g, c) := by
  have hR0 : ((c.1 ≤ 601024 ∧ c.2 ≤ 7293034) ∧ 1 ≤ f ∧ 60 ≤ w) := ⟨hRm, by omega, by omega⟩
  refine z_Ln.blk (pc' := (if decide (1 = 0) = true then 17 else 6)) (lv' := [(0, .ref 100)]) (st' := []) (H' := hC A E N V W ++ g) (C := []) 0 2 rfl trivial (z_Ln.brF (decide_eq_false (by decide)) ?_)
  refine z_Ln.blk (pc' := (if decide (¬ 0 = 0) = true then 17 else 13)) (lv' := [(0, .ref 100)]) (st' := []) (H' := hC A E N V W ++ g) (C := [((c.1 ≤ 601024 ∧ c.2 ≤ 7293034) ∧ 1 ≤ f ∧ 60 ≤ w)]) 2 3 rfl hR0 (z_Ln.brF (decide_eq_false (by decide)) ?_)
  refine z_Ln.blk (pc' := 18) (lv' := [(0, .ref 100)]) (st' := [.int 1]) (H' := hC A E N V W ++ g) (C := []) 5 2 rfl trivial ?_
  exact z_Ln.ret rfl rfl
set_option maxRecDepth 10000 in
theorem s37_31 {L : Nat} {xs : Nat → Int32} {fv : Value} {f w : Nat} {c : Nat × Nat} {A : Nat → List (Nat × Int32)} {E : List (Nat × Option Nat)} {N : Nat → Nat} {V : Nat → Nat → Int32} {W : Nat} {g : List z_E}  (hRm : z_Rm (hC A E N V W ++ g, c)) (hf : 1 ≤ f) (hw : 60 ≤ w) : z_Ln L xs fv f w 37 0 [(0, .ref 102)] [] (hC A E N V W ++ g, c) (.inl (some (.int 0))) (hC A E N V W ++ g, c) := by
  have hR0 : ((c.1 ≤ 601024 ∧ c.2 ≤ 7293034) ∧ 1 ≤ f ∧ 60 ≤ w) := ⟨hRm, by omega, by omega⟩
  refine z_Ln.blk (pc' := (if decide (1 = 0) = true then 13 else 6)) (lv' := [(0, .ref 102)]) (st' := []) (H' := hC A E N V W ++ g) (C := []) 0 2 rfl trivial (z_Ln.brF (decide_eq_false (by decide)) ?_)
  refine z_Ln.blk (pc' := 14) (lv' := [(0, .ref 102)]) (st' := [.int 0]) (H' := hC A E N V W ++ g) (C := [((c.1 ≤ 601024 ∧ c.2 ≤ 7293034) ∧ 1 ≤ f ∧ 60 ≤ w)]) 2 3 rfl hR0 ?_
  exact z_Ln.ret rfl rfl
set_option maxRecDepth 10000 in
theorem s36_31 {L : Nat} {xs : Nat → Int32} {fv : Value} {f w : Nat} {c : Nat × Nat} {A : Nat → List (Nat × Int32)} {E : List (Nat × Option Nat)} {N : Nat → Nat} {V : Nat → Nat → Int32} {W : Nat} {g : List z_E}  (hRm : z_Rm (hC A E N V W ++ g, c)) (hf : 2 ≤ f) (hw : 120 ≤ w) : z_Ln L xs fv f w 36 0 [(0, .ref 102)] [] (hC A E N V W ++ g, c) (.inl (some (.int 4))) (hC A E N V W ++ g, c) := by
  have hR0 : ((c.1 ≤ 601024 ∧ c.2 ≤ 7293034) ∧ 1 ≤ f ∧ 60 ≤ w) := ⟨hRm, by omega, by omega⟩
  have m37 : z_pg.2.1 37 = 1 := rfl
  refine z_Ln.blk (pc' := 6) (lv' := [(0, .ref 102)]) (st' := [.ref 102, .int 4]) (H' := hC A E N V W ++ g) (C := [((c.1 ≤ 601024 ∧ c.2 ≤ 7293034) ∧ 1 ≤ f ∧ 60 ≤ w), ((c.1 ≤ 601024 ∧ c.2 ≤ 7293034) ∧ 1 ≤ f ∧ 60 ≤ w)]) 0 4 rfl ⟨hR0, hR0⟩ ?_
  refine z_Ln.call (s := 0) (mj := 37) (as := [.ref 102]) (rr := [.int 4]) (v := some (.int 0)) (T1 := (hC A E N V W ++ g, c)) rfl rfl ⟨⟨by omega, by have : z_pg.2.1 37 = 1 := rfl; omega⟩, (by decide : (1 : Nat) ≤ 8), (by decide +kernel : (1 : Nat) ≤ z_pg.2.1 37)⟩ hRm (s37_31 hRm (by omega) (by omega)) ⟨⟨trivial, trivial⟩, ⟨(Or.inl (by decide)), trivial⟩⟩ ?_
  refine z_Ln.blk (pc' := 10) (lv' := [(0, .ref 102)]) (st' := [.int 4]) (H' := hC A E N V W ++ g) (C := []) 5 1 rfl trivial ?_
  exact z_Ln.ret rfl rfl
set_option maxRecDepth 10000 in
theorem s40_31 {L : Nat} {xs : Nat → Int32} {fv : Value} {f w : Nat} {c : Nat × Nat} {A : Nat → List (Nat × Int32)} {E : List (Nat × Option Nat)} {N : Nat → Nat} {V : Nat → Nat → Int32} {W : Nat} {g : List z_E}  (hRm : z_Rm (hC A E N V W ++ g, c)) (hf : 1 ≤ f) (hw : 60 ≤ w) : z_Ln L xs fv f w 40 0 [(0, .ref 102)] [] (hC A E N V W ++ g, c) (.inl (some (.int 1))) (hC A E N V W ++ g, c) := by
  have hR0 : ((c.1 ≤ 601024 ∧ c.2 ≤ 7293034) ∧ 1 ≤ f ∧ 60 ≤ w) := ⟨hRm, by omega, by omega⟩
  refine z_Ln.blk (pc' := (if decide (1 = 0) = true then 17 else 6)) (lv' := [(0, .ref 102)]) (st' := []) (H' := hC A E N V W ++ g) (C := []) 0 2 rfl trivial (z_Ln.brF (decide_eq_false (by decide)) ?_)
  refine z_Ln.blk (pc' := (if decide (¬ 0 = 0) = true then 17 else 13)) (lv' := [(0, .ref 102)]) (st' := []) (H' := hC A E N V W ++ g) (C := [((c.1 ≤ 601024 ∧ c.2 ≤ 7293034) ∧ 1 ≤ f ∧ 60 ≤ w)]) 2 3 rfl hR0 (z_Ln.brF (decide_eq_false (by decide)) ?_)
  refine z_Ln.blk (pc' := 18) (lv' := [(0, .ref 102)]) (st' := [.int 1]) (H' := hC A E N V W ++ g) (C := []) 5 2 rfl trivial ?_
  exact z_Ln.ret rfl rfl
set_option maxRecDepth 10000 in
theorem s37_32 {L : Nat} {xs : Nat → Int32} {fv : Value} {f w : Nat} {c : Nat × Nat} {A : Nat → List (Nat × Int32)} {E : List (Nat × Option Nat)} {N : Nat → Nat} {V : Nat → Nat → Int32} {W : Nat} {g : List z_E}  (hRm : z_Rm (hC A E N V W ++ g, c)) (hf : 1 ≤ f) (hw : 60 ≤ w) : z_Ln L xs fv f w 37 0 [(0, .ref 104)] [] (hC A E N V W ++ g, c) (.inl (some (.int 0))) (hC A E N V W ++ g, c) := by
  have hR0 : ((c.1 ≤ 601024 ∧ c.2 ≤ 7293034) ∧ 1 ≤ f ∧ 60 ≤ w) := ⟨hRm, by omega, by omega⟩
  refine z_Ln.blk (pc' := (if decide (1 = 0) = true then 13 else 6)) (lv' := [(0, .ref 104)]) (st' := []) (H' := hC A E N V W ++ g) (C := []) 0 2 rfl trivial (z_Ln.brF (decide_eq_false (by decide)) ?_)
  refine z_Ln.blk (pc' := 14) (lv' := [(0, .ref 104)]) (st' := [.int 0]) (H' := hC A E N V W ++ g) (C := [((c.1 ≤ 601024 ∧ c.2 ≤ 7293034) ∧ 1 ≤ f ∧ 60 ≤ w)]) 2 3 rfl hR0 ?_
  exact z_Ln.ret rfl rfl
set_option maxRecDepth 10000 in
theorem s36_32 {L : Nat} {xs : Nat → Int32} {fv : Value} {f w : Nat} {c : Nat × Nat} {A : Nat → List (Nat × Int32)} {E : List (Nat × Option Nat)} {N : Nat → Nat} {V : Nat → Nat → Int32} {W : Nat} {g : List z_E}  (hRm : z_Rm (hC A E N V W ++ g, c)) (hf : 2 ≤ f) (hw : 120 ≤ w) : z_Ln L xs fv f w 36 0 [(0, .ref 104)] [] (hC A E N V W ++ g, c) (.inl (some (.int 4))) (hC A E N V W ++ g, c) := by
  have hR0 : ((c.1 ≤ 601024 ∧ c.2 ≤ 7293034) ∧ 1 ≤ f ∧ 60 ≤ w) := ⟨hRm, by omega, by omega⟩
  have m37 : z_pg.2.1 37 = 1 := rfl
  refine z_Ln.blk (pc' := 6) (lv' := [(0, .ref 104)]) (st' := [.ref 104, .int 4]) (H' := hC A E N V W ++ g) (C := [((c.1 ≤ 601024 ∧ c.2 ≤ 7293034) ∧ 1 ≤ f ∧ 60 ≤ w), ((c.1 ≤ 601024 ∧ c.2 ≤ 7293034) ∧ 1 ≤ f ∧ 60 ≤ w)]) 0 4 rfl ⟨hR0, hR0⟩ ?_
  refine z_Ln.call (s := 0) (mj := 37) (as := [.ref 104]) (rr := [.int 4]) (v := some (.int 0)) (T1 := (hC A E N V W ++ g, c)) rfl rfl ⟨⟨by omega, by have : z_pg.2.1 37 = 1 := rfl; omega⟩, (by decide : (1 : Nat) ≤ 8), (by decide +kernel : (1 : Nat) ≤ z_pg.2.1 37)⟩ hRm (s37_32 hRm (by omega) (by omega)) ⟨⟨trivial, trivial⟩, ⟨(Or.inl (by decide)), trivial⟩⟩ ?_
  refine z_Ln.blk (pc' := 10) (lv' := [(0, .ref 104)]) (st' := [.int 4]) (H' := hC A E N V W ++ g) (C := []) 5 1 rfl trivial ?_
  exact z_Ln.ret rfl rfl
set_option maxRecDepth 10000 in
theorem s40_32 {L : Nat} {xs : Nat → Int32} {fv : Value} {f w : Nat} {c : Nat × Nat} {A : Nat → List (Nat × Int32)} {E : List (Nat × Option Nat)} {N : Nat → Nat} {V : Nat → Nat → Int32} {W : Nat} {g : List z_E}  (hRm : z_Rm (hC A E N V W ++ g, c)) (hf : 1 ≤ f) (hw : 60 ≤ w) : z_Ln L xs fv f w 40 0 [(0, .ref 104)] [] (hC A E N V W ++ g, c) (.inl (some (.int 1))) (hC A E N V W ++ g, c) := by
  have hR0 : ((c.1 ≤ 601024 ∧ c.2 ≤ 7293034) ∧ 1 ≤ f ∧ 60 ≤ w) := ⟨hRm, by omega, by omega⟩
  refine z_Ln.blk (pc' := (if decide (1 = 0) = true then 17 else 6)) (lv' := [(0, .ref 104)]) (st' := []) (H' := hC A E N V W ++ g) (C := []) 0 2 rfl trivial (z_Ln.brF (decide_eq_false (by decide)) ?_)
  refine z_Ln.blk (pc' := (if decide (¬ 0 = 0) = true then 17 else 13)) (lv' := [(0, .ref 104)]) (st' := []) (H' := hC A E N V W ++ g) (C := [((c.1 ≤ 601024 ∧ c.2 ≤ 7293034) ∧ 1 ≤ f ∧ 60 ≤ w)]) 2 3 rfl hR0 (z_Ln.brF (decide_eq_false (by decide)) ?_)
  refine z_Ln.blk (pc' := 18) (lv' := [(0, .ref 104)]) (st' := [.int 1]) (H' := hC A E N V W ++ g) (C := []) 5 2 rfl trivial ?_
  exact z_Ln.ret rfl rfl
theorem z_Ln.fv2 {L : Nat} {xs : Nat → Int32} {fv : Value} {f w mi pc : Nat} {lv : List (Nat × Value)} {st : List Value} {T T' : z_Y} {o : z_V} (h : (fv = .null ∨ fv = .ref 106) → z_Ln L xs fv f w mi pc lv st T o T') : z_Ln L xs fv f w mi pc lv st T o T' := fun q => h q q
set_option maxRecDepth 10000 in
theorem s43_0_1 {L : Nat} {xs : Nat → Int32} {fv : Value} {f w : Nat} {c : Nat × Nat} {A : Nat → List (Nat × Int32)} {E : List (Nat × Option Nat)} {N : Nat → Nat} {V : Nat → Nat → Int32} {W : Nat} {g : List z_E} : z_Ln L xs fv f w 43 0 [(0, .int 0), (1, .int 1), (2, fv)] [] (hC A E N V W ++ g, c) (.inl (some (.int 0))) (hC A E N V W ++ g, c) := by
  refine z_Ln.blk (pc' := (if decide (0 < 0) = true then 9 else 4)) (lv' := [(0, .int 0), (1, .int 1), (2, fv)]) (st' := []) (H' := hC A E N V W ++ g) (C := []) 0 2 rfl trivial (z_Ln.brF (decide_eq_false (by decide)) ?_)
  refine z_Ln.blk (pc' := (if decide (0 < 1) = true then 16 else 9)) (lv' := [(0, .int 0), (1, .int 1), (2, fv)]) (st' := []) (H' := hC A E N V W ++ g) (C := []) 2 3 rfl trivial (z_Ln.brT (decide_eq_true (by decide)) ?_)
  refine z_Ln.blk (pc' := 17) (lv' := [(0, .int 0), (1, .int 1), (2, fv)]) (st' := [.int 0]) (H' := hC A E N V W ++ g) (C := []) 10 1 rfl trivial ?_
  exact z_Ln.ret rfl z_retI
set_option maxRecDepth 10000 in
theorem s42_0_1 {L : Nat} {xs : Nat → Int32} {fv : Value} {f w : Nat} {c : Nat × Nat} {A : Nat → List (Nat × Int32)} {E : List (Nat × Option Nat)} {N : Nat → Nat} {V : Nat → Nat → Int32} {W : Nat} {g : List z_E} (hRm : z_Rm (hC A E N V W ++ g, c)) (hf : 1 ≤ f) (hw : 60 ≤ w) : z_Ln L xs fv f w 42 0 [(0, .int 0), (1, .int 1)] [] (hC A E N V W ++ g, c) (.inl none) (hC A E N V W ++ g, c) := by
  refine z_Ln.fv2 (fun hfv => ?_)
  refine z_Ln.blk (pc' := 5) (lv' := [(0, .int 0), (1, .int 1)]) (st' := [fv, .int 1, .int 0]) (H' := hC A E N V W ++ g) (C := []) 0 3 rfl trivial ?_
  refine z_Ln.call (s := 0) (mj := 43) (as := [.int 0, .int 1, fv]) (rr := []) (v := some (.int 0)) (T1 := (hC A E N V W ++ g, c)) rfl rfl ⟨⟨by omega, by have : z_pg.2.1 43 = 3 := rfl; omega⟩, (by decide : (0 : Nat) ≤ 8), (by rcases hfv with rfl | rfl <;> exact (by decide +kernel : (3 : Nat) ≤ z_pg.2.1 43))⟩ hRm s43_0_1 ⟨trivial, ⟨trivial, trivial, trivial⟩⟩ ?_
  refine z_Ln.blk (pc' := 9) (lv' := [(0, .int 0), (1, .int 1)]) (st' := []) (H' := hC A E N V W ++ g) (C := []) 4 1 rfl trivial ?_
  exact z_Ln.ret rfl rfl
set_option maxRecDepth 10000 in
theorem s43_0_2 {L : Nat} {xs : Nat → Int32} {fv : Value} {f w : Nat} {c : Nat × Nat} {A : Nat → List (Nat × Int32)} {E : List (Nat × Option Nat)} {N : Nat → Nat} {V : Nat → Nat → Int32} {W : Nat} {g : List z_E} : z_Ln L xs fv f w 43 0 [(0, .int 0), (1, .int 2), (2, fv)] [] (hC A E N V W ++ g, c) (.inl (some (.int 0))) (hC A E N V W ++ g, c) := by
  refine z_Ln.blk (pc' := (if decide (0 < 0) = true then 9 else 4)) (lv' := [(0, .int 0), (1, .int 2), (2, fv)]) (st' := []) (H' := hC A E N V W ++ g) (C := []) 0 2 rfl trivial (z_Ln.brF (decide_eq_false (by decide)) ?_)
  refine z_Ln.blk (pc' := (if decide (0 < 2) = true then 16 else 9)) (lv' := [(0, .int 0), (1, .int 2), (2, fv)]) (st' := []) (H' := hC A E N V W ++ g) (C := []) 2 3 rfl trivial (z_Ln.brT (decide_eq_true (by decide)) ?_)
  refine z_Ln.blk (pc' := 17) (lv' := [(0, .int 0), (1, .int 2), (2, fv)]) (st' := [.int 0]) (H' := hC A E N V W ++ g) (C := []) 10 1 rfl trivial ?_
  exact z_Ln.ret rfl z_retI
set_option maxRecDepth 10000 in
theorem s42_0_2 {L : Nat} {xs : Nat → Int32} {fv : Value} {f w : Nat} {c : Nat × Nat} {A : Nat → List (Nat × Int32)} {E : List (Nat × Option Nat)} {N : Nat → Nat} {V : Nat → Nat → Int32} {W : Nat} {g : List z_E} (hRm : z_Rm (hC A E N V W ++ g, c)) (hf : 1 ≤ f) (hw : 60 ≤ w) : z_Ln L xs fv f w 42 0 [(0, .int 0), (1, .int 2)] [] (hC A E N V W ++ g, c) (.inl none) (hC A E N V W ++ g, c) := by
  refine z_Ln.fv2 (fun hfv => ?_)
  refine z_Ln.blk (pc' := 5) (lv' := [(0, .int 0), (1, .int 2)]) (st' := [fv, .int 2, .int 0]) (H' := hC A E N V W ++ g) (C := []) 0 3 rfl trivial ?_
  refine z_Ln.call (s := 0) (mj := 43) (as := [.int 0, .int 2, fv]) (rr := []) (v := some (.int 0)) (T1 := (hC A E N V W ++ g, c)) rfl rfl ⟨⟨by omega, by have : z_pg.2.1 43 = 3 := rfl; omega⟩, (by decide : (0 : Nat) ≤ 8), (by rcases hfv with rfl | rfl <;> exact (by decide +kernel : (3 : Nat) ≤ z_pg.2.1 43))⟩ hRm s43_0_2 ⟨trivial, ⟨trivial, trivial, trivial⟩⟩ ?_
  refine z_Ln.blk (pc' := 9) (lv' := [(0, .int 0), (1, .int 2)]) (st' := []) (H' := hC A E N V W ++ g) (C := []) 4 1 rfl trivial ?_
  exact z_Ln.ret rfl rfl
set_option maxRecDepth 10000 in
theorem s43_0_3 {L : Nat} {xs : Nat → Int32} {fv : Value} {f w : Nat} {c : Nat × Nat} {A : Nat → List (Nat × Int32)} {E : List (Nat × Option Nat)} {N : Nat → Nat} {V : Nat → Nat → Int32} {W : Nat} {g : List z_E} : z_Ln L xs fv f w 43 0 [(0, .int 0), (1, .int 3), (2, fv)] [] (hC A E N V W ++ g, c) (.inl (some (.int 0))) (hC A E N V W ++ g, c) := by
  refine z_Ln.blk (pc' := (if decide (0 < 0) = true then 9 else 4)) (lv' := [(0, .int 0), (1, .int 3), (2, fv)]) (st' := []) (H' := hC A E N V W ++ g) (C := []) 0 2 rfl trivial (z_Ln.brF (decide_eq_false (by decide)) ?_)
  refine z_Ln.blk (pc' := (if decide (0 < 3) = true then 16 else 9)) (lv' := [(0, .int 0), (1, .int 3), (2, fv)]) (st' := []) (H' := hC A E N V W ++ g) (C := []) 2 3 rfl trivial (z_Ln.brT (decide_eq_true (by decide)) ?_)
  refine z_Ln.blk (pc' := 17) (lv' := [(0, .int 0), (1, .int 3), (2, fv)]) (st' := [.int 0]) (H' := hC A E N V W ++ g) (C := []) 10 1 rfl trivial ?_
  exact z_Ln.ret rfl z_retI
set_option maxRecDepth 10000 in
theorem s42_0_3 {L : Nat} {xs : Nat → Int32} {fv : Value} {f w : Nat} {c : Nat × Nat} {A : Nat → List (Nat × Int32)} {E : List (Nat × Option Nat)} {N : Nat → Nat} {V : Nat → Nat → Int32} {W : Nat} {g : List z_E} (hRm : z_Rm (hC A E N V W ++ g, c)) (hf : 1 ≤ f) (hw : 60 ≤ w) : z_Ln L xs fv f w 42 0 [(0, .int 0), (1, .int 3)] [] (hC A E N V W ++ g, c) (.inl none) (hC A E N V W ++ g, c) := by
  refine z_Ln.fv2 (fun hfv => ?_)
  refine z_Ln.blk (pc' := 5) (lv' := [(0, .int 0), (1, .int 3)]) (st' := [fv, .int 3, .int 0]) (H' := hC A E N V W ++ g) (C := []) 0 3 rfl trivial ?_
  refine z_Ln.call (s := 0) (mj := 43) (as := [.int 0, .int 3, fv]) (rr := []) (v := some (.int 0)) (T1 := (hC A E N V W ++ g, c)) rfl rfl ⟨⟨by omega, by have : z_pg.2.1 43 = 3 := rfl; omega⟩, (by decide : (0 : Nat) ≤ 8), (by rcases hfv with rfl | rfl <;> exact (by decide +kernel : (3 : Nat) ≤ z_pg.2.1 43))⟩ hRm s43_0_3 ⟨trivial, ⟨trivial, trivial, trivial⟩⟩ ?_
  refine z_Ln.blk (pc' := 9) (lv' := [(0, .int 0), (1, .int 3)]) (st' := []) (H' := hC A E N V W ++ g) (C := []) 4 1 rfl trivial ?_
  exact z_Ln.ret rfl rfl
set_option maxRecDepth 10000 in
theorem s43_0_4 {L : Nat} {xs : Nat → Int32} {fv : Value} {f w : Nat} {c : Nat × Nat} {A : Nat → List (Nat × Int32)} {E : List (Nat × Option Nat)} {N : Nat → Nat} {V : Nat → Nat → Int32} {W : Nat} {g : List z_E} : z_Ln L xs fv f w 43 0 [(0, .int 0), (1, .int 4), (2, fv)] [] (hC A E N V W ++ g, c) (.inl (some (.int 0))) (hC A E N V W ++ g, c) := by
  refine z_Ln.blk (pc' := (if decide (0 < 0) = true then 9 else 4)) (lv' := [(0, .int 0), (1, .int 4), (2, fv)]) (st' := []) (H' := hC A E N V W ++ g) (C := []) 0 2 rfl trivial (z_Ln.brF (decide_eq_false (by decide)) ?_)
  refine z_Ln.blk (pc' := (if decide (0 < 4) = true then 16 else 9)) (lv' := [(0, .int 0), (1, .int 4), (2, fv)]) (st' := []) (H' := hC A E N V W ++ g) (C := []) 2 3 rfl trivial (z_Ln.brT (decide_eq_true (by decide)) ?_)
  refine z_Ln.blk (pc' := 17) (lv' := [(0, .int 0), (1, .int 4), (2, fv)]) (st' := [.int 0]) (H' := hC A E N V W ++ g) (C := []) 10 1 rfl trivial ?_
  exact z_Ln.ret rfl z_retI
set_option maxRecDepth 10000 in
theorem s42_0_4 {L : Nat} {xs : Nat → Int32} {fv : Value} {f w : Nat} {c : Nat × Nat} {A : Nat → List (Nat × Int32)} {E : List (Nat × Option Nat)} {N : Nat → Nat} {V : Nat → Nat → Int32} {W : Nat} {g : List z_E} (hRm : z_Rm (hC A E N V W ++ g, c)) (hf : 1 ≤ f) (hw : 60 ≤ w) : z_Ln L xs fv f w 42 0 [(0, .int 0), (1, .int 4)] [] (hC A E N V W ++ g, c) (.inl none) (hC A E N V W ++ g, c) := by
  refine z_Ln.fv2 (fun hfv => ?_)
  refine z_Ln.blk (pc' := 5) (lv' := [(0, .int 0), (1, .int 4)]) (st' := [fv, .int 4, .int 0]) (H' := hC A E N V W ++ g) (C := []) 0 3 rfl trivial ?_
  refine z_Ln.call (s := 0) (mj := 43) (as := [.int 0, .int 4, fv]) (rr := []) (v := some (.int 0)) (T1 := (hC A E N V W ++ g, c)) rfl rfl ⟨⟨by omega, by have : z_pg.2.1 43 = 3 := rfl; omega⟩, (by decide : (0 : Nat) ≤ 8), (by rcases hfv with rfl | rfl <;> exact (by decide +kernel : (3 : Nat) ≤ z_pg.2.1 43))⟩ hRm s43_0_4 ⟨trivial, ⟨trivial, trivial, trivial⟩⟩ ?_
  refine z_Ln.blk (pc' := 9) (lv' := [(0, .int 0), (1, .int 4)]) (st' := []) (H' := hC A E N V W ++ g) (C := []) 4 1 rfl trivial ?_
  exact z_Ln.ret rfl rfl
set_option maxRecDepth 10000 in
theorem s43_0_5 {L : Nat} {xs : Nat → Int32} {fv : Value} {f w : Nat} {c : Nat × Nat} {A : Nat → List (Nat × Int32)} {E : List (Nat × Option Nat)} {N : Nat → Nat} {V : Nat → Nat → Int32} {W : Nat} {g : List z_E} : z_Ln L xs fv f w 43 0 [(0, .int 0), (1, .int 5), (2, fv)] [] (hC A E N V W ++ g, c) (.inl (some (.int 0))) (hC A E N V W ++ g, c) := by
  refine z_Ln.blk (pc' := (if decide (0 < 0) = true then 9 else 4)) (lv' := [(0, .int 0), (1, .int 5), (2, fv)]) (st' := []) (H' := hC A E N V W ++ g) (C := []) 0 2 rfl trivial (z_Ln.brF (decide_eq_false (by decide)) ?_)
  refine z_Ln.blk (pc' := (if decide (0 < 5) = true then 16 else 9)) (lv' := [(0, .int 0), (1, .int 5), (2, fv)]) (st' := []) (H' := hC A E N V W ++ g) (C := []) 2 3 rfl trivial (z_Ln.brT (decide_eq_true (by decide)) ?_)
  refine z_Ln.blk (pc' := 17) (lv' := [(0, .int 0), (1, .int 5), (2, fv)]) (st' := [.int 0]) (H' := hC A E N V W ++ g) (C := []) 10 1 rfl trivial ?_
  exact z_Ln.ret rfl z_retI
set_option maxRecDepth 10000 in
theorem s42_0_5 {L : Nat} {xs : Nat → Int32} {fv : Value} {f w : Nat} {c : Nat × Nat} {A : Nat → List (Nat × Int32)} {E : List (Nat × Option Nat)} {N : Nat → Nat} {V : Nat → Nat → Int32} {W : Nat} {g : List z_E} (hRm : z_Rm (hC A E N V W ++ g, c)) (hf : 1 ≤ f) (hw : 60 ≤ w) : z_Ln L xs fv f w 42 0 [(0, .int 0), (1, .int 5)] [] (hC A E N V W ++ g, c) (.inl none) (hC A E N V W ++ g, c) := by
  refine z_Ln.fv2 (fun hfv => ?_)
  refine z_Ln.blk (pc' := 5) (lv' := [(0, .int 0), (1, .int 5)]) (st' := [fv, .int 5, .int 0]) (H' := hC A E N V W ++ g) (C := []) 0 3 rfl trivial ?_
  refine z_Ln.call (s := 0) (mj := 43) (as := [.int 0, .int 5, fv]) (rr := []) (v := some (.int 0)) (T1 := (hC A E N V W ++ g, c)) rfl rfl ⟨⟨by omega, by have : z_pg.2.1 43 = 3 := rfl; omega⟩, (by decide : (0 : Nat) ≤ 8), (by rcases hfv with rfl | rfl <;> exact (by decide +kernel : (3 : Nat) ≤ z_pg.2.1 43))⟩ hRm s43_0_5 ⟨trivial, ⟨trivial, trivial, trivial⟩⟩ ?_
  refine z_Ln.blk (pc' := 9) (lv' := [(0, .int 0), (1, .int 5)]) (st' := []) (H' := hC A E N V W ++ g) (C := []) 4 1 rfl trivial ?_
  exact z_Ln.ret rfl rfl
set_option maxRecDepth 10000 in
theorem s43_0_6 {L : Nat} {xs : Nat → Int32} {fv : Value} {f w : Nat} {c : Nat × Nat} {A : Nat → List (Nat × Int32)} {E : List (Nat × Option Nat)} {N : Nat → Nat} {V : Nat → Nat → Int32} {W : Nat} {g : List z_E} : z_Ln L xs fv f w 43 0 [(0, .int 0), (1, .int 6), (2, fv)] [] (hC A E N V W ++ g, c) (.inl (some (.int 0))) (hC A E N V W ++ g, c) := by
  refine z_Ln.blk (pc' := (if decide (0 < 0) = true then 9 else 4)) (lv' := [(0, .int 0), (1, .int 6), (2, fv)]) (st' := []) (H' := hC A E N V W ++ g) (C := []) 0 2 rfl trivial (z_Ln.brF (decide_eq_false (by decide)) ?_)
  refine z_Ln.blk (pc' := (if decide (0 < 6) = true then 16 else 9)) (lv' := [(0, .int 0), (1, .int 6), (2, fv)]) (st' := []) (H' := hC A E N V W ++ g) (C := []) 2 3 rfl trivial (z_Ln.brT (decide_eq_true (by decide)) ?_)
  refine z_Ln.blk (pc' := 17) (lv' := [(0, .int 0), (1, .int 6), (2, fv)]) (st' := [.int 0]) (H' := hC A E N V W ++ g) (C := []) 10 1 rfl trivial ?_
  exact z_Ln.ret rfl z_retI
set_option maxRecDepth 10000 in
theorem s42_0_6 {L : Nat} {xs : Nat → Int32} {fv : Value} {f w : Nat} {c : Nat × Nat} {A : Nat → List (Nat × Int32)} {E : List (Nat × Option Nat)} {N : Nat → Nat} {V : Nat → Nat → Int32} {W : Nat} {g : List z_E} (hRm : z_Rm (hC A E N V W ++ g, c)) (hf : 1 ≤ f) (hw : 60 ≤ w) : z_Ln L xs fv f w 42 0 [(0, .int 0), (1, .int 6)] [] (hC A E N V W ++ g, c) (.inl none) (hC A E N V W ++ g, c) := by
  refine z_Ln.fv2 (fun hfv => ?_)
  refine z_Ln.blk (pc' := 5) (lv' := [(0, .int 0), (1, .int 6)]) (st' := [fv, .int 6, .int 0]) (H' := hC A E N V W ++ g) (C := []) 0 3 rfl trivial ?_
  refine z_Ln.call (s := 0) (mj := 43) (as := [.int 0, .int 6, fv]) (rr := []) (v := some (.int 0)) (T1 := (hC A E N V W ++ g, c)) rfl rfl ⟨⟨by omega, by have : z_pg.2.1 43 = 3 := rfl; omega⟩, (by decide : (0 : Nat) ≤ 8), (by rcases hfv with rfl | rfl <;> exact (by decide +kernel : (3 : Nat) ≤ z_pg.2.1 43))⟩ hRm s43_0_6 ⟨trivial, ⟨trivial, trivial, trivial⟩⟩ ?_
  refine z_Ln.blk (pc' := 9) (lv' := [(0, .int 0), (1, .int 6)]) (st' := []) (H' := hC A E N V W ++ g) (C := []) 4 1 rfl trivial ?_
  exact z_Ln.ret rfl rfl
set_option maxRecDepth 10000 in
theorem s43_1_2 {L : Nat} {xs : Nat → Int32} {fv : Value} {f w : Nat} {c : Nat × Nat} {A : Nat → List (Nat × Int32)} {E : List (Nat × Option Nat)} {N : Nat → Nat} {V : Nat → Nat → Int32} {W : Nat} {g : List z_E} : z_Ln L xs fv f w 43 0 [(0, .int 1), (1, .int 2), (2, fv)] [] (hC A E N V W ++ g, c) (.inl (some (.int 1))) (hC A E N V W ++ g, c) := by
  refine z_Ln.blk (pc' := (if decide (1 < 0) = true then 9 else 4)) (lv' := [(0, .int 1), (1, .int 2), (2, fv)]) (st' := []) (H' := hC A E N V W ++ g) (C := []) 0 2 rfl trivial (z_Ln.brF (decide_eq_false (by decide)) ?_)
  refine z_Ln.blk (pc' := (if decide (1 < 2) = true then 16 else 9)) (lv' := [(0, .int 1), (1, .int 2), (2, fv)]) (st' := []) (H' := hC A E N V W ++ g) (C := []) 2 3 rfl trivial (z_Ln.brT (decide_eq_true (by decide)) ?_)
  refine z_Ln.blk (pc' := 17) (lv' := [(0, .int 1), (1, .int 2), (2, fv)]) (st' := [.int 1]) (H' := hC A E N V W ++ g) (C := []) 10 1 rfl trivial ?_
  exact z_Ln.ret rfl z_retI
set_option maxRecDepth 10000 in
theorem s42_1_2 {L : Nat} {xs : Nat → Int32} {fv : Value} {f w : Nat} {c : Nat × Nat} {A : Nat → List (Nat × Int32)} {E : List (Nat × Option Nat)} {N : Nat → Nat} {V : Nat → Nat → Int32} {W : Nat} {g : List z_E} (hRm : z_Rm (hC A E N V W ++ g, c)) (hf : 1 ≤ f) (hw : 60 ≤ w) : z_Ln L xs fv f w 42 0 [(0, .int 1), (1, .int 2)] [] (hC A E N V W ++ g, c) (.inl none) (hC A E N V W ++ g, c) := by
  refine z_Ln.fv2 (fun hfv => ?_)
  refine z_Ln.blk (pc' := 5) (lv' := [(0, .int 1), (1, .int 2)]) (st' := [fv, .int 2, .int 1]) (H' := hC A E N V W ++ g) (C := []) 0 3 rfl trivial ?_
  refine z_Ln.call (s := 0) (mj := 43) (as := [.int 1, .int 2, fv]) (rr := []) (v := some (.int 1)) (T1 := (hC A E N V W ++ g, c)) rfl rfl ⟨⟨by omega, by have : z_pg.2.1 43 = 3 := rfl; omega⟩, (by decide : (0 : Nat) ≤ 8), (by rcases hfv with rfl | rfl <;> exact (by decide +kernel : (3 : Nat) ≤ z_pg.2.1 43))⟩ hRm s43_1_2 ⟨trivial, ⟨trivial, trivial, trivial⟩⟩ ?_
  refine z_Ln.blk (pc' := 9) (lv' := [(0, .int 1), (1, .int 2)]) (st' := []) (H' := hC A E N V W ++ g) (C := []) 4 1 rfl trivial ?_
  exact z_Ln.ret rfl rfl
set_option maxRecDepth 10000 in
theorem s43_1_3 {L : Nat} {xs : Nat → Int32} {fv : Value} {f w : Nat} {c : Nat × Nat} {A : Nat → List (Nat × Int32)} {E : List (Nat × Option Nat)} {N : Nat → Nat} {V : Nat → Nat → Int32} {W : Nat} {g : List z_E} : z_Ln L xs fv f w 43 0 [(0, .int 1), (1, .int 3), (2, fv)] [] (hC A E N V W ++ g, c) (.inl (some (.int 1))) (hC A E N V W ++ g, c) := by
  refine z_Ln.blk (pc' := (if decide (1 < 0) = true then 9 else 4)) (lv' := [(0, .int 1), (1, .int 3), (2, fv)]) (st' := []) (H' := hC A E N V W ++ g) (C := []) 0 2 rfl trivial (z_Ln.brF (decide_eq_false (by decide)) ?_)
  refine z_Ln.blk (pc' := (if decide (1 < 3) = true then 16 else 9)) (lv' := [(0, .int 1), (1, .int 3), (2, fv)]) (st' := []) (H' := hC A E N V W ++ g) (C := []) 2 3 rfl trivial (z_Ln.brT (decide_eq_true (by decide)) ?_)
  refine z_Ln.blk (pc' := 17) (lv' := [(0, .int 1), (1, .int 3), (2, fv)]) (st' := [.int 1]) (H' := hC A E N V W ++ g) (C := []) 10 1 rfl trivial ?_
  exact z_Ln.ret rfl z_retI
set_option maxRecDepth 10000 in
theorem s42_1_3 {L : Nat} {xs : Nat → Int32} {fv : Value} {f w : Nat} {c : Nat × Nat} {A : Nat → List (Nat × Int32)} {E : List (Nat × Option Nat)} {N : Nat → Nat} {V : Nat → Nat → Int32} {W : Nat} {g : List z_E} (hRm : z_Rm (hC A E N V W ++ g, c)) (hf : 1 ≤ f) (hw : 60 ≤ w) : z_Ln L xs fv f w 42 0 [(0, .int 1), (1, .int 3)] [] (hC A E N V W ++ g, c) (.inl none) (hC A E N V W ++ g, c) := by
  refine z_Ln.fv2 (fun hfv => ?_)
  refine z_Ln.blk (pc' := 5) (lv' := [(0, .int 1), (1, .int 3)]) (st' := [fv, .int 3, .int 1]) (H' := hC A E N V W ++ g) (C := []) 0 3 rfl trivial ?_
  refine z_Ln.call (s := 0) (mj := 43) (as := [.int 1, .int 3, fv]) (rr := []) (v := some (.int 1)) (T1 := (hC A E N V W ++ g, c)) rfl rfl ⟨⟨by omega, by have : z_pg.2.1 43 = 3 := rfl; omega⟩, (by decide : (0 : Nat) ≤ 8), (by rcases hfv with rfl | rfl <;> exact (by decide +kernel : (3 : Nat) ≤ z_pg.2.1 43))⟩ hRm s43_1_3 ⟨trivial, ⟨trivial, trivial, trivial⟩⟩ ?_
  refine z_Ln.blk (pc' := 9) (lv' := [(0, .int 1), (1, .int 3)]) (st' := []) (H' := hC A E N V W ++ g) (C := []) 4 1 rfl trivial ?_
  exact z_Ln.ret rfl rfl
set_option maxRecDepth 10000 in
theorem s43_1_4 {L : Nat} {xs : Nat → Int32} {fv : Value} {f w : Nat} {c : Nat × Nat} {A : Nat → List (Nat × Int32)} {E : List (Nat × Option Nat)} {N : Nat → Nat} {V : Nat → Nat → Int32} {W : Nat} {g : List z_E} : z_Ln L xs fv f w 43 0 [(0, .int 1), (1, .int 4), (2, fv)] [] (hC A E N V W ++ g, c) (.inl (some (.int 1))) (hC A E N V W ++ g, c) := by
  refine z_Ln.blk (pc' := (if decide (1 < 0) = true then 9 else 4)) (lv' := [(0, .int 1), (1, .int 4), (2, fv)]) (st' := []) (H' := hC A E N V W ++ g) (C := []) 0 2 rfl trivial (z_Ln.brF (decide_eq_false (by decide)) ?_)
  refine z_Ln.blk (pc' := (if decide (1 < 4) = true then 16 else 9)) (lv' := [(0, .int 1), (1, .int 4), (2, fv)]) (st' := []) (H' := hC A E N V W ++ g) (C := []) 2 3 rfl trivial (z_Ln.brT (decide_eq_true (by decide)) ?_)
  refine z_Ln.blk (pc' := 17) (lv' := [(0, .int 1), (1, .int 4), (2, fv)]) (st' := [.int 1]) (H' := hC A E N V W ++ g) (C := []) 10 1 rfl trivial ?_
  exact z_Ln.ret rfl z_retI
set_option maxRecDepth 10000 in
theorem s42_1_4 {L : Nat} {xs : Nat → Int32} {fv : Value} {f w : Nat} {c : Nat × Nat} {A : Nat → List (Nat × Int32)} {E : List (Nat × Option Nat)} {N : Nat → Nat} {V : Nat → Nat → Int32} {W : Nat} {g : List z_E} (hRm : z_Rm (hC A E N V W ++ g, c)) (hf : 1 ≤ f) (hw : 60 ≤ w) : z_Ln L xs fv f w 42 0 [(0, .int 1), (1, .int 4)] [] (hC A E N V W ++ g, c) (.inl none) (hC A E N V W ++ g, c) := by
  refine z_Ln.fv2 (fun hfv => ?_)
  refine z_Ln.blk (pc' := 5) (lv' := [(0, .int 1), (1, .int 4)]) (st' := [fv, .int 4, .int 1]) (H' := hC A E N V W ++ g) (C := []) 0 3 rfl trivial ?_
  refine z_Ln.call (s := 0) (mj := 43) (as := [.int 1, .int 4, fv]) (rr := []) (v := some (.int 1)) (T1 := (hC A E N V W ++ g, c)) rfl rfl ⟨⟨by omega, by have : z_pg.2.1 43 = 3 := rfl; omega⟩, (by decide : (0 : Nat) ≤ 8), (by rcases hfv with rfl | rfl <;> exact (by decide +kernel : (3 : Nat) ≤ z_pg.2.1 43))⟩ hRm s43_1_4 ⟨trivial, ⟨trivial, trivial, trivial⟩⟩ ?_
  refine z_Ln.blk (pc' := 9) (lv' := [(0, .int 1), (1, .int 4)]) (st' := []) (H' := hC A E N V W ++ g) (C := []) 4 1 rfl trivial ?_
  exact z_Ln.ret rfl rfl
set_option maxRecDepth 10000 in
theorem s43_1_5 {L : Nat} {xs : Nat → Int32} {fv : Value} {f w : Nat} {c : Nat × Nat} {A : Nat → List (Nat × Int32)} {E : List (Nat × Option Nat)} {N : Nat → Nat} {V : Nat → Nat → Int32} {W : Nat} {g : List z_E} : z_Ln L xs fv f w 43 0 [(0, .int 1), (1, .int 5), (2, fv)] [] (hC A E N V W ++ g, c) (.inl (some (.int 1))) (hC A E N V W ++ g, c) := by
  refine z_Ln.blk (pc' := (if decide (1 < 0) = true then 9 else 4)) (lv' := [(0, .int 1), (1, .int 5), (2, fv)]) (st' := []) (H' := hC A E N V W ++ g) (C := []) 0 2 rfl trivial (z_Ln.brF (decide_eq_false (by decide)) ?_)
  refine z_Ln.blk (pc' := (if decide (1 < 5) = true then 16 else 9)) (lv' := [(0, .int 1), (1, .int 5), (2, fv)]) (st' := []) (H' := hC A E N V W ++ g) (C := []) 2 3 rfl trivial (z_Ln.brT (decide_eq_true (by decide)) ?_)
  refine z_Ln.blk (pc' := 17) (lv' := [(0, .int 1), (1, .int 5), (2, fv)]) (st' := [.int 1]) (H' := hC A E N V W ++ g) (C := []) 10 1 rfl trivial ?_
  exact z_Ln.ret rfl z_retI
set_option maxRecDepth 10000 in
theorem s42_1_5 {L : Nat} {xs : Nat → Int32} {fv : Value} {f w : Nat} {c : Nat × Nat} {A : Nat → List (Nat × Int32)} {E : List (Nat × Option Nat)} {N : Nat → Nat} {V : Nat → Nat → Int32} {W : Nat} {g : List z_E} (hRm : z_Rm (hC A E N V W ++ g, c)) (hf : 1 ≤ f) (hw : 60 ≤ w) : z_Ln L xs fv f w 42 0 [(0, .int 1), (1, .int 5)] [] (hC A E N V W ++ g, c) (.inl none) (hC A E N V W ++ g, c) := by
  refine z_Ln.fv2 (fun hfv => ?_)
  refine z_Ln.blk (pc' := 5) (lv' := [(0, .int 1), (1, .int 5)]) (st' := [fv, .int 5, .int 1]) (H' := hC A E N V W ++ g) (C := []) 0 3 rfl trivial ?_
  refine z_Ln.call (s := 0) (mj := 43) (as := [.int 1, .int 5, fv]) (rr := []) (v := some (.int 1)) (T1 := (hC A E N V W ++ g, c)) rfl rfl ⟨⟨by omega, by have : z_pg.2.1 43 = 3 := rfl; omega⟩, (by decide : (0 : Nat) ≤ 8), (by rcases hfv with rfl | rfl <;> exact (by decide +kernel : (3 : Nat) ≤ z_pg.2.1 43))⟩ hRm s43_1_5 ⟨trivial, ⟨trivial, trivial, trivial⟩⟩ ?_
  refine z_Ln.blk (pc' := 9) (lv' := [(0, .int 1), (1, .int 5)]) (st' := []) (H' := hC A E N V W ++ g) (C := []) 4 1 rfl trivial ?_
  exact z_Ln.ret rfl rfl
set_option maxRecDepth 10000 in
theorem s43_1_6 {L : Nat} {xs : Nat → Int32} {fv : Value} {f w : Nat} {c : Nat × Nat} {A : Nat → List (Nat × Int32)} {E : List (Nat × Option Nat)} {N : Nat → Nat} {V : Nat → Nat → Int32} {W : Nat} {g : List z_E} : z_Ln L xs fv f w 43 0 [(0, .int 1), (1, .int 6), (2, fv)] [] (hC A E N V W ++ g, c) (.inl (some (.int 1))) (hC A E N V W ++ g, c) := by
  refine z_Ln.blk (pc' := (if decide (1 < 0) = true then 9 else 4)) (lv' := [(0, .int 1), (1, .int 6), (2, fv)]) (st' := []) (H' := hC A E N V W ++ g) (C := []) 0 2 rfl trivial (z_Ln.brF (decide_eq_false (by decide)) ?_)
  refine z_Ln.blk (pc' := (if decide (1 < 6) = true then 16 else 9)) (lv' := [(0, .int 1), (1, .int 6), (2, fv)]) (st' := []) (H' := hC A E N V W ++ g) (C := []) 2 3 rfl trivial (z_Ln.brT (decide_eq_true (by decide)) ?_)
  refine z_Ln.blk (pc' := 17) (lv' := [(0, .int 1), (1, .int 6), (2, fv)]) (st' := [.int 1]) (H' := hC A E N V W ++ g) (C := []) 10 1 rfl trivial ?_
  exact z_Ln.ret rfl z_retI
set_option maxRecDepth 10000 in
theorem s42_1_6 {L : Nat} {xs : Nat → Int32} {fv : Value} {f w : Nat} {c : Nat × Nat} {A : Nat → List (Nat × Int32)} {E : List (Nat × Option Nat)} {N : Nat → Nat} {V : Nat → Nat → Int32} {W : Nat} {g : List z_E} (hRm : z_Rm (hC A E N V W ++ g, c)) (hf : 1 ≤ f) (hw : 60 ≤ w) : z_Ln L xs fv f w 42 0 [(0, .int 1), (1, .int 6)] [] (hC A E N V W ++ g, c) (.inl none) (hC A E N V W ++ g, c) := by
  refine z_Ln.fv2 (fun hfv => ?_)
  refine z_Ln.blk (pc' := 5) (lv' := [(0, .int 1), (1, .int 6)]) (st' := [fv, .int 6, .int 1]) (H' := hC A E N V W ++ g) (C := []) 0 3 rfl trivial ?_
  refine z_Ln.call (s := 0) (mj := 43) (as := [.int 1, .int 6, fv]) (rr := []) (v := some (.int 1)) (T1 := (hC A E N V W ++ g, c)) rfl rfl ⟨⟨by omega, by have : z_pg.2.1 43 = 3 := rfl; omega⟩, (by decide : (0 : Nat) ≤ 8), (by rcases hfv with rfl | rfl <;> exact (by decide +kernel : (3 : Nat) ≤ z_pg.2.1 43))⟩ hRm s43_1_6 ⟨trivial, ⟨trivial, trivial, trivial⟩⟩ ?_
  refine z_Ln.blk (pc' := 9) (lv' := [(0, .int 1), (1, .int 6)]) (st' := []) (H' := hC A E N V W ++ g) (C := []) 4 1 rfl trivial ?_
  exact z_Ln.ret rfl rfl
set_option maxRecDepth 10000 in
theorem s43_2_3 {L : Nat} {xs : Nat → Int32} {fv : Value} {f w : Nat} {c : Nat × Nat} {A : Nat → List (Nat × Int32)} {E : List (Nat × Option Nat)} {N : Nat → Nat} {V : Nat → Nat → Int32} {W : Nat} {g : List z_E} : z_Ln L xs fv f w 43 0 [(0, .int 2), (1, .int 3), (2, fv)] [] (hC A E N V W ++ g, c) (.inl (some (.int 2))) (hC A E N V W ++ g, c) := by
  refine z_Ln.blk (pc' := (if decide (2 < 0) = true then 9 else 4)) (lv' := [(0, .int 2), (1, .int 3), (2, fv)]) (st' := []) (H' := hC A E N V W ++ g) (C := []) 0 2 rfl trivial (z_Ln.brF (decide_eq_false (by decide)) ?_)
  refine z_Ln.blk (pc' := (if decide (2 < 3) = true then 16 else 9)) (lv' := [(0, .int 2), (1, .int 3), (2, fv)]) (st' := []) (H' := hC A E N V W ++ g) (C := []) 2 3 rfl trivial (z_Ln.brT (decide_eq_true (by decide)) ?_)
  refine z_Ln.blk (pc' := 17) (lv' := [(0, .int 2), (1, .int 3), (2, fv)]) (st' := [.int 2]) (H' := hC A E N V W ++ g) (C := []) 10 1 rfl trivial ?_
  exact z_Ln.ret rfl z_retI
set_option maxRecDepth 10000 in
theorem s42_2_3 {L : Nat} {xs : Nat → Int32} {fv : Value} {f w : Nat} {c : Nat × Nat} {A : Nat → List (Nat × Int32)} {E : List (Nat × Option Nat)} {N : Nat → Nat} {V : Nat → Nat → Int32} {W : Nat} {g : List z_E} (hRm : z_Rm (hC A E N V W ++ g, c)) (hf : 1 ≤ f) (hw : 60 ≤ w) : z_Ln L xs fv f w 42 0 [(0, .int 2), (1, .int 3)] [] (hC A E N V W ++ g, c) (.inl none) (hC A E N V W ++ g, c) := by
  refine z_Ln.fv2 (fun hfv => ?_)
  refine z_Ln.blk (pc' := 5) (lv' := [(0, .int 2), (1, .int 3)]) (st' := [fv, .int 3, .int 2]) (H' := hC A E N V W ++ g) (C := []) 0 3 rfl trivial ?_
  refine z_Ln.call (s := 0) (mj := 43) (as := [.int 2, .int 3, fv]) (rr := []) (v := some (.int 2)) (T1 := (hC A E N V W ++ g, c)) rfl rfl ⟨⟨by omega, by have : z_pg.2.1 43 = 3 := rfl; omega⟩, (by decide : (0 : Nat) ≤ 8), (by rcases hfv with rfl | rfl <;> exact (by decide +kernel : (3 : Nat) ≤ z_pg.2.1 43))⟩ hRm s43_2_3 ⟨trivial, ⟨trivial, trivial, trivial⟩⟩ ?_
  refine z_Ln.blk (pc' := 9) (lv' := [(0, .int 2), (1, .int 3)]) (st' := []) (H' := hC A E N V W ++ g) (C := []) 4 1 rfl trivial ?_
  exact z_Ln.ret rfl rfl
set_option maxRecDepth 10000 in
theorem s43_2_4 {L : Nat} {xs : Nat → Int32} {fv : Value} {f w : Nat} {c : Nat × Nat} {A : Nat → List (Nat × Int32)} {E : List (Nat × Option Nat)} {N : Nat → Nat} {V : Nat → Nat → Int32} {W : Nat} {g : List z_E} : z_Ln L xs fv f w 43 0 [(0, .int 2), (1, .int 4), (2, fv)] [] (hC A E N V W ++ g, c) (.inl (some (.int 2))) (hC A E N V W ++ g, c) := by
  refine z_Ln.blk (pc' := (if decide (2 < 0) = true then 9 else 4)) (lv' := [(0, .int 2), (1, .int 4), (2, fv)]) (st' := []) (H' := hC A E N V W ++ g) (C := []) 0 2 rfl trivial (z_Ln.brF (decide_eq_false (by decide)) ?_)
  refine z_Ln.blk (pc' := (if decide (2 < 4) = true then 16 else 9)) (lv' := [(0, .int 2), (1, .int 4), (2, fv)]) (st' := []) (H' := hC A E N V W ++ g) (C := []) 2 3 rfl trivial (z_Ln.brT (decide_eq_true (by decide)) ?_)
  refine z_Ln.blk (pc' := 17) (lv' := [(0, .int 2), (1, .int 4), (2, fv)]) (st' := [.int 2]) (H' := hC A E N V W ++ g) (C := []) 10 1 rfl trivial ?_
  exact z_Ln.ret rfl z_retI
set_option maxRecDepth 10000 in
theorem s42_2_4 {L : Nat} {xs : Nat → Int32} {fv : Value} {f w : Nat} {c : Nat × Nat} {A : Nat → List (Nat × Int32)} {E : List (Nat × Option Nat)} {N : Nat → Nat} {V : Nat → Nat → Int32} {W : Nat} {g : List z_E} (hRm : z_Rm (hC A E N V W ++ g, c)) (hf : 1 ≤ f) (hw : 60 ≤ w) : z_Ln L xs fv f w 42 0 [(0, .int 2), (1, .int 4)] [] (hC A E N V W ++ g, c) (.inl none) (hC A E N V W ++ g, c) := by
  refine z_Ln.fv2 (fun hfv => ?_)
  refine z_Ln.blk (pc' := 5) (lv' := [(0, .int 2), (1, .int 4)]) (st' := [fv, .int 4, .int 2]) (H' := hC A E N V W ++ g) (C := []) 0 3 rfl trivial ?_
  refine z_Ln.call (s := 0) (mj := 43) (as := [.int 2, .int 4, fv]) (rr := []) (v := some (.int 2)) (T1 := (hC A E N V W ++ g, c)) rfl rfl ⟨⟨by omega, by have : z_pg.2.1 43 = 3 := rfl; omega⟩, (by decide : (0 : Nat) ≤ 8), (by rcases hfv with rfl | rfl <;> exact (by decide +kernel : (3 : Nat) ≤ z_pg.2.1 43))⟩ hRm s43_2_4 ⟨trivial, ⟨trivial, trivial, trivial⟩⟩ ?_
  refine z_Ln.blk (pc' := 9) (lv' := [(0, .int 2), (1, .int 4)]) (st' := []) (H' := hC A E N V W ++ g) (C := []) 4 1 rfl trivial ?_
  exact z_Ln.ret rfl rfl
set_option maxRecDepth 10000 in
theorem s43_2_5 {L : Nat} {xs : Nat → Int32} {fv : Value} {f w : Nat} {c : Nat × Nat} {A : Nat → List (Nat × Int32)} {E : List (Nat × Option Nat)} {N : Nat → Nat} {V : Nat → Nat → Int32} {W : Nat} {g : List z_E} : z_Ln L xs fv f w 43 0 [(0, .int 2), (1, .int 5), (2, fv)] [] (hC A E N V W ++ g, c) (.inl (some (.int 2))) (hC A E N V W ++ g, c) := by
  refine z_Ln.blk (pc' := (if decide (2 < 0) = true then 9 else 4)) (lv' := [(0, .int 2), (1, .int 5), (2, fv)]) (st' := []) (H' := hC A E N V W ++ g) (C := []) 0 2 rfl trivial (z_Ln.brF (decide_eq_false (by decide)) ?_)
  refine z_Ln.blk (pc' := (if decide (2 < 5) = true then 16 else 9)) (lv' := [(0, .int 2), (1, .int 5), (2, fv)]) (st' := []) (H' := hC A E N V W ++ g) (C := []) 2 3 rfl trivial (z_Ln.brT (decide_eq_true (by decide)) ?_)
  refine z_Ln.blk (pc' := 17) (lv' := [(0, .int 2), (1, .int 5), (2, fv)]) (st' := [.int 2]) (H' := hC A E N V W ++ g) (C := []) 10 1 rfl trivial ?_
  exact z_Ln.ret rfl z_retI
set_option maxRecDepth 10000 in
theorem s42_2_5 {L : Nat} {xs : Nat → Int32} {fv : Value} {f w : Nat} {c : Nat × Nat} {A : Nat → List (Nat × Int32)} {E : List (Nat × Option Nat)} {N : Nat → Nat} {V : Nat → Nat → Int32} {W : Nat} {g : List z_E} (hRm : z_Rm (hC A E N V W ++ g, c)) (hf : 1 ≤ f) (hw : 60 ≤ w) : z_Ln L xs fv f w 42 0 [(0, .int 2), (1, .int 5)] [] (hC A E N V W ++ g, c) (.inl none) (hC A E N V W ++ g, c) := by
  refine z_Ln.fv2 (fun hfv => ?_)
  refine z_Ln.blk (pc' := 5) (lv' := [(0, .int 2), (1, .int 5)]) (st' := [fv, .int 5, .int 2]) (H' := hC A E N V W ++ g) (C := []) 0 3 rfl trivial ?_
  refine z_Ln.call (s := 0) (mj := 43) (as := [.int 2, .int 5, fv]) (rr := []) (v := some (.int 2)) (T1 := (hC A E N V W ++ g, c)) rfl rfl ⟨⟨by omega, by have : z_pg.2.1 43 = 3 := rfl; omega⟩, (by decide : (0 : Nat) ≤ 8), (by rcases hfv with rfl | rfl <;> exact (by decide +kernel : (3 : Nat) ≤ z_pg.2.1 43))⟩ hRm s43_2_5 ⟨trivial, ⟨trivial, trivial, trivial⟩⟩ ?_
  refine z_Ln.blk (pc' := 9) (lv' := [(0, .int 2), (1, .int 5)]) (st' := []) (H' := hC A E N V W ++ g) (C := []) 4 1 rfl trivial ?_
  exact z_Ln.ret rfl rfl
set_option maxRecDepth 10000 in
theorem s43_2_6 {L : Nat} {xs : Nat → Int32} {fv : Value} {f w : Nat} {c : Nat × Nat} {A : Nat → List (Nat × Int32)} {E : List (Nat × Option Nat)} {N : Nat → Nat} {V : Nat → Nat → Int32} {W : Nat} {g : List z_E} : z_Ln L xs fv f w 43 0 [(0, .int 2), (1, .int 6), (2, fv)] [] (hC A E N V W ++ g, c) (.inl (some (.int 2))) (hC A E N V W ++ g, c) := by
  refine z_Ln.blk (pc' := (if decide (2 < 0) = true then 9 else 4)) (lv' := [(0, .int 2), (1, .int 6), (2, fv)]) (st' := []) (H' := hC A E N V W ++ g) (C := []) 0 2 rfl trivial (z_Ln.brF (decide_eq_false (by decide)) ?_)
  refine z_Ln.blk (pc' := (if decide (2 < 6) = true then 16 else 9)) (lv' := [(0, .int 2), (1, .int 6), (2, fv)]) (st' := []) (H' := hC A E N V W ++ g) (C := []) 2 3 rfl trivial (z_Ln.brT (decide_eq_true (by decide)) ?_)
  refine z_Ln.blk (pc' := 17) (lv' := [(0, .int 2), (1, .int 6), (2, fv)]) (st' := [.int 2]) (H' := hC A E N V W ++ g) (C := []) 10 1 rfl trivial ?_
  exact z_Ln.ret rfl z_retI
set_option maxRecDepth 10000 in
theorem s42_2_6 {L : Nat} {xs : Nat → Int32} {fv : Value} {f w : Nat} {c : Nat × Nat} {A : Nat → List (Nat × Int32)} {E : List (Nat × Option Nat)} {N : Nat → Nat} {V : Nat → Nat → Int32} {W : Nat} {g : List z_E} (hRm : z_Rm (hC A E N V W ++ g, c)) (hf : 1 ≤ f) (hw : 60 ≤ w) : z_Ln L xs fv f w 42 0 [(0, .int 2), (1, .int 6)] [] (hC A E N V W ++ g, c) (.inl none) (hC A E N V W ++ g, c) := by
  refine z_Ln.fv2 (fun hfv => ?_)
  refine z_Ln.blk (pc' := 5) (lv' := [(0, .int 2), (1, .int 6)]) (st' := [fv, .int 6, .int 2]) (H' := hC A E N V W ++ g) (C := []) 0 3 rfl trivial ?_
  refine z_Ln.call (s := 0) (mj := 43) (as := [.int 2, .int 6, fv]) (rr := []) (v := some (.int 2)) (T1 := (hC A E N V W ++ g, c)) rfl rfl ⟨⟨by omega, by have : z_pg.2.1 43 = 3 := rfl; omega⟩, (by decide : (0 : Nat) ≤ 8), (by rcases hfv with rfl | rfl <;> exact (by decide +kernel : (3 : Nat) ≤ z_pg.2.1 43))⟩ hRm s43_2_6 ⟨trivial, ⟨trivial, trivial, trivial⟩⟩ ?_
  refine z_Ln.blk (pc' := 9) (lv' := [(0, .int 2), (1, .int 6)]) (st' := []) (H' := hC A E N V W ++ g) (C := []) 4 1 rfl trivial ?_
  exact z_Ln.ret rfl rfl
set_option maxRecDepth 10000 in
theorem s43_3_4 {L : Nat} {xs : Nat → Int32} {fv : Value} {f w : Nat} {c : Nat × Nat} {A : Nat → List (Nat × Int32)} {E : List (Nat × Option Nat)} {N : Nat → Nat} {V : Nat → Nat → Int32} {W : Nat} {g : List z_E} : z_Ln L xs fv f w 43 0 [(0, .int 3), (1, .int 4), (2, fv)] [] (hC A E N V W ++ g, c) (.inl (some (.int 3))) (hC A E N V W ++ g, c) := by
  refine z_Ln.blk (pc' := (if decide (3 < 0) = true then 9 else 4)) (lv' := [(0, .int 3), (1, .int 4), (2, fv)]) (st' := []) (H' := hC A E N V W ++ g) (C := []) 0 2 rfl trivial (z_Ln.brF (decide_eq_false (by decide)) ?_)
  refine z_Ln.blk (pc' := (if decide (3 < 4) = true then 16 else 9)) (lv' := [(0, .int 3), (1, .int 4), (2, fv)]) (st' := []) (H' := hC A E N V W ++ g) (C := []) 2 3 rfl trivial (z_Ln.brT (decide_eq_true (by decide)) ?_)
  refine z_Ln.blk (pc' := 17) (lv' := [(0, .int 3), (1, .int 4), (2, fv)]) (st' := [.int 3]) (H' := hC A E N V W ++ g) (C := []) 10 1 rfl trivial ?_
  exact z_Ln.ret rfl z_retI
set_option maxRecDepth 10000 in
theorem s42_3_4 {L : Nat} {xs : Nat → Int32} {fv : Value} {f w : Nat} {c : Nat × Nat} {A : Nat → List (Nat × Int32)} {E : List (Nat × Option Nat)} {N : Nat → Nat} {V : Nat → Nat → Int32} {W : Nat} {g : List z_E} (hRm : z_Rm (hC A E N V W ++ g, c)) (hf : 1 ≤ f) (hw : 60 ≤ w) : z_Ln L xs fv f w 42 0 [(0, .int 3), (1, .int 4)] [] (hC A E N V W ++ g, c) (.inl none) (hC A E N V W ++ g, c) := by
  refine z_Ln.fv2 (fun hfv => ?_)
  refine z_Ln.blk (pc' := 5) (lv' := [(0, .int 3), (1, .int 4)]) (st' := [fv, .int 4, .int 3]) (H' := hC A E N V W ++ g) (C := []) 0 3 rfl trivial ?_
  refine z_Ln.call (s := 0) (mj := 43) (as := [.int 3, .int 4, fv]) (rr := []) (v := some (.int 3)) (T1 := (hC A E N V W ++ g, c)) rfl rfl ⟨⟨by omega, by have : z_pg.2.1 43 = 3 := rfl; omega⟩, (by decide : (0 : Nat) ≤ 8), (by rcases hfv with rfl | rfl <;> exact (by decide +kernel : (3 : Nat) ≤ z_pg.2.1 43))⟩ hRm s43_3_4 ⟨trivial, ⟨trivial, trivial, trivial⟩⟩ ?_
  refine z_Ln.blk (pc' := 9) (lv' := [(0, .int 3), (1, .int 4)]) (st' := []) (H' := hC A E N V W ++ g) (C := []) 4 1 rfl trivial ?_
  exact z_Ln.ret rfl rfl
set_option maxRecDepth 10000 in
theorem s43_3_5 {L : Nat} {xs : Nat → Int32} {fv : Value} {f w : Nat} {c : Nat × Nat} {A : Nat → List (Nat × Int32)} {E : List (Nat × Option Nat)} {N : Nat → Nat} {V : Nat → Nat → Int32} {W : Nat} {g : List z_E} : z_Ln L xs fv f w 43 0 [(0, .int 3), (1, .int 5), (2, fv)] [] (hC A E N V W ++ g, c) (.inl (some (.int 3))) (hC A E N V W ++ g, c) := by
  refine z_Ln.blk (pc' := (if decide (3 < 0) = true then 9 else 4)) (lv' := [(0, .int 3), (1, .int 5), (2, fv)]) (st' := []) (H' := hC A E N V W ++ g) (C := []) 0 2 rfl trivial (z_Ln.brF (decide_eq_false (by decide)) ?_)
  refine z_Ln.blk (pc' := (if decide (3 < 5) = true then 16 else 9)) (lv' := [(0, .int 3), (1, .int 5), (2, fv)]) (st' := []) (H' := hC A E N V W ++ g) (C := []) 2 3 rfl trivial (z_Ln.brT (decide_eq_true (by decide)) ?_)
  refine z_Ln.blk (pc' := 17) (lv' := [(0, .int 3), (1, .int 5), (2, fv)]) (st' := [.int 3]) (H' := hC A E N V W ++ g) (C := []) 10 1 rfl trivial ?_
  exact z_Ln.ret rfl z_retI
set_option maxRecDepth 10000 in
theorem s42_3_5 {L : Nat} {xs : Nat → Int32} {fv : Value} {f w : Nat} {c : Nat × Nat} {A : Nat → List (Nat × Int32)} {E : List (Nat × Option Nat)} {N : Nat → Nat} {V : Nat → Nat → Int32} {W : Nat} {g : List z_E} (hRm : z_Rm (hC A E N V W ++ g, c)) (hf : 1 ≤ f) (hw : 60 ≤ w) : z_Ln L xs fv f w 42 0 [(0, .int 3), (1, .int 5)] [] (hC A E N V W ++ g, c) (.inl none) (hC A E N V W ++ g, c) := by
  refine z_Ln.fv2 (fun hfv => ?_)
  refine z_Ln.blk (pc' := 5) (lv' := [(0, .int 3), (1, .int 5)]) (st' := [fv, .int 5, .int 3]) (H' := hC A E N V W ++ g) (C := []) 0 3 rfl trivial ?_
  refine z_Ln.call (s := 0) (mj := 43) (as := [.int 3, .int 5, fv]) (rr := []) (v := some (.int 3)) (T1 := (hC A E N V W ++ g, c)) rfl rfl ⟨⟨by omega, by have : z_pg.2.1 43 = 3 := rfl; omega⟩, (by decide : (0 : Nat) ≤ 8), (by rcases hfv with rfl | rfl <;> exact (by decide +kernel : (3 : Nat) ≤ z_pg.2.1 43))⟩ hRm s43_3_5 ⟨trivial, ⟨trivial, trivial, trivial⟩⟩ ?_
  refine z_Ln.blk (pc' := 9) (lv' := [(0, .int 3), (1, .int 5)]) (st' := []) (H' := hC A E N V W ++ g) (C := []) 4 1 rfl trivial ?_
  exact z_Ln.ret rfl rfl
set_option maxRecDepth 10000 in
theorem s43_3_6 {L : Nat} {xs : Nat → Int32} {fv : Value} {f w : Nat} {c : Nat × Nat} {A : Nat → List (Nat × Int32)} {E : List (Nat × Option Nat)} {N : Nat → Nat} {V : Nat → Nat → Int32} {W : Nat} {g : List z_E} : z_Ln L xs fv f w 43 0 [(0, .int 3), (1, .int 6), (2, fv)] [] (hC A E N V W ++ g, c) (.inl (some (.int 3))) (hC A E N V W ++ g, c) := by
  refine z_Ln.blk (pc' := (if decide (3 < 0) = true then 9 else 4)) (lv' := [(0, .int 3), (1, .int 6), (2, fv)]) (st' := []) (H' := hC A E N V W ++ g) (C := []) 0 2 rfl trivial (z_Ln.brF (decide_eq_false (by decide)) ?_)
  refine z_Ln.blk (pc' := (if decide (3 < 6) = true then 16 else 9)) (lv' := [(0, .int 3), (1, .int 6), (2, fv)]) (st' := []) (H' := hC A E N V W ++ g) (C := []) 2 3 rfl trivial (z_Ln.brT (decide_eq_true (by decide)) ?_)
  refine z_Ln.blk (pc' := 17) (lv' := [(0, .int 3), (1, .int 6), (2, fv)]) (st' := [.int 3]) (H' := hC A E N V W ++ g) (C := []) 10 1 rfl trivial ?_
  exact z_Ln.ret rfl z_retI
set_option maxRecDepth 10000 in
theorem s42_3_6 {L : Nat} {xs : Nat → Int32} {fv : Value} {f w : Nat} {c : Nat × Nat} {A : Nat → List (Nat × Int32)} {E : List (Nat × Option Nat)} {N : Nat → Nat} {V : Nat → Nat → Int32} {W : Nat} {g : List z_E} (hRm : z_Rm (hC A E N V W ++ g, c)) (hf : 1 ≤ f) (hw : 60 ≤ w) : z_Ln L xs fv f w 42 0 [(0, .int 3), (1, .int 6)] [] (hC A E N V W ++ g, c) (.inl none) (hC A E N V W ++ g, c) := by
  refine z_Ln.fv2 (fun hfv => ?_)
  refine z_Ln.blk (pc' := 5) (lv' := [(0, .int 3), (1, .int 6)]) (st' := [fv, .int 6, .int 3]) (H' := hC A E N V W ++ g) (C := []) 0 3 rfl trivial ?_
  refine z_Ln.call (s := 0) (mj := 43) (as := [.int 3, .int 6, fv]) (rr := []) (v := some (.int 3)) (T1 := (hC A E N V W ++ g, c)) rfl rfl ⟨⟨by omega, by have : z_pg.2.1 43 = 3 := rfl; omega⟩, (by decide : (0 : Nat) ≤ 8), (by rcases hfv with rfl | rfl <;> exact (by decide +kernel : (3 : Nat) ≤ z_pg.2.1 43))⟩ hRm s43_3_6 ⟨trivial, ⟨trivial, trivial, trivial⟩⟩ ?_
  refine z_Ln.blk (pc' := 9) (lv' := [(0, .int 3), (1, .int 6)]) (st' := []) (H' := hC A E N V W ++ g) (C := []) 4 1 rfl trivial ?_
  exact z_Ln.ret rfl rfl
set_option maxRecDepth 10000 in
theorem s43_4_5 {L : Nat} {xs : Nat → Int32} {fv : Value} {f w : Nat} {c : Nat × Nat} {A : Nat → List (Nat × Int32)} {E : List (Nat × Option Nat)} {N : Nat → Nat} {V : Nat → Nat → Int32} {W : Nat} {g : List z_E} : z_Ln L xs fv f w 43 0 [(0, .int 4), (1, .int 5), (2, fv)] [] (hC A E N V W ++ g, c) (.inl (some (.int 4))) (hC A E N V W ++ g, c) := by
  refine z_Ln.blk (pc' := (if decide (4 < 0) = true then 9 else 4)) (lv' := [(0, .int 4), (1, .int 5), (2, fv)]) (st' := []) (H' := hC A E N V W ++ g) (C := []) 0 2 rfl trivial (z_Ln.brF (decide_eq_false (by decide)) ?_)
  refine z_Ln.blk (pc' := (if decide (4 < 5) = true then 16 else 9)) (lv' := [(0, .int 4), (1, .int 5), (2, fv)]) (st' := []) (H' := hC A E N V W ++ g) (C := []) 2 3 rfl trivial (z_Ln.brT (decide_eq_true (by decide)) ?_)
  refine z_Ln.blk (pc' := 17) (lv' := [(0, .int 4), (1, .int 5), (2, fv)]) (st' := [.int 4]) (H' := hC A E N V W ++ g) (C := []) 10 1 rfl trivial ?_
  exact z_Ln.ret rfl z_retI
set_option maxRecDepth 10000 in
theorem s42_4_5 {L : Nat} {xs : Nat → Int32} {fv : Value} {f w : Nat} {c : Nat × Nat} {A : Nat → List (Nat × Int32)} {E : List (Nat × Option Nat)} {N : Nat → Nat} {V : Nat → Nat → Int32} {W : Nat} {g : List z_E} (hRm : z_Rm (hC A E N V W ++ g, c)) (hf : 1 ≤ f) (hw : 60 ≤ w) : z_Ln L xs fv f w 42 0 [(0, .int 4), (1, .int 5)] [] (hC A E N V W ++ g, c) (.inl none) (hC A E N V W ++ g, c) := by
  refine z_Ln.fv2 (fun hfv => ?_)
  refine z_Ln.blk (pc' := 5) (lv' := [(0, .int 4), (1, .int 5)]) (st' := [fv, .int 5, .int 4]) (H' := hC A E N V W ++ g) (C := []) 0 3 rfl trivial ?_
  refine z_Ln.call (s := 0) (mj := 43) (as := [.int 4, .int 5, fv]) (rr := []) (v := some (.int 4)) (T1 := (hC A E N V W ++ g, c)) rfl rfl ⟨⟨by omega, by have : z_pg.2.1 43 = 3 := rfl; omega⟩, (by decide : (0 : Nat) ≤ 8), (by rcases hfv with rfl | rfl <;> exact (by decide +kernel : (3 : Nat) ≤ z_pg.2.1 43))⟩ hRm s43_4_5 ⟨trivial, ⟨trivial, trivial, trivial⟩⟩ ?_
  refine z_Ln.blk (pc' := 9) (lv' := [(0, .int 4), (1, .int 5)]) (st' := []) (H' := hC A E N V W ++ g) (C := []) 4 1 rfl trivial ?_
  exact z_Ln.ret rfl rfl
set_option maxRecDepth 10000 in
theorem s43_4_6 {L : Nat} {xs : Nat → Int32} {fv : Value} {f w : Nat} {c : Nat × Nat} {A : Nat → List (Nat × Int32)} {E : List (Nat × Option Nat)} {N : Nat → Nat} {V : Nat → Nat → Int32} {W : Nat} {g : List z_E} : z_Ln L xs fv f w 43 0 [(0, .int 4), (1, .int 6), (2, fv)] [] (hC A E N V W ++ g, c) (.inl (some (.int 4))) (hC A E N V W ++ g, c) := by
  refine z_Ln.blk (pc' := (if decide (4 < 0) = true then 9 else 4)) (lv' := [(0, .int 4), (1, .int 6), (2, fv)]) (st' := []) (H' := hC A E N V W ++ g) (C := []) 0 2 rfl trivial (z_Ln.brF (decide_eq_false (by decide)) ?_)
  refine z_Ln.blk (pc' := (if decide (4 < 6) = true then 16 else 9)) (lv' := [(0, .int 4), (1, .int 6), (2, fv)]) (st' := []) (H' := hC A E N V W ++ g) (C := []) 2 3 rfl trivial (z_Ln.brT (decide_eq_true (by decide)) ?_)
  refine z_Ln.blk (pc' := 17) (lv' := [(0, .int 4), (1, .int 6), (2, fv)]) (st' := [.int 4]) (H' := hC A E N V W ++ g) (C := []) 10 1 rfl trivial ?_
  exact z_Ln.ret rfl z_retI
set_option maxRecDepth 10000 in
theorem s42_4_6 {L : Nat} {xs : Nat → Int32} {fv : Value} {f w : Nat} {c : Nat × Nat} {A : Nat → List (Nat × Int32)} {E : List (Nat × Option Nat)} {N : Nat → Nat} {V : Nat → Nat → Int32} {W : Nat} {g : List z_E} (hRm : z_Rm (hC A E N V W ++ g, c)) (hf : 1 ≤ f) (hw : 60 ≤ w) : z_Ln L xs fv f w 42 0 [(0, .int 4), (1, .int 6)] [] (hC A E N V W ++ g, c) (.inl none) (hC A E N V W ++ g, c) := by
  refine z_Ln.fv2 (fun hfv => ?_)
  refine z_Ln.blk (pc' := 5) (lv' := [(0, .int 4), (1, .int 6)]) (st' := [fv, .int 6, .int 4]) (H' := hC A E N V W ++ g) (C := []) 0 3 rfl trivial ?_
  refine z_Ln.call (s := 0) (mj := 43) (as := [.int 4, .int 6, fv]) (rr := []) (v := some (.int 4)) (T1 := (hC A E N V W ++ g, c)) rfl rfl ⟨⟨by omega, by have : z_pg.2.1 43 = 3 := rfl; omega⟩, (by decide : (0 : Nat) ≤ 8), (by rcases hfv with rfl | rfl <;> exact (by decide +kernel : (3 : Nat) ≤ z_pg.2.1 43))⟩ hRm s43_4_6 ⟨trivial, ⟨trivial, trivial, trivial⟩⟩ ?_
  refine z_Ln.blk (pc' := 9) (lv' := [(0, .int 4), (1, .int 6)]) (st' := []) (H' := hC A E N V W ++ g) (C := []) 4 1 rfl trivial ?_
  exact z_Ln.ret rfl rfl
set_option maxRecDepth 10000 in
theorem s43_5_6 {L : Nat} {xs : Nat → Int32} {fv : Value} {f w : Nat} {c : Nat × Nat} {A : Nat → List (Nat × Int32)} {E : List (Nat × Option Nat)} {N : Nat → Nat} {V : Nat → Nat → Int32} {W : Nat} {g : List z_E} : z_Ln L xs fv f w 43 0 [(0, .int 5), (1, .int 6), (2, fv)] [] (hC A E N V W ++ g, c) (.inl (some (.int 5))) (hC A E N V W ++ g, c) := by
  refine z_Ln.blk (pc' := (if decide (5 < 0) = true then 9 else 4)) (lv' := [(0, .int 5), (1, .int 6), (2, fv)]) (st' := []) (H' := hC A E N V W ++ g) (C := []) 0 2 rfl trivial (z_Ln.brF (decide_eq_false (by decide)) ?_)
  refine z_Ln.blk (pc' := (if decide (5 < 6) = true then 16 else 9)) (lv' := [(0, .int 5), (1, .int 6), (2, fv)]) (st' := []) (H' := hC A E N V W ++ g) (C := []) 2 3 rfl trivial (z_Ln.brT (decide_eq_true (by decide)) ?_)
  refine z_Ln.blk (pc' := 17) (lv' := [(0, .int 5), (1, .int 6), (2, fv)]) (st' := [.int 5]) (H' := hC A E N V W ++ g) (C := []) 10 1 rfl trivial ?_
  exact z_Ln.ret rfl z_retI
set_option maxRecDepth 10000 in
theorem s42_5_6 {L : Nat} {xs : Nat → Int32} {fv : Value} {f w : Nat} {c : Nat × Nat} {A : Nat → List (Nat × Int32)} {E : List (Nat × Option Nat)} {N : Nat → Nat} {V : Nat → Nat → Int32} {W : Nat} {g : List z_E} (hRm : z_Rm (hC A E N V W ++ g, c)) (hf : 1 ≤ f) (hw : 60 ≤ w) : z_Ln L xs fv f w 42 0 [(0, .int 5), (1, .int 6)] [] (hC A E N V W ++ g, c) (.inl none) (hC A E N V W ++ g, c) := by
  refine z_Ln.fv2 (fun hfv => ?_)
  refine z_Ln.blk (pc' := 5) (lv' := [(0, .int 5), (1, .int 6)]) (st' := [fv, .int 6, .int 5]) (H' := hC A E N V W ++ g) (C := []) 0 3 rfl trivial ?_
  refine z_Ln.call (s := 0) (mj := 43) (as := [.int 5, .int 6, fv]) (rr := []) (v := some (.int 5)) (T1 := (hC A E N V W ++ g, c)) rfl rfl ⟨⟨by omega, by have : z_pg.2.1 43 = 3 := rfl; omega⟩, (by decide : (0 : Nat) ≤ 8), (by rcases hfv with rfl | rfl <;> exact (by decide +kernel : (3 : Nat) ≤ z_pg.2.1 43))⟩ hRm s43_5_6 ⟨trivial, ⟨trivial, trivial, trivial⟩⟩ ?_
  refine z_Ln.blk (pc' := 9) (lv' := [(0, .int 5), (1, .int 6)]) (st' := []) (H' := hC A E N V W ++ g) (C := []) 4 1 rfl trivial ?_
  exact z_Ln.ret rfl rfl
set_option maxRecDepth 10000 in
theorem s41_1_0 {L : Nat} {xs : Nat → Int32} {fv : Value} {f w : Nat} {c : Nat × Nat} {A : Nat → List (Nat × Int32)} {E : List (Nat × Option Nat)} {N : Nat → Nat} {V : Nat → Nat → Int32} {W : Nat} {g : List z_E}  (hRm : z_Rm (hC A E N V W ++ g, c)) (hf : 2 ≤ f) (hw : 150 ≤ w) : z_Ln L xs fv f w 41 0 [(0, .ref 43), (1, .int 0)] [] (hC A E N V W ++ g, c) (.inl (some (.int 40))) (hC A E N V W ++ g, c) := by
  have hR0 : ((c.1 ≤ 601024 ∧ c.2 ≤ 7293034) ∧ 1 ≤ f ∧ 60 ≤ w) := ⟨hRm, by omega, by omega⟩
  have m42 : z_pg.2.1 42 = 2 := rfl
  refine z_Ln.blk (pc' := 3) (lv' := [(0, .ref 43), (1, .int 0)]) (st' := [.int 1, .int 0]) (H' := hC A E N V W ++ g) (C := [((c.1 ≤ 601024 ∧ c.2 ≤ 7293034) ∧ 1 ≤ f ∧ 60 ≤ w)]) 0 3 rfl hR0 ?_
  refine z_Ln.call (s := 0) (mj := 42) (as := [.int 0, .int 1]) (rr := []) (v := none) (T1 := (hC A E N V W ++ g, c)) rfl rfl ⟨⟨by omega, by have : z_pg.2.1 42 = 2 := rfl; omega⟩, (by decide : (0 : Nat) ≤ 8), (by decide +kernel : (2 : Nat) ≤ z_pg.2.1 42)⟩ hRm (s42_0_1 hRm (by omega) (by omega)) ⟨trivial, ⟨(Or.inl (by decide)), trivial, trivial⟩⟩ ?_
  refine z_Ln.blk (pc' := 14) (lv' := [(0, .ref 43), (1, .int 0)]) (st' := [.int 40]) (H' := hC A E N V W ++ g) (C := [((c.1 ≤ 601024 ∧ c.2 ≤ 7293034) ∧ 1 ≤ f ∧ 60 ≤ w), z_in 0 1 = true]) 4 6 rfl ⟨hR0, (by decide : z_in 0 1 = true)⟩ ?_
  exact z_Ln.ret rfl rfl
set_option maxRecDepth 10000 in
theorem s39_1_0 {L : Nat} {xs : Nat → Int32} {fv : Value} {f w : Nat} {c : Nat × Nat} {A : Nat → List (Nat × Int32)} {E : List (Nat × Option Nat)} {N : Nat → Nat} {V : Nat → Nat → Int32} {W : Nat} {g : List z_E}  (hRm : z_Rm (hC A E N V W ++ g, c)) (hf : 3 ≤ f) (hw : 250 ≤ w) : z_Ln L xs fv f w 39 0 [(0, .ref 42), (1, .int 0)] [] (hC A E N V W ++ g, c) (.inl (some (.int 40))) (hC A E N V W ++ g, c) := by
  have hR0 : ((c.1 ≤ 601024 ∧ c.2 ≤ 7293034) ∧ 1 ≤ f ∧ 60 ≤ w) := ⟨hRm, by omega, by omega⟩
  have m40 : z_pg.2.1 40 = 1 := rfl
  have m41 : z_pg.2.1 41 = 2 := rfl
  refine z_Ln.blk (pc' := 1) (lv' := [(0, .ref 42), (1, .int 0)]) (st' := [.ref 42]) (H' := hC A E N V W ++ g) (C := []) 0 1 rfl trivial ?_
  refine z_Ln.call (s := 0) (mj := 40) (as := [.ref 42]) (rr := []) (v := some (.int 1)) (T1 := (hC A E N V W ++ g, c)) rfl rfl ⟨⟨by omega, by have : z_pg.2.1 40 = 1 := rfl; omega⟩, (by decide : (0 : Nat) ≤ 8), (by decide +kernel : (1 : Nat) ≤ z_pg.2.1 40)⟩ hRm (s40_1 hRm (by omega) (by omega)) ⟨trivial, ⟨(Or.inl (by decide)), trivial, trivial⟩⟩ ?_
  refine z_Ln.blk (pc' := (if decide (1 = 0) = true then 16 else 7)) (lv' := [(0, .ref 42), (1, .int 0)]) (st' := []) (H' := hC A E N V W ++ g) (C := []) 2 1 rfl trivial (z_Ln.brF (decide_eq_false (by decide)) ?_)
  refine z_Ln.blk (pc' := 12) (lv' := [(0, .ref 42), (1, .int 0)]) (st' := [.int 0, .ref 43]) (H' := hC A E N V W ++ g) (C := [((c.1 ≤ 601024 ∧ c.2 ≤ 7293034) ∧ 1 ≤ f ∧ 60 ≤ w)]) 3 3 rfl hR0 ?_
  refine z_Ln.call (s := 0) (mj := 41) (as := [.ref 43, .int 0]) (rr := []) (v := some (.int 40)) (T1 := (hC A E N V W ++ g, c)) rfl rfl ⟨⟨by omega, by have : z_pg.2.1 41 = 2 := rfl; omega⟩, (by decide : (0 : Nat) ≤ 8), (by decide +kernel : (2 : Nat) ≤ z_pg.2.1 41)⟩ hRm (s41_1_0 hRm (by omega) (by omega)) ⟨trivial, ⟨(Or.inl (by decide)), trivial, trivial⟩⟩ ?_
  exact z_Ln.ret rfl rfl
set_option maxRecDepth 10000 in
theorem s41_2_0 {L : Nat} {xs : Nat → Int32} {fv : Value} {f w : Nat} {c : Nat × Nat} {A : Nat → List (Nat × Int32)} {E : List (Nat × Option Nat)} {N : Nat → Nat} {V : Nat → Nat → Int32} {W : Nat} {g : List z_E}  (hRm : z_Rm (hC A E N V W ++ g, c)) (hf : 2 ≤ f) (hw : 150 ≤ w) : z_Ln L xs fv f w 41 0 [(0, .ref 45), (1, .int 0)] [] (hC A E N V W ++ g, c) (.inl (some (.int 41))) (hC A E N V W ++ g, c) := by
  have hR0 : ((c.1 ≤ 601024 ∧ c.2 ≤ 7293034) ∧ 1 ≤ f ∧ 60 ≤ w) := ⟨hRm, by omega, by omega⟩
  have m42 : z_pg.2.1 42 = 2 := rfl
  refine z_Ln.blk (pc' := 3) (lv' := [(0, .ref 45), (1, .int 0)]) (st' := [.int 1, .int 0]) (H' := hC A E N V W ++ g) (C := [((c.1 ≤ 601024 ∧ c.2 ≤ 7293034) ∧ 1 ≤ f ∧ 60 ≤ w)]) 0 3 rfl hR0 ?_
  refine z_Ln.call (s := 0) (mj := 42) (as := [.int 0, .int 1]) (rr := []) (v := none) (T1 := (hC A E N V W ++ g, c)) rfl rfl ⟨⟨by omega, by have : z_pg.2.1 42 = 2 := rfl; omega⟩, (by decide : (0 : Nat) ≤ 8), (by decide +kernel : (2 : Nat) ≤ z_pg.2.1 42)⟩ hRm (s42_0_1 hRm (by omega) (by omega)) ⟨trivial, ⟨(Or.inl (by decide)), trivial, trivial⟩⟩ ?_
  refine z_Ln.blk (pc' := 14) (lv' := [(0, .ref 45), (1, .int 0)]) (st' := [.int 41]) (H' := hC A E N V W ++ g) (C := [((c.1 ≤ 601024 ∧ c.2 ≤ 7293034) ∧ 1 ≤ f ∧ 60 ≤ w), z_in 0 1 = true]) 4 6 rfl ⟨hR0, (by decide : z_in 0 1 = true)⟩ ?_
  exact z_Ln.ret rfl rfl
set_option maxRecDepth 10000 in
theorem s39_2_0 {L : Nat} {xs : Nat → Int32} {fv : Value} {f w : Nat} {c : Nat × Nat} {A : Nat → List (Nat × Int32)} {E : List (Nat × Option Nat)} {N : Nat → Nat} {V : Nat → Nat → Int32} {W : Nat} {g : List z_E}  (hRm : z_Rm (hC A E N V W ++ g, c)) (hf : 3 ≤ f) (hw : 250 ≤ w) : z_Ln L xs fv f w 39 0 [(0, .ref 44), (1, .int 0)] [] (hC A E N V W ++ g, c) (.inl (some (.int 41))) (hC A E N V W ++ g, c) := by
  have hR0 : ((c.1 ≤ 601024 ∧ c.2 ≤ 7293034) ∧ 1 ≤ f ∧ 60 ≤ w) := ⟨hRm, by omega, by omega⟩
  have m40 : z_pg.2.1 40 = 1 := rfl
  have m41 : z_pg.2.1 41 = 2 := rfl
  refine z_Ln.blk (pc' := 1) (lv' := [(0, .ref 44), (1, .int 0)]) (st' := [.ref 44]) (H' := hC A E N V W ++ g) (C := []) 0 1 rfl trivial ?_
  refine z_Ln.call (s := 0) (mj := 40) (as := [.ref 44]) (rr := []) (v := some (.int 1)) (T1 := (hC A E N V W ++ g, c)) rfl rfl ⟨⟨by omega, by have : z_pg.2.1 40 = 1 := rfl; omega⟩, (by decide : (0 : Nat) ≤ 8), (by decide +kernel : (1 : Nat) ≤ z_pg.2.1 40)⟩ hRm (s40_2 hRm (by omega) (by omega)) ⟨trivial, ⟨(Or.inl (by decide)), trivial, trivial⟩⟩ ?_
  refine z_Ln.blk (pc' := (if decide (1 = 0) = true then 16 else 7)) (lv' := [(0, .ref 44), (1, .int 0)]) (st' := []) (H' := hC A E N V W ++ g) (C := []) 2 1 rfl trivial (z_Ln.brF (decide_eq_false (by decide)) ?_)
  refine z_Ln.blk (pc' := 12) (lv' := [(0, .ref 44), (1, .int 0)]) (st' := [.int 0, .ref 45]) (H' := hC A E N V W ++ g) (C := [((c.1 ≤ 601024 ∧ c.2 ≤ 7293034) ∧ 1 ≤ f ∧ 60 ≤ w)]) 3 3 rfl hR0 ?_
  refine z_Ln.call (s := 0) (mj := 41) (as := [.ref 45, .int 0]) (rr := []) (v := some (.int 41)) (T1 := (hC A E N V W ++ g, c)) rfl rfl ⟨⟨by omega, by have : z_pg.2.1 41 = 2 := rfl; omega⟩, (by decide : (0 : Nat) ≤ 8), (by decide +kernel : (2 : Nat) ≤ z_pg.2.1 41)⟩ hRm (s41_2_0 hRm (by omega) (by omega)) ⟨trivial, ⟨(Or.inl (by decide)), trivial, trivial⟩⟩ ?_
  exact z_Ln.ret rfl rfl
set_option maxRecDepth 10000 in
theorem s41_3_0 {L : Nat} {xs : Nat → Int32} {fv : Value} {f w : Nat} {c : Nat × Nat} {A : Nat → List (Nat × Int32)} {E : List (Nat × Option Nat)} {N : Nat → Nat} {V : Nat → Nat → Int32} {W : Nat} {g : List z_E}  (hRm : z_Rm (hC A E N V W ++ g, c)) (hf : 2 ≤ f) (hw : 150 ≤ w) : z_Ln L xs fv f w 41 0 [(0, .ref 47), (1, .int 0)] [] (hC A E N V W ++ g, c) (.inl (some (.int 123))) (hC A E N V W ++ g, c) := by
  have hR0 : ((c.1 ≤ 601024 ∧ c.2 ≤ 7293034) ∧ 1 ≤ f ∧ 60 ≤ w) := ⟨hRm, by omega, by omega⟩
  have m42 : z_pg.2.1 42 = 2 := rfl
  refine z_Ln.blk (pc' := 3) (lv' := [(0, .ref 47), (1, .int 0)]) (st' := [.int 1, .int 0]) (H' := hC A E N V W ++ g) (C := [((c.1 ≤ 601024 ∧ c.2 ≤ 7293034) ∧ 1 ≤ f ∧ 60 ≤ w)]) 0 3 rfl hR0 ?_
  refine z_Ln.call (s := 0) (mj := 42) (as := [.int 0, .int 1]) (rr := []) (v := none) (T1 := (hC A E N V W ++ g, c)) rfl rfl ⟨⟨by omega, by have : z_pg.2.1 42 = 2 := rfl; omega⟩, (by decide : (0 : Nat) ≤ 8), (by decide +kernel : (2 : Nat) ≤ z_pg.2.1 42)⟩ hRm (s42_0_1 hRm (by omega) (by omega)) ⟨trivial, ⟨(Or.inl (by decide)), trivial, trivial⟩⟩ ?_
  refine z_Ln.blk (pc' := 14) (lv' := [(0, .ref 47), (1, .int 0)]) (st' := [.int 123]) (H' := hC A E N V W ++ g) (C := [((c.1 ≤ 601024 ∧ c.2 ≤ 7293034) ∧ 1 ≤ f ∧ 60 ≤ w), z_in 0 1 = true]) 4 6 rfl ⟨hR0, (by decide : z_in 0 1 = true)⟩ ?_
  exact z_Ln.ret rfl rfl
set_option maxRecDepth 10000 in
theorem s39_3_0 {L : Nat} {xs : Nat → Int32} {fv : Value} {f w : Nat} {c : Nat × Nat} {A : Nat → List (Nat × Int32)} {E : List (Nat × Option Nat)} {N : Nat → Nat} {V : Nat → Nat → Int32} {W : Nat} {g : List z_E}  (hRm : z_Rm (hC A E N V W ++ g, c)) (hf : 3 ≤ f) (hw : 250 ≤ w) : z_Ln L xs fv f w 39 0 [(0, .ref 46), (1, .int 0)] [] (hC A E N V W ++ g, c) (.inl (some (.int 123))) (hC A E N V W ++ g, c) := by
  have hR0 : ((c.1 ≤ 601024 ∧ c.2 ≤ 7293034) ∧ 1 ≤ f ∧ 60 ≤ w) := ⟨hRm, by omega, by omega⟩
  have m40 : z_pg.2.1 40 = 1 := rfl
  have m41 : z_pg.2.1 41 = 2 := rfl
  refine z_Ln.blk (pc' := 1) (lv' := [(0, .ref 46), (1, .int 0)]) (st' := [.ref 46]) (H' := hC A E N V W ++ g) (C := []) 0 1 rfl trivial ?_
  refine z_Ln.call (s := 0) (mj := 40) (as := [.ref 46]) (rr := []) (v := some (.int 1)) (T1 := (hC A E N V W ++ g, c)) rfl rfl ⟨⟨by omega, by have : z_pg.2.1 40 = 1 := rfl; omega⟩, (by decide : (0 : Nat) ≤ 8), (by decide +kernel : (1 : Nat) ≤ z_pg.2.1 40)⟩ hRm (s40_3 hRm (by omega) (by omega)) ⟨trivial, ⟨(Or.inl (by decide)), trivial, trivial⟩⟩ ?_
  refine z_Ln.blk (pc' := (if decide (1 = 0) = true then 16 else 7)) (lv' := [(0, .ref 46), (1, .int 0)]) (st' := []) (H' := hC A E N V W ++ g) (C := []) 2 1 rfl trivial (z_Ln.brF (decide_eq_false (by decide)) ?_)
  refine z_Ln.blk (pc' := 12) (lv' := [(0, .ref 46), (1, .int 0)]) (st' := [.int 0, .ref 47]) (H' := hC A E N V W ++ g) (C := [((c.1 ≤ 601024 ∧ c.2 ≤ 7293034) ∧ 1 ≤ f ∧ 60 ≤ w)]) 3 3 rfl hR0 ?_
  refine z_Ln.call (s := 0) (mj := 41) (as := [.ref 47, .int 0]) (rr := []) (v := some (.int 123)) (T1 := (hC A E N V W ++ g, c)) rfl rfl ⟨⟨by omega, by have : z_pg.2.1 41 = 2 := rfl; omega⟩, (by decide : (0 : Nat) ≤ 8), (by decide +kernel : (2 : Nat) ≤ z_pg.2.1 41)⟩ hRm (s41_3_0 hRm (by omega) (by omega)) ⟨trivial, ⟨(Or.inl (by decide)), trivial, trivial⟩⟩ ?_
  exact z_Ln.ret rfl rfl
set_option maxRecDepth 10000 in
theorem s41_4_0 {L : Nat} {xs : Nat → Int32} {fv : Value} {f w : Nat} {c : Nat × Nat} {A : Nat → List (Nat × Int32)} {E : List (Nat × Option Nat)} {N : Nat → Nat} {V : Nat → Nat → Int32} {W : Nat} {g : List z_E}  (hRm : z_Rm (hC A E N V W ++ g, c)) (hf : 2 ≤ f) (hw : 150 ≤ w) : z_Ln L xs fv f w 41 0 [(0, .ref 49), (1, .int 0)] [] (hC A E N V W ++ g, c) (.inl (some (.int 125))) (hC A E N V W ++ g, c) := by
  have hR0 : ((c.1 ≤ 601024 ∧ c.2 ≤ 7293034) ∧ 1 ≤ f ∧ 60 ≤ w) := ⟨hRm, by omega, by omega⟩
  have m42 : z_pg.2.1 42 = 2 := rfl
  refine z_Ln.blk (pc' := 3) (lv' := [(0, .ref 49), (1, .int 0)]) (st' := [.int 1, .int 0]) (H' := hC A E N V W ++ g) (C := [((c.1 ≤ 601024 ∧ c.2 ≤ 7293034) ∧ 1 ≤ f ∧ 60 ≤ w)]) 0 3 rfl hR0 ?_
  refine z_Ln.call (s := 0) (mj := 42) (as := [.int 0, .int 1]) (rr := []) (v := none) (T1 := (hC A E N V W ++ g, c)) rfl rfl ⟨⟨by omega, by have : z_pg.2.1 42 = 2 := rfl; omega⟩, (by decide : (0 : Nat) ≤ 8), (by decide +kernel : (2 : Nat) ≤ z_pg.2.1 42)⟩ hRm (s42_0_1 hRm (by omega) (by omega)) ⟨trivial, ⟨(Or.inl (by decide)), trivial, trivial⟩⟩ ?_
  refine z_Ln.blk (pc' := 14) (lv' := [(0, .ref 49), (1, .int 0)]) (st' := [.int 125]) (H' := hC A E N V W ++ g) (C := [((c.1 ≤ 601024 ∧ c.2 ≤ 7293034) ∧ 1 ≤ f ∧ 60 ≤ w), z_in 0 1 = true]) 4 6 rfl ⟨hR0, (by decide : z_in 0 1 = true)⟩ ?_
  exact z_Ln.ret rfl rfl
set_option maxRecDepth 10000 in
theorem s39_4_0 {L : Nat} {xs : Nat → Int32} {fv : Value} {f w : Nat} {c : Nat × Nat} {A : Nat → List (Nat × Int32)} {E : List (Nat × Option Nat)} {N : Nat → Nat} {V : Nat → Nat → Int32} {W : Nat} {g : List z_E}  (hRm : z_Rm (hC A E N V W ++ g, c)) (hf : 3 ≤ f) (hw : 250 ≤ w) : z_Ln L xs fv f w 39 0 [(0, .ref 48), (1, .int 0)] [] (hC A E N V W ++ g, c) (.inl (some (.int 125))) (hC A E N V W ++ g, c) := by
  have hR0 : ((c.1 ≤ 601024 ∧ c.2 ≤ 7293034) ∧ 1 ≤ f ∧ 60 ≤ w) := ⟨hRm, by omega, by omega⟩
  have m40 : z_pg.2.1 40 = 1 := rfl
  have m41 : z_pg.2.1 41 = 2 := rfl
  refine z_Ln.blk (pc' := 1) (lv' := [(0, .ref 48), (1, .int 0)]) (st' := [.ref 48]) (H' := hC A E N V W ++ g) (C := []) 0 1 rfl trivial ?_
  refine z_Ln.call (s := 0) (mj := 40) (as := [.ref 48]) (rr := []) (v := some (.int 1)) (T1 := (hC A E N V W ++ g, c)) rfl rfl ⟨⟨by omega, by have : z_pg.2.1 40 = 1 := rfl; omega⟩, (by decide : (0 : Nat) ≤ 8), (by decide +kernel : (1 : Nat) ≤ z_pg.2.1 40)⟩ hRm (s40_4 hRm (by omega) (by omega)) ⟨trivial, ⟨(Or.inl (by decide)), trivial, trivial⟩⟩ ?_
  refine z_Ln.blk (pc' := (if decide (1 = 0) = true then 16 else 7)) (lv' := [(0, .ref 48), (1, .int 0)]) (st' := []) (H' := hC A E N V W ++ g) (C := []) 2 1 rfl trivial (z_Ln.brF (decide_eq_false (by decide)) ?_)
  refine z_Ln.blk (pc' := 12) (lv' := [(0, .ref 48), (1, .int 0)]) (st' := [.int 0, .ref 49]) (H' := hC A E N V W ++ g) (C := [((c.1 ≤ 601024 ∧ c.2 ≤ 7293034) ∧ 1 ≤ f ∧ 60 ≤ w)]) 3 3 rfl hR0 ?_
  refine z_Ln.call (s := 0) (mj := 41) (as := [.ref 49, .int 0]) (rr := []) (v := some (.int 125)) (T1 := (hC A E N V W ++ g, c)) rfl rfl ⟨⟨by omega, by have : z_pg.2.1 41 = 2 := rfl; omega⟩, (by decide : (0 : Nat) ≤ 8), (by decide +kernel : (2 : Nat) ≤ z_pg.2.1 41)⟩ hRm (s41_4_0 hRm (by omega) (by omega)) ⟨trivial, ⟨(Or.inl (by decide)), trivial, trivial⟩⟩ ?_
  exact z_Ln.ret rfl rfl
set_option maxRecDepth 10000 in
theorem s41_5_0 {L : Nat} {xs : Nat → Int32} {fv : Value} {f w : Nat} {c : Nat × Nat} {A : Nat → List (Nat × Int32)} {E : List (Nat × Option Nat)} {N : Nat → Nat} {V : Nat → Nat → Int32} {W : Nat} {g : List z_E}  (hRm : z_Rm (hC A E N V W ++ g, c)) (hf : 2 ≤ f) (hw : 150 ≤ w) : z_Ln L xs fv f w 41 0 [(0, .ref 51), (1, .int 0)] [] (hC A E N V W ++ g, c) (.inl (some (.int 58))) (hC A E N V W ++ g, c) := by
  have hR0 : ((c.1 ≤ 601024 ∧ c.2 ≤ 7293034) ∧ 1 ≤ f ∧ 60 ≤ w) := ⟨hRm, by omega, by omega⟩
  have m42 : z_pg.2.1 42 = 2 := rfl
  refine z_Ln.blk (pc' := 3) (lv' := [(0, .ref 51), (1, .int 0)]) (st' := [.int 1, .int 0]) (H' := hC A E N V W ++ g) (C := [((c.1 ≤ 601024 ∧ c.2 ≤ 7293034) ∧ 1 ≤ f ∧ 60 ≤ w)]) 0 3 rfl hR0 ?_
  refine z_Ln.call (s := 0) (mj := 42) (as := [.int 0, .int 1]) (rr := []) (v := none) (T1 := (hC A E N V W ++ g, c)) rfl rfl ⟨⟨by omega, by have : z_pg.2.1 42 = 2 := rfl; omega⟩, (by decide : (0 : Nat) ≤ 8), (by decide +kernel : (2 : Nat) ≤ z_pg.2.1 42)⟩ hRm (s42_0_1 hRm (by omega) (by omega)) ⟨trivial, ⟨(Or.inl (by decide)), trivial, trivial⟩⟩ ?_
  refine z_Ln.blk (pc' := 14) (lv' := [(0, .ref 51), (1, .int 0)]) (st' := [.int 58]) (H' := hC A E N V W ++ g) (C := [((c.1 ≤ 601024 ∧ c.2 ≤ 7293034) ∧ 1 ≤ f ∧ 60 ≤ w), z_in 0 1 = true]) 4 6 rfl ⟨hR0, (by decide : z_in 0 1 = true)⟩ ?_
  exact z_Ln.ret rfl rfl
set_option maxRecDepth 10000 in
theorem s39_5_0 {L : Nat} {xs : Nat → Int32} {fv : Value} {f w : Nat} {c : Nat × Nat} {A : Nat → List (Nat × Int32)} {E : List (Nat × Option Nat)} {N : Nat → Nat} {V : Nat → Nat → Int32} {W : Nat} {g : List z_E}  (hRm : z_Rm (hC A E N V W ++ g, c)) (hf : 3 ≤ f) (hw : 250 ≤ w) : z_Ln L xs fv f w 39 0 [(0, .ref 50), (1, .int 0)] [] (hC A E N V W ++ g, c) (.inl (some (.int 58))) (hC A E N V W ++ g, c) := by
  have hR0 : ((c.1 ≤ 601024 ∧ c.2 ≤ 7293034) ∧ 1 ≤ f ∧ 60 ≤ w) := ⟨hRm, by omega, by omega⟩
  have m40 : z_pg.2.1 40 = 1 := rfl
  have m41 : z_pg.2.1 41 = 2 := rfl
  refine z_Ln.blk (pc' := 1) (lv' := [(0, .ref 50), (1, .int 0)]) (st' := [.ref 50]) (H' := hC A E N V W ++ g) (C := []) 0 1 rfl trivial ?_
  refine z_Ln.call (s := 0) (mj := 40) (as := [.ref 50]) (rr := []) (v := some (.int 1)) (T1 := (hC A E N V W ++ g, c)) rfl rfl ⟨⟨by omega, by have : z_pg.2.1 40 = 1 := rfl; omega⟩, (by decide : (0 : Nat) ≤ 8), (by decide +kernel : (1 : Nat) ≤ z_pg.2.1 40)⟩ hRm (s40_5 hRm (by omega) (by omega)) ⟨trivial, ⟨(Or.inl (by decide)), trivial, trivial⟩⟩ ?_
  refine z_Ln.blk (pc' := (if decide (1 = 0) = true then 16 else 7)) (lv' := [(0, .ref 50), (1, .int 0)]) (st' := []) (H' := hC A E N V W ++ g) (C := []) 2 1 rfl trivial (z_Ln.brF (decide_eq_false (by decide)) ?_)
  refine z_Ln.blk (pc' := 12) (lv' := [(0, .ref 50), (1, .int 0)]) (st' := [.int 0, .ref 51]) (H' := hC A E N V W ++ g) (C := [((c.1 ≤ 601024 ∧ c.2 ≤ 7293034) ∧ 1 ≤ f ∧ 60 ≤ w)]) 3 3 rfl hR0 ?_
  refine z_Ln.call (s := 0) (mj := 41) (as := [.ref 51, .int 0]) (rr := []) (v := some (.int 58)) (T1 := (hC A E N V W ++ g, c)) rfl rfl ⟨⟨by omega, by have : z_pg.2.1 41 = 2 := rfl; omega⟩, (by decide : (0 : Nat) ≤ 8), (by decide +kernel : (2 : Nat) ≤ z_pg.2.1 41)⟩ hRm (s41_5_0 hRm (by omega) (by omega)) ⟨trivial, ⟨(Or.inl (by decide)), trivial, trivial⟩⟩ ?_
  exact z_Ln.ret rfl rfl
set_option maxRecDepth 10000 in
theorem s41_6_0 {L : Nat} {xs : Nat → Int32} {fv : Value} {f w : Nat} {c : Nat × Nat} {A : Nat → List (Nat × Int32)} {E : List (Nat × Option Nat)} {N : Nat → Nat} {V : Nat → Nat → Int32} {W : Nat} {g : List z_E}  (hRm : z_Rm (hC A E N V W ++ g, c)) (hf : 2 ≤ f) (hw : 150 ≤ w) : z_Ln L xs fv f w 41 0 [(0, .ref 53), (1, .int 0)] [] (hC A E N V W ++ g, c) (.inl (some (.int 59))) (hC A E N V W ++ g, c) := by
  have hR0 : ((c.1 ≤ 601024 ∧ c.2 ≤ 7293034) ∧ 1 ≤ f ∧ 60 ≤ w) := ⟨hRm, by omega, by omega⟩
  have m42 : z_pg.2.1 42 = 2 := rfl
  refine z_Ln.blk (pc' := 3) (lv' := [(0, .ref 53), (1, .int 0)]) (st' := [.int 1, .int 0]) (H' := hC A E N V W ++ g) (C := [((c.1 ≤ 601024 ∧ c.2 ≤ 7293034) ∧ 1 ≤ f ∧ 60 ≤ w)]) 0 3 rfl hR0 ?_
  refine z_Ln.call (s := 0) (mj := 42) (as := [.int 0, .int 1]) (rr := []) (v := none) (T1 := (hC A E N V W ++ g, c)) rfl rfl ⟨⟨by omega, by have : z_pg.2.1 42 = 2 := rfl; omega⟩, (by decide : (0 : Nat) ≤ 8), (by decide +kernel : (2 : Nat) ≤ z_pg.2.1 42)⟩ hRm (s42_0_1 hRm (by omega) (by omega)) ⟨trivial, ⟨(Or.inl (by decide)), trivial, trivial⟩⟩ ?_
  refine z_Ln.blk (pc' := 14) (lv' := [(0, .ref 53), (1, .int 0)]) (st' := [.int 59]) (H' := hC A E N V W ++ g) (C := [((c.1 ≤ 601024 ∧ c.2 ≤ 7293034) ∧ 1 ≤ f ∧ 60 ≤ w), z_in 0 1 = true]) 4 6 rfl ⟨hR0, (by decide : z_in 0 1 = true)⟩ ?_
  exact z_Ln.ret rfl rfl
set_option maxRecDepth 10000 in
theorem s39_6_0 {L : Nat} {xs : Nat → Int32} {fv : Value} {f w : Nat} {c : Nat × Nat} {A : Nat → List (Nat × Int32)} {E : List (Nat × Option Nat)} {N : Nat → Nat} {V : Nat → Nat → Int32} {W : Nat} {g : List z_E}  (hRm : z_Rm (hC A E N V W ++ g, c)) (hf : 3 ≤ f) (hw : 250 ≤ w) : z_Ln L xs fv f w 39 0 [(0, .ref 52), (1, .int 0)] [] (hC A E N V W ++ g, c) (.inl (some (.int 59))) (hC A E N V W ++ g, c) := by
  have hR0 : ((c.1 ≤ 601024 ∧ c.2 ≤ 7293034) ∧ 1 ≤ f ∧ 60 ≤ w) := ⟨hRm, by omega, by omega⟩
  have m40 : z_pg.2.1 40 = 1 := rfl
  have m41 : z_pg.2.1 41 = 2 := rfl
  refine z_Ln.blk (pc' := 1) (lv' := [(0, .ref 52), (1, .int 0)]) (st' := [.ref 52]) (H' := hC A E N V W ++ g) (C := []) 0 1 rfl trivial ?_
  refine z_Ln.call (s := 0) (mj := 40) (as := [.ref 52]) (rr := []) (v := some (.int 1)) (T1 := (hC A E N V W ++ g, c)) rfl rfl ⟨⟨by omega, by have : z_pg.2.1 40 = 1 := rfl; omega⟩, (by decide : (0 : Nat) ≤ 8), (by decide +kernel : (1 : Nat) ≤ z_pg.2.1 40)⟩ hRm (s40_6 hRm (by omega) (by omega)) ⟨trivial, ⟨(Or.inl (by decide)), trivial, trivial⟩⟩ ?_
  refine z_Ln.blk (pc' := (if decide (1 = 0) = true then 16 else 7)) (lv' := [(0, .ref 52), (1, .int 0)]) (st' := []) (H' := hC A E N V W ++ g) (C := []) 2 1 rfl trivial (z_Ln.brF (decide_eq_false (by decide)) ?_)
  refine z_Ln.blk (pc' := 12) (lv' := [(0, .ref 52), (1, .int 0)]) (st' := [.int 0, .ref 53]) (H' := hC A E N V W ++ g) (C := [((c.1 ≤ 601024 ∧ c.2 ≤ 7293034) ∧ 1 ≤ f ∧ 60 ≤ w)]) 3 3 rfl hR0 ?_
  refine z_Ln.call (s := 0) (mj := 41) (as := [.ref 53, .int 0]) (rr := []) (v := some (.int 59)) (T1 := (hC A E N V W ++ g, c)) rfl rfl ⟨⟨by omega, by have : z_pg.2.1 41 = 2 := rfl; omega⟩, (by decide : (0 : Nat) ≤ 8), (by decide +kernel : (2 : Nat) ≤ z_pg.2.1 41)⟩ hRm (s41_6_0 hRm (by omega) (by omega)) ⟨trivial, ⟨(Or.inl (by decide)), trivial, trivial⟩⟩ ?_
  exact z_Ln.ret rfl rfl
set_option maxRecDepth 10000 in
theorem s41_7_0 {L : Nat} {xs : Nat → Int32} {fv : Value} {f w : Nat} {c : Nat × Nat} {A : Nat → List (Nat × Int32)} {E : List (Nat × Option Nat)} {N : Nat → Nat} {V : Nat → Nat → Int32} {W : Nat} {g : List z_E}  (hRm : z_Rm (hC A E N V W ++ g, c)) (hf : 2 ≤ f) (hw : 150 ≤ w) : z_Ln L xs fv f w 41 0 [(0, .ref 55), (1, .int 0)] [] (hC A E N V W ++ g, c) (.inl (some (.int 44))) (hC A E N V W ++ g, c) := by
  have hR0 : ((c.1 ≤ 601024 ∧ c.2 ≤ 7293034) ∧ 1 ≤ f ∧ 60 ≤ w) := ⟨hRm, by omega, by omega⟩
  have m42 : z_pg.2.1 42 = 2 := rfl
  refine z_Ln.blk (pc' := 3) (lv' := [(0, .ref 55), (1, .int 0)]) (st' := [.int 1, .int 0]) (H' := hC A E N V W ++ g) (C := [((c.1 ≤ 601024 ∧ c.2 ≤ 7293034) ∧ 1 ≤ f ∧ 60 ≤ w)]) 0 3 rfl hR0 ?_
  refine z_Ln.call (s := 0) (mj := 42) (as := [.int 0, .int 1]) (rr := []) (v := none) (T1 := (hC A E N V W ++ g, c)) rfl rfl ⟨⟨by omega, by have : z_pg.2.1 42 = 2 := rfl; omega⟩, (by decide : (0 : Nat) ≤ 8), (by decide +kernel : (2 : Nat) ≤ z_pg.2.1 42)⟩ hRm (s42_0_1 hRm (by omega) (by omega)) ⟨trivial, ⟨(Or.inl (by decide)), trivial, trivial⟩⟩ ?_
  refine z_Ln.blk (pc' := 14) (lv' := [(0, .ref 55), (1, .int 0)]) (st' := [.int 44]) (H' := hC A E N V W ++ g) (C := [((c.1 ≤ 601024 ∧ c.2 ≤ 7293034) ∧ 1 ≤ f ∧ 60 ≤ w), z_in 0 1 = true]) 4 6 rfl ⟨hR0, (by decide : z_in 0 1 = true)⟩ ?_
  exact z_Ln.ret rfl rfl
set_option maxRecDepth 10000 in
theorem s39_7_0 {L : Nat} {xs : Nat → Int32} {fv : Value} {f w : Nat} {c : Nat × Nat} {A : Nat → List (Nat × Int32)} {E : List (Nat × Option Nat)} {N : Nat → Nat} {V : Nat → Nat → Int32} {W : Nat} {g : List z_E}  (hRm : z_Rm (hC A E N V W ++ g, c)) (hf : 3 ≤ f) (hw : 250 ≤ w) : z_Ln L xs fv f w 39 0 [(0, .ref 54), (1, .int 0)] [] (hC A E N V W ++ g, c) (.inl (some (.int 44))) (hC A E N V W ++ g, c) := by
  have hR0 : ((c.1 ≤ 601024 ∧ c.2 ≤ 7293034) ∧ 1 ≤ f ∧ 60 ≤ w) := ⟨hRm, by omega, by omega⟩
  have m40 : z_pg.2.1 40 = 1 := rfl
  have m41 : z_pg.2.1 41 = 2 := rfl
  refine z_Ln.blk (pc' := 1) (lv' := [(0, .ref 54), (1, .int 0)]) (st' := [.ref 54]) (H' := hC A E N V W ++ g) (C := []) 0 1 rfl trivial ?_
  refine z_Ln.call (s := 0) (mj := 40) (as := [.ref 54]) (rr := []) (v := some (.int 1)) (T1 := (hC A E N V W ++ g, c)) rfl rfl ⟨⟨by omega, by have : z_pg.2.1 40 = 1 := rfl; omega⟩, (by decide : (0 : Nat) ≤ 8), (by decide +kernel : (1 : Nat) ≤ z_pg.2.1 40)⟩ hRm (s40_7 hRm (by omega) (by omega)) ⟨trivial, ⟨(Or.inl (by decide)), trivial, trivial⟩⟩ ?_
  refine z_Ln.blk (pc' := (if decide (1 = 0) = true then 16 else 7)) (lv' := [(0, .ref 54), (1, .int 0)]) (st' := []) (H' := hC A E N V W ++ g) (C := []) 2 1 rfl trivial (z_Ln.brF (decide_eq_false (by decide)) ?_)
  refine z_Ln.blk (pc' := 12) (lv' := [(0, .ref 54), (1, .int 0)]) (st' := [.int 0, .ref 55]) (H' := hC A E N V W ++ g) (C := [((c.1 ≤ 601024 ∧ c.2 ≤ 7293034) ∧ 1 ≤ f ∧ 60 ≤ w)]) 3 3 rfl hR0 ?_
  refine z_Ln.call (s := 0) (mj := 41) (as := [.ref 55, .int 0]) (rr := []) (v := some (.int 44)) (T1 := (hC A E N V W ++ g, c)) rfl rfl ⟨⟨by omega, by have : z_pg.2.1 41 = 2 := rfl; omega⟩, (by decide : (0 : Nat) ≤ 8), (by decide +kernel : (2 : Nat) ≤ z_pg.2.1 41)⟩ hRm (s41_7_0 hRm (by omega) (by omega)) ⟨trivial, ⟨(Or.inl (by decide)), trivial, trivial⟩⟩ ?_
  exact z_Ln.ret rfl rfl
set_option maxRecDepth 10000 in
theorem s41_8_0 {L : Nat} {xs : Nat → Int32} {fv : Value} {f w : Nat} {c : Nat × Nat} {A : Nat → List (Nat × Int32)} {E : List (Nat × Option Nat)} {N : Nat → Nat} {V : Nat → Nat → Int32} {W : Nat} {g : List z_E}  (hRm : z_Rm (hC A E N V W ++ g, c)) (hf : 2 ≤ f) (hw : 150 ≤ w) : z_Ln L xs fv f w 41 0 [(0, .ref 57), (1, .int 0)] [] (hC A E N V W ++ g, c) (.inl (some (.int 61))) (hC A E N V W ++ g, c) := by
  have hR0 : ((c.1 ≤ 601024 ∧ c.2 ≤ 7293034) ∧ 1 ≤ f ∧ 60 ≤ w) := ⟨hRm, by omega, by omega⟩
  have m42 : z_pg.2.1 42 = 2 := rfl
  refine z_Ln.blk (pc' := 3) (lv' := [(0, .ref 57), (1, .int 0)]) (st' := [.int 1, .int 0]) (H' := hC A E N V W ++ g) (C := [((c.1 ≤ 601024 ∧ c.2 ≤ 7293034) ∧ 1 ≤ f ∧ 60 ≤ w)]) 0 3 rfl hR0 ?_
  refine z_Ln.call (s := 0) (mj := 42) (as := [.int 0, .int 1]) (rr := []) (v := none) (T1 := (hC A E N V W ++ g, c)) rfl rfl ⟨⟨by omega, by have : z_pg.2.1 42 = 2 := rfl; omega⟩, (by decide : (0 : Nat) ≤ 8), (by decide +kernel : (2 : Nat) ≤ z_pg.2.1 42)⟩ hRm (s42_0_1 hRm (by omega) (by omega)) ⟨trivial, ⟨(Or.inl (by decide)), trivial, trivial⟩⟩ ?_
  refine z_Ln.blk (pc' := 14) (lv' := [(0, .ref 57), (1, .int 0)]) (st' := [.int 61]) (H' := hC A E N V W ++ g) (C := [((c.1 ≤ 601024 ∧ c.2 ≤ 7293034) ∧ 1 ≤ f ∧ 60 ≤ w), z_in 0 1 = true]) 4 6 rfl ⟨hR0, (by decide : z_in 0 1 = true)⟩ ?_
  exact z_Ln.ret rfl rfl
set_option maxRecDepth 10000 in
theorem s39_8_0 {L : Nat} {xs : Nat → Int32} {fv : Value} {f w : Nat} {c : Nat × Nat} {A : Nat → List (Nat × Int32)} {E : List (Nat × Option Nat)} {N : Nat → Nat} {V : Nat → Nat → Int32} {W : Nat} {g : List z_E}  (hRm : z_Rm (hC A E N V W ++ g, c)) (hf : 3 ≤ f) (hw : 250 ≤ w) : z_Ln L xs fv f w 39 0 [(0, .ref 56), (1, .int 0)] [] (hC A E N V W ++ g, c) (.inl (some (.int 61))) (hC A E N V W ++ g, c) := by
  have hR0 : ((c.1 ≤ 601024 ∧ c.2 ≤ 7293034) ∧ 1 ≤ f ∧ 60 ≤ w) := ⟨hRm, by omega, by omega⟩
  have m40 : z_pg.2.1 40 = 1 := rfl
  have m41 : z_pg.2.1 41 = 2 := rfl
  refine z_Ln.blk (pc' := 1) (lv' := [(0, .ref 56), (1, .int 0)]) (st' := [.ref 56]) (H' := hC A E N V W ++ g) (C := []) 0 1 rfl trivial ?_
  refine z_Ln.call (s := 0) (mj := 40) (as := [.ref 56]) (rr := []) (v := some (.int 1)) (T1 := (hC A E N V W ++ g, c)) rfl rfl ⟨⟨by omega, by have : z_pg.2.1 40 = 1 := rfl; omega⟩, (by decide : (0 : Nat) ≤ 8), (by decide +kernel : (1 : Nat) ≤ z_pg.2.1 40)⟩ hRm (s40_8 hRm (by omega) (by omega)) ⟨trivial, ⟨(Or.inl (by decide)), trivial, trivial⟩⟩ ?_
  refine z_Ln.blk (pc' := (if decide (1 = 0) = true then 16 else 7)) (lv' := [(0, .ref 56), (1, .int 0)]) (st' := []) (H' := hC A E N V W ++ g) (C := []) 2 1 rfl trivial (z_Ln.brF (decide_eq_false (by decide)) ?_)
  refine z_Ln.blk (pc' := 12) (lv' := [(0, .ref 56), (1, .int 0)]) (st' := [.int 0, .ref 57]) (H' := hC A E N V W ++ g) (C := [((c.1 ≤ 601024 ∧ c.2 ≤ 7293034) ∧ 1 ≤ f ∧ 60 ≤ w)]) 3 3 rfl hR0 ?_
  refine z_Ln.call (s := 0) (mj := 41) (as := [.ref 57, .int 0]) (rr := []) (v := some (.int 61)) (T1 := (hC A E N V W ++ g, c)) rfl rfl ⟨⟨by omega, by have : z_pg.2.1 41 = 2 := rfl; omega⟩, (by decide : (0 : Nat) ≤ 8), (by decide +kernel : (2 : Nat) ≤ z_pg.2.1 41)⟩ hRm (s41_8_0 hRm (by omega) (by omega)) ⟨trivial, ⟨(Or.inl (by decide)), trivial, trivial⟩⟩ ?_
  exact z_Ln.ret rfl rfl
set_option maxRecDepth 10000 in
theorem s41_9_0 {L : Nat} {xs : Nat → Int32} {fv : Value} {f w : Nat} {c : Nat × Nat} {A : Nat → List (Nat × Int32)} {E : List (Nat × Option Nat)} {N : Nat → Nat} {V : Nat → Nat → Int32} {W : Nat} {g : List z_E}  (hRm : z_Rm (hC A E N V W ++ g, c)) (hf : 2 ≤ f) (hw : 150 ≤ w) : z_Ln L xs fv f w 41 0 [(0, .ref 59), (1, .int 0)] [] (hC A E N V W ++ g, c) (.inl (some (.int 60))) (hC A E N V W ++ g, c) := by
  have hR0 : ((c.1 ≤ 601024 ∧ c.2 ≤ 7293034) ∧ 1 ≤ f ∧ 60 ≤ w) := ⟨hRm, by omega, by omega⟩
  have m42 : z_pg.2.1 42 = 2 := rfl
  refine z_Ln.blk (pc' := 3) (lv' := [(0, .ref 59), (1, .int 0)]) (st' := [.int 1, .int 0]) (H' := hC A E N V W ++ g) (C := [((c.1 ≤ 601024 ∧ c.2 ≤ 7293034) ∧ 1 ≤ f ∧ 60 ≤ w)]) 0 3 rfl hR0 ?_
  refine z_Ln.call (s := 0) (mj := 42) (as := [.int 0, .int 1]) (rr := []) (v := none) (T1 := (hC A E N V W ++ g, c)) rfl rfl ⟨⟨by omega, by have : z_pg.2.1 42 = 2 := rfl; omega⟩, (by decide : (0 : Nat) ≤ 8), (by decide +kernel : (2 : Nat) ≤ z_pg.2.1 42)⟩ hRm (s42_0_1 hRm (by omega) (by omega)) ⟨trivial, ⟨(Or.inl (by decide)), trivial, trivial⟩⟩ ?_
  refine z_Ln.blk (pc' := 14) (lv' := [(0, .ref 59), (1, .int 0)]) (st' := [.int 60]) (H' := hC A E N V W ++ g) (C := [((c.1 ≤ 601024 ∧ c.2 ≤ 7293034) ∧ 1 ≤ f ∧ 60 ≤ w), z_in 0 1 = true]) 4 6 rfl ⟨hR0, (by decide : z_in 0 1 = true)⟩ ?_
  exact z_Ln.ret rfl rfl
set_option maxRecDepth 10000 in
theorem s39_9_0 {L : Nat} {xs : Nat → Int32} {fv : Value} {f w : Nat} {c : Nat × Nat} {A : Nat → List (Nat × Int32)} {E : List (Nat × Option Nat)} {N : Nat → Nat} {V : Nat → Nat → Int32} {W : Nat} {g : List z_E}  (hRm : z_Rm (hC A E N V W ++ g, c)) (hf : 3 ≤ f) (hw : 250 ≤ w) : z_Ln L xs fv f w 39 0 [(0, .ref 58), (1, .int 0)] [] (hC A E N V W ++ g, c) (.inl (some (.int 60))) (hC A E N V W ++ g, c) := by
  have hR0 : ((c.1 ≤ 601024 ∧ c.2 ≤ 7293034) ∧ 1 ≤ f ∧ 60 ≤ w) := ⟨hRm, by omega, by omega⟩
  have m40 : z_pg.2.1 40 = 1 := rfl
  have m41 : z_pg.2.1 41 = 2 := rfl
  refine z_Ln.blk (pc' := 1) (lv' := [(0, .ref 58), (1, .int 0)]) (st' := [.ref 58]) (H' := hC A E N V W ++ g) (C := []) 0 1 rfl trivial ?_
  refine z_Ln.call (s := 0) (mj := 40) (as := [.ref 58]) (rr := []) (v := some (.int 1)) (T1 := (hC A E N V W ++ g, c)) rfl rfl ⟨⟨by omega, by have : z_pg.2.1 40 = 1 := rfl; omega⟩, (by decide : (0 : Nat) ≤ 8), (by decide +kernel : (1 : Nat) ≤ z_pg.2.1 40)⟩ hRm (s40_9 hRm (by omega) (by omega)) ⟨trivial, ⟨(Or.inl (by decide)), trivial, trivial⟩⟩ ?_
  refine z_Ln.blk (pc' := (if decide (1 = 0) = true then 16 else 7)) (lv' := [(0, .ref 58), (1, .int 0)]) (st' := []) (H' := hC A E N V W ++ g) (C := []) 2 1 rfl trivial (z_Ln.brF (decide_eq_false (by decide)) ?_)
  refine z_Ln.blk (pc' := 12) (lv' := [(0, .ref 58), (1, .int 0)]) (st' := [.int 0, .ref 59]) (H' := hC A E N V W ++ g) (C := [((c.1 ≤ 601024 ∧ c.2 ≤ 7293034) ∧ 1 ≤ f ∧ 60 ≤ w)]) 3 3 rfl hR0 ?_
  refine z_Ln.call (s := 0) (mj := 41) (as := [.ref 59, .int 0]) (rr := []) (v := some (.int 60)) (T1 := (hC A E N V W ++ g, c)) rfl rfl ⟨⟨by omega, by have : z_pg.2.1 41 = 2 := rfl; omega⟩, (by decide : (0 : Nat) ≤ 8), (by decide +kernel : (2 : Nat) ≤ z_pg.2.1 41)⟩ hRm (s41_9_0 hRm (by omega) (by omega)) ⟨trivial, ⟨(Or.inl (by decide)), trivial, trivial⟩⟩ ?_
  exact z_Ln.ret rfl rfl
set_option maxRecDepth 10000 in
theorem s41_10_0 {L : Nat} {xs : Nat → Int32} {fv : Value} {f w : Nat} {c : Nat × Nat} {A : Nat → List (Nat × Int32)} {E : List (Nat × Option Nat)} {N : Nat → Nat} {V : Nat → Nat → Int32} {W : Nat} {g : List z_E}  (hRm : z_Rm (hC A E N V W ++ g, c)) (hf : 2 ≤ f) (hw : 150 ≤ w) : z_Ln L xs fv f w 41 0 [(0, .ref 61), (1, .int 0)] [] (hC A E N V W ++ g, c) (.inl (some (.int 43))) (hC A E N V W ++ g, c) := by
  have hR0 : ((c.1 ≤ 601024 ∧ c.2 ≤ 7293034) ∧ 1 ≤ f ∧ 60 ≤ w) := ⟨hRm, by omega, by omega⟩
  have m42 : z_pg.2.1 42 = 2 := rfl
  refine z_Ln.blk (pc' := 3) (lv' := [(0, .ref 61), (1, .int 0)]) (st' := [.int 1, .int 0]) (H' := hC A E N V W ++ g) (C := [((c.1 ≤ 601024 ∧ c.2 ≤ 7293034) ∧ 1 ≤ f ∧ 60 ≤ w)]) 0 3 rfl hR0 ?_
  refine z_Ln.call (s := 0) (mj := 42) (as := [.int 0, .int 1]) (rr := []) (v := none) (T1 := (hC A E N V W ++ g, c)) rfl rfl ⟨⟨by omega, by have : z_pg.2.1 42 = 2 := rfl; omega⟩, (by decide : (0 : Nat) ≤ 8), (by decide +kernel : (2 : Nat) ≤ z_pg.2.1 42)⟩ hRm (s42_0_1 hRm (by omega) (by omega)) ⟨trivial, ⟨(Or.inl (by decide)), trivial, trivial⟩⟩ ?_
  refine z_Ln.blk (pc' := 14) (lv' := [(0, .ref 61), (1, .int 0)]) (st' := [.int 43]) (H' := hC A E N V W ++ g) (C := [((c.1 ≤ 601024 ∧ c.2 ≤ 7293034) ∧ 1 ≤ f ∧ 60 ≤ w), z_in 0 1 = true]) 4 6 rfl ⟨hR0, (by decide : z_in 0 1 = true)⟩ ?_
  exact z_Ln.ret rfl rfl
set_option maxRecDepth 10000 in
theorem s39_10_0 {L : Nat} {xs : Nat → Int32} {fv : Value} {f w : Nat} {c : Nat × Nat} {A : Nat → List (Nat × Int32)} {E : List (Nat × Option Nat)} {N : Nat → Nat} {V : Nat → Nat → Int32} {W : Nat} {g : List z_E}  (hRm : z_Rm (hC A E N V W ++ g, c)) (hf : 3 ≤ f) (hw : 250 ≤ w) : z_Ln L xs fv f w 39 0 [(0, .ref 60), (1, .int 0)] [] (hC A E N V W ++ g, c) (.inl (some (.int 43))) (hC A E N V W ++ g, c) := by
  have hR0 : ((c.1 ≤ 601024 ∧ c.2 ≤ 7293034) ∧ 1 ≤ f ∧ 60 ≤ w) := ⟨hRm, by omega, by omega⟩
  have m40 : z_pg.2.1 40 = 1 := rfl
  have m41 : z_pg.2.1 41 = 2 := rfl
  refine z_Ln.blk (pc' := 1) (lv' := [(0, .ref 60), (1, .int 0)]) (st' := [.ref 60]) (H' := hC A E N V W ++ g) (C := []) 0 1 rfl trivial ?_
  refine z_Ln.call (s := 0) (mj := 40) (as := [.ref 60]) (rr := []) (v := some (.int 1)) (T1 := (hC A E N V W ++ g, c)) rfl rfl ⟨⟨by omega, by have : z_pg.2.1 40 = 1 := rfl; omega⟩, (by decide : (0 : Nat) ≤ 8), (by decide +kernel : (1 : Nat) ≤ z_pg.2.1 40)⟩ hRm (s40_10 hRm (by omega) (by omega)) ⟨trivial, ⟨(Or.inl (by decide)), trivial, trivial⟩⟩ ?_
  refine z_Ln.blk (pc' := (if decide (1 = 0) = true then 16 else 7)) (lv' := [(0, .ref 60), (1, .int 0)]) (st' := []) (H' := hC A E N V W ++ g) (C := []) 2 1 rfl trivial (z_Ln.brF (decide_eq_false (by decide)) ?_)
  refine z_Ln.blk (pc' := 12) (lv' := [(0, .ref 60), (1, .int 0)]) (st' := [.int 0, .ref 61]) (H' := hC A E N V W ++ g) (C := [((c.1 ≤ 601024 ∧ c.2 ≤ 7293034) ∧ 1 ≤ f ∧ 60 ≤ w)]) 3 3 rfl hR0 ?_
  refine z_Ln.call (s := 0) (mj := 41) (as := [.ref 61, .int 0]) (rr := []) (v := some (.int 43)) (T1 := (hC A E N V W ++ g, c)) rfl rfl ⟨⟨by omega, by have : z_pg.2.1 41 = 2 := rfl; omega⟩, (by decide : (0 : Nat) ≤ 8), (by decide +kernel : (2 : Nat) ≤ z_pg.2.1 41)⟩ hRm (s41_10_0 hRm (by omega) (by omega)) ⟨trivial, ⟨(Or.inl (by decide)), trivial, trivial⟩⟩ ?_
  exact z_Ln.ret rfl rfl
set_option maxRecDepth 10000 in
theorem s41_11_0 {L : Nat} {xs : Nat → Int32} {fv : Value} {f w : Nat} {c : Nat × Nat} {A : Nat → List (Nat × Int32)} {E : List (Nat × Option Nat)} {N : Nat → Nat} {V : Nat → Nat → Int32} {W : Nat} {g : List z_E}  (hRm : z_Rm (hC A E N V W ++ g, c)) (hf : 2 ≤ f) (hw : 150 ≤ w) : z_Ln L xs fv f w 41 0 [(0, .ref 63), (1, .int 0)] [] (hC A E N V W ++ g, c) (.inl (some (.int 45))) (hC A E N V W ++ g, c) := by
  have hR0 : ((c.1 ≤ 601024 ∧ c.2 ≤ 7293034) ∧ 1 ≤ f ∧ 60 ≤ w) := ⟨hRm, by omega, by omega⟩
  have m42 : z_pg.2.1 42 = 2 := rfl
  refine z_Ln.blk (pc' := 3) (lv' := [(0, .ref 63), (1, .int 0)]) (st' := [.int 1, .int 0]) (H' := hC A E N V W ++ g) (C := [((c.1 ≤ 601024 ∧ c.2 ≤ 7293034) ∧ 1 ≤ f ∧ 60 ≤ w)]) 0 3 rfl hR0 ?_
  refine z_Ln.call (s := 0) (mj := 42) (as := [.int 0, .int 1]) (rr := []) (v := none) (T1 := (hC A E N V W ++ g, c)) rfl rfl ⟨⟨by omega, by have : z_pg.2.1 42 = 2 := rfl; omega⟩, (by decide : (0 : Nat) ≤ 8), (by decide +kernel : (2 : Nat) ≤ z_pg.2.1 42)⟩ hRm (s42_0_1 hRm (by omega) (by omega)) ⟨trivial, ⟨(Or.inl (by decide)), trivial, trivial⟩⟩ ?_
  refine z_Ln.blk (pc' := 14) (lv' := [(0, .ref 63), (1, .int 0)]) (st' := [.int 45]) (H' := hC A E N V W ++ g) (C := [((c.1 ≤ 601024 ∧ c.2 ≤ 7293034) ∧ 1 ≤ f ∧ 60 ≤ w), z_in 0 1 = true]) 4 6 rfl ⟨hR0, (by decide : z_in 0 1 = true)⟩ ?_
  exact z_Ln.ret rfl rfl
set_option maxRecDepth 10000 in
theorem s39_11_0 {L : Nat} {xs : Nat → Int32} {fv : Value} {f w : Nat} {c : Nat × Nat} {A : Nat → List (Nat × Int32)} {E : List (Nat × Option Nat)} {N : Nat → Nat} {V : Nat → Nat → Int32} {W : Nat} {g : List z_E}  (hRm : z_Rm (hC A E N V W ++ g, c)) (hf : 3 ≤ f) (hw : 250 ≤ w) : z_Ln L xs fv f w 39 0 [(0, .ref 62), (1, .int 0)] [] (hC A E N V W ++ g, c) (.inl (some (.int 45))) (hC A E N V W ++ g, c) := by
  have hR0 : ((c.1 ≤ 601024 ∧ c.2 ≤ 7293034) ∧ 1 ≤ f ∧ 60 ≤ w) := ⟨hRm, by omega, by omega⟩
  have m40 : z_pg.2.1 40 = 1 := rfl
  have m41 : z_pg.2.1 41 = 2 := rfl
  refine z_Ln.blk (pc' := 1) (lv' := [(0, .ref 62), (1, .int 0)]) (st' := [.ref 62]) (H' := hC A E N V W ++ g) (C := []) 0 1 rfl trivial ?_
  refine z_Ln.call (s := 0) (mj := 40) (as := [.ref 62]) (rr := []) (v := some (.int 1)) (T1 := (hC A E N V W ++ g, c)) rfl rfl ⟨⟨by omega, by have : z_pg.2.1 40 = 1 := rfl; omega⟩, (by decide : (0 : Nat) ≤ 8), (by decide +kernel : (1 : Nat) ≤ z_pg.2.1 40)⟩ hRm (s40_11 hRm (by omega) (by omega)) ⟨trivial, ⟨(Or.inl (by decide)), trivial, trivial⟩⟩ ?_
  refine z_Ln.blk (pc' := (if decide (1 = 0) = true then 16 else 7)) (lv' := [(0, .ref 62), (1, .int 0)]) (st' := []) (H' := hC A E N V W ++ g) (C := []) 2 1 rfl trivial (z_Ln.brF (decide_eq_false (by decide)) ?_)
  refine z_Ln.blk (pc' := 12) (lv' := [(0, .ref 62), (1, .int 0)]) (st' := [.int 0, .ref 63]) (H' := hC A E N V W ++ g) (C := [((c.1 ≤ 601024 ∧ c.2 ≤ 7293034) ∧ 1 ≤ f ∧ 60 ≤ w)]) 3 3 rfl hR0 ?_
  refine z_Ln.call (s := 0) (mj := 41) (as := [.ref 63, .int 0]) (rr := []) (v := some (.int 45)) (T1 := (hC A E N V W ++ g, c)) rfl rfl ⟨⟨by omega, by have : z_pg.2.1 41 = 2 := rfl; omega⟩, (by decide : (0 : Nat) ≤ 8), (by decide +kernel : (2 : Nat) ≤ z_pg.2.1 41)⟩ hRm (s41_11_0 hRm (by omega) (by omega)) ⟨trivial, ⟨(Or.inl (by decide)), trivial, trivial⟩⟩ ?_
  exact z_Ln.ret rfl rfl
set_option maxRecDepth 10000 in
theorem s41_12_0 {L : Nat} {xs : Nat → Int32} {fv : Value} {f w : Nat} {c : Nat × Nat} {A : Nat → List (Nat × Int32)} {E : List (Nat × Option Nat)} {N : Nat → Nat} {V : Nat → Nat → Int32} {W : Nat} {g : List z_E}  (hRm : z_Rm (hC A E N V W ++ g, c)) (hf : 2 ≤ f) (hw : 150 ≤ w) : z_Ln L xs fv f w 41 0 [(0, .ref 65), (1, .int 0)] [] (hC A E N V W ++ g, c) (.inl (some (.int 42))) (hC A E N V W ++ g, c) := by
  have hR0 : ((c.1 ≤ 601024 ∧ c.2 ≤ 7293034) ∧ 1 ≤ f ∧ 60 ≤ w) := ⟨hRm, by omega, by omega⟩
  have m42 : z_pg.2.1 42 = 2 := rfl
  refine z_Ln.blk (pc' := 3) (lv' := [(0, .ref 65), (1, .int 0)]) (st' := [.int 1, .int 0]) (H' := hC A E N V W ++ g) (C := [((c.1 ≤ 601024 ∧ c.2 ≤ 7293034) ∧ 1 ≤ f ∧ 60 ≤ w)]) 0 3 rfl hR0 ?_
  refine z_Ln.call (s := 0) (mj := 42) (as := [.int 0, .int 1]) (rr := []) (v := none) (T1 := (hC A E N V W ++ g, c)) rfl rfl ⟨⟨by omega, by have : z_pg.2.1 42 = 2 := rfl; omega⟩, (by decide : (0 : Nat) ≤ 8), (by decide +kernel : (2 : Nat) ≤ z_pg.2.1 42)⟩ hRm (s42_0_1 hRm (by omega) (by omega)) ⟨trivial, ⟨(Or.inl (by decide)), trivial, trivial⟩⟩ ?_
  refine z_Ln.blk (pc' := 14) (lv' := [(0, .ref 65), (1, .int 0)]) (st' := [.int 42]) (H' := hC A E N V W ++ g) (C := [((c.1 ≤ 601024 ∧ c.2 ≤ 7293034) ∧ 1 ≤ f ∧ 60 ≤ w), z_in 0 1 = true]) 4 6 rfl ⟨hR0, (by decide : z_in 0 1 = true)⟩ ?_
  exact z_Ln.ret rfl rfl
set_option maxRecDepth 10000 in
theorem s39_12_0 {L : Nat} {xs : Nat → Int32} {fv : Value} {f w : Nat} {c : Nat × Nat} {A : Nat → List (Nat × Int32)} {E : List (Nat × Option Nat)} {N : Nat → Nat} {V : Nat → Nat → Int32} {W : Nat} {g : List z_E}  (hRm : z_Rm (hC A E N V W ++ g, c)) (hf : 3 ≤ f) (hw : 250 ≤ w) : z_Ln L xs fv f w 39 0 [(0, .ref 64), (1, .int 0)] [] (hC A E N V W ++ g, c) (.inl (some (.int 42))) (hC A E N V W ++ g, c) := by
  have hR0 : ((c.1 ≤ 601024 ∧ c.2 ≤ 7293034) ∧ 1 ≤ f ∧ 60 ≤ w) := ⟨hRm, by omega, by omega⟩
  have m40 : z_pg.2.1 40 = 1 := rfl
  have m41 : z_pg.2.1 41 = 2 := rfl
  refine z_Ln.blk (pc' := 1) (lv' := [(0, .ref 64), (1, .int 0)]) (st' := [.ref 64]) (H' := hC A E N V W ++ g) (C := []) 0 1 rfl trivial ?_
  refine z_Ln.call (s := 0) (mj := 40) (as := [.ref 64]) (rr := []) (v := some (.int 1)) (T1 := (hC A E N V W ++ g, c)) rfl rfl ⟨⟨by omega, by have : z_pg.2.1 40 = 1 := rfl; omega⟩, (by decide : (0 : Nat) ≤ 8), (by decide +kernel : (1 : Nat) ≤ z_pg.2.1 40)⟩ hRm (s40_12 hRm (by omega) (by omega)) ⟨trivial, ⟨(Or.inl (by decide)), trivial, trivial⟩⟩ ?_
  refine z_Ln.blk (pc' := (if decide (1 = 0) = true then 16 else 7)) (lv' := [(0, .ref 64), (1, .int 0)]) (st' := []) (H' := hC A E N V W ++ g) (C := []) 2 1 rfl trivial (z_Ln.brF (decide_eq_false (by decide)) ?_)
  refine z_Ln.blk (pc' := 12) (lv' := [(0, .ref 64), (1, .int 0)]) (st' := [.int 0, .ref 65]) (H' := hC A E N V W ++ g) (C := [((c.1 ≤ 601024 ∧ c.2 ≤ 7293034) ∧ 1 ≤ f ∧ 60 ≤ w)]) 3 3 rfl hR0 ?_
  refine z_Ln.call (s := 0) (mj := 41) (as := [.ref 65, .int 0]) (rr := []) (v := some (.int 42)) (T1 := (hC A E N V W ++ g, c)) rfl rfl ⟨⟨by omega, by have : z_pg.2.1 41 = 2 := rfl; omega⟩, (by decide : (0 : Nat) ≤ 8), (by decide +kernel : (2 : Nat) ≤ z_pg.2.1 41)⟩ hRm (s41_12_0 hRm (by omega) (by omega)) ⟨trivial, ⟨(Or.inl (by decide)), trivial, trivial⟩⟩ ?_
  exact z_Ln.ret rfl rfl
set_option maxRecDepth 10000 in
theorem s41_13_0 {L : Nat} {xs : Nat → Int32} {fv : Value} {f w : Nat} {c : Nat × Nat} {A : Nat → List (Nat × Int32)} {E : List (Nat × Option Nat)} {N : Nat → Nat} {V : Nat → Nat → Int32} {W : Nat} {g : List z_E}  (hRm : z_Rm (hC A E N V W ++ g, c)) (hf : 2 ≤ f) (hw : 150 ≤ w) : z_Ln L xs fv f w 41 0 [(0, .ref 67), (1, .int 0)] [] (hC A E N V W ++ g, c) (.inl (some (.int 33))) (hC A E N V W ++ g, c) := by
  have hR0 : ((c.1 ≤ 601024 ∧ c.2 ≤ 7293034) ∧ 1 ≤ f ∧ 60 ≤ w) := ⟨hRm, by omega, by omega⟩
  have m42 : z_pg.2.1 42 = 2 := rfl
  refine z_Ln.blk (pc' := 3) (lv' := [(0, .ref 67), (1, .int 0)]) (st' := [.int 1, .int 0]) (H' := hC A E N V W ++ g) (C := [((c.1 ≤ 601024 ∧ c.2 ≤ 7293034) ∧ 1 ≤ f ∧ 60 ≤ w)]) 0 3 rfl hR0 ?_
  refine z_Ln.call (s := 0) (mj := 42) (as := [.int 0, .int 1]) (rr := []) (v := none) (T1 := (hC A E N V W ++ g, c)) rfl rfl ⟨⟨by omega, by have : z_pg.2.1 42 = 2 := rfl; omega⟩, (by decide : (0 : Nat) ≤ 8), (by decide +kernel : (2 : Nat) ≤ z_pg.2.1 42)⟩ hRm (s42_0_1 hRm (by omega) (by omega)) ⟨trivial, ⟨(Or.inl (by decide)), trivial, trivial⟩⟩ ?_
  refine z_Ln.blk (pc' := 14) (lv' := [(0, .ref 67), (1, .int 0)]) (st' := [.int 33]) (H' := hC A E N V W ++ g) (C := [((c.1 ≤ 601024 ∧ c.2 ≤ 7293034) ∧ 1 ≤ f ∧ 60 ≤ w), z_in 0 1 = true]) 4 6 rfl ⟨hR0, (by decide : z_in 0 1 = true)⟩ ?_
  exact z_Ln.ret rfl rfl
set_option maxRecDepth 10000 in
theorem s39_13_0 {L : Nat} {xs : Nat → Int32} {fv : Value} {f w : Nat} {c : Nat × Nat} {A : Nat → List (Nat × Int32)} {E : List (Nat × Option Nat)} {N : Nat → Nat} {V : Nat → Nat → Int32} {W : Nat} {g : List z_E}  (hRm : z_Rm (hC A E N V W ++ g, c)) (hf : 3 ≤ f) (hw : 250 ≤ w) : z_Ln L xs fv f w 39 0 [(0, .ref 66), (1, .int 0)] [] (hC A E N V W ++ g, c) (.inl (some (.int 33))) (hC A E N V W ++ g, c) := by
  have hR0 : ((c.1 ≤ 601024 ∧ c.2 ≤ 7293034) ∧ 1 ≤ f ∧ 60 ≤ w) := ⟨hRm, by omega, by omega⟩
  have m40 : z_pg.2.1 40 = 1 := rfl
  have m41 : z_pg.2.1 41 = 2 := rfl
  refine z_Ln.blk (pc' := 1) (lv' := [(0, .ref 66), (1, .int 0)]) (st' := [.ref 66]) (H' := hC A E N V W ++ g) (C := []) 0 1 rfl trivial ?_
  refine z_Ln.call (s := 0) (mj := 40) (as := [.ref 66]) (rr := []) (v := some (.int 1)) (T1 := (hC A E N V W ++ g, c)) rfl rfl ⟨⟨by omega, by have : z_pg.2.1 40 = 1 := rfl; omega⟩, (by decide : (0 : Nat) ≤ 8), (by decide +kernel : (1 : Nat) ≤ z_pg.2.1 40)⟩ hRm (s40_13 hRm (by omega) (by omega)) ⟨trivial, ⟨(Or.inl (by decide)), trivial, trivial⟩⟩ ?_
  refine z_Ln.blk (pc' := (if decide (1 = 0) = true then 16 else 7)) (lv' := [(0, .ref 66), (1, .int 0)]) (st' := []) (H' := hC A E N V W ++ g) (C := []) 2 1 rfl trivial (z_Ln.brF (decide_eq_false (by decide)) ?_)
  refine z_Ln.blk (pc' := 12) (lv' := [(0, .ref 66), (1, .int 0)]) (st' := [.int 0, .ref 67]) (H' := hC A E N V W ++ g) (C := [((c.1 ≤ 601024 ∧ c.2 ≤ 7293034) ∧ 1 ≤ f ∧ 60 ≤ w)]) 3 3 rfl hR0 ?_
  refine z_Ln.call (s := 0) (mj := 41) (as := [.ref 67, .int 0]) (rr := []) (v := some (.int 33)) (T1 := (hC A E N V W ++ g, c)) rfl rfl ⟨⟨by omega, by have : z_pg.2.1 41 = 2 := rfl; omega⟩, (by decide : (0 : Nat) ≤ 8), (by decide +kernel : (2 : Nat) ≤ z_pg.2.1 41)⟩ hRm (s41_13_0 hRm (by omega) (by omega)) ⟨trivial, ⟨(Or.inl (by decide)), trivial, trivial⟩⟩ ?_
  exact z_Ln.ret rfl rfl
set_option maxRecDepth 10000 in
theorem s41_14_0 {L : Nat} {xs : Nat → Int32} {fv : Value} {f w : Nat} {c : Nat × Nat} {A : Nat → List (Nat × Int32)} {E : List (Nat × Option Nat)} {N : Nat → Nat} {V : Nat → Nat → Int32} {W : Nat} {g : List z_E}  (hRm : z_Rm (hC A E N V W ++ g, c)) (hf : 2 ≤ f) (hw : 150 ≤ w) : z_Ln L xs fv f w 41 0 [(0, .ref 69), (1, .int 0)] [] (hC A E N V W ++ g, c) (.inl (some (.int 124))) (hC A E N V W ++ g, c) := by
  have hR0 : ((c.1 ≤ 601024 ∧ c.2 ≤ 7293034) ∧ 1 ≤ f ∧ 60 ≤ w) := ⟨hRm, by omega, by omega⟩
  have m42 : z_pg.2.1 42 = 2 := rfl
  refine z_Ln.blk (pc' := 3) (lv' := [(0, .ref 69), (1, .int 0)]) (st' := [.int 1, .int 0]) (H' := hC A E N V W ++ g) (C := [((c.1 ≤ 601024 ∧ c.2 ≤ 7293034) ∧ 1 ≤ f ∧ 60 ≤ w)]) 0 3 rfl hR0 ?_
  refine z_Ln.call (s := 0) (mj := 42) (as := [.int 0, .int 1]) (rr := []) (v := none) (T1 := (hC A E N V W ++ g, c)) rfl rfl ⟨⟨by omega, by have : z_pg.2.1 42 = 2 := rfl; omega⟩, (by decide : (0 : Nat) ≤ 8), (by decide +kernel : (2 : Nat) ≤ z_pg.2.1 42)⟩ hRm (s42_0_1 hRm (by omega) (by omega)) ⟨trivial, ⟨(Or.inl (by decide)), trivial, trivial⟩⟩ ?_
  refine z_Ln.blk (pc' := 14) (lv' := [(0, .ref 69), (1, .int 0)]) (st' := [.int 124]) (H' := hC A E N V W ++ g) (C := [((c.1 ≤ 601024 ∧ c.2 ≤ 7293034) ∧ 1 ≤ f ∧ 60 ≤ w), z_in 0 1 = true]) 4 6 rfl ⟨hR0, (by decide : z_in 0 1 = true)⟩ ?_
  exact z_Ln.ret rfl rfl
set_option maxRecDepth 10000 in
theorem s39_14_0 {L : Nat} {xs : Nat → Int32} {fv : Value} {f w : Nat} {c : Nat × Nat} {A : Nat → List (Nat × Int32)} {E : List (Nat × Option Nat)} {N : Nat → Nat} {V : Nat → Nat → Int32} {W : Nat} {g : List z_E}  (hRm : z_Rm (hC A E N V W ++ g, c)) (hf : 3 ≤ f) (hw : 250 ≤ w) : z_Ln L xs fv f w 39 0 [(0, .ref 68), (1, .int 0)] [] (hC A E N V W ++ g, c) (.inl (some (.int 124))) (hC A E N V W ++ g, c) := by
  have hR0 : ((c.1 ≤ 601024 ∧ c.2 ≤ 7293034) ∧ 1 ≤ f ∧ 60 ≤ w) := ⟨hRm, by omega, by omega⟩
  have m40 : z_pg.2.1 40 = 1 := rfl
  have m41 : z_pg.2.1 41 = 2 := rfl
  refine z_Ln.blk (pc' := 1) (lv' := [(0, .ref 68), (1, .int 0)]) (st' := [.ref 68]) (H' := hC A E N V W ++ g) (C := []) 0 1 rfl trivial ?_
  refine z_Ln.call (s := 0) (mj := 40) (as := [.ref 68]) (rr := []) (v := some (.int 1)) (T1 := (hC A E N V W ++ g, c)) rfl rfl ⟨⟨by omega, by have : z_pg.2.1 40 = 1 := rfl; omega⟩, (by decide : (0 : Nat) ≤ 8), (by decide +kernel : (1 : Nat) ≤ z_pg.2.1 40)⟩ hRm (s40_14 hRm (by omega) (by omega)) ⟨trivial, ⟨(Or.inl (by decide)), trivial, trivial⟩⟩ ?_
  refine z_Ln.blk (pc' := (if decide (1 = 0) = true then 16 else 7)) (lv' := [(0, .ref 68), (1, .int 0)]) (st' := []) (H' := hC A E N V W ++ g) (C := []) 2 1 rfl trivial (z_Ln.brF (decide_eq_false (by decide)) ?_)
  refine z_Ln.blk (pc' := 12) (lv' := [(0, .ref 68), (1, .int 0)]) (st' := [.int 0, .ref 69]) (H' := hC A E N V W ++ g) (C := [((c.1 ≤ 601024 ∧ c.2 ≤ 7293034) ∧ 1 ≤ f ∧ 60 ≤ w)]) 3 3 rfl hR0 ?_
  refine z_Ln.call (s := 0) (mj := 41) (as := [.ref 69, .int 0]) (rr := []) (v := some (.int 124)) (T1 := (hC A E N V W ++ g, c)) rfl rfl ⟨⟨by omega, by have : z_pg.2.1 41 = 2 := rfl; omega⟩, (by decide : (0 : Nat) ≤ 8), (by decide +kernel : (2 : Nat) ≤ z_pg.2.1 41)⟩ hRm (s41_14_0 hRm (by omega) (by omega)) ⟨trivial, ⟨(Or.inl (by decide)), trivial, trivial⟩⟩ ?_
  exact z_Ln.ret rfl rfl
set_option maxRecDepth 10000 in
theorem s41_15_0 {L : Nat} {xs : Nat → Int32} {fv : Value} {f w : Nat} {c : Nat × Nat} {A : Nat → List (Nat × Int32)} {E : List (Nat × Option Nat)} {N : Nat → Nat} {V : Nat → Nat → Int32} {W : Nat} {g : List z_E}  (hRm : z_Rm (hC A E N V W ++ g, c)) (hf : 2 ≤ f) (hw : 150 ≤ w) : z_Ln L xs fv f w 41 0 [(0, .ref 71), (1, .int 0)] [] (hC A E N V W ++ g, c) (.inl (some (.int 45))) (hC A E N V W ++ g, c) := by
  have hR0 : ((c.1 ≤ 601024 ∧ c.2 ≤ 7293034) ∧ 1 ≤ f ∧ 60 ≤ w) := ⟨hRm, by omega, by omega⟩
  have m42 : z_pg.2.1 42 = 2 := rfl
  refine z_Ln.blk (pc' := 3) (lv' := [(0, .ref 71), (1, .int 0)]) (st' := [.int 2, .int 0]) (H' := hC A E N V W ++ g) (C := [((c.1 ≤ 601024 ∧ c.2 ≤ 7293034) ∧ 1 ≤ f ∧ 60 ≤ w)]) 0 3 rfl hR0 ?_
  refine z_Ln.call (s := 0) (mj := 42) (as := [.int 0, .int 2]) (rr := []) (v := none) (T1 := (hC A E N V W ++ g, c)) rfl rfl ⟨⟨by omega, by have : z_pg.2.1 42 = 2 := rfl; omega⟩, (by decide : (0 : Nat) ≤ 8), (by decide +kernel : (2 : Nat) ≤ z_pg.2.1 42)⟩ hRm (s42_0_2 hRm (by omega) (by omega)) ⟨trivial, ⟨(Or.inl (by decide)), trivial, trivial⟩⟩ ?_
  refine z_Ln.blk (pc' := 14) (lv' := [(0, .ref 71), (1, .int 0)]) (st' := [.int 45]) (H' := hC A E N V W ++ g) (C := [((c.1 ≤ 601024 ∧ c.2 ≤ 7293034) ∧ 1 ≤ f ∧ 60 ≤ w), z_in 0 2 = true]) 4 6 rfl ⟨hR0, (by decide : z_in 0 2 = true)⟩ ?_
  exact z_Ln.ret rfl rfl
set_option maxRecDepth 10000 in
theorem s39_15_0 {L : Nat} {xs : Nat → Int32} {fv : Value} {f w : Nat} {c : Nat × Nat} {A : Nat → List (Nat × Int32)} {E : List (Nat × Option Nat)} {N : Nat → Nat} {V : Nat → Nat → Int32} {W : Nat} {g : List z_E}  (hRm : z_Rm (hC A E N V W ++ g, c)) (hf : 3 ≤ f) (hw : 250 ≤ w) : z_Ln L xs fv f w 39 0 [(0, .ref 70), (1, .int 0)] [] (hC A E N V W ++ g, c) (.inl (some (.int 45))) (hC A E N V W ++ g, c) := by
  have hR0 : ((c.1 ≤ 601024 ∧ c.2 ≤ 7293034) ∧ 1 ≤ f ∧ 60 ≤ w) := ⟨hRm, by omega, by omega⟩
  have m40 : z_pg.2.1 40 = 1 := rfl
  have m41 : z_pg.2.1 41 = 2 := rfl
  refine z_Ln.blk (pc' := 1) (lv' := [(0, .ref 70), (1, .int 0)]) (st' := [.ref 70]) (H' := hC A E N V W ++ g) (C := []) 0 1 rfl trivial ?_
  refine z_Ln.call (s := 0) (mj := 40) (as := [.ref 70]) (rr := []) (v := some (.int 1)) (T1 := (hC A E N V W ++ g, c)) rfl rfl ⟨⟨by omega, by have : z_pg.2.1 40 = 1 := rfl; omega⟩, (by decide : (0 : Nat) ≤ 8), (by decide +kernel : (1 : Nat) ≤ z_pg.2.1 40)⟩ hRm (s40_15 hRm (by omega) (by omega)) ⟨trivial, ⟨(Or.inl (by decide)), trivial, trivial⟩⟩ ?_
  refine z_Ln.blk (pc' := (if decide (1 = 0) = true then 16 else 7)) (lv' := [(0, .ref 70), (1, .int 0)]) (st' := []) (H' := hC A E N V W ++ g) (C := []) 2 1 rfl trivial (z_Ln.brF (decide_eq_false (by decide)) ?_)
  refine z_Ln.blk (pc' := 12) (lv' := [(0, .ref 70), (1, .int 0)]) (st' := [.int 0, .ref 71]) (H' := hC A E N V W ++ g) (C := [((c.1 ≤ 601024 ∧ c.2 ≤ 7293034) ∧ 1 ≤ f ∧ 60 ≤ w)]) 3 3 rfl hR0 ?_
  refine z_Ln.call (s := 0) (mj := 41) (as := [.ref 71, .int 0]) (rr := []) (v := some (.int 45)) (T1 := (hC A E N V W ++ g, c)) rfl rfl ⟨⟨by omega, by have : z_pg.2.1 41 = 2 := rfl; omega⟩, (by decide : (0 : Nat) ≤ 8), (by decide +kernel : (2 : Nat) ≤ z_pg.2.1 41)⟩ hRm (s41_15_0 hRm (by omega) (by omega)) ⟨trivial, ⟨(Or.inl (by decide)), trivial, trivial⟩⟩ ?_
  exact z_Ln.ret rfl rfl
set_option maxRecDepth 10000 in
theorem s41_15_1 {L : Nat} {xs : Nat → Int32} {fv : Value} {f w : Nat} {c : Nat × Nat} {A : Nat → List (Nat × Int32)} {E : List (Nat × Option Nat)} {N : Nat → Nat} {V : Nat → Nat → Int32} {W : Nat} {g : List z_E}  (hRm : z_Rm (hC A E N V W ++ g, c)) (hf : 2 ≤ f) (hw : 150 ≤ w) : z_Ln L xs fv f w 41 0 [(0, .ref 71), (1, .int 1)] [] (hC A E N V W ++ g, c) (.inl (some (.int 62))) (hC A E N V W ++ g, c) := by
  have hR0 : ((c.1 ≤ 601024 ∧ c.2 ≤ 7293034) ∧ 1 ≤ f ∧ 60 ≤ w) := ⟨hRm, by omega, by omega⟩
  have m42 : z_pg.2.1 42 = 2 := rfl
  refine z_Ln.blk (pc' := 3) (lv' := [(0, .ref 71), (1, .int 1)]) (st' := [.int 2, .int 1]) (H' := hC A E N V W ++ g) (C := [((c.1 ≤ 601024 ∧ c.2 ≤ 7293034) ∧ 1 ≤ f ∧ 60 ≤ w)]) 0 3 rfl hR0 ?_
  refine z_Ln.call (s := 0) (mj := 42) (as := [.int 1, .int 2]) (rr := []) (v := none) (T1 := (hC A E N V W ++ g, c)) rfl rfl ⟨⟨by omega, by have : z_pg.2.1 42 = 2 := rfl; omega⟩, (by decide : (0 : Nat) ≤ 8), (by decide +kernel : (2 : Nat) ≤ z_pg.2.1 42)⟩ hRm (s42_1_2 hRm (by omega) (by omega)) ⟨trivial, ⟨(Or.inl (by decide)), trivial, trivial⟩⟩ ?_
  refine z_Ln.blk (pc' := 14) (lv' := [(0, .ref 71), (1, .int 1)]) (st' := [.int 62]) (H' := hC A E N V W ++ g) (C := [((c.1 ≤ 601024 ∧ c.2 ≤ 7293034) ∧ 1 ≤ f ∧ 60 ≤ w), z_in 1 2 = true]) 4 6 rfl ⟨hR0, (by decide : z_in 1 2 = true)⟩ ?_
  exact z_Ln.ret rfl rfl
set_option maxRecDepth 10000 in
theorem s39_15_1 {L : Nat} {xs : Nat → Int32} {fv : Value} {f w : Nat} {c : Nat × Nat} {A : Nat → List (Nat × Int32)} {E : List (Nat × Option Nat)} {N : Nat → Nat} {V : Nat → Nat → Int32} {W : Nat} {g : List z_E}  (hRm : z_Rm (hC A E N V W ++ g, c)) (hf : 3 ≤ f) (hw : 250 ≤ w) : z_Ln L xs fv f w 39 0 [(0, .ref 70), (1, .int 1)] [] (hC A E N V W ++ g, c) (.inl (some (.int 62))) (hC A E N V W ++ g, c) := by
  have hR0 : ((c.1 ≤ 601024 ∧ c.2 ≤ 7293034) ∧ 1 ≤ f ∧ 60 ≤ w) := ⟨hRm, by omega, by omega⟩
  have m40 : z_pg.2.1 40 = 1 := rfl
  have m41 : z_pg.2.1 41 = 2 := rfl
  refine z_Ln.blk (pc' := 1) (lv' := [(0, .ref 70), (1, .int 1)]) (st' := [.ref 70]) (H' := hC A E N V W ++ g) (C := []) 0 1 rfl trivial ?_
  refine z_Ln.call (s := 0) (mj := 40) (as := [.ref 70]) (rr := []) (v := some (.int 1)) (T1 := (hC A E N V W ++ g, c)) rfl rfl ⟨⟨by omega, by have : z_pg.2.1 40 = 1 := rfl; omega⟩, (by decide : (0 : Nat) ≤ 8), (by decide +kernel : (1 : Nat) ≤ z_pg.2.1 40)⟩ hRm (s40_15 hRm (by omega) (by omega)) ⟨trivial, ⟨(Or.inl (by decide)), trivial, trivial⟩⟩ ?_
  refine z_Ln.blk (pc' := (if decide (1 = 0) = true then 16 else 7)) (lv' := [(0, .ref 70), (1, .int 1)]) (st' := []) (H' := hC A E N V W ++ g) (C := []) 2 1 rfl trivial (z_Ln.brF (decide_eq_false (by decide)) ?_)
  refine z_Ln.blk (pc' := 12) (lv' := [(0, .ref 70), (1, .int 1)]) (st' := [.int 1, .ref 71]) (H' := hC A E N V W ++ g) (C := [((c.1 ≤ 601024 ∧ c.2 ≤ 7293034) ∧ 1 ≤ f ∧ 60 ≤ w)]) 3 3 rfl hR0 ?_
  refine z_Ln.call (s := 0) (mj := 41) (as := [.ref 71, .int 1]) (rr := []) (v := some (.int 62)) (T1 := (hC A E N V W ++ g, c)) rfl rfl ⟨⟨by omega, by have : z_pg.2.1 41 = 2 := rfl; omega⟩, (by decide : (0 : Nat) ≤ 8), (by decide +kernel : (2 : Nat) ≤ z_pg.2.1 41)⟩ hRm (s41_15_1 hRm (by omega) (by omega)) ⟨trivial, ⟨(Or.inl (by decide)), trivial, trivial⟩⟩ ?_
  exact z_Ln.ret rfl rfl
set_option maxRecDepth 10000 in
theorem s41_16_0 {L : Nat} {xs : Nat → Int32} {fv : Value} {f w : Nat} {c : Nat × Nat} {A : Nat → List (Nat × Int32)} {E : List (Nat × Option Nat)} {N : Nat → Nat} {V : Nat → Nat → Int32} {W : Nat} {g : List z_E}  (hRm : z_Rm (hC A E N V W ++ g, c)) (hf : 2 ≤ f) (hw : 150 ≤ w) : z_Ln L xs fv f w 41 0 [(0, .ref 73), (1, .int 0)] [] (hC A E N V W ++ g, c) (.inl (some (.int 101))) (hC A E N V W ++ g, c) := by
  have hR0 : ((c.1 ≤ 601024 ∧ c.2 ≤ 7293034) ∧ 1 ≤ f ∧ 60 ≤ w) := ⟨hRm, by omega, by omega⟩
  have m42 : z_pg.2.1 42 = 2 := rfl
  refine z_Ln.blk (pc' := 3) (lv' := [(0, .ref 73), (1, .int 0)]) (st' := [.int 6, .int 0]) (H' := hC A E N V W ++ g) (C := [((c.1 ≤ 601024 ∧ c.2 ≤ 7293034) ∧ 1 ≤ f ∧ 60 ≤ w)]) 0 3 rfl hR0 ?_
  refine z_Ln.call (s := 0) (mj := 42) (as := [.int 0, .int 6]) (rr := []) (v := none) (T1 := (hC A E N V W ++ g, c)) rfl rfl ⟨⟨by omega, by have : z_pg.2.1 42 = 2 := rfl; omega⟩, (by decide : (0 : Nat) ≤ 8), (by decide +kernel : (2 : Nat) ≤ z_pg.2.1 42)⟩ hRm (s42_0_6 hRm (by omega) (by omega)) ⟨trivial, ⟨(Or.inl (by decide)), trivial, trivial⟩⟩ ?_
  refine z_Ln.blk (pc' := 14) (lv' := [(0, .ref 73), (1, .int 0)]) (st' := [.int 101]) (H' := hC A E N V W ++ g) (C := [((c.1 ≤ 601024 ∧ c.2 ≤ 7293034) ∧ 1 ≤ f ∧ 60 ≤ w), z_in 0 6 = true]) 4 6 rfl ⟨hR0, (by decide : z_in 0 6 = true)⟩ ?_
  exact z_Ln.ret rfl rfl
set_option maxRecDepth 10000 in
theorem s39_16_0 {L : Nat} {xs : Nat → Int32} {fv : Value} {f w : Nat} {c : Nat × Nat} {A : Nat → List (Nat × Int32)} {E : List (Nat × Option Nat)} {N : Nat → Nat} {V : Nat → Nat → Int32} {W : Nat} {g : List z_E}  (hRm : z_Rm (hC A E N V W ++ g, c)) (hf : 3 ≤ f) (hw : 250 ≤ w) : z_Ln L xs fv f w 39 0 [(0, .ref 72), (1, .int 0)] [] (hC A E N V W ++ g, c) (.inl (some (.int 101))) (hC A E N V W ++ g, c) := by
  have hR0 : ((c.1 ≤ 601024 ∧ c.2 ≤ 7293034) ∧ 1 ≤ f ∧ 60 ≤ w) := ⟨hRm, by omega, by omega⟩
  have m40 : z_pg.2.1 40 = 1 := rfl
  have m41 : z_pg.2.1 41 = 2 := rfl
  refine z_Ln.blk (pc' := 1) (lv' := [(0, .ref 72), (1, .int 0)]) (st' := [.ref 72]) (H' := hC A E N V W ++ g) (C := []) 0 1 rfl trivial ?_
  refine z_Ln.call (s := 0) (mj := 40) (as := [.ref 72]) (rr := []) (v := some (.int 1)) (T1 := (hC A E N V W ++ g, c)) rfl rfl ⟨⟨by omega, by have : z_pg.2.1 40 = 1 := rfl; omega⟩, (by decide : (0 : Nat) ≤ 8), (by decide +kernel : (1 : Nat) ≤ z_pg.2.1 40)⟩ hRm (s40_16 hRm (by omega) (by omega)) ⟨trivial, ⟨(Or.inl (by decide)), trivial, trivial⟩⟩ ?_
  refine z_Ln.blk (pc' := (if decide (1 = 0) = true then 16 else 7)) (lv' := [(0, .ref 72), (1, .int 0)]) (st' := []) (H' := hC A E N V W ++ g) (C := []) 2 1 rfl trivial (z_Ln.brF (decide_eq_false (by decide)) ?_)
  refine z_Ln.blk (pc' := 12) (lv' := [(0, .ref 72), (1, .int 0)]) (st' := [.int 0, .ref 73]) (H' := hC A E N V W ++ g) (C := [((c.1 ≤ 601024 ∧ c.2 ≤ 7293034) ∧ 1 ≤ f ∧ 60 ≤ w)]) 3 3 rfl hR0 ?_
  refine z_Ln.call (s := 0) (mj := 41) (as := [.ref 73, .int 0]) (rr := []) (v := some (.int 101)) (T1 := (hC A E N V W ++ g, c)) rfl rfl ⟨⟨by omega, by have : z_pg.2.1 41 = 2 := rfl; omega⟩, (by decide : (0 : Nat) ≤ 8), (by decide +kernel : (2 : Nat) ≤ z_pg.2.1 41)⟩ hRm (s41_16_0 hRm (by omega) (by omega)) ⟨trivial, ⟨(Or.inl (by decide)), trivial, trivial⟩⟩ ?_
  exact z_Ln.ret rfl rfl
set_option maxRecDepth 10000 in
theorem s41_16_1 {L : Nat} {xs : Nat → Int32} {fv : Value} {f w : Nat} {c : Nat × Nat} {A : Nat → List (Nat × Int32)} {E : List (Nat × Option Nat)} {N : Nat → Nat} {V : Nat → Nat → Int32} {W : Nat} {g : List z_E}  (hRm : z_Rm (hC A E N V W ++ g, c)) (hf : 2 ≤ f) (hw : 150 ≤ w) : z_Ln L xs fv f w 41 0 [(0, .ref 73), (1, .int 1)] [] (hC A E N V W ++ g, c) (.inl (some (.int 102))) (hC A E N V W ++ g, c) := by
  have hR0 : ((c.1 ≤ 601024 ∧ c.2 ≤ 7293034) ∧ 1 ≤ f ∧ 60 ≤ w) := ⟨hRm, by omega, by omega⟩
  have m42 : z_pg.2.1 42 = 2 := rfl
  refine z_Ln.blk (pc' := 3) (lv' := [(0, .ref 73), (1, .int 1)]) (st' := [.int 6, .int 1]) (H' := hC A E N V W ++ g) (C := [((c.1 ≤ 601024 ∧ c.2 ≤ 7293034) ∧ 1 ≤ f ∧ 60 ≤ w)]) 0 3 rfl hR0 ?_
  refine z_Ln.call (s := 0) (mj := 42) (as := [.int 1, .int 6]) (rr := []) (v := none) (T1 := (hC A E N V W ++ g, c)) rfl rfl ⟨⟨by omega, by have : z_pg.2.1 42 = 2 := rfl; omega⟩, (by decide : (0 : Nat) ≤ 8), (by decide +kernel : (2 : Nat) ≤ z_pg.2.1 42)⟩ hRm (s42_1_6 hRm (by omega) (by omega)) ⟨trivial, ⟨(Or.inl (by decide)), trivial, trivial⟩⟩ ?_
  refine z_Ln.blk (pc' := 14) (lv' := [(0, .ref 73), (1, .int 1)]) (st' := [.int 102]) (H' := hC A E N V W ++ g) (C := [((c.1 ≤ 601024 ∧ c.2 ≤ 7293034) ∧ 1 ≤ f ∧ 60 ≤ w), z_in 1 6 = true]) 4 6 rfl ⟨hR0, (by decide : z_in 1 6 = true)⟩ ?_
  exact z_Ln.ret rfl rfl
set_option maxRecDepth 10000 in
theorem s39_16_1 {L : Nat} {xs : Nat → Int32} {fv : Value} {f w : Nat} {c : Nat × Nat} {A : Nat → List (Nat × Int32)} {E : List (Nat × Option Nat)} {N : Nat → Nat} {V : Nat → Nat → Int32} {W : Nat} {g : List z_E}  (hRm : z_Rm (hC A E N V W ++ g, c)) (hf : 3 ≤ f) (hw : 250 ≤ w) : z_Ln L xs fv f w 39 0 [(0, .ref 72), (1, .int 1)] [] (hC A E N V W ++ g, c) (.inl (some (.int 102))) (hC A E N V W ++ g, c) := by
  have hR0 : ((c.1 ≤ 601024 ∧ c.2 ≤ 7293034) ∧ 1 ≤ f ∧ 60 ≤ w) := ⟨hRm, by omega, by omega⟩
  have m40 : z_pg.2.1 40 = 1 := rfl
  have m41 : z_pg.2.1 41 = 2 := rfl
  refine z_Ln.blk (pc' := 1) (lv' := [(0, .ref 72), (1, .int 1)]) (st' := [.ref 72]) (H' := hC A E N V W ++ g) (C := []) 0 1 rfl trivial ?_
  refine z_Ln.call (s := 0) (mj := 40) (as := [.ref 72]) (rr := []) (v := some (.int 1)) (T1 := (hC A E N V W ++ g, c)) rfl rfl ⟨⟨by omega, by have : z_pg.2.1 40 = 1 := rfl; omega⟩, (by decide : (0 : Nat) ≤ 8), (by decide +kernel : (1 : Nat) ≤ z_pg.2.1 40)⟩ hRm (s40_16 hRm (by omega) (by omega)) ⟨trivial, ⟨(Or.inl (by decide)), trivial, trivial⟩⟩ ?_
  refine z_Ln.blk (pc' := (if decide (1 = 0) = true then 16 else 7)) (lv' := [(0, .ref 72), (1, .int 1)]) (st' := []) (H' := hC A E N V W ++ g) (C := []) 2 1 rfl trivial (z_Ln.brF (decide_eq_false (by decide)) ?_)
  refine z_Ln.blk (pc' := 12) (lv' := [(0, .ref 72), (1, .int 1)]) (st' := [.int 1, .ref 73]) (H' := hC A E N V W ++ g) (C := [((c.1 ≤ 601024 ∧ c.2 ≤ 7293034) ∧ 1 ≤ f ∧ 60 ≤ w)]) 3 3 rfl hR0 ?_
  refine z_Ln.call (s := 0) (mj := 41) (as := [.ref 73, .int 1]) (rr := []) (v := some (.int 102)) (T1 := (hC A E N V W ++ g, c)) rfl rfl ⟨⟨by omega, by have : z_pg.2.1 41 = 2 := rfl; omega⟩, (by decide : (0 : Nat) ≤ 8), (by decide +kernel : (2 : Nat) ≤ z_pg.2.1 41)⟩ hRm (s41_16_1 hRm (by omega) (by omega)) ⟨trivial, ⟨(Or.inl (by decide)), trivial, trivial⟩⟩ ?_
  exact z_Ln.ret rfl rfl
set_option maxRecDepth 10000 in
theorem s41_16_2 {L : Nat} {xs : Nat → Int32} {fv : Value} {f w : Nat} {c : Nat × Nat} {A : Nat → List (Nat × Int32)} {E : List (Nat × Option Nat)} {N : Nat → Nat} {V : Nat → Nat → Int32} {W : Nat} {g : List z_E}  (hRm : z_Rm (hC A E N V W ++ g, c)) (hf : 2 ≤ f) (hw : 150 ≤ w) : z_Ln L xs fv f w 41 0 [(0, .ref 73), (1, .int 2)] [] (hC A E N V W ++ g, c) (.inl (some (.int 102))) (hC A E N V W ++ g, c) := by
  have hR0 : ((c.1 ≤ 601024 ∧ c.2 ≤ 7293034) ∧ 1 ≤ f ∧ 60 ≤ w) := ⟨hRm, by omega, by omega⟩
  have m42 : z_pg.2.1 42 = 2 := rfl
  refine z_Ln.blk (pc' := 3) (lv' := [(0, .ref 73), (1, .int 2)]) (st' := [.int 6, .int 2]) (H' := hC A E N V W ++ g) (C := [((c.1 ≤ 601024 ∧ c.2 ≤ 7293034) ∧ 1 ≤ f ∧ 60 ≤ w)]) 0 3 rfl hR0 ?_
  refine z_Ln.call (s := 0) (mj := 42) (as := [.int 2, .int 6]) (rr := []) (v := none) (T1 := (hC A E N V W ++ g, c)) rfl rfl ⟨⟨by omega, by have : z_pg.2.1 42 = 2 := rfl; omega⟩, (by decide : (0 : Nat) ≤ 8), (by decide +kernel : (2 : Nat) ≤ z_pg.2.1 42)⟩ hRm (s42_2_6 hRm (by omega) (by omega)) ⟨trivial, ⟨(Or.inl (by decide)), trivial, trivial⟩⟩ ?_
  refine z_Ln.blk (pc' := 14) (lv' := [(0, .ref 73), (1, .int 2)]) (st' := [.int 102]) (H' := hC A E N V W ++ g) (C := [((c.1 ≤ 601024 ∧ c.2 ≤ 7293034) ∧ 1 ≤ f ∧ 60 ≤ w), z_in 2 6 = true]) 4 6 rfl ⟨hR0, (by decide : z_in 2 6 = true)⟩ ?_
  exact z_Ln.ret rfl rfl
set_option maxRecDepth 10000 in
theorem s39_16_2 {L : Nat} {xs : Nat → Int32} {fv : Value} {f w : Nat} {c : Nat × Nat} {A : Nat → List (Nat × Int32)} {E : List (Nat × Option Nat)} {N : Nat → Nat} {V : Nat → Nat → Int32} {W : Nat} {g : List z_E}  (hRm : z_Rm (hC A E N V W ++ g, c)) (hf : 3 ≤ f) (hw : 250 ≤ w) : z_Ln L xs fv f w 39 0 [(0, .ref 72), (1, .int 2)] [] (hC A E N V W ++ g, c) (.inl (some (.int 102))) (hC A E N V W ++ g, c) := by
  have hR0 : ((c.1 ≤ 601024 ∧ c.2 ≤ 7293034) ∧ 1 ≤ f ∧ 60 ≤ w) := ⟨hRm, by omega, by omega⟩
  have m40 : z_pg.2.1 40 = 1 := rfl
  have m41 : z_pg.2.1 41 = 2 := rfl
  refine z_Ln.blk (pc' := 1) (lv' := [(0, .ref 72), (1, .int 2)]) (st' := [.ref 72]) (H' := hC A E N V W ++ g) (C := []) 0 1 rfl trivial ?_
  refine z_Ln.call (s := 0) (mj := 40) (as := [.ref 72]) (rr := []) (v := some (.int 1)) (T1 := (hC A E N V W ++ g, c)) rfl rfl ⟨⟨by omega, by have : z_pg.2.1 40 = 1 := rfl; omega⟩, (by decide : (0 : Nat) ≤ 8), (by decide +kernel : (1 : Nat) ≤ z_pg.2.1 40)⟩ hRm (s40_16 hRm (by omega) (by omega)) ⟨trivial, ⟨(Or.inl (by decide)), trivial, trivial⟩⟩ ?_
  refine z_Ln.blk (pc' := (if decide (1 = 0) = true then 16 else 7)) (lv' := [(0, .ref 72), (1, .int 2)]) (st' := []) (H' := hC A E N V W ++ g) (C := []) 2 1 rfl trivial (z_Ln.brF (decide_eq_false (by decide)) ?_)
  refine z_Ln.blk (pc' := 12) (lv' := [(0, .ref 72), (1, .int 2)]) (st' := [.int 2, .ref 73]) (H' := hC A E N V W ++ g) (C := [((c.1 ≤ 601024 ∧ c.2 ≤ 7293034) ∧ 1 ≤ f ∧ 60 ≤ w)]) 3 3 rfl hR0 ?_
  refine z_Ln.call (s := 0) (mj := 41) (as := [.ref 73, .int 2]) (rr := []) (v := some (.int 102)) (T1 := (hC A E N V W ++ g, c)) rfl rfl ⟨⟨by omega, by have : z_pg.2.1 41 = 2 := rfl; omega⟩, (by decide : (0 : Nat) ≤ 8), (by decide +kernel : (2 : Nat) ≤ z_pg.2.1 41)⟩ hRm (s41_16_2 hRm (by omega) (by omega)) ⟨trivial, ⟨(Or.inl (by decide)), trivial, trivial⟩⟩ ?_
  exact z_Ln.ret rfl rfl
set_option maxRecDepth 10000 in
theorem s41_16_3 {L : Nat} {xs : Nat → Int32} {fv : Value} {f w : Nat} {c : Nat × Nat} {A : Nat → List (Nat × Int32)} {E : List (Nat × Option Nat)} {N : Nat → Nat} {V : Nat → Nat → Int32} {W : Nat} {g : List z_E}  (hRm : z_Rm (hC A E N V W ++ g, c)) (hf : 2 ≤ f) (hw : 150 ≤ w) : z_Ln L xs fv f w 41 0 [(0, .ref 73), (1, .int 3)] [] (hC A E N V W ++ g, c) (.inl (some (.int 101))) (hC A E N V W ++ g, c) := by
  have hR0 : ((c.1 ≤ 601024 ∧ c.2 ≤ 7293034) ∧ 1 ≤ f ∧ 60 ≤ w) := ⟨hRm, by omega, by omega⟩
  have m42 : z_pg.2.1 42 = 2 := rfl
  refine z_Ln.blk (pc' := 3) (lv' := [(0, .ref 73), (1, .int 3)]) (st' := [.int 6, .int 3]) (H' := hC A E N V W ++ g) (C := [((c.1 ≤ 601024 ∧ c.2 ≤ 7293034) ∧ 1 ≤ f ∧ 60 ≤ w)]) 0 3 rfl hR0 ?_
  refine z_Ln.call (s := 0) (mj := 42) (as := [.int 3, .int 6]) (rr := []) (v := none) (T1 := (hC A E N V W ++ g, c)) rfl rfl ⟨⟨by omega, by have : z_pg.2.1 42 = 2 := rfl; omega⟩, (by decide : (0 : Nat) ≤ 8), (by decide +kernel : (2 : Nat) ≤ z_pg.2.1 42)⟩ hRm (s42_3_6 hRm (by omega) (by omega)) ⟨trivial, ⟨(Or.inl (by decide)), trivial, trivial⟩⟩ ?_
  refine z_Ln.blk (pc' := 14) (lv' := [(0, .ref 73), (1, .int 3)]) (st' := [.int 101]) (H' := hC A E N V W ++ g) (C := [((c.1 ≤ 601024 ∧ c.2 ≤ 7293034) ∧ 1 ≤ f ∧ 60 ≤ w), z_in 3 6 = true]) 4 6 rfl ⟨hR0, (by decide : z_in 3 6 = true)⟩ ?_
  exact z_Ln.ret rfl rfl
set_option maxRecDepth 10000 in
theorem s39_16_3 {L : Nat} {xs : Nat → Int32} {fv : Value} {f w : Nat} {c : Nat × Nat} {A : Nat → List (Nat × Int32)} {E : List (Nat × Option Nat)} {N : Nat → Nat} {V : Nat → Nat → Int32} {W : Nat} {g : List z_E}  (hRm : z_Rm (hC A E N V W ++ g, c)) (hf : 3 ≤ f) (hw : 250 ≤ w) : z_Ln L xs fv f w 39 0 [(0, .ref 72), (1, .int 3)] [] (hC A E N V W ++ g, c) (.inl (some (.int 101))) (hC A E N V W ++ g, c) := by
  have hR0 : ((c.1 ≤ 601024 ∧ c.2 ≤ 7293034) ∧ 1 ≤ f ∧ 60 ≤ w) := ⟨hRm, by omega, by omega⟩
  have m40 : z_pg.2.1 40 = 1 := rfl
  have m41 : z_pg.2.1 41 = 2 := rfl
  refine z_Ln.blk (pc' := 1) (lv' := [(0, .ref 72), (1, .int 3)]) (st' := [.ref 72]) (H' := hC A E N V W ++ g) (C := []) 0 1 rfl trivial ?_
  refine z_Ln.call (s := 0) (mj := 40) (as := [.ref 72]) (rr := []) (v := some (.int 1)) (T1 := (hC A E N V W ++ g, c)) rfl rfl ⟨⟨by omega, by have : z_pg.2.1 40 = 1 := rfl; omega⟩, (by decide : (0 : Nat) ≤ 8), (by decide +kernel : (1 : Nat) ≤ z_pg.2.1 40)⟩ hRm (s40_16 hRm (by omega) (by omega)) ⟨trivial, ⟨(Or.inl (by decide)), trivial, trivial⟩⟩ ?_
  refine z_Ln.blk (pc' := (if decide (1 = 0) = true then 16 else 7)) (lv' := [(0, .ref 72), (1, .int 3)]) (st' := []) (H' := hC A E N V W ++ g) (C := []) 2 1 rfl trivial (z_Ln.brF (decide_eq_false (by decide)) ?_)
  refine z_Ln.blk (pc' := 12) (lv' := [(0, .ref 72), (1, .int 3)]) (st' := [.int 3, .ref 73]) (H' := hC A E N V W ++ g) (C := [((c.1 ≤ 601024 ∧ c.2 ≤ 7293034) ∧ 1 ≤ f ∧ 60 ≤ w)]) 3 3 rfl hR0 ?_
  refine z_Ln.call (s := 0) (mj := 41) (as := [.ref 73, .int 3]) (rr := []) (v := some (.int 101)) (T1 := (hC A E N V W ++ g, c)) rfl rfl ⟨⟨by omega, by have : z_pg.2.1 41 = 2 := rfl; omega⟩, (by decide : (0 : Nat) ≤ 8), (by decide +kernel : (2 : Nat) ≤ z_pg.2.1 41)⟩ hRm (s41_16_3 hRm (by omega) (by omega)) ⟨trivial, ⟨(Or.inl (by decide)), trivial, trivial⟩⟩ ?_
  exact z_Ln.ret rfl rfl
set_option maxRecDepth 10000 in
theorem s41_16_4 {L : Nat} {xs : Nat → Int32} {fv : Value} {f w : Nat} {c : Nat × Nat} {A : Nat → List (Nat × Int32)} {E : List (Nat × Option Nat)} {N : Nat → Nat} {V : Nat → Nat → Int32} {W : Nat} {g : List z_E}  (hRm : z_Rm (hC A E N V W ++ g, c)) (hf : 2 ≤ f) (hw : 150 ≤ w) : z_Ln L xs fv f w 41 0 [(0, .ref 73), (1, .int 4)] [] (hC A E N V W ++ g, c) (.inl (some (.int 99))) (hC A E N V W ++ g, c) := by
  have hR0 : ((c.1 ≤ 601024 ∧ c.2 ≤ 7293034) ∧ 1 ≤ f ∧ 60 ≤ w) := ⟨hRm, by omega, by omega⟩
  have m42 : z_pg.2.1 42 = 2 := rfl
  refine z_Ln.blk (pc' := 3) (lv' := [(0, .ref 73), (1, .int 4)]) (st' := [.int 6, .int 4]) (H' := hC A E N V W ++ g) (C := [((c.1 ≤ 601024 ∧ c.2 ≤ 7293034) ∧ 1 ≤ f ∧ 60 ≤ w)]) 0 3 rfl hR0 ?_
  refine z_Ln.call (s := 0) (mj := 42) (as := [.int 4, .int 6]) (rr := []) (v := none) (T1 := (hC A E N V W ++ g, c)) rfl rfl ⟨⟨by omega, by have : z_pg.2.1 42 = 2 := rfl; omega⟩, (by decide : (0 : Nat) ≤ 8), (by decide +kernel : (2 : Nat) ≤ z_pg.2.1 42)⟩ hRm (s42_4_6 hRm (by omega) (by omega)) ⟨trivial, ⟨(Or.inl (by decide)), trivial, trivial⟩⟩ ?_
  refine z_Ln.blk (pc' := 14) (lv' := [(0, .ref 73), (1, .int 4)]) (st' := [.int 99]) (H' := hC A E N V W ++ g) (C := [((c.1 ≤ 601024 ∧ c.2 ≤ 7293034) ∧ 1 ≤ f ∧ 60 ≤ w), z_in 4 6 = true]) 4 6 rfl ⟨hR0, (by decide : z_in 4 6 = true)⟩ ?_
  exact z_Ln.ret rfl rfl
set_option maxRecDepth 10000 in
theorem s39_16_4 {L : Nat} {xs : Nat → Int32} {fv : Value} {f w : Nat} {c : Nat × Nat} {A : Nat → List (Nat × Int32)} {E : List (Nat × Option Nat)} {N : Nat → Nat} {V : Nat → Nat → Int32} {W : Nat} {g : List z_E}  (hRm : z_Rm (hC A E N V W ++ g, c)) (hf : 3 ≤ f) (hw : 250 ≤ w) : z_Ln L xs fv f w 39 0 [(0, .ref 72), (1, .int 4)] [] (hC A E N V W ++ g, c) (.inl (some (.int 99))) (hC A E N V W ++ g, c) := by
  have hR0 : ((c.1 ≤ 601024 ∧ c.2 ≤ 7293034) ∧ 1 ≤ f ∧ 60 ≤ w) := ⟨hRm, by omega, by omega⟩
  have m40 : z_pg.2.1 40 = 1 := rfl
  have m41 : z_pg.2.1 41 = 2 := rfl
  refine z_Ln.blk (pc' := 1) (lv' := [(0, .ref 72), (1, .int 4)]) (st' := [.ref 72]) (H' := hC A E N V W ++ g) (C := []) 0 1 rfl trivial ?_
  refine z_Ln.call (s := 0) (mj := 40) (as := [.ref 72]) (rr := []) (v := some (.int 1)) (T1 := (hC A E N V W ++ g, c)) rfl rfl ⟨⟨by omega, by have : z_pg.2.1 40 = 1 := rfl; omega⟩, (by decide : (0 : Nat) ≤ 8), (by decide +kernel : (1 : Nat) ≤ z_pg.2.1 40)⟩ hRm (s40_16 hRm (by omega) (by omega)) ⟨trivial, ⟨(Or.inl (by decide)), trivial, trivial⟩⟩ ?_
  refine z_Ln.blk (pc' := (if decide (1 = 0) = true then 16 else 7)) (lv' := [(0, .ref 72), (1, .int 4)]) (st' := []) (H' := hC A E N V W ++ g) (C := []) 2 1 rfl trivial (z_Ln.brF (decide_eq_false (by decide)) ?_)
  refine z_Ln.blk (pc' := 12) (lv' := [(0, .ref 72), (1, .int 4)]) (st' := [.int 4, .ref 73]) (H' := hC A E N V W ++ g) (C := [((c.1 ≤ 601024 ∧ c.2 ≤ 7293034) ∧ 1 ≤ f ∧ 60 ≤ w)]) 3 3 rfl hR0 ?_
  refine z_Ln.call (s := 0) (mj := 41) (as := [.ref 73, .int 4]) (rr := []) (v := some (.int 99)) (T1 := (hC A E N V W ++ g, c)) rfl rfl ⟨⟨by omega, by have : z_pg.2.1 41 = 2 := rfl; omega⟩, (by decide : (0 : Nat) ≤ 8), (by decide +kernel : (2 : Nat) ≤ z_pg.2.1 41)⟩ hRm (s41_16_4 hRm (by omega) (by omega)) ⟨trivial, ⟨(Or.inl (by decide)), trivial, trivial⟩⟩ ?_
  exact z_Ln.ret rfl rfl
set_option maxRecDepth 10000 in
theorem s41_16_5 {L : Nat} {xs : Nat → Int32} {fv : Value} {f w : Nat} {c : Nat × Nat} {A : Nat → List (Nat × Int32)} {E : List (Nat × Option Nat)} {N : Nat → Nat} {V : Nat → Nat → Int32} {W : Nat} {g : List z_E}  (hRm : z_Rm (hC A E N V W ++ g, c)) (hf : 2 ≤ f) (hw : 150 ≤ w) : z_Ln L xs fv f w 41 0 [(0, .ref 73), (1, .int 5)] [] (hC A E N V W ++ g, c) (.inl (some (.int 116))) (hC A E N V W ++ g, c) := by
  have hR0 : ((c.1 ≤ 601024 ∧ c.2 ≤ 7293034) ∧ 1 ≤ f ∧ 60 ≤ w) := ⟨hRm, by omega, by omega⟩
  have m42 : z_pg.2.1 42 = 2 := rfl
  refine z_Ln.blk (pc' := 3) (lv' := [(0, .ref 73), (1, .int 5)]) (st' := [.int 6, .int 5]) (H' := hC A E N V W ++ g) (C := [((c.1 ≤ 601024 ∧ c.2 ≤ 7293034) ∧ 1 ≤ f ∧ 60 ≤ w)]) 0 3 rfl hR0 ?_
  refine z_Ln.call (s := 0) (mj := 42) (as := [.int 5, .int 6]) (rr := []) (v := none) (T1 := (hC A E N V W ++ g, c)) rfl rfl ⟨⟨by omega, by have : z_pg.2.1 42 = 2 := rfl; omega⟩, (by decide : (0 : Nat) ≤ 8), (by decide +kernel : (2 : Nat) ≤ z_pg.2.1 42)⟩ hRm (s42_5_6 hRm (by omega) (by omega)) ⟨trivial, ⟨(Or.inl (by decide)), trivial, trivial⟩⟩ ?_
  refine z_Ln.blk (pc' := 14) (lv' := [(0, .ref 73), (1, .int 5)]) (st' := [.int 116]) (H' := hC A E N V W ++ g) (C := [((c.1 ≤ 601024 ∧ c.2 ≤ 7293034) ∧ 1 ≤ f ∧ 60 ≤ w), z_in 5 6 = true]) 4 6 rfl ⟨hR0, (by decide : z_in 5 6 = true)⟩ ?_
  exact z_Ln.ret rfl rfl
set_option maxRecDepth 10000 in
theorem s39_16_5 {L : Nat} {xs : Nat → Int32} {fv : Value} {f w : Nat} {c : Nat × Nat} {A : Nat → List (Nat × Int32)} {E : List (Nat × Option Nat)} {N : Nat → Nat} {V : Nat → Nat → Int32} {W : Nat} {g : List z_E}  (hRm : z_Rm (hC A E N V W ++ g, c)) (hf : 3 ≤ f) (hw : 250 ≤ w) : z_Ln L xs fv f w 39 0 [(0, .ref 72), (1, .int 5)] [] (hC A E N V W ++ g, c) (.inl (some (.int 116))) (hC A E N V W ++ g, c) := by
  have hR0 : ((c.1 ≤ 601024 ∧ c.2 ≤ 7293034) ∧ 1 ≤ f ∧ 60 ≤ w) := ⟨hRm, by omega, by omega⟩
  have m40 : z_pg.2.1 40 = 1 := rfl
  have m41 : z_pg.2.1 41 = 2 := rfl
  refine z_Ln.blk (pc' := 1) (lv' := [(0, .ref 72), (1, .int 5)]) (st' := [.ref 72]) (H' := hC A E N V W ++ g) (C := []) 0 1 rfl trivial ?_
  refine z_Ln.call (s := 0) (mj := 40) (as := [.ref 72]) (rr := []) (v := some (.int 1)) (T1 := (hC A E N V W ++ g, c)) rfl rfl ⟨⟨by omega, by have : z_pg.2.1 40 = 1 := rfl; omega⟩, (by decide : (0 : Nat) ≤ 8), (by decide +kernel : (1 : Nat) ≤ z_pg.2.1 40)⟩ hRm (s40_16 hRm (by omega) (by omega)) ⟨trivial, ⟨(Or.inl (by decide)), trivial, trivial⟩⟩ ?_
  refine z_Ln.blk (pc' := (if decide (1 = 0) = true then 16 else 7)) (lv' := [(0, .ref 72), (1, .int 5)]) (st' := []) (H' := hC A E N V W ++ g) (C := []) 2 1 rfl trivial (z_Ln.brF (decide_eq_false (by decide)) ?_)
  refine z_Ln.blk (pc' := 12) (lv' := [(0, .ref 72), (1, .int 5)]) (st' := [.int 5, .ref 73]) (H' := hC A E N V W ++ g) (C := [((c.1 ≤ 601024 ∧ c.2 ≤ 7293034) ∧ 1 ≤ f ∧ 60 ≤ w)]) 3 3 rfl hR0 ?_
  refine z_Ln.call (s := 0) (mj := 41) (as := [.ref 73, .int 5]) (rr := []) (v := some (.int 116)) (T1 := (hC A E N V W ++ g, c)) rfl rfl ⟨⟨by omega, by have : z_pg.2.1 41 = 2 := rfl; omega⟩, (by decide : (0 : Nat) ≤ 8), (by decide +kernel : (2 : Nat) ≤ z_pg.2.1 41)⟩ hRm (s41_16_5 hRm (by omega) (by omega)) ⟨trivial, ⟨(Or.inl (by decide)), trivial, trivial⟩⟩ ?_
  exact z_Ln.ret rfl rfl
set_option maxRecDepth 10000 in
theorem s41_17_0 {L : Nat} {xs : Nat → Int32} {fv : Value} {f w : Nat} {c : Nat × Nat} {A : Nat → List (Nat × Int32)} {E : List (Nat × Option Nat)} {N : Nat → Nat} {V : Nat → Nat → Int32} {W : Nat} {g : List z_E}  (hRm : z_Rm (hC A E N V W ++ g, c)) (hf : 2 ≤ f) (hw : 150 ≤ w) : z_Ln L xs fv f w 41 0 [(0, .ref 75), (1, .int 0)] [] (hC A E N V W ++ g, c) (.inl (some (.int 108))) (hC A E N V W ++ g, c) := by
  have hR0 : ((c.1 ≤ 601024 ∧ c.2 ≤ 7293034) ∧ 1 ≤ f ∧ 60 ≤ w) := ⟨hRm, by omega, by omega⟩
  have m42 : z_pg.2.1 42 = 2 := rfl
  refine z_Ln.blk (pc' := 3) (lv' := [(0, .ref 75), (1, .int 0)]) (st' := [.int 3, .int 0]) (H' := hC A E N V W ++ g) (C := [((c.1 ≤ 601024 ∧ c.2 ≤ 7293034) ∧ 1 ≤ f ∧ 60 ≤ w)]) 0 3 rfl hR0 ?_
  refine z_Ln.call (s := 0) (mj := 42) (as := [.int 0, .int 3]) (rr := []) (v := none) (T1 := (hC A E N V W ++ g, c)) rfl rfl ⟨⟨by omega, by have : z_pg.2.1 42 = 2 := rfl; omega⟩, (by decide : (0 : Nat) ≤ 8), (by decide +kernel : (2 : Nat) ≤ z_pg.2.1 42)⟩ hRm (s42_0_3 hRm (by omega) (by omega)) ⟨trivial, ⟨(Or.inl (by decide)), trivial, trivial⟩⟩ ?_
  refine z_Ln.blk (pc' := 14) (lv' := [(0, .ref 75), (1, .int 0)]) (st' := [.int 108]) (H' := hC A E N V W ++ g) (C := [((c.1 ≤ 601024 ∧ c.2 ≤ 7293034) ∧ 1 ≤ f ∧ 60 ≤ w), z_in 0 3 = true]) 4 6 rfl ⟨hR0, (by decide : z_in 0 3 = true)⟩ ?_
  exact z_Ln.ret rfl rfl
set_option maxRecDepth 10000 in
theorem s39_17_0 {L : Nat} {xs : Nat → Int32} {fv : Value} {f w : Nat} {c : Nat × Nat} {A : Nat → List (Nat × Int32)} {E : List (Nat × Option Nat)} {N : Nat → Nat} {V : Nat → Nat → Int32} {W : Nat} {g : List z_E}  (hRm : z_Rm (hC A E N V W ++ g, c)) (hf : 3 ≤ f) (hw : 250 ≤ w) : z_Ln L xs fv f w 39 0 [(0, .ref 74), (1, .int 0)] [] (hC A E N V W ++ g, c) (.inl (some (.int 108))) (hC A E N V W ++ g, c) := by
  have hR0 : ((c.1 ≤ 601024 ∧ c.2 ≤ 7293034) ∧ 1 ≤ f ∧ 60 ≤ w) := ⟨hRm, by omega, by omega⟩
  have m40 : z_pg.2.1 40 = 1 := rfl
  have m41 : z_pg.2.1 41 = 2 := rfl
  refine z_Ln.blk (pc' := 1) (lv' := [(0, .ref 74), (1, .int 0)]) (st' := [.ref 74]) (H' := hC A E N V W ++ g) (C := []) 0 1 rfl trivial ?_
  refine z_Ln.call (s := 0) (mj := 40) (as := [.ref 74]) (rr := []) (v := some (.int 1)) (T1 := (hC A E N V W ++ g, c)) rfl rfl ⟨⟨by omega, by have : z_pg.2.1 40 = 1 := rfl; omega⟩, (by decide : (0 : Nat) ≤ 8), (by decide +kernel : (1 : Nat) ≤ z_pg.2.1 40)⟩ hRm (s40_17 hRm (by omega) (by omega)) ⟨trivial, ⟨(Or.inl (by decide)), trivial, trivial⟩⟩ ?_
  refine z_Ln.blk (pc' := (if decide (1 = 0) = true then 16 else 7)) (lv' := [(0, .ref 74), (1, .int 0)]) (st' := []) (H' := hC A E N V W ++ g) (C := []) 2 1 rfl trivial (z_Ln.brF (decide_eq_false (by decide)) ?_)
  refine z_Ln.blk (pc' := 12) (lv' := [(0, .ref 74), (1, .int 0)]) (st' := [.int 0, .ref 75]) (H' := hC A E N V W ++ g) (C := [((c.1 ≤ 601024 ∧ c.2 ≤ 7293034) ∧ 1 ≤ f ∧ 60 ≤ w)]) 3 3 rfl hR0 ?_
  refine z_Ln.call (s := 0) (mj := 41) (as := [.ref 75, .int 0]) (rr := []) (v := some (.int 108)) (T1 := (hC A E N V W ++ g, c)) rfl rfl ⟨⟨by omega, by have : z_pg.2.1 41 = 2 := rfl; omega⟩, (by decide : (0 : Nat) ≤ 8), (by decide +kernel : (2 : Nat) ≤ z_pg.2.1 41)⟩ hRm (s41_17_0 hRm (by omega) (by omega)) ⟨trivial, ⟨(Or.inl (by decide)), trivial, trivial⟩⟩ ?_
  exact z_Ln.ret rfl rfl
set_option maxRecDepth 10000 in
theorem s41_17_1 {L : Nat} {xs : Nat → Int32} {fv : Value} {f w : Nat} {c : Nat × Nat} {A : Nat → List (Nat × Int32)} {E : List (Nat × Option Nat)} {N : Nat → Nat} {V : Nat → Nat → Int32} {W : Nat} {g : List z_E}  (hRm : z_Rm (hC A E N V W ++ g, c)) (hf : 2 ≤ f) (hw : 150 ≤ w) : z_Ln L xs fv f w 41 0 [(0, .ref 75), (1, .int 1)] [] (hC A E N V W ++ g, c) (.inl (some (.int 101))) (hC A E N V W ++ g, c) := by
  have hR0 : ((c.1 ≤ 601024 ∧ c.2 ≤ 7293034) ∧ 1 ≤ f ∧ 60 ≤ w) := ⟨hRm, by omega, by omega⟩
  have m42 : z_pg.2.1 42 = 2 := rfl
  refine z_Ln.blk (pc' := 3) (lv' := [(0, .ref 75), (1, .int 1)]) (st' := [.int 3, .int 1]) (H' := hC A E N V W ++ g) (C := [((c.1 ≤ 601024 ∧ c.2 ≤ 7293034) ∧ 1 ≤ f ∧ 60 ≤ w)]) 0 3 rfl hR0 ?_
  refine z_Ln.call (s := 0) (mj := 42) (as := [.int 1, .int 3]) (rr := []) (v := none) (T1 := (hC A E N V W ++ g, c)) rfl rfl ⟨⟨by omega, by have : z_pg.2.1 42 = 2 := rfl; omega⟩, (by decide : (0 : Nat) ≤ 8), (by decide +kernel : (2 : Nat) ≤ z_pg.2.1 42)⟩ hRm (s42_1_3 hRm (by omega) (by omega)) ⟨trivial, ⟨(Or.inl (by decide)), trivial, trivial⟩⟩ ?_
  refine z_Ln.blk (pc' := 14) (lv' := [(0, .ref 75), (1, .int 1)]) (st' := [.int 101]) (H' := hC A E N V W ++ g) (C := [((c.1 ≤ 601024 ∧ c.2 ≤ 7293034) ∧ 1 ≤ f ∧ 60 ≤ w), z_in 1 3 = true]) 4 6 rfl ⟨hR0, (by decide : z_in 1 3 = true)⟩ ?_
  exact z_Ln.ret rfl rfl
set_option maxRecDepth 10000 in
theorem s39_17_1 {L : Nat} {xs : Nat → Int32} {fv : Value} {f w : Nat} {c : Nat × Nat} {A : Nat → List (Nat × Int32)} {E : List (Nat × Option Nat)} {N : Nat → Nat} {V : Nat → Nat → Int32} {W : Nat} {g : List z_E}  (hRm : z_Rm (hC A E N V W ++ g, c)) (hf : 3 ≤ f) (hw : 250 ≤ w) : z_Ln L xs fv f w 39 0 [(0, .ref 74), (1, .int 1)] [] (hC A E N V W ++ g, c) (.inl (some (.int 101))) (hC A E N V W ++ g, c) := by
  have hR0 : ((c.1 ≤ 601024 ∧ c.2 ≤ 7293034) ∧ 1 ≤ f ∧ 60 ≤ w) := ⟨hRm, by omega, by omega⟩
  have m40 : z_pg.2.1 40 = 1 := rfl
  have m41 : z_pg.2.1 41 = 2 := rfl
  refine z_Ln.blk (pc' := 1) (lv' := [(0, .ref 74), (1, .int 1)]) (st' := [.ref 74]) (H' := hC A E N V W ++ g) (C := []) 0 1 rfl trivial ?_
  refine z_Ln.call (s := 0) (mj := 40) (as := [.ref 74]) (rr := []) (v := some (.int 1)) (T1 := (hC A E N V W ++ g, c)) rfl rfl ⟨⟨by omega, by have : z_pg.2.1 40 = 1 := rfl; omega⟩, (by decide : (0 : Nat) ≤ 8), (by decide +kernel : (1 : Nat) ≤ z_pg.2.1 40)⟩ hRm (s40_17 hRm (by omega) (by omega)) ⟨trivial, ⟨(Or.inl (by decide)), trivial, trivial⟩⟩ ?_
  refine z_Ln.blk (pc' := (if decide (1 = 0) = true then 16 else 7)) (lv' := [(0, .ref 74), (1, .int 1)]) (st' := []) (H' := hC A E N V W ++ g) (C := []) 2 1 rfl trivial (z_Ln.brF (decide_eq_false (by decide)) ?_)
  refine z_Ln.blk (pc' := 12) (lv' := [(0, .ref 74), (1, .int 1)]) (st' := [.int 1, .ref 75]) (H' := hC A E N V W ++ g) (C := [((c.1 ≤ 601024 ∧ c.2 ≤ 7293034) ∧ 1 ≤ f ∧ 60 ≤ w)]) 3 3 rfl hR0 ?_
  refine z_Ln.call (s := 0) (mj := 41) (as := [.ref 75, .int 1]) (rr := []) (v := some (.int 101)) (T1 := (hC A E N V W ++ g, c)) rfl rfl ⟨⟨by omega, by have : z_pg.2.1 41 = 2 := rfl; omega⟩, (by decide : (0 : Nat) ≤ 8), (by decide +kernel : (2 : Nat) ≤ z_pg.2.1 41)⟩ hRm (s41_17_1 hRm (by omega) (by omega)) ⟨trivial, ⟨(Or.inl (by decide)), trivial, trivial⟩⟩ ?_
  exact z_Ln.ret rfl rfl
set_option maxRecDepth 10000 in
theorem s41_17_2 {L : Nat} {xs : Nat → Int32} {fv : Value} {f w : Nat} {c : Nat × Nat} {A : Nat → List (Nat × Int32)} {E : List (Nat × Option Nat)} {N : Nat → Nat} {V : Nat → Nat → Int32} {W : Nat} {g : List z_E}  (hRm : z_Rm (hC A E N V W ++ g, c)) (hf : 2 ≤ f) (hw : 150 ≤ w) : z_Ln L xs fv f w 41 0 [(0, .ref 75), (1, .int 2)] [] (hC A E N V W ++ g, c) (.inl (some (.int 116))) (hC A E N V W ++ g, c) := by
  have hR0 : ((c.1 ≤ 601024 ∧ c.2 ≤ 7293034) ∧ 1 ≤ f ∧ 60 ≤ w) := ⟨hRm, by omega, by omega⟩
  have m42 : z_pg.2.1 42 = 2 := rfl
  refine z_Ln.blk (pc' := 3) (lv' := [(0, .ref 75), (1, .int 2)]) (st' := [.int 3, .int 2]) (H' := hC A E N V W ++ g) (C := [((c.1 ≤ 601024 ∧ c.2 ≤ 7293034) ∧ 1 ≤ f ∧ 60 ≤ w)]) 0 3 rfl hR0 ?_
  refine z_Ln.call (s := 0) (mj := 42) (as := [.int 2, .int 3]) (rr := []) (v := none) (T1 := (hC A E N V W ++ g, c)) rfl rfl ⟨⟨by omega, by have : z_pg.2.1 42 = 2 := rfl; omega⟩, (by decide : (0 : Nat) ≤ 8), (by decide +kernel : (2 : Nat) ≤ z_pg.2.1 42)⟩ hRm (s42_2_3 hRm (by omega) (by omega)) ⟨trivial, ⟨(Or.inl (by decide)), trivial, trivial⟩⟩ ?_
  refine z_Ln.blk (pc' := 14) (lv' := [(0, .ref 75), (1, .int 2)]) (st' := [.int 116]) (H' := hC A E N V W ++ g) (C := [((c.1 ≤ 601024 ∧ c.2 ≤ 7293034) ∧ 1 ≤ f ∧ 60 ≤ w), z_in 2 3 = true]) 4 6 rfl ⟨hR0, (by decide : z_in 2 3 = true)⟩ ?_
  exact z_Ln.ret rfl rfl
set_option maxRecDepth 10000 in
theorem s39_17_2 {L : Nat} {xs : Nat → Int32} {fv : Value} {f w : Nat} {c : Nat × Nat} {A : Nat → List (Nat × Int32)} {E : List (Nat × Option Nat)} {N : Nat → Nat} {V : Nat → Nat → Int32} {W : Nat} {g : List z_E}  (hRm : z_Rm (hC A E N V W ++ g, c)) (hf : 3 ≤ f) (hw : 250 ≤ w) : z_Ln L xs fv f w 39 0 [(0, .ref 74), (1, .int 2)] [] (hC A E N V W ++ g, c) (.inl (some (.int 116))) (hC A E N V W ++ g, c) := by
  have hR0 : ((c.1 ≤ 601024 ∧ c.2 ≤ 7293034) ∧ 1 ≤ f ∧ 60 ≤ w) := ⟨hRm, by omega, by omega⟩
  have m40 : z_pg.2.1 40 = 1 := rfl
  have m41 : z_pg.2.1 41 = 2 := rfl
  refine z_Ln.blk (pc' := 1) (lv' := [(0, .ref 74), (1, .int 2)]) (st' := [.ref 74]) (H' := hC A E N V W ++ g) (C := []) 0 1 rfl trivial ?_
  refine z_Ln.call (s := 0) (mj := 40) (as := [.ref 74]) (rr := []) (v := some (.int 1)) (T1 := (hC A E N V W ++ g, c)) rfl rfl ⟨⟨by omega, by have : z_pg.2.1 40 = 1 := rfl; omega⟩, (by decide : (0 : Nat) ≤ 8), (by decide +kernel : (1 : Nat) ≤ z_pg.2.1 40)⟩ hRm (s40_17 hRm (by omega) (by omega)) ⟨trivial, ⟨(Or.inl (by decide)), trivial, trivial⟩⟩ ?_
  refine z_Ln.blk (pc' := (if decide (1 = 0) = true then 16 else 7)) (lv' := [(0, .ref 74), (1, .int 2)]) (st' := []) (H' := hC A E N V W ++ g) (C := []) 2 1 rfl trivial (z_Ln.brF (decide_eq_false (by decide)) ?_)
  refine z_Ln.blk (pc' := 12) (lv' := [(0, .ref 74), (1, .int 2)]) (st' := [.int 2, .ref 75]) (H' := hC A E N V W ++ g) (C := [((c.1 ≤ 601024 ∧ c.2 ≤ 7293034) ∧ 1 ≤ f ∧ 60 ≤ w)]) 3 3 rfl hR0 ?_
  refine z_Ln.call (s := 0) (mj := 41) (as := [.ref 75, .int 2]) (rr := []) (v := some (.int 116)) (T1 := (hC A E N V W ++ g, c)) rfl rfl ⟨⟨by omega, by have : z_pg.2.1 41 = 2 := rfl; omega⟩, (by decide : (0 : Nat) ≤ 8), (by decide +kernel : (2 : Nat) ≤ z_pg.2.1 41)⟩ hRm (s41_17_2 hRm (by omega) (by omega)) ⟨trivial, ⟨(Or.inl (by decide)), trivial, trivial⟩⟩ ?_
  exact z_Ln.ret rfl rfl
set_option maxRecDepth 10000 in
theorem s41_18_0 {L : Nat} {xs : Nat → Int32} {fv : Value} {f w : Nat} {c : Nat × Nat} {A : Nat → List (Nat × Int32)} {E : List (Nat × Option Nat)} {N : Nat → Nat} {V : Nat → Nat → Int32} {W : Nat} {g : List z_E}  (hRm : z_Rm (hC A E N V W ++ g, c)) (hf : 2 ≤ f) (hw : 150 ≤ w) : z_Ln L xs fv f w 41 0 [(0, .ref 77), (1, .int 0)] [] (hC A E N V W ++ g, c) (.inl (some (.int 114))) (hC A E N V W ++ g, c) := by
  have hR0 : ((c.1 ≤ 601024 ∧ c.2 ≤ 7293034) ∧ 1 ≤ f ∧ 60 ≤ w) := ⟨hRm, by omega, by omega⟩
  have m42 : z_pg.2.1 42 = 2 := rfl
  refine z_Ln.blk (pc' := 3) (lv' := [(0, .ref 77), (1, .int 0)]) (st' := [.int 3, .int 0]) (H' := hC A E N V W ++ g) (C := [((c.1 ≤ 601024 ∧ c.2 ≤ 7293034) ∧ 1 ≤ f ∧ 60 ≤ w)]) 0 3 rfl hR0 ?_
  refine z_Ln.call (s := 0) (mj := 42) (as := [.int 0, .int 3]) (rr := []) (v := none) (T1 := (hC A E N V W ++ g, c)) rfl rfl ⟨⟨by omega, by have : z_pg.2.1 42 = 2 := rfl; omega⟩, (by decide : (0 : Nat) ≤ 8), (by decide +kernel : (2 : Nat) ≤ z_pg.2.1 42)⟩ hRm (s42_0_3 hRm (by omega) (by omega)) ⟨trivial, ⟨(Or.inl (by decide)), trivial, trivial⟩⟩ ?_
  refine z_Ln.blk (pc' := 14) (lv' := [(0, .ref 77), (1, .int 0)]) (st' := [.int 114]) (H' := hC A E N V W ++ g) (C := [((c.1 ≤ 601024 ∧ c.2 ≤ 7293034) ∧ 1 ≤ f ∧ 60 ≤ w), z_in 0 3 = true]) 4 6 rfl ⟨hR0, (by decide : z_in 0 3 = true)⟩ ?_
  exact z_Ln.ret rfl rfl
set_option maxRecDepth 10000 in
theorem s39_18_0 {L : Nat} {xs : Nat → Int32} {fv : Value} {f w : Nat} {c : Nat × Nat} {A : Nat → List (Nat × Int32)} {E : List (Nat × Option Nat)} {N : Nat → Nat} {V : Nat → Nat → Int32} {W : Nat} {g : List z_E}  (hRm : z_Rm (hC A E N V W ++ g, c)) (hf : 3 ≤ f) (hw : 250 ≤ w) : z_Ln L xs fv f w 39 0 [(0, .ref 76), (1, .int 0)] [] (hC A E N V W ++ g, c) (.inl (some (.int 114))) (hC A E N V W ++ g, c) := by
  have hR0 : ((c.1 ≤ 601024 ∧ c.2 ≤ 7293034) ∧ 1 ≤ f ∧ 60 ≤ w) := ⟨hRm, by omega, by omega⟩
  have m40 : z_pg.2.1 40 = 1 := rfl
  have m41 : z_pg.2.1 41 = 2 := rfl
  refine z_Ln.blk (pc' := 1) (lv' := [(0, .ref 76), (1, .int 0)]) (st' := [.ref 76]) (H' := hC A E N V W ++ g) (C := []) 0 1 rfl trivial ?_
  refine z_Ln.call (s := 0) (mj := 40) (as := [.ref 76]) (rr := []) (v := some (.int 1)) (T1 := (hC A E N V W ++ g, c)) rfl rfl ⟨⟨by omega, by have : z_pg.2.1 40 = 1 := rfl; omega⟩, (by decide : (0 : Nat) ≤ 8), (by decide +kernel : (1 : Nat) ≤ z_pg.2.1 40)⟩ hRm (s40_18 hRm (by omega) (by omega)) ⟨trivial, ⟨(Or.inl (by decide)), trivial, trivial⟩⟩ ?_
  refine z_Ln.blk (pc' := (if decide (1 = 0) = true then 16 else 7)) (lv' := [(0, .ref 76), (1, .int 0)]) (st' := []) (H' := hC A E N V W ++ g) (C := []) 2 1 rfl trivial (z_Ln.brF (decide_eq_false (by decide)) ?_)
  refine z_Ln.blk (pc' := 12) (lv' := [(0, .ref 76), (1, .int 0)]) (st' := [.int 0, .ref 77]) (H' := hC A E N V W ++ g) (C := [((c.1 ≤ 601024 ∧ c.2 ≤ 7293034) ∧ 1 ≤ f ∧ 60 ≤ w)]) 3 3 rfl hR0 ?_
  refine z_Ln.call (s := 0) (mj := 41) (as := [.ref 77, .int 0]) (rr := []) (v := some (.int 114)) (T1 := (hC A E N V W ++ g, c)) rfl rfl ⟨⟨by omega, by have : z_pg.2.1 41 = 2 := rfl; omega⟩, (by decide : (0 : Nat) ≤ 8), (by decide +kernel : (2 : Nat) ≤ z_pg.2.1 41)⟩ hRm (s41_18_0 hRm (by omega) (by omega)) ⟨trivial, ⟨(Or.inl (by decide)), trivial, trivial⟩⟩ ?_
  exact z_Ln.ret rfl rfl
set_option maxRecDepth 10000 in
theorem s41_18_1 {L : Nat} {xs : Nat → Int32} {fv : Value} {f w : Nat} {c : Nat × Nat} {A : Nat → List (Nat × Int32)} {E : List (Nat × Option Nat)} {N : Nat → Nat} {V : Nat → Nat → Int32} {W : Nat} {g : List z_E}  (hRm : z_Rm (hC A E N V W ++ g, c)) (hf : 2 ≤ f) (hw : 150 ≤ w) : z_Ln L xs fv f w 41 0 [(0, .ref 77), (1, .int 1)] [] (hC A E N V W ++ g, c) (.inl (some (.int 101))) (hC A E N V W ++ g, c) := by
  have hR0 : ((c.1 ≤ 601024 ∧ c.2 ≤ 7293034) ∧ 1 ≤ f ∧ 60 ≤ w) := ⟨hRm, by omega, by omega⟩
  have m42 : z_pg.2.1 42 = 2 := rfl
  refine z_Ln.blk (pc' := 3) (lv' := [(0, .ref 77), (1, .int 1)]) (st' := [.int 3, .int 1]) (H' := hC A E N V W ++ g) (C := [((c.1 ≤ 601024 ∧ c.2 ≤ 7293034) ∧ 1 ≤ f ∧ 60 ≤ w)]) 0 3 rfl hR0 ?_
  refine z_Ln.call (s := 0) (mj := 42) (as := [.int 1, .int 3]) (rr := []) (v := none) (T1 := (hC A E N V W ++ g, c)) rfl rfl ⟨⟨by omega, by have : z_pg.2.1 42 = 2 := rfl; omega⟩, (by decide : (0 : Nat) ≤ 8), (by decide +kernel : (2 : Nat) ≤ z_pg.2.1 42)⟩ hRm (s42_1_3 hRm (by omega) (by omega)) ⟨trivial, ⟨(Or.inl (by decide)), trivial, trivial⟩⟩ ?_
  refine z_Ln.blk (pc' := 14) (lv' := [(0, .ref 77), (1, .int 1)]) (st' := [.int 101]) (H' := hC A E N V W ++ g) (C := [((c.1 ≤ 601024 ∧ c.2 ≤ 7293034) ∧ 1 ≤ f ∧ 60 ≤ w), z_in 1 3 = true]) 4 6 rfl ⟨hR0, (by decide : z_in 1 3 = true)⟩ ?_
  exact z_Ln.ret rfl rfl
set_option maxRecDepth 10000 in
theorem s39_18_1 {L : Nat} {xs : Nat → Int32} {fv : Value} {f w : Nat} {c : Nat × Nat} {A : Nat → List (Nat × Int32)} {E : List (Nat × Option Nat)} {N : Nat → Nat} {V : Nat → Nat → Int32} {W : Nat} {g : List z_E}  (hRm : z_Rm (hC A E N V W ++ g, c)) (hf : 3 ≤ f) (hw : 250 ≤ w) : z_Ln L xs fv f w 39 0 [(0, .ref 76), (1, .int 1)] [] (hC A E N V W ++ g, c) (.inl (some (.int 101))) (hC A E N V W ++ g, c) := by
  have hR0 : ((c.1 ≤ 601024 ∧ c.2 ≤ 7293034) ∧ 1 ≤ f ∧ 60 ≤ w) := ⟨hRm, by omega, by omega⟩
  have m40 : z_pg.2.1 40 = 1 := rfl
  have m41 : z_pg.2.1 41 = 2 := rfl
  refine z_Ln.blk (pc' := 1) (lv' := [(0, .ref 76), (1, .int 1)]) (st' := [.ref 76]) (H' := hC A E N V W ++ g) (C := []) 0 1 rfl trivial ?_
  refine z_Ln.call (s := 0) (mj := 40) (as := [.ref 76]) (rr := []) (v := some (.int 1)) (T1 := (hC A E N V W ++ g, c)) rfl rfl ⟨⟨by omega, by have : z_pg.2.1 40 = 1 := rfl; omega⟩, (by decide : (0 : Nat) ≤ 8), (by decide +kernel : (1 : Nat) ≤ z_pg.2.1 40)⟩ hRm (s40_18 hRm (by omega) (by omega)) ⟨trivial, ⟨(Or.inl (by decide)), trivial, trivial⟩⟩ ?_
  refine z_Ln.blk (pc' := (if decide (1 = 0) = true then 16 else 7)) (lv' := [(0, .ref 76), (1, .int 1)]) (st' := []) (H' := hC A E N V W ++ g) (C := []) 2 1 rfl trivial (z_Ln.brF (decide_eq_false (by decide)) ?_)
  refine z_Ln.blk (pc' := 12) (lv' := [(0, .ref 76), (1, .int 1)]) (st' := [.int 1, .ref 77]) (H' := hC A E N V W ++ g) (C := [((c.1 ≤ 601024 ∧ c.2 ≤ 7293034) ∧ 1 ≤ f ∧ 60 ≤ w)]) 3 3 rfl hR0 ?_
  refine z_Ln.call (s := 0) (mj := 41) (as := [.ref 77, .int 1]) (rr := []) (v := some (.int 101)) (T1 := (hC A E N V W ++ g, c)) rfl rfl ⟨⟨by omega, by have : z_pg.2.1 41 = 2 := rfl; omega⟩, (by decide : (0 : Nat) ≤ 8), (by decide +kernel : (2 : Nat) ≤ z_pg.2.1 41)⟩ hRm (s41_18_1 hRm (by omega) (by omega)) ⟨trivial, ⟨(Or.inl (by decide)), trivial, trivial⟩⟩ ?_
  exact z_Ln.ret rfl rfl
set_option maxRecDepth 10000 in
theorem s41_18_2 {L : Nat} {xs : Nat → Int32} {fv : Value} {f w : Nat} {c : Nat × Nat} {A : Nat → List (Nat × Int32)} {E : List (Nat × Option Nat)} {N : Nat → Nat} {V : Nat → Nat → Int32} {W : Nat} {g : List z_E}  (hRm : z_Rm (hC A E N V W ++ g, c)) (hf : 2 ≤ f) (hw : 150 ≤ w) : z_Ln L xs fv f w 41 0 [(0, .ref 77), (1, .int 2)] [] (hC A E N V W ++ g, c) (.inl (some (.int 99))) (hC A E N V W ++ g, c) := by
  have hR0 : ((c.1 ≤ 601024 ∧ c.2 ≤ 7293034) ∧ 1 ≤ f ∧ 60 ≤ w) := ⟨hRm, by omega, by omega⟩
  have m42 : z_pg.2.1 42 = 2 := rfl
  refine z_Ln.blk (pc' := 3) (lv' := [(0, .ref 77), (1, .int 2)]) (st' := [.int 3, .int 2]) (H' := hC A E N V W ++ g) (C := [((c.1 ≤ 601024 ∧ c.2 ≤ 7293034) ∧ 1 ≤ f ∧ 60 ≤ w)]) 0 3 rfl hR0 ?_
  refine z_Ln.call (s := 0) (mj := 42) (as := [.int 2, .int 3]) (rr := []) (v := none) (T1 := (hC A E N V W ++ g, c)) rfl rfl ⟨⟨by omega, by have : z_pg.2.1 42 = 2 := rfl; omega⟩, (by decide : (0 : Nat) ≤ 8), (by decide +kernel : (2 : Nat) ≤ z_pg.2.1 42)⟩ hRm (s42_2_3 hRm (by omega) (by omega)) ⟨trivial, ⟨(Or.inl (by decide)), trivial, trivial⟩⟩ ?_
  refine z_Ln.blk (pc' := 14) (lv' := [(0, .ref 77), (1, .int 2)]) (st' := [.int 99]) (H' := hC A E N V W ++ g) (C := [((c.1 ≤ 601024 ∧ c.2 ≤ 7293034) ∧ 1 ≤ f ∧ 60 ≤ w), z_in 2 3 = true]) 4 6 rfl ⟨hR0, (by decide : z_in 2 3 = true)⟩ ?_
  exact z_Ln.ret rfl rfl
set_option maxRecDepth 10000 in
theorem s39_18_2 {L : Nat} {xs : Nat → Int32} {fv : Value} {f w : Nat} {c : Nat × Nat} {A : Nat → List (Nat × Int32)} {E : List (Nat × Option Nat)} {N : Nat → Nat} {V : Nat → Nat → Int32} {W : Nat} {g : List z_E}  (hRm : z_Rm (hC A E N V W ++ g, c)) (hf : 3 ≤ f) (hw : 250 ≤ w) : z_Ln L xs fv f w 39 0 [(0, .ref 76), (1, .int 2)] [] (hC A E N V W ++ g, c) (.inl (some (.int 99))) (hC A E N V W ++ g, c) := by
  have hR0 : ((c.1 ≤ 601024 ∧ c.2 ≤ 7293034) ∧ 1 ≤ f ∧ 60 ≤ w) := ⟨hRm, by omega, by omega⟩
  have m40 : z_pg.2.1 40 = 1 := rfl
  have m41 : z_pg.2.1 41 = 2 := rfl
  refine z_Ln.blk (pc' := 1) (lv' := [(0, .ref 76), (1, .int 2)]) (st' := [.ref 76]) (H' := hC A E N V W ++ g) (C := []) 0 1 rfl trivial ?_
  refine z_Ln.call (s := 0) (mj := 40) (as := [.ref 76]) (rr := []) (v := some (.int 1)) (T1 := (hC A E N V W ++ g, c)) rfl rfl ⟨⟨by omega, by have : z_pg.2.1 40 = 1 := rfl; omega⟩, (by decide : (0 : Nat) ≤ 8), (by decide +kernel : (1 : Nat) ≤ z_pg.2.1 40)⟩ hRm (s40_18 hRm (by omega) (by omega)) ⟨trivial, ⟨(Or.inl (by decide)), trivial, trivial⟩⟩ ?_
  refine z_Ln.blk (pc' := (if decide (1 = 0) = true then 16 else 7)) (lv' := [(0, .ref 76), (1, .int 2)]) (st' := []) (H' := hC A E N V W ++ g) (C := []) 2 1 rfl trivial (z_Ln.brF (decide_eq_false (by decide)) ?_)
  refine z_Ln.blk (pc' := 12) (lv' := [(0, .ref 76), (1, .int 2)]) (st' := [.int 2, .ref 77]) (H' := hC A E N V W ++ g) (C := [((c.1 ≤ 601024 ∧ c.2 ≤ 7293034) ∧ 1 ≤ f ∧ 60 ≤ w)]) 3 3 rfl hR0 ?_
  refine z_Ln.call (s := 0) (mj := 41) (as := [.ref 77, .int 2]) (rr := []) (v := some (.int 99)) (T1 := (hC A E N V W ++ g, c)) rfl rfl ⟨⟨by omega, by have : z_pg.2.1 41 = 2 := rfl; omega⟩, (by decide : (0 : Nat) ≤ 8), (by decide +kernel : (2 : Nat) ≤ z_pg.2.1 41)⟩ hRm (s41_18_2 hRm (by omega) (by omega)) ⟨trivial, ⟨(Or.inl (by decide)), trivial, trivial⟩⟩ ?_
  exact z_Ln.ret rfl rfl
set_option maxRecDepth 10000 in
theorem s41_19_0 {L : Nat} {xs : Nat → Int32} {fv : Value} {f w : Nat} {c : Nat × Nat} {A : Nat → List (Nat × Int32)} {E : List (Nat × Option Nat)} {N : Nat → Nat} {V : Nat → Nat → Int32} {W : Nat} {g : List z_E}  (hRm : z_Rm (hC A E N V W ++ g, c)) (hf : 2 ≤ f) (hw : 150 ≤ w) : z_Ln L xs fv f w 41 0 [(0, .ref 79), (1, .int 0)] [] (hC A E N V W ++ g, c) (.inl (some (.int 105))) (hC A E N V W ++ g, c) := by
  have hR0 : ((c.1 ≤ 601024 ∧ c.2 ≤ 7293034) ∧ 1 ≤ f ∧ 60 ≤ w) := ⟨hRm, by omega, by omega⟩
  have m42 : z_pg.2.1 42 = 2 := rfl
  refine z_Ln.blk (pc' := 3) (lv' := [(0, .ref 79), (1, .int 0)]) (st' := [.int 2, .int 0]) (H' := hC A E N V W ++ g) (C := [((c.1 ≤ 601024 ∧ c.2 ≤ 7293034) ∧ 1 ≤ f ∧ 60 ≤ w)]) 0 3 rfl hR0 ?_
  refine z_Ln.call (s := 0) (mj := 42) (as := [.int 0, .int 2]) (rr := []) (v := none) (T1 := (hC A E N V W ++ g, c)) rfl rfl ⟨⟨by omega, by have : z_pg.2.1 42 = 2 := rfl; omega⟩, (by decide : (0 : Nat) ≤ 8), (by decide +kernel : (2 : Nat) ≤ z_pg.2.1 42)⟩ hRm (s42_0_2 hRm (by omega) (by omega)) ⟨trivial, ⟨(Or.inl (by decide)), trivial, trivial⟩⟩ ?_
  refine z_Ln.blk (pc' := 14) (lv' := [(0, .ref 79), (1, .int 0)]) (st' := [.int 105]) (H' := hC A E N V W ++ g) (C := [((c.1 ≤ 601024 ∧ c.2 ≤ 7293034) ∧ 1 ≤ f ∧ 60 ≤ w), z_in 0 2 = true]) 4 6 rfl ⟨hR0, (by decide : z_in 0 2 = true)⟩ ?_
  exact z_Ln.ret rfl rfl
set_option maxRecDepth 10000 in
theorem s39_19_0 {L : Nat} {xs : Nat → Int32} {fv : Value} {f w : Nat} {c : Nat × Nat} {A : Nat → List (Nat × Int32)} {E : List (Nat × Option Nat)} {N : Nat → Nat} {V : Nat → Nat → Int32} {W : Nat} {g : List z_E}  (hRm : z_Rm (hC A E N V W ++ g, c)) (hf : 3 ≤ f) (hw : 250 ≤ w) : z_Ln L xs fv f w 39 0 [(0, .ref 78), (1, .int 0)] [] (hC A E N V W ++ g, c) (.inl (some (.int 105))) (hC A E N V W ++ g, c) := by
  have hR0 : ((c.1 ≤ 601024 ∧ c.2 ≤ 7293034) ∧ 1 ≤ f ∧ 60 ≤ w) := ⟨hRm, by omega, by omega⟩
  have m40 : z_pg.2.1 40 = 1 := rfl
  have m41 : z_pg.2.1 41 = 2 := rfl
  refine z_Ln.blk (pc' := 1) (lv' := [(0, .ref 78), (1, .int 0)]) (st' := [.ref 78]) (H' := hC A E N V W ++ g) (C := []) 0 1 rfl trivial ?_
  refine z_Ln.call (s := 0) (mj := 40) (as := [.ref 78]) (rr := []) (v := some (.int 1)) (T1 := (hC A E N V W ++ g, c)) rfl rfl ⟨⟨by omega, by have : z_pg.2.1 40 = 1 := rfl; omega⟩, (by decide : (0 : Nat) ≤ 8), (by decide +kernel : (1 : Nat) ≤ z_pg.2.1 40)⟩ hRm (s40_19 hRm (by omega) (by omega)) ⟨trivial, ⟨(Or.inl (by decide)), trivial, trivial⟩⟩ ?_
  refine z_Ln.blk (pc' := (if decide (1 = 0) = true then 16 else 7)) (lv' := [(0, .ref 78), (1, .int 0)]) (st' := []) (H' := hC A E N V W ++ g) (C := []) 2 1 rfl trivial (z_Ln.brF (decide_eq_false (by decide)) ?_)
  refine z_Ln.blk (pc' := 12) (lv' := [(0, .ref 78), (1, .int 0)]) (st' := [.int 0, .ref 79]) (H' := hC A E N V W ++ g) (C := [((c.1 ≤ 601024 ∧ c.2 ≤ 7293034) ∧ 1 ≤ f ∧ 60 ≤ w)]) 3 3 rfl hR0 ?_
  refine z_Ln.call (s := 0) (mj := 41) (as := [.ref 79, .int 0]) (rr := []) (v := some (.int 105)) (T1 := (hC A E N V W ++ g, c)) rfl rfl ⟨⟨by omega, by have : z_pg.2.1 41 = 2 := rfl; omega⟩, (by decide : (0 : Nat) ≤ 8), (by decide +kernel : (2 : Nat) ≤ z_pg.2.1 41)⟩ hRm (s41_19_0 hRm (by omega) (by omega)) ⟨trivial, ⟨(Or.inl (by decide)), trivial, trivial⟩⟩ ?_
  exact z_Ln.ret rfl rfl
set_option maxRecDepth 10000 in
theorem s41_19_1 {L : Nat} {xs : Nat → Int32} {fv : Value} {f w : Nat} {c : Nat × Nat} {A : Nat → List (Nat × Int32)} {E : List (Nat × Option Nat)} {N : Nat → Nat} {V : Nat → Nat → Int32} {W : Nat} {g : List z_E}  (hRm : z_Rm (hC A E N V W ++ g, c)) (hf : 2 ≤ f) (hw : 150 ≤ w) : z_Ln L xs fv f w 41 0 [(0, .ref 79), (1, .int 1)] [] (hC A E N V W ++ g, c) (.inl (some (.int 110))) (hC A E N V W ++ g, c) := by
  have hR0 : ((c.1 ≤ 601024 ∧ c.2 ≤ 7293034) ∧ 1 ≤ f ∧ 60 ≤ w) := ⟨hRm, by omega, by omega⟩
  have m42 : z_pg.2.1 42 = 2 := rfl
  refine z_Ln.blk (pc' := 3) (lv' := [(0, .ref 79), (1, .int 1)]) (st' := [.int 2, .int 1]) (H' := hC A E N V W ++ g) (C := [((c.1 ≤ 601024 ∧ c.2 ≤ 7293034) ∧ 1 ≤ f ∧ 60 ≤ w)]) 0 3 rfl hR0 ?_
  refine z_Ln.call (s := 0) (mj := 42) (as := [.int 1, .int 2]) (rr := []) (v := none) (T1 := (hC A E N V W ++ g, c)) rfl rfl ⟨⟨by omega, by have : z_pg.2.1 42 = 2 := rfl; omega⟩, (by decide : (0 : Nat) ≤ 8), (by decide +kernel : (2 : Nat) ≤ z_pg.2.1 42)⟩ hRm (s42_1_2 hRm (by omega) (by omega)) ⟨trivial, ⟨(Or.inl (by decide)), trivial, trivial⟩⟩ ?_
  refine z_Ln.blk (pc' := 14) (lv' := [(0, .ref 79), (1, .int 1)]) (st' := [.int 110]) (H' := hC A E N V W ++ g) (C := [((c.1 ≤ 601024 ∧ c.2 ≤ 7293034) ∧ 1 ≤ f ∧ 60 ≤ w), z_in 1 2 = true]) 4 6 rfl ⟨hR0, (by decide : z_in 1 2 = true)⟩ ?_
  exact z_Ln.ret rfl rfl
set_option maxRecDepth 10000 in
theorem s39_19_1 {L : Nat} {xs : Nat → Int32} {fv : Value} {f w : Nat} {c : Nat × Nat} {A : Nat → List (Nat × Int32)} {E : List (Nat × Option Nat)} {N : Nat → Nat} {V : Nat → Nat → Int32} {W : Nat} {g : List z_E}  (hRm : z_Rm (hC A E N V W ++ g, c)) (hf : 3 ≤ f) (hw : 250 ≤ w) : z_Ln L xs fv f w 39 0 [(0, .ref 78), (1, .int 1)] [] (hC A E N V W ++ g, c) (.inl (some (.int 110))) (hC A E N V W ++ g, c) := by
  have hR0 : ((c.1 ≤ 601024 ∧ c.2 ≤ 7293034) ∧ 1 ≤ f ∧ 60 ≤ w) := ⟨hRm, by omega, by omega⟩
  have m40 : z_pg.2.1 40 = 1 := rfl
  have m41 : z_pg.2.1 41 = 2 := rfl
  refine z_Ln.blk (pc' := 1) (lv' := [(0, .ref 78), (1, .int 1)]) (st' := [.ref 78]) (H' := hC A E N V W ++ g) (C := []) 0 1 rfl trivial ?_
  refine z_Ln.call (s := 0) (mj := 40) (as := [.ref 78]) (rr := []) (v := some (.int 1)) (T1 := (hC A E N V W ++ g, c)) rfl rfl ⟨⟨by omega, by have : z_pg.2.1 40 = 1 := rfl; omega⟩, (by decide : (0 : Nat) ≤ 8), (by decide +kernel : (1 : Nat) ≤ z_pg.2.1 40)⟩ hRm (s40_19 hRm (by omega) (by omega)) ⟨trivial, ⟨(Or.inl (by decide)), trivial, trivial⟩⟩ ?_
  refine z_Ln.blk (pc' := (if decide (1 = 0) = true then 16 else 7)) (lv' := [(0, .ref 78), (1, .int 1)]) (st' := []) (H' := hC A E N V W ++ g) (C := []) 2 1 rfl trivial (z_Ln.brF (decide_eq_false (by decide)) ?_)
  refine z_Ln.blk (pc' := 12) (lv' := [(0, .ref 78), (1, .int 1)]) (st' := [.int 1, .ref 79]) (H' := hC A E N V W ++ g) (C := [((c.1 ≤ 601024 ∧ c.2 ≤ 7293034) ∧ 1 ≤ f ∧ 60 ≤ w)]) 3 3 rfl hR0 ?_
  refine z_Ln.call (s := 0) (mj := 41) (as := [.ref 79, .int 1]) (rr := []) (v := some (.int 110)) (T1 := (hC A E N V W ++ g, c)) rfl rfl ⟨⟨by omega, by have : z_pg.2.1 41 = 2 := rfl; omega⟩, (by decide : (0 : Nat) ≤ 8), (by decide +kernel : (2 : Nat) ≤ z_pg.2.1 41)⟩ hRm (s41_19_1 hRm (by omega) (by omega)) ⟨trivial, ⟨(Or.inl (by decide)), trivial, trivial⟩⟩ ?_
  exact z_Ln.ret rfl rfl
set_option maxRecDepth 10000 in
theorem s41_20_0 {L : Nat} {xs : Nat → Int32} {fv : Value} {f w : Nat} {c : Nat × Nat} {A : Nat → List (Nat × Int32)} {E : List (Nat × Option Nat)} {N : Nat → Nat} {V : Nat → Nat → Int32} {W : Nat} {g : List z_E}  (hRm : z_Rm (hC A E N V W ++ g, c)) (hf : 2 ≤ f) (hw : 150 ≤ w) : z_Ln L xs fv f w 41 0 [(0, .ref 81), (1, .int 0)] [] (hC A E N V W ++ g, c) (.inl (some (.int 105))) (hC A E N V W ++ g, c) := by
  have hR0 : ((c.1 ≤ 601024 ∧ c.2 ≤ 7293034) ∧ 1 ≤ f ∧ 60 ≤ w) := ⟨hRm, by omega, by omega⟩
  have m42 : z_pg.2.1 42 = 2 := rfl
  refine z_Ln.blk (pc' := 3) (lv' := [(0, .ref 81), (1, .int 0)]) (st' := [.int 2, .int 0]) (H' := hC A E N V W ++ g) (C := [((c.1 ≤ 601024 ∧ c.2 ≤ 7293034) ∧ 1 ≤ f ∧ 60 ≤ w)]) 0 3 rfl hR0 ?_
  refine z_Ln.call (s := 0) (mj := 42) (as := [.int 0, .int 2]) (rr := []) (v := none) (T1 := (hC A E N V W ++ g, c)) rfl rfl ⟨⟨by omega, by have : z_pg.2.1 42 = 2 := rfl; omega⟩, (by decide : (0 : Nat) ≤ 8), (by decide +kernel : (2 : Nat) ≤ z_pg.2.1 42)⟩ hRm (s42_0_2 hRm (by omega) (by omega)) ⟨trivial, ⟨(Or.inl (by decide)), trivial, trivial⟩⟩ ?_
  refine z_Ln.blk (pc' := 14) (lv' := [(0, .ref 81), (1, .int 0)]) (st' := [.int 105]) (H' := hC A E N V W ++ g) (C := [((c.1 ≤ 601024 ∧ c.2 ≤ 7293034) ∧ 1 ≤ f ∧ 60 ≤ w), z_in 0 2 = true]) 4 6 rfl ⟨hR0, (by decide : z_in 0 2 = true)⟩ ?_
  exact z_Ln.ret rfl rfl
set_option maxRecDepth 10000 in
theorem s39_20_0 {L : Nat} {xs : Nat → Int32} {fv : Value} {f w : Nat} {c : Nat × Nat} {A : Nat → List (Nat × Int32)} {E : List (Nat × Option Nat)} {N : Nat → Nat} {V : Nat → Nat → Int32} {W : Nat} {g : List z_E}  (hRm : z_Rm (hC A E N V W ++ g, c)) (hf : 3 ≤ f) (hw : 250 ≤ w) : z_Ln L xs fv f w 39 0 [(0, .ref 80), (1, .int 0)] [] (hC A E N V W ++ g, c) (.inl (some (.int 105))) (hC A E N V W ++ g, c) := by
  have hR0 : ((c.1 ≤ 601024 ∧ c.2 ≤ 7293034) ∧ 1 ≤ f ∧ 60 ≤ w) := ⟨hRm, by omega, by omega⟩
  have m40 : z_pg.2.1 40 = 1 := rfl
  have m41 : z_pg.2.1 41 = 2 := rfl
  refine z_Ln.blk (pc' := 1) (lv' := [(0, .ref 80), (1, .int 0)]) (st' := [.ref 80]) (H' := hC A E N V W ++ g) (C := []) 0 1 rfl trivial ?_
  refine z_Ln.call (s := 0) (mj := 40) (as := [.ref 80]) (rr := []) (v := some (.int 1)) (T1 := (hC A E N V W ++ g, c)) rfl rfl ⟨⟨by omega, by have : z_pg.2.1 40 = 1 := rfl; omega⟩, (by decide : (0 : Nat) ≤ 8), (by decide +kernel : (1 : Nat) ≤ z_pg.2.1 40)⟩ hRm (s40_20 hRm (by omega) (by omega)) ⟨trivial, ⟨(Or.inl (by decide)), trivial, trivial⟩⟩ ?_
  refine z_Ln.blk (pc' := (if decide (1 = 0) = true then 16 else 7)) (lv' := [(0, .ref 80), (1, .int 0)]) (st' := []) (H' := hC A E N V W ++ g) (C := []) 2 1 rfl trivial (z_Ln.brF (decide_eq_false (by decide)) ?_)
  refine z_Ln.blk (pc' := 12) (lv' := [(0, .ref 80), (1, .int 0)]) (st' := [.int 0, .ref 81]) (H' := hC A E N V W ++ g) (C := [((c.1 ≤ 601024 ∧ c.2 ≤ 7293034) ∧ 1 ≤ f ∧ 60 ≤ w)]) 3 3 rfl hR0 ?_
  refine z_Ln.call (s := 0) (mj := 41) (as := [.ref 81, .int 0]) (rr := []) (v := some (.int 105)) (T1 := (hC A E N V W ++ g, c)) rfl rfl ⟨⟨by omega, by have : z_pg.2.1 41 = 2 := rfl; omega⟩, (by decide : (0 : Nat) ≤ 8), (by decide +kernel : (2 : Nat) ≤ z_pg.2.1 41)⟩ hRm (s41_20_0 hRm (by omega) (by omega)) ⟨trivial, ⟨(Or.inl (by decide)), trivial, trivial⟩⟩ ?_
  exact z_Ln.ret rfl rfl
set_option maxRecDepth 10000 in
theorem s41_20_1 {L : Nat} {xs : Nat → Int32} {fv : Value} {f w : Nat} {c : Nat × Nat} {A : Nat → List (Nat × Int32)} {E : List (Nat × Option Nat)} {N : Nat → Nat} {V : Nat → Nat → Int32} {W : Nat} {g : List z_E}  (hRm : z_Rm (hC A E N V W ++ g, c)) (hf : 2 ≤ f) (hw : 150 ≤ w) : z_Ln L xs fv f w 41 0 [(0, .ref 81), (1, .int 1)] [] (hC A E N V W ++ g, c) (.inl (some (.int 102))) (hC A E N V W ++ g, c) := by
  have hR0 : ((c.1 ≤ 601024 ∧ c.2 ≤ 7293034) ∧ 1 ≤ f ∧ 60 ≤ w) := ⟨hRm, by omega, by omega⟩
  have m42 : z_pg.2.1 42 = 2 := rfl
  refine z_Ln.blk (pc' := 3) (lv' := [(0, .ref 81), (1, .int 1)]) (st' := [.int 2, .int 1]) (H' := hC A E N V W ++ g) (C := [((c.1 ≤ 601024 ∧ c.2 ≤ 7293034) ∧ 1 ≤ f ∧ 60 ≤ w)]) 0 3 rfl hR0 ?_
  refine z_Ln.call (s := 0) (mj := 42) (as := [.int 1, .int 2]) (rr := []) (v := none) (T1 := (hC A E N V W ++ g, c)) rfl rfl ⟨⟨by omega, by have : z_pg.2.1 42 = 2 := rfl; omega⟩, (by decide : (0 : Nat) ≤ 8), (by decide +kernel : (2 : Nat) ≤ z_pg.2.1 42)⟩ hRm (s42_1_2 hRm (by omega) (by omega)) ⟨trivial, ⟨(Or.inl (by decide)), trivial, trivial⟩⟩ ?_
  refine z_Ln.blk (pc' := 14) (lv' := [(0, .ref 81), (1, .int 1)]) (st' := [.int 102]) (H' := hC A E N V W ++ g) (C := [((c.1 ≤ 601024 ∧ c.2 ≤ 7293034) ∧ 1 ≤ f ∧ 60 ≤ w), z_in 1 2 = true]) 4 6 rfl ⟨hR0, (by decide : z_in 1 2 = true)⟩ ?_
  exact z_Ln.ret rfl rfl
set_option maxRecDepth 10000 in
theorem s39_20_1 {L : Nat} {xs : Nat → Int32} {fv : Value} {f w : Nat} {c : Nat × Nat} {A : Nat → List (Nat × Int32)} {E : List (Nat × Option Nat)} {N : Nat → Nat} {V : Nat → Nat → Int32} {W : Nat} {g : List z_E}  (hRm : z_Rm (hC A E N V W ++ g, c)) (hf : 3 ≤ f) (hw : 250 ≤ w) : z_Ln L xs fv f w 39 0 [(0, .ref 80), (1, .int 1)] [] (hC A E N V W ++ g, c) (.inl (some (.int 102))) (hC A E N V W ++ g, c) := by
  have hR0 : ((c.1 ≤ 601024 ∧ c.2 ≤ 7293034) ∧ 1 ≤ f ∧ 60 ≤ w) := ⟨hRm, by omega, by omega⟩
  have m40 : z_pg.2.1 40 = 1 := rfl
  have m41 : z_pg.2.1 41 = 2 := rfl
  refine z_Ln.blk (pc' := 1) (lv' := [(0, .ref 80), (1, .int 1)]) (st' := [.ref 80]) (H' := hC A E N V W ++ g) (C := []) 0 1 rfl trivial ?_
  refine z_Ln.call (s := 0) (mj := 40) (as := [.ref 80]) (rr := []) (v := some (.int 1)) (T1 := (hC A E N V W ++ g, c)) rfl rfl ⟨⟨by omega, by have : z_pg.2.1 40 = 1 := rfl; omega⟩, (by decide : (0 : Nat) ≤ 8), (by decide +kernel : (1 : Nat) ≤ z_pg.2.1 40)⟩ hRm (s40_20 hRm (by omega) (by omega)) ⟨trivial, ⟨(Or.inl (by decide)), trivial, trivial⟩⟩ ?_
  refine z_Ln.blk (pc' := (if decide (1 = 0) = true then 16 else 7)) (lv' := [(0, .ref 80), (1, .int 1)]) (st' := []) (H' := hC A E N V W ++ g) (C := []) 2 1 rfl trivial (z_Ln.brF (decide_eq_false (by decide)) ?_)
  refine z_Ln.blk (pc' := 12) (lv' := [(0, .ref 80), (1, .int 1)]) (st' := [.int 1, .ref 81]) (H' := hC A E N V W ++ g) (C := [((c.1 ≤ 601024 ∧ c.2 ≤ 7293034) ∧ 1 ≤ f ∧ 60 ≤ w)]) 3 3 rfl hR0 ?_
  refine z_Ln.call (s := 0) (mj := 41) (as := [.ref 81, .int 1]) (rr := []) (v := some (.int 102)) (T1 := (hC A E N V W ++ g, c)) rfl rfl ⟨⟨by omega, by have : z_pg.2.1 41 = 2 := rfl; omega⟩, (by decide : (0 : Nat) ≤ 8), (by decide +kernel : (2 : Nat) ≤ z_pg.2.1 41)⟩ hRm (s41_20_1 hRm (by omega) (by omega)) ⟨trivial, ⟨(Or.inl (by decide)), trivial, trivial⟩⟩ ?_
  exact z_Ln.ret rfl rfl
set_option maxRecDepth 10000 in
theorem s41_21_0 {L : Nat} {xs : Nat → Int32} {fv : Value} {f w : Nat} {c : Nat × Nat} {A : Nat → List (Nat × Int32)} {E : List (Nat × Option Nat)} {N : Nat → Nat} {V : Nat → Nat → Int32} {W : Nat} {g : List z_E}  (hRm : z_Rm (hC A E N V W ++ g, c)) (hf : 2 ≤ f) (hw : 150 ≤ w) : z_Ln L xs fv f w 41 0 [(0, .ref 83), (1, .int 0)] [] (hC A E N V W ++ g, c) (.inl (some (.int 116))) (hC A E N V W ++ g, c) := by
  have hR0 : ((c.1 ≤ 601024 ∧ c.2 ≤ 7293034) ∧ 1 ≤ f ∧ 60 ≤ w) := ⟨hRm, by omega, by omega⟩
  have m42 : z_pg.2.1 42 = 2 := rfl
  refine z_Ln.blk (pc' := 3) (lv' := [(0, .ref 83), (1, .int 0)]) (st' := [.int 4, .int 0]) (H' := hC A E N V W ++ g) (C := [((c.1 ≤ 601024 ∧ c.2 ≤ 7293034) ∧ 1 ≤ f ∧ 60 ≤ w)]) 0 3 rfl hR0 ?_
  refine z_Ln.call (s := 0) (mj := 42) (as := [.int 0, .int 4]) (rr := []) (v := none) (T1 := (hC A E N V W ++ g, c)) rfl rfl ⟨⟨by omega, by have : z_pg.2.1 42 = 2 := rfl; omega⟩, (by decide : (0 : Nat) ≤ 8), (by decide +kernel : (2 : Nat) ≤ z_pg.2.1 42)⟩ hRm (s42_0_4 hRm (by omega) (by omega)) ⟨trivial, ⟨(Or.inl (by decide)), trivial, trivial⟩⟩ ?_
  refine z_Ln.blk (pc' := 14) (lv' := [(0, .ref 83), (1, .int 0)]) (st' := [.int 116]) (H' := hC A E N V W ++ g) (C := [((c.1 ≤ 601024 ∧ c.2 ≤ 7293034) ∧ 1 ≤ f ∧ 60 ≤ w), z_in 0 4 = true]) 4 6 rfl ⟨hR0, (by decide : z_in 0 4 = true)⟩ ?_
  exact z_Ln.ret rfl rfl
set_option maxRecDepth 10000 in
theorem s39_21_0 {L : Nat} {xs : Nat → Int32} {fv : Value} {f w : Nat} {c : Nat × Nat} {A : Nat → List (Nat × Int32)} {E : List (Nat × Option Nat)} {N : Nat → Nat} {V : Nat → Nat → Int32} {W : Nat} {g : List z_E}  (hRm : z_Rm (hC A E N V W ++ g, c)) (hf : 3 ≤ f) (hw : 250 ≤ w) : z_Ln L xs fv f w 39 0 [(0, .ref 82), (1, .int 0)] [] (hC A E N V W ++ g, c) (.inl (some (.int 116))) (hC A E N V W ++ g, c) := by
  have hR0 : ((c.1 ≤ 601024 ∧ c.2 ≤ 7293034) ∧ 1 ≤ f ∧ 60 ≤ w) := ⟨hRm, by omega, by omega⟩
  have m40 : z_pg.2.1 40 = 1 := rfl
  have m41 : z_pg.2.1 41 = 2 := rfl
  refine z_Ln.blk (pc' := 1) (lv' := [(0, .ref 82), (1, .int 0)]) (st' := [.ref 82]) (H' := hC A E N V W ++ g) (C := []) 0 1 rfl trivial ?_
  refine z_Ln.call (s := 0) (mj := 40) (as := [.ref 82]) (rr := []) (v := some (.int 1)) (T1 := (hC A E N V W ++ g, c)) rfl rfl ⟨⟨by omega, by have : z_pg.2.1 40 = 1 := rfl; omega⟩, (by decide : (0 : Nat) ≤ 8), (by decide +kernel : (1 : Nat) ≤ z_pg.2.1 40)⟩ hRm (s40_21 hRm (by omega) (by omega)) ⟨trivial, ⟨(Or.inl (by decide)), trivial, trivial⟩⟩ ?_
  refine z_Ln.blk (pc' := (if decide (1 = 0) = true then 16 else 7)) (lv' := [(0, .ref 82), (1, .int 0)]) (st' := []) (H' := hC A E N V W ++ g) (C := []) 2 1 rfl trivial (z_Ln.brF (decide_eq_false (by decide)) ?_)
  refine z_Ln.blk (pc' := 12) (lv' := [(0, .ref 82), (1, .int 0)]) (st' := [.int 0, .ref 83]) (H' := hC A E N V W ++ g) (C := [((c.1 ≤ 601024 ∧ c.2 ≤ 7293034) ∧ 1 ≤ f ∧ 60 ≤ w)]) 3 3 rfl hR0 ?_
  refine z_Ln.call (s := 0) (mj := 41) (as := [.ref 83, .int 0]) (rr := []) (v := some (.int 116)) (T1 := (hC A E N V W ++ g, c)) rfl rfl ⟨⟨by omega, by have : z_pg.2.1 41 = 2 := rfl; omega⟩, (by decide : (0 : Nat) ≤ 8), (by decide +kernel : (2 : Nat) ≤ z_pg.2.1 41)⟩ hRm (s41_21_0 hRm (by omega) (by omega)) ⟨trivial, ⟨(Or.inl (by decide)), trivial, trivial⟩⟩ ?_
  exact z_Ln.ret rfl rfl
set_option maxRecDepth 10000 in
theorem s41_21_1 {L : Nat} {xs : Nat → Int32} {fv : Value} {f w : Nat} {c : Nat × Nat} {A : Nat → List (Nat × Int32)} {E : List (Nat × Option Nat)} {N : Nat → Nat} {V : Nat → Nat → Int32} {W : Nat} {g : List z_E}  (hRm : z_Rm (hC A E N V W ++ g, c)) (hf : 2 ≤ f) (hw : 150 ≤ w) : z_Ln L xs fv f w 41 0 [(0, .ref 83), (1, .int 1)] [] (hC A E N V W ++ g, c) (.inl (some (.int 104))) (hC A E N V W ++ g, c) := by
  have hR0 : ((c.1 ≤ 601024 ∧ c.2 ≤ 7293034) ∧ 1 ≤ f ∧ 60 ≤ w) := ⟨hRm, by omega, by omega⟩
  have m42 : z_pg.2.1 42 = 2 := rfl
  refine z_Ln.blk (pc' := 3) (lv' := [(0, .ref 83), (1, .int 1)]) (st' := [.int 4, .int 1]) (H' := hC A E N V W ++ g) (C := [((c.1 ≤ 601024 ∧ c.2 ≤ 7293034) ∧ 1 ≤ f ∧ 60 ≤ w)]) 0 3 rfl hR0 ?_
  refine z_Ln.call (s := 0) (mj := 42) (as := [.int 1, .int 4]) (rr := []) (v := none) (T1 := (hC A E N V W ++ g, c)) rfl rfl ⟨⟨by omega, by have : z_pg.2.1 42 = 2 := rfl; omega⟩, (by decide : (0 : Nat) ≤ 8), (by decide +kernel : (2 : Nat) ≤ z_pg.2.1 42)⟩ hRm (s42_1_4 hRm (by omega) (by omega)) ⟨trivial, ⟨(Or.inl (by decide)), trivial, trivial⟩⟩ ?_
  refine z_Ln.blk (pc' := 14) (lv' := [(0, .ref 83), (1, .int 1)]) (st' := [.int 104]) (H' := hC A E N V W ++ g) (C := [((c.1 ≤ 601024 ∧ c.2 ≤ 7293034) ∧ 1 ≤ f ∧ 60 ≤ w), z_in 1 4 = true]) 4 6 rfl ⟨hR0, (by decide : z_in 1 4 = true)⟩ ?_
  exact z_Ln.ret rfl rfl
set_option maxRecDepth 10000 in
theorem s39_21_1 {L : Nat} {xs : Nat → Int32} {fv : Value} {f w : Nat} {c : Nat × Nat} {A : Nat → List (Nat × Int32)} {E : List (Nat × Option Nat)} {N : Nat → Nat} {V : Nat → Nat → Int32} {W : Nat} {g : List z_E}  (hRm : z_Rm (hC A E N V W ++ g, c)) (hf : 3 ≤ f) (hw : 250 ≤ w) : z_Ln L xs fv f w 39 0 [(0, .ref 82), (1, .int 1)] [] (hC A E N V W ++ g, c) (.inl (some (.int 104))) (hC A E N V W ++ g, c) := by
  have hR0 : ((c.1 ≤ 601024 ∧ c.2 ≤ 7293034) ∧ 1 ≤ f ∧ 60 ≤ w) := ⟨hRm, by omega, by omega⟩
  have m40 : z_pg.2.1 40 = 1 := rfl
  have m41 : z_pg.2.1 41 = 2 := rfl
  refine z_Ln.blk (pc' := 1) (lv' := [(0, .ref 82), (1, .int 1)]) (st' := [.ref 82]) (H' := hC A E N V W ++ g) (C := []) 0 1 rfl trivial ?_
  refine z_Ln.call (s := 0) (mj := 40) (as := [.ref 82]) (rr := []) (v := some (.int 1)) (T1 := (hC A E N V W ++ g, c)) rfl rfl ⟨⟨by omega, by have : z_pg.2.1 40 = 1 := rfl; omega⟩, (by decide : (0 : Nat) ≤ 8), (by decide +kernel : (1 : Nat) ≤ z_pg.2.1 40)⟩ hRm (s40_21 hRm (by omega) (by omega)) ⟨trivial, ⟨(Or.inl (by decide)), trivial, trivial⟩⟩ ?_
  refine z_Ln.blk (pc' := (if decide (1 = 0) = true then 16 else 7)) (lv' := [(0, .ref 82), (1, .int 1)]) (st' := []) (H' := hC A E N V W ++ g) (C := []) 2 1 rfl trivial (z_Ln.brF (decide_eq_false (by decide)) ?_)
  refine z_Ln.blk (pc' := 12) (lv' := [(0, .ref 82), (1, .int 1)]) (st' := [.int 1, .ref 83]) (H' := hC A E N V W ++ g) (C := [((c.1 ≤ 601024 ∧ c.2 ≤ 7293034) ∧ 1 ≤ f ∧ 60 ≤ w)]) 3 3 rfl hR0 ?_
  refine z_Ln.call (s := 0) (mj := 41) (as := [.ref 83, .int 1]) (rr := []) (v := some (.int 104)) (T1 := (hC A E N V W ++ g, c)) rfl rfl ⟨⟨by omega, by have : z_pg.2.1 41 = 2 := rfl; omega⟩, (by decide : (0 : Nat) ≤ 8), (by decide +kernel : (2 : Nat) ≤ z_pg.2.1 41)⟩ hRm (s41_21_1 hRm (by omega) (by omega)) ⟨trivial, ⟨(Or.inl (by decide)), trivial, trivial⟩⟩ ?_
  exact z_Ln.ret rfl rfl
set_option maxRecDepth 10000 in
theorem s41_21_2 {L : Nat} {xs : Nat → Int32} {fv : Value} {f w : Nat} {c : Nat × Nat} {A : Nat → List (Nat × Int32)} {E : List (Nat × Option Nat)} {N : Nat → Nat} {V : Nat → Nat → Int32} {W : Nat} {g : List z_E}  (hRm : z_Rm (hC A E N V W ++ g, c)) (hf : 2 ≤ f) (hw : 150 ≤ w) : z_Ln L xs fv f w 41 0 [(0, .ref 83), (1, .int 2)] [] (hC A E N V W ++ g, c) (.inl (some (.int 101))) (hC A E N V W ++ g, c) := by
  have hR0 : ((c.1 ≤ 601024 ∧ c.2 ≤ 7293034) ∧ 1 ≤ f ∧ 60 ≤ w) := ⟨hRm, by omega, by omega⟩
  have m42 : z_pg.2.1 42 = 2 := rfl
  refine z_Ln.blk (pc' := 3) (lv' := [(0, .ref 83), (1, .int 2)]) (st' := [.int 4, .int 2]) (H' := hC A E N V W ++ g) (C := [((c.1 ≤ 601024 ∧ c.2 ≤ 7293034) ∧ 1 ≤ f ∧ 60 ≤ w)]) 0 3 rfl hR0 ?_
  refine z_Ln.call (s := 0) (mj := 42) (as := [.int 2, .int 4]) (rr := []) (v := none) (T1 := (hC A E N V W ++ g, c)) rfl rfl ⟨⟨by omega, by have : z_pg.2.1 42 = 2 := rfl; omega⟩, (by decide : (0 : Nat) ≤ 8), (by decide +kernel : (2 : Nat) ≤ z_pg.2.1 42)⟩ hRm (s42_2_4 hRm (by omega) (by omega)) ⟨trivial, ⟨(Or.inl (by decide)), trivial, trivial⟩⟩ ?_
  refine z_Ln.blk (pc' := 14) (lv' := [(0, .ref 83), (1, .int 2)]) (st' := [.int 101]) (H' := hC A E N V W ++ g) (C := [((c.1 ≤ 601024 ∧ c.2 ≤ 7293034) ∧ 1 ≤ f ∧ 60 ≤ w), z_in 2 4 = true]) 4 6 rfl ⟨hR0, (by decide : z_in 2 4 = true)⟩ ?_
  exact z_Ln.ret rfl rfl
set_option maxRecDepth 10000 in
theorem s39_21_2 {L : Nat} {xs : Nat → Int32} {fv : Value} {f w : Nat} {c : Nat × Nat} {A : Nat → List (Nat × Int32)} {E : List (Nat × Option Nat)} {N : Nat → Nat} {V : Nat → Nat → Int32} {W : Nat} {g : List z_E}  (hRm : z_Rm (hC A E N V W ++ g, c)) (hf : 3 ≤ f) (hw : 250 ≤ w) : z_Ln L xs fv f w 39 0 [(0, .ref 82), (1, .int 2)] [] (hC A E N V W ++ g, c) (.inl (some (.int 101))) (hC A E N V W ++ g, c) := by
  have hR0 : ((c.1 ≤ 601024 ∧ c.2 ≤ 7293034) ∧ 1 ≤ f ∧ 60 ≤ w) := ⟨hRm, by omega, by omega⟩
  have m40 : z_pg.2.1 40 = 1 := rfl
  have m41 : z_pg.2.1 41 = 2 := rfl
  refine z_Ln.blk (pc' := 1) (lv' := [(0, .ref 82), (1, .int 2)]) (st' := [.ref 82]) (H' := hC A E N V W ++ g) (C := []) 0 1 rfl trivial ?_
  refine z_Ln.call (s := 0) (mj := 40) (as := [.ref 82]) (rr := []) (v := some (.int 1)) (T1 := (hC A E N V W ++ g, c)) rfl rfl ⟨⟨by omega, by have : z_pg.2.1 40 = 1 := rfl; omega⟩, (by decide : (0 : Nat) ≤ 8), (by decide +kernel : (1 : Nat) ≤ z_pg.2.1 40)⟩ hRm (s40_21 hRm (by omega) (by omega)) ⟨trivial, ⟨(Or.inl (by decide)), trivial, trivial⟩⟩ ?_
  refine z_Ln.blk (pc' := (if decide (1 = 0) = true then 16 else 7)) (lv' := [(0, .ref 82), (1, .int 2)]) (st' := []) (H' := hC A E N V W ++ g) (C := []) 2 1 rfl trivial (z_Ln.brF (decide_eq_false (by decide)) ?_)
  refine z_Ln.blk (pc' := 12) (lv' := [(0, .ref 82), (1, .int 2)]) (st' := [.int 2, .ref 83]) (H' := hC A E N V W ++ g) (C := [((c.1 ≤ 601024 ∧ c.2 ≤ 7293034) ∧ 1 ≤ f ∧ 60 ≤ w)]) 3 3 rfl hR0 ?_
  refine z_Ln.call (s := 0) (mj := 41) (as := [.ref 83, .int 2]) (rr := []) (v := some (.int 101)) (T1 := (hC A E N V W ++ g, c)) rfl rfl ⟨⟨by omega, by have : z_pg.2.1 41 = 2 := rfl; omega⟩, (by decide : (0 : Nat) ≤ 8), (by decide +kernel : (2 : Nat) ≤ z_pg.2.1 41)⟩ hRm (s41_21_2 hRm (by omega) (by omega)) ⟨trivial, ⟨(Or.inl (by decide)), trivial, trivial⟩⟩ ?_
  exact z_Ln.ret rfl rfl
set_option maxRecDepth 10000 in
theorem s41_21_3 {L : Nat} {xs : Nat → Int32} {fv : Value} {f w : Nat} {c : Nat × Nat} {A : Nat → List (Nat × Int32)} {E : List (Nat × Option Nat)} {N : Nat → Nat} {V : Nat → Nat → Int32} {W : Nat} {g : List z_E}  (hRm : z_Rm (hC A E N V W ++ g, c)) (hf : 2 ≤ f) (hw : 150 ≤ w) : z_Ln L xs fv f w 41 0 [(0, .ref 83), (1, .int 3)] [] (hC A E N V W ++ g, c) (.inl (some (.int 110))) (hC A E N V W ++ g, c) := by
  have hR0 : ((c.1 ≤ 601024 ∧ c.2 ≤ 7293034) ∧ 1 ≤ f ∧ 60 ≤ w) := ⟨hRm, by omega, by omega⟩
  have m42 : z_pg.2.1 42 = 2 := rfl
  refine z_Ln.blk (pc' := 3) (lv' := [(0, .ref 83), (1, .int 3)]) (st' := [.int 4, .int 3]) (H' := hC A E N V W ++ g) (C := [((c.1 ≤ 601024 ∧ c.2 ≤ 7293034) ∧ 1 ≤ f ∧ 60 ≤ w)]) 0 3 rfl hR0 ?_
  refine z_Ln.call (s := 0) (mj := 42) (as := [.int 3, .int 4]) (rr := []) (v := none) (T1 := (hC A E N V W ++ g, c)) rfl rfl ⟨⟨by omega, by have : z_pg.2.1 42 = 2 := rfl; omega⟩, (by decide : (0 : Nat) ≤ 8), (by decide +kernel : (2 : Nat) ≤ z_pg.2.1 42)⟩ hRm (s42_3_4 hRm (by omega) (by omega)) ⟨trivial, ⟨(Or.inl (by decide)), trivial, trivial⟩⟩ ?_
  refine z_Ln.blk (pc' := 14) (lv' := [(0, .ref 83), (1, .int 3)]) (st' := [.int 110]) (H' := hC A E N V W ++ g) (C := [((c.1 ≤ 601024 ∧ c.2 ≤ 7293034) ∧ 1 ≤ f ∧ 60 ≤ w), z_in 3 4 = true]) 4 6 rfl ⟨hR0, (by decide : z_in 3 4 = true)⟩ ?_
  exact z_Ln.ret rfl rfl
set_option maxRecDepth 10000 in
theorem s39_21_3 {L : Nat} {xs : Nat → Int32} {fv : Value} {f w : Nat} {c : Nat × Nat} {A : Nat → List (Nat × Int32)} {E : List (Nat × Option Nat)} {N : Nat → Nat} {V : Nat → Nat → Int32} {W : Nat} {g : List z_E}  (hRm : z_Rm (hC A E N V W ++ g, c)) (hf : 3 ≤ f) (hw : 250 ≤ w) : z_Ln L xs fv f w 39 0 [(0, .ref 82), (1, .int 3)] [] (hC A E N V W ++ g, c) (.inl (some (.int 110))) (hC A E N V W ++ g, c) := by
  have hR0 : ((c.1 ≤ 601024 ∧ c.2 ≤ 7293034) ∧ 1 ≤ f ∧ 60 ≤ w) := ⟨hRm, by omega, by omega⟩
  have m40 : z_pg.2.1 40 = 1 := rfl
  have m41 : z_pg.2.1 41 = 2 := rfl
  refine z_Ln.blk (pc' := 1) (lv' := [(0, .ref 82), (1, .int 3)]) (st' := [.ref 82]) (H' := hC A E N V W ++ g) (C := []) 0 1 rfl trivial ?_
  refine z_Ln.call (s := 0) (mj := 40) (as := [.ref 82]) (rr := []) (v := some (.int 1)) (T1 := (hC A E N V W ++ g, c)) rfl rfl ⟨⟨by omega, by have : z_pg.2.1 40 = 1 := rfl; omega⟩, (by decide : (0 : Nat) ≤ 8), (by decide +kernel : (1 : Nat) ≤ z_pg.2.1 40)⟩ hRm (s40_21 hRm (by omega) (by omega)) ⟨trivial, ⟨(Or.inl (by decide)), trivial, trivial⟩⟩ ?_
  refine z_Ln.blk (pc' := (if decide (1 = 0) = true then 16 else 7)) (lv' := [(0, .ref 82), (1, .int 3)]) (st' := []) (H' := hC A E N V W ++ g) (C := []) 2 1 rfl trivial (z_Ln.brF (decide_eq_false (by decide)) ?_)
  refine z_Ln.blk (pc' := 12) (lv' := [(0, .ref 82), (1, .int 3)]) (st' := [.int 3, .ref 83]) (H' := hC A E N V W ++ g) (C := [((c.1 ≤ 601024 ∧ c.2 ≤ 7293034) ∧ 1 ≤ f ∧ 60 ≤ w)]) 3 3 rfl hR0 ?_
  refine z_Ln.call (s := 0) (mj := 41) (as := [.ref 83, .int 3]) (rr := []) (v := some (.int 110)) (T1 := (hC A E N V W ++ g, c)) rfl rfl ⟨⟨by omega, by have : z_pg.2.1 41 = 2 := rfl; omega⟩, (by decide : (0 : Nat) ≤ 8), (by decide +kernel : (2 : Nat) ≤ z_pg.2.1 41)⟩ hRm (s41_21_3 hRm (by omega) (by omega)) ⟨trivial, ⟨(Or.inl (by decide)), trivial, trivial⟩⟩ ?_
  exact z_Ln.ret rfl rfl
set_option maxRecDepth 10000 in
theorem s41_22_0 {L : Nat} {xs : Nat → Int32} {fv : Value} {f w : Nat} {c : Nat × Nat} {A : Nat → List (Nat × Int32)} {E : List (Nat × Option Nat)} {N : Nat → Nat} {V : Nat → Nat → Int32} {W : Nat} {g : List z_E}  (hRm : z_Rm (hC A E N V W ++ g, c)) (hf : 2 ≤ f) (hw : 150 ≤ w) : z_Ln L xs fv f w 41 0 [(0, .ref 85), (1, .int 0)] [] (hC A E N V W ++ g, c) (.inl (some (.int 101))) (hC A E N V W ++ g, c) := by
  have hR0 : ((c.1 ≤ 601024 ∧ c.2 ≤ 7293034) ∧ 1 ≤ f ∧ 60 ≤ w) := ⟨hRm, by omega, by omega⟩
  have m42 : z_pg.2.1 42 = 2 := rfl
  refine z_Ln.blk (pc' := 3) (lv' := [(0, .ref 85), (1, .int 0)]) (st' := [.int 4, .int 0]) (H' := hC A E N V W ++ g) (C := [((c.1 ≤ 601024 ∧ c.2 ≤ 7293034) ∧ 1 ≤ f ∧ 60 ≤ w)]) 0 3 rfl hR0 ?_
  refine z_Ln.call (s := 0) (mj := 42) (as := [.int 0, .int 4]) (rr := []) (v := none) (T1 := (hC A E N V W ++ g, c)) rfl rfl ⟨⟨by omega, by have : z_pg.2.1 42 = 2 := rfl; omega⟩, (by decide : (0 : Nat) ≤ 8), (by decide +kernel : (2 : Nat) ≤ z_pg.2.1 42)⟩ hRm (s42_0_4 hRm (by omega) (by omega)) ⟨trivial, ⟨(Or.inl (by decide)), trivial, trivial⟩⟩ ?_
  refine z_Ln.blk (pc' := 14) (lv' := [(0, .ref 85), (1, .int 0)]) (st' := [.int 101]) (H' := hC A E N V W ++ g) (C := [((c.1 ≤ 601024 ∧ c.2 ≤ 7293034) ∧ 1 ≤ f ∧ 60 ≤ w), z_in 0 4 = true]) 4 6 rfl ⟨hR0, (by decide : z_in 0 4 = true)⟩ ?_
  exact z_Ln.ret rfl rfl
set_option maxRecDepth 10000 in
theorem s39_22_0 {L : Nat} {xs : Nat → Int32} {fv : Value} {f w : Nat} {c : Nat × Nat} {A : Nat → List (Nat × Int32)} {E : List (Nat × Option Nat)} {N : Nat → Nat} {V : Nat → Nat → Int32} {W : Nat} {g : List z_E}  (hRm : z_Rm (hC A E N V W ++ g, c)) (hf : 3 ≤ f) (hw : 250 ≤ w) : z_Ln L xs fv f w 39 0 [(0, .ref 84), (1, .int 0)] [] (hC A E N V W ++ g, c) (.inl (some (.int 101))) (hC A E N V W ++ g, c) := by
  have hR0 : ((c.1 ≤ 601024 ∧ c.2 ≤ 7293034) ∧ 1 ≤ f ∧ 60 ≤ w) := ⟨hRm, by omega, by omega⟩
  have m40 : z_pg.2.1 40 = 1 := rfl
  have m41 : z_pg.2.1 41 = 2 := rfl
  refine z_Ln.blk (pc' := 1) (lv' := [(0, .ref 84), (1, .int 0)]) (st' := [.ref 84]) (H' := hC A E N V W ++ g) (C := []) 0 1 rfl trivial ?_
  refine z_Ln.call (s := 0) (mj := 40) (as := [.ref 84]) (rr := []) (v := some (.int 1)) (T1 := (hC A E N V W ++ g, c)) rfl rfl ⟨⟨by omega, by have : z_pg.2.1 40 = 1 := rfl; omega⟩, (by decide : (0 : Nat) ≤ 8), (by decide +kernel : (1 : Nat) ≤ z_pg.2.1 40)⟩ hRm (s40_22 hRm (by omega) (by omega)) ⟨trivial, ⟨(Or.inl (by decide)), trivial, trivial⟩⟩ ?_
  refine z_Ln.blk (pc' := (if decide (1 = 0) = true then 16 else 7)) (lv' := [(0, .ref 84), (1, .int 0)]) (st' := []) (H' := hC A E N V W ++ g) (C := []) 2 1 rfl trivial (z_Ln.brF (decide_eq_false (by decide)) ?_)
  refine z_Ln.blk (pc' := 12) (lv' := [(0, .ref 84), (1, .int 0)]) (st' := [.int 0, .ref 85]) (H' := hC A E N V W ++ g) (C := [((c.1 ≤ 601024 ∧ c.2 ≤ 7293034) ∧ 1 ≤ f ∧ 60 ≤ w)]) 3 3 rfl hR0 ?_
  refine z_Ln.call (s := 0) (mj := 41) (as := [.ref 85, .int 0]) (rr := []) (v := some (.int 101)) (T1 := (hC A E N V W ++ g, c)) rfl rfl ⟨⟨by omega, by have : z_pg.2.1 41 = 2 := rfl; omega⟩, (by decide : (0 : Nat) ≤ 8), (by decide +kernel : (2 : Nat) ≤ z_pg.2.1 41)⟩ hRm (s41_22_0 hRm (by omega) (by omega)) ⟨trivial, ⟨(Or.inl (by decide)), trivial, trivial⟩⟩ ?_
  exact z_Ln.ret rfl rfl
set_option maxRecDepth 10000 in
theorem s41_22_1 {L : Nat} {xs : Nat → Int32} {fv : Value} {f w : Nat} {c : Nat × Nat} {A : Nat → List (Nat × Int32)} {E : List (Nat × Option Nat)} {N : Nat → Nat} {V : Nat → Nat → Int32} {W : Nat} {g : List z_E}  (hRm : z_Rm (hC A E N V W ++ g, c)) (hf : 2 ≤ f) (hw : 150 ≤ w) : z_Ln L xs fv f w 41 0 [(0, .ref 85), (1, .int 1)] [] (hC A E N V W ++ g, c) (.inl (some (.int 108))) (hC A E N V W ++ g, c) := by
  have hR0 : ((c.1 ≤ 601024 ∧ c.2 ≤ 7293034) ∧ 1 ≤ f ∧ 60 ≤ w) := ⟨hRm, by omega, by omega⟩
  have m42 : z_pg.2.1 42 = 2 := rfl
  refine z_Ln.blk (pc' := 3) (lv' := [(0, .ref 85), (1, .int 1)]) (st' := [.int 4, .int 1]) (H' := hC A E N V W ++ g) (C := [((c.1 ≤ 601024 ∧ c.2 ≤ 7293034) ∧ 1 ≤ f ∧ 60 ≤ w)]) 0 3 rfl hR0 ?_
  refine z_Ln.call (s := 0) (mj := 42) (as := [.int 1, .int 4]) (rr := []) (v := none) (T1 := (hC A E N V W ++ g, c)) rfl rfl ⟨⟨by omega, by have : z_pg.2.1 42 = 2 := rfl; omega⟩, (by decide : (0 : Nat) ≤ 8), (by decide +kernel : (2 : Nat) ≤ z_pg.2.1 42)⟩ hRm (s42_1_4 hRm (by omega) (by omega)) ⟨trivial, ⟨(Or.inl (by decide)), trivial, trivial⟩⟩ ?_
  refine z_Ln.blk (pc' := 14) (lv' := [(0, .ref 85), (1, .int 1)]) (st' := [.int 108]) (H' := hC A E N V W ++ g) (C := [((c.1 ≤ 601024 ∧ c.2 ≤ 7293034) ∧ 1 ≤ f ∧ 60 ≤ w), z_in 1 4 = true]) 4 6 rfl ⟨hR0, (by decide : z_in 1 4 = true)⟩ ?_
  exact z_Ln.ret rfl rfl
set_option maxRecDepth 10000 in
theorem s39_22_1 {L : Nat} {xs : Nat → Int32} {fv : Value} {f w : Nat} {c : Nat × Nat} {A : Nat → List (Nat × Int32)} {E : List (Nat × Option Nat)} {N : Nat → Nat} {V : Nat → Nat → Int32} {W : Nat} {g : List z_E}  (hRm : z_Rm (hC A E N V W ++ g, c)) (hf : 3 ≤ f) (hw : 250 ≤ w) : z_Ln L xs fv f w 39 0 [(0, .ref 84), (1, .int 1)] [] (hC A E N V W ++ g, c) (.inl (some (.int 108))) (hC A E N V W ++ g, c) := by
  have hR0 : ((c.1 ≤ 601024 ∧ c.2 ≤ 7293034) ∧ 1 ≤ f ∧ 60 ≤ w) := ⟨hRm, by omega, by omega⟩
  have m40 : z_pg.2.1 40 = 1 := rfl
  have m41 : z_pg.2.1 41 = 2 := rfl
  refine z_Ln.blk (pc' := 1) (lv' := [(0, .ref 84), (1, .int 1)]) (st' := [.ref 84]) (H' := hC A E N V W ++ g) (C := []) 0 1 rfl trivial ?_
  refine z_Ln.call (s := 0) (mj := 40) (as := [.ref 84]) (rr := []) (v := some (.int 1)) (T1 := (hC A E N V W ++ g, c)) rfl rfl ⟨⟨by omega, by have : z_pg.2.1 40 = 1 := rfl; omega⟩, (by decide : (0 : Nat) ≤ 8), (by decide +kernel : (1 : Nat) ≤ z_pg.2.1 40)⟩ hRm (s40_22 hRm (by omega) (by omega)) ⟨trivial, ⟨(Or.inl (by decide)), trivial, trivial⟩⟩ ?_
  refine z_Ln.blk (pc' := (if decide (1 = 0) = true then 16 else 7)) (lv' := [(0, .ref 84), (1, .int 1)]) (st' := []) (H' := hC A E N V W ++ g) (C := []) 2 1 rfl trivial (z_Ln.brF (decide_eq_false (by decide)) ?_)
  refine z_Ln.blk (pc' := 12) (lv' := [(0, .ref 84), (1, .int 1)]) (st' := [.int 1, .ref 85]) (H' := hC A E N V W ++ g) (C := [((c.1 ≤ 601024 ∧ c.2 ≤ 7293034) ∧ 1 ≤ f ∧ 60 ≤ w)]) 3 3 rfl hR0 ?_
  refine z_Ln.call (s := 0) (mj := 41) (as := [.ref 85, .int 1]) (rr := []) (v := some (.int 108)) (T1 := (hC A E N V W ++ g, c)) rfl rfl ⟨⟨by omega, by have : z_pg.2.1 41 = 2 := rfl; omega⟩, (by decide : (0 : Nat) ≤ 8), (by decide +kernel : (2 : Nat) ≤ z_pg.2.1 41)⟩ hRm (s41_22_1 hRm (by omega) (by omega)) ⟨trivial, ⟨(Or.inl (by decide)), trivial, trivial⟩⟩ ?_
  exact z_Ln.ret rfl rfl
set_option maxRecDepth 10000 in
theorem s41_22_2 {L : Nat} {xs : Nat → Int32} {fv : Value} {f w : Nat} {c : Nat × Nat} {A : Nat → List (Nat × Int32)} {E : List (Nat × Option Nat)} {N : Nat → Nat} {V : Nat → Nat → Int32} {W : Nat} {g : List z_E}  (hRm : z_Rm (hC A E N V W ++ g, c)) (hf : 2 ≤ f) (hw : 150 ≤ w) : z_Ln L xs fv f w 41 0 [(0, .ref 85), (1, .int 2)] [] (hC A E N V W ++ g, c) (.inl (some (.int 115))) (hC A E N V W ++ g, c) := by
  have hR0 : ((c.1 ≤ 601024 ∧ c.2 ≤ 7293034) ∧ 1 ≤ f ∧ 60 ≤ w) := ⟨hRm, by omega, by omega⟩
  have m42 : z_pg.2.1 42 = 2 := rfl
  refine z_Ln.blk (pc' := 3) (lv' := [(0, .ref 85), (1, .int 2)]) (st' := [.int 4, .int 2]) (H' := hC A E N V W ++ g) (C := [((c.1 ≤ 601024 ∧ c.2 ≤ 7293034) ∧ 1 ≤ f ∧ 60 ≤ w)]) 0 3 rfl hR0 ?_
  refine z_Ln.call (s := 0) (mj := 42) (as := [.int 2, .int 4]) (rr := []) (v := none) (T1 := (hC A E N V W ++ g, c)) rfl rfl ⟨⟨by omega, by have : z_pg.2.1 42 = 2 := rfl; omega⟩, (by decide : (0 : Nat) ≤ 8), (by decide +kernel : (2 : Nat) ≤ z_pg.2.1 42)⟩ hRm (s42_2_4 hRm (by omega) (by omega)) ⟨trivial, ⟨(Or.inl (by decide)), trivial, trivial⟩⟩ ?_
  refine z_Ln.blk (pc' := 14) (lv' := [(0, .ref 85), (1, .int 2)]) (st' := [.int 115]) (H' := hC A E N V W ++ g) (C := [((c.1 ≤ 601024 ∧ c.2 ≤ 7293034) ∧ 1 ≤ f ∧ 60 ≤ w), z_in 2 4 = true]) 4 6 rfl ⟨hR0, (by decide : z_in 2 4 = true)⟩ ?_
  exact z_Ln.ret rfl rfl
set_option maxRecDepth 10000 in
theorem s39_22_2 {L : Nat} {xs : Nat → Int32} {fv : Value} {f w : Nat} {c : Nat × Nat} {A : Nat → List (Nat × Int32)} {E : List (Nat × Option Nat)} {N : Nat → Nat} {V : Nat → Nat → Int32} {W : Nat} {g : List z_E}  (hRm : z_Rm (hC A E N V W ++ g, c)) (hf : 3 ≤ f) (hw : 250 ≤ w) : z_Ln L xs fv f w 39 0 [(0, .ref 84), (1, .int 2)] [] (hC A E N V W ++ g, c) (.inl (some (.int 115))) (hC A E N V W ++ g, c) := by
  have hR0 : ((c.1 ≤ 601024 ∧ c.2 ≤ 7293034) ∧ 1 ≤ f ∧ 60 ≤ w) := ⟨hRm, by omega, by omega⟩
  have m40 : z_pg.2.1 40 = 1 := rfl
  have m41 : z_pg.2.1 41 = 2 := rfl
  refine z_Ln.blk (pc' := 1) (lv' := [(0, .ref 84), (1, .int 2)]) (st' := [.ref 84]) (H' := hC A E N V W ++ g) (C := []) 0 1 rfl trivial ?_
  refine z_Ln.call (s := 0) (mj := 40) (as := [.ref 84]) (rr := []) (v := some (.int 1)) (T1 := (hC A E N V W ++ g, c)) rfl rfl ⟨⟨by omega, by have : z_pg.2.1 40 = 1 := rfl; omega⟩, (by decide : (0 : Nat) ≤ 8), (by decide +kernel : (1 : Nat) ≤ z_pg.2.1 40)⟩ hRm (s40_22 hRm (by omega) (by omega)) ⟨trivial, ⟨(Or.inl (by decide)), trivial, trivial⟩⟩ ?_
  refine z_Ln.blk (pc' := (if decide (1 = 0) = true then 16 else 7)) (lv' := [(0, .ref 84), (1, .int 2)]) (st' := []) (H' := hC A E N V W ++ g) (C := []) 2 1 rfl trivial (z_Ln.brF (decide_eq_false (by decide)) ?_)
  refine z_Ln.blk (pc' := 12) (lv' := [(0, .ref 84), (1, .int 2)]) (st' := [.int 2, .ref 85]) (H' := hC A E N V W ++ g) (C := [((c.1 ≤ 601024 ∧ c.2 ≤ 7293034) ∧ 1 ≤ f ∧ 60 ≤ w)]) 3 3 rfl hR0 ?_
  refine z_Ln.call (s := 0) (mj := 41) (as := [.ref 85, .int 2]) (rr := []) (v := some (.int 115)) (T1 := (hC A E N V W ++ g, c)) rfl rfl ⟨⟨by omega, by have : z_pg.2.1 41 = 2 := rfl; omega⟩, (by decide : (0 : Nat) ≤ 8), (by decide +kernel : (2 : Nat) ≤ z_pg.2.1 41)⟩ hRm (s41_22_2 hRm (by omega) (by omega)) ⟨trivial, ⟨(Or.inl (by decide)), trivial, trivial⟩⟩ ?_
  exact z_Ln.ret rfl rfl
set_option maxRecDepth 10000 in
theorem s41_22_3 {L : Nat} {xs : Nat → Int32} {fv : Value} {f w : Nat} {c : Nat × Nat} {A : Nat → List (Nat × Int32)} {E : List (Nat × Option Nat)} {N : Nat → Nat} {V : Nat → Nat → Int32} {W : Nat} {g : List z_E}  (hRm : z_Rm (hC A E N V W ++ g, c)) (hf : 2 ≤ f) (hw : 150 ≤ w) : z_Ln L xs fv f w 41 0 [(0, .ref 85), (1, .int 3)] [] (hC A E N V W ++ g, c) (.inl (some (.int 101))) (hC A E N V W ++ g, c) := by
  have hR0 : ((c.1 ≤ 601024 ∧ c.2 ≤ 7293034) ∧ 1 ≤ f ∧ 60 ≤ w) := ⟨hRm, by omega, by omega⟩
  have m42 : z_pg.2.1 42 = 2 := rfl
  refine z_Ln.blk (pc' := 3) (lv' := [(0, .ref 85), (1, .int 3)]) (st' := [.int 4, .int 3]) (H' := hC A E N V W ++ g) (C := [((c.1 ≤ 601024 ∧ c.2 ≤ 7293034) ∧ 1 ≤ f ∧ 60 ≤ w)]) 0 3 rfl hR0 ?_
  refine z_Ln.call (s := 0) (mj := 42) (as := [.int 3, .int 4]) (rr := []) (v := none) (T1 := (hC A E N V W ++ g, c)) rfl rfl ⟨⟨by omega, by have : z_pg.2.1 42 = 2 := rfl; omega⟩, (by decide : (0 : Nat) ≤ 8), (by decide +kernel : (2 : Nat) ≤ z_pg.2.1 42)⟩ hRm (s42_3_4 hRm (by omega) (by omega)) ⟨trivial, ⟨(Or.inl (by decide)), trivial, trivial⟩⟩ ?_
  refine z_Ln.blk (pc' := 14) (lv' := [(0, .ref 85), (1, .int 3)]) (st' := [.int 101]) (H' := hC A E N V W ++ g) (C := [((c.1 ≤ 601024 ∧ c.2 ≤ 7293034) ∧ 1 ≤ f ∧ 60 ≤ w), z_in 3 4 = true]) 4 6 rfl ⟨hR0, (by decide : z_in 3 4 = true)⟩ ?_
  exact z_Ln.ret rfl rfl
set_option maxRecDepth 10000 in
theorem s39_22_3 {L : Nat} {xs : Nat → Int32} {fv : Value} {f w : Nat} {c : Nat × Nat} {A : Nat → List (Nat × Int32)} {E : List (Nat × Option Nat)} {N : Nat → Nat} {V : Nat → Nat → Int32} {W : Nat} {g : List z_E}  (hRm : z_Rm (hC A E N V W ++ g, c)) (hf : 3 ≤ f) (hw : 250 ≤ w) : z_Ln L xs fv f w 39 0 [(0, .ref 84), (1, .int 3)] [] (hC A E N V W ++ g, c) (.inl (some (.int 101))) (hC A E N V W ++ g, c) := by
  have hR0 : ((c.1 ≤ 601024 ∧ c.2 ≤ 7293034) ∧ 1 ≤ f ∧ 60 ≤ w) := ⟨hRm, by omega, by omega⟩
  have m40 : z_pg.2.1 40 = 1 := rfl
  have m41 : z_pg.2.1 41 = 2 := rfl
  refine z_Ln.blk (pc' := 1) (lv' := [(0, .ref 84), (1, .int 3)]) (st' := [.ref 84]) (H' := hC A E N V W ++ g) (C := []) 0 1 rfl trivial ?_
  refine z_Ln.call (s := 0) (mj := 40) (as := [.ref 84]) (rr := []) (v := some (.int 1)) (T1 := (hC A E N V W ++ g, c)) rfl rfl ⟨⟨by omega, by have : z_pg.2.1 40 = 1 := rfl; omega⟩, (by decide : (0 : Nat) ≤ 8), (by decide +kernel : (1 : Nat) ≤ z_pg.2.1 40)⟩ hRm (s40_22 hRm (by omega) (by omega)) ⟨trivial, ⟨(Or.inl (by decide)), trivial, trivial⟩⟩ ?_
  refine z_Ln.blk (pc' := (if decide (1 = 0) = true then 16 else 7)) (lv' := [(0, .ref 84), (1, .int 3)]) (st' := []) (H' := hC A E N V W ++ g) (C := []) 2 1 rfl trivial (z_Ln.brF (decide_eq_false (by decide)) ?_)
  refine z_Ln.blk (pc' := 12) (lv' := [(0, .ref 84), (1, .int 3)]) (st' := [.int 3, .ref 85]) (H' := hC A E N V W ++ g) (C := [((c.1 ≤ 601024 ∧ c.2 ≤ 7293034) ∧ 1 ≤ f ∧ 60 ≤ w)]) 3 3 rfl hR0 ?_
  refine z_Ln.call (s := 0) (mj := 41) (as := [.ref 85, .int 3]) (rr := []) (v := some (.int 101)) (T1 := (hC A E N V W ++ g, c)) rfl rfl ⟨⟨by omega, by have : z_pg.2.1 41 = 2 := rfl; omega⟩, (by decide : (0 : Nat) ≤ 8), (by decide +kernel : (2 : Nat) ≤ z_pg.2.1 41)⟩ hRm (s41_22_3 hRm (by omega) (by omega)) ⟨trivial, ⟨(Or.inl (by decide)), trivial, trivial⟩⟩ ?_
  exact z_Ln.ret rfl rfl
set_option maxRecDepth 10000 in
theorem s41_23_0 {L : Nat} {xs : Nat → Int32} {fv : Value} {f w : Nat} {c : Nat × Nat} {A : Nat → List (Nat × Int32)} {E : List (Nat × Option Nat)} {N : Nat → Nat} {V : Nat → Nat → Int32} {W : Nat} {g : List z_E}  (hRm : z_Rm (hC A E N V W ++ g, c)) (hf : 2 ≤ f) (hw : 150 ≤ w) : z_Ln L xs fv f w 41 0 [(0, .ref 87), (1, .int 0)] [] (hC A E N V W ++ g, c) (.inl (some (.int 102))) (hC A E N V W ++ g, c) := by
  have hR0 : ((c.1 ≤ 601024 ∧ c.2 ≤ 7293034) ∧ 1 ≤ f ∧ 60 ≤ w) := ⟨hRm, by omega, by omega⟩
  have m42 : z_pg.2.1 42 = 2 := rfl
  refine z_Ln.blk (pc' := 3) (lv' := [(0, .ref 87), (1, .int 0)]) (st' := [.int 2, .int 0]) (H' := hC A E N V W ++ g) (C := [((c.1 ≤ 601024 ∧ c.2 ≤ 7293034) ∧ 1 ≤ f ∧ 60 ≤ w)]) 0 3 rfl hR0 ?_
  refine z_Ln.call (s := 0) (mj := 42) (as := [.int 0, .int 2]) (rr := []) (v := none) (T1 := (hC A E N V W ++ g, c)) rfl rfl ⟨⟨by omega, by have : z_pg.2.1 42 = 2 := rfl; omega⟩, (by decide : (0 : Nat) ≤ 8), (by decide +kernel : (2 : Nat) ≤ z_pg.2.1 42)⟩ hRm (s42_0_2 hRm (by omega) (by omega)) ⟨trivial, ⟨(Or.inl (by decide)), trivial, trivial⟩⟩ ?_
  refine z_Ln.blk (pc' := 14) (lv' := [(0, .ref 87), (1, .int 0)]) (st' := [.int 102]) (H' := hC A E N V W ++ g) (C := [((c.1 ≤ 601024 ∧ c.2 ≤ 7293034) ∧ 1 ≤ f ∧ 60 ≤ w), z_in 0 2 = true]) 4 6 rfl ⟨hR0, (by decide : z_in 0 2 = true)⟩ ?_
  exact z_Ln.ret rfl rfl
set_option maxRecDepth 10000 in
theorem s39_23_0 {L : Nat} {xs : Nat → Int32} {fv : Value} {f w : Nat} {c : Nat × Nat} {A : Nat → List (Nat × Int32)} {E : List (Nat × Option Nat)} {N : Nat → Nat} {V : Nat → Nat → Int32} {W : Nat} {g : List z_E}  (hRm : z_Rm (hC A E N V W ++ g, c)) (hf : 3 ≤ f) (hw : 250 ≤ w) : z_Ln L xs fv f w 39 0 [(0, .ref 86), (1, .int 0)] [] (hC A E N V W ++ g, c) (.inl (some (.int 102))) (hC A E N V W ++ g, c) := by
  have hR0 : ((c.1 ≤ 601024 ∧ c.2 ≤ 7293034) ∧ 1 ≤ f ∧ 60 ≤ w) := ⟨hRm, by omega, by omega⟩
  have m40 : z_pg.2.1 40 = 1 := rfl
  have m41 : z_pg.2.1 41 = 2 := rfl
  refine z_Ln.blk (pc' := 1) (lv' := [(0, .ref 86), (1, .int 0)]) (st' := [.ref 86]) (H' := hC A E N V W ++ g) (C := []) 0 1 rfl trivial ?_
  refine z_Ln.call (s := 0) (mj := 40) (as := [.ref 86]) (rr := []) (v := some (.int 1)) (T1 := (hC A E N V W ++ g, c)) rfl rfl ⟨⟨by omega, by have : z_pg.2.1 40 = 1 := rfl; omega⟩, (by decide : (0 : Nat) ≤ 8), (by decide +kernel : (1 : Nat) ≤ z_pg.2.1 40)⟩ hRm (s40_23 hRm (by omega) (by omega)) ⟨trivial, ⟨(Or.inl (by decide)), trivial, trivial⟩⟩ ?_
  refine z_Ln.blk (pc' := (if decide (1 = 0) = true then 16 else 7)) (lv' := [(0, .ref 86), (1, .int 0)]) (st' := []) (H' := hC A E N V W ++ g) (C := []) 2 1 rfl trivial (z_Ln.brF (decide_eq_false (by decide)) ?_)
  refine z_Ln.blk (pc' := 12) (lv' := [(0, .ref 86), (1, .int 0)]) (st' := [.int 0, .ref 87]) (H' := hC A E N V W ++ g) (C := [((c.1 ≤ 601024 ∧ c.2 ≤ 7293034) ∧ 1 ≤ f ∧ 60 ≤ w)]) 3 3 rfl hR0 ?_
  refine z_Ln.call (s := 0) (mj := 41) (as := [.ref 87, .int 0]) (rr := []) (v := some (.int 102)) (T1 := (hC A E N V W ++ g, c)) rfl rfl ⟨⟨by omega, by have : z_pg.2.1 41 = 2 := rfl; omega⟩, (by decide : (0 : Nat) ≤ 8), (by decide +kernel : (2 : Nat) ≤ z_pg.2.1 41)⟩ hRm (s41_23_0 hRm (by omega) (by omega)) ⟨trivial, ⟨(Or.inl (by decide)), trivial, trivial⟩⟩ ?_
  exact z_Ln.ret rfl rfl
set_option maxRecDepth 10000 in
theorem s41_23_1 {L : Nat} {xs : Nat → Int32} {fv : Value} {f w : Nat} {c : Nat × Nat} {A : Nat → List (Nat × Int32)} {E : List (Nat × Option Nat)} {N : Nat → Nat} {V : Nat → Nat → Int32} {W : Nat} {g : List z_E}  (hRm : z_Rm (hC A E N V W ++ g, c)) (hf : 2 ≤ f) (hw : 150 ≤ w) : z_Ln L xs fv f w 41 0 [(0, .ref 87), (1, .int 1)] [] (hC A E N V W ++ g, c) (.inl (some (.int 110))) (hC A E N V W ++ g, c) := by
  have hR0 : ((c.1 ≤ 601024 ∧ c.2 ≤ 7293034) ∧ 1 ≤ f ∧ 60 ≤ w) := ⟨hRm, by omega, by omega⟩
  have m42 : z_pg.2.1 42 = 2 := rfl
  refine z_Ln.blk (pc' := 3) (lv' := [(0, .ref 87), (1, .int 1)]) (st' := [.int 2, .int 1]) (H' := hC A E N V W ++ g) (C := [((c.1 ≤ 601024 ∧ c.2 ≤ 7293034) ∧ 1 ≤ f ∧ 60 ≤ w)]) 0 3 rfl hR0 ?_
  refine z_Ln.call (s := 0) (mj := 42) (as := [.int 1, .int 2]) (rr := []) (v := none) (T1 := (hC A E N V W ++ g, c)) rfl rfl ⟨⟨by omega, by have : z_pg.2.1 42 = 2 := rfl; omega⟩, (by decide : (0 : Nat) ≤ 8), (by decide +kernel : (2 : Nat) ≤ z_pg.2.1 42)⟩ hRm (s42_1_2 hRm (by omega) (by omega)) ⟨trivial, ⟨(Or.inl (by decide)), trivial, trivial⟩⟩ ?_
  refine z_Ln.blk (pc' := 14) (lv' := [(0, .ref 87), (1, .int 1)]) (st' := [.int 110]) (H' := hC A E N V W ++ g) (C := [((c.1 ≤ 601024 ∧ c.2 ≤ 7293034) ∧ 1 ≤ f ∧ 60 ≤ w), z_in 1 2 = true]) 4 6 rfl ⟨hR0, (by decide : z_in 1 2 = true)⟩ ?_
  exact z_Ln.ret rfl rfl
set_option maxRecDepth 10000 in
theorem s39_23_1 {L : Nat} {xs : Nat → Int32} {fv : Value} {f w : Nat} {c : Nat × Nat} {A : Nat → List (Nat × Int32)} {E : List (Nat × Option Nat)} {N : Nat → Nat} {V : Nat → Nat → Int32} {W : Nat} {g : List z_E}  (hRm : z_Rm (hC A E N V W ++ g, c)) (hf : 3 ≤ f) (hw : 250 ≤ w) : z_Ln L xs fv f w 39 0 [(0, .ref 86), (1, .int 1)] [] (hC A E N V W ++ g, c) (.inl (some (.int 110))) (hC A E N V W ++ g, c) := by
  have hR0 : ((c.1 ≤ 601024 ∧ c.2 ≤ 7293034) ∧ 1 ≤ f ∧ 60 ≤ w) := ⟨hRm, by omega, by omega⟩
  have m40 : z_pg.2.1 40 = 1 := rfl
  have m41 : z_pg.2.1 41 = 2 := rfl
  refine z_Ln.blk (pc' := 1) (lv' := [(0, .ref 86), (1, .int 1)]) (st' := [.ref 86]) (H' := hC A E N V W ++ g) (C := []) 0 1 rfl trivial ?_
  refine z_Ln.call (s := 0) (mj := 40) (as := [.ref 86]) (rr := []) (v := some (.int 1)) (T1 := (hC A E N V W ++ g, c)) rfl rfl ⟨⟨by omega, by have : z_pg.2.1 40 = 1 := rfl; omega⟩, (by decide : (0 : Nat) ≤ 8), (by decide +kernel : (1 : Nat) ≤ z_pg.2.1 40)⟩ hRm (s40_23 hRm (by omega) (by omega)) ⟨trivial, ⟨(Or.inl (by decide)), trivial, trivial⟩⟩ ?_
  refine z_Ln.blk (pc' := (if decide (1 = 0) = true then 16 else 7)) (lv' := [(0, .ref 86), (1, .int 1)]) (st' := []) (H' := hC A E N V W ++ g) (C := []) 2 1 rfl trivial (z_Ln.brF (decide_eq_false (by decide)) ?_)
  refine z_Ln.blk (pc' := 12) (lv' := [(0, .ref 86), (1, .int 1)]) (st' := [.int 1, .ref 87]) (H' := hC A E N V W ++ g) (C := [((c.1 ≤ 601024 ∧ c.2 ≤ 7293034) ∧ 1 ≤ f ∧ 60 ≤ w)]) 3 3 rfl hR0 ?_
  refine z_Ln.call (s := 0) (mj := 41) (as := [.ref 87, .int 1]) (rr := []) (v := some (.int 110)) (T1 := (hC A E N V W ++ g, c)) rfl rfl ⟨⟨by omega, by have : z_pg.2.1 41 = 2 := rfl; omega⟩, (by decide : (0 : Nat) ≤ 8), (by decide +kernel : (2 : Nat) ≤ z_pg.2.1 41)⟩ hRm (s41_23_1 hRm (by omega) (by omega)) ⟨trivial, ⟨(Or.inl (by decide)), trivial, trivial⟩⟩ ?_
  exact z_Ln.ret rfl rfl
set_option maxRecDepth 10000 in
theorem s41_24_0 {L : Nat} {xs : Nat → Int32} {fv : Value} {f w : Nat} {c : Nat × Nat} {A : Nat → List (Nat × Int32)} {E : List (Nat × Option Nat)} {N : Nat → Nat} {V : Nat → Nat → Int32} {W : Nat} {g : List z_E}  (hRm : z_Rm (hC A E N V W ++ g, c)) (hf : 2 ≤ f) (hw : 150 ≤ w) : z_Ln L xs fv f w 41 0 [(0, .ref 89), (1, .int 0)] [] (hC A E N V W ++ g, c) (.inl (some (.int 104))) (hC A E N V W ++ g, c) := by
  have hR0 : ((c.1 ≤ 601024 ∧ c.2 ≤ 7293034) ∧ 1 ≤ f ∧ 60 ≤ w) := ⟨hRm, by omega, by omega⟩
  have m42 : z_pg.2.1 42 = 2 := rfl
  refine z_Ln.blk (pc' := 3) (lv' := [(0, .ref 89), (1, .int 0)]) (st' := [.int 6, .int 0]) (H' := hC A E N V W ++ g) (C := [((c.1 ≤ 601024 ∧ c.2 ≤ 7293034) ∧ 1 ≤ f ∧ 60 ≤ w)]) 0 3 rfl hR0 ?_
  refine z_Ln.call (s := 0) (mj := 42) (as := [.int 0, .int 6]) (rr := []) (v := none) (T1 := (hC A E N V W ++ g, c)) rfl rfl ⟨⟨by omega, by have : z_pg.2.1 42 = 2 := rfl; omega⟩, (by decide : (0 : Nat) ≤ 8), (by decide +kernel : (2 : Nat) ≤ z_pg.2.1 42)⟩ hRm (s42_0_6 hRm (by omega) (by omega)) ⟨trivial, ⟨(Or.inl (by decide)), trivial, trivial⟩⟩ ?_
  refine z_Ln.blk (pc' := 14) (lv' := [(0, .ref 89), (1, .int 0)]) (st' := [.int 104]) (H' := hC A E N V W ++ g) (C := [((c.1 ≤ 601024 ∧ c.2 ≤ 7293034) ∧ 1 ≤ f ∧ 60 ≤ w), z_in 0 6 = true]) 4 6 rfl ⟨hR0, (by decide : z_in 0 6 = true)⟩ ?_
  exact z_Ln.ret rfl rfl
set_option maxRecDepth 10000 in
theorem s39_24_0 {L : Nat} {xs : Nat → Int32} {fv : Value} {f w : Nat} {c : Nat × Nat} {A : Nat → List (Nat × Int32)} {E : List (Nat × Option Nat)} {N : Nat → Nat} {V : Nat → Nat → Int32} {W : Nat} {g : List z_E}  (hRm : z_Rm (hC A E N V W ++ g, c)) (hf : 3 ≤ f) (hw : 250 ≤ w) : z_Ln L xs fv f w 39 0 [(0, .ref 88), (1, .int 0)] [] (hC A E N V W ++ g, c) (.inl (some (.int 104))) (hC A E N V W ++ g, c) := by
  have hR0 : ((c.1 ≤ 601024 ∧ c.2 ≤ 7293034) ∧ 1 ≤ f ∧ 60 ≤ w) := ⟨hRm, by omega, by omega⟩
  have m40 : z_pg.2.1 40 = 1 := rfl
  have m41 : z_pg.2.1 41 = 2 := rfl
  refine z_Ln.blk (pc' := 1) (lv' := [(0, .ref 88), (1, .int 0)]) (st' := [.ref 88]) (H' := hC A E N V W ++ g) (C := []) 0 1 rfl trivial ?_
  refine z_Ln.call (s := 0) (mj := 40) (as := [.ref 88]) (rr := []) (v := some (.int 1)) (T1 := (hC A E N V W ++ g, c)) rfl rfl ⟨⟨by omega, by have : z_pg.2.1 40 = 1 := rfl; omega⟩, (by decide : (0 : Nat) ≤ 8), (by decide +kernel : (1 : Nat) ≤ z_pg.2.1 40)⟩ hRm (s40_24 hRm (by omega) (by omega)) ⟨trivial, ⟨(Or.inl (by decide)), trivial, trivial⟩⟩ ?_
  refine z_Ln.blk (pc' := (if decide (1 = 0) = true then 16 else 7)) (lv' := [(0, .ref 88), (1, .int 0)]) (st' := []) (H' := hC A E N V W ++ g) (C := []) 2 1 rfl trivial (z_Ln.brF (decide_eq_false (by decide)) ?_)
  refine z_Ln.blk (pc' := 12) (lv' := [(0, .ref 88), (1, .int 0)]) (st' := [.int 0, .ref 89]) (H' := hC A E N V W ++ g) (C := [((c.1 ≤ 601024 ∧ c.2 ≤ 7293034) ∧ 1 ≤ f ∧ 60 ≤ w)]) 3 3 rfl hR0 ?_
  refine z_Ln.call (s := 0) (mj := 41) (as := [.ref 89, .int 0]) (rr := []) (v := some (.int 104)) (T1 := (hC A E N V W ++ g, c)) rfl rfl ⟨⟨by omega, by have : z_pg.2.1 41 = 2 := rfl; omega⟩, (by decide : (0 : Nat) ≤ 8), (by decide +kernel : (2 : Nat) ≤ z_pg.2.1 41)⟩ hRm (s41_24_0 hRm (by omega) (by omega)) ⟨trivial, ⟨(Or.inl (by decide)), trivial, trivial⟩⟩ ?_
  exact z_Ln.ret rfl rfl
set_option maxRecDepth 10000 in
theorem s41_24_1 {L : Nat} {xs : Nat → Int32} {fv : Value} {f w : Nat} {c : Nat × Nat} {A : Nat → List (Nat × Int32)} {E : List (Nat × Option Nat)} {N : Nat → Nat} {V : Nat → Nat → Int32} {W : Nat} {g : List z_E}  (hRm : z_Rm (hC A E N V W ++ g, c)) (hf : 2 ≤ f) (hw : 150 ≤ w) : z_Ln L xs fv f w 41 0 [(0, .ref 89), (1, .int 1)] [] (hC A E N V W ++ g, c) (.inl (some (.int 97))) (hC A E N V W ++ g, c) := by
  have hR0 : ((c.1 ≤ 601024 ∧ c.2 ≤ 7293034) ∧ 1 ≤ f ∧ 60 ≤ w) := ⟨hRm, by omega, by omega⟩
  have m42 : z_pg.2.1 42 = 2 := rfl
  refine z_Ln.blk (pc' := 3) (lv' := [(0, .ref 89), (1, .int 1)]) (st' := [.int 6, .int 1]) (H' := hC A E N V W ++ g) (C := [((c.1 ≤ 601024 ∧ c.2 ≤ 7293034) ∧ 1 ≤ f ∧ 60 ≤ w)]) 0 3 rfl hR0 ?_
  refine z_Ln.call (s := 0) (mj := 42) (as := [.int 1, .int 6]) (rr := []) (v := none) (T1 := (hC A E N V W ++ g, c)) rfl rfl ⟨⟨by omega, by have : z_pg.2.1 42 = 2 := rfl; omega⟩, (by decide : (0 : Nat) ≤ 8), (by decide +kernel : (2 : Nat) ≤ z_pg.2.1 42)⟩ hRm (s42_1_6 hRm (by omega) (by omega)) ⟨trivial, ⟨(Or.inl (by decide)), trivial, trivial⟩⟩ ?_
  refine z_Ln.blk (pc' := 14) (lv' := [(0, .ref 89), (1, .int 1)]) (st' := [.int 97]) (H' := hC A E N V W ++ g) (C := [((c.1 ≤ 601024 ∧ c.2 ≤ 7293034) ∧ 1 ≤ f ∧ 60 ≤ w), z_in 1 6 = true]) 4 6 rfl ⟨hR0, (by decide : z_in 1 6 = true)⟩ ?_
  exact z_Ln.ret rfl rfl
set_option maxRecDepth 10000 in
theorem s39_24_1 {L : Nat} {xs : Nat → Int32} {fv : Value} {f w : Nat} {c : Nat × Nat} {A : Nat → List (Nat × Int32)} {E : List (Nat × Option Nat)} {N : Nat → Nat} {V : Nat → Nat → Int32} {W : Nat} {g : List z_E}  (hRm : z_Rm (hC A E N V W ++ g, c)) (hf : 3 ≤ f) (hw : 250 ≤ w) : z_Ln L xs fv f w 39 0 [(0, .ref 88), (1, .int 1)] [] (hC A E N V W ++ g, c) (.inl (some (.int 97))) (hC A E N V W ++ g, c) := by
  have hR0 : ((c.1 ≤ 601024 ∧ c.2 ≤ 7293034) ∧ 1 ≤ f ∧ 60 ≤ w) := ⟨hRm, by omega, by omega⟩
  have m40 : z_pg.2.1 40 = 1 := rfl
  have m41 : z_pg.2.1 41 = 2 := rfl
  refine z_Ln.blk (pc' := 1) (lv' := [(0, .ref 88), (1, .int 1)]) (st' := [.ref 88]) (H' := hC A E N V W ++ g) (C := []) 0 1 rfl trivial ?_
  refine z_Ln.call (s := 0) (mj := 40) (as := [.ref 88]) (rr := []) (v := some (.int 1)) (T1 := (hC A E N V W ++ g, c)) rfl rfl ⟨⟨by omega, by have : z_pg.2.1 40 = 1 := rfl; omega⟩, (by decide : (0 : Nat) ≤ 8), (by decide +kernel : (1 : Nat) ≤ z_pg.2.1 40)⟩ hRm (s40_24 hRm (by omega) (by omega)) ⟨trivial, ⟨(Or.inl (by decide)), trivial, trivial⟩⟩ ?_
  refine z_Ln.blk (pc' := (if decide (1 = 0) = true then 16 else 7)) (lv' := [(0, .ref 88), (1, .int 1)]) (st' := []) (H' := hC A E N V W ++ g) (C := []) 2 1 rfl trivial (z_Ln.brF (decide_eq_false (by decide)) ?_)
  refine z_Ln.blk (pc' := 12) (lv' := [(0, .ref 88), (1, .int 1)]) (st' := [.int 1, .ref 89]) (H' := hC A E N V W ++ g) (C := [((c.1 ≤ 601024 ∧ c.2 ≤ 7293034) ∧ 1 ≤ f ∧ 60 ≤ w)]) 3 3 rfl hR0 ?_
  refine z_Ln.call (s := 0) (mj := 41) (as := [.ref 89, .int 1]) (rr := []) (v := some (.int 97)) (T1 := (hC A E N V W ++ g, c)) rfl rfl ⟨⟨by omega, by have : z_pg.2.1 41 = 2 := rfl; omega⟩, (by decide : (0 : Nat) ≤ 8), (by decide +kernel : (2 : Nat) ≤ z_pg.2.1 41)⟩ hRm (s41_24_1 hRm (by omega) (by omega)) ⟨trivial, ⟨(Or.inl (by decide)), trivial, trivial⟩⟩ ?_
  exact z_Ln.ret rfl rfl
set_option maxRecDepth 10000 in
theorem s41_24_2 {L : Nat} {xs : Nat → Int32} {fv : Value} {f w : Nat} {c : Nat × Nat} {A : Nat → List (Nat × Int32)} {E : List (Nat × Option Nat)} {N : Nat → Nat} {V : Nat → Nat → Int32} {W : Nat} {g : List z_E}  (hRm : z_Rm (hC A E N V W ++ g, c)) (hf : 2 ≤ f) (hw : 150 ≤ w) : z_Ln L xs fv f w 41 0 [(0, .ref 89), (1, .int 2)] [] (hC A E N V W ++ g, c) (.inl (some (.int 110))) (hC A E N V W ++ g, c) := by
  have hR0 : ((c.1 ≤ 601024 ∧ c.2 ≤ 7293034) ∧ 1 ≤ f ∧ 60 ≤ w) := ⟨hRm, by omega, by omega⟩
  have m42 : z_pg.2.1 42 = 2 := rfl
  refine z_Ln.blk (pc' := 3) (lv' := [(0, .ref 89), (1, .int 2)]) (st' := [.int 6, .int 2]) (H' := hC A E N V W ++ g) (C := [((c.1 ≤ 601024 ∧ c.2 ≤ 7293034) ∧ 1 ≤ f ∧ 60 ≤ w)]) 0 3 rfl hR0 ?_
  refine z_Ln.call (s := 0) (mj := 42) (as := [.int 2, .int 6]) (rr := []) (v := none) (T1 := (hC A E N V W ++ g, c)) rfl rfl ⟨⟨by omega, by have : z_pg.2.1 42 = 2 := rfl; omega⟩, (by decide : (0 : Nat) ≤ 8), (by decide +kernel : (2 : Nat) ≤ z_pg.2.1 42)⟩ hRm (s42_2_6 hRm (by omega) (by omega)) ⟨trivial, ⟨(Or.inl (by decide)), trivial, trivial⟩⟩ ?_
  refine z_Ln.blk (pc' := 14) (lv' := [(0, .ref 89), (1, .int 2)]) (st' := [.int 110]) (H' := hC A E N V W ++ g) (C := [((c.1 ≤ 601024 ∧ c.2 ≤ 7293034) ∧ 1 ≤ f ∧ 60 ≤ w), z_in 2 6 = true]) 4 6 rfl ⟨hR0, (by decide : z_in 2 6 = true)⟩ ?_
  exact z_Ln.ret rfl rfl
set_option maxRecDepth 10000 in
theorem s39_24_2 {L : Nat} {xs : Nat → Int32} {fv : Value} {f w : Nat} {c : Nat × Nat} {A : Nat → List (Nat × Int32)} {E : List (Nat × Option Nat)} {N : Nat → Nat} {V : Nat → Nat → Int32} {W : Nat} {g : List z_E}  (hRm : z_Rm (hC A E N V W ++ g, c)) (hf : 3 ≤ f) (hw : 250 ≤ w) : z_Ln L xs fv f w 39 0 [(0, .ref 88), (1, .int 2)] [] (hC A E N V W ++ g, c) (.inl (some (.int 110))) (hC A E N V W ++ g, c) := by
  have hR0 : ((c.1 ≤ 601024 ∧ c.2 ≤ 7293034) ∧ 1 ≤ f ∧ 60 ≤ w) := ⟨hRm, by omega, by omega⟩
  have m40 : z_pg.2.1 40 = 1 := rfl
  have m41 : z_pg.2.1 41 = 2 := rfl
  refine z_Ln.blk (pc' := 1) (lv' := [(0, .ref 88), (1, .int 2)]) (st' := [.ref 88]) (H' := hC A E N V W ++ g) (C := []) 0 1 rfl trivial ?_
  refine z_Ln.call (s := 0) (mj := 40) (as := [.ref 88]) (rr := []) (v := some (.int 1)) (T1 := (hC A E N V W ++ g, c)) rfl rfl ⟨⟨by omega, by have : z_pg.2.1 40 = 1 := rfl; omega⟩, (by decide : (0 : Nat) ≤ 8), (by decide +kernel : (1 : Nat) ≤ z_pg.2.1 40)⟩ hRm (s40_24 hRm (by omega) (by omega)) ⟨trivial, ⟨(Or.inl (by decide)), trivial, trivial⟩⟩ ?_
  refine z_Ln.blk (pc' := (if decide (1 = 0) = true then 16 else 7)) (lv' := [(0, .ref 88), (1, .int 2)]) (st' := []) (H' := hC A E N V W ++ g) (C := []) 2 1 rfl trivial (z_Ln.brF (decide_eq_false (by decide)) ?_)
  refine z_Ln.blk (pc' := 12) (lv' := [(0, .ref 88), (1, .int 2)]) (st' := [.int 2, .ref 89]) (H' := hC A E N V W ++ g) (C := [((c.1 ≤ 601024 ∧ c.2 ≤ 7293034) ∧ 1 ≤ f ∧ 60 ≤ w)]) 3 3 rfl hR0 ?_
  refine z_Ln.call (s := 0) (mj := 41) (as := [.ref 89, .int 2]) (rr := []) (v := some (.int 110)) (T1 := (hC A E N V W ++ g, c)) rfl rfl ⟨⟨by omega, by have : z_pg.2.1 41 = 2 := rfl; omega⟩, (by decide : (0 : Nat) ≤ 8), (by decide +kernel : (2 : Nat) ≤ z_pg.2.1 41)⟩ hRm (s41_24_2 hRm (by omega) (by omega)) ⟨trivial, ⟨(Or.inl (by decide)), trivial, trivial⟩⟩ ?_
  exact z_Ln.ret rfl rfl
set_option maxRecDepth 10000 in
theorem s41_24_3 {L : Nat} {xs : Nat → Int32} {fv : Value} {f w : Nat} {c : Nat × Nat} {A : Nat → List (Nat × Int32)} {E : List (Nat × Option Nat)} {N : Nat → Nat} {V : Nat → Nat → Int32} {W : Nat} {g : List z_E}  (hRm : z_Rm (hC A E N V W ++ g, c)) (hf : 2 ≤ f) (hw : 150 ≤ w) : z_Ln L xs fv f w 41 0 [(0, .ref 89), (1, .int 3)] [] (hC A E N V W ++ g, c) (.inl (some (.int 100))) (hC A E N V W ++ g, c) := by
  have hR0 : ((c.1 ≤ 601024 ∧ c.2 ≤ 7293034) ∧ 1 ≤ f ∧ 60 ≤ w) := ⟨hRm, by omega, by omega⟩
  have m42 : z_pg.2.1 42 = 2 := rfl
  refine z_Ln.blk (pc' := 3) (lv' := [(0, .ref 89), (1, .int 3)]) (st' := [.int 6, .int 3]) (H' := hC A E N V W ++ g) (C := [((c.1 ≤ 601024 ∧ c.2 ≤ 7293034) ∧ 1 ≤ f ∧ 60 ≤ w)]) 0 3 rfl hR0 ?_
  refine z_Ln.call (s := 0) (mj := 42) (as := [.int 3, .int 6]) (rr := []) (v := none) (T1 := (hC A E N V W ++ g, c)) rfl rfl ⟨⟨by omega, by have : z_pg.2.1 42 = 2 := rfl; omega⟩, (by decide : (0 : Nat) ≤ 8), (by decide +kernel : (2 : Nat) ≤ z_pg.2.1 42)⟩ hRm (s42_3_6 hRm (by omega) (by omega)) ⟨trivial, ⟨(Or.inl (by decide)), trivial, trivial⟩⟩ ?_
  refine z_Ln.blk (pc' := 14) (lv' := [(0, .ref 89), (1, .int 3)]) (st' := [.int 100]) (H' := hC A E N V W ++ g) (C := [((c.1 ≤ 601024 ∧ c.2 ≤ 7293034) ∧ 1 ≤ f ∧ 60 ≤ w), z_in 3 6 = true]) 4 6 rfl ⟨hR0, (by decide : z_in 3 6 = true)⟩ ?_
  exact z_Ln.ret rfl rfl
set_option maxRecDepth 10000 in
theorem s39_24_3 {L : Nat} {xs : Nat → Int32} {fv : Value} {f w : Nat} {c : Nat × Nat} {A : Nat → List (Nat × Int32)} {E : List (Nat × Option Nat)} {N : Nat → Nat} {V : Nat → Nat → Int32} {W : Nat} {g : List z_E}  (hRm : z_Rm (hC A E N V W ++ g, c)) (hf : 3 ≤ f) (hw : 250 ≤ w) : z_Ln L xs fv f w 39 0 [(0, .ref 88), (1, .int 3)] [] (hC A E N V W ++ g, c) (.inl (some (.int 100))) (hC A E N V W ++ g, c) := by
  have hR0 : ((c.1 ≤ 601024 ∧ c.2 ≤ 7293034) ∧ 1 ≤ f ∧ 60 ≤ w) := ⟨hRm, by omega, by omega⟩
  have m40 : z_pg.2.1 40 = 1 := rfl
  have m41 : z_pg.2.1 41 = 2 := rfl
  refine z_Ln.blk (pc' := 1) (lv' := [(0, .ref 88), (1, .int 3)]) (st' := [.ref 88]) (H' := hC A E N V W ++ g) (C := []) 0 1 rfl trivial ?_
  refine z_Ln.call (s := 0) (mj := 40) (as := [.ref 88]) (rr := []) (v := some (.int 1)) (T1 := (hC A E N V W ++ g, c)) rfl rfl ⟨⟨by omega, by have : z_pg.2.1 40 = 1 := rfl; omega⟩, (by decide : (0 : Nat) ≤ 8), (by decide +kernel : (1 : Nat) ≤ z_pg.2.1 40)⟩ hRm (s40_24 hRm (by omega) (by omega)) ⟨trivial, ⟨(Or.inl (by decide)), trivial, trivial⟩⟩ ?_
  refine z_Ln.blk (pc' := (if decide (1 = 0) = true then 16 else 7)) (lv' := [(0, .ref 88), (1, .int 3)]) (st' := []) (H' := hC A E N V W ++ g) (C := []) 2 1 rfl trivial (z_Ln.brF (decide_eq_false (by decide)) ?_)
  refine z_Ln.blk (pc' := 12) (lv' := [(0, .ref 88), (1, .int 3)]) (st' := [.int 3, .ref 89]) (H' := hC A E N V W ++ g) (C := [((c.1 ≤ 601024 ∧ c.2 ≤ 7293034) ∧ 1 ≤ f ∧ 60 ≤ w)]) 3 3 rfl hR0 ?_
  refine z_Ln.call (s := 0) (mj := 41) (as := [.ref 89, .int 3]) (rr := []) (v := some (.int 100)) (T1 := (hC A E N V W ++ g, c)) rfl rfl ⟨⟨by omega, by have : z_pg.2.1 41 = 2 := rfl; omega⟩, (by decide : (0 : Nat) ≤ 8), (by decide +kernel : (2 : Nat) ≤ z_pg.2.1 41)⟩ hRm (s41_24_3 hRm (by omega) (by omega)) ⟨trivial, ⟨(Or.inl (by decide)), trivial, trivial⟩⟩ ?_
  exact z_Ln.ret rfl rfl
set_option maxRecDepth 10000 in
theorem s41_24_4 {L : Nat} {xs : Nat → Int32} {fv : Value} {f w : Nat} {c : Nat × Nat} {A : Nat → List (Nat × Int32)} {E : List (Nat × Option Nat)} {N : Nat → Nat} {V : Nat → Nat → Int32} {W : Nat} {g : List z_E}  (hRm : z_Rm (hC A E N V W ++ g, c)) (hf : 2 ≤ f) (hw : 150 ≤ w) : z_Ln L xs fv f w 41 0 [(0, .ref 89), (1, .int 4)] [] (hC A E N V W ++ g, c) (.inl (some (.int 108))) (hC A E N V W ++ g, c) := by
  have hR0 : ((c.1 ≤ 601024 ∧ c.2 ≤ 7293034) ∧ 1 ≤ f ∧ 60 ≤ w) := ⟨hRm, by omega, by omega⟩
  have m42 : z_pg.2.1 42 = 2 := rfl
  refine z_Ln.blk (pc' := 3) (lv' := [(0, .ref 89), (1, .int 4)]) (st' := [.int 6, .int 4]) (H' := hC A E N V W ++ g) (C := [((c.1 ≤ 601024 ∧ c.2 ≤ 7293034) ∧ 1 ≤ f ∧ 60 ≤ w)]) 0 3 rfl hR0 ?_
  refine z_Ln.call (s := 0) (mj := 42) (as := [.int 4, .int 6]) (rr := []) (v := none) (T1 := (hC A E N V W ++ g, c)) rfl rfl ⟨⟨by omega, by have : z_pg.2.1 42 = 2 := rfl; omega⟩, (by decide : (0 : Nat) ≤ 8), (by decide +kernel : (2 : Nat) ≤ z_pg.2.1 42)⟩ hRm (s42_4_6 hRm (by omega) (by omega)) ⟨trivial, ⟨(Or.inl (by decide)), trivial, trivial⟩⟩ ?_
  refine z_Ln.blk (pc' := 14) (lv' := [(0, .ref 89), (1, .int 4)]) (st' := [.int 108]) (H' := hC A E N V W ++ g) (C := [((c.1 ≤ 601024 ∧ c.2 ≤ 7293034) ∧ 1 ≤ f ∧ 60 ≤ w), z_in 4 6 = true]) 4 6 rfl ⟨hR0, (by decide : z_in 4 6 = true)⟩ ?_
  exact z_Ln.ret rfl rfl
set_option maxRecDepth 10000 in
theorem s39_24_4 {L : Nat} {xs : Nat → Int32} {fv : Value} {f w : Nat} {c : Nat × Nat} {A : Nat → List (Nat × Int32)} {E : List (Nat × Option Nat)} {N : Nat → Nat} {V : Nat → Nat → Int32} {W : Nat} {g : List z_E}  (hRm : z_Rm (hC A E N V W ++ g, c)) (hf : 3 ≤ f) (hw : 250 ≤ w) : z_Ln L xs fv f w 39 0 [(0, .ref 88), (1, .int 4)] [] (hC A E N V W ++ g, c) (.inl (some (.int 108))) (hC A E N V W ++ g, c) := by
  have hR0 : ((c.1 ≤ 601024 ∧ c.2 ≤ 7293034) ∧ 1 ≤ f ∧ 60 ≤ w) := ⟨hRm, by omega, by omega⟩
  have m40 : z_pg.2.1 40 = 1 := rfl
  have m41 : z_pg.2.1 41 = 2 := rfl
  refine z_Ln.blk (pc' := 1) (lv' := [(0, .ref 88), (1, .int 4)]) (st' := [.ref 88]) (H' := hC A E N V W ++ g) (C := []) 0 1 rfl trivial ?_
  refine z_Ln.call (s := 0) (mj := 40) (as := [.ref 88]) (rr := []) (v := some (.int 1)) (T1 := (hC A E N V W ++ g, c)) rfl rfl ⟨⟨by omega, by have : z_pg.2.1 40 = 1 := rfl; omega⟩, (by decide : (0 : Nat) ≤ 8), (by decide +kernel : (1 : Nat) ≤ z_pg.2.1 40)⟩ hRm (s40_24 hRm (by omega) (by omega)) ⟨trivial, ⟨(Or.inl (by decide)), trivial, trivial⟩⟩ ?_
  refine z_Ln.blk (pc' := (if decide (1 = 0) = true then 16 else 7)) (lv' := [(0, .ref 88), (1, .int 4)]) (st' := []) (H' := hC A E N V W ++ g) (C := []) 2 1 rfl trivial (z_Ln.brF (decide_eq_false (by decide)) ?_)
  refine z_Ln.blk (pc' := 12) (lv' := [(0, .ref 88), (1, .int 4)]) (st' := [.int 4, .ref 89]) (H' := hC A E N V W ++ g) (C := [((c.1 ≤ 601024 ∧ c.2 ≤ 7293034) ∧ 1 ≤ f ∧ 60 ≤ w)]) 3 3 rfl hR0 ?_
  refine z_Ln.call (s := 0) (mj := 41) (as := [.ref 89, .int 4]) (rr := []) (v := some (.int 108)) (T1 := (hC A E N V W ++ g, c)) rfl rfl ⟨⟨by omega, by have : z_pg.2.1 41 = 2 := rfl; omega⟩, (by decide : (0 : Nat) ≤ 8), (by decide +kernel : (2 : Nat) ≤ z_pg.2.1 41)⟩ hRm (s41_24_4 hRm (by omega) (by omega)) ⟨trivial, ⟨(Or.inl (by decide)), trivial, trivial⟩⟩ ?_
  exact z_Ln.ret rfl rfl
set_option maxRecDepth 10000 in
theorem s41_24_5 {L : Nat} {xs : Nat → Int32} {fv : Value} {f w : Nat} {c : Nat × Nat} {A : Nat → List (Nat × Int32)} {E : List (Nat × Option Nat)} {N : Nat → Nat} {V : Nat → Nat → Int32} {W : Nat} {g : List z_E}  (hRm : z_Rm (hC A E N V W ++ g, c)) (hf : 2 ≤ f) (hw : 150 ≤ w) : z_Ln L xs fv f w 41 0 [(0, .ref 89), (1, .int 5)] [] (hC A E N V W ++ g, c) (.inl (some (.int 101))) (hC A E N V W ++ g, c) := by
  have hR0 : ((c.1 ≤ 601024 ∧ c.2 ≤ 7293034) ∧ 1 ≤ f ∧ 60 ≤ w) := ⟨hRm, by omega, by omega⟩
  have m42 : z_pg.2.1 42 = 2 := rfl
  refine z_Ln.blk (pc' := 3) (lv' := [(0, .ref 89), (1, .int 5)]) (st' := [.int 6, .int 5]) (H' := hC A E N V W ++ g) (C := [((c.1 ≤ 601024 ∧ c.2 ≤ 7293034) ∧ 1 ≤ f ∧ 60 ≤ w)]) 0 3 rfl hR0 ?_
  refine z_Ln.call (s := 0) (mj := 42) (as := [.int 5, .int 6]) (rr := []) (v := none) (T1 := (hC A E N V W ++ g, c)) rfl rfl ⟨⟨by omega, by have : z_pg.2.1 42 = 2 := rfl; omega⟩, (by decide : (0 : Nat) ≤ 8), (by decide +kernel : (2 : Nat) ≤ z_pg.2.1 42)⟩ hRm (s42_5_6 hRm (by omega) (by omega)) ⟨trivial, ⟨(Or.inl (by decide)), trivial, trivial⟩⟩ ?_
  refine z_Ln.blk (pc' := 14) (lv' := [(0, .ref 89), (1, .int 5)]) (st' := [.int 101]) (H' := hC A E N V W ++ g) (C := [((c.1 ≤ 601024 ∧ c.2 ≤ 7293034) ∧ 1 ≤ f ∧ 60 ≤ w), z_in 5 6 = true]) 4 6 rfl ⟨hR0, (by decide : z_in 5 6 = true)⟩ ?_
  exact z_Ln.ret rfl rfl
set_option maxRecDepth 10000 in
theorem s39_24_5 {L : Nat} {xs : Nat → Int32} {fv : Value} {f w : Nat} {c : Nat × Nat} {A : Nat → List (Nat × Int32)} {E : List (Nat × Option Nat)} {N : Nat → Nat} {V : Nat → Nat → Int32} {W : Nat} {g : List z_E}  (hRm : z_Rm (hC A E N V W ++ g, c)) (hf : 3 ≤ f) (hw : 250 ≤ w) : z_Ln L xs fv f w 39 0 [(0, .ref 88), (1, .int 5)] [] (hC A E N V W ++ g, c) (.inl (some (.int 101))) (hC A E N V W ++ g, c) := by
  have hR0 : ((c.1 ≤ 601024 ∧ c.2 ≤ 7293034) ∧ 1 ≤ f ∧ 60 ≤ w) := ⟨hRm, by omega, by omega⟩
  have m40 : z_pg.2.1 40 = 1 := rfl
  have m41 : z_pg.2.1 41 = 2 := rfl
  refine z_Ln.blk (pc' := 1) (lv' := [(0, .ref 88), (1, .int 5)]) (st' := [.ref 88]) (H' := hC A E N V W ++ g) (C := []) 0 1 rfl trivial ?_
  refine z_Ln.call (s := 0) (mj := 40) (as := [.ref 88]) (rr := []) (v := some (.int 1)) (T1 := (hC A E N V W ++ g, c)) rfl rfl ⟨⟨by omega, by have : z_pg.2.1 40 = 1 := rfl; omega⟩, (by decide : (0 : Nat) ≤ 8), (by decide +kernel : (1 : Nat) ≤ z_pg.2.1 40)⟩ hRm (s40_24 hRm (by omega) (by omega)) ⟨trivial, ⟨(Or.inl (by decide)), trivial, trivial⟩⟩ ?_
  refine z_Ln.blk (pc' := (if decide (1 = 0) = true then 16 else 7)) (lv' := [(0, .ref 88), (1, .int 5)]) (st' := []) (H' := hC A E N V W ++ g) (C := []) 2 1 rfl trivial (z_Ln.brF (decide_eq_false (by decide)) ?_)
  refine z_Ln.blk (pc' := 12) (lv' := [(0, .ref 88), (1, .int 5)]) (st' := [.int 5, .ref 89]) (H' := hC A E N V W ++ g) (C := [((c.1 ≤ 601024 ∧ c.2 ≤ 7293034) ∧ 1 ≤ f ∧ 60 ≤ w)]) 3 3 rfl hR0 ?_
  refine z_Ln.call (s := 0) (mj := 41) (as := [.ref 89, .int 5]) (rr := []) (v := some (.int 101)) (T1 := (hC A E N V W ++ g, c)) rfl rfl ⟨⟨by omega, by have : z_pg.2.1 41 = 2 := rfl; omega⟩, (by decide : (0 : Nat) ≤ 8), (by decide +kernel : (2 : Nat) ≤ z_pg.2.1 41)⟩ hRm (s41_24_5 hRm (by omega) (by omega)) ⟨trivial, ⟨(Or.inl (by decide)), trivial, trivial⟩⟩ ?_
  exact z_Ln.ret rfl rfl
set_option maxRecDepth 10000 in
theorem s41_25_0 {L : Nat} {xs : Nat → Int32} {fv : Value} {f w : Nat} {c : Nat × Nat} {A : Nat → List (Nat × Int32)} {E : List (Nat × Option Nat)} {N : Nat → Nat} {V : Nat → Nat → Int32} {W : Nat} {g : List z_E}  (hRm : z_Rm (hC A E N V W ++ g, c)) (hf : 2 ≤ f) (hw : 150 ≤ w) : z_Ln L xs fv f w 41 0 [(0, .ref 91), (1, .int 0)] [] (hC A E N V W ++ g, c) (.inl (some (.int 119))) (hC A E N V W ++ g, c) := by
  have hR0 : ((c.1 ≤ 601024 ∧ c.2 ≤ 7293034) ∧ 1 ≤ f ∧ 60 ≤ w) := ⟨hRm, by omega, by omega⟩
  have m42 : z_pg.2.1 42 = 2 := rfl
  refine z_Ln.blk (pc' := 3) (lv' := [(0, .ref 91), (1, .int 0)]) (st' := [.int 4, .int 0]) (H' := hC A E N V W ++ g) (C := [((c.1 ≤ 601024 ∧ c.2 ≤ 7293034) ∧ 1 ≤ f ∧ 60 ≤ w)]) 0 3 rfl hR0 ?_
  refine z_Ln.call (s := 0) (mj := 42) (as := [.int 0, .int 4]) (rr := []) (v := none) (T1 := (hC A E N V W ++ g, c)) rfl rfl ⟨⟨by omega, by have : z_pg.2.1 42 = 2 := rfl; omega⟩, (by decide : (0 : Nat) ≤ 8), (by decide +kernel : (2 : Nat) ≤ z_pg.2.1 42)⟩ hRm (s42_0_4 hRm (by omega) (by omega)) ⟨trivial, ⟨(Or.inl (by decide)), trivial, trivial⟩⟩ ?_
  refine z_Ln.blk (pc' := 14) (lv' := [(0, .ref 91), (1, .int 0)]) (st' := [.int 119]) (H' := hC A E N V W ++ g) (C := [((c.1 ≤ 601024 ∧ c.2 ≤ 7293034) ∧ 1 ≤ f ∧ 60 ≤ w), z_in 0 4 = true]) 4 6 rfl ⟨hR0, (by decide : z_in 0 4 = true)⟩ ?_
  exact z_Ln.ret rfl rfl
set_option maxRecDepth 10000 in
theorem s39_25_0 {L : Nat} {xs : Nat → Int32} {fv : Value} {f w : Nat} {c : Nat × Nat} {A : Nat → List (Nat × Int32)} {E : List (Nat × Option Nat)} {N : Nat → Nat} {V : Nat → Nat → Int32} {W : Nat} {g : List z_E}  (hRm : z_Rm (hC A E N V W ++ g, c)) (hf : 3 ≤ f) (hw : 250 ≤ w) : z_Ln L xs fv f w 39 0 [(0, .ref 90), (1, .int 0)] [] (hC A E N V W ++ g, c) (.inl (some (.int 119))) (hC A E N V W ++ g, c) := by
  have hR0 : ((c.1 ≤ 601024 ∧ c.2 ≤ 7293034) ∧ 1 ≤ f ∧ 60 ≤ w) := ⟨hRm, by omega, by omega⟩
  have m40 : z_pg.2.1 40 = 1 := rfl
  have m41 : z_pg.2.1 41 = 2 := rfl
  refine z_Ln.blk (pc' := 1) (lv' := [(0, .ref 90), (1, .int 0)]) (st' := [.ref 90]) (H' := hC A E N V W ++ g) (C := []) 0 1 rfl trivial ?_
  refine z_Ln.call (s := 0) (mj := 40) (as := [.ref 90]) (rr := []) (v := some (.int 1)) (T1 := (hC A E N V W ++ g, c)) rfl rfl ⟨⟨by omega, by have : z_pg.2.1 40 = 1 := rfl; omega⟩, (by decide : (0 : Nat) ≤ 8), (by decide +kernel : (1 : Nat) ≤ z_pg.2.1 40)⟩ hRm (s40_25 hRm (by omega) (by omega)) ⟨trivial, ⟨(Or.inl (by decide)), trivial, trivial⟩⟩ ?_
  refine z_Ln.blk (pc' := (if decide (1 = 0) = true then 16 else 7)) (lv' := [(0, .ref 90), (1, .int 0)]) (st' := []) (H' := hC A E N V W ++ g) (C := []) 2 1 rfl trivial (z_Ln.brF (decide_eq_false (by decide)) ?_)
  refine z_Ln.blk (pc' := 12) (lv' := [(0, .ref 90), (1, .int 0)]) (st' := [.int 0, .ref 91]) (H' := hC A E N V W ++ g) (C := [((c.1 ≤ 601024 ∧ c.2 ≤ 7293034) ∧ 1 ≤ f ∧ 60 ≤ w)]) 3 3 rfl hR0 ?_
  refine z_Ln.call (s := 0) (mj := 41) (as := [.ref 91, .int 0]) (rr := []) (v := some (.int 119)) (T1 := (hC A E N V W ++ g, c)) rfl rfl ⟨⟨by omega, by have : z_pg.2.1 41 = 2 := rfl; omega⟩, (by decide : (0 : Nat) ≤ 8), (by decide +kernel : (2 : Nat) ≤ z_pg.2.1 41)⟩ hRm (s41_25_0 hRm (by omega) (by omega)) ⟨trivial, ⟨(Or.inl (by decide)), trivial, trivial⟩⟩ ?_
  exact z_Ln.ret rfl rfl
set_option maxRecDepth 10000 in
theorem s41_25_1 {L : Nat} {xs : Nat → Int32} {fv : Value} {f w : Nat} {c : Nat × Nat} {A : Nat → List (Nat × Int32)} {E : List (Nat × Option Nat)} {N : Nat → Nat} {V : Nat → Nat → Int32} {W : Nat} {g : List z_E}  (hRm : z_Rm (hC A E N V W ++ g, c)) (hf : 2 ≤ f) (hw : 150 ≤ w) : z_Ln L xs fv f w 41 0 [(0, .ref 91), (1, .int 1)] [] (hC A E N V W ++ g, c) (.inl (some (.int 105))) (hC A E N V W ++ g, c) := by
  have hR0 : ((c.1 ≤ 601024 ∧ c.2 ≤ 7293034) ∧ 1 ≤ f ∧ 60 ≤ w) := ⟨hRm, by omega, by omega⟩
  have m42 : z_pg.2.1 42 = 2 := rfl
  refine z_Ln.blk (pc' := 3) (lv' := [(0, .ref 91), (1, .int 1)]) (st' := [.int 4, .int 1]) (H' := hC A E N V W ++ g) (C := [((c.1 ≤ 601024 ∧ c.2 ≤ 7293034) ∧ 1 ≤ f ∧ 60 ≤ w)]) 0 3 rfl hR0 ?_
  refine z_Ln.call (s := 0) (mj := 42) (as := [.int 1, .int 4]) (rr := []) (v := none) (T1 := (hC A E N V W ++ g, c)) rfl rfl ⟨⟨by omega, by have : z_pg.2.1 42 = 2 := rfl; omega⟩, (by decide : (0 : Nat) ≤ 8), (by decide +kernel : (2 : Nat) ≤ z_pg.2.1 42)⟩ hRm (s42_1_4 hRm (by omega) (by omega)) ⟨trivial, ⟨(Or.inl (by decide)), trivial, trivial⟩⟩ ?_
  refine z_Ln.blk (pc' := 14) (lv' := [(0, .ref 91), (1, .int 1)]) (st' := [.int 105]) (H' := hC A E N V W ++ g) (C := [((c.1 ≤ 601024 ∧ c.2 ≤ 7293034) ∧ 1 ≤ f ∧ 60 ≤ w), z_in 1 4 = true]) 4 6 rfl ⟨hR0, (by decide : z_in 1 4 = true)⟩ ?_
  exact z_Ln.ret rfl rfl
set_option maxRecDepth 10000 in
theorem s39_25_1 {L : Nat} {xs : Nat → Int32} {fv : Value} {f w : Nat} {c : Nat × Nat} {A : Nat → List (Nat × Int32)} {E : List (Nat × Option Nat)} {N : Nat → Nat} {V : Nat → Nat → Int32} {W : Nat} {g : List z_E}  (hRm : z_Rm (hC A E N V W ++ g, c)) (hf : 3 ≤ f) (hw : 250 ≤ w) : z_Ln L xs fv f w 39 0 [(0, .ref 90), (1, .int 1)] [] (hC A E N V W ++ g, c) (.inl (some (.int 105))) (hC A E N V W ++ g, c) := by
  have hR0 : ((c.1 ≤ 601024 ∧ c.2 ≤ 7293034) ∧ 1 ≤ f ∧ 60 ≤ w) := ⟨hRm, by omega, by omega⟩
  have m40 : z_pg.2.1 40 = 1 := rfl
  have m41 : z_pg.2.1 41 = 2 := rfl
  refine z_Ln.blk (pc' := 1) (lv' := [(0, .ref 90), (1, .int 1)]) (st' := [.ref 90]) (H' := hC A E N V W ++ g) (C := []) 0 1 rfl trivial ?_
  refine z_Ln.call (s := 0) (mj := 40) (as := [.ref 90]) (rr := []) (v := some (.int 1)) (T1 := (hC A E N V W ++ g, c)) rfl rfl ⟨⟨by omega, by have : z_pg.2.1 40 = 1 := rfl; omega⟩, (by decide : (0 : Nat) ≤ 8), (by decide +kernel : (1 : Nat) ≤ z_pg.2.1 40)⟩ hRm (s40_25 hRm (by omega) (by omega)) ⟨trivial, ⟨(Or.inl (by decide)), trivial, trivial⟩⟩ ?_
  refine z_Ln.blk (pc' := (if decide (1 = 0) = true then 16 else 7)) (lv' := [(0, .ref 90), (1, .int 1)]) (st' := []) (H' := hC A E N V W ++ g) (C := []) 2 1 rfl trivial (z_Ln.brF (decide_eq_false (by decide)) ?_)
  refine z_Ln.blk (pc' := 12) (lv' := [(0, .ref 90), (1, .int 1)]) (st' := [.int 1, .ref 91]) (H' := hC A E N V W ++ g) (C := [((c.1 ≤ 601024 ∧ c.2 ≤ 7293034) ∧ 1 ≤ f ∧ 60 ≤ w)]) 3 3 rfl hR0 ?_
  refine z_Ln.call (s := 0) (mj := 41) (as := [.ref 91, .int 1]) (rr := []) (v := some (.int 105)) (T1 := (hC A E N V W ++ g, c)) rfl rfl ⟨⟨by omega, by have : z_pg.2.1 41 = 2 := rfl; omega⟩, (by decide : (0 : Nat) ≤ 8), (by decide +kernel : (2 : Nat) ≤ z_pg.2.1 41)⟩ hRm (s41_25_1 hRm (by omega) (by omega)) ⟨trivial, ⟨(Or.inl (by decide)), trivial, trivial⟩⟩ ?_
  exact z_Ln.ret rfl rfl
set_option maxRecDepth 10000 in
theorem s41_25_2 {L : Nat} {xs : Nat → Int32} {fv : Value} {f w : Nat} {c : Nat × Nat} {A : Nat → List (Nat × Int32)} {E : List (Nat × Option Nat)} {N : Nat → Nat} {V : Nat → Nat → Int32} {W : Nat} {g : List z_E}  (hRm : z_Rm (hC A E N V W ++ g, c)) (hf : 2 ≤ f) (hw : 150 ≤ w) : z_Ln L xs fv f w 41 0 [(0, .ref 91), (1, .int 2)] [] (hC A E N V W ++ g, c) (.inl (some (.int 116))) (hC A E N V W ++ g, c) := by
  have hR0 : ((c.1 ≤ 601024 ∧ c.2 ≤ 7293034) ∧ 1 ≤ f ∧ 60 ≤ w) := ⟨hRm, by omega, by omega⟩
  have m42 : z_pg.2.1 42 = 2 := rfl
  refine z_Ln.blk (pc' := 3) (lv' := [(0, .ref 91), (1, .int 2)]) (st' := [.int 4, .int 2]) (H' := hC A E N V W ++ g) (C := [((c.1 ≤ 601024 ∧ c.2 ≤ 7293034) ∧ 1 ≤ f ∧ 60 ≤ w)]) 0 3 rfl hR0 ?_
  refine z_Ln.call (s := 0) (mj := 42) (as := [.int 2, .int 4]) (rr := []) (v := none) (T1 := (hC A E N V W ++ g, c)) rfl rfl ⟨⟨by omega, by have : z_pg.2.1 42 = 2 := rfl; omega⟩, (by decide : (0 : Nat) ≤ 8), (by decide +kernel : (2 : Nat) ≤ z_pg.2.1 42)⟩ hRm (s42_2_4 hRm (by omega) (by omega)) ⟨trivial, ⟨(Or.inl (by decide)), trivial, trivial⟩⟩ ?_
  refine z_Ln.blk (pc' := 14) (lv' := [(0, .ref 91), (1, .int 2)]) (st' := [.int 116]) (H' := hC A E N V W ++ g) (C := [((c.1 ≤ 601024 ∧ c.2 ≤ 7293034) ∧ 1 ≤ f ∧ 60 ≤ w), z_in 2 4 = true]) 4 6 rfl ⟨hR0, (by decide : z_in 2 4 = true)⟩ ?_
  exact z_Ln.ret rfl rfl
set_option maxRecDepth 10000 in
theorem s39_25_2 {L : Nat} {xs : Nat → Int32} {fv : Value} {f w : Nat} {c : Nat × Nat} {A : Nat → List (Nat × Int32)} {E : List (Nat × Option Nat)} {N : Nat → Nat} {V : Nat → Nat → Int32} {W : Nat} {g : List z_E}  (hRm : z_Rm (hC A E N V W ++ g, c)) (hf : 3 ≤ f) (hw : 250 ≤ w) : z_Ln L xs fv f w 39 0 [(0, .ref 90), (1, .int 2)] [] (hC A E N V W ++ g, c) (.inl (some (.int 116))) (hC A E N V W ++ g, c) := by
  have hR0 : ((c.1 ≤ 601024 ∧ c.2 ≤ 7293034) ∧ 1 ≤ f ∧ 60 ≤ w) := ⟨hRm, by omega, by omega⟩
  have m40 : z_pg.2.1 40 = 1 := rfl
  have m41 : z_pg.2.1 41 = 2 := rfl
  refine z_Ln.blk (pc' := 1) (lv' := [(0, .ref 90), (1, .int 2)]) (st' := [.ref 90]) (H' := hC A E N V W ++ g) (C := []) 0 1 rfl trivial ?_
  refine z_Ln.call (s := 0) (mj := 40) (as := [.ref 90]) (rr := []) (v := some (.int 1)) (T1 := (hC A E N V W ++ g, c)) rfl rfl ⟨⟨by omega, by have : z_pg.2.1 40 = 1 := rfl; omega⟩, (by decide : (0 : Nat) ≤ 8), (by decide +kernel : (1 : Nat) ≤ z_pg.2.1 40)⟩ hRm (s40_25 hRm (by omega) (by omega)) ⟨trivial, ⟨(Or.inl (by decide)), trivial, trivial⟩⟩ ?_
  refine z_Ln.blk (pc' := (if decide (1 = 0) = true then 16 else 7)) (lv' := [(0, .ref 90), (1, .int 2)]) (st' := []) (H' := hC A E N V W ++ g) (C := []) 2 1 rfl trivial (z_Ln.brF (decide_eq_false (by decide)) ?_)
  refine z_Ln.blk (pc' := 12) (lv' := [(0, .ref 90), (1, .int 2)]) (st' := [.int 2, .ref 91]) (H' := hC A E N V W ++ g) (C := [((c.1 ≤ 601024 ∧ c.2 ≤ 7293034) ∧ 1 ≤ f ∧ 60 ≤ w)]) 3 3 rfl hR0 ?_
  refine z_Ln.call (s := 0) (mj := 41) (as := [.ref 91, .int 2]) (rr := []) (v := some (.int 116)) (T1 := (hC A E N V W ++ g, c)) rfl rfl ⟨⟨by omega, by have : z_pg.2.1 41 = 2 := rfl; omega⟩, (by decide : (0 : Nat) ≤ 8), (by decide +kernel : (2 : Nat) ≤ z_pg.2.1 41)⟩ hRm (s41_25_2 hRm (by omega) (by omega)) ⟨trivial, ⟨(Or.inl (by decide)), trivial, trivial⟩⟩ ?_
  exact z_Ln.ret rfl rfl
set_option maxRecDepth 10000 in
theorem s41_25_3 {L : Nat} {xs : Nat → Int32} {fv : Value} {f w : Nat} {c : Nat × Nat} {A : Nat → List (Nat × Int32)} {E : List (Nat × Option Nat)} {N : Nat → Nat} {V : Nat → Nat → Int32} {W : Nat} {g : List z_E}  (hRm : z_Rm (hC A E N V W ++ g, c)) (hf : 2 ≤ f) (hw : 150 ≤ w) : z_Ln L xs fv f w 41 0 [(0, .ref 91), (1, .int 3)] [] (hC A E N V W ++ g, c) (.inl (some (.int 104))) (hC A E N V W ++ g, c) := by
  have hR0 : ((c.1 ≤ 601024 ∧ c.2 ≤ 7293034) ∧ 1 ≤ f ∧ 60 ≤ w) := ⟨hRm, by omega, by omega⟩
  have m42 : z_pg.2.1 42 = 2 := rfl
  refine z_Ln.blk (pc' := 3) (lv' := [(0, .ref 91), (1, .int 3)]) (st' := [.int 4, .int 3]) (H' := hC A E N V W ++ g) (C := [((c.1 ≤ 601024 ∧ c.2 ≤ 7293034) ∧ 1 ≤ f ∧ 60 ≤ w)]) 0 3 rfl hR0 ?_
  refine z_Ln.call (s := 0) (mj := 42) (as := [.int 3, .int 4]) (rr := []) (v := none) (T1 := (hC A E N V W ++ g, c)) rfl rfl ⟨⟨by omega, by have : z_pg.2.1 42 = 2 := rfl; omega⟩, (by decide : (0 : Nat) ≤ 8), (by decide +kernel : (2 : Nat) ≤ z_pg.2.1 42)⟩ hRm (s42_3_4 hRm (by omega) (by omega)) ⟨trivial, ⟨(Or.inl (by decide)), trivial, trivial⟩⟩ ?_
  refine z_Ln.blk (pc' := 14) (lv' := [(0, .ref 91), (1, .int 3)]) (st' := [.int 104]) (H' := hC A E N V W ++ g) (C := [((c.1 ≤ 601024 ∧ c.2 ≤ 7293034) ∧ 1 ≤ f ∧ 60 ≤ w), z_in 3 4 = true]) 4 6 rfl ⟨hR0, (by decide : z_in 3 4 = true)⟩ ?_
  exact z_Ln.ret rfl rfl
set_option maxRecDepth 10000 in
theorem s39_25_3 {L : Nat} {xs : Nat → Int32} {fv : Value} {f w : Nat} {c : Nat × Nat} {A : Nat → List (Nat × Int32)} {E : List (Nat × Option Nat)} {N : Nat → Nat} {V : Nat → Nat → Int32} {W : Nat} {g : List z_E}  (hRm : z_Rm (hC A E N V W ++ g, c)) (hf : 3 ≤ f) (hw : 250 ≤ w) : z_Ln L xs fv f w 39 0 [(0, .ref 90), (1, .int 3)] [] (hC A E N V W ++ g, c) (.inl (some (.int 104))) (hC A E N V W ++ g, c) := by
  have hR0 : ((c.1 ≤ 601024 ∧ c.2 ≤ 7293034) ∧ 1 ≤ f ∧ 60 ≤ w) := ⟨hRm, by omega, by omega⟩
  have m40 : z_pg.2.1 40 = 1 := rfl
  have m41 : z_pg.2.1 41 = 2 := rfl
  refine z_Ln.blk (pc' := 1) (lv' := [(0, .ref 90), (1, .int 3)]) (st' := [.ref 90]) (H' := hC A E N V W ++ g) (C := []) 0 1 rfl trivial ?_
  refine z_Ln.call (s := 0) (mj := 40) (as := [.ref 90]) (rr := []) (v := some (.int 1)) (T1 := (hC A E N V W ++ g, c)) rfl rfl ⟨⟨by omega, by have : z_pg.2.1 40 = 1 := rfl; omega⟩, (by decide : (0 : Nat) ≤ 8), (by decide +kernel : (1 : Nat) ≤ z_pg.2.1 40)⟩ hRm (s40_25 hRm (by omega) (by omega)) ⟨trivial, ⟨(Or.inl (by decide)), trivial, trivial⟩⟩ ?_
  refine z_Ln.blk (pc' := (if decide (1 = 0) = true then 16 else 7)) (lv' := [(0, .ref 90), (1, .int 3)]) (st' := []) (H' := hC A E N V W ++ g) (C := []) 2 1 rfl trivial (z_Ln.brF (decide_eq_false (by decide)) ?_)
  refine z_Ln.blk (pc' := 12) (lv' := [(0, .ref 90), (1, .int 3)]) (st' := [.int 3, .ref 91]) (H' := hC A E N V W ++ g) (C := [((c.1 ≤ 601024 ∧ c.2 ≤ 7293034) ∧ 1 ≤ f ∧ 60 ≤ w)]) 3 3 rfl hR0 ?_
  refine z_Ln.call (s := 0) (mj := 41) (as := [.ref 91, .int 3]) (rr := []) (v := some (.int 104)) (T1 := (hC A E N V W ++ g, c)) rfl rfl ⟨⟨by omega, by have : z_pg.2.1 41 = 2 := rfl; omega⟩, (by decide : (0 : Nat) ≤ 8), (by decide +kernel : (2 : Nat) ≤ z_pg.2.1 41)⟩ hRm (s41_25_3 hRm (by omega) (by omega)) ⟨trivial, ⟨(Or.inl (by decide)), trivial, trivial⟩⟩ ?_
  exact z_Ln.ret rfl rfl
set_option maxRecDepth 10000 in
theorem s41_26_0 {L : Nat} {xs : Nat → Int32} {fv : Value} {f w : Nat} {c : Nat × Nat} {A : Nat → List (Nat × Int32)} {E : List (Nat × Option Nat)} {N : Nat → Nat} {V : Nat → Nat → Int32} {W : Nat} {g : List z_E}  (hRm : z_Rm (hC A E N V W ++ g, c)) (hf : 2 ≤ f) (hw : 150 ≤ w) : z_Ln L xs fv f w 41 0 [(0, .ref 93), (1, .int 0)] [] (hC A E N V W ++ g, c) (.inl (some (.int 114))) (hC A E N V W ++ g, c) := by
  have hR0 : ((c.1 ≤ 601024 ∧ c.2 ≤ 7293034) ∧ 1 ≤ f ∧ 60 ≤ w) := ⟨hRm, by omega, by omega⟩
  have m42 : z_pg.2.1 42 = 2 := rfl
  refine z_Ln.blk (pc' := 3) (lv' := [(0, .ref 93), (1, .int 0)]) (st' := [.int 6, .int 0]) (H' := hC A E N V W ++ g) (C := [((c.1 ≤ 601024 ∧ c.2 ≤ 7293034) ∧ 1 ≤ f ∧ 60 ≤ w)]) 0 3 rfl hR0 ?_
  refine z_Ln.call (s := 0) (mj := 42) (as := [.int 0, .int 6]) (rr := []) (v := none) (T1 := (hC A E N V W ++ g, c)) rfl rfl ⟨⟨by omega, by have : z_pg.2.1 42 = 2 := rfl; omega⟩, (by decide : (0 : Nat) ≤ 8), (by decide +kernel : (2 : Nat) ≤ z_pg.2.1 42)⟩ hRm (s42_0_6 hRm (by omega) (by omega)) ⟨trivial, ⟨(Or.inl (by decide)), trivial, trivial⟩⟩ ?_
  refine z_Ln.blk (pc' := 14) (lv' := [(0, .ref 93), (1, .int 0)]) (st' := [.int 114]) (H' := hC A E N V W ++ g) (C := [((c.1 ≤ 601024 ∧ c.2 ≤ 7293034) ∧ 1 ≤ f ∧ 60 ≤ w), z_in 0 6 = true]) 4 6 rfl ⟨hR0, (by decide : z_in 0 6 = true)⟩ ?_
  exact z_Ln.ret rfl rfl
set_option maxRecDepth 10000 in
theorem s39_26_0 {L : Nat} {xs : Nat → Int32} {fv : Value} {f w : Nat} {c : Nat × Nat} {A : Nat → List (Nat × Int32)} {E : List (Nat × Option Nat)} {N : Nat → Nat} {V : Nat → Nat → Int32} {W : Nat} {g : List z_E}  (hRm : z_Rm (hC A E N V W ++ g, c)) (hf : 3 ≤ f) (hw : 250 ≤ w) : z_Ln L xs fv f w 39 0 [(0, .ref 92), (1, .int 0)] [] (hC A E N V W ++ g, c) (.inl (some (.int 114))) (hC A E N V W ++ g, c) := by
  have hR0 : ((c.1 ≤ 601024 ∧ c.2 ≤ 7293034) ∧ 1 ≤ f ∧ 60 ≤ w) := ⟨hRm, by omega, by omega⟩
  have m40 : z_pg.2.1 40 = 1 := rfl
  have m41 : z_pg.2.1 41 = 2 := rfl
  refine z_Ln.blk (pc' := 1) (lv' := [(0, .ref 92), (1, .int 0)]) (st' := [.ref 92]) (H' := hC A E N V W ++ g) (C := []) 0 1 rfl trivial ?_
  refine z_Ln.call (s := 0) (mj := 40) (as := [.ref 92]) (rr := []) (v := some (.int 1)) (T1 := (hC A E N V W ++ g, c)) rfl rfl ⟨⟨by omega, by have : z_pg.2.1 40 = 1 := rfl; omega⟩, (by decide : (0 : Nat) ≤ 8), (by decide +kernel : (1 : Nat) ≤ z_pg.2.1 40)⟩ hRm (s40_26 hRm (by omega) (by omega)) ⟨trivial, ⟨(Or.inl (by decide)), trivial, trivial⟩⟩ ?_
  refine z_Ln.blk (pc' := (if decide (1 = 0) = true then 16 else 7)) (lv' := [(0, .ref 92), (1, .int 0)]) (st' := []) (H' := hC A E N V W ++ g) (C := []) 2 1 rfl trivial (z_Ln.brF (decide_eq_false (by decide)) ?_)
  refine z_Ln.blk (pc' := 12) (lv' := [(0, .ref 92), (1, .int 0)]) (st' := [.int 0, .ref 93]) (H' := hC A E N V W ++ g) (C := [((c.1 ≤ 601024 ∧ c.2 ≤ 7293034) ∧ 1 ≤ f ∧ 60 ≤ w)]) 3 3 rfl hR0 ?_
  refine z_Ln.call (s := 0) (mj := 41) (as := [.ref 93, .int 0]) (rr := []) (v := some (.int 114)) (T1 := (hC A E N V W ++ g, c)) rfl rfl ⟨⟨by omega, by have : z_pg.2.1 41 = 2 := rfl; omega⟩, (by decide : (0 : Nat) ≤ 8), (by decide +kernel : (2 : Nat) ≤ z_pg.2.1 41)⟩ hRm (s41_26_0 hRm (by omega) (by omega)) ⟨trivial, ⟨(Or.inl (by decide)), trivial, trivial⟩⟩ ?_
  exact z_Ln.ret rfl rfl
set_option maxRecDepth 10000 in
theorem s41_26_1 {L : Nat} {xs : Nat → Int32} {fv : Value} {f w : Nat} {c : Nat × Nat} {A : Nat → List (Nat × Int32)} {E : List (Nat × Option Nat)} {N : Nat → Nat} {V : Nat → Nat → Int32} {W : Nat} {g : List z_E}  (hRm : z_Rm (hC A E N V W ++ g, c)) (hf : 2 ≤ f) (hw : 150 ≤ w) : z_Ln L xs fv f w 41 0 [(0, .ref 93), (1, .int 1)] [] (hC A E N V W ++ g, c) (.inl (some (.int 101))) (hC A E N V W ++ g, c) := by
  have hR0 : ((c.1 ≤ 601024 ∧ c.2 ≤ 7293034) ∧ 1 ≤ f ∧ 60 ≤ w) := ⟨hRm, by omega, by omega⟩
  have m42 : z_pg.2.1 42 = 2 := rfl
  refine z_Ln.blk (pc' := 3) (lv' := [(0, .ref 93), (1, .int 1)]) (st' := [.int 6, .int 1]) (H' := hC A E N V W ++ g) (C := [((c.1 ≤ 601024 ∧ c.2 ≤ 7293034) ∧ 1 ≤ f ∧ 60 ≤ w)]) 0 3 rfl hR0 ?_
  refine z_Ln.call (s := 0) (mj := 42) (as := [.int 1, .int 6]) (rr := []) (v := none) (T1 := (hC A E N V W ++ g, c)) rfl rfl ⟨⟨by omega, by have : z_pg.2.1 42 = 2 := rfl; omega⟩, (by decide : (0 : Nat) ≤ 8), (by decide +kernel : (2 : Nat) ≤ z_pg.2.1 42)⟩ hRm (s42_1_6 hRm (by omega) (by omega)) ⟨trivial, ⟨(Or.inl (by decide)), trivial, trivial⟩⟩ ?_
  refine z_Ln.blk (pc' := 14) (lv' := [(0, .ref 93), (1, .int 1)]) (st' := [.int 101]) (H' := hC A E N V W ++ g) (C := [((c.1 ≤ 601024 ∧ c.2 ≤ 7293034) ∧ 1 ≤ f ∧ 60 ≤ w), z_in 1 6 = true]) 4 6 rfl ⟨hR0, (by decide : z_in 1 6 = true)⟩ ?_
  exact z_Ln.ret rfl rfl
set_option maxRecDepth 10000 in
theorem s39_26_1 {L : Nat} {xs : Nat → Int32} {fv : Value} {f w : Nat} {c : Nat × Nat} {A : Nat → List (Nat × Int32)} {E : List (Nat × Option Nat)} {N : Nat → Nat} {V : Nat → Nat → Int32} {W : Nat} {g : List z_E}  (hRm : z_Rm (hC A E N V W ++ g, c)) (hf : 3 ≤ f) (hw : 250 ≤ w) : z_Ln L xs fv f w 39 0 [(0, .ref 92), (1, .int 1)] [] (hC A E N V W ++ g, c) (.inl (some (.int 101))) (hC A E N V W ++ g, c) := by
  have hR0 : ((c.1 ≤ 601024 ∧ c.2 ≤ 7293034) ∧ 1 ≤ f ∧ 60 ≤ w) := ⟨hRm, by omega, by omega⟩
  have m40 : z_pg.2.1 40 = 1 := rfl
  have m41 : z_pg.2.1 41 = 2 := rfl
  refine z_Ln.blk (pc' := 1) (lv' := [(0, .ref 92), (1, .int 1)]) (st' := [.ref 92]) (H' := hC A E N V W ++ g) (C := []) 0 1 rfl trivial ?_
  refine z_Ln.call (s := 0) (mj := 40) (as := [.ref 92]) (rr := []) (v := some (.int 1)) (T1 := (hC A E N V W ++ g, c)) rfl rfl ⟨⟨by omega, by have : z_pg.2.1 40 = 1 := rfl; omega⟩, (by decide : (0 : Nat) ≤ 8), (by decide +kernel : (1 : Nat) ≤ z_pg.2.1 40)⟩ hRm (s40_26 hRm (by omega) (by omega)) ⟨trivial, ⟨(Or.inl (by decide)), trivial, trivial⟩⟩ ?_
  refine z_Ln.blk (pc' := (if decide (1 = 0) = true then 16 else 7)) (lv' := [(0, .ref 92), (1, .int 1)]) (st' := []) (H' := hC A E N V W ++ g) (C := []) 2 1 rfl trivial (z_Ln.brF (decide_eq_false (by decide)) ?_)
  refine z_Ln.blk (pc' := 12) (lv' := [(0, .ref 92), (1, .int 1)]) (st' := [.int 1, .ref 93]) (H' := hC A E N V W ++ g) (C := [((c.1 ≤ 601024 ∧ c.2 ≤ 7293034) ∧ 1 ≤ f ∧ 60 ≤ w)]) 3 3 rfl hR0 ?_
  refine z_Ln.call (s := 0) (mj := 41) (as := [.ref 93, .int 1]) (rr := []) (v := some (.int 101)) (T1 := (hC A E N V W ++ g, c)) rfl rfl ⟨⟨by omega, by have : z_pg.2.1 41 = 2 := rfl; omega⟩, (by decide : (0 : Nat) ≤ 8), (by decide +kernel : (2 : Nat) ≤ z_pg.2.1 41)⟩ hRm (s41_26_1 hRm (by omega) (by omega)) ⟨trivial, ⟨(Or.inl (by decide)), trivial, trivial⟩⟩ ?_
  exact z_Ln.ret rfl rfl
set_option maxRecDepth 10000 in
theorem s41_26_2 {L : Nat} {xs : Nat → Int32} {fv : Value} {f w : Nat} {c : Nat × Nat} {A : Nat → List (Nat × Int32)} {E : List (Nat × Option Nat)} {N : Nat → Nat} {V : Nat → Nat → Int32} {W : Nat} {g : List z_E}  (hRm : z_Rm (hC A E N V W ++ g, c)) (hf : 2 ≤ f) (hw : 150 ≤ w) : z_Ln L xs fv f w 41 0 [(0, .ref 93), (1, .int 2)] [] (hC A E N V W ++ g, c) (.inl (some (.int 116))) (hC A E N V W ++ g, c) := by
  have hR0 : ((c.1 ≤ 601024 ∧ c.2 ≤ 7293034) ∧ 1 ≤ f ∧ 60 ≤ w) := ⟨hRm, by omega, by omega⟩
  have m42 : z_pg.2.1 42 = 2 := rfl
  refine z_Ln.blk (pc' := 3) (lv' := [(0, .ref 93), (1, .int 2)]) (st' := [.int 6, .int 2]) (H' := hC A E N V W ++ g) (C := [((c.1 ≤ 601024 ∧ c.2 ≤ 7293034) ∧ 1 ≤ f ∧ 60 ≤ w)]) 0 3 rfl hR0 ?_
  refine z_Ln.call (s := 0) (mj := 42) (as := [.int 2, .int 6]) (rr := []) (v := none) (T1 := (hC A E N V W ++ g, c)) rfl rfl ⟨⟨by omega, by have : z_pg.2.1 42 = 2 := rfl; omega⟩, (by decide : (0 : Nat) ≤ 8), (by decide +kernel : (2 : Nat) ≤ z_pg.2.1 42)⟩ hRm (s42_2_6 hRm (by omega) (by omega)) ⟨trivial, ⟨(Or.inl (by decide)), trivial, trivial⟩⟩ ?_
  refine z_Ln.blk (pc' := 14) (lv' := [(0, .ref 93), (1, .int 2)]) (st' := [.int 116]) (H' := hC A E N V W ++ g) (C := [((c.1 ≤ 601024 ∧ c.2 ≤ 7293034) ∧ 1 ≤ f ∧ 60 ≤ w), z_in 2 6 = true]) 4 6 rfl ⟨hR0, (by decide : z_in 2 6 = true)⟩ ?_
  exact z_Ln.ret rfl rfl
set_option maxRecDepth 10000 in
theorem s39_26_2 {L : Nat} {xs : Nat → Int32} {fv : Value} {f w : Nat} {c : Nat × Nat} {A : Nat → List (Nat × Int32)} {E : List (Nat × Option Nat)} {N : Nat → Nat} {V : Nat → Nat → Int32} {W : Nat} {g : List z_E}  (hRm : z_Rm (hC A E N V W ++ g, c)) (hf : 3 ≤ f) (hw : 250 ≤ w) : z_Ln L xs fv f w 39 0 [(0, .ref 92), (1, .int 2)] [] (hC A E N V W ++ g, c) (.inl (some (.int 116))) (hC A E N V W ++ g, c) := by
  have hR0 : ((c.1 ≤ 601024 ∧ c.2 ≤ 7293034) ∧ 1 ≤ f ∧ 60 ≤ w) := ⟨hRm, by omega, by omega⟩
  have m40 : z_pg.2.1 40 = 1 := rfl
  have m41 : z_pg.2.1 41 = 2 := rfl
  refine z_Ln.blk (pc' := 1) (lv' := [(0, .ref 92), (1, .int 2)]) (st' := [.ref 92]) (H' := hC A E N V W ++ g) (C := []) 0 1 rfl trivial ?_
  refine z_Ln.call (s := 0) (mj := 40) (as := [.ref 92]) (rr := []) (v := some (.int 1)) (T1 := (hC A E N V W ++ g, c)) rfl rfl ⟨⟨by omega, by have : z_pg.2.1 40 = 1 := rfl; omega⟩, (by decide : (0 : Nat) ≤ 8), (by decide +kernel : (1 : Nat) ≤ z_pg.2.1 40)⟩ hRm (s40_26 hRm (by omega) (by omega)) ⟨trivial, ⟨(Or.inl (by decide)), trivial, trivial⟩⟩ ?_
  refine z_Ln.blk (pc' := (if decide (1 = 0) = true then 16 else 7)) (lv' := [(0, .ref 92), (1, .int 2)]) (st' := []) (H' := hC A E N V W ++ g) (C := []) 2 1 rfl trivial (z_Ln.brF (decide_eq_false (by decide)) ?_)
  refine z_Ln.blk (pc' := 12) (lv' := [(0, .ref 92), (1, .int 2)]) (st' := [.int 2, .ref 93]) (H' := hC A E N V W ++ g) (C := [((c.1 ≤ 601024 ∧ c.2 ≤ 7293034) ∧ 1 ≤ f ∧ 60 ≤ w)]) 3 3 rfl hR0 ?_
  refine z_Ln.call (s := 0) (mj := 41) (as := [.ref 93, .int 2]) (rr := []) (v := some (.int 116)) (T1 := (hC A E N V W ++ g, c)) rfl rfl ⟨⟨by omega, by have : z_pg.2.1 41 = 2 := rfl; omega⟩, (by decide : (0 : Nat) ≤ 8), (by decide +kernel : (2 : Nat) ≤ z_pg.2.1 41)⟩ hRm (s41_26_2 hRm (by omega) (by omega)) ⟨trivial, ⟨(Or.inl (by decide)), trivial, trivial⟩⟩ ?_
  exact z_Ln.ret rfl rfl
set_option maxRecDepth 10000 in
theorem s41_26_3 {L : Nat} {xs : Nat → Int32} {fv : Value} {f w : Nat} {c : Nat × Nat} {A : Nat → List (Nat × Int32)} {E : List (Nat × Option Nat)} {N : Nat → Nat} {V : Nat → Nat → Int32} {W : Nat} {g : List z_E}  (hRm : z_Rm (hC A E N V W ++ g, c)) (hf : 2 ≤ f) (hw : 150 ≤ w) : z_Ln L xs fv f w 41 0 [(0, .ref 93), (1, .int 3)] [] (hC A E N V W ++ g, c) (.inl (some (.int 117))) (hC A E N V W ++ g, c) := by
  have hR0 : ((c.1 ≤ 601024 ∧ c.2 ≤ 7293034) ∧ 1 ≤ f ∧ 60 ≤ w) := ⟨hRm, by omega, by omega⟩
  have m42 : z_pg.2.1 42 = 2 := rfl
  refine z_Ln.blk (pc' := 3) (lv' := [(0, .ref 93), (1, .int 3)]) (st' := [.int 6, .int 3]) (H' := hC A E N V W ++ g) (C := [((c.1 ≤ 601024 ∧ c.2 ≤ 7293034) ∧ 1 ≤ f ∧ 60 ≤ w)]) 0 3 rfl hR0 ?_
  refine z_Ln.call (s := 0) (mj := 42) (as := [.int 3, .int 6]) (rr := []) (v := none) (T1 := (hC A E N V W ++ g, c)) rfl rfl ⟨⟨by omega, by have : z_pg.2.1 42 = 2 := rfl; omega⟩, (by decide : (0 : Nat) ≤ 8), (by decide +kernel : (2 : Nat) ≤ z_pg.2.1 42)⟩ hRm (s42_3_6 hRm (by omega) (by omega)) ⟨trivial, ⟨(Or.inl (by decide)), trivial, trivial⟩⟩ ?_
  refine z_Ln.blk (pc' := 14) (lv' := [(0, .ref 93), (1, .int 3)]) (st' := [.int 117]) (H' := hC A E N V W ++ g) (C := [((c.1 ≤ 601024 ∧ c.2 ≤ 7293034) ∧ 1 ≤ f ∧ 60 ≤ w), z_in 3 6 = true]) 4 6 rfl ⟨hR0, (by decide : z_in 3 6 = true)⟩ ?_
  exact z_Ln.ret rfl rfl
set_option maxRecDepth 10000 in
theorem s39_26_3 {L : Nat} {xs : Nat → Int32} {fv : Value} {f w : Nat} {c : Nat × Nat} {A : Nat → List (Nat × Int32)} {E : List (Nat × Option Nat)} {N : Nat → Nat} {V : Nat → Nat → Int32} {W : Nat} {g : List z_E}  (hRm : z_Rm (hC A E N V W ++ g, c)) (hf : 3 ≤ f) (hw : 250 ≤ w) : z_Ln L xs fv f w 39 0 [(0, .ref 92), (1, .int 3)] [] (hC A E N V W ++ g, c) (.inl (some (.int 117))) (hC A E N V W ++ g, c) := by
  have hR0 : ((c.1 ≤ 601024 ∧ c.2 ≤ 7293034) ∧ 1 ≤ f ∧ 60 ≤ w) := ⟨hRm, by omega, by omega⟩
  have m40 : z_pg.2.1 40 = 1 := rfl
  have m41 : z_pg.2.1 41 = 2 := rfl
  refine z_Ln.blk (pc' := 1) (lv' := [(0, .ref 92), (1, .int 3)]) (st' := [.ref 92]) (H' := hC A E N V W ++ g) (C := []) 0 1 rfl trivial ?_
  refine z_Ln.call (s := 0) (mj := 40) (as := [.ref 92]) (rr := []) (v := some (.int 1)) (T1 := (hC A E N V W ++ g, c)) rfl rfl ⟨⟨by omega, by have : z_pg.2.1 40 = 1 := rfl; omega⟩, (by decide : (0 : Nat) ≤ 8), (by decide +kernel : (1 : Nat) ≤ z_pg.2.1 40)⟩ hRm (s40_26 hRm (by omega) (by omega)) ⟨trivial, ⟨(Or.inl (by decide)), trivial, trivial⟩⟩ ?_
  refine z_Ln.blk (pc' := (if decide (1 = 0) = true then 16 else 7)) (lv' := [(0, .ref 92), (1, .int 3)]) (st' := []) (H' := hC A E N V W ++ g) (C := []) 2 1 rfl trivial (z_Ln.brF (decide_eq_false (by decide)) ?_)
  refine z_Ln.blk (pc' := 12) (lv' := [(0, .ref 92), (1, .int 3)]) (st' := [.int 3, .ref 93]) (H' := hC A E N V W ++ g) (C := [((c.1 ≤ 601024 ∧ c.2 ≤ 7293034) ∧ 1 ≤ f ∧ 60 ≤ w)]) 3 3 rfl hR0 ?_
  refine z_Ln.call (s := 0) (mj := 41) (as := [.ref 93, .int 3]) (rr := []) (v := some (.int 117)) (T1 := (hC A E N V W ++ g, c)) rfl rfl ⟨⟨by omega, by have : z_pg.2.1 41 = 2 := rfl; omega⟩, (by decide : (0 : Nat) ≤ 8), (by decide +kernel : (2 : Nat) ≤ z_pg.2.1 41)⟩ hRm (s41_26_3 hRm (by omega) (by omega)) ⟨trivial, ⟨(Or.inl (by decide)), trivial, trivial⟩⟩ ?_
  exact z_Ln.ret rfl rfl
set_option maxRecDepth 10000 in
theorem s41_26_4 {L : Nat} {xs : Nat → Int32} {fv : Value} {f w : Nat} {c : Nat × Nat} {A : Nat → List (Nat × Int32)} {E : List (Nat × Option Nat)} {N : Nat → Nat} {V : Nat → Nat → Int32} {W : Nat} {g : List z_E}  (hRm : z_Rm (hC A E N V W ++ g, c)) (hf : 2 ≤ f) (hw : 150 ≤ w) : z_Ln L xs fv f w 41 0 [(0, .ref 93), (1, .int 4)] [] (hC A E N V W ++ g, c) (.inl (some (.int 114))) (hC A E N V W ++ g, c) := by
  have hR0 : ((c.1 ≤ 601024 ∧ c.2 ≤ 7293034) ∧ 1 ≤ f ∧ 60 ≤ w) := ⟨hRm, by omega, by omega⟩
  have m42 : z_pg.2.1 42 = 2 := rfl
  refine z_Ln.blk (pc' := 3) (lv' := [(0, .ref 93), (1, .int 4)]) (st' := [.int 6, .int 4]) (H' := hC A E N V W ++ g) (C := [((c.1 ≤ 601024 ∧ c.2 ≤ 7293034) ∧ 1 ≤ f ∧ 60 ≤ w)]) 0 3 rfl hR0 ?_
  refine z_Ln.call (s := 0) (mj := 42) (as := [.int 4, .int 6]) (rr := []) (v := none) (T1 := (hC A E N V W ++ g, c)) rfl rfl ⟨⟨by omega, by have : z_pg.2.1 42 = 2 := rfl; omega⟩, (by decide : (0 : Nat) ≤ 8), (by decide +kernel : (2 : Nat) ≤ z_pg.2.1 42)⟩ hRm (s42_4_6 hRm (by omega) (by omega)) ⟨trivial, ⟨(Or.inl (by decide)), trivial, trivial⟩⟩ ?_
  refine z_Ln.blk (pc' := 14) (lv' := [(0, .ref 93), (1, .int 4)]) (st' := [.int 114]) (H' := hC A E N V W ++ g) (C := [((c.1 ≤ 601024 ∧ c.2 ≤ 7293034) ∧ 1 ≤ f ∧ 60 ≤ w), z_in 4 6 = true]) 4 6 rfl ⟨hR0, (by decide : z_in 4 6 = true)⟩ ?_
  exact z_Ln.ret rfl rfl
set_option maxRecDepth 10000 in
theorem s39_26_4 {L : Nat} {xs : Nat → Int32} {fv : Value} {f w : Nat} {c : Nat × Nat} {A : Nat → List (Nat × Int32)} {E : List (Nat × Option Nat)} {N : Nat → Nat} {V : Nat → Nat → Int32} {W : Nat} {g : List z_E}  (hRm : z_Rm (hC A E N V W ++ g, c)) (hf : 3 ≤ f) (hw : 250 ≤ w) : z_Ln L xs fv f w 39 0 [(0, .ref 92), (1, .int 4)] [] (hC A E N V W ++ g, c) (.inl (some (.int 114))) (hC A E N V W ++ g, c) := by
  have hR0 : ((c.1 ≤ 601024 ∧ c.2 ≤ 7293034) ∧ 1 ≤ f ∧ 60 ≤ w) := ⟨hRm, by omega, by omega⟩
  have m40 : z_pg.2.1 40 = 1 := rfl
  have m41 : z_pg.2.1 41 = 2 := rfl
  refine z_Ln.blk (pc' := 1) (lv' := [(0, .ref 92), (1, .int 4)]) (st' := [.ref 92]) (H' := hC A E N V W ++ g) (C := []) 0 1 rfl trivial ?_
  refine z_Ln.call (s := 0) (mj := 40) (as := [.ref 92]) (rr := []) (v := some (.int 1)) (T1 := (hC A E N V W ++ g, c)) rfl rfl ⟨⟨by omega, by have : z_pg.2.1 40 = 1 := rfl; omega⟩, (by decide : (0 : Nat) ≤ 8), (by decide +kernel : (1 : Nat) ≤ z_pg.2.1 40)⟩ hRm (s40_26 hRm (by omega) (by omega)) ⟨trivial, ⟨(Or.inl (by decide)), trivial, trivial⟩⟩ ?_
  refine z_Ln.blk (pc' := (if decide (1 = 0) = true then 16 else 7)) (lv' := [(0, .ref 92), (1, .int 4)]) (st' := []) (H' := hC A E N V W ++ g) (C := []) 2 1 rfl trivial (z_Ln.brF (decide_eq_false (by decide)) ?_)
  refine z_Ln.blk (pc' := 12) (lv' := [(0, .ref 92), (1, .int 4)]) (st' := [.int 4, .ref 93]) (H' := hC A E N V W ++ g) (C := [((c.1 ≤ 601024 ∧ c.2 ≤ 7293034) ∧ 1 ≤ f ∧ 60 ≤ w)]) 3 3 rfl hR0 ?_
  refine z_Ln.call (s := 0) (mj := 41) (as := [.ref 93, .int 4]) (rr := []) (v := some (.int 114)) (T1 := (hC A E N V W ++ g, c)) rfl rfl ⟨⟨by omega, by have : z_pg.2.1 41 = 2 := rfl; omega⟩, (by decide : (0 : Nat) ≤ 8), (by decide +kernel : (2 : Nat) ≤ z_pg.2.1 41)⟩ hRm (s41_26_4 hRm (by omega) (by omega)) ⟨trivial, ⟨(Or.inl (by decide)), trivial, trivial⟩⟩ ?_
  exact z_Ln.ret rfl rfl
set_option maxRecDepth 10000 in
theorem s41_26_5 {L : Nat} {xs : Nat → Int32} {fv : Value} {f w : Nat} {c : Nat × Nat} {A : Nat → List (Nat × Int32)} {E : List (Nat × Option Nat)} {N : Nat → Nat} {V : Nat → Nat → Int32} {W : Nat} {g : List z_E}  (hRm : z_Rm (hC A E N V W ++ g, c)) (hf : 2 ≤ f) (hw : 150 ≤ w) : z_Ln L xs fv f w 41 0 [(0, .ref 93), (1, .int 5)] [] (hC A E N V W ++ g, c) (.inl (some (.int 110))) (hC A E N V W ++ g, c) := by
  have hR0 : ((c.1 ≤ 601024 ∧ c.2 ≤ 7293034) ∧ 1 ≤ f ∧ 60 ≤ w) := ⟨hRm, by omega, by omega⟩
  have m42 : z_pg.2.1 42 = 2 := rfl
  refine z_Ln.blk (pc' := 3) (lv' := [(0, .ref 93), (1, .int 5)]) (st' := [.int 6, .int 5]) (H' := hC A E N V W ++ g) (C := [((c.1 ≤ 601024 ∧ c.2 ≤ 7293034) ∧ 1 ≤ f ∧ 60 ≤ w)]) 0 3 rfl hR0 ?_
  refine z_Ln.call (s := 0) (mj := 42) (as := [.int 5, .int 6]) (rr := []) (v := none) (T1 := (hC A E N V W ++ g, c)) rfl rfl ⟨⟨by omega, by have : z_pg.2.1 42 = 2 := rfl; omega⟩, (by decide : (0 : Nat) ≤ 8), (by decide +kernel : (2 : Nat) ≤ z_pg.2.1 42)⟩ hRm (s42_5_6 hRm (by omega) (by omega)) ⟨trivial, ⟨(Or.inl (by decide)), trivial, trivial⟩⟩ ?_
  refine z_Ln.blk (pc' := 14) (lv' := [(0, .ref 93), (1, .int 5)]) (st' := [.int 110]) (H' := hC A E N V W ++ g) (C := [((c.1 ≤ 601024 ∧ c.2 ≤ 7293034) ∧ 1 ≤ f ∧ 60 ≤ w), z_in 5 6 = true]) 4 6 rfl ⟨hR0, (by decide : z_in 5 6 = true)⟩ ?_
  exact z_Ln.ret rfl rfl
set_option maxRecDepth 10000 in
theorem s39_26_5 {L : Nat} {xs : Nat → Int32} {fv : Value} {f w : Nat} {c : Nat × Nat} {A : Nat → List (Nat × Int32)} {E : List (Nat × Option Nat)} {N : Nat → Nat} {V : Nat → Nat → Int32} {W : Nat} {g : List z_E}  (hRm : z_Rm (hC A E N V W ++ g, c)) (hf : 3 ≤ f) (hw : 250 ≤ w) : z_Ln L xs fv f w 39 0 [(0, .ref 92), (1, .int 5)] [] (hC A E N V W ++ g, c) (.inl (some (.int 110))) (hC A E N V W ++ g, c) := by
  have hR0 : ((c.1 ≤ 601024 ∧ c.2 ≤ 7293034) ∧ 1 ≤ f ∧ 60 ≤ w) := ⟨hRm, by omega, by omega⟩
  have m40 : z_pg.2.1 40 = 1 := rfl
  have m41 : z_pg.2.1 41 = 2 := rfl
  refine z_Ln.blk (pc' := 1) (lv' := [(0, .ref 92), (1, .int 5)]) (st' := [.ref 92]) (H' := hC A E N V W ++ g) (C := []) 0 1 rfl trivial ?_
  refine z_Ln.call (s := 0) (mj := 40) (as := [.ref 92]) (rr := []) (v := some (.int 1)) (T1 := (hC A E N V W ++ g, c)) rfl rfl ⟨⟨by omega, by have : z_pg.2.1 40 = 1 := rfl; omega⟩, (by decide : (0 : Nat) ≤ 8), (by decide +kernel : (1 : Nat) ≤ z_pg.2.1 40)⟩ hRm (s40_26 hRm (by omega) (by omega)) ⟨trivial, ⟨(Or.inl (by decide)), trivial, trivial⟩⟩ ?_
  refine z_Ln.blk (pc' := (if decide (1 = 0) = true then 16 else 7)) (lv' := [(0, .ref 92), (1, .int 5)]) (st' := []) (H' := hC A E N V W ++ g) (C := []) 2 1 rfl trivial (z_Ln.brF (decide_eq_false (by decide)) ?_)
  refine z_Ln.blk (pc' := 12) (lv' := [(0, .ref 92), (1, .int 5)]) (st' := [.int 5, .ref 93]) (H' := hC A E N V W ++ g) (C := [((c.1 ≤ 601024 ∧ c.2 ≤ 7293034) ∧ 1 ≤ f ∧ 60 ≤ w)]) 3 3 rfl hR0 ?_
  refine z_Ln.call (s := 0) (mj := 41) (as := [.ref 93, .int 5]) (rr := []) (v := some (.int 110)) (T1 := (hC A E N V W ++ g, c)) rfl rfl ⟨⟨by omega, by have : z_pg.2.1 41 = 2 := rfl; omega⟩, (by decide : (0 : Nat) ≤ 8), (by decide +kernel : (2 : Nat) ≤ z_pg.2.1 41)⟩ hRm (s41_26_5 hRm (by omega) (by omega)) ⟨trivial, ⟨(Or.inl (by decide)), trivial, trivial⟩⟩ ?_
  exact z_Ln.ret rfl rfl
set_option maxRecDepth 10000 in
theorem s41_27_0 {L : Nat} {xs : Nat → Int32} {fv : Value} {f w : Nat} {c : Nat × Nat} {A : Nat → List (Nat × Int32)} {E : List (Nat × Option Nat)} {N : Nat → Nat} {V : Nat → Nat → Int32} {W : Nat} {g : List z_E}  (hRm : z_Rm (hC A E N V W ++ g, c)) (hf : 2 ≤ f) (hw : 150 ≤ w) : z_Ln L xs fv f w 41 0 [(0, .ref 95), (1, .int 0)] [] (hC A E N V W ++ g, c) (.inl (some (.int 101))) (hC A E N V W ++ g, c) := by
  have hR0 : ((c.1 ≤ 601024 ∧ c.2 ≤ 7293034) ∧ 1 ≤ f ∧ 60 ≤ w) := ⟨hRm, by omega, by omega⟩
  have m42 : z_pg.2.1 42 = 2 := rfl
  refine z_Ln.blk (pc' := 3) (lv' := [(0, .ref 95), (1, .int 0)]) (st' := [.int 3, .int 0]) (H' := hC A E N V W ++ g) (C := [((c.1 ≤ 601024 ∧ c.2 ≤ 7293034) ∧ 1 ≤ f ∧ 60 ≤ w)]) 0 3 rfl hR0 ?_
  refine z_Ln.call (s := 0) (mj := 42) (as := [.int 0, .int 3]) (rr := []) (v := none) (T1 := (hC A E N V W ++ g, c)) rfl rfl ⟨⟨by omega, by have : z_pg.2.1 42 = 2 := rfl; omega⟩, (by decide : (0 : Nat) ≤ 8), (by decide +kernel : (2 : Nat) ≤ z_pg.2.1 42)⟩ hRm (s42_0_3 hRm (by omega) (by omega)) ⟨trivial, ⟨(Or.inl (by decide)), trivial, trivial⟩⟩ ?_
  refine z_Ln.blk (pc' := 14) (lv' := [(0, .ref 95), (1, .int 0)]) (st' := [.int 101]) (H' := hC A E N V W ++ g) (C := [((c.1 ≤ 601024 ∧ c.2 ≤ 7293034) ∧ 1 ≤ f ∧ 60 ≤ w), z_in 0 3 = true]) 4 6 rfl ⟨hR0, (by decide : z_in 0 3 = true)⟩ ?_
  exact z_Ln.ret rfl rfl
set_option maxRecDepth 10000 in
theorem s39_27_0 {L : Nat} {xs : Nat → Int32} {fv : Value} {f w : Nat} {c : Nat × Nat} {A : Nat → List (Nat × Int32)} {E : List (Nat × Option Nat)} {N : Nat → Nat} {V : Nat → Nat → Int32} {W : Nat} {g : List z_E}  (hRm : z_Rm (hC A E N V W ++ g, c)) (hf : 3 ≤ f) (hw : 250 ≤ w) : z_Ln L xs fv f w 39 0 [(0, .ref 94), (1, .int 0)] [] (hC A E N V W ++ g, c) (.inl (some (.int 101))) (hC A E N V W ++ g, c) := by
  have hR0 : ((c.1 ≤ 601024 ∧ c.2 ≤ 7293034) ∧ 1 ≤ f ∧ 60 ≤ w) := ⟨hRm, by omega, by omega⟩
  have m40 : z_pg.2.1 40 = 1 := rfl
  have m41 : z_pg.2.1 41 = 2 := rfl
  refine z_Ln.blk (pc' := 1) (lv' := [(0, .ref 94), (1, .int 0)]) (st' := [.ref 94]) (H' := hC A E N V W ++ g) (C := []) 0 1 rfl trivial ?_
  refine z_Ln.call (s := 0) (mj := 40) (as := [.ref 94]) (rr := []) (v := some (.int 1)) (T1 := (hC A E N V W ++ g, c)) rfl rfl ⟨⟨by omega, by have : z_pg.2.1 40 = 1 := rfl; omega⟩, (by decide : (0 : Nat) ≤ 8), (by decide +kernel : (1 : Nat) ≤ z_pg.2.1 40)⟩ hRm (s40_27 hRm (by omega) (by omega)) ⟨trivial, ⟨(Or.inl (by decide)), trivial, trivial⟩⟩ ?_
  refine z_Ln.blk (pc' := (if decide (1 = 0) = true then 16 else 7)) (lv' := [(0, .ref 94), (1, .int 0)]) (st' := []) (H' := hC A E N V W ++ g) (C := []) 2 1 rfl trivial (z_Ln.brF (decide_eq_false (by decide)) ?_)
  refine z_Ln.blk (pc' := 12) (lv' := [(0, .ref 94), (1, .int 0)]) (st' := [.int 0, .ref 95]) (H' := hC A E N V W ++ g) (C := [((c.1 ≤ 601024 ∧ c.2 ≤ 7293034) ∧ 1 ≤ f ∧ 60 ≤ w)]) 3 3 rfl hR0 ?_
  refine z_Ln.call (s := 0) (mj := 41) (as := [.ref 95, .int 0]) (rr := []) (v := some (.int 101)) (T1 := (hC A E N V W ++ g, c)) rfl rfl ⟨⟨by omega, by have : z_pg.2.1 41 = 2 := rfl; omega⟩, (by decide : (0 : Nat) ≤ 8), (by decide +kernel : (2 : Nat) ≤ z_pg.2.1 41)⟩ hRm (s41_27_0 hRm (by omega) (by omega)) ⟨trivial, ⟨(Or.inl (by decide)), trivial, trivial⟩⟩ ?_
  exact z_Ln.ret rfl rfl
set_option maxRecDepth 10000 in
theorem s41_27_1 {L : Nat} {xs : Nat → Int32} {fv : Value} {f w : Nat} {c : Nat × Nat} {A : Nat → List (Nat × Int32)} {E : List (Nat × Option Nat)} {N : Nat → Nat} {V : Nat → Nat → Int32} {W : Nat} {g : List z_E}  (hRm : z_Rm (hC A E N V W ++ g, c)) (hf : 2 ≤ f) (hw : 150 ≤ w) : z_Ln L xs fv f w 41 0 [(0, .ref 95), (1, .int 1)] [] (hC A E N V W ++ g, c) (.inl (some (.int 110))) (hC A E N V W ++ g, c) := by
  have hR0 : ((c.1 ≤ 601024 ∧ c.2 ≤ 7293034) ∧ 1 ≤ f ∧ 60 ≤ w) := ⟨hRm, by omega, by omega⟩
  have m42 : z_pg.2.1 42 = 2 := rfl
  refine z_Ln.blk (pc' := 3) (lv' := [(0, .ref 95), (1, .int 1)]) (st' := [.int 3, .int 1]) (H' := hC A E N V W ++ g) (C := [((c.1 ≤ 601024 ∧ c.2 ≤ 7293034) ∧ 1 ≤ f ∧ 60 ≤ w)]) 0 3 rfl hR0 ?_
  refine z_Ln.call (s := 0) (mj := 42) (as := [.int 1, .int 3]) (rr := []) (v := none) (T1 := (hC A E N V W ++ g, c)) rfl rfl ⟨⟨by omega, by have : z_pg.2.1 42 = 2 := rfl; omega⟩, (by decide : (0 : Nat) ≤ 8), (by decide +kernel : (2 : Nat) ≤ z_pg.2.1 42)⟩ hRm (s42_1_3 hRm (by omega) (by omega)) ⟨trivial, ⟨(Or.inl (by decide)), trivial, trivial⟩⟩ ?_
  refine z_Ln.blk (pc' := 14) (lv' := [(0, .ref 95), (1, .int 1)]) (st' := [.int 110]) (H' := hC A E N V W ++ g) (C := [((c.1 ≤ 601024 ∧ c.2 ≤ 7293034) ∧ 1 ≤ f ∧ 60 ≤ w), z_in 1 3 = true]) 4 6 rfl ⟨hR0, (by decide : z_in 1 3 = true)⟩ ?_
  exact z_Ln.ret rfl rfl
set_option maxRecDepth 10000 in
theorem s39_27_1 {L : Nat} {xs : Nat → Int32} {fv : Value} {f w : Nat} {c : Nat × Nat} {A : Nat → List (Nat × Int32)} {E : List (Nat × Option Nat)} {N : Nat → Nat} {V : Nat → Nat → Int32} {W : Nat} {g : List z_E}  (hRm : z_Rm (hC A E N V W ++ g, c)) (hf : 3 ≤ f) (hw : 250 ≤ w) : z_Ln L xs fv f w 39 0 [(0, .ref 94), (1, .int 1)] [] (hC A E N V W ++ g, c) (.inl (some (.int 110))) (hC A E N V W ++ g, c) := by
  have hR0 : ((c.1 ≤ 601024 ∧ c.2 ≤ 7293034) ∧ 1 ≤ f ∧ 60 ≤ w) := ⟨hRm, by omega, by omega⟩
  have m40 : z_pg.2.1 40 = 1 := rfl
  have m41 : z_pg.2.1 41 = 2 := rfl
  refine z_Ln.blk (pc' := 1) (lv' := [(0, .ref 94), (1, .int 1)]) (st' := [.ref 94]) (H' := hC A E N V W ++ g) (C := []) 0 1 rfl trivial ?_
  refine z_Ln.call (s := 0) (mj := 40) (as := [.ref 94]) (rr := []) (v := some (.int 1)) (T1 := (hC A E N V W ++ g, c)) rfl rfl ⟨⟨by omega, by have : z_pg.2.1 40 = 1 := rfl; omega⟩, (by decide : (0 : Nat) ≤ 8), (by decide +kernel : (1 : Nat) ≤ z_pg.2.1 40)⟩ hRm (s40_27 hRm (by omega) (by omega)) ⟨trivial, ⟨(Or.inl (by decide)), trivial, trivial⟩⟩ ?_
  refine z_Ln.blk (pc' := (if decide (1 = 0) = true then 16 else 7)) (lv' := [(0, .ref 94), (1, .int 1)]) (st' := []) (H' := hC A E N V W ++ g) (C := []) 2 1 rfl trivial (z_Ln.brF (decide_eq_false (by decide)) ?_)
  refine z_Ln.blk (pc' := 12) (lv' := [(0, .ref 94), (1, .int 1)]) (st' := [.int 1, .ref 95]) (H' := hC A E N V W ++ g) (C := [((c.1 ≤ 601024 ∧ c.2 ≤ 7293034) ∧ 1 ≤ f ∧ 60 ≤ w)]) 3 3 rfl hR0 ?_
  refine z_Ln.call (s := 0) (mj := 41) (as := [.ref 95, .int 1]) (rr := []) (v := some (.int 110)) (T1 := (hC A E N V W ++ g, c)) rfl rfl ⟨⟨by omega, by have : z_pg.2.1 41 = 2 := rfl; omega⟩, (by decide : (0 : Nat) ≤ 8), (by decide +kernel : (2 : Nat) ≤ z_pg.2.1 41)⟩ hRm (s41_27_1 hRm (by omega) (by omega)) ⟨trivial, ⟨(Or.inl (by decide)), trivial, trivial⟩⟩ ?_
  exact z_Ln.ret rfl rfl
set_option maxRecDepth 10000 in
theorem s41_27_2 {L : Nat} {xs : Nat → Int32} {fv : Value} {f w : Nat} {c : Nat × Nat} {A : Nat → List (Nat × Int32)} {E : List (Nat × Option Nat)} {N : Nat → Nat} {V : Nat → Nat → Int32} {W : Nat} {g : List z_E}  (hRm : z_Rm (hC A E N V W ++ g, c)) (hf : 2 ≤ f) (hw : 150 ≤ w) : z_Ln L xs fv f w 41 0 [(0, .ref 95), (1, .int 2)] [] (hC A E N V W ++ g, c) (.inl (some (.int 100))) (hC A E N V W ++ g, c) := by
  have hR0 : ((c.1 ≤ 601024 ∧ c.2 ≤ 7293034) ∧ 1 ≤ f ∧ 60 ≤ w) := ⟨hRm, by omega, by omega⟩
  have m42 : z_pg.2.1 42 = 2 := rfl
  refine z_Ln.blk (pc' := 3) (lv' := [(0, .ref 95), (1, .int 2)]) (st' := [.int 3, .int 2]) (H' := hC A E N V W ++ g) (C := [((c.1 ≤ 601024 ∧ c.2 ≤ 7293034) ∧ 1 ≤ f ∧ 60 ≤ w)]) 0 3 rfl hR0 ?_
  refine z_Ln.call (s := 0) (mj := 42) (as := [.int 2, .int 3]) (rr := []) (v := none) (T1 := (hC A E N V W ++ g, c)) rfl rfl ⟨⟨by omega, by have : z_pg.2.1 42 = 2 := rfl; omega⟩, (by decide : (0 : Nat) ≤ 8), (by decide +kernel : (2 : Nat) ≤ z_pg.2.1 42)⟩ hRm (s42_2_3 hRm (by omega) (by omega)) ⟨trivial, ⟨(Or.inl (by decide)), trivial, trivial⟩⟩ ?_
  refine z_Ln.blk (pc' := 14) (lv' := [(0, .ref 95), (1, .int 2)]) (st' := [.int 100]) (H' := hC A E N V W ++ g) (C := [((c.1 ≤ 601024 ∧ c.2 ≤ 7293034) ∧ 1 ≤ f ∧ 60 ≤ w), z_in 2 3 = true]) 4 6 rfl ⟨hR0, (by decide : z_in 2 3 = true)⟩ ?_
  exact z_Ln.ret rfl rfl
set_option maxRecDepth 10000 in
theorem s39_27_2 {L : Nat} {xs : Nat → Int32} {fv : Value} {f w : Nat} {c : Nat × Nat} {A : Nat → List (Nat × Int32)} {E : List (Nat × Option Nat)} {N : Nat → Nat} {V : Nat → Nat → Int32} {W : Nat} {g : List z_E}  (hRm : z_Rm (hC A E N V W ++ g, c)) (hf : 3 ≤ f) (hw : 250 ≤ w) : z_Ln L xs fv f w 39 0 [(0, .ref 94), (1, .int 2)] [] (hC A E N V W ++ g, c) (.inl (some (.int 100))) (hC A E N V W ++ g, c) := by
  have hR0 : ((c.1 ≤ 601024 ∧ c.2 ≤ 7293034) ∧ 1 ≤ f ∧ 60 ≤ w) := ⟨hRm, by omega, by omega⟩
  have m40 : z_pg.2.1 40 = 1 := rfl
  have m41 : z_pg.2.1 41 = 2 := rfl
  refine z_Ln.blk (pc' := 1) (lv' := [(0, .ref 94), (1, .int 2)]) (st' := [.ref 94]) (H' := hC A E N V W ++ g) (C := []) 0 1 rfl trivial ?_
  refine z_Ln.call (s := 0) (mj := 40) (as := [.ref 94]) (rr := []) (v := some (.int 1)) (T1 := (hC A E N V W ++ g, c)) rfl rfl ⟨⟨by omega, by have : z_pg.2.1 40 = 1 := rfl; omega⟩, (by decide : (0 : Nat) ≤ 8), (by decide +kernel : (1 : Nat) ≤ z_pg.2.1 40)⟩ hRm (s40_27 hRm (by omega) (by omega)) ⟨trivial, ⟨(Or.inl (by decide)), trivial, trivial⟩⟩ ?_
  refine z_Ln.blk (pc' := (if decide (1 = 0) = true then 16 else 7)) (lv' := [(0, .ref 94), (1, .int 2)]) (st' := []) (H' := hC A E N V W ++ g) (C := []) 2 1 rfl trivial (z_Ln.brF (decide_eq_false (by decide)) ?_)
  refine z_Ln.blk (pc' := 12) (lv' := [(0, .ref 94), (1, .int 2)]) (st' := [.int 2, .ref 95]) (H' := hC A E N V W ++ g) (C := [((c.1 ≤ 601024 ∧ c.2 ≤ 7293034) ∧ 1 ≤ f ∧ 60 ≤ w)]) 3 3 rfl hR0 ?_
  refine z_Ln.call (s := 0) (mj := 41) (as := [.ref 95, .int 2]) (rr := []) (v := some (.int 100)) (T1 := (hC A E N V W ++ g, c)) rfl rfl ⟨⟨by omega, by have : z_pg.2.1 41 = 2 := rfl; omega⟩, (by decide : (0 : Nat) ≤ 8), (by decide +kernel : (2 : Nat) ≤ z_pg.2.1 41)⟩ hRm (s41_27_2 hRm (by omega) (by omega)) ⟨trivial, ⟨(Or.inl (by decide)), trivial, trivial⟩⟩ ?_
  exact z_Ln.ret rfl rfl
set_option maxRecDepth 10000 in
theorem s41_28_0 {L : Nat} {xs : Nat → Int32} {fv : Value} {f w : Nat} {c : Nat × Nat} {A : Nat → List (Nat × Int32)} {E : List (Nat × Option Nat)} {N : Nat → Nat} {V : Nat → Nat → Int32} {W : Nat} {g : List z_E}  (hRm : z_Rm (hC A E N V W ++ g, c)) (hf : 2 ≤ f) (hw : 150 ≤ w) : z_Ln L xs fv f w 41 0 [(0, .ref 97), (1, .int 0)] [] (hC A E N V W ++ g, c) (.inl (some (.int 116))) (hC A E N V W ++ g, c) := by
  have hR0 : ((c.1 ≤ 601024 ∧ c.2 ≤ 7293034) ∧ 1 ≤ f ∧ 60 ≤ w) := ⟨hRm, by omega, by omega⟩
  have m42 : z_pg.2.1 42 = 2 := rfl
  refine z_Ln.blk (pc' := 3) (lv' := [(0, .ref 97), (1, .int 0)]) (st' := [.int 4, .int 0]) (H' := hC A E N V W ++ g) (C := [((c.1 ≤ 601024 ∧ c.2 ≤ 7293034) ∧ 1 ≤ f ∧ 60 ≤ w)]) 0 3 rfl hR0 ?_
  refine z_Ln.call (s := 0) (mj := 42) (as := [.int 0, .int 4]) (rr := []) (v := none) (T1 := (hC A E N V W ++ g, c)) rfl rfl ⟨⟨by omega, by have : z_pg.2.1 42 = 2 := rfl; omega⟩, (by decide : (0 : Nat) ≤ 8), (by decide +kernel : (2 : Nat) ≤ z_pg.2.1 42)⟩ hRm (s42_0_4 hRm (by omega) (by omega)) ⟨trivial, ⟨(Or.inl (by decide)), trivial, trivial⟩⟩ ?_
  refine z_Ln.blk (pc' := 14) (lv' := [(0, .ref 97), (1, .int 0)]) (st' := [.int 116]) (H' := hC A E N V W ++ g) (C := [((c.1 ≤ 601024 ∧ c.2 ≤ 7293034) ∧ 1 ≤ f ∧ 60 ≤ w), z_in 0 4 = true]) 4 6 rfl ⟨hR0, (by decide : z_in 0 4 = true)⟩ ?_
  exact z_Ln.ret rfl rfl
set_option maxRecDepth 10000 in
theorem s39_28_0 {L : Nat} {xs : Nat → Int32} {fv : Value} {f w : Nat} {c : Nat × Nat} {A : Nat → List (Nat × Int32)} {E : List (Nat × Option Nat)} {N : Nat → Nat} {V : Nat → Nat → Int32} {W : Nat} {g : List z_E}  (hRm : z_Rm (hC A E N V W ++ g, c)) (hf : 3 ≤ f) (hw : 250 ≤ w) : z_Ln L xs fv f w 39 0 [(0, .ref 96), (1, .int 0)] [] (hC A E N V W ++ g, c) (.inl (some (.int 116))) (hC A E N V W ++ g, c) := by
  have hR0 : ((c.1 ≤ 601024 ∧ c.2 ≤ 7293034) ∧ 1 ≤ f ∧ 60 ≤ w) := ⟨hRm, by omega, by omega⟩
  have m40 : z_pg.2.1 40 = 1 := rfl
  have m41 : z_pg.2.1 41 = 2 := rfl
  refine z_Ln.blk (pc' := 1) (lv' := [(0, .ref 96), (1, .int 0)]) (st' := [.ref 96]) (H' := hC A E N V W ++ g) (C := []) 0 1 rfl trivial ?_
  refine z_Ln.call (s := 0) (mj := 40) (as := [.ref 96]) (rr := []) (v := some (.int 1)) (T1 := (hC A E N V W ++ g, c)) rfl rfl ⟨⟨by omega, by have : z_pg.2.1 40 = 1 := rfl; omega⟩, (by decide : (0 : Nat) ≤ 8), (by decide +kernel : (1 : Nat) ≤ z_pg.2.1 40)⟩ hRm (s40_28 hRm (by omega) (by omega)) ⟨trivial, ⟨(Or.inl (by decide)), trivial, trivial⟩⟩ ?_
  refine z_Ln.blk (pc' := (if decide (1 = 0) = true then 16 else 7)) (lv' := [(0, .ref 96), (1, .int 0)]) (st' := []) (H' := hC A E N V W ++ g) (C := []) 2 1 rfl trivial (z_Ln.brF (decide_eq_false (by decide)) ?_)
  refine z_Ln.blk (pc' := 12) (lv' := [(0, .ref 96), (1, .int 0)]) (st' := [.int 0, .ref 97]) (H' := hC A E N V W ++ g) (C := [((c.1 ≤ 601024 ∧ c.2 ≤ 7293034) ∧ 1 ≤ f ∧ 60 ≤ w)]) 3 3 rfl hR0 ?_
  refine z_Ln.call (s := 0) (mj := 41) (as := [.ref 97, .int 0]) (rr := []) (v := some (.int 116)) (T1 := (hC A E N V W ++ g, c)) rfl rfl ⟨⟨by omega, by have : z_pg.2.1 41 = 2 := rfl; omega⟩, (by decide : (0 : Nat) ≤ 8), (by decide +kernel : (2 : Nat) ≤ z_pg.2.1 41)⟩ hRm (s41_28_0 hRm (by omega) (by omega)) ⟨trivial, ⟨(Or.inl (by decide)), trivial, trivial⟩⟩ ?_
  exact z_Ln.ret rfl rfl
set_option maxRecDepth 10000 in
theorem s41_28_1 {L : Nat} {xs : Nat → Int32} {fv : Value} {f w : Nat} {c : Nat × Nat} {A : Nat → List (Nat × Int32)} {E : List (Nat × Option Nat)} {N : Nat → Nat} {V : Nat → Nat → Int32} {W : Nat} {g : List z_E}  (hRm : z_Rm (hC A E N V W ++ g, c)) (hf : 2 ≤ f) (hw : 150 ≤ w) : z_Ln L xs fv f w 41 0 [(0, .ref 97), (1, .int 1)] [] (hC A E N V W ++ g, c) (.inl (some (.int 114))) (hC A E N V W ++ g, c) := by
  have hR0 : ((c.1 ≤ 601024 ∧ c.2 ≤ 7293034) ∧ 1 ≤ f ∧ 60 ≤ w) := ⟨hRm, by omega, by omega⟩
  have m42 : z_pg.2.1 42 = 2 := rfl
  refine z_Ln.blk (pc' := 3) (lv' := [(0, .ref 97), (1, .int 1)]) (st' := [.int 4, .int 1]) (H' := hC A E N V W ++ g) (C := [((c.1 ≤ 601024 ∧ c.2 ≤ 7293034) ∧ 1 ≤ f ∧ 60 ≤ w)]) 0 3 rfl hR0 ?_
  refine z_Ln.call (s := 0) (mj := 42) (as := [.int 1, .int 4]) (rr := []) (v := none) (T1 := (hC A E N V W ++ g, c)) rfl rfl ⟨⟨by omega, by have : z_pg.2.1 42 = 2 := rfl; omega⟩, (by decide : (0 : Nat) ≤ 8), (by decide +kernel : (2 : Nat) ≤ z_pg.2.1 42)⟩ hRm (s42_1_4 hRm (by omega) (by omega)) ⟨trivial, ⟨(Or.inl (by decide)), trivial, trivial⟩⟩ ?_
  refine z_Ln.blk (pc' := 14) (lv' := [(0, .ref 97), (1, .int 1)]) (st' := [.int 114]) (H' := hC A E N V W ++ g) (C := [((c.1 ≤ 601024 ∧ c.2 ≤ 7293034) ∧ 1 ≤ f ∧ 60 ≤ w), z_in 1 4 = true]) 4 6 rfl ⟨hR0, (by decide : z_in 1 4 = true)⟩ ?_
  exact z_Ln.ret rfl rfl
set_option maxRecDepth 10000 in
theorem s39_28_1 {L : Nat} {xs : Nat → Int32} {fv : Value} {f w : Nat} {c : Nat × Nat} {A : Nat → List (Nat × Int32)} {E : List (Nat × Option Nat)} {N : Nat → Nat} {V : Nat → Nat → Int32} {W : Nat} {g : List z_E}  (hRm : z_Rm (hC A E N V W ++ g, c)) (hf : 3 ≤ f) (hw : 250 ≤ w) : z_Ln L xs fv f w 39 0 [(0, .ref 96), (1, .int 1)] [] (hC A E N V W ++ g, c) (.inl (some (.int 114))) (hC A E N V W ++ g, c) := by
  have hR0 : ((c.1 ≤ 601024 ∧ c.2 ≤ 7293034) ∧ 1 ≤ f ∧ 60 ≤ w) := ⟨hRm, by omega, by omega⟩
  have m40 : z_pg.2.1 40 = 1 := rfl
  have m41 : z_pg.2.1 41 = 2 := rfl
  refine z_Ln.blk (pc' := 1) (lv' := [(0, .ref 96), (1, .int 1)]) (st' := [.ref 96]) (H' := hC A E N V W ++ g) (C := []) 0 1 rfl trivial ?_
  refine z_Ln.call (s := 0) (mj := 40) (as := [.ref 96]) (rr := []) (v := some (.int 1)) (T1 := (hC A E N V W ++ g, c)) rfl rfl ⟨⟨by omega, by have : z_pg.2.1 40 = 1 := rfl; omega⟩, (by decide : (0 : Nat) ≤ 8), (by decide +kernel : (1 : Nat) ≤ z_pg.2.1 40)⟩ hRm (s40_28 hRm (by omega) (by omega)) ⟨trivial, ⟨(Or.inl (by decide)), trivial, trivial⟩⟩ ?_
  refine z_Ln.blk (pc' := (if decide (1 = 0) = true then 16 else 7)) (lv' := [(0, .ref 96), (1, .int 1)]) (st' := []) (H' := hC A E N V W ++ g) (C := []) 2 1 rfl trivial (z_Ln.brF (decide_eq_false (by decide)) ?_)
  refine z_Ln.blk (pc' := 12) (lv' := [(0, .ref 96), (1, .int 1)]) (st' := [.int 1, .ref 97]) (H' := hC A E N V W ++ g) (C := [((c.1 ≤ 601024 ∧ c.2 ≤ 7293034) ∧ 1 ≤ f ∧ 60 ≤ w)]) 3 3 rfl hR0 ?_
  refine z_Ln.call (s := 0) (mj := 41) (as := [.ref 97, .int 1]) (rr := []) (v := some (.int 114)) (T1 := (hC A E N V W ++ g, c)) rfl rfl ⟨⟨by omega, by have : z_pg.2.1 41 = 2 := rfl; omega⟩, (by decide : (0 : Nat) ≤ 8), (by decide +kernel : (2 : Nat) ≤ z_pg.2.1 41)⟩ hRm (s41_28_1 hRm (by omega) (by omega)) ⟨trivial, ⟨(Or.inl (by decide)), trivial, trivial⟩⟩ ?_
  exact z_Ln.ret rfl rfl
set_option maxRecDepth 10000 in
theorem s41_28_2 {L : Nat} {xs : Nat → Int32} {fv : Value} {f w : Nat} {c : Nat × Nat} {A : Nat → List (Nat × Int32)} {E : List (Nat × Option Nat)} {N : Nat → Nat} {V : Nat → Nat → Int32} {W : Nat} {g : List z_E}  (hRm : z_Rm (hC A E N V W ++ g, c)) (hf : 2 ≤ f) (hw : 150 ≤ w) : z_Ln L xs fv f w 41 0 [(0, .ref 97), (1, .int 2)] [] (hC A E N V W ++ g, c) (.inl (some (.int 117))) (hC A E N V W ++ g, c) := by
  have hR0 : ((c.1 ≤ 601024 ∧ c.2 ≤ 7293034) ∧ 1 ≤ f ∧ 60 ≤ w) := ⟨hRm, by omega, by omega⟩
  have m42 : z_pg.2.1 42 = 2 := rfl
  refine z_Ln.blk (pc' := 3) (lv' := [(0, .ref 97), (1, .int 2)]) (st' := [.int 4, .int 2]) (H' := hC A E N V W ++ g) (C := [((c.1 ≤ 601024 ∧ c.2 ≤ 7293034) ∧ 1 ≤ f ∧ 60 ≤ w)]) 0 3 rfl hR0 ?_
  refine z_Ln.call (s := 0) (mj := 42) (as := [.int 2, .int 4]) (rr := []) (v := none) (T1 := (hC A E N V W ++ g, c)) rfl rfl ⟨⟨by omega, by have : z_pg.2.1 42 = 2 := rfl; omega⟩, (by decide : (0 : Nat) ≤ 8), (by decide +kernel : (2 : Nat) ≤ z_pg.2.1 42)⟩ hRm (s42_2_4 hRm (by omega) (by omega)) ⟨trivial, ⟨(Or.inl (by decide)), trivial, trivial⟩⟩ ?_
  refine z_Ln.blk (pc' := 14) (lv' := [(0, .ref 97), (1, .int 2)]) (st' := [.int 117]) (H' := hC A E N V W ++ g) (C := [((c.1 ≤ 601024 ∧ c.2 ≤ 7293034) ∧ 1 ≤ f ∧ 60 ≤ w), z_in 2 4 = true]) 4 6 rfl ⟨hR0, (by decide : z_in 2 4 = true)⟩ ?_
  exact z_Ln.ret rfl rfl
set_option maxRecDepth 10000 in
theorem s39_28_2 {L : Nat} {xs : Nat → Int32} {fv : Value} {f w : Nat} {c : Nat × Nat} {A : Nat → List (Nat × Int32)} {E : List (Nat × Option Nat)} {N : Nat → Nat} {V : Nat → Nat → Int32} {W : Nat} {g : List z_E}  (hRm : z_Rm (hC A E N V W ++ g, c)) (hf : 3 ≤ f) (hw : 250 ≤ w) : z_Ln L xs fv f w 39 0 [(0, .ref 96), (1, .int 2)] [] (hC A E N V W ++ g, c) (.inl (some (.int 117))) (hC A E N V W ++ g, c) := by
  have hR0 : ((c.1 ≤ 601024 ∧ c.2 ≤ 7293034) ∧ 1 ≤ f ∧ 60 ≤ w) := ⟨hRm, by omega, by omega⟩
  have m40 : z_pg.2.1 40 = 1 := rfl
  have m41 : z_pg.2.1 41 = 2 := rfl
  refine z_Ln.blk (pc' := 1) (lv' := [(0, .ref 96), (1, .int 2)]) (st' := [.ref 96]) (H' := hC A E N V W ++ g) (C := []) 0 1 rfl trivial ?_
  refine z_Ln.call (s := 0) (mj := 40) (as := [.ref 96]) (rr := []) (v := some (.int 1)) (T1 := (hC A E N V W ++ g, c)) rfl rfl ⟨⟨by omega, by have : z_pg.2.1 40 = 1 := rfl; omega⟩, (by decide : (0 : Nat) ≤ 8), (by decide +kernel : (1 : Nat) ≤ z_pg.2.1 40)⟩ hRm (s40_28 hRm (by omega) (by omega)) ⟨trivial, ⟨(Or.inl (by decide)), trivial, trivial⟩⟩ ?_
  refine z_Ln.blk (pc' := (if decide (1 = 0) = true then 16 else 7)) (lv' := [(0, .ref 96), (1, .int 2)]) (st' := []) (H' := hC A E N V W ++ g) (C := []) 2 1 rfl trivial (z_Ln.brF (decide_eq_false (by decide)) ?_)
  refine z_Ln.blk (pc' := 12) (lv' := [(0, .ref 96), (1, .int 2)]) (st' := [.int 2, .ref 97]) (H' := hC A E N V W ++ g) (C := [((c.1 ≤ 601024 ∧ c.2 ≤ 7293034) ∧ 1 ≤ f ∧ 60 ≤ w)]) 3 3 rfl hR0 ?_
  refine z_Ln.call (s := 0) (mj := 41) (as := [.ref 97, .int 2]) (rr := []) (v := some (.int 117)) (T1 := (hC A E N V W ++ g, c)) rfl rfl ⟨⟨by omega, by have : z_pg.2.1 41 = 2 := rfl; omega⟩, (by decide : (0 : Nat) ≤ 8), (by decide +kernel : (2 : Nat) ≤ z_pg.2.1 41)⟩ hRm (s41_28_2 hRm (by omega) (by omega)) ⟨trivial, ⟨(Or.inl (by decide)), trivial, trivial⟩⟩ ?_
  exact z_Ln.ret rfl rfl
set_option maxRecDepth 10000 in
theorem s41_28_3 {L : Nat} {xs : Nat → Int32} {fv : Value} {f w : Nat} {c : Nat × Nat} {A : Nat → List (Nat × Int32)} {E : List (Nat × Option Nat)} {N : Nat → Nat} {V : Nat → Nat → Int32} {W : Nat} {g : List z_E}  (hRm : z_Rm (hC A E N V W ++ g, c)) (hf : 2 ≤ f) (hw : 150 ≤ w) : z_Ln L xs fv f w 41 0 [(0, .ref 97), (1, .int 3)] [] (hC A E N V W ++ g, c) (.inl (some (.int 101))) (hC A E N V W ++ g, c) := by
  have hR0 : ((c.1 ≤ 601024 ∧ c.2 ≤ 7293034) ∧ 1 ≤ f ∧ 60 ≤ w) := ⟨hRm, by omega, by omega⟩
  have m42 : z_pg.2.1 42 = 2 := rfl
  refine z_Ln.blk (pc' := 3) (lv' := [(0, .ref 97), (1, .int 3)]) (st' := [.int 4, .int 3]) (H' := hC A E N V W ++ g) (C := [((c.1 ≤ 601024 ∧ c.2 ≤ 7293034) ∧ 1 ≤ f ∧ 60 ≤ w)]) 0 3 rfl hR0 ?_
  refine z_Ln.call (s := 0) (mj := 42) (as := [.int 3, .int 4]) (rr := []) (v := none) (T1 := (hC A E N V W ++ g, c)) rfl rfl ⟨⟨by omega, by have : z_pg.2.1 42 = 2 := rfl; omega⟩, (by decide : (0 : Nat) ≤ 8), (by decide +kernel : (2 : Nat) ≤ z_pg.2.1 42)⟩ hRm (s42_3_4 hRm (by omega) (by omega)) ⟨trivial, ⟨(Or.inl (by decide)), trivial, trivial⟩⟩ ?_
  refine z_Ln.blk (pc' := 14) (lv' := [(0, .ref 97), (1, .int 3)]) (st' := [.int 101]) (H' := hC A E N V W ++ g) (C := [((c.1 ≤ 601024 ∧ c.2 ≤ 7293034) ∧ 1 ≤ f ∧ 60 ≤ w), z_in 3 4 = true]) 4 6 rfl ⟨hR0, (by decide : z_in 3 4 = true)⟩ ?_
  exact z_Ln.ret rfl rfl
set_option maxRecDepth 10000 in
theorem s39_28_3 {L : Nat} {xs : Nat → Int32} {fv : Value} {f w : Nat} {c : Nat × Nat} {A : Nat → List (Nat × Int32)} {E : List (Nat × Option Nat)} {N : Nat → Nat} {V : Nat → Nat → Int32} {W : Nat} {g : List z_E}  (hRm : z_Rm (hC A E N V W ++ g, c)) (hf : 3 ≤ f) (hw : 250 ≤ w) : z_Ln L xs fv f w 39 0 [(0, .ref 96), (1, .int 3)] [] (hC A E N V W ++ g, c) (.inl (some (.int 101))) (hC A E N V W ++ g, c) := by
  have hR0 : ((c.1 ≤ 601024 ∧ c.2 ≤ 7293034) ∧ 1 ≤ f ∧ 60 ≤ w) := ⟨hRm, by omega, by omega⟩
  have m40 : z_pg.2.1 40 = 1 := rfl
  have m41 : z_pg.2.1 41 = 2 := rfl
  refine z_Ln.blk (pc' := 1) (lv' := [(0, .ref 96), (1, .int 3)]) (st' := [.ref 96]) (H' := hC A E N V W ++ g) (C := []) 0 1 rfl trivial ?_
  refine z_Ln.call (s := 0) (mj := 40) (as := [.ref 96]) (rr := []) (v := some (.int 1)) (T1 := (hC A E N V W ++ g, c)) rfl rfl ⟨⟨by omega, by have : z_pg.2.1 40 = 1 := rfl; omega⟩, (by decide : (0 : Nat) ≤ 8), (by decide +kernel : (1 : Nat) ≤ z_pg.2.1 40)⟩ hRm (s40_28 hRm (by omega) (by omega)) ⟨trivial, ⟨(Or.inl (by decide)), trivial, trivial⟩⟩ ?_
  refine z_Ln.blk (pc' := (if decide (1 = 0) = true then 16 else 7)) (lv' := [(0, .ref 96), (1, .int 3)]) (st' := []) (H' := hC A E N V W ++ g) (C := []) 2 1 rfl trivial (z_Ln.brF (decide_eq_false (by decide)) ?_)
  refine z_Ln.blk (pc' := 12) (lv' := [(0, .ref 96), (1, .int 3)]) (st' := [.int 3, .ref 97]) (H' := hC A E N V W ++ g) (C := [((c.1 ≤ 601024 ∧ c.2 ≤ 7293034) ∧ 1 ≤ f ∧ 60 ≤ w)]) 3 3 rfl hR0 ?_
  refine z_Ln.call (s := 0) (mj := 41) (as := [.ref 97, .int 3]) (rr := []) (v := some (.int 101)) (T1 := (hC A E N V W ++ g, c)) rfl rfl ⟨⟨by omega, by have : z_pg.2.1 41 = 2 := rfl; omega⟩, (by decide : (0 : Nat) ≤ 8), (by decide +kernel : (2 : Nat) ≤ z_pg.2.1 41)⟩ hRm (s41_28_3 hRm (by omega) (by omega)) ⟨trivial, ⟨(Or.inl (by decide)), trivial, trivial⟩⟩ ?_
  exact z_Ln.ret rfl rfl
set_option maxRecDepth 10000 in
theorem s41_29_0 {L : Nat} {xs : Nat → Int32} {fv : Value} {f w : Nat} {c : Nat × Nat} {A : Nat → List (Nat × Int32)} {E : List (Nat × Option Nat)} {N : Nat → Nat} {V : Nat → Nat → Int32} {W : Nat} {g : List z_E}  (hRm : z_Rm (hC A E N V W ++ g, c)) (hf : 2 ≤ f) (hw : 150 ≤ w) : z_Ln L xs fv f w 41 0 [(0, .ref 99), (1, .int 0)] [] (hC A E N V W ++ g, c) (.inl (some (.int 102))) (hC A E N V W ++ g, c) := by
  have hR0 : ((c.1 ≤ 601024 ∧ c.2 ≤ 7293034) ∧ 1 ≤ f ∧ 60 ≤ w) := ⟨hRm, by omega, by omega⟩
  have m42 : z_pg.2.1 42 = 2 := rfl
  refine z_Ln.blk (pc' := 3) (lv' := [(0, .ref 99), (1, .int 0)]) (st' := [.int 5, .int 0]) (H' := hC A E N V W ++ g) (C := [((c.1 ≤ 601024 ∧ c.2 ≤ 7293034) ∧ 1 ≤ f ∧ 60 ≤ w)]) 0 3 rfl hR0 ?_
  refine z_Ln.call (s := 0) (mj := 42) (as := [.int 0, .int 5]) (rr := []) (v := none) (T1 := (hC A E N V W ++ g, c)) rfl rfl ⟨⟨by omega, by have : z_pg.2.1 42 = 2 := rfl; omega⟩, (by decide : (0 : Nat) ≤ 8), (by decide +kernel : (2 : Nat) ≤ z_pg.2.1 42)⟩ hRm (s42_0_5 hRm (by omega) (by omega)) ⟨trivial, ⟨(Or.inl (by decide)), trivial, trivial⟩⟩ ?_
  refine z_Ln.blk (pc' := 14) (lv' := [(0, .ref 99), (1, .int 0)]) (st' := [.int 102]) (H' := hC A E N V W ++ g) (C := [((c.1 ≤ 601024 ∧ c.2 ≤ 7293034) ∧ 1 ≤ f ∧ 60 ≤ w), z_in 0 5 = true]) 4 6 rfl ⟨hR0, (by decide : z_in 0 5 = true)⟩ ?_
  exact z_Ln.ret rfl rfl
set_option maxRecDepth 10000 in
theorem s39_29_0 {L : Nat} {xs : Nat → Int32} {fv : Value} {f w : Nat} {c : Nat × Nat} {A : Nat → List (Nat × Int32)} {E : List (Nat × Option Nat)} {N : Nat → Nat} {V : Nat → Nat → Int32} {W : Nat} {g : List z_E}  (hRm : z_Rm (hC A E N V W ++ g, c)) (hf : 3 ≤ f) (hw : 250 ≤ w) : z_Ln L xs fv f w 39 0 [(0, .ref 98), (1, .int 0)] [] (hC A E N V W ++ g, c) (.inl (some (.int 102))) (hC A E N V W ++ g, c) := by
  have hR0 : ((c.1 ≤ 601024 ∧ c.2 ≤ 7293034) ∧ 1 ≤ f ∧ 60 ≤ w) := ⟨hRm, by omega, by omega⟩
  have m40 : z_pg.2.1 40 = 1 := rfl
  have m41 : z_pg.2.1 41 = 2 := rfl
  refine z_Ln.blk (pc' := 1) (lv' := [(0, .ref 98), (1, .int 0)]) (st' := [.ref 98]) (H' := hC A E N V W ++ g) (C := []) 0 1 rfl trivial ?_
  refine z_Ln.call (s := 0) (mj := 40) (as := [.ref 98]) (rr := []) (v := some (.int 1)) (T1 := (hC A E N V W ++ g, c)) rfl rfl ⟨⟨by omega, by have : z_pg.2.1 40 = 1 := rfl; omega⟩, (by decide : (0 : Nat) ≤ 8), (by decide +kernel : (1 : Nat) ≤ z_pg.2.1 40)⟩ hRm (s40_29 hRm (by omega) (by omega)) ⟨trivial, ⟨(Or.inl (by decide)), trivial, trivial⟩⟩ ?_
  refine z_Ln.blk (pc' := (if decide (1 = 0) = true then 16 else 7)) (lv' := [(0, .ref 98), (1, .int 0)]) (st' := []) (H' := hC A E N V W ++ g) (C := []) 2 1 rfl trivial (z_Ln.brF (decide_eq_false (by decide)) ?_)
  refine z_Ln.blk (pc' := 12) (lv' := [(0, .ref 98), (1, .int 0)]) (st' := [.int 0, .ref 99]) (H' := hC A E N V W ++ g) (C := [((c.1 ≤ 601024 ∧ c.2 ≤ 7293034) ∧ 1 ≤ f ∧ 60 ≤ w)]) 3 3 rfl hR0 ?_
  refine z_Ln.call (s := 0) (mj := 41) (as := [.ref 99, .int 0]) (rr := []) (v := some (.int 102)) (T1 := (hC A E N V W ++ g, c)) rfl rfl ⟨⟨by omega, by have : z_pg.2.1 41 = 2 := rfl; omega⟩, (by decide : (0 : Nat) ≤ 8), (by decide +kernel : (2 : Nat) ≤ z_pg.2.1 41)⟩ hRm (s41_29_0 hRm (by omega) (by omega)) ⟨trivial, ⟨(Or.inl (by decide)), trivial, trivial⟩⟩ ?_
  exact z_Ln.ret rfl rfl
set_option maxRecDepth 10000 in
theorem s41_29_1 {L : Nat} {xs : Nat → Int32} {fv : Value} {f w : Nat} {c : Nat × Nat} {A : Nat → List (Nat × Int32)} {E : List (Nat × Option Nat)} {N : Nat → Nat} {V : Nat → Nat → Int32} {W : Nat} {g : List z_E}  (hRm : z_Rm (hC A E N V W ++ g, c)) (hf : 2 ≤ f) (hw : 150 ≤ w) : z_Ln L xs fv f w 41 0 [(0, .ref 99), (1, .int 1)] [] (hC A E N V W ++ g, c) (.inl (some (.int 97))) (hC A E N V W ++ g, c) := by
  have hR0 : ((c.1 ≤ 601024 ∧ c.2 ≤ 7293034) ∧ 1 ≤ f ∧ 60 ≤ w) := ⟨hRm, by omega, by omega⟩
  have m42 : z_pg.2.1 42 = 2 := rfl
  refine z_Ln.blk (pc' := 3) (lv' := [(0, .ref 99), (1, .int 1)]) (st' := [.int 5, .int 1]) (H' := hC A E N V W ++ g) (C := [((c.1 ≤ 601024 ∧ c.2 ≤ 7293034) ∧ 1 ≤ f ∧ 60 ≤ w)]) 0 3 rfl hR0 ?_
  refine z_Ln.call (s := 0) (mj := 42) (as := [.int 1, .int 5]) (rr := []) (v := none) (T1 := (hC A E N V W ++ g, c)) rfl rfl ⟨⟨by omega, by have : z_pg.2.1 42 = 2 := rfl; omega⟩, (by decide : (0 : Nat) ≤ 8), (by decide +kernel : (2 : Nat) ≤ z_pg.2.1 42)⟩ hRm (s42_1_5 hRm (by omega) (by omega)) ⟨trivial, ⟨(Or.inl (by decide)), trivial, trivial⟩⟩ ?_
  refine z_Ln.blk (pc' := 14) (lv' := [(0, .ref 99), (1, .int 1)]) (st' := [.int 97]) (H' := hC A E N V W ++ g) (C := [((c.1 ≤ 601024 ∧ c.2 ≤ 7293034) ∧ 1 ≤ f ∧ 60 ≤ w), z_in 1 5 = true]) 4 6 rfl ⟨hR0, (by decide : z_in 1 5 = true)⟩ ?_
  exact z_Ln.ret rfl rfl
set_option maxRecDepth 10000 in
theorem s39_29_1 {L : Nat} {xs : Nat → Int32} {fv : Value} {f w : Nat} {c : Nat × Nat} {A : Nat → List (Nat × Int32)} {E : List (Nat × Option Nat)} {N : Nat → Nat} {V : Nat → Nat → Int32} {W : Nat} {g : List z_E}  (hRm : z_Rm (hC A E N V W ++ g, c)) (hf : 3 ≤ f) (hw : 250 ≤ w) : z_Ln L xs fv f w 39 0 [(0, .ref 98), (1, .int 1)] [] (hC A E N V W ++ g, c) (.inl (some (.int 97))) (hC A E N V W ++ g, c) := by
  have hR0 : ((c.1 ≤ 601024 ∧ c.2 ≤ 7293034) ∧ 1 ≤ f ∧ 60 ≤ w) := ⟨hRm, by omega, by omega⟩
  have m40 : z_pg.2.1 40 = 1 := rfl
  have m41 : z_pg.2.1 41 = 2 := rfl
  refine z_Ln.blk (pc' := 1) (lv' := [(0, .ref 98), (1, .int 1)]) (st' := [.ref 98]) (H' := hC A E N V W ++ g) (C := []) 0 1 rfl trivial ?_
  refine z_Ln.call (s := 0) (mj := 40) (as := [.ref 98]) (rr := []) (v := some (.int 1)) (T1 := (hC A E N V W ++ g, c)) rfl rfl ⟨⟨by omega, by have : z_pg.2.1 40 = 1 := rfl; omega⟩, (by decide : (0 : Nat) ≤ 8), (by decide +kernel : (1 : Nat) ≤ z_pg.2.1 40)⟩ hRm (s40_29 hRm (by omega) (by omega)) ⟨trivial, ⟨(Or.inl (by decide)), trivial, trivial⟩⟩ ?_
  refine z_Ln.blk (pc' := (if decide (1 = 0) = true then 16 else 7)) (lv' := [(0, .ref 98), (1, .int 1)]) (st' := []) (H' := hC A E N V W ++ g) (C := []) 2 1 rfl trivial (z_Ln.brF (decide_eq_false (by decide)) ?_)
  refine z_Ln.blk (pc' := 12) (lv' := [(0, .ref 98), (1, .int 1)]) (st' := [.int 1, .ref 99]) (H' := hC A E N V W ++ g) (C := [((c.1 ≤ 601024 ∧ c.2 ≤ 7293034) ∧ 1 ≤ f ∧ 60 ≤ w)]) 3 3 rfl hR0 ?_
  refine z_Ln.call (s := 0) (mj := 41) (as := [.ref 99, .int 1]) (rr := []) (v := some (.int 97)) (T1 := (hC A E N V W ++ g, c)) rfl rfl ⟨⟨by omega, by have : z_pg.2.1 41 = 2 := rfl; omega⟩, (by decide : (0 : Nat) ≤ 8), (by decide +kernel : (2 : Nat) ≤ z_pg.2.1 41)⟩ hRm (s41_29_1 hRm (by omega) (by omega)) ⟨trivial, ⟨(Or.inl (by decide)), trivial, trivial⟩⟩ ?_
  exact z_Ln.ret rfl rfl
set_option maxRecDepth 10000 in
theorem s41_29_2 {L : Nat} {xs : Nat → Int32} {fv : Value} {f w : Nat} {c : Nat × Nat} {A : Nat → List (Nat × Int32)} {E : List (Nat × Option Nat)} {N : Nat → Nat} {V : Nat → Nat → Int32} {W : Nat} {g : List z_E}  (hRm : z_Rm (hC A E N V W ++ g, c)) (hf : 2 ≤ f) (hw : 150 ≤ w) : z_Ln L xs fv f w 41 0 [(0, .ref 99), (1, .int 2)] [] (hC A E N V W ++ g, c) (.inl (some (.int 108))) (hC A E N V W ++ g, c) := by
  have hR0 : ((c.1 ≤ 601024 ∧ c.2 ≤ 7293034) ∧ 1 ≤ f ∧ 60 ≤ w) := ⟨hRm, by omega, by omega⟩
  have m42 : z_pg.2.1 42 = 2 := rfl
  refine z_Ln.blk (pc' := 3) (lv' := [(0, .ref 99), (1, .int 2)]) (st' := [.int 5, .int 2]) (H' := hC A E N V W ++ g) (C := [((c.1 ≤ 601024 ∧ c.2 ≤ 7293034) ∧ 1 ≤ f ∧ 60 ≤ w)]) 0 3 rfl hR0 ?_
  refine z_Ln.call (s := 0) (mj := 42) (as := [.int 2, .int 5]) (rr := []) (v := none) (T1 := (hC A E N V W ++ g, c)) rfl rfl ⟨⟨by omega, by have : z_pg.2.1 42 = 2 := rfl; omega⟩, (by decide : (0 : Nat) ≤ 8), (by decide +kernel : (2 : Nat) ≤ z_pg.2.1 42)⟩ hRm (s42_2_5 hRm (by omega) (by omega)) ⟨trivial, ⟨(Or.inl (by decide)), trivial, trivial⟩⟩ ?_
  refine z_Ln.blk (pc' := 14) (lv' := [(0, .ref 99), (1, .int 2)]) (st' := [.int 108]) (H' := hC A E N V W ++ g) (C := [((c.1 ≤ 601024 ∧ c.2 ≤ 7293034) ∧ 1 ≤ f ∧ 60 ≤ w), z_in 2 5 = true]) 4 6 rfl ⟨hR0, (by decide : z_in 2 5 = true)⟩ ?_
  exact z_Ln.ret rfl rfl
set_option maxRecDepth 10000 in
theorem s39_29_2 {L : Nat} {xs : Nat → Int32} {fv : Value} {f w : Nat} {c : Nat × Nat} {A : Nat → List (Nat × Int32)} {E : List (Nat × Option Nat)} {N : Nat → Nat} {V : Nat → Nat → Int32} {W : Nat} {g : List z_E}  (hRm : z_Rm (hC A E N V W ++ g, c)) (hf : 3 ≤ f) (hw : 250 ≤ w) : z_Ln L xs fv f w 39 0 [(0, .ref 98), (1, .int 2)] [] (hC A E N V W ++ g, c) (.inl (some (.int 108))) (hC A E N V W ++ g, c) := by
  have hR0 : ((c.1 ≤ 601024 ∧ c.2 ≤ 7293034) ∧ 1 ≤ f ∧ 60 ≤ w) := ⟨hRm, by omega, by omega⟩
  have m40 : z_pg.2.1 40 = 1 := rfl
  have m41 : z_pg.2.1 41 = 2 := rfl
  refine z_Ln.blk (pc' := 1) (lv' := [(0, .ref 98), (1, .int 2)]) (st' := [.ref 98]) (H' := hC A E N V W ++ g) (C := []) 0 1 rfl trivial ?_
  refine z_Ln.call (s := 0) (mj := 40) (as := [.ref 98]) (rr := []) (v := some (.int 1)) (T1 := (hC A E N V W ++ g, c)) rfl rfl ⟨⟨by omega, by have : z_pg.2.1 40 = 1 := rfl; omega⟩, (by decide : (0 : Nat) ≤ 8), (by decide +kernel : (1 : Nat) ≤ z_pg.2.1 40)⟩ hRm (s40_29 hRm (by omega) (by omega)) ⟨trivial, ⟨(Or.inl (by decide)), trivial, trivial⟩⟩ ?_
  refine z_Ln.blk (pc' := (if decide (1 = 0) = true then 16 else 7)) (lv' := [(0, .ref 98), (1, .int 2)]) (st' := []) (H' := hC A E N V W ++ g) (C := []) 2 1 rfl trivial (z_Ln.brF (decide_eq_false (by decide)) ?_)
  refine z_Ln.blk (pc' := 12) (lv' := [(0, .ref 98), (1, .int 2)]) (st' := [.int 2, .ref 99]) (H' := hC A E N V W ++ g) (C := [((c.1 ≤ 601024 ∧ c.2 ≤ 7293034) ∧ 1 ≤ f ∧ 60 ≤ w)]) 3 3 rfl hR0 ?_
  refine z_Ln.call (s := 0) (mj := 41) (as := [.ref 99, .int 2]) (rr := []) (v := some (.int 108)) (T1 := (hC A E N V W ++ g, c)) rfl rfl ⟨⟨by omega, by have : z_pg.2.1 41 = 2 := rfl; omega⟩, (by decide : (0 : Nat) ≤ 8), (by decide +kernel : (2 : Nat) ≤ z_pg.2.1 41)⟩ hRm (s41_29_2 hRm (by omega) (by omega)) ⟨trivial, ⟨(Or.inl (by decide)), trivial, trivial⟩⟩ ?_
  exact z_Ln.ret rfl rfl
set_option maxRecDepth 10000 in
theorem s41_29_3 {L : Nat} {xs : Nat → Int32} {fv : Value} {f w : Nat} {c : Nat × Nat} {A : Nat → List (Nat × Int32)} {E : List (Nat × Option Nat)} {N : Nat → Nat} {V : Nat → Nat → Int32} {W : Nat} {g : List z_E}  (hRm : z_Rm (hC A E N V W ++ g, c)) (hf : 2 ≤ f) (hw : 150 ≤ w) : z_Ln L xs fv f w 41 0 [(0, .ref 99), (1, .int 3)] [] (hC A E N V W ++ g, c) (.inl (some (.int 115))) (hC A E N V W ++ g, c) := by
  have hR0 : ((c.1 ≤ 601024 ∧ c.2 ≤ 7293034) ∧ 1 ≤ f ∧ 60 ≤ w) := ⟨hRm, by omega, by omega⟩
  have m42 : z_pg.2.1 42 = 2 := rfl
  refine z_Ln.blk (pc' := 3) (lv' := [(0, .ref 99), (1, .int 3)]) (st' := [.int 5, .int 3]) (H' := hC A E N V W ++ g) (C := [((c.1 ≤ 601024 ∧ c.2 ≤ 7293034) ∧ 1 ≤ f ∧ 60 ≤ w)]) 0 3 rfl hR0 ?_
  refine z_Ln.call (s := 0) (mj := 42) (as := [.int 3, .int 5]) (rr := []) (v := none) (T1 := (hC A E N V W ++ g, c)) rfl rfl ⟨⟨by omega, by have : z_pg.2.1 42 = 2 := rfl; omega⟩, (by decide : (0 : Nat) ≤ 8), (by decide +kernel : (2 : Nat) ≤ z_pg.2.1 42)⟩ hRm (s42_3_5 hRm (by omega) (by omega)) ⟨trivial, ⟨(Or.inl (by decide)), trivial, trivial⟩⟩ ?_
  refine z_Ln.blk (pc' := 14) (lv' := [(0, .ref 99), (1, .int 3)]) (st' := [.int 115]) (H' := hC A E N V W ++ g) (C := [((c.1 ≤ 601024 ∧ c.2 ≤ 7293034) ∧ 1 ≤ f ∧ 60 ≤ w), z_in 3 5 = true]) 4 6 rfl ⟨hR0, (by decide : z_in 3 5 = true)⟩ ?_
  exact z_Ln.ret rfl rfl
set_option maxRecDepth 10000 in
theorem s39_29_3 {L : Nat} {xs : Nat → Int32} {fv : Value} {f w : Nat} {c : Nat × Nat} {A : Nat → List (Nat × Int32)} {E : List (Nat × Option Nat)} {N : Nat → Nat} {V : Nat → Nat → Int32} {W : Nat} {g : List z_E}  (hRm : z_Rm (hC A E N V W ++ g, c)) (hf : 3 ≤ f) (hw : 250 ≤ w) : z_Ln L xs fv f w 39 0 [(0, .ref 98), (1, .int 3)] [] (hC A E N V W ++ g, c) (.inl (some (.int 115))) (hC A E N V W ++ g, c) := by
  have hR0 : ((c.1 ≤ 601024 ∧ c.2 ≤ 7293034) ∧ 1 ≤ f ∧ 60 ≤ w) := ⟨hRm, by omega, by omega⟩
  have m40 : z_pg.2.1 40 = 1 := rfl
  have m41 : z_pg.2.1 41 = 2 := rfl
  refine z_Ln.blk (pc' := 1) (lv' := [(0, .ref 98), (1, .int 3)]) (st' := [.ref 98]) (H' := hC A E N V W ++ g) (C := []) 0 1 rfl trivial ?_
  refine z_Ln.call (s := 0) (mj := 40) (as := [.ref 98]) (rr := []) (v := some (.int 1)) (T1 := (hC A E N V W ++ g, c)) rfl rfl ⟨⟨by omega, by have : z_pg.2.1 40 = 1 := rfl; omega⟩, (by decide : (0 : Nat) ≤ 8), (by decide +kernel : (1 : Nat) ≤ z_pg.2.1 40)⟩ hRm (s40_29 hRm (by omega) (by omega)) ⟨trivial, ⟨(Or.inl (by decide)), trivial, trivial⟩⟩ ?_
  refine z_Ln.blk (pc' := (if decide (1 = 0) = true then 16 else 7)) (lv' := [(0, .ref 98), (1, .int 3)]) (st' := []) (H' := hC A E N V W ++ g) (C := []) 2 1 rfl trivial (z_Ln.brF (decide_eq_false (by decide)) ?_)
  refine z_Ln.blk (pc' := 12) (lv' := [(0, .ref 98), (1, .int 3)]) (st' := [.int 3, .ref 99]) (H' := hC A E N V W ++ g) (C := [((c.1 ≤ 601024 ∧ c.2 ≤ 7293034) ∧ 1 ≤ f ∧ 60 ≤ w)]) 3 3 rfl hR0 ?_
  refine z_Ln.call (s := 0) (mj := 41) (as := [.ref 99, .int 3]) (rr := []) (v := some (.int 115)) (T1 := (hC A E N V W ++ g, c)) rfl rfl ⟨⟨by omega, by have : z_pg.2.1 41 = 2 := rfl; omega⟩, (by decide : (0 : Nat) ≤ 8), (by decide +kernel : (2 : Nat) ≤ z_pg.2.1 41)⟩ hRm (s41_29_3 hRm (by omega) (by omega)) ⟨trivial, ⟨(Or.inl (by decide)), trivial, trivial⟩⟩ ?_
  exact z_Ln.ret rfl rfl
set_option maxRecDepth 10000 in
theorem s41_29_4 {L : Nat} {xs : Nat → Int32} {fv : Value} {f w : Nat} {c : Nat × Nat} {A : Nat → List (Nat × Int32)} {E : List (Nat × Option Nat)} {N : Nat → Nat} {V : Nat → Nat → Int32} {W : Nat} {g : List z_E}  (hRm : z_Rm (hC A E N V W ++ g, c)) (hf : 2 ≤ f) (hw : 150 ≤ w) : z_Ln L xs fv f w 41 0 [(0, .ref 99), (1, .int 4)] [] (hC A E N V W ++ g, c) (.inl (some (.int 101))) (hC A E N V W ++ g, c) := by
  have hR0 : ((c.1 ≤ 601024 ∧ c.2 ≤ 7293034) ∧ 1 ≤ f ∧ 60 ≤ w) := ⟨hRm, by omega, by omega⟩
  have m42 : z_pg.2.1 42 = 2 := rfl
  refine z_Ln.blk (pc' := 3) (lv' := [(0, .ref 99), (1, .int 4)]) (st' := [.int 5, .int 4]) (H' := hC A E N V W ++ g) (C := [((c.1 ≤ 601024 ∧ c.2 ≤ 7293034) ∧ 1 ≤ f ∧ 60 ≤ w)]) 0 3 rfl hR0 ?_
  refine z_Ln.call (s := 0) (mj := 42) (as := [.int 4, .int 5]) (rr := []) (v := none) (T1 := (hC A E N V W ++ g, c)) rfl rfl ⟨⟨by omega, by have : z_pg.2.1 42 = 2 := rfl; omega⟩, (by decide : (0 : Nat) ≤ 8), (by decide +kernel : (2 : Nat) ≤ z_pg.2.1 42)⟩ hRm (s42_4_5 hRm (by omega) (by omega)) ⟨trivial, ⟨(Or.inl (by decide)), trivial, trivial⟩⟩ ?_
  refine z_Ln.blk (pc' := 14) (lv' := [(0, .ref 99), (1, .int 4)]) (st' := [.int 101]) (H' := hC A E N V W ++ g) (C := [((c.1 ≤ 601024 ∧ c.2 ≤ 7293034) ∧ 1 ≤ f ∧ 60 ≤ w), z_in 4 5 = true]) 4 6 rfl ⟨hR0, (by decide : z_in 4 5 = true)⟩ ?_
  exact z_Ln.ret rfl rfl
set_option maxRecDepth 10000 in
theorem s39_29_4 {L : Nat} {xs : Nat → Int32} {fv : Value} {f w : Nat} {c : Nat × Nat} {A : Nat → List (Nat × Int32)} {E : List (Nat × Option Nat)} {N : Nat → Nat} {V : Nat → Nat → Int32} {W : Nat} {g : List z_E}  (hRm : z_Rm (hC A E N V W ++ g, c)) (hf : 3 ≤ f) (hw : 250 ≤ w) : z_Ln L xs fv f w 39 0 [(0, .ref 98), (1, .int 4)] [] (hC A E N V W ++ g, c) (.inl (some (.int 101))) (hC A E N V W ++ g, c) := by
  have hR0 : ((c.1 ≤ 601024 ∧ c.2 ≤ 7293034) ∧ 1 ≤ f ∧ 60 ≤ w) := ⟨hRm, by omega, by omega⟩
  have m40 : z_pg.2.1 40 = 1 := rfl
  have m41 : z_pg.2.1 41 = 2 := rfl
  refine z_Ln.blk (pc' := 1) (lv' := [(0, .ref 98), (1, .int 4)]) (st' := [.ref 98]) (H' := hC A E N V W ++ g) (C := []) 0 1 rfl trivial ?_
  refine z_Ln.call (s := 0) (mj := 40) (as := [.ref 98]) (rr := []) (v := some (.int 1)) (T1 := (hC A E N V W ++ g, c)) rfl rfl ⟨⟨by omega, by have : z_pg.2.1 40 = 1 := rfl; omega⟩, (by decide : (0 : Nat) ≤ 8), (by decide +kernel : (1 : Nat) ≤ z_pg.2.1 40)⟩ hRm (s40_29 hRm (by omega) (by omega)) ⟨trivial, ⟨(Or.inl (by decide)), trivial, trivial⟩⟩ ?_
  refine z_Ln.blk (pc' := (if decide (1 = 0) = true then 16 else 7)) (lv' := [(0, .ref 98), (1, .int 4)]) (st' := []) (H' := hC A E N V W ++ g) (C := []) 2 1 rfl trivial (z_Ln.brF (decide_eq_false (by decide)) ?_)
  refine z_Ln.blk (pc' := 12) (lv' := [(0, .ref 98), (1, .int 4)]) (st' := [.int 4, .ref 99]) (H' := hC A E N V W ++ g) (C := [((c.1 ≤ 601024 ∧ c.2 ≤ 7293034) ∧ 1 ≤ f ∧ 60 ≤ w)]) 3 3 rfl hR0 ?_
  refine z_Ln.call (s := 0) (mj := 41) (as := [.ref 99, .int 4]) (rr := []) (v := some (.int 101)) (T1 := (hC A E N V W ++ g, c)) rfl rfl ⟨⟨by omega, by have : z_pg.2.1 41 = 2 := rfl; omega⟩, (by decide : (0 : Nat) ≤ 8), (by decide +kernel : (2 : Nat) ≤ z_pg.2.1 41)⟩ hRm (s41_29_4 hRm (by omega) (by omega)) ⟨trivial, ⟨(Or.inl (by decide)), trivial, trivial⟩⟩ ?_
  exact z_Ln.ret rfl rfl
set_option maxRecDepth 10000 in
theorem s41_30_0 {L : Nat} {xs : Nat → Int32} {fv : Value} {f w : Nat} {c : Nat × Nat} {A : Nat → List (Nat × Int32)} {E : List (Nat × Option Nat)} {N : Nat → Nat} {V : Nat → Nat → Int32} {W : Nat} {g : List z_E}  (hRm : z_Rm (hC A E N V W ++ g, c)) (hf : 2 ≤ f) (hw : 150 ≤ w) : z_Ln L xs fv f w 41 0 [(0, .ref 101), (1, .int 0)] [] (hC A E N V W ++ g, c) (.inl (some (.int 105))) (hC A E N V W ++ g, c) := by
  have hR0 : ((c.1 ≤ 601024 ∧ c.2 ≤ 7293034) ∧ 1 ≤ f ∧ 60 ≤ w) := ⟨hRm, by omega, by omega⟩
  have m42 : z_pg.2.1 42 = 2 := rfl
  refine z_Ln.blk (pc' := 3) (lv' := [(0, .ref 101), (1, .int 0)]) (st' := [.int 3, .int 0]) (H' := hC A E N V W ++ g) (C := [((c.1 ≤ 601024 ∧ c.2 ≤ 7293034) ∧ 1 ≤ f ∧ 60 ≤ w)]) 0 3 rfl hR0 ?_
  refine z_Ln.call (s := 0) (mj := 42) (as := [.int 0, .int 3]) (rr := []) (v := none) (T1 := (hC A E N V W ++ g, c)) rfl rfl ⟨⟨by omega, by have : z_pg.2.1 42 = 2 := rfl; omega⟩, (by decide : (0 : Nat) ≤ 8), (by decide +kernel : (2 : Nat) ≤ z_pg.2.1 42)⟩ hRm (s42_0_3 hRm (by omega) (by omega)) ⟨trivial, ⟨(Or.inl (by decide)), trivial, trivial⟩⟩ ?_
  refine z_Ln.blk (pc' := 14) (lv' := [(0, .ref 101), (1, .int 0)]) (st' := [.int 105]) (H' := hC A E N V W ++ g) (C := [((c.1 ≤ 601024 ∧ c.2 ≤ 7293034) ∧ 1 ≤ f ∧ 60 ≤ w), z_in 0 3 = true]) 4 6 rfl ⟨hR0, (by decide : z_in 0 3 = true)⟩ ?_
  exact z_Ln.ret rfl rfl
set_option maxRecDepth 10000 in
theorem s39_30_0 {L : Nat} {xs : Nat → Int32} {fv : Value} {f w : Nat} {c : Nat × Nat} {A : Nat → List (Nat × Int32)} {E : List (Nat × Option Nat)} {N : Nat → Nat} {V : Nat → Nat → Int32} {W : Nat} {g : List z_E}  (hRm : z_Rm (hC A E N V W ++ g, c)) (hf : 3 ≤ f) (hw : 250 ≤ w) : z_Ln L xs fv f w 39 0 [(0, .ref 100), (1, .int 0)] [] (hC A E N V W ++ g, c) (.inl (some (.int 105))) (hC A E N V W ++ g, c) := by
  have hR0 : ((c.1 ≤ 601024 ∧ c.2 ≤ 7293034) ∧ 1 ≤ f ∧ 60 ≤ w) := ⟨hRm, by omega, by omega⟩
  have m40 : z_pg.2.1 40 = 1 := rfl
  have m41 : z_pg.2.1 41 = 2 := rfl
  refine z_Ln.blk (pc' := 1) (lv' := [(0, .ref 100), (1, .int 0)]) (st' := [.ref 100]) (H' := hC A E N V W ++ g) (C := []) 0 1 rfl trivial ?_
  refine z_Ln.call (s := 0) (mj := 40) (as := [.ref 100]) (rr := []) (v := some (.int 1)) (T1 := (hC A E N V W ++ g, c)) rfl rfl ⟨⟨by omega, by have : z_pg.2.1 40 = 1 := rfl; omega⟩, (by decide : (0 : Nat) ≤ 8), (by decide +kernel : (1 : Nat) ≤ z_pg.2.1 40)⟩ hRm (s40_30 hRm (by omega) (by omega)) ⟨trivial, ⟨(Or.inl (by decide)), trivial, trivial⟩⟩ ?_
  refine z_Ln.blk (pc' := (if decide (1 = 0) = true then 16 else 7)) (lv' := [(0, .ref 100), (1, .int 0)]) (st' := []) (H' := hC A E N V W ++ g) (C := []) 2 1 rfl trivial (z_Ln.brF (decide_eq_false (by decide)) ?_)
  refine z_Ln.blk (pc' := 12) (lv' := [(0, .ref 100), (1, .int 0)]) (st' := [.int 0, .ref 101]) (H' := hC A E N V W ++ g) (C := [((c.1 ≤ 601024 ∧ c.2 ≤ 7293034) ∧ 1 ≤ f ∧ 60 ≤ w)]) 3 3 rfl hR0 ?_
  refine z_Ln.call (s := 0) (mj := 41) (as := [.ref 101, .int 0]) (rr := []) (v := some (.int 105)) (T1 := (hC A E N V W ++ g, c)) rfl rfl ⟨⟨by omega, by have : z_pg.2.1 41 = 2 := rfl; omega⟩, (by decide : (0 : Nat) ≤ 8), (by decide +kernel : (2 : Nat) ≤ z_pg.2.1 41)⟩ hRm (s41_30_0 hRm (by omega) (by omega)) ⟨trivial, ⟨(Or.inl (by decide)), trivial, trivial⟩⟩ ?_
  exact z_Ln.ret rfl rfl
set_option maxRecDepth 10000 in
theorem s41_30_1 {L : Nat} {xs : Nat → Int32} {fv : Value} {f w : Nat} {c : Nat × Nat} {A : Nat → List (Nat × Int32)} {E : List (Nat × Option Nat)} {N : Nat → Nat} {V : Nat → Nat → Int32} {W : Nat} {g : List z_E}  (hRm : z_Rm (hC A E N V W ++ g, c)) (hf : 2 ≤ f) (hw : 150 ≤ w) : z_Ln L xs fv f w 41 0 [(0, .ref 101), (1, .int 1)] [] (hC A E N V W ++ g, c) (.inl (some (.int 110))) (hC A E N V W ++ g, c) := by
  have hR0 : ((c.1 ≤ 601024 ∧ c.2 ≤ 7293034) ∧ 1 ≤ f ∧ 60 ≤ w) := ⟨hRm, by omega, by omega⟩
  have m42 : z_pg.2.1 42 = 2 := rfl
  refine z_Ln.blk (pc' := 3) (lv' := [(0, .ref 101), (1, .int 1)]) (st' := [.int 3, .int 1]) (H' := hC A E N V W ++ g) (C := [((c.1 ≤ 601024 ∧ c.2 ≤ 7293034) ∧ 1 ≤ f ∧ 60 ≤ w)]) 0 3 rfl hR0 ?_
  refine z_Ln.call (s := 0) (mj := 42) (as := [.int 1, .int 3]) (rr := []) (v := none) (T1 := (hC A E N V W ++ g, c)) rfl rfl ⟨⟨by omega, by have : z_pg.2.1 42 = 2 := rfl; omega⟩, (by decide : (0 : Nat) ≤ 8), (by decide +kernel : (2 : Nat) ≤ z_pg.2.1 42)⟩ hRm (s42_1_3 hRm (by omega) (by omega)) ⟨trivial, ⟨(Or.inl (by decide)), trivial, trivial⟩⟩ ?_
  refine z_Ln.blk (pc' := 14) (lv' := [(0, .ref 101), (1, .int 1)]) (st' := [.int 110]) (H' := hC A E N V W ++ g) (C := [((c.1 ≤ 601024 ∧ c.2 ≤ 7293034) ∧ 1 ≤ f ∧ 60 ≤ w), z_in 1 3 = true]) 4 6 rfl ⟨hR0, (by decide : z_in 1 3 = true)⟩ ?_
  exact z_Ln.ret rfl rfl
set_option maxRecDepth 10000 in
theorem s39_30_1 {L : Nat} {xs : Nat → Int32} {fv : Value} {f w : Nat} {c : Nat × Nat} {A : Nat → List (Nat × Int32)} {E : List (Nat × Option Nat)} {N : Nat → Nat} {V : Nat → Nat → Int32} {W : Nat} {g : List z_E}  (hRm : z_Rm (hC A E N V W ++ g, c)) (hf : 3 ≤ f) (hw : 250 ≤ w) : z_Ln L xs fv f w 39 0 [(0, .ref 100), (1, .int 1)] [] (hC A E N V W ++ g, c) (.inl (some (.int 110))) (hC A E N V W ++ g, c) := by
  have hR0 : ((c.1 ≤ 601024 ∧ c.2 ≤ 7293034) ∧ 1 ≤ f ∧ 60 ≤ w) := ⟨hRm, by omega, by omega⟩
  have m40 : z_pg.2.1 40 = 1 := rfl
  have m41 : z_pg.2.1 41 = 2 := rfl
  refine z_Ln.blk (pc' := 1) (lv' := [(0, .ref 100), (1, .int 1)]) (st' := [.ref 100]) (H' := hC A E N V W ++ g) (C := []) 0 1 rfl trivial ?_
  refine z_Ln.call (s := 0) (mj := 40) (as := [.ref 100]) (rr := []) (v := some (.int 1)) (T1 := (hC A E N V W ++ g, c)) rfl rfl ⟨⟨by omega, by have : z_pg.2.1 40 = 1 := rfl; omega⟩, (by decide : (0 : Nat) ≤ 8), (by decide +kernel : (1 : Nat) ≤ z_pg.2.1 40)⟩ hRm (s40_30 hRm (by omega) (by omega)) ⟨trivial, ⟨(Or.inl (by decide)), trivial, trivial⟩⟩ ?_
  refine z_Ln.blk (pc' := (if decide (1 = 0) = true then 16 else 7)) (lv' := [(0, .ref 100), (1, .int 1)]) (st' := []) (H' := hC A E N V W ++ g) (C := []) 2 1 rfl trivial (z_Ln.brF (decide_eq_false (by decide)) ?_)
  refine z_Ln.blk (pc' := 12) (lv' := [(0, .ref 100), (1, .int 1)]) (st' := [.int 1, .ref 101]) (H' := hC A E N V W ++ g) (C := [((c.1 ≤ 601024 ∧ c.2 ≤ 7293034) ∧ 1 ≤ f ∧ 60 ≤ w)]) 3 3 rfl hR0 ?_
  refine z_Ln.call (s := 0) (mj := 41) (as := [.ref 101, .int 1]) (rr := []) (v := some (.int 110)) (T1 := (hC A E N V W ++ g, c)) rfl rfl ⟨⟨by omega, by have : z_pg.2.1 41 = 2 := rfl; omega⟩, (by decide : (0 : Nat) ≤ 8), (by decide +kernel : (2 : Nat) ≤ z_pg.2.1 41)⟩ hRm (s41_30_1 hRm (by omega) (by omega)) ⟨trivial, ⟨(Or.inl (by decide)), trivial, trivial⟩⟩ ?_
  exact z_Ln.ret rfl rfl
set_option maxRecDepth 10000 in
theorem s41_30_2 {L : Nat} {xs : Nat → Int32} {fv : Value} {f w : Nat} {c : Nat × Nat} {A : Nat → List (Nat × Int32)} {E : List (Nat × Option Nat)} {N : Nat → Nat} {V : Nat → Nat → Int32} {W : Nat} {g : List z_E}  (hRm : z_Rm (hC A E N V W ++ g, c)) (hf : 2 ≤ f) (hw : 150 ≤ w) : z_Ln L xs fv f w 41 0 [(0, .ref 101), (1, .int 2)] [] (hC A E N V W ++ g, c) (.inl (some (.int 116))) (hC A E N V W ++ g, c) := by
  have hR0 : ((c.1 ≤ 601024 ∧ c.2 ≤ 7293034) ∧ 1 ≤ f ∧ 60 ≤ w) := ⟨hRm, by omega, by omega⟩
  have m42 : z_pg.2.1 42 = 2 := rfl
  refine z_Ln.blk (pc' := 3) (lv' := [(0, .ref 101), (1, .int 2)]) (st' := [.int 3, .int 2]) (H' := hC A E N V W ++ g) (C := [((c.1 ≤ 601024 ∧ c.2 ≤ 7293034) ∧ 1 ≤ f ∧ 60 ≤ w)]) 0 3 rfl hR0 ?_
  refine z_Ln.call (s := 0) (mj := 42) (as := [.int 2, .int 3]) (rr := []) (v := none) (T1 := (hC A E N V W ++ g, c)) rfl rfl ⟨⟨by omega, by have : z_pg.2.1 42 = 2 := rfl; omega⟩, (by decide : (0 : Nat) ≤ 8), (by decide +kernel : (2 : Nat) ≤ z_pg.2.1 42)⟩ hRm (s42_2_3 hRm (by omega) (by omega)) ⟨trivial, ⟨(Or.inl (by decide)), trivial, trivial⟩⟩ ?_
  refine z_Ln.blk (pc' := 14) (lv' := [(0, .ref 101), (1, .int 2)]) (st' := [.int 116]) (H' := hC A E N V W ++ g) (C := [((c.1 ≤ 601024 ∧ c.2 ≤ 7293034) ∧ 1 ≤ f ∧ 60 ≤ w), z_in 2 3 = true]) 4 6 rfl ⟨hR0, (by decide : z_in 2 3 = true)⟩ ?_
  exact z_Ln.ret rfl rfl
set_option maxRecDepth 10000 in
theorem s39_30_2 {L : Nat} {xs : Nat → Int32} {fv : Value} {f w : Nat} {c : Nat × Nat} {A : Nat → List (Nat × Int32)} {E : List (Nat × Option Nat)} {N : Nat → Nat} {V : Nat → Nat → Int32} {W : Nat} {g : List z_E}  (hRm : z_Rm (hC A E N V W ++ g, c)) (hf : 3 ≤ f) (hw : 250 ≤ w) : z_Ln L xs fv f w 39 0 [(0, .ref 100), (1, .int 2)] [] (hC A E N V W ++ g, c) (.inl (some (.int 116))) (hC A E N V W ++ g, c) := by
  have hR0 : ((c.1 ≤ 601024 ∧ c.2 ≤ 7293034) ∧ 1 ≤ f ∧ 60 ≤ w) := ⟨hRm, by omega, by omega⟩
  have m40 : z_pg.2.1 40 = 1 := rfl
  have m41 : z_pg.2.1 41 = 2 := rfl
  refine z_Ln.blk (pc' := 1) (lv' := [(0, .ref 100), (1, .int 2)]) (st' := [.ref 100]) (H' := hC A E N V W ++ g) (C := []) 0 1 rfl trivial ?_
  refine z_Ln.call (s := 0) (mj := 40) (as := [.ref 100]) (rr := []) (v := some (.int 1)) (T1 := (hC A E N V W ++ g, c)) rfl rfl ⟨⟨by omega, by have : z_pg.2.1 40 = 1 := rfl; omega⟩, (by decide : (0 : Nat) ≤ 8), (by decide +kernel : (1 : Nat) ≤ z_pg.2.1 40)⟩ hRm (s40_30 hRm (by omega) (by omega)) ⟨trivial, ⟨(Or.inl (by decide)), trivial, trivial⟩⟩ ?_
  refine z_Ln.blk (pc' := (if decide (1 = 0) = true then 16 else 7)) (lv' := [(0, .ref 100), (1, .int 2)]) (st' := []) (H' := hC A E N V W ++ g) (C := []) 2 1 rfl trivial (z_Ln.brF (decide_eq_false (by decide)) ?_)
  refine z_Ln.blk (pc' := 12) (lv' := [(0, .ref 100), (1, .int 2)]) (st' := [.int 2, .ref 101]) (H' := hC A E N V W ++ g) (C := [((c.1 ≤ 601024 ∧ c.2 ≤ 7293034) ∧ 1 ≤ f ∧ 60 ≤ w)]) 3 3 rfl hR0 ?_
  refine z_Ln.call (s := 0) (mj := 41) (as := [.ref 101, .int 2]) (rr := []) (v := some (.int 116)) (T1 := (hC A E N V W ++ g, c)) rfl rfl ⟨⟨by omega, by have : z_pg.2.1 41 = 2 := rfl; omega⟩, (by decide : (0 : Nat) ≤ 8), (by decide +kernel : (2 : Nat) ≤ z_pg.2.1 41)⟩ hRm (s41_30_2 hRm (by omega) (by omega)) ⟨trivial, ⟨(Or.inl (by decide)), trivial, trivial⟩⟩ ?_
  exact z_Ln.ret rfl rfl
set_option maxRecDepth 10000 in
theorem s41_31_0 {L : Nat} {xs : Nat → Int32} {fv : Value} {f w : Nat} {c : Nat × Nat} {A : Nat → List (Nat × Int32)} {E : List (Nat × Option Nat)} {N : Nat → Nat} {V : Nat → Nat → Int32} {W : Nat} {g : List z_E}  (hRm : z_Rm (hC A E N V W ++ g, c)) (hf : 2 ≤ f) (hw : 150 ≤ w) : z_Ln L xs fv f w 41 0 [(0, .ref 103), (1, .int 0)] [] (hC A E N V W ++ g, c) (.inl (some (.int 98))) (hC A E N V W ++ g, c) := by
  have hR0 : ((c.1 ≤ 601024 ∧ c.2 ≤ 7293034) ∧ 1 ≤ f ∧ 60 ≤ w) := ⟨hRm, by omega, by omega⟩
  have m42 : z_pg.2.1 42 = 2 := rfl
  refine z_Ln.blk (pc' := 3) (lv' := [(0, .ref 103), (1, .int 0)]) (st' := [.int 4, .int 0]) (H' := hC A E N V W ++ g) (C := [((c.1 ≤ 601024 ∧ c.2 ≤ 7293034) ∧ 1 ≤ f ∧ 60 ≤ w)]) 0 3 rfl hR0 ?_
  refine z_Ln.call (s := 0) (mj := 42) (as := [.int 0, .int 4]) (rr := []) (v := none) (T1 := (hC A E N V W ++ g, c)) rfl rfl ⟨⟨by omega, by have : z_pg.2.1 42 = 2 := rfl; omega⟩, (by decide : (0 : Nat) ≤ 8), (by decide +kernel : (2 : Nat) ≤ z_pg.2.1 42)⟩ hRm (s42_0_4 hRm (by omega) (by omega)) ⟨trivial, ⟨(Or.inl (by decide)), trivial, trivial⟩⟩ ?_
  refine z_Ln.blk (pc' := 14) (lv' := [(0, .ref 103), (1, .int 0)]) (st' := [.int 98]) (H' := hC A E N V W ++ g) (C := [((c.1 ≤ 601024 ∧ c.2 ≤ 7293034) ∧ 1 ≤ f ∧ 60 ≤ w), z_in 0 4 = true]) 4 6 rfl ⟨hR0, (by decide : z_in 0 4 = true)⟩ ?_
  exact z_Ln.ret rfl rfl
set_option maxRecDepth 10000 in
theorem s39_31_0 {L : Nat} {xs : Nat → Int32} {fv : Value} {f w : Nat} {c : Nat × Nat} {A : Nat → List (Nat × Int32)} {E : List (Nat × Option Nat)} {N : Nat → Nat} {V : Nat → Nat → Int32} {W : Nat} {g : List z_E}  (hRm : z_Rm (hC A E N V W ++ g, c)) (hf : 3 ≤ f) (hw : 250 ≤ w) : z_Ln L xs fv f w 39 0 [(0, .ref 102), (1, .int 0)] [] (hC A E N V W ++ g, c) (.inl (some (.int 98))) (hC A E N V W ++ g, c) := by
  have hR0 : ((c.1 ≤ 601024 ∧ c.2 ≤ 7293034) ∧ 1 ≤ f ∧ 60 ≤ w) := ⟨hRm, by omega, by omega⟩
  have m40 : z_pg.2.1 40 = 1 := rfl
  have m41 : z_pg.2.1 41 = 2 := rfl
  refine z_Ln.blk (pc' := 1) (lv' := [(0, .ref 102), (1, .int 0)]) (st' := [.ref 102]) (H' := hC A E N V W ++ g) (C := []) 0 1 rfl trivial ?_
  refine z_Ln.call (s := 0) (mj := 40) (as := [.ref 102]) (rr := []) (v := some (.int 1)) (T1 := (hC A E N V W ++ g, c)) rfl rfl ⟨⟨by omega, by have : z_pg.2.1 40 = 1 := rfl; omega⟩, (by decide : (0 : Nat) ≤ 8), (by decide +kernel : (1 : Nat) ≤ z_pg.2.1 40)⟩ hRm (s40_31 hRm (by omega) (by omega)) ⟨trivial, ⟨(Or.inl (by decide)), trivial, trivial⟩⟩ ?_
  refine z_Ln.blk (pc' := (if decide (1 = 0) = true then 16 else 7)) (lv' := [(0, .ref 102), (1, .int 0)]) (st' := []) (H' := hC A E N V W ++ g) (C := []) 2 1 rfl trivial (z_Ln.brF (decide_eq_false (by decide)) ?_)
  refine z_Ln.blk (pc' := 12) (lv' := [(0, .ref 102), (1, .int 0)]) (st' := [.int 0, .ref 103]) (H' := hC A E N V W ++ g) (C := [((c.1 ≤ 601024 ∧ c.2 ≤ 7293034) ∧ 1 ≤ f ∧ 60 ≤ w)]) 3 3 rfl hR0 ?_
  refine z_Ln.call (s := 0) (mj := 41) (as := [.ref 103, .int 0]) (rr := []) (v := some (.int 98)) (T1 := (hC A E N V W ++ g, c)) rfl rfl ⟨⟨by omega, by have : z_pg.2.1 41 = 2 := rfl; omega⟩, (by decide : (0 : Nat) ≤ 8), (by decide +kernel : (2 : Nat) ≤ z_pg.2.1 41)⟩ hRm (s41_31_0 hRm (by omega) (by omega)) ⟨trivial, ⟨(Or.inl (by decide)), trivial, trivial⟩⟩ ?_
  exact z_Ln.ret rfl rfl
set_option maxRecDepth 10000 in
theorem s41_31_1 {L : Nat} {xs : Nat → Int32} {fv : Value} {f w : Nat} {c : Nat × Nat} {A : Nat → List (Nat × Int32)} {E : List (Nat × Option Nat)} {N : Nat → Nat} {V : Nat → Nat → Int32} {W : Nat} {g : List z_E}  (hRm : z_Rm (hC A E N V W ++ g, c)) (hf : 2 ≤ f) (hw : 150 ≤ w) : z_Ln L xs fv f w 41 0 [(0, .ref 103), (1, .int 1)] [] (hC A E N V W ++ g, c) (.inl (some (.int 111))) (hC A E N V W ++ g, c) := by
  have hR0 : ((c.1 ≤ 601024 ∧ c.2 ≤ 7293034) ∧ 1 ≤ f ∧ 60 ≤ w) := ⟨hRm, by omega, by omega⟩
  have m42 : z_pg.2.1 42 = 2 := rfl
  refine z_Ln.blk (pc' := 3) (lv' := [(0, .ref 103), (1, .int 1)]) (st' := [.int 4, .int 1]) (H' := hC A E N V W ++ g) (C := [((c.1 ≤ 601024 ∧ c.2 ≤ 7293034) ∧ 1 ≤ f ∧ 60 ≤ w)]) 0 3 rfl hR0 ?_
  refine z_Ln.call (s := 0) (mj := 42) (as := [.int 1, .int 4]) (rr := []) (v := none) (T1 := (hC A E N V W ++ g, c)) rfl rfl ⟨⟨by omega, by have : z_pg.2.1 42 = 2 := rfl; omega⟩, (by decide : (0 : Nat) ≤ 8), (by decide +kernel : (2 : Nat) ≤ z_pg.2.1 42)⟩ hRm (s42_1_4 hRm (by omega) (by omega)) ⟨trivial, ⟨(Or.inl (by decide)), trivial, trivial⟩⟩ ?_
  refine z_Ln.blk (pc' := 14) (lv' := [(0, .ref 103), (1, .int 1)]) (st' := [.int 111]) (H' := hC A E N V W ++ g) (C := [((c.1 ≤ 601024 ∧ c.2 ≤ 7293034) ∧ 1 ≤ f ∧ 60 ≤ w), z_in 1 4 = true]) 4 6 rfl ⟨hR0, (by decide : z_in 1 4 = true)⟩ ?_
  exact z_Ln.ret rfl rfl
set_option maxRecDepth 10000 in
theorem s39_31_1 {L : Nat} {xs : Nat → Int32} {fv : Value} {f w : Nat} {c : Nat × Nat} {A : Nat → List (Nat × Int32)} {E : List (Nat × Option Nat)} {N : Nat → Nat} {V : Nat → Nat → Int32} {W : Nat} {g : List z_E}  (hRm : z_Rm (hC A E N V W ++ g, c)) (hf : 3 ≤ f) (hw : 250 ≤ w) : z_Ln L xs fv f w 39 0 [(0, .ref 102), (1, .int 1)] [] (hC A E N V W ++ g, c) (.inl (some (.int 111))) (hC A E N V W ++ g, c) := by
  have hR0 : ((c.1 ≤ 601024 ∧ c.2 ≤ 7293034) ∧ 1 ≤ f ∧ 60 ≤ w) := ⟨hRm, by omega, by omega⟩
  have m40 : z_pg.2.1 40 = 1 := rfl
  have m41 : z_pg.2.1 41 = 2 := rfl
  refine z_Ln.blk (pc' := 1) (lv' := [(0, .ref 102), (1, .int 1)]) (st' := [.ref 102]) (H' := hC A E N V W ++ g) (C := []) 0 1 rfl trivial ?_
  refine z_Ln.call (s := 0) (mj := 40) (as := [.ref 102]) (rr := []) (v := some (.int 1)) (T1 := (hC A E N V W ++ g, c)) rfl rfl ⟨⟨by omega, by have : z_pg.2.1 40 = 1 := rfl; omega⟩, (by decide : (0 : Nat) ≤ 8), (by decide +kernel : (1 : Nat) ≤ z_pg.2.1 40)⟩ hRm (s40_31 hRm (by omega) (by omega)) ⟨trivial, ⟨(Or.inl (by decide)), trivial, trivial⟩⟩ ?_
  refine z_Ln.blk (pc' := (if decide (1 = 0) = true then 16 else 7)) (lv' := [(0, .ref 102), (1, .int 1)]) (st' := []) (H' := hC A E N V W ++ g) (C := []) 2 1 rfl trivial (z_Ln.brF (decide_eq_false (by decide)) ?_)
  refine z_Ln.blk (pc' := 12) (lv' := [(0, .ref 102), (1, .int 1)]) (st' := [.int 1, .ref 103]) (H' := hC A E N V W ++ g) (C := [((c.1 ≤ 601024 ∧ c.2 ≤ 7293034) ∧ 1 ≤ f ∧ 60 ≤ w)]) 3 3 rfl hR0 ?_
  refine z_Ln.call (s := 0) (mj := 41) (as := [.ref 103, .int 1]) (rr := []) (v := some (.int 111)) (T1 := (hC A E N V W ++ g, c)) rfl rfl ⟨⟨by omega, by have : z_pg.2.1 41 = 2 := rfl; omega⟩, (by decide : (0 : Nat) ≤ 8), (by decide +kernel : (2 : Nat) ≤ z_pg.2.1 41)⟩ hRm (s41_31_1 hRm (by omega) (by omega)) ⟨trivial, ⟨(Or.inl (by decide)), trivial, trivial⟩⟩ ?_
  exact z_Ln.ret rfl rfl
set_option maxRecDepth 10000 in
theorem s41_31_2 {L : Nat} {xs : Nat → Int32} {fv : Value} {f w : Nat} {c : Nat × Nat} {A : Nat → List (Nat × Int32)} {E : List (Nat × Option Nat)} {N : Nat → Nat} {V : Nat → Nat → Int32} {W : Nat} {g : List z_E}  (hRm : z_Rm (hC A E N V W ++ g, c)) (hf : 2 ≤ f) (hw : 150 ≤ w) : z_Ln L xs fv f w 41 0 [(0, .ref 103), (1, .int 2)] [] (hC A E N V W ++ g, c) (.inl (some (.int 111))) (hC A E N V W ++ g, c) := by
  have hR0 : ((c.1 ≤ 601024 ∧ c.2 ≤ 7293034) ∧ 1 ≤ f ∧ 60 ≤ w) := ⟨hRm, by omega, by omega⟩
  have m42 : z_pg.2.1 42 = 2 := rfl
  refine z_Ln.blk (pc' := 3) (lv' := [(0, .ref 103), (1, .int 2)]) (st' := [.int 4, .int 2]) (H' := hC A E N V W ++ g) (C := [((c.1 ≤ 601024 ∧ c.2 ≤ 7293034) ∧ 1 ≤ f ∧ 60 ≤ w)]) 0 3 rfl hR0 ?_
  refine z_Ln.call (s := 0) (mj := 42) (as := [.int 2, .int 4]) (rr := []) (v := none) (T1 := (hC A E N V W ++ g, c)) rfl rfl ⟨⟨by omega, by have : z_pg.2.1 42 = 2 := rfl; omega⟩, (by decide : (0 : Nat) ≤ 8), (by decide +kernel : (2 : Nat) ≤ z_pg.2.1 42)⟩ hRm (s42_2_4 hRm (by omega) (by omega)) ⟨trivial, ⟨(Or.inl (by decide)), trivial, trivial⟩⟩ ?_
  refine z_Ln.blk (pc' := 14) (lv' := [(0, .ref 103), (1, .int 2)]) (st' := [.int 111]) (H' := hC A E N V W ++ g) (C := [((c.1 ≤ 601024 ∧ c.2 ≤ 7293034) ∧ 1 ≤ f ∧ 60 ≤ w), z_in 2 4 = true]) 4 6 rfl ⟨hR0, (by decide : z_in 2 4 = true)⟩ ?_
  exact z_Ln.ret rfl rfl
set_option maxRecDepth 10000 in
theorem s39_31_2 {L : Nat} {xs : Nat → Int32} {fv : Value} {f w : Nat} {c : Nat × Nat} {A : Nat → List (Nat × Int32)} {E : List (Nat × Option Nat)} {N : Nat → Nat} {V : Nat → Nat → Int32} {W : Nat} {g : List z_E}  (hRm : z_Rm (hC A E N V W ++ g, c)) (hf : 3 ≤ f) (hw : 250 ≤ w) : z_Ln L xs fv f w 39 0 [(0, .ref 102), (1, .int 2)] [] (hC A E N V W ++ g, c) (.inl (some (.int 111))) (hC A E N V W ++ g, c) := by
  have hR0 : ((c.1 ≤ 601024 ∧ c.2 ≤ 7293034) ∧ 1 ≤ f ∧ 60 ≤ w) := ⟨hRm, by omega, by omega⟩
  have m40 : z_pg.2.1 40 = 1 := rfl
  have m41 : z_pg.2.1 41 = 2 := rfl
  refine z_Ln.blk (pc' := 1) (lv' := [(0, .ref 102), (1, .int 2)]) (st' := [.ref 102]) (H' := hC A E N V W ++ g) (C := []) 0 1 rfl trivial ?_
  refine z_Ln.call (s := 0) (mj := 40) (as := [.ref 102]) (rr := []) (v := some (.int 1)) (T1 := (hC A E N V W ++ g, c)) rfl rfl ⟨⟨by omega, by have : z_pg.2.1 40 = 1 := rfl; omega⟩, (by decide : (0 : Nat) ≤ 8), (by decide +kernel : (1 : Nat) ≤ z_pg.2.1 40)⟩ hRm (s40_31 hRm (by omega) (by omega)) ⟨trivial, ⟨(Or.inl (by decide)), trivial, trivial⟩⟩ ?_
  refine z_Ln.blk (pc' := (if decide (1 = 0) = true then 16 else 7)) (lv' := [(0, .ref 102), (1, .int 2)]) (st' := []) (H' := hC A E N V W ++ g) (C := []) 2 1 rfl trivial (z_Ln.brF (decide_eq_false (by decide)) ?_)
  refine z_Ln.blk (pc' := 12) (lv' := [(0, .ref 102), (1, .int 2)]) (st' := [.int 2, .ref 103]) (H' := hC A E N V W ++ g) (C := [((c.1 ≤ 601024 ∧ c.2 ≤ 7293034) ∧ 1 ≤ f ∧ 60 ≤ w)]) 3 3 rfl hR0 ?_
  refine z_Ln.call (s := 0) (mj := 41) (as := [.ref 103, .int 2]) (rr := []) (v := some (.int 111)) (T1 := (hC A E N V W ++ g, c)) rfl rfl ⟨⟨by omega, by have : z_pg.2.1 41 = 2 := rfl; omega⟩, (by decide : (0 : Nat) ≤ 8), (by decide +kernel : (2 : Nat) ≤ z_pg.2.1 41)⟩ hRm (s41_31_2 hRm (by omega) (by omega)) ⟨trivial, ⟨(Or.inl (by decide)), trivial, trivial⟩⟩ ?_
  exact z_Ln.ret rfl rfl
set_option maxRecDepth 10000 in
theorem s41_31_3 {L : Nat} {xs : Nat → Int32} {fv : Value} {f w : Nat} {c : Nat × Nat} {A : Nat → List (Nat × Int32)} {E : List (Nat × Option Nat)} {N : Nat → Nat} {V : Nat → Nat → Int32} {W : Nat} {g : List z_E}  (hRm : z_Rm (hC A E N V W ++ g, c)) (hf : 2 ≤ f) (hw : 150 ≤ w) : z_Ln L xs fv f w 41 0 [(0, .ref 103), (1, .int 3)] [] (hC A E N V W ++ g, c) (.inl (some (.int 108))) (hC A E N V W ++ g, c) := by
  have hR0 : ((c.1 ≤ 601024 ∧ c.2 ≤ 7293034) ∧ 1 ≤ f ∧ 60 ≤ w) := ⟨hRm, by omega, by omega⟩
  have m42 : z_pg.2.1 42 = 2 := rfl
  refine z_Ln.blk (pc' := 3) (lv' := [(0, .ref 103), (1, .int 3)]) (st' := [.int 4, .int 3]) (H' := hC A E N V W ++ g) (C := [((c.1 ≤ 601024 ∧ c.2 ≤ 7293034) ∧ 1 ≤ f ∧ 60 ≤ w)]) 0 3 rfl hR0 ?_
  refine z_Ln.call (s := 0) (mj := 42) (as := [.int 3, .int 4]) (rr := []) (v := none) (T1 := (hC A E N V W ++ g, c)) rfl rfl ⟨⟨by omega, by have : z_pg.2.1 42 = 2 := rfl; omega⟩, (by decide : (0 : Nat) ≤ 8), (by decide +kernel : (2 : Nat) ≤ z_pg.2.1 42)⟩ hRm (s42_3_4 hRm (by omega) (by omega)) ⟨trivial, ⟨(Or.inl (by decide)), trivial, trivial⟩⟩ ?_
  refine z_Ln.blk (pc' := 14) (lv' := [(0, .ref 103), (1, .int 3)]) (st' := [.int 108]) (H' := hC A E N V W ++ g) (C := [((c.1 ≤ 601024 ∧ c.2 ≤ 7293034) ∧ 1 ≤ f ∧ 60 ≤ w), z_in 3 4 = true]) 4 6 rfl ⟨hR0, (by decide : z_in 3 4 = true)⟩ ?_
  exact z_Ln.ret rfl rfl
set_option maxRecDepth 10000 in
theorem s39_31_3 {L : Nat} {xs : Nat → Int32} {fv : Value} {f w : Nat} {c : Nat × Nat} {A : Nat → List (Nat × Int32)} {E : List (Nat × Option Nat)} {N : Nat → Nat} {V : Nat → Nat → Int32} {W : Nat} {g : List z_E}  (hRm : z_Rm (hC A E N V W ++ g, c)) (hf : 3 ≤ f) (hw : 250 ≤ w) : z_Ln L xs fv f w 39 0 [(0, .ref 102), (1, .int 3)] [] (hC A E N V W ++ g, c) (.inl (some (.int 108))) (hC A E N V W ++ g, c) := by
  have hR0 : ((c.1 ≤ 601024 ∧ c.2 ≤ 7293034) ∧ 1 ≤ f ∧ 60 ≤ w) := ⟨hRm, by omega, by omega⟩
  have m40 : z_pg.2.1 40 = 1 := rfl
  have m41 : z_pg.2.1 41 = 2 := rfl
  refine z_Ln.blk (pc' := 1) (lv' := [(0, .ref 102), (1, .int 3)]) (st' := [.ref 102]) (H' := hC A E N V W ++ g) (C := []) 0 1 rfl trivial ?_
  refine z_Ln.call (s := 0) (mj := 40) (as := [.ref 102]) (rr := []) (v := some (.int 1)) (T1 := (hC A E N V W ++ g, c)) rfl rfl ⟨⟨by omega, by have : z_pg.2.1 40 = 1 := rfl; omega⟩, (by decide : (0 : Nat) ≤ 8), (by decide +kernel : (1 : Nat) ≤ z_pg.2.1 40)⟩ hRm (s40_31 hRm (by omega) (by omega)) ⟨trivial, ⟨(Or.inl (by decide)), trivial, trivial⟩⟩ ?_
  refine z_Ln.blk (pc' := (if decide (1 = 0) = true then 16 else 7)) (lv' := [(0, .ref 102), (1, .int 3)]) (st' := []) (H' := hC A E N V W ++ g) (C := []) 2 1 rfl trivial (z_Ln.brF (decide_eq_false (by decide)) ?_)
  refine z_Ln.blk (pc' := 12) (lv' := [(0, .ref 102), (1, .int 3)]) (st' := [.int 3, .ref 103]) (H' := hC A E N V W ++ g) (C := [((c.1 ≤ 601024 ∧ c.2 ≤ 7293034) ∧ 1 ≤ f ∧ 60 ≤ w)]) 3 3 rfl hR0 ?_
  refine z_Ln.call (s := 0) (mj := 41) (as := [.ref 103, .int 3]) (rr := []) (v := some (.int 108)) (T1 := (hC A E N V W ++ g, c)) rfl rfl ⟨⟨by omega, by have : z_pg.2.1 41 = 2 := rfl; omega⟩, (by decide : (0 : Nat) ≤ 8), (by decide +kernel : (2 : Nat) ≤ z_pg.2.1 41)⟩ hRm (s41_31_3 hRm (by omega) (by omega)) ⟨trivial, ⟨(Or.inl (by decide)), trivial, trivial⟩⟩ ?_
  exact z_Ln.ret rfl rfl
set_option maxRecDepth 10000 in
theorem s41_32_0 {L : Nat} {xs : Nat → Int32} {fv : Value} {f w : Nat} {c : Nat × Nat} {A : Nat → List (Nat × Int32)} {E : List (Nat × Option Nat)} {N : Nat → Nat} {V : Nat → Nat → Int32} {W : Nat} {g : List z_E}  (hRm : z_Rm (hC A E N V W ++ g, c)) (hf : 2 ≤ f) (hw : 150 ≤ w) : z_Ln L xs fv f w 41 0 [(0, .ref 105), (1, .int 0)] [] (hC A E N V W ++ g, c) (.inl (some (.int 117))) (hC A E N V W ++ g, c) := by
  have hR0 : ((c.1 ≤ 601024 ∧ c.2 ≤ 7293034) ∧ 1 ≤ f ∧ 60 ≤ w) := ⟨hRm, by omega, by omega⟩
  have m42 : z_pg.2.1 42 = 2 := rfl
  refine z_Ln.blk (pc' := 3) (lv' := [(0, .ref 105), (1, .int 0)]) (st' := [.int 4, .int 0]) (H' := hC A E N V W ++ g) (C := [((c.1 ≤ 601024 ∧ c.2 ≤ 7293034) ∧ 1 ≤ f ∧ 60 ≤ w)]) 0 3 rfl hR0 ?_
  refine z_Ln.call (s := 0) (mj := 42) (as := [.int 0, .int 4]) (rr := []) (v := none) (T1 := (hC A E N V W ++ g, c)) rfl rfl ⟨⟨by omega, by have : z_pg.2.1 42 = 2 := rfl; omega⟩, (by decide : (0 : Nat) ≤ 8), (by decide +kernel : (2 : Nat) ≤ z_pg.2.1 42)⟩ hRm (s42_0_4 hRm (by omega) (by omega)) ⟨trivial, ⟨(Or.inl (by decide)), trivial, trivial⟩⟩ ?_
  refine z_Ln.blk (pc' := 14) (lv' := [(0, .ref 105), (1, .int 0)]) (st' := [.int 117]) (H' := hC A E N V W ++ g) (C := [((c.1 ≤ 601024 ∧ c.2 ≤ 7293034) ∧ 1 ≤ f ∧ 60 ≤ w), z_in 0 4 = true]) 4 6 rfl ⟨hR0, (by decide : z_in 0 4 = true)⟩ ?_
  exact z_Ln.ret rfl rfl
set_option maxRecDepth 10000 in
theorem s39_32_0 {L : Nat} {xs : Nat → Int32} {fv : Value} {f w : Nat} {c : Nat × Nat} {A : Nat → List (Nat × Int32)} {E : List (Nat × Option Nat)} {N : Nat → Nat} {V : Nat → Nat → Int32} {W : Nat} {g : List z_E}  (hRm : z_Rm (hC A E N V W ++ g, c)) (hf : 3 ≤ f) (hw : 250 ≤ w) : z_Ln L xs fv f w 39 0 [(0, .ref 104), (1, .int 0)] [] (hC A E N V W ++ g, c) (.inl (some (.int 117))) (hC A E N V W ++ g, c) := by
  have hR0 : ((c.1 ≤ 601024 ∧ c.2 ≤ 7293034) ∧ 1 ≤ f ∧ 60 ≤ w) := ⟨hRm, by omega, by omega⟩
  have m40 : z_pg.2.1 40 = 1 := rfl
  have m41 : z_pg.2.1 41 = 2 := rfl
  refine z_Ln.blk (pc' := 1) (lv' := [(0, .ref 104), (1, .int 0)]) (st' := [.ref 104]) (H' := hC A E N V W ++ g) (C := []) 0 1 rfl trivial ?_
  refine z_Ln.call (s := 0) (mj := 40) (as := [.ref 104]) (rr := []) (v := some (.int 1)) (T1 := (hC A E N V W ++ g, c)) rfl rfl ⟨⟨by omega, by have : z_pg.2.1 40 = 1 := rfl; omega⟩, (by decide : (0 : Nat) ≤ 8), (by decide +kernel : (1 : Nat) ≤ z_pg.2.1 40)⟩ hRm (s40_32 hRm (by omega) (by omega)) ⟨trivial, ⟨(Or.inl (by decide)), trivial, trivial⟩⟩ ?_
  refine z_Ln.blk (pc' := (if decide (1 = 0) = true then 16 else 7)) (lv' := [(0, .ref 104), (1, .int 0)]) (st' := []) (H' := hC A E N V W ++ g) (C := []) 2 1 rfl trivial (z_Ln.brF (decide_eq_false (by decide)) ?_)
  refine z_Ln.blk (pc' := 12) (lv' := [(0, .ref 104), (1, .int 0)]) (st' := [.int 0, .ref 105]) (H' := hC A E N V W ++ g) (C := [((c.1 ≤ 601024 ∧ c.2 ≤ 7293034) ∧ 1 ≤ f ∧ 60 ≤ w)]) 3 3 rfl hR0 ?_
  refine z_Ln.call (s := 0) (mj := 41) (as := [.ref 105, .int 0]) (rr := []) (v := some (.int 117)) (T1 := (hC A E N V W ++ g, c)) rfl rfl ⟨⟨by omega, by have : z_pg.2.1 41 = 2 := rfl; omega⟩, (by decide : (0 : Nat) ≤ 8), (by decide +kernel : (2 : Nat) ≤ z_pg.2.1 41)⟩ hRm (s41_32_0 hRm (by omega) (by omega)) ⟨trivial, ⟨(Or.inl (by decide)), trivial, trivial⟩⟩ ?_
  exact z_Ln.ret rfl rfl
set_option maxRecDepth 10000 in
theorem s41_32_1 {L : Nat} {xs : Nat → Int32} {fv : Value} {f w : Nat} {c : Nat × Nat} {A : Nat → List (Nat × Int32)} {E : List (Nat × Option Nat)} {N : Nat → Nat} {V : Nat → Nat → Int32} {W : Nat} {g : List z_E}  (hRm : z_Rm (hC A E N V W ++ g, c)) (hf : 2 ≤ f) (hw : 150 ≤ w) : z_Ln L xs fv f w 41 0 [(0, .ref 105), (1, .int 1)] [] (hC A E N V W ++ g, c) (.inl (some (.int 110))) (hC A E N V W ++ g, c) := by
  have hR0 : ((c.1 ≤ 601024 ∧ c.2 ≤ 7293034) ∧ 1 ≤ f ∧ 60 ≤ w) := ⟨hRm, by omega, by omega⟩
  have m42 : z_pg.2.1 42 = 2 := rfl
  refine z_Ln.blk (pc' := 3) (lv' := [(0, .ref 105), (1, .int 1)]) (st' := [.int 4, .int 1]) (H' := hC A E N V W ++ g) (C := [((c.1 ≤ 601024 ∧ c.2 ≤ 7293034) ∧ 1 ≤ f ∧ 60 ≤ w)]) 0 3 rfl hR0 ?_
  refine z_Ln.call (s := 0) (mj := 42) (as := [.int 1, .int 4]) (rr := []) (v := none) (T1 := (hC A E N V W ++ g, c)) rfl rfl ⟨⟨by omega, by have : z_pg.2.1 42 = 2 := rfl; omega⟩, (by decide : (0 : Nat) ≤ 8), (by decide +kernel : (2 : Nat) ≤ z_pg.2.1 42)⟩ hRm (s42_1_4 hRm (by omega) (by omega)) ⟨trivial, ⟨(Or.inl (by decide)), trivial, trivial⟩⟩ ?_
  refine z_Ln.blk (pc' := 14) (lv' := [(0, .ref 105), (1, .int 1)]) (st' := [.int 110]) (H' := hC A E N V W ++ g) (C := [((c.1 ≤ 601024 ∧ c.2 ≤ 7293034) ∧ 1 ≤ f ∧ 60 ≤ w), z_in 1 4 = true]) 4 6 rfl ⟨hR0, (by decide : z_in 1 4 = true)⟩ ?_
  exact z_Ln.ret rfl rfl
set_option maxRecDepth 10000 in
theorem s39_32_1 {L : Nat} {xs : Nat → Int32} {fv : Value} {f w : Nat} {c : Nat × Nat} {A : Nat → List (Nat × Int32)} {E : List (Nat × Option Nat)} {N : Nat → Nat} {V : Nat → Nat → Int32} {W : Nat} {g : List z_E}  (hRm : z_Rm (hC A E N V W ++ g, c)) (hf : 3 ≤ f) (hw : 250 ≤ w) : z_Ln L xs fv f w 39 0 [(0, .ref 104), (1, .int 1)] [] (hC A E N V W ++ g, c) (.inl (some (.int 110))) (hC A E N V W ++ g, c) := by
  have hR0 : ((c.1 ≤ 601024 ∧ c.2 ≤ 7293034) ∧ 1 ≤ f ∧ 60 ≤ w) := ⟨hRm, by omega, by omega⟩
  have m40 : z_pg.2.1 40 = 1 := rfl
  have m41 : z_pg.2.1 41 = 2 := rfl
  refine z_Ln.blk (pc' := 1) (lv' := [(0, .ref 104), (1, .int 1)]) (st' := [.ref 104]) (H' := hC A E N V W ++ g) (C := []) 0 1 rfl trivial ?_
  refine z_Ln.call (s := 0) (mj := 40) (as := [.ref 104]) (rr := []) (v := some (.int 1)) (T1 := (hC A E N V W ++ g, c)) rfl rfl ⟨⟨by omega, by have : z_pg.2.1 40 = 1 := rfl; omega⟩, (by decide : (0 : Nat) ≤ 8), (by decide +kernel : (1 : Nat) ≤ z_pg.2.1 40)⟩ hRm (s40_32 hRm (by omega) (by omega)) ⟨trivial, ⟨(Or.inl (by decide)), trivial, trivial⟩⟩ ?_
  refine z_Ln.blk (pc' := (if decide (1 = 0) = true then 16 else 7)) (lv' := [(0, .ref 104), (1, .int 1)]) (st' := []) (H' := hC A E N V W ++ g) (C := []) 2 1 rfl trivial (z_Ln.brF (decide_eq_false (by decide)) ?_)
  refine z_Ln.blk (pc' := 12) (lv' := [(0, .ref 104), (1, .int 1)]) (st' := [.int 1, .ref 105]) (H' := hC A E N V W ++ g) (C := [((c.1 ≤ 601024 ∧ c.2 ≤ 7293034) ∧ 1 ≤ f ∧ 60 ≤ w)]) 3 3 rfl hR0 ?_
  refine z_Ln.call (s := 0) (mj := 41) (as := [.ref 105, .int 1]) (rr := []) (v := some (.int 110)) (T1 := (hC A E N V W ++ g, c)) rfl rfl ⟨⟨by omega, by have : z_pg.2.1 41 = 2 := rfl; omega⟩, (by decide : (0 : Nat) ≤ 8), (by decide +kernel : (2 : Nat) ≤ z_pg.2.1 41)⟩ hRm (s41_32_1 hRm (by omega) (by omega)) ⟨trivial, ⟨(Or.inl (by decide)), trivial, trivial⟩⟩ ?_
  exact z_Ln.ret rfl rfl
set_option maxRecDepth 10000 in
theorem s41_32_2 {L : Nat} {xs : Nat → Int32} {fv : Value} {f w : Nat} {c : Nat × Nat} {A : Nat → List (Nat × Int32)} {E : List (Nat × Option Nat)} {N : Nat → Nat} {V : Nat → Nat → Int32} {W : Nat} {g : List z_E}  (hRm : z_Rm (hC A E N V W ++ g, c)) (hf : 2 ≤ f) (hw : 150 ≤ w) : z_Ln L xs fv f w 41 0 [(0, .ref 105), (1, .int 2)] [] (hC A E N V W ++ g, c) (.inl (some (.int 105))) (hC A E N V W ++ g, c) := by
  have hR0 : ((c.1 ≤ 601024 ∧ c.2 ≤ 7293034) ∧ 1 ≤ f ∧ 60 ≤ w) := ⟨hRm, by omega, by omega⟩
  have m42 : z_pg.2.1 42 = 2 := rfl
  refine z_Ln.blk (pc' := 3) (lv' := [(0, .ref 105), (1, .int 2)]) (st' := [.int 4, .int 2]) (H' := hC A E N V W ++ g) (C := [((c.1 ≤ 601024 ∧ c.2 ≤ 7293034) ∧ 1 ≤ f ∧ 60 ≤ w)]) 0 3 rfl hR0 ?_
  refine z_Ln.call (s := 0) (mj := 42) (as := [.int 2, .int 4]) (rr := []) (v := none) (T1 := (hC A E N V W ++ g, c)) rfl rfl ⟨⟨by omega, by have : z_pg.2.1 42 = 2 := rfl; omega⟩, (by decide : (0 : Nat) ≤ 8), (by decide +kernel : (2 : Nat) ≤ z_pg.2.1 42)⟩ hRm (s42_2_4 hRm (by omega) (by omega)) ⟨trivial, ⟨(Or.inl (by decide)), trivial, trivial⟩⟩ ?_
  refine z_Ln.blk (pc' := 14) (lv' := [(0, .ref 105), (1, .int 2)]) (st' := [.int 105]) (H' := hC A E N V W ++ g) (C := [((c.1 ≤ 601024 ∧ c.2 ≤ 7293034) ∧ 1 ≤ f ∧ 60 ≤ w), z_in 2 4 = true]) 4 6 rfl ⟨hR0, (by decide : z_in 2 4 = true)⟩ ?_
  exact z_Ln.ret rfl rfl
set_option maxRecDepth 10000 in
theorem s39_32_2 {L : Nat} {xs : Nat → Int32} {fv : Value} {f w : Nat} {c : Nat × Nat} {A : Nat → List (Nat × Int32)} {E : List (Nat × Option Nat)} {N : Nat → Nat} {V : Nat → Nat → Int32} {W : Nat} {g : List z_E}  (hRm : z_Rm (hC A E N V W ++ g, c)) (hf : 3 ≤ f) (hw : 250 ≤ w) : z_Ln L xs fv f w 39 0 [(0, .ref 104), (1, .int 2)] [] (hC A E N V W ++ g, c) (.inl (some (.int 105))) (hC A E N V W ++ g, c) := by
  have hR0 : ((c.1 ≤ 601024 ∧ c.2 ≤ 7293034) ∧ 1 ≤ f ∧ 60 ≤ w) := ⟨hRm, by omega, by omega⟩
  have m40 : z_pg.2.1 40 = 1 := rfl
  have m41 : z_pg.2.1 41 = 2 := rfl
  refine z_Ln.blk (pc' := 1) (lv' := [(0, .ref 104), (1, .int 2)]) (st' := [.ref 104]) (H' := hC A E N V W ++ g) (C := []) 0 1 rfl trivial ?_
  refine z_Ln.call (s := 0) (mj := 40) (as := [.ref 104]) (rr := []) (v := some (.int 1)) (T1 := (hC A E N V W ++ g, c)) rfl rfl ⟨⟨by omega, by have : z_pg.2.1 40 = 1 := rfl; omega⟩, (by decide : (0 : Nat) ≤ 8), (by decide +kernel : (1 : Nat) ≤ z_pg.2.1 40)⟩ hRm (s40_32 hRm (by omega) (by omega)) ⟨trivial, ⟨(Or.inl (by decide)), trivial, trivial⟩⟩ ?_
  refine z_Ln.blk (pc' := (if decide (1 = 0) = true then 16 else 7)) (lv' := [(0, .ref 104), (1, .int 2)]) (st' := []) (H' := hC A E N V W ++ g) (C := []) 2 1 rfl trivial (z_Ln.brF (decide_eq_false (by decide)) ?_)
  refine z_Ln.blk (pc' := 12) (lv' := [(0, .ref 104), (1, .int 2)]) (st' := [.int 2, .ref 105]) (H' := hC A E N V W ++ g) (C := [((c.1 ≤ 601024 ∧ c.2 ≤ 7293034) ∧ 1 ≤ f ∧ 60 ≤ w)]) 3 3 rfl hR0 ?_
  refine z_Ln.call (s := 0) (mj := 41) (as := [.ref 105, .int 2]) (rr := []) (v := some (.int 105)) (T1 := (hC A E N V W ++ g, c)) rfl rfl ⟨⟨by omega, by have : z_pg.2.1 41 = 2 := rfl; omega⟩, (by decide : (0 : Nat) ≤ 8), (by decide +kernel : (2 : Nat) ≤ z_pg.2.1 41)⟩ hRm (s41_32_2 hRm (by omega) (by omega)) ⟨trivial, ⟨(Or.inl (by decide)), trivial, trivial⟩⟩ ?_
  exact z_Ln.ret rfl rfl
set_option maxRecDepth 10000 in
theorem s41_32_3 {L : Nat} {xs : Nat → Int32} {fv : Value} {f w : Nat} {c : Nat × Nat} {A : Nat → List (Nat × Int32)} {E : List (Nat × Option Nat)} {N : Nat → Nat} {V : Nat → Nat → Int32} {W : Nat} {g : List z_E}  (hRm : z_Rm (hC A E N V W ++ g, c)) (hf : 2 ≤ f) (hw : 150 ≤ w) : z_Ln L xs fv f w 41 0 [(0, .ref 105), (1, .int 3)] [] (hC A E N V W ++ g, c) (.inl (some (.int 116))) (hC A E N V W ++ g, c) := by
  have hR0 : ((c.1 ≤ 601024 ∧ c.2 ≤ 7293034) ∧ 1 ≤ f ∧ 60 ≤ w) := ⟨hRm, by omega, by omega⟩
  have m42 : z_pg.2.1 42 = 2 := rfl
  refine z_Ln.blk (pc' := 3) (lv' := [(0, .ref 105), (1, .int 3)]) (st' := [.int 4, .int 3]) (H' := hC A E N V W ++ g) (C := [((c.1 ≤ 601024 ∧ c.2 ≤ 7293034) ∧ 1 ≤ f ∧ 60 ≤ w)]) 0 3 rfl hR0 ?_
  refine z_Ln.call (s := 0) (mj := 42) (as := [.int 3, .int 4]) (rr := []) (v := none) (T1 := (hC A E N V W ++ g, c)) rfl rfl ⟨⟨by omega, by have : z_pg.2.1 42 = 2 := rfl; omega⟩, (by decide : (0 : Nat) ≤ 8), (by decide +kernel : (2 : Nat) ≤ z_pg.2.1 42)⟩ hRm (s42_3_4 hRm (by omega) (by omega)) ⟨trivial, ⟨(Or.inl (by decide)), trivial, trivial⟩⟩ ?_
  refine z_Ln.blk (pc' := 14) (lv' := [(0, .ref 105), (1, .int 3)]) (st' := [.int 116]) (H' := hC A E N V W ++ g) (C := [((c.1 ≤ 601024 ∧ c.2 ≤ 7293034) ∧ 1 ≤ f ∧ 60 ≤ w), z_in 3 4 = true]) 4 6 rfl ⟨hR0, (by decide : z_in 3 4 = true)⟩ ?_
  exact z_Ln.ret rfl rfl
set_option maxRecDepth 10000 in
theorem s39_32_3 {L : Nat} {xs : Nat → Int32} {fv : Value} {f w : Nat} {c : Nat × Nat} {A : Nat → List (Nat × Int32)} {E : List (Nat × Option Nat)} {N : Nat → Nat} {V : Nat → Nat → Int32} {W : Nat} {g : List z_E}  (hRm : z_Rm (hC A E N V W ++ g, c)) (hf : 3 ≤ f) (hw : 250 ≤ w) : z_Ln L xs fv f w 39 0 [(0, .ref 104), (1, .int 3)] [] (hC A E N V W ++ g, c) (.inl (some (.int 116))) (hC A E N V W ++ g, c) := by
  have hR0 : ((c.1 ≤ 601024 ∧ c.2 ≤ 7293034) ∧ 1 ≤ f ∧ 60 ≤ w) := ⟨hRm, by omega, by omega⟩
  have m40 : z_pg.2.1 40 = 1 := rfl
  have m41 : z_pg.2.1 41 = 2 := rfl
  refine z_Ln.blk (pc' := 1) (lv' := [(0, .ref 104), (1, .int 3)]) (st' := [.ref 104]) (H' := hC A E N V W ++ g) (C := []) 0 1 rfl trivial ?_
  refine z_Ln.call (s := 0) (mj := 40) (as := [.ref 104]) (rr := []) (v := some (.int 1)) (T1 := (hC A E N V W ++ g, c)) rfl rfl ⟨⟨by omega, by have : z_pg.2.1 40 = 1 := rfl; omega⟩, (by decide : (0 : Nat) ≤ 8), (by decide +kernel : (1 : Nat) ≤ z_pg.2.1 40)⟩ hRm (s40_32 hRm (by omega) (by omega)) ⟨trivial, ⟨(Or.inl (by decide)), trivial, trivial⟩⟩ ?_
  refine z_Ln.blk (pc' := (if decide (1 = 0) = true then 16 else 7)) (lv' := [(0, .ref 104), (1, .int 3)]) (st' := []) (H' := hC A E N V W ++ g) (C := []) 2 1 rfl trivial (z_Ln.brF (decide_eq_false (by decide)) ?_)
  refine z_Ln.blk (pc' := 12) (lv' := [(0, .ref 104), (1, .int 3)]) (st' := [.int 3, .ref 105]) (H' := hC A E N V W ++ g) (C := [((c.1 ≤ 601024 ∧ c.2 ≤ 7293034) ∧ 1 ≤ f ∧ 60 ≤ w)]) 3 3 rfl hR0 ?_
  refine z_Ln.call (s := 0) (mj := 41) (as := [.ref 105, .int 3]) (rr := []) (v := some (.int 116)) (T1 := (hC A E N V W ++ g, c)) rfl rfl ⟨⟨by omega, by have : z_pg.2.1 41 = 2 := rfl; omega⟩, (by decide : (0 : Nat) ≤ 8), (by decide +kernel : (2 : Nat) ≤ z_pg.2.1 41)⟩ hRm (s41_32_3 hRm (by omega) (by omega)) ⟨trivial, ⟨(Or.inl (by decide)), trivial, trivial⟩⟩ ?_
  exact z_Ln.ret rfl rfl
set_option maxRecDepth 10000 in
theorem s38_1_1 {L : Nat} {xs : Nat → Int32} {fv : Value} {f w : Nat} {c : Nat × Nat} {A : Nat → List (Nat × Int32)} {E : List (Nat × Option Nat)} {N : Nat → Nat} {V : Nat → Nat → Int32} {W : Nat} {g : List z_E} {x : Int32} (hRm : z_Rm (hC A E N V W ++ g, c)) (hf : 4 ≤ f) (hw : 400 ≤ w)  : z_Ln L xs fv f w 38 2 [(3, .int 1), (0, .ref 110), (1, .ref 42), (2, .int x)] [] (hC A E N V W ++ g, c) (.inl (some (.int (z_B1 true)))) (hC A E N V W ++ g, c) := by
  have m36 : z_pg.2.1 36 = 1 := rfl
  refine z_Ln.blk (pc' := 4) (lv' := [(3, .int 1), (0, .ref 110), (1, .ref 42), (2, .int x)]) (st' := [.ref 42, .int 1]) (H' := hC A E N V W ++ g) (C := []) 2 2 rfl trivial ?_
  refine z_Ln.call (s := 0) (mj := 36) (as := [.ref 42]) (rr := [.int 1]) (v := some (.int 1)) (T1 := (hC A E N V W ++ g, c)) rfl rfl ⟨⟨by omega, by have : z_pg.2.1 36 = 1 := rfl; omega⟩, (by decide : (1 : Nat) ≤ 8), (by decide +kernel : (1 : Nat) ≤ z_pg.2.1 36)⟩ hRm (s36_1 hRm (by omega) (by omega)) ⟨⟨trivial, trivial⟩, ⟨trivial, (z_sm0C 0 (by decide) rfl rfl), (Or.inl (by decide)), trivial, trivial⟩⟩ ?_
  refine z_Ln.blk (pc' := (if decide (1 ≤ 1) = true then 34 else 10)) (lv' := [(3, .int 1), (0, .ref 110), (1, .ref 42), (2, .int x)]) (st' := []) (H' := hC A E N V W ++ g) (C := []) 5 1 rfl trivial (z_Ln.brT (decide_eq_true (by decide)) ?_)
  refine z_Ln.blk (pc' := 35) (lv' := [(3, .int 1), (0, .ref 110), (1, .ref 42), (2, .int x)]) (st' := [.int 1]) (H' := hC A E N V W ++ g) (C := []) 20 1 rfl trivial ?_
  exact z_Ln.ret rfl (z_retB (Or.inr rfl))
set_option maxRecDepth 10000 in
theorem s38_1_0 {L : Nat} {xs : Nat → Int32} {fv : Value} {f w : Nat} {c : Nat × Nat} {A : Nat → List (Nat × Int32)} {E : List (Nat × Option Nat)} {N : Nat → Nat} {V : Nat → Nat → Int32} {W : Nat} {g : List z_E} {x : Int32} (hRm : z_Rm (hC A E N V W ++ g, c)) (hf : 4 ≤ f) (hw : 400 ≤ w) (h0 : z_in (x + 0) 1500 = true) : z_Ln L xs fv f w 38 2 [(3, .int 0), (0, .ref 110), (1, .ref 42), (2, .int x)] [] (hC A E N V W ++ g, c) (.inl (some (.int (z_B1 (decide (z_fn 0 (A 4) (x + 0).toNatClampNeg = 40)))))) (hC A E N V W ++ g, c) := by
  have m36 : z_pg.2.1 36 = 1 := rfl
  have m39 : z_pg.2.1 39 = 2 := rfl
  refine z_Ln.blk (pc' := 4) (lv' := [(3, .int 0), (0, .ref 110), (1, .ref 42), (2, .int x)]) (st' := [.ref 42, .int 0]) (H' := hC A E N V W ++ g) (C := []) 2 2 rfl trivial ?_
  refine z_Ln.call (s := 0) (mj := 36) (as := [.ref 42]) (rr := [.int 0]) (v := some (.int 1)) (T1 := (hC A E N V W ++ g, c)) rfl rfl ⟨⟨by omega, by omega⟩, (by decide : (1 : Nat) ≤ 8), (by decide +kernel : (1 : Nat) ≤ z_pg.2.1 36)⟩ hRm (s36_1 hRm (by omega) (by omega)) ⟨⟨trivial, trivial⟩, ⟨trivial, (z_sm0C 0 (by decide) rfl rfl), (Or.inl (by decide)), trivial, trivial⟩⟩ ?_
  refine z_Ln.blk (pc' := (if decide (1 ≤ 0) = true then 34 else 10)) (lv' := [(3, .int 0), (0, .ref 110), (1, .ref 42), (2, .int x)]) (st' := []) (H' := hC A E N V W ++ g) (C := []) 5 1 rfl trivial (z_Ln.brF (decide_eq_false (by decide)) ?_)
  refine z_Ln.blk (pc' := 20) (lv' := [(3, .int 0), (0, .ref 110), (1, .ref 42), (2, .int x)]) (st' := [.int 0, .ref 42, .int (z_fn 0 (A 4) (x + 0).toNatClampNeg)]) (H' := hC A E N V W ++ g) (C := [z_in (x + 0) 1500 = true]) 6 8 rfl h0 ?_
  refine z_Ln.call (s := 0) (mj := 39) (as := [.ref 42, .int 0]) (rr := [.int (z_fn 0 (A 4) (x + 0).toNatClampNeg)]) (v := some (.int 40)) (T1 := (hC A E N V W ++ g, c)) rfl rfl ⟨⟨by omega, by omega⟩, (by decide : (1 : Nat) ≤ 8), (by decide +kernel : (2 : Nat) ≤ z_pg.2.1 39)⟩ hRm (s39_1_0 hRm (by omega) (by omega)) ⟨⟨trivial, trivial⟩, ⟨trivial, (z_sm0C 0 (by decide) rfl rfl), (Or.inl (by decide)), trivial, trivial⟩⟩ ?_
  by_cases hb : (z_fn 0 (A 4) (x + 0).toNatClampNeg) = 40
  · refine z_Ln.blk (pc' := (if decide ((z_fn 0 (A 4) (x + 0).toNatClampNeg) = 40) = true then 28 else 26)) (lv' := [(3, .int 0), (0, .ref 110), (1, .ref 42), (2, .int x)]) (st' := []) (H' := hC A E N V W ++ g) (C := []) 15 1 rfl trivial (z_Ln.brT (decide_eq_true hb) ?_)
    refine z_Ln.blk (pc' := 2) (lv' := [(3, .int 1), (0, .ref 110), (1, .ref 42), (2, .int x)]) (st' := []) (H' := hC A E N V W ++ g) (C := []) 18 2 rfl trivial ?_
    have e : decide ((z_fn 0 (A 4) (x + 0).toNatClampNeg) = 40) = true := decide_eq_true hb
    rw [e]
    exact s38_1_1 (x := x) hRm hf hw 
  · refine z_Ln.blk (pc' := (if decide ((z_fn 0 (A 4) (x + 0).toNatClampNeg) = 40) = true then 28 else 26)) (lv' := [(3, .int 0), (0, .ref 110), (1, .ref 42), (2, .int x)]) (st' := []) (H' := hC A E N V W ++ g) (C := []) 15 1 rfl trivial (z_Ln.brF (decide_eq_false hb) ?_)
    have e : decide ((z_fn 0 (A 4) (x + 0).toNatClampNeg) = 40) = false := decide_eq_false hb
    rw [e]
    refine z_Ln.blk (pc' := 27) (lv' := [(3, .int 0), (0, .ref 110), (1, .ref 42), (2, .int x)]) (st' := [.int 0]) (H' := hC A E N V W ++ g) (C := []) 16 1 rfl trivial ?_
    exact z_Ln.ret rfl (z_retB (Or.inl rfl))
set_option maxRecDepth 10000 in
theorem s38_2_1 {L : Nat} {xs : Nat → Int32} {fv : Value} {f w : Nat} {c : Nat × Nat} {A : Nat → List (Nat × Int32)} {E : List (Nat × Option Nat)} {N : Nat → Nat} {V : Nat → Nat → Int32} {W : Nat} {g : List z_E} {x : Int32} (hRm : z_Rm (hC A E N V W ++ g, c)) (hf : 4 ≤ f) (hw : 400 ≤ w)  : z_Ln L xs fv f w 38 2 [(3, .int 1), (0, .ref 110), (1, .ref 44), (2, .int x)] [] (hC A E N V W ++ g, c) (.inl (some (.int (z_B1 true)))) (hC A E N V W ++ g, c) := by
  have m36 : z_pg.2.1 36 = 1 := rfl
  refine z_Ln.blk (pc' := 4) (lv' := [(3, .int 1), (0, .ref 110), (1, .ref 44), (2, .int x)]) (st' := [.ref 44, .int 1]) (H' := hC A E N V W ++ g) (C := []) 2 2 rfl trivial ?_
  refine z_Ln.call (s := 0) (mj := 36) (as := [.ref 44]) (rr := [.int 1]) (v := some (.int 1)) (T1 := (hC A E N V W ++ g, c)) rfl rfl ⟨⟨by omega, by have : z_pg.2.1 36 = 1 := rfl; omega⟩, (by decide : (1 : Nat) ≤ 8), (by decide +kernel : (1 : Nat) ≤ z_pg.2.1 36)⟩ hRm (s36_2 hRm (by omega) (by omega)) ⟨⟨trivial, trivial⟩, ⟨trivial, (z_sm0C 0 (by decide) rfl rfl), (Or.inl (by decide)), trivial, trivial⟩⟩ ?_
  refine z_Ln.blk (pc' := (if decide (1 ≤ 1) = true then 34 else 10)) (lv' := [(3, .int 1), (0, .ref 110), (1, .ref 44), (2, .int x)]) (st' := []) (H' := hC A E N V W ++ g) (C := []) 5 1 rfl trivial (z_Ln.brT (decide_eq_true (by decide)) ?_)
  refine z_Ln.blk (pc' := 35) (lv' := [(3, .int 1), (0, .ref 110), (1, .ref 44), (2, .int x)]) (st' := [.int 1]) (H' := hC A E N V W ++ g) (C := []) 20 1 rfl trivial ?_
  exact z_Ln.ret rfl (z_retB (Or.inr rfl))
set_option maxRecDepth 10000 in
theorem s38_2_0 {L : Nat} {xs : Nat → Int32} {fv : Value} {f w : Nat} {c : Nat × Nat} {A : Nat → List (Nat × Int32)} {E : List (Nat × Option Nat)} {N : Nat → Nat} {V : Nat → Nat → Int32} {W : Nat} {g : List z_E} {x : Int32} (hRm : z_Rm (hC A E N V W ++ g, c)) (hf : 4 ≤ f) (hw : 400 ≤ w) (h0 : z_in (x + 0) 1500 = true) : z_Ln L xs fv f w 38 2 [(3, .int 0), (0, .ref 110), (1, .ref 44), (2, .int x)] [] (hC A E N V W ++ g, c) (.inl (some (.int (z_B1 (decide (z_fn 0 (A 4) (x + 0).toNatClampNeg = 41)))))) (hC A E N V W ++ g, c) := by
  have m36 : z_pg.2.1 36 = 1 := rfl
  have m39 : z_pg.2.1 39 = 2 := rfl
  refine z_Ln.blk (pc' := 4) (lv' := [(3, .int 0), (0, .ref 110), (1, .ref 44), (2, .int x)]) (st' := [.ref 44, .int 0]) (H' := hC A E N V W ++ g) (C := []) 2 2 rfl trivial ?_
  refine z_Ln.call (s := 0) (mj := 36) (as := [.ref 44]) (rr := [.int 0]) (v := some (.int 1)) (T1 := (hC A E N V W ++ g, c)) rfl rfl ⟨⟨by omega, by omega⟩, (by decide : (1 : Nat) ≤ 8), (by decide +kernel : (1 : Nat) ≤ z_pg.2.1 36)⟩ hRm (s36_2 hRm (by omega) (by omega)) ⟨⟨trivial, trivial⟩, ⟨trivial, (z_sm0C 0 (by decide) rfl rfl), (Or.inl (by decide)), trivial, trivial⟩⟩ ?_
  refine z_Ln.blk (pc' := (if decide (1 ≤ 0) = true then 34 else 10)) (lv' := [(3, .int 0), (0, .ref 110), (1, .ref 44), (2, .int x)]) (st' := []) (H' := hC A E N V W ++ g) (C := []) 5 1 rfl trivial (z_Ln.brF (decide_eq_false (by decide)) ?_)
  refine z_Ln.blk (pc' := 20) (lv' := [(3, .int 0), (0, .ref 110), (1, .ref 44), (2, .int x)]) (st' := [.int 0, .ref 44, .int (z_fn 0 (A 4) (x + 0).toNatClampNeg)]) (H' := hC A E N V W ++ g) (C := [z_in (x + 0) 1500 = true]) 6 8 rfl h0 ?_
  refine z_Ln.call (s := 0) (mj := 39) (as := [.ref 44, .int 0]) (rr := [.int (z_fn 0 (A 4) (x + 0).toNatClampNeg)]) (v := some (.int 41)) (T1 := (hC A E N V W ++ g, c)) rfl rfl ⟨⟨by omega, by omega⟩, (by decide : (1 : Nat) ≤ 8), (by decide +kernel : (2 : Nat) ≤ z_pg.2.1 39)⟩ hRm (s39_2_0 hRm (by omega) (by omega)) ⟨⟨trivial, trivial⟩, ⟨trivial, (z_sm0C 0 (by decide) rfl rfl), (Or.inl (by decide)), trivial, trivial⟩⟩ ?_
  by_cases hb : (z_fn 0 (A 4) (x + 0).toNatClampNeg) = 41
  · refine z_Ln.blk (pc' := (if decide ((z_fn 0 (A 4) (x + 0).toNatClampNeg) = 41) = true then 28 else 26)) (lv' := [(3, .int 0), (0, .ref 110), (1, .ref 44), (2, .int x)]) (st' := []) (H' := hC A E N V W ++ g) (C := []) 15 1 rfl trivial (z_Ln.brT (decide_eq_true hb) ?_)
    refine z_Ln.blk (pc' := 2) (lv' := [(3, .int 1), (0, .ref 110), (1, .ref 44), (2, .int x)]) (st' := []) (H' := hC A E N V W ++ g) (C := []) 18 2 rfl trivial ?_
    have e : decide ((z_fn 0 (A 4) (x + 0).toNatClampNeg) = 41) = true := decide_eq_true hb
    rw [e]
    exact s38_2_1 (x := x) hRm hf hw 
  · refine z_Ln.blk (pc' := (if decide ((z_fn 0 (A 4) (x + 0).toNatClampNeg) = 41) = true then 28 else 26)) (lv' := [(3, .int 0), (0, .ref 110), (1, .ref 44), (2, .int x)]) (st' := []) (H' := hC A E N V W ++ g) (C := []) 15 1 rfl trivial (z_Ln.brF (decide_eq_false hb) ?_)
    have e : decide ((z_fn 0 (A 4) (x + 0).toNatClampNeg) = 41) = false := decide_eq_false hb
    rw [e]
    refine z_Ln.blk (pc' := 27) (lv' := [(3, .int 0), (0, .ref 110), (1, .ref 44), (2, .int x)]) (st' := [.int 0]) (H' := hC A E N V W ++ g) (C := []) 16 1 rfl trivial ?_
    exact z_Ln.ret rfl (z_retB (Or.inl rfl))
set_option maxRecDepth 10000 in
theorem s38_3_1 {L : Nat} {xs : Nat → Int32} {fv : Value} {f w : Nat} {c : Nat × Nat} {A : Nat → List (Nat × Int32)} {E : List (Nat × Option Nat)} {N : Nat → Nat} {V : Nat → Nat → Int32} {W : Nat} {g : List z_E} {x : Int32} (hRm : z_Rm (hC A E N V W ++ g, c)) (hf : 4 ≤ f) (hw : 400 ≤ w)  : z_Ln L xs fv f w 38 2 [(3, .int 1), (0, .ref 110), (1, .ref 46), (2, .int x)] [] (hC A E N V W ++ g, c) (.inl (some (.int (z_B1 true)))) (hC A E N V W ++ g, c) := by
  have m36 : z_pg.2.1 36 = 1 := rfl
  refine z_Ln.blk (pc' := 4) (lv' := [(3, .int 1), (0, .ref 110), (1, .ref 46), (2, .int x)]) (st' := [.ref 46, .int 1]) (H' := hC A E N V W ++ g) (C := []) 2 2 rfl trivial ?_
  refine z_Ln.call (s := 0) (mj := 36) (as := [.ref 46]) (rr := [.int 1]) (v := some (.int 1)) (T1 := (hC A E N V W ++ g, c)) rfl rfl ⟨⟨by omega, by have : z_pg.2.1 36 = 1 := rfl; omega⟩, (by decide : (1 : Nat) ≤ 8), (by decide +kernel : (1 : Nat) ≤ z_pg.2.1 36)⟩ hRm (s36_3 hRm (by omega) (by omega)) ⟨⟨trivial, trivial⟩, ⟨trivial, (z_sm0C 0 (by decide) rfl rfl), (Or.inl (by decide)), trivial, trivial⟩⟩ ?_
  refine z_Ln.blk (pc' := (if decide (1 ≤ 1) = true then 34 else 10)) (lv' := [(3, .int 1), (0, .ref 110), (1, .ref 46), (2, .int x)]) (st' := []) (H' := hC A E N V W ++ g) (C := []) 5 1 rfl trivial (z_Ln.brT (decide_eq_true (by decide)) ?_)
  refine z_Ln.blk (pc' := 35) (lv' := [(3, .int 1), (0, .ref 110), (1, .ref 46), (2, .int x)]) (st' := [.int 1]) (H' := hC A E N V W ++ g) (C := []) 20 1 rfl trivial ?_
  exact z_Ln.ret rfl (z_retB (Or.inr rfl))
set_option maxRecDepth 10000 in
theorem s38_3_0 {L : Nat} {xs : Nat → Int32} {fv : Value} {f w : Nat} {c : Nat × Nat} {A : Nat → List (Nat × Int32)} {E : List (Nat × Option Nat)} {N : Nat → Nat} {V : Nat → Nat → Int32} {W : Nat} {g : List z_E} {x : Int32} (hRm : z_Rm (hC A E N V W ++ g, c)) (hf : 4 ≤ f) (hw : 400 ≤ w) (h0 : z_in (x + 0) 1500 = true) : z_Ln L xs fv f w 38 2 [(3, .int 0), (0, .ref 110), (1, .ref 46), (2, .int x)] [] (hC A E N V W ++ g, c) (.inl (some (.int (z_B1 (decide (z_fn 0 (A 4) (x + 0).toNatClampNeg = 123)))))) (hC A E N V W ++ g, c) := by
  have m36 : z_pg.2.1 36 = 1 := rfl
  have m39 : z_pg.2.1 39 = 2 := rfl
  refine z_Ln.blk (pc' := 4) (lv' := [(3, .int 0), (0, .ref 110), (1, .ref 46), (2, .int x)]) (st' := [.ref 46, .int 0]) (H' := hC A E N V W ++ g) (C := []) 2 2 rfl trivial ?_
  refine z_Ln.call (s := 0) (mj := 36) (as := [.ref 46]) (rr := [.int 0]) (v := some (.int 1)) (T1 := (hC A E N V W ++ g, c)) rfl rfl ⟨⟨by omega, by omega⟩, (by decide : (1 : Nat) ≤ 8), (by decide +kernel : (1 : Nat) ≤ z_pg.2.1 36)⟩ hRm (s36_3 hRm (by omega) (by omega)) ⟨⟨trivial, trivial⟩, ⟨trivial, (z_sm0C 0 (by decide) rfl rfl), (Or.inl (by decide)), trivial, trivial⟩⟩ ?_
  refine z_Ln.blk (pc' := (if decide (1 ≤ 0) = true then 34 else 10)) (lv' := [(3, .int 0), (0, .ref 110), (1, .ref 46), (2, .int x)]) (st' := []) (H' := hC A E N V W ++ g) (C := []) 5 1 rfl trivial (z_Ln.brF (decide_eq_false (by decide)) ?_)
  refine z_Ln.blk (pc' := 20) (lv' := [(3, .int 0), (0, .ref 110), (1, .ref 46), (2, .int x)]) (st' := [.int 0, .ref 46, .int (z_fn 0 (A 4) (x + 0).toNatClampNeg)]) (H' := hC A E N V W ++ g) (C := [z_in (x + 0) 1500 = true]) 6 8 rfl h0 ?_
  refine z_Ln.call (s := 0) (mj := 39) (as := [.ref 46, .int 0]) (rr := [.int (z_fn 0 (A 4) (x + 0).toNatClampNeg)]) (v := some (.int 123)) (T1 := (hC A E N V W ++ g, c)) rfl rfl ⟨⟨by omega, by omega⟩, (by decide : (1 : Nat) ≤ 8), (by decide +kernel : (2 : Nat) ≤ z_pg.2.1 39)⟩ hRm (s39_3_0 hRm (by omega) (by omega)) ⟨⟨trivial, trivial⟩, ⟨trivial, (z_sm0C 0 (by decide) rfl rfl), (Or.inl (by decide)), trivial, trivial⟩⟩ ?_
  by_cases hb : (z_fn 0 (A 4) (x + 0).toNatClampNeg) = 123
  · refine z_Ln.blk (pc' := (if decide ((z_fn 0 (A 4) (x + 0).toNatClampNeg) = 123) = true then 28 else 26)) (lv' := [(3, .int 0), (0, .ref 110), (1, .ref 46), (2, .int x)]) (st' := []) (H' := hC A E N V W ++ g) (C := []) 15 1 rfl trivial (z_Ln.brT (decide_eq_true hb) ?_)
    refine z_Ln.blk (pc' := 2) (lv' := [(3, .int 1), (0, .ref 110), (1, .ref 46), (2, .int x)]) (st' := []) (H' := hC A E N V W ++ g) (C := []) 18 2 rfl trivial ?_
    have e : decide ((z_fn 0 (A 4) (x + 0).toNatClampNeg) = 123) = true := decide_eq_true hb
    rw [e]
    exact s38_3_1 (x := x) hRm hf hw 
  · refine z_Ln.blk (pc' := (if decide ((z_fn 0 (A 4) (x + 0).toNatClampNeg) = 123) = true then 28 else 26)) (lv' := [(3, .int 0), (0, .ref 110), (1, .ref 46), (2, .int x)]) (st' := []) (H' := hC A E N V W ++ g) (C := []) 15 1 rfl trivial (z_Ln.brF (decide_eq_false hb) ?_)
    have e : decide ((z_fn 0 (A 4) (x + 0).toNatClampNeg) = 123) = false := decide_eq_false hb
    rw [e]
    refine z_Ln.blk (pc' := 27) (lv' := [(3, .int 0), (0, .ref 110), (1, .ref 46), (2, .int x)]) (st' := [.int 0]) (H' := hC A E N V W ++ g) (C := []) 16 1 rfl trivial ?_
    exact z_Ln.ret rfl (z_retB (Or.inl rfl))
set_option maxRecDepth 10000 in
theorem s38_4_1 {L : Nat} {xs : Nat → Int32} {fv : Value} {f w : Nat} {c : Nat × Nat} {A : Nat → List (Nat × Int32)} {E : List (Nat × Option Nat)} {N : Nat → Nat} {V : Nat → Nat → Int32} {W : Nat} {g : List z_E} {x : Int32} (hRm : z_Rm (hC A E N V W ++ g, c)) (hf : 4 ≤ f) (hw : 400 ≤ w)  : z_Ln L xs fv f w 38 2 [(3, .int 1), (0, .ref 110), (1, .ref 48), (2, .int x)] [] (hC A E N V W ++ g, c) (.inl (some (.int (z_B1 true)))) (hC A E N V W ++ g, c) := by
  have m36 : z_pg.2.1 36 = 1 := rfl
  refine z_Ln.blk (pc' := 4) (lv' := [(3, .int 1), (0, .ref 110), (1, .ref 48), (2, .int x)]) (st' := [.ref 48, .int 1]) (H' := hC A E N V W ++ g) (C := []) 2 2 rfl trivial ?_
  refine z_Ln.call (s := 0) (mj := 36) (as := [.ref 48]) (rr := [.int 1]) (v := some (.int 1)) (T1 := (hC A E N V W ++ g, c)) rfl rfl ⟨⟨by omega, by have : z_pg.2.1 36 = 1 := rfl; omega⟩, (by decide : (1 : Nat) ≤ 8), (by decide +kernel : (1 : Nat) ≤ z_pg.2.1 36)⟩ hRm (s36_4 hRm (by omega) (by omega)) ⟨⟨trivial, trivial⟩, ⟨trivial, (z_sm0C 0 (by decide) rfl rfl), (Or.inl (by decide)), trivial, trivial⟩⟩ ?_
  refine z_Ln.blk (pc' := (if decide (1 ≤ 1) = true then 34 else 10)) (lv' := [(3, .int 1), (0, .ref 110), (1, .ref 48), (2, .int x)]) (st' := []) (H' := hC A E N V W ++ g) (C := []) 5 1 rfl trivial (z_Ln.brT (decide_eq_true (by decide)) ?_)
  refine z_Ln.blk (pc' := 35) (lv' := [(3, .int 1), (0, .ref 110), (1, .ref 48), (2, .int x)]) (st' := [.int 1]) (H' := hC A E N V W ++ g) (C := []) 20 1 rfl trivial ?_
  exact z_Ln.ret rfl (z_retB (Or.inr rfl))
set_option maxRecDepth 10000 in
theorem s38_4_0 {L : Nat} {xs : Nat → Int32} {fv : Value} {f w : Nat} {c : Nat × Nat} {A : Nat → List (Nat × Int32)} {E : List (Nat × Option Nat)} {N : Nat → Nat} {V : Nat → Nat → Int32} {W : Nat} {g : List z_E} {x : Int32} (hRm : z_Rm (hC A E N V W ++ g, c)) (hf : 4 ≤ f) (hw : 400 ≤ w) (h0 : z_in (x + 0) 1500 = true) : z_Ln L xs fv f w 38 2 [(3, .int 0), (0, .ref 110), (1, .ref 48), (2, .int x)] [] (hC A E N V W ++ g, c) (.inl (some (.int (z_B1 (decide (z_fn 0 (A 4) (x + 0).toNatClampNeg = 125)))))) (hC A E N V W ++ g, c) := by
  have m36 : z_pg.2.1 36 = 1 := rfl
  have m39 : z_pg.2.1 39 = 2 := rfl
  refine z_Ln.blk (pc' := 4) (lv' := [(3, .int 0), (0, .ref 110), (1, .ref 48), (2, .int x)]) (st' := [.ref 48, .int 0]) (H' := hC A E N V W ++ g) (C := []) 2 2 rfl trivial ?_
  refine z_Ln.call (s := 0) (mj := 36) (as := [.ref 48]) (rr := [.int 0]) (v := some (.int 1)) (T1 := (hC A E N V W ++ g, c)) rfl rfl ⟨⟨by omega, by omega⟩, (by decide : (1 : Nat) ≤ 8), (by decide +kernel : (1 : Nat) ≤ z_pg.2.1 36)⟩ hRm (s36_4 hRm (by omega) (by omega)) ⟨⟨trivial, trivial⟩, ⟨trivial, (z_sm0C 0 (by decide) rfl rfl), (Or.inl (by decide)), trivial, trivial⟩⟩ ?_
  refine z_Ln.blk (pc' := (if decide (1 ≤ 0) = true then 34 else 10)) (lv' := [(3, .int 0), (0, .ref 110), (1, .ref 48), (2, .int x)]) (st' := []) (H' := hC A E N V W ++ g) (C := []) 5 1 rfl trivial (z_Ln.brF (decide_eq_false (by decide)) ?_)
  refine z_Ln.blk (pc' := 20) (lv' := [(3, .int 0), (0, .ref 110), (1, .ref 48), (2, .int x)]) (st' := [.int 0, .ref 48, .int (z_fn 0 (A 4) (x + 0).toNatClampNeg)]) (H' := hC A E N V W ++ g) (C := [z_in (x + 0) 1500 = true]) 6 8 rfl h0 ?_
  refine z_Ln.call (s := 0) (mj := 39) (as := [.ref 48, .int 0]) (rr := [.int (z_fn 0 (A 4) (x + 0).toNatClampNeg)]) (v := some (.int 125)) (T1 := (hC A E N V W ++ g, c)) rfl rfl ⟨⟨by omega, by omega⟩, (by decide : (1 : Nat) ≤ 8), (by decide +kernel : (2 : Nat) ≤ z_pg.2.1 39)⟩ hRm (s39_4_0 hRm (by omega) (by omega)) ⟨⟨trivial, trivial⟩, ⟨trivial, (z_sm0C 0 (by decide) rfl rfl), (Or.inl (by decide)), trivial, trivial⟩⟩ ?_
  by_cases hb : (z_fn 0 (A 4) (x + 0).toNatClampNeg) = 125
  · refine z_Ln.blk (pc' := (if decide ((z_fn 0 (A 4) (x + 0).toNatClampNeg) = 125) = true then 28 else 26)) (lv' := [(3, .int 0), (0, .ref 110), (1, .ref 48), (2, .int x)]) (st' := []) (H' := hC A E N V W ++ g) (C := []) 15 1 rfl trivial (z_Ln.brT (decide_eq_true hb) ?_)
    refine z_Ln.blk (pc' := 2) (lv' := [(3, .int 1), (0, .ref 110), (1, .ref 48), (2, .int x)]) (st' := []) (H' := hC A E N V W ++ g) (C := []) 18 2 rfl trivial ?_
    have e : decide ((z_fn 0 (A 4) (x + 0).toNatClampNeg) = 125) = true := decide_eq_true hb
    rw [e]
    exact s38_4_1 (x := x) hRm hf hw 
  · refine z_Ln.blk (pc' := (if decide ((z_fn 0 (A 4) (x + 0).toNatClampNeg) = 125) = true then 28 else 26)) (lv' := [(3, .int 0), (0, .ref 110), (1, .ref 48), (2, .int x)]) (st' := []) (H' := hC A E N V W ++ g) (C := []) 15 1 rfl trivial (z_Ln.brF (decide_eq_false hb) ?_)
    have e : decide ((z_fn 0 (A 4) (x + 0).toNatClampNeg) = 125) = false := decide_eq_false hb
    rw [e]
    refine z_Ln.blk (pc' := 27) (lv' := [(3, .int 0), (0, .ref 110), (1, .ref 48), (2, .int x)]) (st' := [.int 0]) (H' := hC A E N V W ++ g) (C := []) 16 1 rfl trivial ?_
    exact z_Ln.ret rfl (z_retB (Or.inl rfl))
set_option maxRecDepth 10000 in
theorem s38_5_1 {L : Nat} {xs : Nat → Int32} {fv : Value} {f w : Nat} {c : Nat × Nat} {A : Nat → List (Nat × Int32)} {E : List (Nat × Option Nat)} {N : Nat → Nat} {V : Nat → Nat → Int32} {W : Nat} {g : List z_E} {x : Int32} (hRm : z_Rm (hC A E N V W ++ g, c)) (hf : 4 ≤ f) (hw : 400 ≤ w)  : z_Ln L xs fv f w 38 2 [(3, .int 1), (0, .ref 110), (1, .ref 50), (2, .int x)] [] (hC A E N V W ++ g, c) (.inl (some (.int (z_B1 true)))) (hC A E N V W ++ g, c) := by
  have m36 : z_pg.2.1 36 = 1 := rfl
  refine z_Ln.blk (pc' := 4) (lv' := [(3, .int 1), (0, .ref 110), (1, .ref 50), (2, .int x)]) (st' := [.ref 50, .int 1]) (H' := hC A E N V W ++ g) (C := []) 2 2 rfl trivial ?_
  refine z_Ln.call (s := 0) (mj := 36) (as := [.ref 50]) (rr := [.int 1]) (v := some (.int 1)) (T1 := (hC A E N V W ++ g, c)) rfl rfl ⟨⟨by omega, by have : z_pg.2.1 36 = 1 := rfl; omega⟩, (by decide : (1 : Nat) ≤ 8), (by decide +kernel : (1 : Nat) ≤ z_pg.2.1 36)⟩ hRm (s36_5 hRm (by omega) (by omega)) ⟨⟨trivial, trivial⟩, ⟨trivial, (z_sm0C 0 (by decide) rfl rfl), (Or.inl (by decide)), trivial, trivial⟩⟩ ?_
  refine z_Ln.blk (pc' := (if decide (1 ≤ 1) = true then 34 else 10)) (lv' := [(3, .int 1), (0, .ref 110), (1, .ref 50), (2, .int x)]) (st' := []) (H' := hC A E N V W ++ g) (C := []) 5 1 rfl trivial (z_Ln.brT (decide_eq_true (by decide)) ?_)
  refine z_Ln.blk (pc' := 35) (lv' := [(3, .int 1), (0, .ref 110), (1, .ref 50), (2, .int x)]) (st' := [.int 1]) (H' := hC A E N V W ++ g) (C := []) 20 1 rfl trivial ?_
  exact z_Ln.ret rfl (z_retB (Or.inr rfl))
set_option maxRecDepth 10000 in
theorem s38_5_0 {L : Nat} {xs : Nat → Int32} {fv : Value} {f w : Nat} {c : Nat × Nat} {A : Nat → List (Nat × Int32)} {E : List (Nat × Option Nat)} {N : Nat → Nat} {V : Nat → Nat → Int32} {W : Nat} {g : List z_E} {x : Int32} (hRm : z_Rm (hC A E N V W ++ g, c)) (hf : 4 ≤ f) (hw : 400 ≤ w) (h0 : z_in (x + 0) 1500 = true) : z_Ln L xs fv f w 38 2 [(3, .int 0), (0, .ref 110), (1, .ref 50), (2, .int x)] [] (hC A E N V W ++ g, c) (.inl (some (.int (z_B1 (decide (z_fn 0 (A 4) (x + 0).toNatClampNeg = 58)))))) (hC A E N V W ++ g, c) := by
  have m36 : z_pg.2.1 36 = 1 := rfl
  have m39 : z_pg.2.1 39 = 2 := rfl
  refine z_Ln.blk (pc' := 4) (lv' := [(3, .int 0), (0, .ref 110), (1, .ref 50), (2, .int x)]) (st' := [.ref 50, .int 0]) (H' := hC A E N V W ++ g) (C := []) 2 2 rfl trivial ?_
  refine z_Ln.call (s := 0) (mj := 36) (as := [.ref 50]) (rr := [.int 0]) (v := some (.int 1)) (T1 := (hC A E N V W ++ g, c)) rfl rfl ⟨⟨by omega, by omega⟩, (by decide : (1 : Nat) ≤ 8), (by decide +kernel : (1 : Nat) ≤ z_pg.2.1 36)⟩ hRm (s36_5 hRm (by omega) (by omega)) ⟨⟨trivial, trivial⟩, ⟨trivial, (z_sm0C 0 (by decide) rfl rfl), (Or.inl (by decide)), trivial, trivial⟩⟩ ?_
  refine z_Ln.blk (pc' := (if decide (1 ≤ 0) = true then 34 else 10)) (lv' := [(3, .int 0), (0, .ref 110), (1, .ref 50), (2, .int x)]) (st' := []) (H' := hC A E N V W ++ g) (C := []) 5 1 rfl trivial (z_Ln.brF (decide_eq_false (by decide)) ?_)
  refine z_Ln.blk (pc' := 20) (lv' := [(3, .int 0), (0, .ref 110), (1, .ref 50), (2, .int x)]) (st' := [.int 0, .ref 50, .int (z_fn 0 (A 4) (x + 0).toNatClampNeg)]) (H' := hC A E N V W ++ g) (C := [z_in (x + 0) 1500 = true]) 6 8 rfl h0 ?_
  refine z_Ln.call (s := 0) (mj := 39) (as := [.ref 50, .int 0]) (rr := [.int (z_fn 0 (A 4) (x + 0).toNatClampNeg)]) (v := some (.int 58)) (T1 := (hC A E N V W ++ g, c)) rfl rfl ⟨⟨by omega, by omega⟩, (by decide : (1 : Nat) ≤ 8), (by decide +kernel : (2 : Nat) ≤ z_pg.2.1 39)⟩ hRm (s39_5_0 hRm (by omega) (by omega)) ⟨⟨trivial, trivial⟩, ⟨trivial, (z_sm0C 0 (by decide) rfl rfl), (Or.inl (by decide)), trivial, trivial⟩⟩ ?_
  by_cases hb : (z_fn 0 (A 4) (x + 0).toNatClampNeg) = 58
  · refine z_Ln.blk (pc' := (if decide ((z_fn 0 (A 4) (x + 0).toNatClampNeg) = 58) = true then 28 else 26)) (lv' := [(3, .int 0), (0, .ref 110), (1, .ref 50), (2, .int x)]) (st' := []) (H' := hC A E N V W ++ g) (C := []) 15 1 rfl trivial (z_Ln.brT (decide_eq_true hb) ?_)
    refine z_Ln.blk (pc' := 2) (lv' := [(3, .int 1), (0, .ref 110), (1, .ref 50), (2, .int x)]) (st' := []) (H' := hC A E N V W ++ g) (C := []) 18 2 rfl trivial ?_
    have e : decide ((z_fn 0 (A 4) (x + 0).toNatClampNeg) = 58) = true := decide_eq_true hb
    rw [e]
    exact s38_5_1 (x := x) hRm hf hw 
  · refine z_Ln.blk (pc' := (if decide ((z_fn 0 (A 4) (x + 0).toNatClampNeg) = 58) = true then 28 else 26)) (lv' := [(3, .int 0), (0, .ref 110), (1, .ref 50), (2, .int x)]) (st' := []) (H' := hC A E N V W ++ g) (C := []) 15 1 rfl trivial (z_Ln.brF (decide_eq_false hb) ?_)
    have e : decide ((z_fn 0 (A 4) (x + 0).toNatClampNeg) = 58) = false := decide_eq_false hb
    rw [e]
    refine z_Ln.blk (pc' := 27) (lv' := [(3, .int 0), (0, .ref 110), (1, .ref 50), (2, .int x)]) (st' := [.int 0]) (H' := hC A E N V W ++ g) (C := []) 16 1 rfl trivial ?_
    exact z_Ln.ret rfl (z_retB (Or.inl rfl))
set_option maxRecDepth 10000 in
theorem s38_6_1 {L : Nat} {xs : Nat → Int32} {fv : Value} {f w : Nat} {c : Nat × Nat} {A : Nat → List (Nat × Int32)} {E : List (Nat × Option Nat)} {N : Nat → Nat} {V : Nat → Nat → Int32} {W : Nat} {g : List z_E} {x : Int32} (hRm : z_Rm (hC A E N V W ++ g, c)) (hf : 4 ≤ f) (hw : 400 ≤ w)  : z_Ln L xs fv f w 38 2 [(3, .int 1), (0, .ref 110), (1, .ref 52), (2, .int x)] [] (hC A E N V W ++ g, c) (.inl (some (.int (z_B1 true)))) (hC A E N V W ++ g, c) := by
  have m36 : z_pg.2.1 36 = 1 := rfl
  refine z_Ln.blk (pc' := 4) (lv' := [(3, .int 1), (0, .ref 110), (1, .ref 52), (2, .int x)]) (st' := [.ref 52, .int 1]) (H' := hC A E N V W ++ g) (C := []) 2 2 rfl trivial ?_
  refine z_Ln.call (s := 0) (mj := 36) (as := [.ref 52]) (rr := [.int 1]) (v := some (.int 1)) (T1 := (hC A E N V W ++ g, c)) rfl rfl ⟨⟨by omega, by have : z_pg.2.1 36 = 1 := rfl; omega⟩, (by decide : (1 : Nat) ≤ 8), (by decide +kernel : (1 : Nat) ≤ z_pg.2.1 36)⟩ hRm (s36_6 hRm (by omega) (by omega)) ⟨⟨trivial, trivial⟩, ⟨trivial, (z_sm0C 0 (by decide) rfl rfl), (Or.inl (by decide)), trivial, trivial⟩⟩ ?_
  refine z_Ln.blk (pc' := (if decide (1 ≤ 1) = true then 34 else 10)) (lv' := [(3, .int 1), (0, .ref 110), (1, .ref 52), (2, .int x)]) (st' := []) (H' := hC A E N V W ++ g) (C := []) 5 1 rfl trivial (z_Ln.brT (decide_eq_true (by decide)) ?_)
  refine z_Ln.blk (pc' := 35) (lv' := [(3, .int 1), (0, .ref 110), (1, .ref 52), (2, .int x)]) (st' := [.int 1]) (H' := hC A E N V W ++ g) (C := []) 20 1 rfl trivial ?_
  exact z_Ln.ret rfl (z_retB (Or.inr rfl))
set_option maxRecDepth 10000 in
theorem s38_6_0 {L : Nat} {xs : Nat → Int32} {fv : Value} {f w : Nat} {c : Nat × Nat} {A : Nat → List (Nat × Int32)} {E : List (Nat × Option Nat)} {N : Nat → Nat} {V : Nat → Nat → Int32} {W : Nat} {g : List z_E} {x : Int32} (hRm : z_Rm (hC A E N V W ++ g, c)) (hf : 4 ≤ f) (hw : 400 ≤ w) (h0 : z_in (x + 0) 1500 = true) : z_Ln L xs fv f w 38 2 [(3, .int 0), (0, .ref 110), (1, .ref 52), (2, .int x)] [] (hC A E N V W ++ g, c) (.inl (some (.int (z_B1 (decide (z_fn 0 (A 4) (x + 0).toNatClampNeg = 59)))))) (hC A E N V W ++ g, c) := by
  have m36 : z_pg.2.1 36 = 1 := rfl
  have m39 : z_pg.2.1 39 = 2 := rfl
  refine z_Ln.blk (pc' := 4) (lv' := [(3, .int 0), (0, .ref 110), (1, .ref 52), (2, .int x)]) (st' := [.ref 52, .int 0]) (H' := hC A E N V W ++ g) (C := []) 2 2 rfl trivial ?_
  refine z_Ln.call (s := 0) (mj := 36) (as := [.ref 52]) (rr := [.int 0]) (v := some (.int 1)) (T1 := (hC A E N V W ++ g, c)) rfl rfl ⟨⟨by omega, by omega⟩, (by decide : (1 : Nat) ≤ 8), (by decide +kernel : (1 : Nat) ≤ z_pg.2.1 36)⟩ hRm (s36_6 hRm (by omega) (by omega)) ⟨⟨trivial, trivial⟩, ⟨trivial, (z_sm0C 0 (by decide) rfl rfl), (Or.inl (by decide)), trivial, trivial⟩⟩ ?_
  refine z_Ln.blk (pc' := (if decide (1 ≤ 0) = true then 34 else 10)) (lv' := [(3, .int 0), (0, .ref 110), (1, .ref 52), (2, .int x)]) (st' := []) (H' := hC A E N V W ++ g) (C := []) 5 1 rfl trivial (z_Ln.brF (decide_eq_false (by decide)) ?_)
  refine z_Ln.blk (pc' := 20) (lv' := [(3, .int 0), (0, .ref 110), (1, .ref 52), (2, .int x)]) (st' := [.int 0, .ref 52, .int (z_fn 0 (A 4) (x + 0).toNatClampNeg)]) (H' := hC A E N V W ++ g) (C := [z_in (x + 0) 1500 = true]) 6 8 rfl h0 ?_
  refine z_Ln.call (s := 0) (mj := 39) (as := [.ref 52, .int 0]) (rr := [.int (z_fn 0 (A 4) (x + 0).toNatClampNeg)]) (v := some (.int 59)) (T1 := (hC A E N V W ++ g, c)) rfl rfl ⟨⟨by omega, by omega⟩, (by decide : (1 : Nat) ≤ 8), (by decide +kernel : (2 : Nat) ≤ z_pg.2.1 39)⟩ hRm (s39_6_0 hRm (by omega) (by omega)) ⟨⟨trivial, trivial⟩, ⟨trivial, (z_sm0C 0 (by decide) rfl rfl), (Or.inl (by decide)), trivial, trivial⟩⟩ ?_
  by_cases hb : (z_fn 0 (A 4) (x + 0).toNatClampNeg) = 59
  · refine z_Ln.blk (pc' := (if decide ((z_fn 0 (A 4) (x + 0).toNatClampNeg) = 59) = true then 28 else 26)) (lv' := [(3, .int 0), (0, .ref 110), (1, .ref 52), (2, .int x)]) (st' := []) (H' := hC A E N V W ++ g) (C := []) 15 1 rfl trivial (z_Ln.brT (decide_eq_true hb) ?_)
    refine z_Ln.blk (pc' := 2) (lv' := [(3, .int 1), (0, .ref 110), (1, .ref 52), (2, .int x)]) (st' := []) (H' := hC A E N V W ++ g) (C := []) 18 2 rfl trivial ?_
    have e : decide ((z_fn 0 (A 4) (x + 0).toNatClampNeg) = 59) = true := decide_eq_true hb
    rw [e]
    exact s38_6_1 (x := x) hRm hf hw 
  · refine z_Ln.blk (pc' := (if decide ((z_fn 0 (A 4) (x + 0).toNatClampNeg) = 59) = true then 28 else 26)) (lv' := [(3, .int 0), (0, .ref 110), (1, .ref 52), (2, .int x)]) (st' := []) (H' := hC A E N V W ++ g) (C := []) 15 1 rfl trivial (z_Ln.brF (decide_eq_false hb) ?_)
    have e : decide ((z_fn 0 (A 4) (x + 0).toNatClampNeg) = 59) = false := decide_eq_false hb
    rw [e]
    refine z_Ln.blk (pc' := 27) (lv' := [(3, .int 0), (0, .ref 110), (1, .ref 52), (2, .int x)]) (st' := [.int 0]) (H' := hC A E N V W ++ g) (C := []) 16 1 rfl trivial ?_
    exact z_Ln.ret rfl (z_retB (Or.inl rfl))
set_option maxRecDepth 10000 in
theorem s38_7_1 {L : Nat} {xs : Nat → Int32} {fv : Value} {f w : Nat} {c : Nat × Nat} {A : Nat → List (Nat × Int32)} {E : List (Nat × Option Nat)} {N : Nat → Nat} {V : Nat → Nat → Int32} {W : Nat} {g : List z_E} {x : Int32} (hRm : z_Rm (hC A E N V W ++ g, c)) (hf : 4 ≤ f) (hw : 400 ≤ w)  : z_Ln L xs fv f w 38 2 [(3, .int 1), (0, .ref 110), (1, .ref 54), (2, .int x)] [] (hC A E N V W ++ g, c) (.inl (some (.int (z_B1 true)))) (hC A E N V W ++ g, c) := by
  have m36 : z_pg.2.1 36 = 1 := rfl
  refine z_Ln.blk (pc' := 4) (lv' := [(3, .int 1), (0, .ref 110), (1, .ref 54), (2, .int x)]) (st' := [.ref 54, .int 1]) (H' := hC A E N V W ++ g) (C := []) 2 2 rfl trivial ?_
  refine z_Ln.call (s := 0) (mj := 36) (as := [.ref 54]) (rr := [.int 1]) (v := some (.int 1)) (T1 := (hC A E N V W ++ g, c)) rfl rfl ⟨⟨by omega, by have : z_pg.2.1 36 = 1 := rfl; omega⟩, (by decide : (1 : Nat) ≤ 8), (by decide +kernel : (1 : Nat) ≤ z_pg.2.1 36)⟩ hRm (s36_7 hRm (by omega) (by omega)) ⟨⟨trivial, trivial⟩, ⟨trivial, (z_sm0C 0 (by decide) rfl rfl), (Or.inl (by decide)), trivial, trivial⟩⟩ ?_
  refine z_Ln.blk (pc' := (if decide (1 ≤ 1) = true then 34 else 10)) (lv' := [(3, .int 1), (0, .ref 110), (1, .ref 54), (2, .int x)]) (st' := []) (H' := hC A E N V W ++ g) (C := []) 5 1 rfl trivial (z_Ln.brT (decide_eq_true (by decide)) ?_)
  refine z_Ln.blk (pc' := 35) (lv' := [(3, .int 1), (0, .ref 110), (1, .ref 54), (2, .int x)]) (st' := [.int 1]) (H' := hC A E N V W ++ g) (C := []) 20 1 rfl trivial ?_
  exact z_Ln.ret rfl (z_retB (Or.inr rfl))
set_option maxRecDepth 10000 in
theorem s38_7_0 {L : Nat} {xs : Nat → Int32} {fv : Value} {f w : Nat} {c : Nat × Nat} {A : Nat → List (Nat × Int32)} {E : List (Nat × Option Nat)} {N : Nat → Nat} {V : Nat → Nat → Int32} {W : Nat} {g : List z_E} {x : Int32} (hRm : z_Rm (hC A E N V W ++ g, c)) (hf : 4 ≤ f) (hw : 400 ≤ w) (h0 : z_in (x + 0) 1500 = true) : z_Ln L xs fv f w 38 2 [(3, .int 0), (0, .ref 110), (1, .ref 54), (2, .int x)] [] (hC A E N V W ++ g, c) (.inl (some (.int (z_B1 (decide (z_fn 0 (A 4) (x + 0).toNatClampNeg = 44)))))) (hC A E N V W ++ g, c) := by
  have m36 : z_pg.2.1 36 = 1 := rfl
  have m39 : z_pg.2.1 39 = 2 := rfl
  refine z_Ln.blk (pc' := 4) (lv' := [(3, .int 0), (0, .ref 110), (1, .ref 54), (2, .int x)]) (st' := [.ref 54, .int 0]) (H' := hC A E N V W ++ g) (C := []) 2 2 rfl trivial ?_
  refine z_Ln.call (s := 0) (mj := 36) (as := [.ref 54]) (rr := [.int 0]) (v := some (.int 1)) (T1 := (hC A E N V W ++ g, c)) rfl rfl ⟨⟨by omega, by omega⟩, (by decide : (1 : Nat) ≤ 8), (by decide +kernel : (1 : Nat) ≤ z_pg.2.1 36)⟩ hRm (s36_7 hRm (by omega) (by omega)) ⟨⟨trivial, trivial⟩, ⟨trivial, (z_sm0C 0 (by decide) rfl rfl), (Or.inl (by decide)), trivial, trivial⟩⟩ ?_
  refine z_Ln.blk (pc' := (if decide (1 ≤ 0) = true then 34 else 10)) (lv' := [(3, .int 0), (0, .ref 110), (1, .ref 54), (2, .int x)]) (st' := []) (H' := hC A E N V W ++ g) (C := []) 5 1 rfl trivial (z_Ln.brF (decide_eq_false (by decide)) ?_)
  refine z_Ln.blk (pc' := 20) (lv' := [(3, .int 0), (0, .ref 110), (1, .ref 54), (2, .int x)]) (st' := [.int 0, .ref 54, .int (z_fn 0 (A 4) (x + 0).toNatClampNeg)]) (H' := hC A E N V W ++ g) (C := [z_in (x + 0) 1500 = true]) 6 8 rfl h0 ?_
  refine z_Ln.call (s := 0) (mj := 39) (as := [.ref 54, .int 0]) (rr := [.int (z_fn 0 (A 4) (x + 0).toNatClampNeg)]) (v := some (.int 44)) (T1 := (hC A E N V W ++ g, c)) rfl rfl ⟨⟨by omega, by omega⟩, (by decide : (1 : Nat) ≤ 8), (by decide +kernel : (2 : Nat) ≤ z_pg.2.1 39)⟩ hRm (s39_7_0 hRm (by omega) (by omega)) ⟨⟨trivial, trivial⟩, ⟨trivial, (z_sm0C 0 (by decide) rfl rfl), (Or.inl (by decide)), trivial, trivial⟩⟩ ?_
  by_cases hb : (z_fn 0 (A 4) (x + 0).toNatClampNeg) = 44
  · refine z_Ln.blk (pc' := (if decide ((z_fn 0 (A 4) (x + 0).toNatClampNeg) = 44) = true then 28 else 26)) (lv' := [(3, .int 0), (0, .ref 110), (1, .ref 54), (2, .int x)]) (st' := []) (H' := hC A E N V W ++ g) (C := []) 15 1 rfl trivial (z_Ln.brT (decide_eq_true hb) ?_)
    refine z_Ln.blk (pc' := 2) (lv' := [(3, .int 1), (0, .ref 110), (1, .ref 54), (2, .int x)]) (st' := []) (H' := hC A E N V W ++ g) (C := []) 18 2 rfl trivial ?_
    have e : decide ((z_fn 0 (A 4) (x + 0).toNatClampNeg) = 44) = true := decide_eq_true hb
    rw [e]
    exact s38_7_1 (x := x) hRm hf hw 
  · refine z_Ln.blk (pc' := (if decide ((z_fn 0 (A 4) (x + 0).toNatClampNeg) = 44) = true then 28 else 26)) (lv' := [(3, .int 0), (0, .ref 110), (1, .ref 54), (2, .int x)]) (st' := []) (H' := hC A E N V W ++ g) (C := []) 15 1 rfl trivial (z_Ln.brF (decide_eq_false hb) ?_)
    have e : decide ((z_fn 0 (A 4) (x + 0).toNatClampNeg) = 44) = false := decide_eq_false hb
    rw [e]
    refine z_Ln.blk (pc' := 27) (lv' := [(3, .int 0), (0, .ref 110), (1, .ref 54), (2, .int x)]) (st' := [.int 0]) (H' := hC A E N V W ++ g) (C := []) 16 1 rfl trivial ?_
    exact z_Ln.ret rfl (z_retB (Or.inl rfl))
set_option maxRecDepth 10000 in
theorem s38_8_1 {L : Nat} {xs : Nat → Int32} {fv : Value} {f w : Nat} {c : Nat × Nat} {A : Nat → List (Nat × Int32)} {E : List (Nat × Option Nat)} {N : Nat → Nat} {V : Nat → Nat → Int32} {W : Nat} {g : List z_E} {x : Int32} (hRm : z_Rm (hC A E N V W ++ g, c)) (hf : 4 ≤ f) (hw : 400 ≤ w)  : z_Ln L xs fv f w 38 2 [(3, .int 1), (0, .ref 110), (1, .ref 56), (2, .int x)] [] (hC A E N V W ++ g, c) (.inl (some (.int (z_B1 true)))) (hC A E N V W ++ g, c) := by
  have m36 : z_pg.2.1 36 = 1 := rfl
  refine z_Ln.blk (pc' := 4) (lv' := [(3, .int 1), (0, .ref 110), (1, .ref 56), (2, .int x)]) (st' := [.ref 56, .int 1]) (H' := hC A E N V W ++ g) (C := []) 2 2 rfl trivial ?_
  refine z_Ln.call (s := 0) (mj := 36) (as := [.ref 56]) (rr := [.int 1]) (v := some (.int 1)) (T1 := (hC A E N V W ++ g, c)) rfl rfl ⟨⟨by omega, by have : z_pg.2.1 36 = 1 := rfl; omega⟩, (by decide : (1 : Nat) ≤ 8), (by decide +kernel : (1 : Nat) ≤ z_pg.2.1 36)⟩ hRm (s36_8 hRm (by omega) (by omega)) ⟨⟨trivial, trivial⟩, ⟨trivial, (z_sm0C 0 (by decide) rfl rfl), (Or.inl (by decide)), trivial, trivial⟩⟩ ?_
  refine z_Ln.blk (pc' := (if decide (1 ≤ 1) = true then 34 else 10)) (lv' := [(3, .int 1), (0, .ref 110), (1, .ref 56), (2, .int x)]) (st' := []) (H' := hC A E N V W ++ g) (C := []) 5 1 rfl trivial (z_Ln.brT (decide_eq_true (by decide)) ?_)
  refine z_Ln.blk (pc' := 35) (lv' := [(3, .int 1), (0, .ref 110), (1, .ref 56), (2, .int x)]) (st' := [.int 1]) (H' := hC A E N V W ++ g) (C := []) 20 1 rfl trivial ?_
  exact z_Ln.ret rfl (z_retB (Or.inr rfl))
set_option maxRecDepth 10000 in
theorem s38_8_0 {L : Nat} {xs : Nat → Int32} {fv : Value} {f w : Nat} {c : Nat × Nat} {A : Nat → List (Nat × Int32)} {E : List (Nat × Option Nat)} {N : Nat → Nat} {V : Nat → Nat → Int32} {W : Nat} {g : List z_E} {x : Int32} (hRm : z_Rm (hC A E N V W ++ g, c)) (hf : 4 ≤ f) (hw : 400 ≤ w) (h0 : z_in (x + 0) 1500 = true) : z_Ln L xs fv f w 38 2 [(3, .int 0), (0, .ref 110), (1, .ref 56), (2, .int x)] [] (hC A E N V W ++ g, c) (.inl (some (.int (z_B1 (decide (z_fn 0 (A 4) (x + 0).toNatClampNeg = 61)))))) (hC A E N V W ++ g, c) := by
  have m36 : z_pg.2.1 36 = 1 := rfl
  have m39 : z_pg.2.1 39 = 2 := rfl
  refine z_Ln.blk (pc' := 4) (lv' := [(3, .int 0), (0, .ref 110), (1, .ref 56), (2, .int x)]) (st' := [.ref 56, .int 0]) (H' := hC A E N V W ++ g) (C := []) 2 2 rfl trivial ?_
  refine z_Ln.call (s := 0) (mj := 36) (as := [.ref 56]) (rr := [.int 0]) (v := some (.int 1)) (T1 := (hC A E N V W ++ g, c)) rfl rfl ⟨⟨by omega, by omega⟩, (by decide : (1 : Nat) ≤ 8), (by decide +kernel : (1 : Nat) ≤ z_pg.2.1 36)⟩ hRm (s36_8 hRm (by omega) (by omega)) ⟨⟨trivial, trivial⟩, ⟨trivial, (z_sm0C 0 (by decide) rfl rfl), (Or.inl (by decide)), trivial, trivial⟩⟩ ?_
  refine z_Ln.blk (pc' := (if decide (1 ≤ 0) = true then 34 else 10)) (lv' := [(3, .int 0), (0, .ref 110), (1, .ref 56), (2, .int x)]) (st' := []) (H' := hC A E N V W ++ g) (C := []) 5 1 rfl trivial (z_Ln.brF (decide_eq_false (by decide)) ?_)
  refine z_Ln.blk (pc' := 20) (lv' := [(3, .int 0), (0, .ref 110), (1, .ref 56), (2, .int x)]) (st' := [.int 0, .ref 56, .int (z_fn 0 (A 4) (x + 0).toNatClampNeg)]) (H' := hC A E N V W ++ g) (C := [z_in (x + 0) 1500 = true]) 6 8 rfl h0 ?_
  refine z_Ln.call (s := 0) (mj := 39) (as := [.ref 56, .int 0]) (rr := [.int (z_fn 0 (A 4) (x + 0).toNatClampNeg)]) (v := some (.int 61)) (T1 := (hC A E N V W ++ g, c)) rfl rfl ⟨⟨by omega, by omega⟩, (by decide : (1 : Nat) ≤ 8), (by decide +kernel : (2 : Nat) ≤ z_pg.2.1 39)⟩ hRm (s39_8_0 hRm (by omega) (by omega)) ⟨⟨trivial, trivial⟩, ⟨trivial, (z_sm0C 0 (by decide) rfl rfl), (Or.inl (by decide)), trivial, trivial⟩⟩ ?_
  by_cases hb : (z_fn 0 (A 4) (x + 0).toNatClampNeg) = 61
  · refine z_Ln.blk (pc' := (if decide ((z_fn 0 (A 4) (x + 0).toNatClampNeg) = 61) = true then 28 else 26)) (lv' := [(3, .int 0), (0, .ref 110), (1, .ref 56), (2, .int x)]) (st' := []) (H' := hC A E N V W ++ g) (C := []) 15 1 rfl trivial (z_Ln.brT (decide_eq_true hb) ?_)
    refine z_Ln.blk (pc' := 2) (lv' := [(3, .int 1), (0, .ref 110), (1, .ref 56), (2, .int x)]) (st' := []) (H' := hC A E N V W ++ g) (C := []) 18 2 rfl trivial ?_
    have e : decide ((z_fn 0 (A 4) (x + 0).toNatClampNeg) = 61) = true := decide_eq_true hb
    rw [e]
    exact s38_8_1 (x := x) hRm hf hw 
  · refine z_Ln.blk (pc' := (if decide ((z_fn 0 (A 4) (x + 0).toNatClampNeg) = 61) = true then 28 else 26)) (lv' := [(3, .int 0), (0, .ref 110), (1, .ref 56), (2, .int x)]) (st' := []) (H' := hC A E N V W ++ g) (C := []) 15 1 rfl trivial (z_Ln.brF (decide_eq_false hb) ?_)
    have e : decide ((z_fn 0 (A 4) (x + 0).toNatClampNeg) = 61) = false := decide_eq_false hb
    rw [e]
    refine z_Ln.blk (pc' := 27) (lv' := [(3, .int 0), (0, .ref 110), (1, .ref 56), (2, .int x)]) (st' := [.int 0]) (H' := hC A E N V W ++ g) (C := []) 16 1 rfl trivial ?_
    exact z_Ln.ret rfl (z_retB (Or.inl rfl))
set_option maxRecDepth 10000 in
theorem s38_9_1 {L : Nat} {xs : Nat → Int32} {fv : Value} {f w : Nat} {c : Nat × Nat} {A : Nat → List (Nat × Int32)} {E : List (Nat × Option Nat)} {N : Nat → Nat} {V : Nat → Nat → Int32} {W : Nat} {g : List z_E} {x : Int32} (hRm : z_Rm (hC A E N V W ++ g, c)) (hf : 4 ≤ f) (hw : 400 ≤ w)  : z_Ln L xs fv f w 38 2 [(3, .int 1), (0, .ref 110), (1, .ref 58), (2, .int x)] [] (hC A E N V W ++ g, c) (.inl (some (.int (z_B1 true)))) (hC A E N V W ++ g, c) := by
  have m36 : z_pg.2.1 36 = 1 := rfl
  refine z_Ln.blk (pc' := 4) (lv' := [(3, .int 1), (0, .ref 110), (1, .ref 58), (2, .int x)]) (st' := [.ref 58, .int 1]) (H' := hC A E N V W ++ g) (C := []) 2 2 rfl trivial ?_
  refine z_Ln.call (s := 0) (mj := 36) (as := [.ref 58]) (rr := [.int 1]) (v := some (.int 1)) (T1 := (hC A E N V W ++ g, c)) rfl rfl ⟨⟨by omega, by have : z_pg.2.1 36 = 1 := rfl; omega⟩, (by decide : (1 : Nat) ≤ 8), (by decide +kernel : (1 : Nat) ≤ z_pg.2.1 36)⟩ hRm (s36_9 hRm (by omega) (by omega)) ⟨⟨trivial, trivial⟩, ⟨trivial, (z_sm0C 0 (by decide) rfl rfl), (Or.inl (by decide)), trivial, trivial⟩⟩ ?_
  refine z_Ln.blk (pc' := (if decide (1 ≤ 1) = true then 34 else 10)) (lv' := [(3, .int 1), (0, .ref 110), (1, .ref 58), (2, .int x)]) (st' := []) (H' := hC A E N V W ++ g) (C := []) 5 1 rfl trivial (z_Ln.brT (decide_eq_true (by decide)) ?_)
  refine z_Ln.blk (pc' := 35) (lv' := [(3, .int 1), (0, .ref 110), (1, .ref 58), (2, .int x)]) (st' := [.int 1]) (H' := hC A E N V W ++ g) (C := []) 20 1 rfl trivial ?_
  exact z_Ln.ret rfl (z_retB (Or.inr rfl))
set_option maxRecDepth 10000 in
theorem s38_9_0 {L : Nat} {xs : Nat → Int32} {fv : Value} {f w : Nat} {c : Nat × Nat} {A : Nat → List (Nat × Int32)} {E : List (Nat × Option Nat)} {N : Nat → Nat} {V : Nat → Nat → Int32} {W : Nat} {g : List z_E} {x : Int32} (hRm : z_Rm (hC A E N V W ++ g, c)) (hf : 4 ≤ f) (hw : 400 ≤ w) (h0 : z_in (x + 0) 1500 = true) : z_Ln L xs fv f w 38 2 [(3, .int 0), (0, .ref 110), (1, .ref 58), (2, .int x)] [] (hC A E N V W ++ g, c) (.inl (some (.int (z_B1 (decide (z_fn 0 (A 4) (x + 0).toNatClampNeg = 60)))))) (hC A E N V W ++ g, c) := by
  have m36 : z_pg.2.1 36 = 1 := rfl
  have m39 : z_pg.2.1 39 = 2 := rfl
  refine z_Ln.blk (pc' := 4) (lv' := [(3, .int 0), (0, .ref 110), (1, .ref 58), (2, .int x)]) (st' := [.ref 58, .int 0]) (H' := hC A E N V W ++ g) (C := []) 2 2 rfl trivial ?_
  refine z_Ln.call (s := 0) (mj := 36) (as := [.ref 58]) (rr := [.int 0]) (v := some (.int 1)) (T1 := (hC A E N V W ++ g, c)) rfl rfl ⟨⟨by omega, by omega⟩, (by decide : (1 : Nat) ≤ 8), (by decide +kernel : (1 : Nat) ≤ z_pg.2.1 36)⟩ hRm (s36_9 hRm (by omega) (by omega)) ⟨⟨trivial, trivial⟩, ⟨trivial, (z_sm0C 0 (by decide) rfl rfl), (Or.inl (by decide)), trivial, trivial⟩⟩ ?_
  refine z_Ln.blk (pc' := (if decide (1 ≤ 0) = true then 34 else 10)) (lv' := [(3, .int 0), (0, .ref 110), (1, .ref 58), (2, .int x)]) (st' := []) (H' := hC A E N V W ++ g) (C := []) 5 1 rfl trivial (z_Ln.brF (decide_eq_false (by decide)) ?_)
  refine z_Ln.blk (pc' := 20) (lv' := [(3, .int 0), (0, .ref 110), (1, .ref 58), (2, .int x)]) (st' := [.int 0, .ref 58, .int (z_fn 0 (A 4) (x + 0).toNatClampNeg)]) (H' := hC A E N V W ++ g) (C := [z_in (x + 0) 1500 = true]) 6 8 rfl h0 ?_
  refine z_Ln.call (s := 0) (mj := 39) (as := [.ref 58, .int 0]) (rr := [.int (z_fn 0 (A 4) (x + 0).toNatClampNeg)]) (v := some (.int 60)) (T1 := (hC A E N V W ++ g, c)) rfl rfl ⟨⟨by omega, by omega⟩, (by decide : (1 : Nat) ≤ 8), (by decide +kernel : (2 : Nat) ≤ z_pg.2.1 39)⟩ hRm (s39_9_0 hRm (by omega) (by omega)) ⟨⟨trivial, trivial⟩, ⟨trivial, (z_sm0C 0 (by decide) rfl rfl), (Or.inl (by decide)), trivial, trivial⟩⟩ ?_
  by_cases hb : (z_fn 0 (A 4) (x + 0).toNatClampNeg) = 60
  · refine z_Ln.blk (pc' := (if decide ((z_fn 0 (A 4) (x + 0).toNatClampNeg) = 60) = true then 28 else 26)) (lv' := [(3, .int 0), (0, .ref 110), (1, .ref 58), (2, .int x)]) (st' := []) (H' := hC A E N V W ++ g) (C := []) 15 1 rfl trivial (z_Ln.brT (decide_eq_true hb) ?_)
    refine z_Ln.blk (pc' := 2) (lv' := [(3, .int 1), (0, .ref 110), (1, .ref 58), (2, .int x)]) (st' := []) (H' := hC A E N V W ++ g) (C := []) 18 2 rfl trivial ?_
    have e : decide ((z_fn 0 (A 4) (x + 0).toNatClampNeg) = 60) = true := decide_eq_true hb
    rw [e]
    exact s38_9_1 (x := x) hRm hf hw 
  · refine z_Ln.blk (pc' := (if decide ((z_fn 0 (A 4) (x + 0).toNatClampNeg) = 60) = true then 28 else 26)) (lv' := [(3, .int 0), (0, .ref 110), (1, .ref 58), (2, .int x)]) (st' := []) (H' := hC A E N V W ++ g) (C := []) 15 1 rfl trivial (z_Ln.brF (decide_eq_false hb) ?_)
    have e : decide ((z_fn 0 (A 4) (x + 0).toNatClampNeg) = 60) = false := decide_eq_false hb
    rw [e]
    refine z_Ln.blk (pc' := 27) (lv' := [(3, .int 0), (0, .ref 110), (1, .ref 58), (2, .int x)]) (st' := [.int 0]) (H' := hC A E N V W ++ g) (C := []) 16 1 rfl trivial ?_
    exact z_Ln.ret rfl (z_retB (Or.inl rfl))
set_option maxRecDepth 10000 in
theorem s38_10_1 {L : Nat} {xs : Nat → Int32} {fv : Value} {f w : Nat} {c : Nat × Nat} {A : Nat → List (Nat × Int32)} {E : List (Nat × Option Nat)} {N : Nat → Nat} {V : Nat → Nat → Int32} {W : Nat} {g : List z_E} {x : Int32} (hRm : z_Rm (hC A E N V W ++ g, c)) (hf : 4 ≤ f) (hw : 400 ≤ w)  : z_Ln L xs fv f w 38 2 [(3, .int 1), (0, .ref 110), (1, .ref 60), (2, .int x)] [] (hC A E N V W ++ g, c) (.inl (some (.int (z_B1 true)))) (hC A E N V W ++ g, c) := by
  have m36 : z_pg.2.1 36 = 1 := rfl
  refine z_Ln.blk (pc' := 4) (lv' := [(3, .int 1), (0, .ref 110), (1, .ref 60), (2, .int x)]) (st' := [.ref 60, .int 1]) (H' := hC A E N V W ++ g) (C := []) 2 2 rfl trivial ?_
  refine z_Ln.call (s := 0) (mj := 36) (as := [.ref 60]) (rr := [.int 1]) (v := some (.int 1)) (T1 := (hC A E N V W ++ g, c)) rfl rfl ⟨⟨by omega, by have : z_pg.2.1 36 = 1 := rfl; omega⟩, (by decide : (1 : Nat) ≤ 8), (by decide +kernel : (1 : Nat) ≤ z_pg.2.1 36)⟩ hRm (s36_10 hRm (by omega) (by omega)) ⟨⟨trivial, trivial⟩, ⟨trivial, (z_sm0C 0 (by decide) rfl rfl), (Or.inl (by decide)), trivial, trivial⟩⟩ ?_
  refine z_Ln.blk (pc' := (if decide (1 ≤ 1) = true then 34 else 10)) (lv' := [(3, .int 1), (0, .ref 110), (1, .ref 60), (2, .int x)]) (st' := []) (H' := hC A E N V W ++ g) (C := []) 5 1 rfl trivial (z_Ln.brT (decide_eq_true (by decide)) ?_)
  refine z_Ln.blk (pc' := 35) (lv' := [(3, .int 1), (0, .ref 110), (1, .ref 60), (2, .int x)]) (st' := [.int 1]) (H' := hC A E N V W ++ g) (C := []) 20 1 rfl trivial ?_
  exact z_Ln.ret rfl (z_retB (Or.inr rfl))
set_option maxRecDepth 10000 in
theorem s38_10_0 {L : Nat} {xs : Nat → Int32} {fv : Value} {f w : Nat} {c : Nat × Nat} {A : Nat → List (Nat × Int32)} {E : List (Nat × Option Nat)} {N : Nat → Nat} {V : Nat → Nat → Int32} {W : Nat} {g : List z_E} {x : Int32} (hRm : z_Rm (hC A E N V W ++ g, c)) (hf : 4 ≤ f) (hw : 400 ≤ w) (h0 : z_in (x + 0) 1500 = true) : z_Ln L xs fv f w 38 2 [(3, .int 0), (0, .ref 110), (1, .ref 60), (2, .int x)] [] (hC A E N V W ++ g, c) (.inl (some (.int (z_B1 (decide (z_fn 0 (A 4) (x + 0).toNatClampNeg = 43)))))) (hC A E N V W ++ g, c) := by
  have m36 : z_pg.2.1 36 = 1 := rfl
  have m39 : z_pg.2.1 39 = 2 := rfl
  refine z_Ln.blk (pc' := 4) (lv' := [(3, .int 0), (0, .ref 110), (1, .ref 60), (2, .int x)]) (st' := [.ref 60, .int 0]) (H' := hC A E N V W ++ g) (C := []) 2 2 rfl trivial ?_
  refine z_Ln.call (s := 0) (mj := 36) (as := [.ref 60]) (rr := [.int 0]) (v := some (.int 1)) (T1 := (hC A E N V W ++ g, c)) rfl rfl ⟨⟨by omega, by omega⟩, (by decide : (1 : Nat) ≤ 8), (by decide +kernel : (1 : Nat) ≤ z_pg.2.1 36)⟩ hRm (s36_10 hRm (by omega) (by omega)) ⟨⟨trivial, trivial⟩, ⟨trivial, (z_sm0C 0 (by decide) rfl rfl), (Or.inl (by decide)), trivial, trivial⟩⟩ ?_
  refine z_Ln.blk (pc' := (if decide (1 ≤ 0) = true then 34 else 10)) (lv' := [(3, .int 0), (0, .ref 110), (1, .ref 60), (2, .int x)]) (st' := []) (H' := hC A E N V W ++ g) (C := []) 5 1 rfl trivial (z_Ln.brF (decide_eq_false (by decide)) ?_)
  refine z_Ln.blk (pc' := 20) (lv' := [(3, .int 0), (0, .ref 110), (1, .ref 60), (2, .int x)]) (st' := [.int 0, .ref 60, .int (z_fn 0 (A 4) (x + 0).toNatClampNeg)]) (H' := hC A E N V W ++ g) (C := [z_in (x + 0) 1500 = true]) 6 8 rfl h0 ?_
  refine z_Ln.call (s := 0) (mj := 39) (as := [.ref 60, .int 0]) (rr := [.int (z_fn 0 (A 4) (x + 0).toNatClampNeg)]) (v := some (.int 43)) (T1 := (hC A E N V W ++ g, c)) rfl rfl ⟨⟨by omega, by omega⟩, (by decide : (1 : Nat) ≤ 8), (by decide +kernel : (2 : Nat) ≤ z_pg.2.1 39)⟩ hRm (s39_10_0 hRm (by omega) (by omega)) ⟨⟨trivial, trivial⟩, ⟨trivial, (z_sm0C 0 (by decide) rfl rfl), (Or.inl (by decide)), trivial, trivial⟩⟩ ?_
  by_cases hb : (z_fn 0 (A 4) (x + 0).toNatClampNeg) = 43
  · refine z_Ln.blk (pc' := (if decide ((z_fn 0 (A 4) (x + 0).toNatClampNeg) = 43) = true then 28 else 26)) (lv' := [(3, .int 0), (0, .ref 110), (1, .ref 60), (2, .int x)]) (st' := []) (H' := hC A E N V W ++ g) (C := []) 15 1 rfl trivial (z_Ln.brT (decide_eq_true hb) ?_)
    refine z_Ln.blk (pc' := 2) (lv' := [(3, .int 1), (0, .ref 110), (1, .ref 60), (2, .int x)]) (st' := []) (H' := hC A E N V W ++ g) (C := []) 18 2 rfl trivial ?_
    have e : decide ((z_fn 0 (A 4) (x + 0).toNatClampNeg) = 43) = true := decide_eq_true hb
    rw [e]
    exact s38_10_1 (x := x) hRm hf hw 
  · refine z_Ln.blk (pc' := (if decide ((z_fn 0 (A 4) (x + 0).toNatClampNeg) = 43) = true then 28 else 26)) (lv' := [(3, .int 0), (0, .ref 110), (1, .ref 60), (2, .int x)]) (st' := []) (H' := hC A E N V W ++ g) (C := []) 15 1 rfl trivial (z_Ln.brF (decide_eq_false hb) ?_)
    have e : decide ((z_fn 0 (A 4) (x + 0).toNatClampNeg) = 43) = false := decide_eq_false hb
    rw [e]
    refine z_Ln.blk (pc' := 27) (lv' := [(3, .int 0), (0, .ref 110), (1, .ref 60), (2, .int x)]) (st' := [.int 0]) (H' := hC A E N V W ++ g) (C := []) 16 1 rfl trivial ?_
    exact z_Ln.ret rfl (z_retB (Or.inl rfl))
set_option maxRecDepth 10000 in
theorem s38_11_1 {L : Nat} {xs : Nat → Int32} {fv : Value} {f w : Nat} {c : Nat × Nat} {A : Nat → List (Nat × Int32)} {E : List (Nat × Option Nat)} {N : Nat → Nat} {V : Nat → Nat → Int32} {W : Nat} {g : List z_E} {x : Int32} (hRm : z_Rm (hC A E N V W ++ g, c)) (hf : 4 ≤ f) (hw : 400 ≤ w)  : z_Ln L xs fv f w 38 2 [(3, .int 1), (0, .ref 110), (1, .ref 62), (2, .int x)] [] (hC A E N V W ++ g, c) (.inl (some (.int (z_B1 true)))) (hC A E N V W ++ g, c) := by
  have m36 : z_pg.2.1 36 = 1 := rfl
  refine z_Ln.blk (pc' := 4) (lv' := [(3, .int 1), (0, .ref 110), (1, .ref 62), (2, .int x)]) (st' := [.ref 62, .int 1]) (H' := hC A E N V W ++ g) (C := []) 2 2 rfl trivial ?_
  refine z_Ln.call (s := 0) (mj := 36) (as := [.ref 62]) (rr := [.int 1]) (v := some (.int 1)) (T1 := (hC A E N V W ++ g, c)) rfl rfl ⟨⟨by omega, by have : z_pg.2.1 36 = 1 := rfl; omega⟩, (by decide : (1 : Nat) ≤ 8), (by decide +kernel : (1 : Nat) ≤ z_pg.2.1 36)⟩ hRm (s36_11 hRm (by omega) (by omega)) ⟨⟨trivial, trivial⟩, ⟨trivial, (z_sm0C 0 (by decide) rfl rfl), (Or.inl (by decide)), trivial, trivial⟩⟩ ?_
  refine z_Ln.blk (pc' := (if decide (1 ≤ 1) = true then 34 else 10)) (lv' := [(3, .int 1), (0, .ref 110), (1, .ref 62), (2, .int x)]) (st' := []) (H' := hC A E N V W ++ g) (C := []) 5 1 rfl trivial (z_Ln.brT (decide_eq_true (by decide)) ?_)
  refine z_Ln.blk (pc' := 35) (lv' := [(3, .int 1), (0, .ref 110), (1, .ref 62), (2, .int x)]) (st' := [.int 1]) (H' := hC A E N V W ++ g) (C := []) 20 1 rfl trivial ?_
  exact z_Ln.ret rfl (z_retB (Or.inr rfl))
set_option maxRecDepth 10000 in
theorem s38_11_0 {L : Nat} {xs : Nat → Int32} {fv : Value} {f w : Nat} {c : Nat × Nat} {A : Nat → List (Nat × Int32)} {E : List (Nat × Option Nat)} {N : Nat → Nat} {V : Nat → Nat → Int32} {W : Nat} {g : List z_E} {x : Int32} (hRm : z_Rm (hC A E N V W ++ g, c)) (hf : 4 ≤ f) (hw : 400 ≤ w) (h0 : z_in (x + 0) 1500 = true) : z_Ln L xs fv f w 38 2 [(3, .int 0), (0, .ref 110), (1, .ref 62), (2, .int x)] [] (hC A E N V W ++ g, c) (.inl (some (.int (z_B1 (decide (z_fn 0 (A 4) (x + 0).toNatClampNeg = 45)))))) (hC A E N V W ++ g, c) := by
  have m36 : z_pg.2.1 36 = 1 := rfl
  have m39 : z_pg.2.1 39 = 2 := rfl
  refine z_Ln.blk (pc' := 4) (lv' := [(3, .int 0), (0, .ref 110), (1, .ref 62), (2, .int x)]) (st' := [.ref 62, .int 0]) (H' := hC A E N V W ++ g) (C := []) 2 2 rfl trivial ?_
  refine z_Ln.call (s := 0) (mj := 36) (as := [.ref 62]) (rr := [.int 0]) (v := some (.int 1)) (T1 := (hC A E N V W ++ g, c)) rfl rfl ⟨⟨by omega, by omega⟩, (by decide : (1 : Nat) ≤ 8), (by decide +kernel : (1 : Nat) ≤ z_pg.2.1 36)⟩ hRm (s36_11 hRm (by omega) (by omega)) ⟨⟨trivial, trivial⟩, ⟨trivial, (z_sm0C 0 (by decide) rfl rfl), (Or.inl (by decide)), trivial, trivial⟩⟩ ?_
  refine z_Ln.blk (pc' := (if decide (1 ≤ 0) = true then 34 else 10)) (lv' := [(3, .int 0), (0, .ref 110), (1, .ref 62), (2, .int x)]) (st' := []) (H' := hC A E N V W ++ g) (C := []) 5 1 rfl trivial (z_Ln.brF (decide_eq_false (by decide)) ?_)
  refine z_Ln.blk (pc' := 20) (lv' := [(3, .int 0), (0, .ref 110), (1, .ref 62), (2, .int x)]) (st' := [.int 0, .ref 62, .int (z_fn 0 (A 4) (x + 0).toNatClampNeg)]) (H' := hC A E N V W ++ g) (C := [z_in (x + 0) 1500 = true]) 6 8 rfl h0 ?_
  refine z_Ln.call (s := 0) (mj := 39) (as := [.ref 62, .int 0]) (rr := [.int (z_fn 0 (A 4) (x + 0).toNatClampNeg)]) (v := some (.int 45)) (T1 := (hC A E N V W ++ g, c)) rfl rfl ⟨⟨by omega, by omega⟩, (by decide : (1 : Nat) ≤ 8), (by decide +kernel : (2 : Nat) ≤ z_pg.2.1 39)⟩ hRm (s39_11_0 hRm (by omega) (by omega)) ⟨⟨trivial, trivial⟩, ⟨trivial, (z_sm0C 0 (by decide) rfl rfl), (Or.inl (by decide)), trivial, trivial⟩⟩ ?_
  by_cases hb : (z_fn 0 (A 4) (x + 0).toNatClampNeg) = 45
  · refine z_Ln.blk (pc' := (if decide ((z_fn 0 (A 4) (x + 0).toNatClampNeg) = 45) = true then 28 else 26)) (lv' := [(3, .int 0), (0, .ref 110), (1, .ref 62), (2, .int x)]) (st' := []) (H' := hC A E N V W ++ g) (C := []) 15 1 rfl trivial (z_Ln.brT (decide_eq_true hb) ?_)
    refine z_Ln.blk (pc' := 2) (lv' := [(3, .int 1), (0, .ref 110), (1, .ref 62), (2, .int x)]) (st' := []) (H' := hC A E N V W ++ g) (C := []) 18 2 rfl trivial ?_
    have e : decide ((z_fn 0 (A 4) (x + 0).toNatClampNeg) = 45) = true := decide_eq_true hb
    rw [e]
    exact s38_11_1 (x := x) hRm hf hw 
  · refine z_Ln.blk (pc' := (if decide ((z_fn 0 (A 4) (x + 0).toNatClampNeg) = 45) = true then 28 else 26)) (lv' := [(3, .int 0), (0, .ref 110), (1, .ref 62), (2, .int x)]) (st' := []) (H' := hC A E N V W ++ g) (C := []) 15 1 rfl trivial (z_Ln.brF (decide_eq_false hb) ?_)
    have e : decide ((z_fn 0 (A 4) (x + 0).toNatClampNeg) = 45) = false := decide_eq_false hb
    rw [e]
    refine z_Ln.blk (pc' := 27) (lv' := [(3, .int 0), (0, .ref 110), (1, .ref 62), (2, .int x)]) (st' := [.int 0]) (H' := hC A E N V W ++ g) (C := []) 16 1 rfl trivial ?_
    exact z_Ln.ret rfl (z_retB (Or.inl rfl))
set_option maxRecDepth 10000 in
theorem s38_12_1 {L : Nat} {xs : Nat → Int32} {fv : Value} {f w : Nat} {c : Nat × Nat} {A : Nat → List (Nat × Int32)} {E : List (Nat × Option Nat)} {N : Nat → Nat} {V : Nat → Nat → Int32} {W : Nat} {g : List z_E} {x : Int32} (hRm : z_Rm (hC A E N V W ++ g, c)) (hf : 4 ≤ f) (hw : 400 ≤ w)  : z_Ln L xs fv f w 38 2 [(3, .int 1), (0, .ref 110), (1, .ref 64), (2, .int x)] [] (hC A E N V W ++ g, c) (.inl (some (.int (z_B1 true)))) (hC A E N V W ++ g, c) := by
  have m36 : z_pg.2.1 36 = 1 := rfl
  refine z_Ln.blk (pc' := 4) (lv' := [(3, .int 1), (0, .ref 110), (1, .ref 64), (2, .int x)]) (st' := [.ref 64, .int 1]) (H' := hC A E N V W ++ g) (C := []) 2 2 rfl trivial ?_
  refine z_Ln.call (s := 0) (mj := 36) (as := [.ref 64]) (rr := [.int 1]) (v := some (.int 1)) (T1 := (hC A E N V W ++ g, c)) rfl rfl ⟨⟨by omega, by have : z_pg.2.1 36 = 1 := rfl; omega⟩, (by decide : (1 : Nat) ≤ 8), (by decide +kernel : (1 : Nat) ≤ z_pg.2.1 36)⟩ hRm (s36_12 hRm (by omega) (by omega)) ⟨⟨trivial, trivial⟩, ⟨trivial, (z_sm0C 0 (by decide) rfl rfl), (Or.inl (by decide)), trivial, trivial⟩⟩ ?_
  refine z_Ln.blk (pc' := (if decide (1 ≤ 1) = true then 34 else 10)) (lv' := [(3, .int 1), (0, .ref 110), (1, .ref 64), (2, .int x)]) (st' := []) (H' := hC A E N V W ++ g) (C := []) 5 1 rfl trivial (z_Ln.brT (decide_eq_true (by decide)) ?_)
  refine z_Ln.blk (pc' := 35) (lv' := [(3, .int 1), (0, .ref 110), (1, .ref 64), (2, .int x)]) (st' := [.int 1]) (H' := hC A E N V W ++ g) (C := []) 20 1 rfl trivial ?_
  exact z_Ln.ret rfl (z_retB (Or.inr rfl))
set_option maxRecDepth 10000 in
theorem s38_12_0 {L : Nat} {xs : Nat → Int32} {fv : Value} {f w : Nat} {c : Nat × Nat} {A : Nat → List (Nat × Int32)} {E : List (Nat × Option Nat)} {N : Nat → Nat} {V : Nat → Nat → Int32} {W : Nat} {g : List z_E} {x : Int32} (hRm : z_Rm (hC A E N V W ++ g, c)) (hf : 4 ≤ f) (hw : 400 ≤ w) (h0 : z_in (x + 0) 1500 = true) : z_Ln L xs fv f w 38 2 [(3, .int 0), (0, .ref 110), (1, .ref 64), (2, .int x)] [] (hC A E N V W ++ g, c) (.inl (some (.int (z_B1 (decide (z_fn 0 (A 4) (x + 0).toNatClampNeg = 42)))))) (hC A E N V W ++ g, c) := by
  have m36 : z_pg.2.1 36 = 1 := rfl
  have m39 : z_pg.2.1 39 = 2 := rfl
  refine z_Ln.blk (pc' := 4) (lv' := [(3, .int 0), (0, .ref 110), (1, .ref 64), (2, .int x)]) (st' := [.ref 64, .int 0]) (H' := hC A E N V W ++ g) (C := []) 2 2 rfl trivial ?_
  refine z_Ln.call (s := 0) (mj := 36) (as := [.ref 64]) (rr := [.int 0]) (v := some (.int 1)) (T1 := (hC A E N V W ++ g, c)) rfl rfl ⟨⟨by omega, by omega⟩, (by decide : (1 : Nat) ≤ 8), (by decide +kernel : (1 : Nat) ≤ z_pg.2.1 36)⟩ hRm (s36_12 hRm (by omega) (by omega)) ⟨⟨trivial, trivial⟩, ⟨trivial, (z_sm0C 0 (by decide) rfl rfl), (Or.inl (by decide)), trivial, trivial⟩⟩ ?_
  refine z_Ln.blk (pc' := (if decide (1 ≤ 0) = true then 34 else 10)) (lv' := [(3, .int 0), (0, .ref 110), (1, .ref 64), (2, .int x)]) (st' := []) (H' := hC A E N V W ++ g) (C := []) 5 1 rfl trivial (z_Ln.brF (decide_eq_false (by decide)) ?_)
  refine z_Ln.blk (pc' := 20) (lv' := [(3, .int 0), (0, .ref 110), (1, .ref 64), (2, .int x)]) (st' := [.int 0, .ref 64, .int (z_fn 0 (A 4) (x + 0).toNatClampNeg)]) (H' := hC A E N V W ++ g) (C := [z_in (x + 0) 1500 = true]) 6 8 rfl h0 ?_
  refine z_Ln.call (s := 0) (mj := 39) (as := [.ref 64, .int 0]) (rr := [.int (z_fn 0 (A 4) (x + 0).toNatClampNeg)]) (v := some (.int 42)) (T1 := (hC A E N V W ++ g, c)) rfl rfl ⟨⟨by omega, by omega⟩, (by decide : (1 : Nat) ≤ 8), (by decide +kernel : (2 : Nat) ≤ z_pg.2.1 39)⟩ hRm (s39_12_0 hRm (by omega) (by omega)) ⟨⟨trivial, trivial⟩, ⟨trivial, (z_sm0C 0 (by decide) rfl rfl), (Or.inl (by decide)), trivial, trivial⟩⟩ ?_
  by_cases hb : (z_fn 0 (A 4) (x + 0).toNatClampNeg) = 42
  · refine z_Ln.blk (pc' := (if decide ((z_fn 0 (A 4) (x + 0).toNatClampNeg) = 42) = true then 28 else 26)) (lv' := [(3, .int 0), (0, .ref 110), (1, .ref 64), (2, .int x)]) (st' := []) (H' := hC A E N V W ++ g) (C := []) 15 1 rfl trivial (z_Ln.brT (decide_eq_true hb) ?_)
    refine z_Ln.blk (pc' := 2) (lv' := [(3, .int 1), (0, .ref 110), (1, .ref 64), (2, .int x)]) (st' := []) (H' := hC A E N V W ++ g) (C := []) 18 2 rfl trivial ?_
    have e : decide ((z_fn 0 (A 4) (x + 0).toNatClampNeg) = 42) = true := decide_eq_true hb
    rw [e]
    exact s38_12_1 (x := x) hRm hf hw 
  · refine z_Ln.blk (pc' := (if decide ((z_fn 0 (A 4) (x + 0).toNatClampNeg) = 42) = true then 28 else 26)) (lv' := [(3, .int 0), (0, .ref 110), (1, .ref 64), (2, .int x)]) (st' := []) (H' := hC A E N V W ++ g) (C := []) 15 1 rfl trivial (z_Ln.brF (decide_eq_false hb) ?_)
    have e : decide ((z_fn 0 (A 4) (x + 0).toNatClampNeg) = 42) = false := decide_eq_false hb
    rw [e]
    refine z_Ln.blk (pc' := 27) (lv' := [(3, .int 0), (0, .ref 110), (1, .ref 64), (2, .int x)]) (st' := [.int 0]) (H' := hC A E N V W ++ g) (C := []) 16 1 rfl trivial ?_
    exact z_Ln.ret rfl (z_retB (Or.inl rfl))
set_option maxRecDepth 10000 in
theorem s38_13_1 {L : Nat} {xs : Nat → Int32} {fv : Value} {f w : Nat} {c : Nat × Nat} {A : Nat → List (Nat × Int32)} {E : List (Nat × Option Nat)} {N : Nat → Nat} {V : Nat → Nat → Int32} {W : Nat} {g : List z_E} {x : Int32} (hRm : z_Rm (hC A E N V W ++ g, c)) (hf : 4 ≤ f) (hw : 400 ≤ w)  : z_Ln L xs fv f w 38 2 [(3, .int 1), (0, .ref 110), (1, .ref 66), (2, .int x)] [] (hC A E N V W ++ g, c) (.inl (some (.int (z_B1 true)))) (hC A E N V W ++ g, c) := by
  have m36 : z_pg.2.1 36 = 1 := rfl
  refine z_Ln.blk (pc' := 4) (lv' := [(3, .int 1), (0, .ref 110), (1, .ref 66), (2, .int x)]) (st' := [.ref 66, .int 1]) (H' := hC A E N V W ++ g) (C := []) 2 2 rfl trivial ?_
  refine z_Ln.call (s := 0) (mj := 36) (as := [.ref 66]) (rr := [.int 1]) (v := some (.int 1)) (T1 := (hC A E N V W ++ g, c)) rfl rfl ⟨⟨by omega, by have : z_pg.2.1 36 = 1 := rfl; omega⟩, (by decide : (1 : Nat) ≤ 8), (by decide +kernel : (1 : Nat) ≤ z_pg.2.1 36)⟩ hRm (s36_13 hRm (by omega) (by omega)) ⟨⟨trivial, trivial⟩, ⟨trivial, (z_sm0C 0 (by decide) rfl rfl), (Or.inl (by decide)), trivial, trivial⟩⟩ ?_
  refine z_Ln.blk (pc' := (if decide (1 ≤ 1) = true then 34 else 10)) (lv' := [(3, .int 1), (0, .ref 110), (1, .ref 66), (2, .int x)]) (st' := []) (H' := hC A E N V W ++ g) (C := []) 5 1 rfl trivial (z_Ln.brT (decide_eq_true (by decide)) ?_)
  refine z_Ln.blk (pc' := 35) (lv' := [(3, .int 1), (0, .ref 110), (1, .ref 66), (2, .int x)]) (st' := [.int 1]) (H' := hC A E N V W ++ g) (C := []) 20 1 rfl trivial ?_
  exact z_Ln.ret rfl (z_retB (Or.inr rfl))
set_option maxRecDepth 10000 in
theorem s38_13_0 {L : Nat} {xs : Nat → Int32} {fv : Value} {f w : Nat} {c : Nat × Nat} {A : Nat → List (Nat × Int32)} {E : List (Nat × Option Nat)} {N : Nat → Nat} {V : Nat → Nat → Int32} {W : Nat} {g : List z_E} {x : Int32} (hRm : z_Rm (hC A E N V W ++ g, c)) (hf : 4 ≤ f) (hw : 400 ≤ w) (h0 : z_in (x + 0) 1500 = true) : z_Ln L xs fv f w 38 2 [(3, .int 0), (0, .ref 110), (1, .ref 66), (2, .int x)] [] (hC A E N V W ++ g, c) (.inl (some (.int (z_B1 (decide (z_fn 0 (A 4) (x + 0).toNatClampNeg = 33)))))) (hC A E N V W ++ g, c) := by
  have m36 : z_pg.2.1 36 = 1 := rfl
  have m39 : z_pg.2.1 39 = 2 := rfl
  refine z_Ln.blk (pc' := 4) (lv' := [(3, .int 0), (0, .ref 110), (1, .ref 66), (2, .int x)]) (st' := [.ref 66, .int 0]) (H' := hC A E N V W ++ g) (C := []) 2 2 rfl trivial ?_
  refine z_Ln.call (s := 0) (mj := 36) (as := [.ref 66]) (rr := [.int 0]) (v := some (.int 1)) (T1 := (hC A E N V W ++ g, c)) rfl rfl ⟨⟨by omega, by omega⟩, (by decide : (1 : Nat) ≤ 8), (by decide +kernel : (1 : Nat) ≤ z_pg.2.1 36)⟩ hRm (s36_13 hRm (by omega) (by omega)) ⟨⟨trivial, trivial⟩, ⟨trivial, (z_sm0C 0 (by decide) rfl rfl), (Or.inl (by decide)), trivial, trivial⟩⟩ ?_
  refine z_Ln.blk (pc' := (if decide (1 ≤ 0) = true then 34 else 10)) (lv' := [(3, .int 0), (0, .ref 110), (1, .ref 66), (2, .int x)]) (st' := []) (H' := hC A E N V W ++ g) (C := []) 5 1 rfl trivial (z_Ln.brF (decide_eq_false (by decide)) ?_)
  refine z_Ln.blk (pc' := 20) (lv' := [(3, .int 0), (0, .ref 110), (1, .ref 66), (2, .int x)]) (st' := [.int 0, .ref 66, .int (z_fn 0 (A 4) (x + 0).toNatClampNeg)]) (H' := hC A E N V W ++ g) (C := [z_in (x + 0) 1500 = true]) 6 8 rfl h0 ?_
  refine z_Ln.call (s := 0) (mj := 39) (as := [.ref 66, .int 0]) (rr := [.int (z_fn 0 (A 4) (x + 0).toNatClampNeg)]) (v := some (.int 33)) (T1 := (hC A E N V W ++ g, c)) rfl rfl ⟨⟨by omega, by omega⟩, (by decide : (1 : Nat) ≤ 8), (by decide +kernel : (2 : Nat) ≤ z_pg.2.1 39)⟩ hRm (s39_13_0 hRm (by omega) (by omega)) ⟨⟨trivial, trivial⟩, ⟨trivial, (z_sm0C 0 (by decide) rfl rfl), (Or.inl (by decide)), trivial, trivial⟩⟩ ?_
  by_cases hb : (z_fn 0 (A 4) (x + 0).toNatClampNeg) = 33
  · refine z_Ln.blk (pc' := (if decide ((z_fn 0 (A 4) (x + 0).toNatClampNeg) = 33) = true then 28 else 26)) (lv' := [(3, .int 0), (0, .ref 110), (1, .ref 66), (2, .int x)]) (st' := []) (H' := hC A E N V W ++ g) (C := []) 15 1 rfl trivial (z_Ln.brT (decide_eq_true hb) ?_)
    refine z_Ln.blk (pc' := 2) (lv' := [(3, .int 1), (0, .ref 110), (1, .ref 66), (2, .int x)]) (st' := []) (H' := hC A E N V W ++ g) (C := []) 18 2 rfl trivial ?_
    have e : decide ((z_fn 0 (A 4) (x + 0).toNatClampNeg) = 33) = true := decide_eq_true hb
    rw [e]
    exact s38_13_1 (x := x) hRm hf hw 
  · refine z_Ln.blk (pc' := (if decide ((z_fn 0 (A 4) (x + 0).toNatClampNeg) = 33) = true then 28 else 26)) (lv' := [(3, .int 0), (0, .ref 110), (1, .ref 66), (2, .int x)]) (st' := []) (H' := hC A E N V W ++ g) (C := []) 15 1 rfl trivial (z_Ln.brF (decide_eq_false hb) ?_)
    have e : decide ((z_fn 0 (A 4) (x + 0).toNatClampNeg) = 33) = false := decide_eq_false hb
    rw [e]
    refine z_Ln.blk (pc' := 27) (lv' := [(3, .int 0), (0, .ref 110), (1, .ref 66), (2, .int x)]) (st' := [.int 0]) (H' := hC A E N V W ++ g) (C := []) 16 1 rfl trivial ?_
    exact z_Ln.ret rfl (z_retB (Or.inl rfl))
set_option maxRecDepth 10000 in
theorem s38_14_1 {L : Nat} {xs : Nat → Int32} {fv : Value} {f w : Nat} {c : Nat × Nat} {A : Nat → List (Nat × Int32)} {E : List (Nat × Option Nat)} {N : Nat → Nat} {V : Nat → Nat → Int32} {W : Nat} {g : List z_E} {x : Int32} (hRm : z_Rm (hC A E N V W ++ g, c)) (hf : 4 ≤ f) (hw : 400 ≤ w)  : z_Ln L xs fv f w 38 2 [(3, .int 1), (0, .ref 110), (1, .ref 68), (2, .int x)] [] (hC A E N V W ++ g, c) (.inl (some (.int (z_B1 true)))) (hC A E N V W ++ g, c) := by
  have m36 : z_pg.2.1 36 = 1 := rfl
  refine z_Ln.blk (pc' := 4) (lv' := [(3, .int 1), (0, .ref 110), (1, .ref 68), (2, .int x)]) (st' := [.ref 68, .int 1]) (H' := hC A E N V W ++ g) (C := []) 2 2 rfl trivial ?_
  refine z_Ln.call (s := 0) (mj := 36) (as := [.ref 68]) (rr := [.int 1]) (v := some (.int 1)) (T1 := (hC A E N V W ++ g, c)) rfl rfl ⟨⟨by omega, by have : z_pg.2.1 36 = 1 := rfl; omega⟩, (by decide : (1 : Nat) ≤ 8), (by decide +kernel : (1 : Nat) ≤ z_pg.2.1 36)⟩ hRm (s36_14 hRm (by omega) (by omega)) ⟨⟨trivial, trivial⟩, ⟨trivial, (z_sm0C 0 (by decide) rfl rfl), (Or.inl (by decide)), trivial, trivial⟩⟩ ?_
  refine z_Ln.blk (pc' := (if decide (1 ≤ 1) = true then 34 else 10)) (lv' := [(3, .int 1), (0, .ref 110), (1, .ref 68), (2, .int x)]) (st' := []) (H' := hC A E N V W ++ g) (C := []) 5 1 rfl trivial (z_Ln.brT (decide_eq_true (by decide)) ?_)
  refine z_Ln.blk (pc' := 35) (lv' := [(3, .int 1), (0, .ref 110), (1, .ref 68), (2, .int x)]) (st' := [.int 1]) (H' := hC A E N V W ++ g) (C := []) 20 1 rfl trivial ?_
  exact z_Ln.ret rfl (z_retB (Or.inr rfl))
set_option maxRecDepth 10000 in
theorem s38_14_0 {L : Nat} {xs : Nat → Int32} {fv : Value} {f w : Nat} {c : Nat × Nat} {A : Nat → List (Nat × Int32)} {E : List (Nat × Option Nat)} {N : Nat → Nat} {V : Nat → Nat → Int32} {W : Nat} {g : List z_E} {x : Int32} (hRm : z_Rm (hC A E N V W ++ g, c)) (hf : 4 ≤ f) (hw : 400 ≤ w) (h0 : z_in (x + 0) 1500 = true) : z_Ln L xs fv f w 38 2 [(3, .int 0), (0, .ref 110), (1, .ref 68), (2, .int x)] [] (hC A E N V W ++ g, c) (.inl (some (.int (z_B1 (decide (z_fn 0 (A 4) (x + 0).toNatClampNeg = 124)))))) (hC A E N V W ++ g, c) := by
  have m36 : z_pg.2.1 36 = 1 := rfl
  have m39 : z_pg.2.1 39 = 2 := rfl
  refine z_Ln.blk (pc' := 4) (lv' := [(3, .int 0), (0, .ref 110), (1, .ref 68), (2, .int x)]) (st' := [.ref 68, .int 0]) (H' := hC A E N V W ++ g) (C := []) 2 2 rfl trivial ?_
  refine z_Ln.call (s := 0) (mj := 36) (as := [.ref 68]) (rr := [.int 0]) (v := some (.int 1)) (T1 := (hC A E N V W ++ g, c)) rfl rfl ⟨⟨by omega, by omega⟩, (by decide : (1 : Nat) ≤ 8), (by decide +kernel : (1 : Nat) ≤ z_pg.2.1 36)⟩ hRm (s36_14 hRm (by omega) (by omega)) ⟨⟨trivial, trivial⟩, ⟨trivial, (z_sm0C 0 (by decide) rfl rfl), (Or.inl (by decide)), trivial, trivial⟩⟩ ?_
  refine z_Ln.blk (pc' := (if decide (1 ≤ 0) = true then 34 else 10)) (lv' := [(3, .int 0), (0, .ref 110), (1, .ref 68), (2, .int x)]) (st' := []) (H' := hC A E N V W ++ g) (C := []) 5 1 rfl trivial (z_Ln.brF (decide_eq_false (by decide)) ?_)
  refine z_Ln.blk (pc' := 20) (lv' := [(3, .int 0), (0, .ref 110), (1, .ref 68), (2, .int x)]) (st' := [.int 0, .ref 68, .int (z_fn 0 (A 4) (x + 0).toNatClampNeg)]) (H' := hC A E N V W ++ g) (C := [z_in (x + 0) 1500 = true]) 6 8 rfl h0 ?_
  refine z_Ln.call (s := 0) (mj := 39) (as := [.ref 68, .int 0]) (rr := [.int (z_fn 0 (A 4) (x + 0).toNatClampNeg)]) (v := some (.int 124)) (T1 := (hC A E N V W ++ g, c)) rfl rfl ⟨⟨by omega, by omega⟩, (by decide : (1 : Nat) ≤ 8), (by decide +kernel : (2 : Nat) ≤ z_pg.2.1 39)⟩ hRm (s39_14_0 hRm (by omega) (by omega)) ⟨⟨trivial, trivial⟩, ⟨trivial, (z_sm0C 0 (by decide) rfl rfl), (Or.inl (by decide)), trivial, trivial⟩⟩ ?_
  by_cases hb : (z_fn 0 (A 4) (x + 0).toNatClampNeg) = 124
  · refine z_Ln.blk (pc' := (if decide ((z_fn 0 (A 4) (x + 0).toNatClampNeg) = 124) = true then 28 else 26)) (lv' := [(3, .int 0), (0, .ref 110), (1, .ref 68), (2, .int x)]) (st' := []) (H' := hC A E N V W ++ g) (C := []) 15 1 rfl trivial (z_Ln.brT (decide_eq_true hb) ?_)
    refine z_Ln.blk (pc' := 2) (lv' := [(3, .int 1), (0, .ref 110), (1, .ref 68), (2, .int x)]) (st' := []) (H' := hC A E N V W ++ g) (C := []) 18 2 rfl trivial ?_
    have e : decide ((z_fn 0 (A 4) (x + 0).toNatClampNeg) = 124) = true := decide_eq_true hb
    rw [e]
    exact s38_14_1 (x := x) hRm hf hw 
  · refine z_Ln.blk (pc' := (if decide ((z_fn 0 (A 4) (x + 0).toNatClampNeg) = 124) = true then 28 else 26)) (lv' := [(3, .int 0), (0, .ref 110), (1, .ref 68), (2, .int x)]) (st' := []) (H' := hC A E N V W ++ g) (C := []) 15 1 rfl trivial (z_Ln.brF (decide_eq_false hb) ?_)
    have e : decide ((z_fn 0 (A 4) (x + 0).toNatClampNeg) = 124) = false := decide_eq_false hb
    rw [e]
    refine z_Ln.blk (pc' := 27) (lv' := [(3, .int 0), (0, .ref 110), (1, .ref 68), (2, .int x)]) (st' := [.int 0]) (H' := hC A E N V W ++ g) (C := []) 16 1 rfl trivial ?_
    exact z_Ln.ret rfl (z_retB (Or.inl rfl))
set_option maxRecDepth 10000 in
theorem s38_15_2 {L : Nat} {xs : Nat → Int32} {fv : Value} {f w : Nat} {c : Nat × Nat} {A : Nat → List (Nat × Int32)} {E : List (Nat × Option Nat)} {N : Nat → Nat} {V : Nat → Nat → Int32} {W : Nat} {g : List z_E} {x : Int32} (hRm : z_Rm (hC A E N V W ++ g, c)) (hf : 4 ≤ f) (hw : 400 ≤ w)  : z_Ln L xs fv f w 38 2 [(3, .int 2), (0, .ref 110), (1, .ref 70), (2, .int x)] [] (hC A E N V W ++ g, c) (.inl (some (.int (z_B1 true)))) (hC A E N V W ++ g, c) := by
  have m36 : z_pg.2.1 36 = 1 := rfl
  refine z_Ln.blk (pc' := 4) (lv' := [(3, .int 2), (0, .ref 110), (1, .ref 70), (2, .int x)]) (st' := [.ref 70, .int 2]) (H' := hC A E N V W ++ g) (C := []) 2 2 rfl trivial ?_
  refine z_Ln.call (s := 0) (mj := 36) (as := [.ref 70]) (rr := [.int 2]) (v := some (.int 2)) (T1 := (hC A E N V W ++ g, c)) rfl rfl ⟨⟨by omega, by have : z_pg.2.1 36 = 1 := rfl; omega⟩, (by decide : (1 : Nat) ≤ 8), (by decide +kernel : (1 : Nat) ≤ z_pg.2.1 36)⟩ hRm (s36_15 hRm (by omega) (by omega)) ⟨⟨trivial, trivial⟩, ⟨trivial, (z_sm0C 0 (by decide) rfl rfl), (Or.inl (by decide)), trivial, trivial⟩⟩ ?_
  refine z_Ln.blk (pc' := (if decide (2 ≤ 2) = true then 34 else 10)) (lv' := [(3, .int 2), (0, .ref 110), (1, .ref 70), (2, .int x)]) (st' := []) (H' := hC A E N V W ++ g) (C := []) 5 1 rfl trivial (z_Ln.brT (decide_eq_true (by decide)) ?_)
  refine z_Ln.blk (pc' := 35) (lv' := [(3, .int 2), (0, .ref 110), (1, .ref 70), (2, .int x)]) (st' := [.int 1]) (H' := hC A E N V W ++ g) (C := []) 20 1 rfl trivial ?_
  exact z_Ln.ret rfl (z_retB (Or.inr rfl))
set_option maxRecDepth 10000 in
theorem s38_15_1 {L : Nat} {xs : Nat → Int32} {fv : Value} {f w : Nat} {c : Nat × Nat} {A : Nat → List (Nat × Int32)} {E : List (Nat × Option Nat)} {N : Nat → Nat} {V : Nat → Nat → Int32} {W : Nat} {g : List z_E} {x : Int32} (hRm : z_Rm (hC A E N V W ++ g, c)) (hf : 4 ≤ f) (hw : 400 ≤ w) (h1 : z_in (x + 1) 1500 = true) : z_Ln L xs fv f w 38 2 [(3, .int 1), (0, .ref 110), (1, .ref 70), (2, .int x)] [] (hC A E N V W ++ g, c) (.inl (some (.int (z_B1 (decide (z_fn 0 (A 4) (x + 1).toNatClampNeg = 62)))))) (hC A E N V W ++ g, c) := by
  have m36 : z_pg.2.1 36 = 1 := rfl
  have m39 : z_pg.2.1 39 = 2 := rfl
  refine z_Ln.blk (pc' := 4) (lv' := [(3, .int 1), (0, .ref 110), (1, .ref 70), (2, .int x)]) (st' := [.ref 70, .int 1]) (H' := hC A E N V W ++ g) (C := []) 2 2 rfl trivial ?_
  refine z_Ln.call (s := 0) (mj := 36) (as := [.ref 70]) (rr := [.int 1]) (v := some (.int 2)) (T1 := (hC A E N V W ++ g, c)) rfl rfl ⟨⟨by omega, by omega⟩, (by decide : (1 : Nat) ≤ 8), (by decide +kernel : (1 : Nat) ≤ z_pg.2.1 36)⟩ hRm (s36_15 hRm (by omega) (by omega)) ⟨⟨trivial, trivial⟩, ⟨trivial, (z_sm0C 0 (by decide) rfl rfl), (Or.inl (by decide)), trivial, trivial⟩⟩ ?_
  refine z_Ln.blk (pc' := (if decide (2 ≤ 1) = true then 34 else 10)) (lv' := [(3, .int 1), (0, .ref 110), (1, .ref 70), (2, .int x)]) (st' := []) (H' := hC A E N V W ++ g) (C := []) 5 1 rfl trivial (z_Ln.brF (decide_eq_false (by decide)) ?_)
  refine z_Ln.blk (pc' := 20) (lv' := [(3, .int 1), (0, .ref 110), (1, .ref 70), (2, .int x)]) (st' := [.int 1, .ref 70, .int (z_fn 0 (A 4) (x + 1).toNatClampNeg)]) (H' := hC A E N V W ++ g) (C := [z_in (x + 1) 1500 = true]) 6 8 rfl h1 ?_
  refine z_Ln.call (s := 0) (mj := 39) (as := [.ref 70, .int 1]) (rr := [.int (z_fn 0 (A 4) (x + 1).toNatClampNeg)]) (v := some (.int 62)) (T1 := (hC A E N V W ++ g, c)) rfl rfl ⟨⟨by omega, by omega⟩, (by decide : (1 : Nat) ≤ 8), (by decide +kernel : (2 : Nat) ≤ z_pg.2.1 39)⟩ hRm (s39_15_1 hRm (by omega) (by omega)) ⟨⟨trivial, trivial⟩, ⟨trivial, (z_sm0C 0 (by decide) rfl rfl), (Or.inl (by decide)), trivial, trivial⟩⟩ ?_
  by_cases hb : (z_fn 0 (A 4) (x + 1).toNatClampNeg) = 62
  · refine z_Ln.blk (pc' := (if decide ((z_fn 0 (A 4) (x + 1).toNatClampNeg) = 62) = true then 28 else 26)) (lv' := [(3, .int 1), (0, .ref 110), (1, .ref 70), (2, .int x)]) (st' := []) (H' := hC A E N V W ++ g) (C := []) 15 1 rfl trivial (z_Ln.brT (decide_eq_true hb) ?_)
    refine z_Ln.blk (pc' := 2) (lv' := [(3, .int 2), (0, .ref 110), (1, .ref 70), (2, .int x)]) (st' := []) (H' := hC A E N V W ++ g) (C := []) 18 2 rfl trivial ?_
    have e : decide ((z_fn 0 (A 4) (x + 1).toNatClampNeg) = 62) = true := decide_eq_true hb
    rw [e]
    exact s38_15_2 (x := x) hRm hf hw 
  · refine z_Ln.blk (pc' := (if decide ((z_fn 0 (A 4) (x + 1).toNatClampNeg) = 62) = true then 28 else 26)) (lv' := [(3, .int 1), (0, .ref 110), (1, .ref 70), (2, .int x)]) (st' := []) (H' := hC A E N V W ++ g) (C := []) 15 1 rfl trivial (z_Ln.brF (decide_eq_false hb) ?_)
    have e : decide ((z_fn 0 (A 4) (x + 1).toNatClampNeg) = 62) = false := decide_eq_false hb
    rw [e]
    refine z_Ln.blk (pc' := 27) (lv' := [(3, .int 1), (0, .ref 110), (1, .ref 70), (2, .int x)]) (st' := [.int 0]) (H' := hC A E N V W ++ g) (C := []) 16 1 rfl trivial ?_
    exact z_Ln.ret rfl (z_retB (Or.inl rfl))
set_option maxRecDepth 10000 in
theorem s38_15_0 {L : Nat} {xs : Nat → Int32} {fv : Value} {f w : Nat} {c : Nat × Nat} {A : Nat → List (Nat × Int32)} {E : List (Nat × Option Nat)} {N : Nat → Nat} {V : Nat → Nat → Int32} {W : Nat} {g : List z_E} {x : Int32} (hRm : z_Rm (hC A E N V W ++ g, c)) (hf : 4 ≤ f) (hw : 400 ≤ w) (h0 : z_in (x + 0) 1500 = true) (h1 : z_in (x + 1) 1500 = true) : z_Ln L xs fv f w 38 2 [(3, .int 0), (0, .ref 110), (1, .ref 70), (2, .int x)] [] (hC A E N V W ++ g, c) (.inl (some (.int (z_B1 (decide (z_fn 0 (A 4) (x + 0).toNatClampNeg = 45) && decide (z_fn 0 (A 4) (x + 1).toNatClampNeg = 62)))))) (hC A E N V W ++ g, c) := by
  have m36 : z_pg.2.1 36 = 1 := rfl
  have m39 : z_pg.2.1 39 = 2 := rfl
  refine z_Ln.blk (pc' := 4) (lv' := [(3, .int 0), (0, .ref 110), (1, .ref 70), (2, .int x)]) (st' := [.ref 70, .int 0]) (H' := hC A E N V W ++ g) (C := []) 2 2 rfl trivial ?_
  refine z_Ln.call (s := 0) (mj := 36) (as := [.ref 70]) (rr := [.int 0]) (v := some (.int 2)) (T1 := (hC A E N V W ++ g, c)) rfl rfl ⟨⟨by omega, by omega⟩, (by decide : (1 : Nat) ≤ 8), (by decide +kernel : (1 : Nat) ≤ z_pg.2.1 36)⟩ hRm (s36_15 hRm (by omega) (by omega)) ⟨⟨trivial, trivial⟩, ⟨trivial, (z_sm0C 0 (by decide) rfl rfl), (Or.inl (by decide)), trivial, trivial⟩⟩ ?_
  refine z_Ln.blk (pc' := (if decide (2 ≤ 0) = true then 34 else 10)) (lv' := [(3, .int 0), (0, .ref 110), (1, .ref 70), (2, .int x)]) (st' := []) (H' := hC A E N V W ++ g) (C := []) 5 1 rfl trivial (z_Ln.brF (decide_eq_false (by decide)) ?_)
  refine z_Ln.blk (pc' := 20) (lv' := [(3, .int 0), (0, .ref 110), (1, .ref 70), (2, .int x)]) (st' := [.int 0, .ref 70, .int (z_fn 0 (A 4) (x + 0).toNatClampNeg)]) (H' := hC A E N V W ++ g) (C := [z_in (x + 0) 1500 = true]) 6 8 rfl h0 ?_
  refine z_Ln.call (s := 0) (mj := 39) (as := [.ref 70, .int 0]) (rr := [.int (z_fn 0 (A 4) (x + 0).toNatClampNeg)]) (v := some (.int 45)) (T1 := (hC A E N V W ++ g, c)) rfl rfl ⟨⟨by omega, by omega⟩, (by decide : (1 : Nat) ≤ 8), (by decide +kernel : (2 : Nat) ≤ z_pg.2.1 39)⟩ hRm (s39_15_0 hRm (by omega) (by omega)) ⟨⟨trivial, trivial⟩, ⟨trivial, (z_sm0C 0 (by decide) rfl rfl), (Or.inl (by decide)), trivial, trivial⟩⟩ ?_
  by_cases hb : (z_fn 0 (A 4) (x + 0).toNatClampNeg) = 45
  · refine z_Ln.blk (pc' := (if decide ((z_fn 0 (A 4) (x + 0).toNatClampNeg) = 45) = true then 28 else 26)) (lv' := [(3, .int 0), (0, .ref 110), (1, .ref 70), (2, .int x)]) (st' := []) (H' := hC A E N V W ++ g) (C := []) 15 1 rfl trivial (z_Ln.brT (decide_eq_true hb) ?_)
    refine z_Ln.blk (pc' := 2) (lv' := [(3, .int 1), (0, .ref 110), (1, .ref 70), (2, .int x)]) (st' := []) (H' := hC A E N V W ++ g) (C := []) 18 2 rfl trivial ?_
    have e : decide ((z_fn 0 (A 4) (x + 0).toNatClampNeg) = 45) = true := decide_eq_true hb
    rw [e]
    simp only [Bool.true_and]
    exact s38_15_1 (x := x) hRm hf hw h1
  · refine z_Ln.blk (pc' := (if decide ((z_fn 0 (A 4) (x + 0).toNatClampNeg) = 45) = true then 28 else 26)) (lv' := [(3, .int 0), (0, .ref 110), (1, .ref 70), (2, .int x)]) (st' := []) (H' := hC A E N V W ++ g) (C := []) 15 1 rfl trivial (z_Ln.brF (decide_eq_false hb) ?_)
    have e : decide ((z_fn 0 (A 4) (x + 0).toNatClampNeg) = 45) = false := decide_eq_false hb
    rw [e]
    simp only [Bool.false_and]
    refine z_Ln.blk (pc' := 27) (lv' := [(3, .int 0), (0, .ref 110), (1, .ref 70), (2, .int x)]) (st' := [.int 0]) (H' := hC A E N V W ++ g) (C := []) 16 1 rfl trivial ?_
    exact z_Ln.ret rfl (z_retB (Or.inl rfl))
set_option maxRecDepth 10000 in
theorem s38_16_6 {L : Nat} {xs : Nat → Int32} {fv : Value} {f w : Nat} {c : Nat × Nat} {A : Nat → List (Nat × Int32)} {E : List (Nat × Option Nat)} {N : Nat → Nat} {V : Nat → Nat → Int32} {W : Nat} {g : List z_E} {x : Int32} (hRm : z_Rm (hC A E N V W ++ g, c)) (hf : 4 ≤ f) (hw : 400 ≤ w)  : z_Ln L xs fv f w 38 2 [(3, .int 6), (0, .ref 110), (1, .ref 72), (2, .int x)] [] (hC A E N V W ++ g, c) (.inl (some (.int (z_B1 true)))) (hC A E N V W ++ g, c) := by
  have m36 : z_pg.2.1 36 = 1 := rfl
  refine z_Ln.blk (pc' := 4) (lv' := [(3, .int 6), (0, .ref 110), (1, .ref 72), (2, .int x)]) (st' := [.ref 72, .int 6]) (H' := hC A E N V W ++ g) (C := []) 2 2 rfl trivial ?_
  refine z_Ln.call (s := 0) (mj := 36) (as := [.ref 72]) (rr := [.int 6]) (v := some (.int 6)) (T1 := (hC A E N V W ++ g, c)) rfl rfl ⟨⟨by omega, by have : z_pg.2.1 36 = 1 := rfl; omega⟩, (by decide : (1 : Nat) ≤ 8), (by decide +kernel : (1 : Nat) ≤ z_pg.2.1 36)⟩ hRm (s36_16 hRm (by omega) (by omega)) ⟨⟨trivial, trivial⟩, ⟨trivial, (z_sm0C 0 (by decide) rfl rfl), (Or.inl (by decide)), trivial, trivial⟩⟩ ?_
  refine z_Ln.blk (pc' := (if decide (6 ≤ 6) = true then 34 else 10)) (lv' := [(3, .int 6), (0, .ref 110), (1, .ref 72), (2, .int x)]) (st' := []) (H' := hC A E N V W ++ g) (C := []) 5 1 rfl trivial (z_Ln.brT (decide_eq_true (by decide)) ?_)
  refine z_Ln.blk (pc' := 35) (lv' := [(3, .int 6), (0, .ref 110), (1, .ref 72), (2, .int x)]) (st' := [.int 1]) (H' := hC A E N V W ++ g) (C := []) 20 1 rfl trivial ?_
  exact z_Ln.ret rfl (z_retB (Or.inr rfl))
set_option maxRecDepth 10000 in
theorem s38_16_5 {L : Nat} {xs : Nat → Int32} {fv : Value} {f w : Nat} {c : Nat × Nat} {A : Nat → List (Nat × Int32)} {E : List (Nat × Option Nat)} {N : Nat → Nat} {V : Nat → Nat → Int32} {W : Nat} {g : List z_E} {x : Int32} (hRm : z_Rm (hC A E N V W ++ g, c)) (hf : 4 ≤ f) (hw : 400 ≤ w) (h5 : z_in (x + 5) 1500 = true) : z_Ln L xs fv f w 38 2 [(3, .int 5), (0, .ref 110), (1, .ref 72), (2, .int x)] [] (hC A E N V W ++ g, c) (.inl (some (.int (z_B1 (decide (z_fn 0 (A 4) (x + 5).toNatClampNeg = 116)))))) (hC A E N V W ++ g, c) := by
  have m36 : z_pg.2.1 36 = 1 := rfl
  have m39 : z_pg.2.1 39 = 2 := rfl
  refine z_Ln.blk (pc' := 4) (lv' := [(3, .int 5), (0, .ref 110), (1, .ref 72), (2, .int x)]) (st' := [.ref 72, .int 5]) (H' := hC A E N V W ++ g) (C := []) 2 2 rfl trivial ?_
  refine z_Ln.call (s := 0) (mj := 36) (as := [.ref 72]) (rr := [.int 5]) (v := some (.int 6)) (T1 := (hC A E N V W ++ g, c)) rfl rfl ⟨⟨by omega, by omega⟩, (by decide : (1 : Nat) ≤ 8), (by decide +kernel : (1 : Nat) ≤ z_pg.2.1 36)⟩ hRm (s36_16 hRm (by omega) (by omega)) ⟨⟨trivial, trivial⟩, ⟨trivial, (z_sm0C 0 (by decide) rfl rfl), (Or.inl (by decide)), trivial, trivial⟩⟩ ?_
  refine z_Ln.blk (pc' := (if decide (6 ≤ 5) = true then 34 else 10)) (lv' := [(3, .int 5), (0, .ref 110), (1, .ref 72), (2, .int x)]) (st' := []) (H' := hC A E N V W ++ g) (C := []) 5 1 rfl trivial (z_Ln.brF (decide_eq_false (by decide)) ?_)
  refine z_Ln.blk (pc' := 20) (lv' := [(3, .int 5), (0, .ref 110), (1, .ref 72), (2, .int x)]) (st' := [.int 5, .ref 72, .int (z_fn 0 (A 4) (x + 5).toNatClampNeg)]) (H' := hC A E N V W ++ g) (C := [z_in (x + 5) 1500 = true]) 6 8 rfl h5 ?_
  refine z_Ln.call (s := 0) (mj := 39) (as := [.ref 72, .int 5]) (rr := [.int (z_fn 0 (A 4) (x + 5).toNatClampNeg)]) (v := some (.int 116)) (T1 := (hC A E N V W ++ g, c)) rfl rfl ⟨⟨by omega, by omega⟩, (by decide : (1 : Nat) ≤ 8), (by decide +kernel : (2 : Nat) ≤ z_pg.2.1 39)⟩ hRm (s39_16_5 hRm (by omega) (by omega)) ⟨⟨trivial, trivial⟩, ⟨trivial, (z_sm0C 0 (by decide) rfl rfl), (Or.inl (by decide)), trivial, trivial⟩⟩ ?_
  by_cases hb : (z_fn 0 (A 4) (x + 5).toNatClampNeg) = 116
  · refine z_Ln.blk (pc' := (if decide ((z_fn 0 (A 4) (x + 5).toNatClampNeg) = 116) = true then 28 else 26)) (lv' := [(3, .int 5), (0, .ref 110), (1, .ref 72), (2, .int x)]) (st' := []) (H' := hC A E N V W ++ g) (C := []) 15 1 rfl trivial (z_Ln.brT (decide_eq_true hb) ?_)
    refine z_Ln.blk (pc' := 2) (lv' := [(3, .int 6), (0, .ref 110), (1, .ref 72), (2, .int x)]) (st' := []) (H' := hC A E N V W ++ g) (C := []) 18 2 rfl trivial ?_
    have e : decide ((z_fn 0 (A 4) (x + 5).toNatClampNeg) = 116) = true := decide_eq_true hb
    rw [e]
    exact s38_16_6 (x := x) hRm hf hw 
  · refine z_Ln.blk (pc' := (if decide ((z_fn 0 (A 4) (x + 5).toNatClampNeg) = 116) = true then 28 else 26)) (lv' := [(3, .int 5), (0, .ref 110), (1, .ref 72), (2, .int x)]) (st' := []) (H' := hC A E N V W ++ g) (C := []) 15 1 rfl trivial (z_Ln.brF (decide_eq_false hb) ?_)
    have e : decide ((z_fn 0 (A 4) (x + 5).toNatClampNeg) = 116) = false := decide_eq_false hb
    rw [e]
    refine z_Ln.blk (pc' := 27) (lv' := [(3, .int 5), (0, .ref 110), (1, .ref 72), (2, .int x)]) (st' := [.int 0]) (H' := hC A E N V W ++ g) (C := []) 16 1 rfl trivial ?_
    exact z_Ln.ret rfl (z_retB (Or.inl rfl))
set_option maxRecDepth 10000 in
theorem s38_16_4 {L : Nat} {xs : Nat → Int32} {fv : Value} {f w : Nat} {c : Nat × Nat} {A : Nat → List (Nat × Int32)} {E : List (Nat × Option Nat)} {N : Nat → Nat} {V : Nat → Nat → Int32} {W : Nat} {g : List z_E} {x : Int32} (hRm : z_Rm (hC A E N V W ++ g, c)) (hf : 4 ≤ f) (hw : 400 ≤ w) (h4 : z_in (x + 4) 1500 = true) (h5 : z_in (x + 5) 1500 = true) : z_Ln L xs fv f w 38 2 [(3, .int 4), (0, .ref 110), (1, .ref 72), (2, .int x)] [] (hC A E N V W ++ g, c) (.inl (some (.int (z_B1 (decide (z_fn 0 (A 4) (x + 4).toNatClampNeg = 99) && decide (z_fn 0 (A 4) (x + 5).toNatClampNeg = 116)))))) (hC A E N V W ++ g, c) := by
  have m36 : z_pg.2.1 36 = 1 := rfl
  have m39 : z_pg.2.1 39 = 2 := rfl
  refine z_Ln.blk (pc' := 4) (lv' := [(3, .int 4), (0, .ref 110), (1, .ref 72), (2, .int x)]) (st' := [.ref 72, .int 4]) (H' := hC A E N V W ++ g) (C := []) 2 2 rfl trivial ?_
  refine z_Ln.call (s := 0) (mj := 36) (as := [.ref 72]) (rr := [.int 4]) (v := some (.int 6)) (T1 := (hC A E N V W ++ g, c)) rfl rfl ⟨⟨by omega, by omega⟩, (by decide : (1 : Nat) ≤ 8), (by decide +kernel : (1 : Nat) ≤ z_pg.2.1 36)⟩ hRm (s36_16 hRm (by omega) (by omega)) ⟨⟨trivial, trivial⟩, ⟨trivial, (z_sm0C 0 (by decide) rfl rfl), (Or.inl (by decide)), trivial, trivial⟩⟩ ?_
  refine z_Ln.blk (pc' := (if decide (6 ≤ 4) = true then 34 else 10)) (lv' := [(3, .int 4), (0, .ref 110), (1, .ref 72), (2, .int x)]) (st' := []) (H' := hC A E N V W ++ g) (C := []) 5 1 rfl trivial (z_Ln.brF (decide_eq_false (by decide)) ?_)
  refine z_Ln.blk (pc' := 20) (lv' := [(3, .int 4), (0, .ref 110), (1, .ref 72), (2, .int x)]) (st' := [.int 4, .ref 72, .int (z_fn 0 (A 4) (x + 4).toNatClampNeg)]) (H' := hC A E N V W ++ g) (C := [z_in (x + 4) 1500 = true]) 6 8 rfl h4 ?_
  refine z_Ln.call (s := 0) (mj := 39) (as := [.ref 72, .int 4]) (rr := [.int (z_fn 0 (A 4) (x + 4).toNatClampNeg)]) (v := some (.int 99)) (T1 := (hC A E N V W ++ g, c)) rfl rfl ⟨⟨by omega, by omega⟩, (by decide : (1 : Nat) ≤ 8), (by decide +kernel : (2 : Nat) ≤ z_pg.2.1 39)⟩ hRm (s39_16_4 hRm (by omega) (by omega)) ⟨⟨trivial, trivial⟩, ⟨trivial, (z_sm0C 0 (by decide) rfl rfl), (Or.inl (by decide)), trivial, trivial⟩⟩ ?_
  by_cases hb : (z_fn 0 (A 4) (x + 4).toNatClampNeg) = 99
  · refine z_Ln.blk (pc' := (if decide ((z_fn 0 (A 4) (x + 4).toNatClampNeg) = 99) = true then 28 else 26)) (lv' := [(3, .int 4), (0, .ref 110), (1, .ref 72), (2, .int x)]) (st' := []) (H' := hC A E N V W ++ g) (C := []) 15 1 rfl trivial (z_Ln.brT (decide_eq_true hb) ?_)
    refine z_Ln.blk (pc' := 2) (lv' := [(3, .int 5), (0, .ref 110), (1, .ref 72), (2, .int x)]) (st' := []) (H' := hC A E N V W ++ g) (C := []) 18 2 rfl trivial ?_
    have e : decide ((z_fn 0 (A 4) (x + 4).toNatClampNeg) = 99) = true := decide_eq_true hb
    rw [e]
    simp only [Bool.true_and]
    exact s38_16_5 (x := x) hRm hf hw h5
  · refine z_Ln.blk (pc' := (if decide ((z_fn 0 (A 4) (x + 4).toNatClampNeg) = 99) = true then 28 else 26)) (lv' := [(3, .int 4), (0, .ref 110), (1, .ref 72), (2, .int x)]) (st' := []) (H' := hC A E N V W ++ g) (C := []) 15 1 rfl trivial (z_Ln.brF (decide_eq_false hb) ?_)
    have e : decide ((z_fn 0 (A 4) (x + 4).toNatClampNeg) = 99) = false := decide_eq_false hb
    rw [e]
    simp only [Bool.false_and]
    refine z_Ln.blk (pc' := 27) (lv' := [(3, .int 4), (0, .ref 110), (1, .ref 72), (2, .int x)]) (st' := [.int 0]) (H' := hC A E N V W ++ g) (C := []) 16 1 rfl trivial ?_
    exact z_Ln.ret rfl (z_retB (Or.inl rfl))
set_option maxRecDepth 10000 in
theorem s38_16_3 {L : Nat} {xs : Nat → Int32} {fv : Value} {f w : Nat} {c : Nat × Nat} {A : Nat → List (Nat × Int32)} {E : List (Nat × Option Nat)} {N : Nat → Nat} {V : Nat → Nat → Int32} {W : Nat} {g : List z_E} {x : Int32} (hRm : z_Rm (hC A E N V W ++ g, c)) (hf : 4 ≤ f) (hw : 400 ≤ w) (h3 : z_in (x + 3) 1500 = true) (h4 : z_in (x + 4) 1500 = true) (h5 : z_in (x + 5) 1500 = true) : z_Ln L xs fv f w 38 2 [(3, .int 3), (0, .ref 110), (1, .ref 72), (2, .int x)] [] (hC A E N V W ++ g, c) (.inl (some (.int (z_B1 (decide (z_fn 0 (A 4) (x + 3).toNatClampNeg = 101) && decide (z_fn 0 (A 4) (x + 4).toNatClampNeg = 99) && decide (z_fn 0 (A 4) (x + 5).toNatClampNeg = 116)))))) (hC A E N V W ++ g, c) := by
  have m36 : z_pg.2.1 36 = 1 := rfl
  have m39 : z_pg.2.1 39 = 2 := rfl
  refine z_Ln.blk (pc' := 4) (lv' := [(3, .int 3), (0, .ref 110), (1, .ref 72), (2, .int x)]) (st' := [.ref 72, .int 3]) (H' := hC A E N V W ++ g) (C := []) 2 2 rfl trivial ?_
  refine z_Ln.call (s := 0) (mj := 36) (as := [.ref 72]) (rr := [.int 3]) (v := some (.int 6)) (T1 := (hC A E N V W ++ g, c)) rfl rfl ⟨⟨by omega, by omega⟩, (by decide : (1 : Nat) ≤ 8), (by decide +kernel : (1 : Nat) ≤ z_pg.2.1 36)⟩ hRm (s36_16 hRm (by omega) (by omega)) ⟨⟨trivial, trivial⟩, ⟨trivial, (z_sm0C 0 (by decide) rfl rfl), (Or.inl (by decide)), trivial, trivial⟩⟩ ?_
  refine z_Ln.blk (pc' := (if decide (6 ≤ 3) = true then 34 else 10)) (lv' := [(3, .int 3), (0, .ref 110), (1, .ref 72), (2, .int x)]) (st' := []) (H' := hC A E N V W ++ g) (C := []) 5 1 rfl trivial (z_Ln.brF (decide_eq_false (by decide)) ?_)
  refine z_Ln.blk (pc' := 20) (lv' := [(3, .int 3), (0, .ref 110), (1, .ref 72), (2, .int x)]) (st' := [.int 3, .ref 72, .int (z_fn 0 (A 4) (x + 3).toNatClampNeg)]) (H' := hC A E N V W ++ g) (C := [z_in (x + 3) 1500 = true]) 6 8 rfl h3 ?_
  refine z_Ln.call (s := 0) (mj := 39) (as := [.ref 72, .int 3]) (rr := [.int (z_fn 0 (A 4) (x + 3).toNatClampNeg)]) (v := some (.int 101)) (T1 := (hC A E N V W ++ g, c)) rfl rfl ⟨⟨by omega, by omega⟩, (by decide : (1 : Nat) ≤ 8), (by decide +kernel : (2 : Nat) ≤ z_pg.2.1 39)⟩ hRm (s39_16_3 hRm (by omega) (by omega)) ⟨⟨trivial, trivial⟩, ⟨trivial, (z_sm0C 0 (by decide) rfl rfl), (Or.inl (by decide)), trivial, trivial⟩⟩ ?_
  by_cases hb : (z_fn 0 (A 4) (x + 3).toNatClampNeg) = 101
  · refine z_Ln.blk (pc' := (if decide ((z_fn 0 (A 4) (x + 3).toNatClampNeg) = 101) = true then 28 else 26)) (lv' := [(3, .int 3), (0, .ref 110), (1, .ref 72), (2, .int x)]) (st' := []) (H' := hC A E N V W ++ g) (C := []) 15 1 rfl trivial (z_Ln.brT (decide_eq_true hb) ?_)
    refine z_Ln.blk (pc' := 2) (lv' := [(3, .int 4), (0, .ref 110), (1, .ref 72), (2, .int x)]) (st' := []) (H' := hC A E N V W ++ g) (C := []) 18 2 rfl trivial ?_
    have e : decide ((z_fn 0 (A 4) (x + 3).toNatClampNeg) = 101) = true := decide_eq_true hb
    rw [e]
    simp only [Bool.true_and]
    exact s38_16_4 (x := x) hRm hf hw h4 h5
  · refine z_Ln.blk (pc' := (if decide ((z_fn 0 (A 4) (x + 3).toNatClampNeg) = 101) = true then 28 else 26)) (lv' := [(3, .int 3), (0, .ref 110), (1, .ref 72), (2, .int x)]) (st' := []) (H' := hC A E N V W ++ g) (C := []) 15 1 rfl trivial (z_Ln.brF (decide_eq_false hb) ?_)
    have e : decide ((z_fn 0 (A 4) (x + 3).toNatClampNeg) = 101) = false := decide_eq_false hb
    rw [e]
    simp only [Bool.false_and]
    refine z_Ln.blk (pc' := 27) (lv' := [(3, .int 3), (0, .ref 110), (1, .ref 72), (2, .int x)]) (st' := [.int 0]) (H' := hC A E N V W ++ g) (C := []) 16 1 rfl trivial ?_
    exact z_Ln.ret rfl (z_retB (Or.inl rfl))
set_option maxRecDepth 10000 in
theorem s38_16_2 {L : Nat} {xs : Nat → Int32} {fv : Value} {f w : Nat} {c : Nat × Nat} {A : Nat → List (Nat × Int32)} {E : List (Nat × Option Nat)} {N : Nat → Nat} {V : Nat → Nat → Int32} {W : Nat} {g : List z_E} {x : Int32} (hRm : z_Rm (hC A E N V W ++ g, c)) (hf : 4 ≤ f) (hw : 400 ≤ w) (h2 : z_in (x + 2) 1500 = true) (h3 : z_in (x + 3) 1500 = true) (h4 : z_in (x + 4) 1500 = true) (h5 : z_in (x + 5) 1500 = true) : z_Ln L xs fv f w 38 2 [(3, .int 2), (0, .ref 110), (1, .ref 72), (2, .int x)] [] (hC A E N V W ++ g, c) (.inl (some (.int (z_B1 (decide (z_fn 0 (A 4) (x + 2).toNatClampNeg = 102) && decide (z_fn 0 (A 4) (x + 3).toNatClampNeg = 101) && decide (z_fn 0 (A 4) (x + 4).toNatClampNeg = 99) && decide (z_fn 0 (A 4) (x + 5).toNatClampNeg = 116)))))) (hC A E N V W ++ g, c) := by
  have m36 : z_pg.2.1 36 = 1 := rfl
  have m39 : z_pg.2.1 39 = 2 := rfl
  refine z_Ln.blk (pc' := 4) (lv' := [(3, .int 2), (0, .ref 110), (1, .ref 72), (2, .int x)]) (st' := [.ref 72, .int 2]) (H' := hC A E N V W ++ g) (C := []) 2 2 rfl trivial ?_
  refine z_Ln.call (s := 0) (mj := 36) (as := [.ref 72]) (rr := [.int 2]) (v := some (.int 6)) (T1 := (hC A E N V W ++ g, c)) rfl rfl ⟨⟨by omega, by omega⟩, (by decide : (1 : Nat) ≤ 8), (by decide +kernel : (1 : Nat) ≤ z_pg.2.1 36)⟩ hRm (s36_16 hRm (by omega) (by omega)) ⟨⟨trivial, trivial⟩, ⟨trivial, (z_sm0C 0 (by decide) rfl rfl), (Or.inl (by decide)), trivial, trivial⟩⟩ ?_
  refine z_Ln.blk (pc' := (if decide (6 ≤ 2) = true then 34 else 10)) (lv' := [(3, .int 2), (0, .ref 110), (1, .ref 72), (2, .int x)]) (st' := []) (H' := hC A E N V W ++ g) (C := []) 5 1 rfl trivial (z_Ln.brF (decide_eq_false (by decide)) ?_)
  refine z_Ln.blk (pc' := 20) (lv' := [(3, .int 2), (0, .ref 110), (1, .ref 72), (2, .int x)]) (st' := [.int 2, .ref 72, .int (z_fn 0 (A 4) (x + 2).toNatClampNeg)]) (H' := hC A E N V W ++ g) (C := [z_in (x + 2) 1500 = true]) 6 8 rfl h2 ?_
  refine z_Ln.call (s := 0) (mj := 39) (as := [.ref 72, .int 2]) (rr := [.int (z_fn 0 (A 4) (x + 2).toNatClampNeg)]) (v := some (.int 102)) (T1 := (hC A E N V W ++ g, c)) rfl rfl ⟨⟨by omega, by omega⟩, (by decide : (1 : Nat) ≤ 8), (by decide +kernel : (2 : Nat) ≤ z_pg.2.1 39)⟩ hRm (s39_16_2 hRm (by omega) (by omega)) ⟨⟨trivial, trivial⟩, ⟨trivial, (z_sm0C 0 (by decide) rfl rfl), (Or.inl (by decide)), trivial, trivial⟩⟩ ?_
  by_cases hb : (z_fn 0 (A 4) (x + 2).toNatClampNeg) = 102
  · refine z_Ln.blk (pc' := (if decide ((z_fn 0 (A 4) (x + 2).toNatClampNeg) = 102) = true then 28 else 26)) (lv' := [(3, .int 2), (0, .ref 110), (1, .ref 72), (2, .int x)]) (st' := []) (H' := hC A E N V W ++ g) (C := []) 15 1 rfl trivial (z_Ln.brT (decide_eq_true hb) ?_)
    refine z_Ln.blk (pc' := 2) (lv' := [(3, .int 3), (0, .ref 110), (1, .ref 72), (2, .int x)]) (st' := []) (H' := hC A E N V W ++ g) (C := []) 18 2 rfl trivial ?_
    have e : decide ((z_fn 0 (A 4) (x + 2).toNatClampNeg) = 102) = true := decide_eq_true hb
    rw [e]
    simp only [Bool.true_and]
    exact s38_16_3 (x := x) hRm hf hw h3 h4 h5
  · refine z_Ln.blk (pc' := (if decide ((z_fn 0 (A 4) (x + 2).toNatClampNeg) = 102) = true then 28 else 26)) (lv' := [(3, .int 2), (0, .ref 110), (1, .ref 72), (2, .int x)]) (st' := []) (H' := hC A E N V W ++ g) (C := []) 15 1 rfl trivial (z_Ln.brF (decide_eq_false hb) ?_)
    have e : decide ((z_fn 0 (A 4) (x + 2).toNatClampNeg) = 102) = false := decide_eq_false hb
    rw [e]
    simp only [Bool.false_and]
    refine z_Ln.blk (pc' := 27) (lv' := [(3, .int 2), (0, .ref 110), (1, .ref 72), (2, .int x)]) (st' := [.int 0]) (H' := hC A E N V W ++ g) (C := []) 16 1 rfl trivial ?_
    exact z_Ln.ret rfl (z_retB (Or.inl rfl))
set_option maxRecDepth 10000 in
theorem s38_16_1 {L : Nat} {xs : Nat → Int32} {fv : Value} {f w : Nat} {c : Nat × Nat} {A : Nat → List (Nat × Int32)} {E : List (Nat × Option Nat)} {N : Nat → Nat} {V : Nat → Nat → Int32} {W : Nat} {g : List z_E} {x : Int32} (hRm : z_Rm (hC A E N V W ++ g, c)) (hf : 4 ≤ f) (hw : 400 ≤ w) (h1 : z_in (x + 1) 1500 = true) (h2 : z_in (x + 2) 1500 = true) (h3 : z_in (x + 3) 1500 = true) (h4 : z_in (x + 4) 1500 = true) (h5 : z_in (x + 5) 1500 = true) : z_Ln L xs fv f w 38 2 [(3, .int 1), (0, .ref 110), (1, .ref 72), (2, .int x)] [] (hC A E N V W ++ g, c) (.inl (some (.int (z_B1 (decide (z_fn 0 (A 4) (x + 1).toNatClampNeg = 102) && decide (z_fn 0 (A 4) (x + 2).toNatClampNeg = 102) && decide (z_fn 0 (A 4) (x + 3).toNatClampNeg = 101) && decide (z_fn 0 (A 4) (x + 4).toNatClampNeg = 99) && decide (z_fn 0 (A 4) (x + 5).toNatClampNeg = 116)))))) (hC A E N V W ++ g, c) := by
  have m36 : z_pg.2.1 36 = 1 := rfl
  have m39 : z_pg.2.1 39 = 2 := rfl
  refine z_Ln.blk (pc' := 4) (lv' := [(3, .int 1), (0, .ref 110), (1, .ref 72), (2, .int x)]) (st' := [.ref 72, .int 1]) (H' := hC A E N V W ++ g) (C := []) 2 2 rfl trivial ?_
  refine z_Ln.call (s := 0) (mj := 36) (as := [.ref 72]) (rr := [.int 1]) (v := some (.int 6)) (T1 := (hC A E N V W ++ g, c)) rfl rfl ⟨⟨by omega, by omega⟩, (by decide : (1 : Nat) ≤ 8), (by decide +kernel : (1 : Nat) ≤ z_pg.2.1 36)⟩ hRm (s36_16 hRm (by omega) (by omega)) ⟨⟨trivial, trivial⟩, ⟨trivial, (z_sm0C 0 (by decide) rfl rfl), (Or.inl (by decide)), trivial, trivial⟩⟩ ?_
  refine z_Ln.blk (pc' := (if decide (6 ≤ 1) = true then 34 else 10)) (lv' := [(3, .int 1), (0, .ref 110), (1, .ref 72), (2, .int x)]) (st' := []) (H' := hC A E N V W ++ g) (C := []) 5 1 rfl trivial (z_Ln.brF (decide_eq_false (by decide)) ?_)
  refine z_Ln.blk (pc' := 20) (lv' := [(3, .int 1), (0, .ref 110), (1, .ref 72), (2, .int x)]) (st' := [.int 1, .ref 72, .int (z_fn 0 (A 4) (x + 1).toNatClampNeg)]) (H' := hC A E N V W ++ g) (C := [z_in (x + 1) 1500 = true]) 6 8 rfl h1 ?_
  refine z_Ln.call (s := 0) (mj := 39) (as := [.ref 72, .int 1]) (rr := [.int (z_fn 0 (A 4) (x + 1).toNatClampNeg)]) (v := some (.int 102)) (T1 := (hC A E N V W ++ g, c)) rfl rfl ⟨⟨by omega, by omega⟩, (by decide : (1 : Nat) ≤ 8), (by decide +kernel : (2 : Nat) ≤ z_pg.2.1 39)⟩ hRm (s39_16_1 hRm (by omega) (by omega)) ⟨⟨trivial, trivial⟩, ⟨trivial, (z_sm0C 0 (by decide) rfl rfl), (Or.inl (by decide)), trivial, trivial⟩⟩ ?_
  by_cases hb : (z_fn 0 (A 4) (x + 1).toNatClampNeg) = 102
  · refine z_Ln.blk (pc' := (if decide ((z_fn 0 (A 4) (x + 1).toNatClampNeg) = 102) = true then 28 else 26)) (lv' := [(3, .int 1), (0, .ref 110), (1, .ref 72), (2, .int x)]) (st' := []) (H' := hC A E N V W ++ g) (C := []) 15 1 rfl trivial (z_Ln.brT (decide_eq_true hb) ?_)
    refine z_Ln.blk (pc' := 2) (lv' := [(3, .int 2), (0, .ref 110), (1, .ref 72), (2, .int x)]) (st' := []) (H' := hC A E N V W ++ g) (C := []) 18 2 rfl trivial ?_
    have e : decide ((z_fn 0 (A 4) (x + 1).toNatClampNeg) = 102) = true := decide_eq_true hb
    rw [e]
    simp only [Bool.true_and]
    exact s38_16_2 (x := x) hRm hf hw h2 h3 h4 h5
  · refine z_Ln.blk (pc' := (if decide ((z_fn 0 (A 4) (x + 1).toNatClampNeg) = 102) = true then 28 else 26)) (lv' := [(3, .int 1), (0, .ref 110), (1, .ref 72), (2, .int x)]) (st' := []) (H' := hC A E N V W ++ g) (C := []) 15 1 rfl trivial (z_Ln.brF (decide_eq_false hb) ?_)
    have e : decide ((z_fn 0 (A 4) (x + 1).toNatClampNeg) = 102) = false := decide_eq_false hb
    rw [e]
    simp only [Bool.false_and]
    refine z_Ln.blk (pc' := 27) (lv' := [(3, .int 1), (0, .ref 110), (1, .ref 72), (2, .int x)]) (st' := [.int 0]) (H' := hC A E N V W ++ g) (C := []) 16 1 rfl trivial ?_
    exact z_Ln.ret rfl (z_retB (Or.inl rfl))
set_option maxRecDepth 10000 in
theorem s38_16_0 {L : Nat} {xs : Nat → Int32} {fv : Value} {f w : Nat} {c : Nat × Nat} {A : Nat → List (Nat × Int32)} {E : List (Nat × Option Nat)} {N : Nat → Nat} {V : Nat → Nat → Int32} {W : Nat} {g : List z_E} {x : Int32} (hRm : z_Rm (hC A E N V W ++ g, c)) (hf : 4 ≤ f) (hw : 400 ≤ w) (h0 : z_in (x + 0) 1500 = true) (h1 : z_in (x + 1) 1500 = true) (h2 : z_in (x + 2) 1500 = true) (h3 : z_in (x + 3) 1500 = true) (h4 : z_in (x + 4) 1500 = true) (h5 : z_in (x + 5) 1500 = true) : z_Ln L xs fv f w 38 2 [(3, .int 0), (0, .ref 110), (1, .ref 72), (2, .int x)] [] (hC A E N V W ++ g, c) (.inl (some (.int (z_B1 (decide (z_fn 0 (A 4) (x + 0).toNatClampNeg = 101) && decide (z_fn 0 (A 4) (x + 1).toNatClampNeg = 102) && decide (z_fn 0 (A 4) (x + 2).toNatClampNeg = 102) && decide (z_fn 0 (A 4) (x + 3).toNatClampNeg = 101) && decide (z_fn 0 (A 4) (x + 4).toNatClampNeg = 99) && decide (z_fn 0 (A 4) (x + 5).toNatClampNeg = 116)))))) (hC A E N V W ++ g, c) := by
  have m36 : z_pg.2.1 36 = 1 := rfl
  have m39 : z_pg.2.1 39 = 2 := rfl
  refine z_Ln.blk (pc' := 4) (lv' := [(3, .int 0), (0, .ref 110), (1, .ref 72), (2, .int x)]) (st' := [.ref 72, .int 0]) (H' := hC A E N V W ++ g) (C := []) 2 2 rfl trivial ?_
  refine z_Ln.call (s := 0) (mj := 36) (as := [.ref 72]) (rr := [.int 0]) (v := some (.int 6)) (T1 := (hC A E N V W ++ g, c)) rfl rfl ⟨⟨by omega, by omega⟩, (by decide : (1 : Nat) ≤ 8), (by decide +kernel : (1 : Nat) ≤ z_pg.2.1 36)⟩ hRm (s36_16 hRm (by omega) (by omega)) ⟨⟨trivial, trivial⟩, ⟨trivial, (z_sm0C 0 (by decide) rfl rfl), (Or.inl (by decide)), trivial, trivial⟩⟩ ?_
  refine z_Ln.blk (pc' := (if decide (6 ≤ 0) = true then 34 else 10)) (lv' := [(3, .int 0), (0, .ref 110), (1, .ref 72), (2, .int x)]) (st' := []) (H' := hC A E N V W ++ g) (C := []) 5 1 rfl trivial (z_Ln.brF (decide_eq_false (by decide)) ?_)
  refine z_Ln.blk (pc' := 20) (lv' := [(3, .int 0), (0, .ref 110), (1, .ref 72), (2, .int x)]) (st' := [.int 0, .ref 72, .int (z_fn 0 (A 4) (x + 0).toNatClampNeg)]) (H' := hC A E N V W ++ g) (C := [z_in (x + 0) 1500 = true]) 6 8 rfl h0 ?_
  refine z_Ln.call (s := 0) (mj := 39) (as := [.ref 72, .int 0]) (rr := [.int (z_fn 0 (A 4) (x + 0).toNatClampNeg)]) (v := some (.int 101)) (T1 := (hC A E N V W ++ g, c)) rfl rfl ⟨⟨by omega, by omega⟩, (by decide : (1 : Nat) ≤ 8), (by decide +kernel : (2 : Nat) ≤ z_pg.2.1 39)⟩ hRm (s39_16_0 hRm (by omega) (by omega)) ⟨⟨trivial, trivial⟩, ⟨trivial, (z_sm0C 0 (by decide) rfl rfl), (Or.inl (by decide)), trivial, trivial⟩⟩ ?_
  by_cases hb : (z_fn 0 (A 4) (x + 0).toNatClampNeg) = 101
  · refine z_Ln.blk (pc' := (if decide ((z_fn 0 (A 4) (x + 0).toNatClampNeg) = 101) = true then 28 else 26)) (lv' := [(3, .int 0), (0, .ref 110), (1, .ref 72), (2, .int x)]) (st' := []) (H' := hC A E N V W ++ g) (C := []) 15 1 rfl trivial (z_Ln.brT (decide_eq_true hb) ?_)
    refine z_Ln.blk (pc' := 2) (lv' := [(3, .int 1), (0, .ref 110), (1, .ref 72), (2, .int x)]) (st' := []) (H' := hC A E N V W ++ g) (C := []) 18 2 rfl trivial ?_
    have e : decide ((z_fn 0 (A 4) (x + 0).toNatClampNeg) = 101) = true := decide_eq_true hb
    rw [e]
    simp only [Bool.true_and]
    exact s38_16_1 (x := x) hRm hf hw h1 h2 h3 h4 h5
  · refine z_Ln.blk (pc' := (if decide ((z_fn 0 (A 4) (x + 0).toNatClampNeg) = 101) = true then 28 else 26)) (lv' := [(3, .int 0), (0, .ref 110), (1, .ref 72), (2, .int x)]) (st' := []) (H' := hC A E N V W ++ g) (C := []) 15 1 rfl trivial (z_Ln.brF (decide_eq_false hb) ?_)
    have e : decide ((z_fn 0 (A 4) (x + 0).toNatClampNeg) = 101) = false := decide_eq_false hb
    rw [e]
    simp only [Bool.false_and]
    refine z_Ln.blk (pc' := 27) (lv' := [(3, .int 0), (0, .ref 110), (1, .ref 72), (2, .int x)]) (st' := [.int 0]) (H' := hC A E N V W ++ g) (C := []) 16 1 rfl trivial ?_
    exact z_Ln.ret rfl (z_retB (Or.inl rfl))
set_option maxRecDepth 10000 in
theorem s38_17_3 {L : Nat} {xs : Nat → Int32} {fv : Value} {f w : Nat} {c : Nat × Nat} {A : Nat → List (Nat × Int32)} {E : List (Nat × Option Nat)} {N : Nat → Nat} {V : Nat → Nat → Int32} {W : Nat} {g : List z_E} {x : Int32} (hRm : z_Rm (hC A E N V W ++ g, c)) (hf : 4 ≤ f) (hw : 400 ≤ w)  : z_Ln L xs fv f w 38 2 [(3, .int 3), (0, .ref 110), (1, .ref 74), (2, .int x)] [] (hC A E N V W ++ g, c) (.inl (some (.int (z_B1 true)))) (hC A E N V W ++ g, c) := by
  have m36 : z_pg.2.1 36 = 1 := rfl
  refine z_Ln.blk (pc' := 4) (lv' := [(3, .int 3), (0, .ref 110), (1, .ref 74), (2, .int x)]) (st' := [.ref 74, .int 3]) (H' := hC A E N V W ++ g) (C := []) 2 2 rfl trivial ?_
  refine z_Ln.call (s := 0) (mj := 36) (as := [.ref 74]) (rr := [.int 3]) (v := some (.int 3)) (T1 := (hC A E N V W ++ g, c)) rfl rfl ⟨⟨by omega, by have : z_pg.2.1 36 = 1 := rfl; omega⟩, (by decide : (1 : Nat) ≤ 8), (by decide +kernel : (1 : Nat) ≤ z_pg.2.1 36)⟩ hRm (s36_17 hRm (by omega) (by omega)) ⟨⟨trivial, trivial⟩, ⟨trivial, (z_sm0C 0 (by decide) rfl rfl), (Or.inl (by decide)), trivial, trivial⟩⟩ ?_
  refine z_Ln.blk (pc' := (if decide (3 ≤ 3) = true then 34 else 10)) (lv' := [(3, .int 3), (0, .ref 110), (1, .ref 74), (2, .int x)]) (st' := []) (H' := hC A E N V W ++ g) (C := []) 5 1 rfl trivial (z_Ln.brT (decide_eq_true (by decide)) ?_)
  refine z_Ln.blk (pc' := 35) (lv' := [(3, .int 3), (0, .ref 110), (1, .ref 74), (2, .int x)]) (st' := [.int 1]) (H' := hC A E N V W ++ g) (C := []) 20 1 rfl trivial ?_
  exact z_Ln.ret rfl (z_retB (Or.inr rfl))
set_option maxRecDepth 10000 in
theorem s38_17_2 {L : Nat} {xs : Nat → Int32} {fv : Value} {f w : Nat} {c : Nat × Nat} {A : Nat → List (Nat × Int32)} {E : List (Nat × Option Nat)} {N : Nat → Nat} {V : Nat → Nat → Int32} {W : Nat} {g : List z_E} {x : Int32} (hRm : z_Rm (hC A E N V W ++ g, c)) (hf : 4 ≤ f) (hw : 400 ≤ w) (h2 : z_in (x + 2) 1500 = true) : z_Ln L xs fv f w 38 2 [(3, .int 2), (0, .ref 110), (1, .ref 74), (2, .int x)] [] (hC A E N V W ++ g, c) (.inl (some (.int (z_B1 (decide (z_fn 0 (A 4) (x + 2).toNatClampNeg = 116)))))) (hC A E N V W ++ g, c) := by
  have m36 : z_pg.2.1 36 = 1 := rfl
  have m39 : z_pg.2.1 39 = 2 := rfl
  refine z_Ln.blk (pc' := 4) (lv' := [(3, .int 2), (0, .ref 110), (1, .ref 74), (2, .int x)]) (st' := [.ref 74, .int 2]) (H' := hC A E N V W ++ g) (C := []) 2 2 rfl trivial ?_
  refine z_Ln.call (s := 0) (mj := 36) (as := [.ref 74]) (rr := [.int 2]) (v := some (.int 3)) (T1 := (hC A E N V W ++ g, c)) rfl rfl ⟨⟨by omega, by omega⟩, (by decide : (1 : Nat) ≤ 8), (by decide +kernel : (1 : Nat) ≤ z_pg.2.1 36)⟩ hRm (s36_17 hRm (by omega) (by omega)) ⟨⟨trivial, trivial⟩, ⟨trivial, (z_sm0C 0 (by decide) rfl rfl), (Or.inl (by decide)), trivial, trivial⟩⟩ ?_
  refine z_Ln.blk (pc' := (if decide (3 ≤ 2) = true then 34 else 10)) (lv' := [(3, .int 2), (0, .ref 110), (1, .ref 74), (2, .int x)]) (st' := []) (H' := hC A E N V W ++ g) (C := []) 5 1 rfl trivial (z_Ln.brF (decide_eq_false (by decide)) ?_)
  refine z_Ln.blk (pc' := 20) (lv' := [(3, .int 2), (0, .ref 110), (1, .ref 74), (2, .int x)]) (st' := [.int 2, .ref 74, .int (z_fn 0 (A 4) (x + 2).toNatClampNeg)]) (H' := hC A E N V W ++ g) (C := [z_in (x + 2) 1500 = true]) 6 8 rfl h2 ?_
  refine z_Ln.call (s := 0) (mj := 39) (as := [.ref 74, .int 2]) (rr := [.int (z_fn 0 (A 4) (x + 2).toNatClampNeg)]) (v := some (.int 116)) (T1 := (hC A E N V W ++ g, c)) rfl rfl ⟨⟨by omega, by omega⟩, (by decide : (1 : Nat) ≤ 8), (by decide +kernel : (2 : Nat) ≤ z_pg.2.1 39)⟩ hRm (s39_17_2 hRm (by omega) (by omega)) ⟨⟨trivial, trivial⟩, ⟨trivial, (z_sm0C 0 (by decide) rfl rfl), (Or.inl (by decide)), trivial, trivial⟩⟩ ?_
  by_cases hb : (z_fn 0 (A 4) (x + 2).toNatClampNeg) = 116
  · refine z_Ln.blk (pc' := (if decide ((z_fn 0 (A 4) (x + 2).toNatClampNeg) = 116) = true then 28 else 26)) (lv' := [(3, .int 2), (0, .ref 110), (1, .ref 74), (2, .int x)]) (st' := []) (H' := hC A E N V W ++ g) (C := []) 15 1 rfl trivial (z_Ln.brT (decide_eq_true hb) ?_)
    refine z_Ln.blk (pc' := 2) (lv' := [(3, .int 3), (0, .ref 110), (1, .ref 74), (2, .int x)]) (st' := []) (H' := hC A E N V W ++ g) (C := []) 18 2 rfl trivial ?_
    have e : decide ((z_fn 0 (A 4) (x + 2).toNatClampNeg) = 116) = true := decide_eq_true hb
    rw [e]
    exact s38_17_3 (x := x) hRm hf hw 
  · refine z_Ln.blk (pc' := (if decide ((z_fn 0 (A 4) (x + 2).toNatClampNeg) = 116) = true then 28 else 26)) (lv' := [(3, .int 2), (0, .ref 110), (1, .ref 74), (2, .int x)]) (st' := []) (H' := hC A E N V W ++ g) (C := []) 15 1 rfl trivial (z_Ln.brF (decide_eq_false hb) ?_)
    have e : decide ((z_fn 0 (A 4) (x + 2).toNatClampNeg) = 116) = false := decide_eq_false hb
    rw [e]
    refine z_Ln.blk (pc' := 27) (lv' := [(3, .int 2), (0, .ref 110), (1, .ref 74), (2, .int x)]) (st' := [.int 0]) (H' := hC A E N V W ++ g) (C := []) 16 1 rfl trivial ?_
    exact z_Ln.ret rfl (z_retB (Or.inl rfl))
set_option maxRecDepth 10000 in
theorem s38_17_1 {L : Nat} {xs : Nat → Int32} {fv : Value} {f w : Nat} {c : Nat × Nat} {A : Nat → List (Nat × Int32)} {E : List (Nat × Option Nat)} {N : Nat → Nat} {V : Nat → Nat → Int32} {W : Nat} {g : List z_E} {x : Int32} (hRm : z_Rm (hC A E N V W ++ g, c)) (hf : 4 ≤ f) (hw : 400 ≤ w) (h1 : z_in (x + 1) 1500 = true) (h2 : z_in (x + 2) 1500 = true) : z_Ln L xs fv f w 38 2 [(3, .int 1), (0, .ref 110), (1, .ref 74), (2, .int x)] [] (hC A E N V W ++ g, c) (.inl (some (.int (z_B1 (decide (z_fn 0 (A 4) (x + 1).toNatClampNeg = 101) && decide (z_fn 0 (A 4) (x + 2).toNatClampNeg = 116)))))) (hC A E N V W ++ g, c) := by
  have m36 : z_pg.2.1 36 = 1 := rfl
  have m39 : z_pg.2.1 39 = 2 := rfl
  refine z_Ln.blk (pc' := 4) (lv' := [(3, .int 1), (0, .ref 110), (1, .ref 74), (2, .int x)]) (st' := [.ref 74, .int 1]) (H' := hC A E N V W ++ g) (C := []) 2 2 rfl trivial ?_
  refine z_Ln.call (s := 0) (mj := 36) (as := [.ref 74]) (rr := [.int 1]) (v := some (.int 3)) (T1 := (hC A E N V W ++ g, c)) rfl rfl ⟨⟨by omega, by omega⟩, (by decide : (1 : Nat) ≤ 8), (by decide +kernel : (1 : Nat) ≤ z_pg.2.1 36)⟩ hRm (s36_17 hRm (by omega) (by omega)) ⟨⟨trivial, trivial⟩, ⟨trivial, (z_sm0C 0 (by decide) rfl rfl), (Or.inl (by decide)), trivial, trivial⟩⟩ ?_
  refine z_Ln.blk (pc' := (if decide (3 ≤ 1) = true then 34 else 10)) (lv' := [(3, .int 1), (0, .ref 110), (1, .ref 74), (2, .int x)]) (st' := []) (H' := hC A E N V W ++ g) (C := []) 5 1 rfl trivial (z_Ln.brF (decide_eq_false (by decide)) ?_)
  refine z_Ln.blk (pc' := 20) (lv' := [(3, .int 1), (0, .ref 110), (1, .ref 74), (2, .int x)]) (st' := [.int 1, .ref 74, .int (z_fn 0 (A 4) (x + 1).toNatClampNeg)]) (H' := hC A E N V W ++ g) (C := [z_in (x + 1) 1500 = true]) 6 8 rfl h1 ?_
  refine z_Ln.call (s := 0) (mj := 39) (as := [.ref 74, .int 1]) (rr := [.int (z_fn 0 (A 4) (x + 1).toNatClampNeg)]) (v := some (.int 101)) (T1 := (hC A E N V W ++ g, c)) rfl rfl ⟨⟨by omega, by omega⟩, (by decide : (1 : Nat) ≤ 8), (by decide +kernel : (2 : Nat) ≤ z_pg.2.1 39)⟩ hRm (s39_17_1 hRm (by omega) (by omega)) ⟨⟨trivial, trivial⟩, ⟨trivial, (z_sm0C 0 (by decide) rfl rfl), (Or.inl (by decide)), trivial, trivial⟩⟩ ?_
  by_cases hb : (z_fn 0 (A 4) (x + 1).toNatClampNeg) = 101
  · refine z_Ln.blk (pc' := (if decide ((z_fn 0 (A 4) (x + 1).toNatClampNeg) = 101) = true then 28 else 26)) (lv' := [(3, .int 1), (0, .ref 110), (1, .ref 74), (2, .int x)]) (st' := []) (H' := hC A E N V W ++ g) (C := []) 15 1 rfl trivial (z_Ln.brT (decide_eq_true hb) ?_)
    refine z_Ln.blk (pc' := 2) (lv' := [(3, .int 2), (0, .ref 110), (1, .ref 74), (2, .int x)]) (st' := []) (H' := hC A E N V W ++ g) (C := []) 18 2 rfl trivial ?_
    have e : decide ((z_fn 0 (A 4) (x + 1).toNatClampNeg) = 101) = true := decide_eq_true hb
    rw [e]
    simp only [Bool.true_and]
    exact s38_17_2 (x := x) hRm hf hw h2
  · refine z_Ln.blk (pc' := (if decide ((z_fn 0 (A 4) (x + 1).toNatClampNeg) = 101) = true then 28 else 26)) (lv' := [(3, .int 1), (0, .ref 110), (1, .ref 74), (2, .int x)]) (st' := []) (H' := hC A E N V W ++ g) (C := []) 15 1 rfl trivial (z_Ln.brF (decide_eq_false hb) ?_)
    have e : decide ((z_fn 0 (A 4) (x + 1).toNatClampNeg) = 101) = false := decide_eq_false hb
    rw [e]
    simp only [Bool.false_and]
    refine z_Ln.blk (pc' := 27) (lv' := [(3, .int 1), (0, .ref 110), (1, .ref 74), (2, .int x)]) (st' := [.int 0]) (H' := hC A E N V W ++ g) (C := []) 16 1 rfl trivial ?_
    exact z_Ln.ret rfl (z_retB (Or.inl rfl))
set_option maxRecDepth 10000 in
theorem s38_17_0 {L : Nat} {xs : Nat → Int32} {fv : Value} {f w : Nat} {c : Nat × Nat} {A : Nat → List (Nat × Int32)} {E : List (Nat × Option Nat)} {N : Nat → Nat} {V : Nat → Nat → Int32} {W : Nat} {g : List z_E} {x : Int32} (hRm : z_Rm (hC A E N V W ++ g, c)) (hf : 4 ≤ f) (hw : 400 ≤ w) (h0 : z_in (x + 0) 1500 = true) (h1 : z_in (x + 1) 1500 = true) (h2 : z_in (x + 2) 1500 = true) : z_Ln L xs fv f w 38 2 [(3, .int 0), (0, .ref 110), (1, .ref 74), (2, .int x)] [] (hC A E N V W ++ g, c) (.inl (some (.int (z_B1 (decide (z_fn 0 (A 4) (x + 0).toNatClampNeg = 108) && decide (z_fn 0 (A 4) (x + 1).toNatClampNeg = 101) && decide (z_fn 0 (A 4) (x + 2).toNatClampNeg = 116)))))) (hC A E N V W ++ g, c) := by
  have m36 : z_pg.2.1 36 = 1 := rfl
  have m39 : z_pg.2.1 39 = 2 := rfl
  refine z_Ln.blk (pc' := 4) (lv' := [(3, .int 0), (0, .ref 110), (1, .ref 74), (2, .int x)]) (st' := [.ref 74, .int 0]) (H' := hC A E N V W ++ g) (C := []) 2 2 rfl trivial ?_
  refine z_Ln.call (s := 0) (mj := 36) (as := [.ref 74]) (rr := [.int 0]) (v := some (.int 3)) (T1 := (hC A E N V W ++ g, c)) rfl rfl ⟨⟨by omega, by omega⟩, (by decide : (1 : Nat) ≤ 8), (by decide +kernel : (1 : Nat) ≤ z_pg.2.1 36)⟩ hRm (s36_17 hRm (by omega) (by omega)) ⟨⟨trivial, trivial⟩, ⟨trivial, (z_sm0C 0 (by decide) rfl rfl), (Or.inl (by decide)), trivial, trivial⟩⟩ ?_
  refine z_Ln.blk (pc' := (if decide (3 ≤ 0) = true then 34 else 10)) (lv' := [(3, .int 0), (0, .ref 110), (1, .ref 74), (2, .int x)]) (st' := []) (H' := hC A E N V W ++ g) (C := []) 5 1 rfl trivial (z_Ln.brF (decide_eq_false (by decide)) ?_)
  refine z_Ln.blk (pc' := 20) (lv' := [(3, .int 0), (0, .ref 110), (1, .ref 74), (2, .int x)]) (st' := [.int 0, .ref 74, .int (z_fn 0 (A 4) (x + 0).toNatClampNeg)]) (H' := hC A E N V W ++ g) (C := [z_in (x + 0) 1500 = true]) 6 8 rfl h0 ?_
  refine z_Ln.call (s := 0) (mj := 39) (as := [.ref 74, .int 0]) (rr := [.int (z_fn 0 (A 4) (x + 0).toNatClampNeg)]) (v := some (.int 108)) (T1 := (hC A E N V W ++ g, c)) rfl rfl ⟨⟨by omega, by omega⟩, (by decide : (1 : Nat) ≤ 8), (by decide +kernel : (2 : Nat) ≤ z_pg.2.1 39)⟩ hRm (s39_17_0 hRm (by omega) (by omega)) ⟨⟨trivial, trivial⟩, ⟨trivial, (z_sm0C 0 (by decide) rfl rfl), (Or.inl (by decide)), trivial, trivial⟩⟩ ?_
  by_cases hb : (z_fn 0 (A 4) (x + 0).toNatClampNeg) = 108
  · refine z_Ln.blk (pc' := (if decide ((z_fn 0 (A 4) (x + 0).toNatClampNeg) = 108) = true then 28 else 26)) (lv' := [(3, .int 0), (0, .ref 110), (1, .ref 74), (2, .int x)]) (st' := []) (H' := hC A E N V W ++ g) (C := []) 15 1 rfl trivial (z_Ln.brT (decide_eq_true hb) ?_)
    refine z_Ln.blk (pc' := 2) (lv' := [(3, .int 1), (0, .ref 110), (1, .ref 74), (2, .int x)]) (st' := []) (H' := hC A E N V W ++ g) (C := []) 18 2 rfl trivial ?_
    have e : decide ((z_fn 0 (A 4) (x + 0).toNatClampNeg) = 108) = true := decide_eq_true hb
    rw [e]
    simp only [Bool.true_and]
    exact s38_17_1 (x := x) hRm hf hw h1 h2
  · refine z_Ln.blk (pc' := (if decide ((z_fn 0 (A 4) (x + 0).toNatClampNeg) = 108) = true then 28 else 26)) (lv' := [(3, .int 0), (0, .ref 110), (1, .ref 74), (2, .int x)]) (st' := []) (H' := hC A E N V W ++ g) (C := []) 15 1 rfl trivial (z_Ln.brF (decide_eq_false hb) ?_)
    have e : decide ((z_fn 0 (A 4) (x + 0).toNatClampNeg) = 108) = false := decide_eq_false hb
    rw [e]
    simp only [Bool.false_and]
    refine z_Ln.blk (pc' := 27) (lv' := [(3, .int 0), (0, .ref 110), (1, .ref 74), (2, .int x)]) (st' := [.int 0]) (H' := hC A E N V W ++ g) (C := []) 16 1 rfl trivial ?_
    exact z_Ln.ret rfl (z_retB (Or.inl rfl))
set_option maxRecDepth 10000 in
theorem s38_18_3 {L : Nat} {xs : Nat → Int32} {fv : Value} {f w : Nat} {c : Nat × Nat} {A : Nat → List (Nat × Int32)} {E : List (Nat × Option Nat)} {N : Nat → Nat} {V : Nat → Nat → Int32} {W : Nat} {g : List z_E} {x : Int32} (hRm : z_Rm (hC A E N V W ++ g, c)) (hf : 4 ≤ f) (hw : 400 ≤ w)  : z_Ln L xs fv f w 38 2 [(3, .int 3), (0, .ref 110), (1, .ref 76), (2, .int x)] [] (hC A E N V W ++ g, c) (.inl (some (.int (z_B1 true)))) (hC A E N V W ++ g, c) := by
  have m36 : z_pg.2.1 36 = 1 := rfl
  refine z_Ln.blk (pc' := 4) (lv' := [(3, .int 3), (0, .ref 110), (1, .ref 76), (2, .int x)]) (st' := [.ref 76, .int 3]) (H' := hC A E N V W ++ g) (C := []) 2 2 rfl trivial ?_
  refine z_Ln.call (s := 0) (mj := 36) (as := [.ref 76]) (rr := [.int 3]) (v := some (.int 3)) (T1 := (hC A E N V W ++ g, c)) rfl rfl ⟨⟨by omega, by have : z_pg.2.1 36 = 1 := rfl; omega⟩, (by decide : (1 : Nat) ≤ 8), (by decide +kernel : (1 : Nat) ≤ z_pg.2.1 36)⟩ hRm (s36_18 hRm (by omega) (by omega)) ⟨⟨trivial, trivial⟩, ⟨trivial, (z_sm0C 0 (by decide) rfl rfl), (Or.inl (by decide)), trivial, trivial⟩⟩ ?_
  refine z_Ln.blk (pc' := (if decide (3 ≤ 3) = true then 34 else 10)) (lv' := [(3, .int 3), (0, .ref 110), (1, .ref 76), (2, .int x)]) (st' := []) (H' := hC A E N V W ++ g) (C := []) 5 1 rfl trivial (z_Ln.brT (decide_eq_true (by decide)) ?_)
  refine z_Ln.blk (pc' := 35) (lv' := [(3, .int 3), (0, .ref 110), (1, .ref 76), (2, .int x)]) (st' := [.int 1]) (H' := hC A E N V W ++ g) (C := []) 20 1 rfl trivial ?_
  exact z_Ln.ret rfl (z_retB (Or.inr rfl))
set_option maxRecDepth 10000 in
theorem s38_18_2 {L : Nat} {xs : Nat → Int32} {fv : Value} {f w : Nat} {c : Nat × Nat} {A : Nat → List (Nat × Int32)} {E : List (Nat × Option Nat)} {N : Nat → Nat} {V : Nat → Nat → Int32} {W : Nat} {g : List z_E} {x : Int32} (hRm : z_Rm (hC A E N V W ++ g, c)) (hf : 4 ≤ f) (hw : 400 ≤ w) (h2 : z_in (x + 2) 1500 = true) : z_Ln L xs fv f w 38 2 [(3, .int 2), (0, .ref 110), (1, .ref 76), (2, .int x)] [] (hC A E N V W ++ g, c) (.inl (some (.int (z_B1 (decide (z_fn 0 (A 4) (x + 2).toNatClampNeg = 99)))))) (hC A E N V W ++ g, c) := by
  have m36 : z_pg.2.1 36 = 1 := rfl
  have m39 : z_pg.2.1 39 = 2 := rfl
  refine z_Ln.blk (pc' := 4) (lv' := [(3, .int 2), (0, .ref 110), (1, .ref 76), (2, .int x)]) (st' := [.ref 76, .int 2]) (H' := hC A E N V W ++ g) (C := []) 2 2 rfl trivial ?_
  refine z_Ln.call (s := 0) (mj := 36) (as := [.ref 76]) (rr := [.int 2]) (v := some (.int 3)) (T1 := (hC A E N V W ++ g, c)) rfl rfl ⟨⟨by omega, by omega⟩, (by decide : (1 : Nat) ≤ 8), (by decide +kernel : (1 : Nat) ≤ z_pg.2.1 36)⟩ hRm (s36_18 hRm (by omega) (by omega)) ⟨⟨trivial, trivial⟩, ⟨trivial, (z_sm0C 0 (by decide) rfl rfl), (Or.inl (by decide)), trivial, trivial⟩⟩ ?_
  refine z_Ln.blk (pc' := (if decide (3 ≤ 2) = true then 34 else 10)) (lv' := [(3, .int 2), (0, .ref 110), (1, .ref 76), (2, .int x)]) (st' := []) (H' := hC A E N V W ++ g) (C := []) 5 1 rfl trivial (z_Ln.brF (decide_eq_false (by decide)) ?_)
  refine z_Ln.blk (pc' := 20) (lv' := [(3, .int 2), (0, .ref 110), (1, .ref 76), (2, .int x)]) (st' := [.int 2, .ref 76, .int (z_fn 0 (A 4) (x + 2).toNatClampNeg)]) (H' := hC A E N V W ++ g) (C := [z_in (x + 2) 1500 = true]) 6 8 rfl h2 ?_
  refine z_Ln.call (s := 0) (mj := 39) (as := [.ref 76, .int 2]) (rr := [.int (z_fn 0 (A 4) (x + 2).toNatClampNeg)]) (v := some (.int 99)) (T1 := (hC A E N V W ++ g, c)) rfl rfl ⟨⟨by omega, by omega⟩, (by decide : (1 : Nat) ≤ 8), (by decide +kernel : (2 : Nat) ≤ z_pg.2.1 39)⟩ hRm (s39_18_2 hRm (by omega) (by omega)) ⟨⟨trivial, trivial⟩, ⟨trivial, (z_sm0C 0 (by decide) rfl rfl), (Or.inl (by decide)), trivial, trivial⟩⟩ ?_
  by_cases hb : (z_fn 0 (A 4) (x + 2).toNatClampNeg) = 99
  · refine z_Ln.blk (pc' := (if decide ((z_fn 0 (A 4) (x + 2).toNatClampNeg) = 99) = true then 28 else 26)) (lv' := [(3, .int 2), (0, .ref 110), (1, .ref 76), (2, .int x)]) (st' := []) (H' := hC A E N V W ++ g) (C := []) 15 1 rfl trivial (z_Ln.brT (decide_eq_true hb) ?_)
    refine z_Ln.blk (pc' := 2) (lv' := [(3, .int 3), (0, .ref 110), (1, .ref 76), (2, .int x)]) (st' := []) (H' := hC A E N V W ++ g) (C := []) 18 2 rfl trivial ?_
    have e : decide ((z_fn 0 (A 4) (x + 2).toNatClampNeg) = 99) = true := decide_eq_true hb
    rw [e]
    exact s38_18_3 (x := x) hRm hf hw 
  · refine z_Ln.blk (pc' := (if decide ((z_fn 0 (A 4) (x + 2).toNatClampNeg) = 99) = true then 28 else 26)) (lv' := [(3, .int 2), (0, .ref 110), (1, .ref 76), (2, .int x)]) (st' := []) (H' := hC A E N V W ++ g) (C := []) 15 1 rfl trivial (z_Ln.brF (decide_eq_false hb) ?_)
    have e : decide ((z_fn 0 (A 4) (x + 2).toNatClampNeg) = 99) = false := decide_eq_false hb
    rw [e]
    refine z_Ln.blk (pc' := 27) (lv' := [(3, .int 2), (0, .ref 110), (1, .ref 76), (2, .int x)]) (st' := [.int 0]) (H' := hC A E N V W ++ g) (C := []) 16 1 rfl trivial ?_
    exact z_Ln.ret rfl (z_retB (Or.inl rfl))
set_option maxRecDepth 10000 in
theorem s38_18_1 {L : Nat} {xs : Nat → Int32} {fv : Value} {f w : Nat} {c : Nat × Nat} {A : Nat → List (Nat × Int32)} {E : List (Nat × Option Nat)} {N : Nat → Nat} {V : Nat → Nat → Int32} {W : Nat} {g : List z_E} {x : Int32} (hRm : z_Rm (hC A E N V W ++ g, c)) (hf : 4 ≤ f) (hw : 400 ≤ w) (h1 : z_in (x + 1) 1500 = true) (h2 : z_in (x + 2) 1500 = true) : z_Ln L xs fv f w 38 2 [(3, .int 1), (0, .ref 110), (1, .ref 76), (2, .int x)] [] (hC A E N V W ++ g, c) (.inl (some (.int (z_B1 (decide (z_fn 0 (A 4) (x + 1).toNatClampNeg = 101) && decide (z_fn 0 (A 4) (x + 2).toNatClampNeg = 99)))))) (hC A E N V W ++ g, c) := by
  have m36 : z_pg.2.1 36 = 1 := rfl
  have m39 : z_pg.2.1 39 = 2 := rfl
  refine z_Ln.blk (pc' := 4) (lv' := [(3, .int 1), (0, .ref 110), (1, .ref 76), (2, .int x)]) (st' := [.ref 76, .int 1]) (H' := hC A E N V W ++ g) (C := []) 2 2 rfl trivial ?_
  refine z_Ln.call (s := 0) (mj := 36) (as := [.ref 76]) (rr := [.int 1]) (v := some (.int 3)) (T1 := (hC A E N V W ++ g, c)) rfl rfl ⟨⟨by omega, by omega⟩, (by decide : (1 : Nat) ≤ 8), (by decide +kernel : (1 : Nat) ≤ z_pg.2.1 36)⟩ hRm (s36_18 hRm (by omega) (by omega)) ⟨⟨trivial, trivial⟩, ⟨trivial, (z_sm0C 0 (by decide) rfl rfl), (Or.inl (by decide)), trivial, trivial⟩⟩ ?_
  refine z_Ln.blk (pc' := (if decide (3 ≤ 1) = true then 34 else 10)) (lv' := [(3, .int 1), (0, .ref 110), (1, .ref 76), (2, .int x)]) (st' := []) (H' := hC A E N V W ++ g) (C := []) 5 1 rfl trivial (z_Ln.brF (decide_eq_false (by decide)) ?_)
  refine z_Ln.blk (pc' := 20) (lv' := [(3, .int 1), (0, .ref 110), (1, .ref 76), (2, .int x)]) (st' := [.int 1, .ref 76, .int (z_fn 0 (A 4) (x + 1).toNatClampNeg)]) (H' := hC A E N V W ++ g) (C := [z_in (x + 1) 1500 = true]) 6 8 rfl h1 ?_
  refine z_Ln.call (s := 0) (mj := 39) (as := [.ref 76, .int 1]) (rr := [.int (z_fn 0 (A 4) (x + 1).toNatClampNeg)]) (v := some (.int 101)) (T1 := (hC A E N V W ++ g, c)) rfl rfl ⟨⟨by omega, by omega⟩, (by decide : (1 : Nat) ≤ 8), (by decide +kernel : (2 : Nat) ≤ z_pg.2.1 39)⟩ hRm (s39_18_1 hRm (by omega) (by omega)) ⟨⟨trivial, trivial⟩, ⟨trivial, (z_sm0C 0 (by decide) rfl rfl), (Or.inl (by decide)), trivial, trivial⟩⟩ ?_
  by_cases hb : (z_fn 0 (A 4) (x + 1).toNatClampNeg) = 101
  · refine z_Ln.blk (pc' := (if decide ((z_fn 0 (A 4) (x + 1).toNatClampNeg) = 101) = true then 28 else 26)) (lv' := [(3, .int 1), (0, .ref 110), (1, .ref 76), (2, .int x)]) (st' := []) (H' := hC A E N V W ++ g) (C := []) 15 1 rfl trivial (z_Ln.brT (decide_eq_true hb) ?_)
    refine z_Ln.blk (pc' := 2) (lv' := [(3, .int 2), (0, .ref 110), (1, .ref 76), (2, .int x)]) (st' := []) (H' := hC A E N V W ++ g) (C := []) 18 2 rfl trivial ?_
    have e : decide ((z_fn 0 (A 4) (x + 1).toNatClampNeg) = 101) = true := decide_eq_true hb
    rw [e]
    simp only [Bool.true_and]
    exact s38_18_2 (x := x) hRm hf hw h2
  · refine z_Ln.blk (pc' := (if decide ((z_fn 0 (A 4) (x + 1).toNatClampNeg) = 101) = true then 28 else 26)) (lv' := [(3, .int 1), (0, .ref 110), (1, .ref 76), (2, .int x)]) (st' := []) (H' := hC A E N V W ++ g) (C := []) 15 1 rfl trivial (z_Ln.brF (decide_eq_false hb) ?_)
    have e : decide ((z_fn 0 (A 4) (x + 1).toNatClampNeg) = 101) = false := decide_eq_false hb
    rw [e]
    simp only [Bool.false_and]
    refine z_Ln.blk (pc' := 27) (lv' := [(3, .int 1), (0, .ref 110), (1, .ref 76), (2, .int x)]) (st' := [.int 0]) (H' := hC A E N V W ++ g) (C := []) 16 1 rfl trivial ?_
    exact z_Ln.ret rfl (z_retB (Or.inl rfl))
set_option maxRecDepth 10000 in
theorem s38_18_0 {L : Nat} {xs : Nat → Int32} {fv : Value} {f w : Nat} {c : Nat × Nat} {A : Nat → List (Nat × Int32)} {E : List (Nat × Option Nat)} {N : Nat → Nat} {V : Nat → Nat → Int32} {W : Nat} {g : List z_E} {x : Int32} (hRm : z_Rm (hC A E N V W ++ g, c)) (hf : 4 ≤ f) (hw : 400 ≤ w) (h0 : z_in (x + 0) 1500 = true) (h1 : z_in (x + 1) 1500 = true) (h2 : z_in (x + 2) 1500 = true) : z_Ln L xs fv f w 38 2 [(3, .int 0), (0, .ref 110), (1, .ref 76), (2, .int x)] [] (hC A E N V W ++ g, c) (.inl (some (.int (z_B1 (decide (z_fn 0 (A 4) (x + 0).toNatClampNeg = 114) && decide (z_fn 0 (A 4) (x + 1).toNatClampNeg = 101) && decide (z_fn 0 (A 4) (x + 2).toNatClampNeg = 99)))))) (hC A E N V W ++ g, c) := by
  have m36 : z_pg.2.1 36 = 1 := rfl
  have m39 : z_pg.2.1 39 = 2 := rfl
  refine z_Ln.blk (pc' := 4) (lv' := [(3, .int 0), (0, .ref 110), (1, .ref 76), (2, .int x)]) (st' := [.ref 76, .int 0]) (H' := hC A E N V W ++ g) (C := []) 2 2 rfl trivial ?_
  refine z_Ln.call (s := 0) (mj := 36) (as := [.ref 76]) (rr := [.int 0]) (v := some (.int 3)) (T1 := (hC A E N V W ++ g, c)) rfl rfl ⟨⟨by omega, by omega⟩, (by decide : (1 : Nat) ≤ 8), (by decide +kernel : (1 : Nat) ≤ z_pg.2.1 36)⟩ hRm (s36_18 hRm (by omega) (by omega)) ⟨⟨trivial, trivial⟩, ⟨trivial, (z_sm0C 0 (by decide) rfl rfl), (Or.inl (by decide)), trivial, trivial⟩⟩ ?_
  refine z_Ln.blk (pc' := (if decide (3 ≤ 0) = true then 34 else 10)) (lv' := [(3, .int 0), (0, .ref 110), (1, .ref 76), (2, .int x)]) (st' := []) (H' := hC A E N V W ++ g) (C := []) 5 1 rfl trivial (z_Ln.brF (decide_eq_false (by decide)) ?_)
  refine z_Ln.blk (pc' := 20) (lv' := [(3, .int 0), (0, .ref 110), (1, .ref 76), (2, .int x)]) (st' := [.int 0, .ref 76, .int (z_fn 0 (A 4) (x + 0).toNatClampNeg)]) (H' := hC A E N V W ++ g) (C := [z_in (x + 0) 1500 = true]) 6 8 rfl h0 ?_
  refine z_Ln.call (s := 0) (mj := 39) (as := [.ref 76, .int 0]) (rr := [.int (z_fn 0 (A 4) (x + 0).toNatClampNeg)]) (v := some (.int 114)) (T1 := (hC A E N V W ++ g, c)) rfl rfl ⟨⟨by omega, by omega⟩, (by decide : (1 : Nat) ≤ 8), (by decide +kernel : (2 : Nat) ≤ z_pg.2.1 39)⟩ hRm (s39_18_0 hRm (by omega) (by omega)) ⟨⟨trivial, trivial⟩, ⟨trivial, (z_sm0C 0 (by decide) rfl rfl), (Or.inl (by decide)), trivial, trivial⟩⟩ ?_
  by_cases hb : (z_fn 0 (A 4) (x + 0).toNatClampNeg) = 114
  · refine z_Ln.blk (pc' := (if decide ((z_fn 0 (A 4) (x + 0).toNatClampNeg) = 114) = true then 28 else 26)) (lv' := [(3, .int 0), (0, .ref 110), (1, .ref 76), (2, .int x)]) (st' := []) (H' := hC A E N V W ++ g) (C := []) 15 1 rfl trivial (z_Ln.brT (decide_eq_true hb) ?_)
    refine z_Ln.blk (pc' := 2) (lv' := [(3, .int 1), (0, .ref 110), (1, .ref 76), (2, .int x)]) (st' := []) (H' := hC A E N V W ++ g) (C := []) 18 2 rfl trivial ?_
    have e : decide ((z_fn 0 (A 4) (x + 0).toNatClampNeg) = 114) = true := decide_eq_true hb
    rw [e]
    simp only [Bool.true_and]
    exact s38_18_1 (x := x) hRm hf hw h1 h2
  · refine z_Ln.blk (pc' := (if decide ((z_fn 0 (A 4) (x + 0).toNatClampNeg) = 114) = true then 28 else 26)) (lv' := [(3, .int 0), (0, .ref 110), (1, .ref 76), (2, .int x)]) (st' := []) (H' := hC A E N V W ++ g) (C := []) 15 1 rfl trivial (z_Ln.brF (decide_eq_false hb) ?_)
    have e : decide ((z_fn 0 (A 4) (x + 0).toNatClampNeg) = 114) = false := decide_eq_false hb
    rw [e]
    simp only [Bool.false_and]
    refine z_Ln.blk (pc' := 27) (lv' := [(3, .int 0), (0, .ref 110), (1, .ref 76), (2, .int x)]) (st' := [.int 0]) (H' := hC A E N V W ++ g) (C := []) 16 1 rfl trivial ?_
    exact z_Ln.ret rfl (z_retB (Or.inl rfl))
set_option maxRecDepth 10000 in
theorem s38_19_2 {L : Nat} {xs : Nat → Int32} {fv : Value} {f w : Nat} {c : Nat × Nat} {A : Nat → List (Nat × Int32)} {E : List (Nat × Option Nat)} {N : Nat → Nat} {V : Nat → Nat → Int32} {W : Nat} {g : List z_E} {x : Int32} (hRm : z_Rm (hC A E N V W ++ g, c)) (hf : 4 ≤ f) (hw : 400 ≤ w)  : z_Ln L xs fv f w 38 2 [(3, .int 2), (0, .ref 110), (1, .ref 78), (2, .int x)] [] (hC A E N V W ++ g, c) (.inl (some (.int (z_B1 true)))) (hC A E N V W ++ g, c) := by
  have m36 : z_pg.2.1 36 = 1 := rfl
  refine z_Ln.blk (pc' := 4) (lv' := [(3, .int 2), (0, .ref 110), (1, .ref 78), (2, .int x)]) (st' := [.ref 78, .int 2]) (H' := hC A E N V W ++ g) (C := []) 2 2 rfl trivial ?_
  refine z_Ln.call (s := 0) (mj := 36) (as := [.ref 78]) (rr := [.int 2]) (v := some (.int 2)) (T1 := (hC A E N V W ++ g, c)) rfl rfl ⟨⟨by omega, by have : z_pg.2.1 36 = 1 := rfl; omega⟩, (by decide : (1 : Nat) ≤ 8), (by decide +kernel : (1 : Nat) ≤ z_pg.2.1 36)⟩ hRm (s36_19 hRm (by omega) (by omega)) ⟨⟨trivial, trivial⟩, ⟨trivial, (z_sm0C 0 (by decide) rfl rfl), (Or.inl (by decide)), trivial, trivial⟩⟩ ?_
  refine z_Ln.blk (pc' := (if decide (2 ≤ 2) = true then 34 else 10)) (lv' := [(3, .int 2), (0, .ref 110), (1, .ref 78), (2, .int x)]) (st' := []) (H' := hC A E N V W ++ g) (C := []) 5 1 rfl trivial (z_Ln.brT (decide_eq_true (by decide)) ?_)
  refine z_Ln.blk (pc' := 35) (lv' := [(3, .int 2), (0, .ref 110), (1, .ref 78), (2, .int x)]) (st' := [.int 1]) (H' := hC A E N V W ++ g) (C := []) 20 1 rfl trivial ?_
  exact z_Ln.ret rfl (z_retB (Or.inr rfl))
set_option maxRecDepth 10000 in
theorem s38_19_1 {L : Nat} {xs : Nat → Int32} {fv : Value} {f w : Nat} {c : Nat × Nat} {A : Nat → List (Nat × Int32)} {E : List (Nat × Option Nat)} {N : Nat → Nat} {V : Nat → Nat → Int32} {W : Nat} {g : List z_E} {x : Int32} (hRm : z_Rm (hC A E N V W ++ g, c)) (hf : 4 ≤ f) (hw : 400 ≤ w) (h1 : z_in (x + 1) 1500 = true) : z_Ln L xs fv f w 38 2 [(3, .int 1), (0, .ref 110), (1, .ref 78), (2, .int x)] [] (hC A E N V W ++ g, c) (.inl (some (.int (z_B1 (decide (z_fn 0 (A 4) (x + 1).toNatClampNeg = 110)))))) (hC A E N V W ++ g, c) := by
  have m36 : z_pg.2.1 36 = 1 := rfl
  have m39 : z_pg.2.1 39 = 2 := rfl
  refine z_Ln.blk (pc' := 4) (lv' := [(3, .int 1), (0, .ref 110), (1, .ref 78), (2, .int x)]) (st' := [.ref 78, .int 1]) (H' := hC A E N V W ++ g) (C := []) 2 2 rfl trivial ?_
  refine z_Ln.call (s := 0) (mj := 36) (as := [.ref 78]) (rr := [.int 1]) (v := some (.int 2)) (T1 := (hC A E N V W ++ g, c)) rfl rfl ⟨⟨by omega, by omega⟩, (by decide : (1 : Nat) ≤ 8), (by decide +kernel : (1 : Nat) ≤ z_pg.2.1 36)⟩ hRm (s36_19 hRm (by omega) (by omega)) ⟨⟨trivial, trivial⟩, ⟨trivial, (z_sm0C 0 (by decide) rfl rfl), (Or.inl (by decide)), trivial, trivial⟩⟩ ?_
  refine z_Ln.blk (pc' := (if decide (2 ≤ 1) = true then 34 else 10)) (lv' := [(3, .int 1), (0, .ref 110), (1, .ref 78), (2, .int x)]) (st' := []) (H' := hC A E N V W ++ g) (C := []) 5 1 rfl trivial (z_Ln.brF (decide_eq_false (by decide)) ?_)
  refine z_Ln.blk (pc' := 20) (lv' := [(3, .int 1), (0, .ref 110), (1, .ref 78), (2, .int x)]) (st' := [.int 1, .ref 78, .int (z_fn 0 (A 4) (x + 1).toNatClampNeg)]) (H' := hC A E N V W ++ g) (C := [z_in (x + 1) 1500 = true]) 6 8 rfl h1 ?_
  refine z_Ln.call (s := 0) (mj := 39) (as := [.ref 78, .int 1]) (rr := [.int (z_fn 0 (A 4) (x + 1).toNatClampNeg)]) (v := some (.int 110)) (T1 := (hC A E N V W ++ g, c)) rfl rfl ⟨⟨by omega, by omega⟩, (by decide : (1 : Nat) ≤ 8), (by decide +kernel : (2 : Nat) ≤ z_pg.2.1 39)⟩ hRm (s39_19_1 hRm (by omega) (by omega)) ⟨⟨trivial, trivial⟩, ⟨trivial, (z_sm0C 0 (by decide) rfl rfl), (Or.inl (by decide)), trivial, trivial⟩⟩ ?_
  by_cases hb : (z_fn 0 (A 4) (x + 1).toNatClampNeg) = 110
  · refine z_Ln.blk (pc' := (if decide ((z_fn 0 (A 4) (x + 1).toNatClampNeg) = 110) = true then 28 else 26)) (lv' := [(3, .int 1), (0, .ref 110), (1, .ref 78), (2, .int x)]) (st' := []) (H' := hC A E N V W ++ g) (C := []) 15 1 rfl trivial (z_Ln.brT (decide_eq_true hb) ?_)
    refine z_Ln.blk (pc' := 2) (lv' := [(3, .int 2), (0, .ref 110), (1, .ref 78), (2, .int x)]) (st' := []) (H' := hC A E N V W ++ g) (C := []) 18 2 rfl trivial ?_
    have e : decide ((z_fn 0 (A 4) (x + 1).toNatClampNeg) = 110) = true := decide_eq_true hb
    rw [e]
    exact s38_19_2 (x := x) hRm hf hw 
  · refine z_Ln.blk (pc' := (if decide ((z_fn 0 (A 4) (x + 1).toNatClampNeg) = 110) = true then 28 else 26)) (lv' := [(3, .int 1), (0, .ref 110), (1, .ref 78), (2, .int x)]) (st' := []) (H' := hC A E N V W ++ g) (C := []) 15 1 rfl trivial (z_Ln.brF (decide_eq_false hb) ?_)
    have e : decide ((z_fn 0 (A 4) (x + 1).toNatClampNeg) = 110) = false := decide_eq_false hb
    rw [e]
    refine z_Ln.blk (pc' := 27) (lv' := [(3, .int 1), (0, .ref 110), (1, .ref 78), (2, .int x)]) (st' := [.int 0]) (H' := hC A E N V W ++ g) (C := []) 16 1 rfl trivial ?_
    exact z_Ln.ret rfl (z_retB (Or.inl rfl))
set_option maxRecDepth 10000 in
theorem s38_19_0 {L : Nat} {xs : Nat → Int32} {fv : Value} {f w : Nat} {c : Nat × Nat} {A : Nat → List (Nat × Int32)} {E : List (Nat × Option Nat)} {N : Nat → Nat} {V : Nat → Nat → Int32} {W : Nat} {g : List z_E} {x : Int32} (hRm : z_Rm (hC A E N V W ++ g, c)) (hf : 4 ≤ f) (hw : 400 ≤ w) (h0 : z_in (x + 0) 1500 = true) (h1 : z_in (x + 1) 1500 = true) : z_Ln L xs fv f w 38 2 [(3, .int 0), (0, .ref 110), (1, .ref 78), (2, .int x)] [] (hC A E N V W ++ g, c) (.inl (some (.int (z_B1 (decide (z_fn 0 (A 4) (x + 0).toNatClampNeg = 105) && decide (z_fn 0 (A 4) (x + 1).toNatClampNeg = 110)))))) (hC A E N V W ++ g, c) := by
  have m36 : z_pg.2.1 36 = 1 := rfl
  have m39 : z_pg.2.1 39 = 2 := rfl
  refine z_Ln.blk (pc' := 4) (lv' := [(3, .int 0), (0, .ref 110), (1, .ref 78), (2, .int x)]) (st' := [.ref 78, .int 0]) (H' := hC A E N V W ++ g) (C := []) 2 2 rfl trivial ?_
  refine z_Ln.call (s := 0) (mj := 36) (as := [.ref 78]) (rr := [.int 0]) (v := some (.int 2)) (T1 := (hC A E N V W ++ g, c)) rfl rfl ⟨⟨by omega, by omega⟩, (by decide : (1 : Nat) ≤ 8), (by decide +kernel : (1 : Nat) ≤ z_pg.2.1 36)⟩ hRm (s36_19 hRm (by omega) (by omega)) ⟨⟨trivial, trivial⟩, ⟨trivial, (z_sm0C 0 (by decide) rfl rfl), (Or.inl (by decide)), trivial, trivial⟩⟩ ?_
  refine z_Ln.blk (pc' := (if decide (2 ≤ 0) = true then 34 else 10)) (lv' := [(3, .int 0), (0, .ref 110), (1, .ref 78), (2, .int x)]) (st' := []) (H' := hC A E N V W ++ g) (C := []) 5 1 rfl trivial (z_Ln.brF (decide_eq_false (by decide)) ?_)
  refine z_Ln.blk (pc' := 20) (lv' := [(3, .int 0), (0, .ref 110), (1, .ref 78), (2, .int x)]) (st' := [.int 0, .ref 78, .int (z_fn 0 (A 4) (x + 0).toNatClampNeg)]) (H' := hC A E N V W ++ g) (C := [z_in (x + 0) 1500 = true]) 6 8 rfl h0 ?_
  refine z_Ln.call (s := 0) (mj := 39) (as := [.ref 78, .int 0]) (rr := [.int (z_fn 0 (A 4) (x + 0).toNatClampNeg)]) (v := some (.int 105)) (T1 := (hC A E N V W ++ g, c)) rfl rfl ⟨⟨by omega, by omega⟩, (by decide : (1 : Nat) ≤ 8), (by decide +kernel : (2 : Nat) ≤ z_pg.2.1 39)⟩ hRm (s39_19_0 hRm (by omega) (by omega)) ⟨⟨trivial, trivial⟩, ⟨trivial, (z_sm0C 0 (by decide) rfl rfl), (Or.inl (by decide)), trivial, trivial⟩⟩ ?_
  by_cases hb : (z_fn 0 (A 4) (x + 0).toNatClampNeg) = 105
  · refine z_Ln.blk (pc' := (if decide ((z_fn 0 (A 4) (x + 0).toNatClampNeg) = 105) = true then 28 else 26)) (lv' := [(3, .int 0), (0, .ref 110), (1, .ref 78), (2, .int x)]) (st' := []) (H' := hC A E N V W ++ g) (C := []) 15 1 rfl trivial (z_Ln.brT (decide_eq_true hb) ?_)
    refine z_Ln.blk (pc' := 2) (lv' := [(3, .int 1), (0, .ref 110), (1, .ref 78), (2, .int x)]) (st' := []) (H' := hC A E N V W ++ g) (C := []) 18 2 rfl trivial ?_
    have e : decide ((z_fn 0 (A 4) (x + 0).toNatClampNeg) = 105) = true := decide_eq_true hb
    rw [e]
    simp only [Bool.true_and]
    exact s38_19_1 (x := x) hRm hf hw h1
  · refine z_Ln.blk (pc' := (if decide ((z_fn 0 (A 4) (x + 0).toNatClampNeg) = 105) = true then 28 else 26)) (lv' := [(3, .int 0), (0, .ref 110), (1, .ref 78), (2, .int x)]) (st' := []) (H' := hC A E N V W ++ g) (C := []) 15 1 rfl trivial (z_Ln.brF (decide_eq_false hb) ?_)
    have e : decide ((z_fn 0 (A 4) (x + 0).toNatClampNeg) = 105) = false := decide_eq_false hb
    rw [e]
    simp only [Bool.false_and]
    refine z_Ln.blk (pc' := 27) (lv' := [(3, .int 0), (0, .ref 110), (1, .ref 78), (2, .int x)]) (st' := [.int 0]) (H' := hC A E N V W ++ g) (C := []) 16 1 rfl trivial ?_
    exact z_Ln.ret rfl (z_retB (Or.inl rfl))
set_option maxRecDepth 10000 in
theorem s38_20_2 {L : Nat} {xs : Nat → Int32} {fv : Value} {f w : Nat} {c : Nat × Nat} {A : Nat → List (Nat × Int32)} {E : List (Nat × Option Nat)} {N : Nat → Nat} {V : Nat → Nat → Int32} {W : Nat} {g : List z_E} {x : Int32} (hRm : z_Rm (hC A E N V W ++ g, c)) (hf : 4 ≤ f) (hw : 400 ≤ w)  : z_Ln L xs fv f w 38 2 [(3, .int 2), (0, .ref 110), (1, .ref 80), (2, .int x)] [] (hC A E N V W ++ g, c) (.inl (some (.int (z_B1 true)))) (hC A E N V W ++ g, c) := by
  have m36 : z_pg.2.1 36 = 1 := rfl
  refine z_Ln.blk (pc' := 4) (lv' := [(3, .int 2), (0, .ref 110), (1, .ref 80), (2, .int x)]) (st' := [.ref 80, .int 2]) (H' := hC A E N V W ++ g) (C := []) 2 2 rfl trivial ?_
  refine z_Ln.call (s := 0) (mj := 36) (as := [.ref 80]) (rr := [.int 2]) (v := some (.int 2)) (T1 := (hC A E N V W ++ g, c)) rfl rfl ⟨⟨by omega, by have : z_pg.2.1 36 = 1 := rfl; omega⟩, (by decide : (1 : Nat) ≤ 8), (by decide +kernel : (1 : Nat) ≤ z_pg.2.1 36)⟩ hRm (s36_20 hRm (by omega) (by omega)) ⟨⟨trivial, trivial⟩, ⟨trivial, (z_sm0C 0 (by decide) rfl rfl), (Or.inl (by decide)), trivial, trivial⟩⟩ ?_
  refine z_Ln.blk (pc' := (if decide (2 ≤ 2) = true then 34 else 10)) (lv' := [(3, .int 2), (0, .ref 110), (1, .ref 80), (2, .int x)]) (st' := []) (H' := hC A E N V W ++ g) (C := []) 5 1 rfl trivial (z_Ln.brT (decide_eq_true (by decide)) ?_)
  refine z_Ln.blk (pc' := 35) (lv' := [(3, .int 2), (0, .ref 110), (1, .ref 80), (2, .int x)]) (st' := [.int 1]) (H' := hC A E N V W ++ g) (C := []) 20 1 rfl trivial ?_
  exact z_Ln.ret rfl (z_retB (Or.inr rfl))
set_option maxRecDepth 10000 in
theorem s38_20_1 {L : Nat} {xs : Nat → Int32} {fv : Value} {f w : Nat} {c : Nat × Nat} {A : Nat → List (Nat × Int32)} {E : List (Nat × Option Nat)} {N : Nat → Nat} {V : Nat → Nat → Int32} {W : Nat} {g : List z_E} {x : Int32} (hRm : z_Rm (hC A E N V W ++ g, c)) (hf : 4 ≤ f) (hw : 400 ≤ w) (h1 : z_in (x + 1) 1500 = true) : z_Ln L xs fv f w 38 2 [(3, .int 1), (0, .ref 110), (1, .ref 80), (2, .int x)] [] (hC A E N V W ++ g, c) (.inl (some (.int (z_B1 (decide (z_fn 0 (A 4) (x + 1).toNatClampNeg = 102)))))) (hC A E N V W ++ g, c) := by
  have m36 : z_pg.2.1 36 = 1 := rfl
  have m39 : z_pg.2.1 39 = 2 := rfl
  refine z_Ln.blk (pc' := 4) (lv' := [(3, .int 1), (0, .ref 110), (1, .ref 80), (2, .int x)]) (st' := [.ref 80, .int 1]) (H' := hC A E N V W ++ g) (C := []) 2 2 rfl trivial ?_
  refine z_Ln.call (s := 0) (mj := 36) (as := [.ref 80]) (rr := [.int 1]) (v := some (.int 2)) (T1 := (hC A E N V W ++ g, c)) rfl rfl ⟨⟨by omega, by omega⟩, (by decide : (1 : Nat) ≤ 8), (by decide +kernel : (1 : Nat) ≤ z_pg.2.1 36)⟩ hRm (s36_20 hRm (by omega) (by omega)) ⟨⟨trivial, trivial⟩, ⟨trivial, (z_sm0C 0 (by decide) rfl rfl), (Or.inl (by decide)), trivial, trivial⟩⟩ ?_
  refine z_Ln.blk (pc' := (if decide (2 ≤ 1) = true then 34 else 10)) (lv' := [(3, .int 1), (0, .ref 110), (1, .ref 80), (2, .int x)]) (st' := []) (H' := hC A E N V W ++ g) (C := []) 5 1 rfl trivial (z_Ln.brF (decide_eq_false (by decide)) ?_)
  refine z_Ln.blk (pc' := 20) (lv' := [(3, .int 1), (0, .ref 110), (1, .ref 80), (2, .int x)]) (st' := [.int 1, .ref 80, .int (z_fn 0 (A 4) (x + 1).toNatClampNeg)]) (H' := hC A E N V W ++ g) (C := [z_in (x + 1) 1500 = true]) 6 8 rfl h1 ?_
  refine z_Ln.call (s := 0) (mj := 39) (as := [.ref 80, .int 1]) (rr := [.int (z_fn 0 (A 4) (x + 1).toNatClampNeg)]) (v := some (.int 102)) (T1 := (hC A E N V W ++ g, c)) rfl rfl ⟨⟨by omega, by omega⟩, (by decide : (1 : Nat) ≤ 8), (by decide +kernel : (2 : Nat) ≤ z_pg.2.1 39)⟩ hRm (s39_20_1 hRm (by omega) (by omega)) ⟨⟨trivial, trivial⟩, ⟨trivial, (z_sm0C 0 (by decide) rfl rfl), (Or.inl (by decide)), trivial, trivial⟩⟩ ?_
  by_cases hb : (z_fn 0 (A 4) (x + 1).toNatClampNeg) = 102
  · refine z_Ln.blk (pc' := (if decide ((z_fn 0 (A 4) (x + 1).toNatClampNeg) = 102) = true then 28 else 26)) (lv' := [(3, .int 1), (0, .ref 110), (1, .ref 80), (2, .int x)]) (st' := []) (H' := hC A E N V W ++ g) (C := []) 15 1 rfl trivial (z_Ln.brT (decide_eq_true hb) ?_)
    refine z_Ln.blk (pc' := 2) (lv' := [(3, .int 2), (0, .ref 110), (1, .ref 80), (2, .int x)]) (st' := []) (H' := hC A E N V W ++ g) (C := []) 18 2 rfl trivial ?_
    have e : decide ((z_fn 0 (A 4) (x + 1).toNatClampNeg) = 102) = true := decide_eq_true hb
    rw [e]
    exact s38_20_2 (x := x) hRm hf hw 
  · refine z_Ln.blk (pc' := (if decide ((z_fn 0 (A 4) (x + 1).toNatClampNeg) = 102) = true then 28 else 26)) (lv' := [(3, .int 1), (0, .ref 110), (1, .ref 80), (2, .int x)]) (st' := []) (H' := hC A E N V W ++ g) (C := []) 15 1 rfl trivial (z_Ln.brF (decide_eq_false hb) ?_)
    have e : decide ((z_fn 0 (A 4) (x + 1).toNatClampNeg) = 102) = false := decide_eq_false hb
    rw [e]
    refine z_Ln.blk (pc' := 27) (lv' := [(3, .int 1), (0, .ref 110), (1, .ref 80), (2, .int x)]) (st' := [.int 0]) (H' := hC A E N V W ++ g) (C := []) 16 1 rfl trivial ?_
    exact z_Ln.ret rfl (z_retB (Or.inl rfl))
set_option maxRecDepth 10000 in
theorem s38_20_0 {L : Nat} {xs : Nat → Int32} {fv : Value} {f w : Nat} {c : Nat × Nat} {A : Nat → List (Nat × Int32)} {E : List (Nat × Option Nat)} {N : Nat → Nat} {V : Nat → Nat → Int32} {W : Nat} {g : List z_E} {x : Int32} (hRm : z_Rm (hC A E N V W ++ g, c)) (hf : 4 ≤ f) (hw : 400 ≤ w) (h0 : z_in (x + 0) 1500 = true) (h1 : z_in (x + 1) 1500 = true) : z_Ln L xs fv f w 38 2 [(3, .int 0), (0, .ref 110), (1, .ref 80), (2, .int x)] [] (hC A E N V W ++ g, c) (.inl (some (.int (z_B1 (decide (z_fn 0 (A 4) (x + 0).toNatClampNeg = 105) && decide (z_fn 0 (A 4) (x + 1).toNatClampNeg = 102)))))) (hC A E N V W ++ g, c) := by
  have m36 : z_pg.2.1 36 = 1 := rfl
  have m39 : z_pg.2.1 39 = 2 := rfl
  refine z_Ln.blk (pc' := 4) (lv' := [(3, .int 0), (0, .ref 110), (1, .ref 80), (2, .int x)]) (st' := [.ref 80, .int 0]) (H' := hC A E N V W ++ g) (C := []) 2 2 rfl trivial ?_
  refine z_Ln.call (s := 0) (mj := 36) (as := [.ref 80]) (rr := [.int 0]) (v := some (.int 2)) (T1 := (hC A E N V W ++ g, c)) rfl rfl ⟨⟨by omega, by omega⟩, (by decide : (1 : Nat) ≤ 8), (by decide +kernel : (1 : Nat) ≤ z_pg.2.1 36)⟩ hRm (s36_20 hRm (by omega) (by omega)) ⟨⟨trivial, trivial⟩, ⟨trivial, (z_sm0C 0 (by decide) rfl rfl), (Or.inl (by decide)), trivial, trivial⟩⟩ ?_
  refine z_Ln.blk (pc' := (if decide (2 ≤ 0) = true then 34 else 10)) (lv' := [(3, .int 0), (0, .ref 110), (1, .ref 80), (2, .int x)]) (st' := []) (H' := hC A E N V W ++ g) (C := []) 5 1 rfl trivial (z_Ln.brF (decide_eq_false (by decide)) ?_)
  refine z_Ln.blk (pc' := 20) (lv' := [(3, .int 0), (0, .ref 110), (1, .ref 80), (2, .int x)]) (st' := [.int 0, .ref 80, .int (z_fn 0 (A 4) (x + 0).toNatClampNeg)]) (H' := hC A E N V W ++ g) (C := [z_in (x + 0) 1500 = true]) 6 8 rfl h0 ?_
  refine z_Ln.call (s := 0) (mj := 39) (as := [.ref 80, .int 0]) (rr := [.int (z_fn 0 (A 4) (x + 0).toNatClampNeg)]) (v := some (.int 105)) (T1 := (hC A E N V W ++ g, c)) rfl rfl ⟨⟨by omega, by omega⟩, (by decide : (1 : Nat) ≤ 8), (by decide +kernel : (2 : Nat) ≤ z_pg.2.1 39)⟩ hRm (s39_20_0 hRm (by omega) (by omega)) ⟨⟨trivial, trivial⟩, ⟨trivial, (z_sm0C 0 (by decide) rfl rfl), (Or.inl (by decide)), trivial, trivial⟩⟩ ?_
  by_cases hb : (z_fn 0 (A 4) (x + 0).toNatClampNeg) = 105
  · refine z_Ln.blk (pc' := (if decide ((z_fn 0 (A 4) (x + 0).toNatClampNeg) = 105) = true then 28 else 26)) (lv' := [(3, .int 0), (0, .ref 110), (1, .ref 80), (2, .int x)]) (st' := []) (H' := hC A E N V W ++ g) (C := []) 15 1 rfl trivial (z_Ln.brT (decide_eq_true hb) ?_)
    refine z_Ln.blk (pc' := 2) (lv' := [(3, .int 1), (0, .ref 110), (1, .ref 80), (2, .int x)]) (st' := []) (H' := hC A E N V W ++ g) (C := []) 18 2 rfl trivial ?_
    have e : decide ((z_fn 0 (A 4) (x + 0).toNatClampNeg) = 105) = true := decide_eq_true hb
    rw [e]
    simp only [Bool.true_and]
    exact s38_20_1 (x := x) hRm hf hw h1
  · refine z_Ln.blk (pc' := (if decide ((z_fn 0 (A 4) (x + 0).toNatClampNeg) = 105) = true then 28 else 26)) (lv' := [(3, .int 0), (0, .ref 110), (1, .ref 80), (2, .int x)]) (st' := []) (H' := hC A E N V W ++ g) (C := []) 15 1 rfl trivial (z_Ln.brF (decide_eq_false hb) ?_)
    have e : decide ((z_fn 0 (A 4) (x + 0).toNatClampNeg) = 105) = false := decide_eq_false hb
    rw [e]
    simp only [Bool.false_and]
    refine z_Ln.blk (pc' := 27) (lv' := [(3, .int 0), (0, .ref 110), (1, .ref 80), (2, .int x)]) (st' := [.int 0]) (H' := hC A E N V W ++ g) (C := []) 16 1 rfl trivial ?_
    exact z_Ln.ret rfl (z_retB (Or.inl rfl))
set_option maxRecDepth 10000 in
theorem s38_21_4 {L : Nat} {xs : Nat → Int32} {fv : Value} {f w : Nat} {c : Nat × Nat} {A : Nat → List (Nat × Int32)} {E : List (Nat × Option Nat)} {N : Nat → Nat} {V : Nat → Nat → Int32} {W : Nat} {g : List z_E} {x : Int32} (hRm : z_Rm (hC A E N V W ++ g, c)) (hf : 4 ≤ f) (hw : 400 ≤ w)  : z_Ln L xs fv f w 38 2 [(3, .int 4), (0, .ref 110), (1, .ref 82), (2, .int x)] [] (hC A E N V W ++ g, c) (.inl (some (.int (z_B1 true)))) (hC A E N V W ++ g, c) := by
  have m36 : z_pg.2.1 36 = 1 := rfl
  refine z_Ln.blk (pc' := 4) (lv' := [(3, .int 4), (0, .ref 110), (1, .ref 82), (2, .int x)]) (st' := [.ref 82, .int 4]) (H' := hC A E N V W ++ g) (C := []) 2 2 rfl trivial ?_
  refine z_Ln.call (s := 0) (mj := 36) (as := [.ref 82]) (rr := [.int 4]) (v := some (.int 4)) (T1 := (hC A E N V W ++ g, c)) rfl rfl ⟨⟨by omega, by have : z_pg.2.1 36 = 1 := rfl; omega⟩, (by decide : (1 : Nat) ≤ 8), (by decide +kernel : (1 : Nat) ≤ z_pg.2.1 36)⟩ hRm (s36_21 hRm (by omega) (by omega)) ⟨⟨trivial, trivial⟩, ⟨trivial, (z_sm0C 0 (by decide) rfl rfl), (Or.inl (by decide)), trivial, trivial⟩⟩ ?_
  refine z_Ln.blk (pc' := (if decide (4 ≤ 4) = true then 34 else 10)) (lv' := [(3, .int 4), (0, .ref 110), (1, .ref 82), (2, .int x)]) (st' := []) (H' := hC A E N V W ++ g) (C := []) 5 1 rfl trivial (z_Ln.brT (decide_eq_true (by decide)) ?_)
  refine z_Ln.blk (pc' := 35) (lv' := [(3, .int 4), (0, .ref 110), (1, .ref 82), (2, .int x)]) (st' := [.int 1]) (H' := hC A E N V W ++ g) (C := []) 20 1 rfl trivial ?_
  exact z_Ln.ret rfl (z_retB (Or.inr rfl))
set_option maxRecDepth 10000 in
theorem s38_21_3 {L : Nat} {xs : Nat → Int32} {fv : Value} {f w : Nat} {c : Nat × Nat} {A : Nat → List (Nat × Int32)} {E : List (Nat × Option Nat)} {N : Nat → Nat} {V : Nat → Nat → Int32} {W : Nat} {g : List z_E} {x : Int32} (hRm : z_Rm (hC A E N V W ++ g, c)) (hf : 4 ≤ f) (hw : 400 ≤ w) (h3 : z_in (x + 3) 1500 = true) : z_Ln L xs fv f w 38 2 [(3, .int 3), (0, .ref 110), (1, .ref 82), (2, .int x)] [] (hC A E N V W ++ g, c) (.inl (some (.int (z_B1 (decide (z_fn 0 (A 4) (x + 3).toNatClampNeg = 110)))))) (hC A E N V W ++ g, c) := by
  have m36 : z_pg.2.1 36 = 1 := rfl
  have m39 : z_pg.2.1 39 = 2 := rfl
  refine z_Ln.blk (pc' := 4) (lv' := [(3, .int 3), (0, .ref 110), (1, .ref 82), (2, .int x)]) (st' := [.ref 82, .int 3]) (H' := hC A E N V W ++ g) (C := []) 2 2 rfl trivial ?_
  refine z_Ln.call (s := 0) (mj := 36) (as := [.ref 82]) (rr := [.int 3]) (v := some (.int 4)) (T1 := (hC A E N V W ++ g, c)) rfl rfl ⟨⟨by omega, by omega⟩, (by decide : (1 : Nat) ≤ 8), (by decide +kernel : (1 : Nat) ≤ z_pg.2.1 36)⟩ hRm (s36_21 hRm (by omega) (by omega)) ⟨⟨trivial, trivial⟩, ⟨trivial, (z_sm0C 0 (by decide) rfl rfl), (Or.inl (by decide)), trivial, trivial⟩⟩ ?_
  refine z_Ln.blk (pc' := (if decide (4 ≤ 3) = true then 34 else 10)) (lv' := [(3, .int 3), (0, .ref 110), (1, .ref 82), (2, .int x)]) (st' := []) (H' := hC A E N V W ++ g) (C := []) 5 1 rfl trivial (z_Ln.brF (decide_eq_false (by decide)) ?_)
  refine z_Ln.blk (pc' := 20) (lv' := [(3, .int 3), (0, .ref 110), (1, .ref 82), (2, .int x)]) (st' := [.int 3, .ref 82, .int (z_fn 0 (A 4) (x + 3).toNatClampNeg)]) (H' := hC A E N V W ++ g) (C := [z_in (x + 3) 1500 = true]) 6 8 rfl h3 ?_
  refine z_Ln.call (s := 0) (mj := 39) (as := [.ref 82, .int 3]) (rr := [.int (z_fn 0 (A 4) (x + 3).toNatClampNeg)]) (v := some (.int 110)) (T1 := (hC A E N V W ++ g, c)) rfl rfl ⟨⟨by omega, by omega⟩, (by decide : (1 : Nat) ≤ 8), (by decide +kernel : (2 : Nat) ≤ z_pg.2.1 39)⟩ hRm (s39_21_3 hRm (by omega) (by omega)) ⟨⟨trivial, trivial⟩, ⟨trivial, (z_sm0C 0 (by decide) rfl rfl), (Or.inl (by decide)), trivial, trivial⟩⟩ ?_
  by_cases hb : (z_fn 0 (A 4) (x + 3).toNatClampNeg) = 110
  · refine z_Ln.blk (pc' := (if decide ((z_fn 0 (A 4) (x + 3).toNatClampNeg) = 110) = true then 28 else 26)) (lv' := [(3, .int 3), (0, .ref 110), (1, .ref 82), (2, .int x)]) (st' := []) (H' := hC A E N V W ++ g) (C := []) 15 1 rfl trivial (z_Ln.brT (decide_eq_true hb) ?_)
    refine z_Ln.blk (pc' := 2) (lv' := [(3, .int 4), (0, .ref 110), (1, .ref 82), (2, .int x)]) (st' := []) (H' := hC A E N V W ++ g) (C := []) 18 2 rfl trivial ?_
    have e : decide ((z_fn 0 (A 4) (x + 3).toNatClampNeg) = 110) = true := decide_eq_true hb
    rw [e]
    exact s38_21_4 (x := x) hRm hf hw 
  · refine z_Ln.blk (pc' := (if decide ((z_fn 0 (A 4) (x + 3).toNatClampNeg) = 110) = true then 28 else 26)) (lv' := [(3, .int 3), (0, .ref 110), (1, .ref 82), (2, .int x)]) (st' := []) (H' := hC A E N V W ++ g) (C := []) 15 1 rfl trivial (z_Ln.brF (decide_eq_false hb) ?_)
    have e : decide ((z_fn 0 (A 4) (x + 3).toNatClampNeg) = 110) = false := decide_eq_false hb
    rw [e]
    refine z_Ln.blk (pc' := 27) (lv' := [(3, .int 3), (0, .ref 110), (1, .ref 82), (2, .int x)]) (st' := [.int 0]) (H' := hC A E N V W ++ g) (C := []) 16 1 rfl trivial ?_
    exact z_Ln.ret rfl (z_retB (Or.inl rfl))
set_option maxRecDepth 10000 in
theorem s38_21_2 {L : Nat} {xs : Nat → Int32} {fv : Value} {f w : Nat} {c : Nat × Nat} {A : Nat → List (Nat × Int32)} {E : List (Nat × Option Nat)} {N : Nat → Nat} {V : Nat → Nat → Int32} {W : Nat} {g : List z_E} {x : Int32} (hRm : z_Rm (hC A E N V W ++ g, c)) (hf : 4 ≤ f) (hw : 400 ≤ w) (h2 : z_in (x + 2) 1500 = true) (h3 : z_in (x + 3) 1500 = true) : z_Ln L xs fv f w 38 2 [(3, .int 2), (0, .ref 110), (1, .ref 82), (2, .int x)] [] (hC A E N V W ++ g, c) (.inl (some (.int (z_B1 (decide (z_fn 0 (A 4) (x + 2).toNatClampNeg = 101) && decide (z_fn 0 (A 4) (x + 3).toNatClampNeg = 110)))))) (hC A E N V W ++ g, c) := by
  have m36 : z_pg.2.1 36 = 1 := rfl
  have m39 : z_pg.2.1 39 = 2 := rfl
  refine z_Ln.blk (pc' := 4) (lv' := [(3, .int 2), (0, .ref 110), (1, .ref 82), (2, .int x)]) (st' := [.ref 82, .int 2]) (H' := hC A E N V W ++ g) (C := []) 2 2 rfl trivial ?_
  refine z_Ln.call (s := 0) (mj := 36) (as := [.ref 82]) (rr := [.int 2]) (v := some (.int 4)) (T1 := (hC A E N V W ++ g, c)) rfl rfl ⟨⟨by omega, by omega⟩, (by decide : (1 : Nat) ≤ 8), (by decide +kernel : (1 : Nat) ≤ z_pg.2.1 36)⟩ hRm (s36_21 hRm (by omega) (by omega)) ⟨⟨trivial, trivial⟩, ⟨trivial, (z_sm0C 0 (by decide) rfl rfl), (Or.inl (by decide)), trivial, trivial⟩⟩ ?_
  refine z_Ln.blk (pc' := (if decide (4 ≤ 2) = true then 34 else 10)) (lv' := [(3, .int 2), (0, .ref 110), (1, .ref 82), (2, .int x)]) (st' := []) (H' := hC A E N V W ++ g) (C := []) 5 1 rfl trivial (z_Ln.brF (decide_eq_false (by decide)) ?_)
  refine z_Ln.blk (pc' := 20) (lv' := [(3, .int 2), (0, .ref 110), (1, .ref 82), (2, .int x)]) (st' := [.int 2, .ref 82, .int (z_fn 0 (A 4) (x + 2).toNatClampNeg)]) (H' := hC A E N V W ++ g) (C := [z_in (x + 2) 1500 = true]) 6 8 rfl h2 ?_
  refine z_Ln.call (s := 0) (mj := 39) (as := [.ref 82, .int 2]) (rr := [.int (z_fn 0 (A 4) (x + 2).toNatClampNeg)]) (v := some (.int 101)) (T1 := (hC A E N V W ++ g, c)) rfl rfl ⟨⟨by omega, by omega⟩, (by decide : (1 : Nat) ≤ 8), (by decide +kernel : (2 : Nat) ≤ z_pg.2.1 39)⟩ hRm (s39_21_2 hRm (by omega) (by omega)) ⟨⟨trivial, trivial⟩, ⟨trivial, (z_sm0C 0 (by decide) rfl rfl), (Or.inl (by decide)), trivial, trivial⟩⟩ ?_
  by_cases hb : (z_fn 0 (A 4) (x + 2).toNatClampNeg) = 101
  · refine z_Ln.blk (pc' := (if decide ((z_fn 0 (A 4) (x + 2).toNatClampNeg) = 101) = true then 28 else 26)) (lv' := [(3, .int 2), (0, .ref 110), (1, .ref 82), (2, .int x)]) (st' := []) (H' := hC A E N V W ++ g) (C := []) 15 1 rfl trivial (z_Ln.brT (decide_eq_true hb) ?_)
    refine z_Ln.blk (pc' := 2) (lv' := [(3, .int 3), (0, .ref 110), (1, .ref 82), (2, .int x)]) (st' := []) (H' := hC A E N V W ++ g) (C := []) 18 2 rfl trivial ?_
    have e : decide ((z_fn 0 (A 4) (x + 2).toNatClampNeg) = 101) = true := decide_eq_true hb
    rw [e]
    simp only [Bool.true_and]
    exact s38_21_3 (x := x) hRm hf hw h3
  · refine z_Ln.blk (pc' := (if decide ((z_fn 0 (A 4) (x + 2).toNatClampNeg) = 101) = true then 28 else 26)) (lv' := [(3, .int 2), (0, .ref 110), (1, .ref 82), (2, .int x)]) (st' := []) (H' := hC A E N V W ++ g) (C := []) 15 1 rfl trivial (z_Ln.brF (decide_eq_false hb) ?_)
    have e : decide ((z_fn 0 (A 4) (x + 2).toNatClampNeg) = 101) = false := decide_eq_false hb
    rw [e]
    simp only [Bool.false_and]
    refine z_Ln.blk (pc' := 27) (lv' := [(3, .int 2), (0, .ref 110), (1, .ref 82), (2, .int x)]) (st' := [.int 0]) (H' := hC A E N V W ++ g) (C := []) 16 1 rfl trivial ?_
    exact z_Ln.ret rfl (z_retB (Or.inl rfl))
set_option maxRecDepth 10000 in
theorem s38_21_1 {L : Nat} {xs : Nat → Int32} {fv : Value} {f w : Nat} {c : Nat × Nat} {A : Nat → List (Nat × Int32)} {E : List (Nat × Option Nat)} {N : Nat → Nat} {V : Nat → Nat → Int32} {W : Nat} {g : List z_E} {x : Int32} (hRm : z_Rm (hC A E N V W ++ g, c)) (hf : 4 ≤ f) (hw : 400 ≤ w) (h1 : z_in (x + 1) 1500 = true) (h2 : z_in (x + 2) 1500 = true) (h3 : z_in (x + 3) 1500 = true) : z_Ln L xs fv f w 38 2 [(3, .int 1), (0, .ref 110), (1, .ref 82), (2, .int x)] [] (hC A E N V W ++ g, c) (.inl (some (.int (z_B1 (decide (z_fn 0 (A 4) (x + 1).toNatClampNeg = 104) && decide (z_fn 0 (A 4) (x + 2).toNatClampNeg = 101) && decide (z_fn 0 (A 4) (x + 3).toNatClampNeg = 110)))))) (hC A E N V W ++ g, c) := by
  have m36 : z_pg.2.1 36 = 1 := rfl
  have m39 : z_pg.2.1 39 = 2 := rfl
  refine z_Ln.blk (pc' := 4) (lv' := [(3, .int 1), (0, .ref 110), (1, .ref 82), (2, .int x)]) (st' := [.ref 82, .int 1]) (H' := hC A E N V W ++ g) (C := []) 2 2 rfl trivial ?_
  refine z_Ln.call (s := 0) (mj := 36) (as := [.ref 82]) (rr := [.int 1]) (v := some (.int 4)) (T1 := (hC A E N V W ++ g, c)) rfl rfl ⟨⟨by omega, by omega⟩, (by decide : (1 : Nat) ≤ 8), (by decide +kernel : (1 : Nat) ≤ z_pg.2.1 36)⟩ hRm (s36_21 hRm (by omega) (by omega)) ⟨⟨trivial, trivial⟩, ⟨trivial, (z_sm0C 0 (by decide) rfl rfl), (Or.inl (by decide)), trivial, trivial⟩⟩ ?_
  refine z_Ln.blk (pc' := (if decide (4 ≤ 1) = true then 34 else 10)) (lv' := [(3, .int 1), (0, .ref 110), (1, .ref 82), (2, .int x)]) (st' := []) (H' := hC A E N V W ++ g) (C := []) 5 1 rfl trivial (z_Ln.brF (decide_eq_false (by decide)) ?_)
  refine z_Ln.blk (pc' := 20) (lv' := [(3, .int 1), (0, .ref 110), (1, .ref 82), (2, .int x)]) (st' := [.int 1, .ref 82, .int (z_fn 0 (A 4) (x + 1).toNatClampNeg)]) (H' := hC A E N V W ++ g) (C := [z_in (x + 1) 1500 = true]) 6 8 rfl h1 ?_
  refine z_Ln.call (s := 0) (mj := 39) (as := [.ref 82, .int 1]) (rr := [.int (z_fn 0 (A 4) (x + 1).toNatClampNeg)]) (v := some (.int 104)) (T1 := (hC A E N V W ++ g, c)) rfl rfl ⟨⟨by omega, by omega⟩, (by decide : (1 : Nat) ≤ 8), (by decide +kernel : (2 : Nat) ≤ z_pg.2.1 39)⟩ hRm (s39_21_1 hRm (by omega) (by omega)) ⟨⟨trivial, trivial⟩, ⟨trivial, (z_sm0C 0 (by decide) rfl rfl), (Or.inl (by decide)), trivial, trivial⟩⟩ ?_
  by_cases hb : (z_fn 0 (A 4) (x + 1).toNatClampNeg) = 104
  · refine z_Ln.blk (pc' := (if decide ((z_fn 0 (A 4) (x + 1).toNatClampNeg) = 104) = true then 28 else 26)) (lv' := [(3, .int 1), (0, .ref 110), (1, .ref 82), (2, .int x)]) (st' := []) (H' := hC A E N V W ++ g) (C := []) 15 1 rfl trivial (z_Ln.brT (decide_eq_true hb) ?_)
    refine z_Ln.blk (pc' := 2) (lv' := [(3, .int 2), (0, .ref 110), (1, .ref 82), (2, .int x)]) (st' := []) (H' := hC A E N V W ++ g) (C := []) 18 2 rfl trivial ?_
    have e : decide ((z_fn 0 (A 4) (x + 1).toNatClampNeg) = 104) = true := decide_eq_true hb
    rw [e]
    simp only [Bool.true_and]
    exact s38_21_2 (x := x) hRm hf hw h2 h3
  · refine z_Ln.blk (pc' := (if decide ((z_fn 0 (A 4) (x + 1).toNatClampNeg) = 104) = true then 28 else 26)) (lv' := [(3, .int 1), (0, .ref 110), (1, .ref 82), (2, .int x)]) (st' := []) (H' := hC A E N V W ++ g) (C := []) 15 1 rfl trivial (z_Ln.brF (decide_eq_false hb) ?_)
    have e : decide ((z_fn 0 (A 4) (x + 1).toNatClampNeg) = 104) = false := decide_eq_false hb
    rw [e]
    simp only [Bool.false_and]
    refine z_Ln.blk (pc' := 27) (lv' := [(3, .int 1), (0, .ref 110), (1, .ref 82), (2, .int x)]) (st' := [.int 0]) (H' := hC A E N V W ++ g) (C := []) 16 1 rfl trivial ?_
    exact z_Ln.ret rfl (z_retB (Or.inl rfl))
set_option maxRecDepth 10000 in
theorem s38_21_0 {L : Nat} {xs : Nat → Int32} {fv : Value} {f w : Nat} {c : Nat × Nat} {A : Nat → List (Nat × Int32)} {E : List (Nat × Option Nat)} {N : Nat → Nat} {V : Nat → Nat → Int32} {W : Nat} {g : List z_E} {x : Int32} (hRm : z_Rm (hC A E N V W ++ g, c)) (hf : 4 ≤ f) (hw : 400 ≤ w) (h0 : z_in (x + 0) 1500 = true) (h1 : z_in (x + 1) 1500 = true) (h2 : z_in (x + 2) 1500 = true) (h3 : z_in (x + 3) 1500 = true) : z_Ln L xs fv f w 38 2 [(3, .int 0), (0, .ref 110), (1, .ref 82), (2, .int x)] [] (hC A E N V W ++ g, c) (.inl (some (.int (z_B1 (decide (z_fn 0 (A 4) (x + 0).toNatClampNeg = 116) && decide (z_fn 0 (A 4) (x + 1).toNatClampNeg = 104) && decide (z_fn 0 (A 4) (x + 2).toNatClampNeg = 101) && decide (z_fn 0 (A 4) (x + 3).toNatClampNeg = 110)))))) (hC A E N V W ++ g, c) := by
  have m36 : z_pg.2.1 36 = 1 := rfl
  have m39 : z_pg.2.1 39 = 2 := rfl
  refine z_Ln.blk (pc' := 4) (lv' := [(3, .int 0), (0, .ref 110), (1, .ref 82), (2, .int x)]) (st' := [.ref 82, .int 0]) (H' := hC A E N V W ++ g) (C := []) 2 2 rfl trivial ?_
  refine z_Ln.call (s := 0) (mj := 36) (as := [.ref 82]) (rr := [.int 0]) (v := some (.int 4)) (T1 := (hC A E N V W ++ g, c)) rfl rfl ⟨⟨by omega, by omega⟩, (by decide : (1 : Nat) ≤ 8), (by decide +kernel : (1 : Nat) ≤ z_pg.2.1 36)⟩ hRm (s36_21 hRm (by omega) (by omega)) ⟨⟨trivial, trivial⟩, ⟨trivial, (z_sm0C 0 (by decide) rfl rfl), (Or.inl (by decide)), trivial, trivial⟩⟩ ?_
  refine z_Ln.blk (pc' := (if decide (4 ≤ 0) = true then 34 else 10)) (lv' := [(3, .int 0), (0, .ref 110), (1, .ref 82), (2, .int x)]) (st' := []) (H' := hC A E N V W ++ g) (C := []) 5 1 rfl trivial (z_Ln.brF (decide_eq_false (by decide)) ?_)
  refine z_Ln.blk (pc' := 20) (lv' := [(3, .int 0), (0, .ref 110), (1, .ref 82), (2, .int x)]) (st' := [.int 0, .ref 82, .int (z_fn 0 (A 4) (x + 0).toNatClampNeg)]) (H' := hC A E N V W ++ g) (C := [z_in (x + 0) 1500 = true]) 6 8 rfl h0 ?_
  refine z_Ln.call (s := 0) (mj := 39) (as := [.ref 82, .int 0]) (rr := [.int (z_fn 0 (A 4) (x + 0).toNatClampNeg)]) (v := some (.int 116)) (T1 := (hC A E N V W ++ g, c)) rfl rfl ⟨⟨by omega, by omega⟩, (by decide : (1 : Nat) ≤ 8), (by decide +kernel : (2 : Nat) ≤ z_pg.2.1 39)⟩ hRm (s39_21_0 hRm (by omega) (by omega)) ⟨⟨trivial, trivial⟩, ⟨trivial, (z_sm0C 0 (by decide) rfl rfl), (Or.inl (by decide)), trivial, trivial⟩⟩ ?_
  by_cases hb : (z_fn 0 (A 4) (x + 0).toNatClampNeg) = 116
  · refine z_Ln.blk (pc' := (if decide ((z_fn 0 (A 4) (x + 0).toNatClampNeg) = 116) = true then 28 else 26)) (lv' := [(3, .int 0), (0, .ref 110), (1, .ref 82), (2, .int x)]) (st' := []) (H' := hC A E N V W ++ g) (C := []) 15 1 rfl trivial (z_Ln.brT (decide_eq_true hb) ?_)
    refine z_Ln.blk (pc' := 2) (lv' := [(3, .int 1), (0, .ref 110), (1, .ref 82), (2, .int x)]) (st' := []) (H' := hC A E N V W ++ g) (C := []) 18 2 rfl trivial ?_
    have e : decide ((z_fn 0 (A 4) (x + 0).toNatClampNeg) = 116) = true := decide_eq_true hb
    rw [e]
    simp only [Bool.true_and]
    exact s38_21_1 (x := x) hRm hf hw h1 h2 h3
  · refine z_Ln.blk (pc' := (if decide ((z_fn 0 (A 4) (x + 0).toNatClampNeg) = 116) = true then 28 else 26)) (lv' := [(3, .int 0), (0, .ref 110), (1, .ref 82), (2, .int x)]) (st' := []) (H' := hC A E N V W ++ g) (C := []) 15 1 rfl trivial (z_Ln.brF (decide_eq_false hb) ?_)
    have e : decide ((z_fn 0 (A 4) (x + 0).toNatClampNeg) = 116) = false := decide_eq_false hb
    rw [e]
    simp only [Bool.false_and]
    refine z_Ln.blk (pc' := 27) (lv' := [(3, .int 0), (0, .ref 110), (1, .ref 82), (2, .int x)]) (st' := [.int 0]) (H' := hC A E N V W ++ g) (C := []) 16 1 rfl trivial ?_
    exact z_Ln.ret rfl (z_retB (Or.inl rfl))
set_option maxRecDepth 10000 in
theorem s38_22_4 {L : Nat} {xs : Nat → Int32} {fv : Value} {f w : Nat} {c : Nat × Nat} {A : Nat → List (Nat × Int32)} {E : List (Nat × Option Nat)} {N : Nat → Nat} {V : Nat → Nat → Int32} {W : Nat} {g : List z_E} {x : Int32} (hRm : z_Rm (hC A E N V W ++ g, c)) (hf : 4 ≤ f) (hw : 400 ≤ w)  : z_Ln L xs fv f w 38 2 [(3, .int 4), (0, .ref 110), (1, .ref 84), (2, .int x)] [] (hC A E N V W ++ g, c) (.inl (some (.int (z_B1 true)))) (hC A E N V W ++ g, c) := by
  have m36 : z_pg.2.1 36 = 1 := rfl
  refine z_Ln.blk (pc' := 4) (lv' := [(3, .int 4), (0, .ref 110), (1, .ref 84), (2, .int x)]) (st' := [.ref 84, .int 4]) (H' := hC A E N V W ++ g) (C := []) 2 2 rfl trivial ?_
  refine z_Ln.call (s := 0) (mj := 36) (as := [.ref 84]) (rr := [.int 4]) (v := some (.int 4)) (T1 := (hC A E N V W ++ g, c)) rfl rfl ⟨⟨by omega, by have : z_pg.2.1 36 = 1 := rfl; omega⟩, (by decide : (1 : Nat) ≤ 8), (by decide +kernel : (1 : Nat) ≤ z_pg.2.1 36)⟩ hRm (s36_22 hRm (by omega) (by omega)) ⟨⟨trivial, trivial⟩, ⟨trivial, (z_sm0C 0 (by decide) rfl rfl), (Or.inl (by decide)), trivial, trivial⟩⟩ ?_
  refine z_Ln.blk (pc' := (if decide (4 ≤ 4) = true then 34 else 10)) (lv' := [(3, .int 4), (0, .ref 110), (1, .ref 84), (2, .int x)]) (st' := []) (H' := hC A E N V W ++ g) (C := []) 5 1 rfl trivial (z_Ln.brT (decide_eq_true (by decide)) ?_)
  refine z_Ln.blk (pc' := 35) (lv' := [(3, .int 4), (0, .ref 110), (1, .ref 84), (2, .int x)]) (st' := [.int 1]) (H' := hC A E N V W ++ g) (C := []) 20 1 rfl trivial ?_
  exact z_Ln.ret rfl (z_retB (Or.inr rfl))
set_option maxRecDepth 10000 in
theorem s38_22_3 {L : Nat} {xs : Nat → Int32} {fv : Value} {f w : Nat} {c : Nat × Nat} {A : Nat → List (Nat × Int32)} {E : List (Nat × Option Nat)} {N : Nat → Nat} {V : Nat → Nat → Int32} {W : Nat} {g : List z_E} {x : Int32} (hRm : z_Rm (hC A E N V W ++ g, c)) (hf : 4 ≤ f) (hw : 400 ≤ w) (h3 : z_in (x + 3) 1500 = true) : z_Ln L xs fv f w 38 2 [(3, .int 3), (0, .ref 110), (1, .ref 84), (2, .int x)] [] (hC A E N V W ++ g, c) (.inl (some (.int (z_B1 (decide (z_fn 0 (A 4) (x + 3).toNatClampNeg = 101)))))) (hC A E N V W ++ g, c) := by
  have m36 : z_pg.2.1 36 = 1 := rfl
  have m39 : z_pg.2.1 39 = 2 := rfl
  refine z_Ln.blk (pc' := 4) (lv' := [(3, .int 3), (0, .ref 110), (1, .ref 84), (2, .int x)]) (st' := [.ref 84, .int 3]) (H' := hC A E N V W ++ g) (C := []) 2 2 rfl trivial ?_
  refine z_Ln.call (s := 0) (mj := 36) (as := [.ref 84]) (rr := [.int 3]) (v := some (.int 4)) (T1 := (hC A E N V W ++ g, c)) rfl rfl ⟨⟨by omega, by omega⟩, (by decide : (1 : Nat) ≤ 8), (by decide +kernel : (1 : Nat) ≤ z_pg.2.1 36)⟩ hRm (s36_22 hRm (by omega) (by omega)) ⟨⟨trivial, trivial⟩, ⟨trivial, (z_sm0C 0 (by decide) rfl rfl), (Or.inl (by decide)), trivial, trivial⟩⟩ ?_
  refine z_Ln.blk (pc' := (if decide (4 ≤ 3) = true then 34 else 10)) (lv' := [(3, .int 3), (0, .ref 110), (1, .ref 84), (2, .int x)]) (st' := []) (H' := hC A E N V W ++ g) (C := []) 5 1 rfl trivial (z_Ln.brF (decide_eq_false (by decide)) ?_)
  refine z_Ln.blk (pc' := 20) (lv' := [(3, .int 3), (0, .ref 110), (1, .ref 84), (2, .int x)]) (st' := [.int 3, .ref 84, .int (z_fn 0 (A 4) (x + 3).toNatClampNeg)]) (H' := hC A E N V W ++ g) (C := [z_in (x + 3) 1500 = true]) 6 8 rfl h3 ?_
  refine z_Ln.call (s := 0) (mj := 39) (as := [.ref 84, .int 3]) (rr := [.int (z_fn 0 (A 4) (x + 3).toNatClampNeg)]) (v := some (.int 101)) (T1 := (hC A E N V W ++ g, c)) rfl rfl ⟨⟨by omega, by omega⟩, (by decide : (1 : Nat) ≤ 8), (by decide +kernel : (2 : Nat) ≤ z_pg.2.1 39)⟩ hRm (s39_22_3 hRm (by omega) (by omega)) ⟨⟨trivial, trivial⟩, ⟨trivial, (z_sm0C 0 (by decide) rfl rfl), (Or.inl (by decide)), trivial, trivial⟩⟩ ?_
  by_cases hb : (z_fn 0 (A 4) (x + 3).toNatClampNeg) = 101
  · refine z_Ln.blk (pc' := (if decide ((z_fn 0 (A 4) (x + 3).toNatClampNeg) = 101) = true then 28 else 26)) (lv' := [(3, .int 3), (0, .ref 110), (1, .ref 84), (2, .int x)]) (st' := []) (H' := hC A E N V W ++ g) (C := []) 15 1 rfl trivial (z_Ln.brT (decide_eq_true hb) ?_)
    refine z_Ln.blk (pc' := 2) (lv' := [(3, .int 4), (0, .ref 110), (1, .ref 84), (2, .int x)]) (st' := []) (H' := hC A E N V W ++ g) (C := []) 18 2 rfl trivial ?_
    have e : decide ((z_fn 0 (A 4) (x + 3).toNatClampNeg) = 101) = true := decide_eq_true hb
    rw [e]
    exact s38_22_4 (x := x) hRm hf hw 
  · refine z_Ln.blk (pc' := (if decide ((z_fn 0 (A 4) (x + 3).toNatClampNeg) = 101) = true then 28 else 26)) (lv' := [(3, .int 3), (0, .ref 110), (1, .ref 84), (2, .int x)]) (st' := []) (H' := hC A E N V W ++ g) (C := []) 15 1 rfl trivial (z_Ln.brF (decide_eq_false hb) ?_)
    have e : decide ((z_fn 0 (A 4) (x + 3).toNatClampNeg) = 101) = false := decide_eq_false hb
    rw [e]
    refine z_Ln.blk (pc' := 27) (lv' := [(3, .int 3), (0, .ref 110), (1, .ref 84), (2, .int x)]) (st' := [.int 0]) (H' := hC A E N V W ++ g) (C := []) 16 1 rfl trivial ?_
    exact z_Ln.ret rfl (z_retB (Or.inl rfl))
set_option maxRecDepth 10000 in
theorem s38_22_2 {L : Nat} {xs : Nat → Int32} {fv : Value} {f w : Nat} {c : Nat × Nat} {A : Nat → List (Nat × Int32)} {E : List (Nat × Option Nat)} {N : Nat → Nat} {V : Nat → Nat → Int32} {W : Nat} {g : List z_E} {x : Int32} (hRm : z_Rm (hC A E N V W ++ g, c)) (hf : 4 ≤ f) (hw : 400 ≤ w) (h2 : z_in (x + 2) 1500 = true) (h3 : z_in (x + 3) 1500 = true) : z_Ln L xs fv f w 38 2 [(3, .int 2), (0, .ref 110), (1, .ref 84), (2, .int x)] [] (hC A E N V W ++ g, c) (.inl (some (.int (z_B1 (decide (z_fn 0 (A 4) (x + 2).toNatClampNeg = 115) && decide (z_fn 0 (A 4) (x + 3).toNatClampNeg = 101)))))) (hC A E N V W ++ g, c) := by
  have m36 : z_pg.2.1 36 = 1 := rfl
  have m39 : z_pg.2.1 39 = 2 := rfl
  refine z_Ln.blk (pc' := 4) (lv' := [(3, .int 2), (0, .ref 110), (1, .ref 84), (2, .int x)]) (st' := [.ref 84, .int 2]) (H' := hC A E N V W ++ g) (C := []) 2 2 rfl trivial ?_
  refine z_Ln.call (s := 0) (mj := 36) (as := [.ref 84]) (rr := [.int 2]) (v := some (.int 4)) (T1 := (hC A E N V W ++ g, c)) rfl rfl ⟨⟨by omega, by omega⟩, (by decide : (1 : Nat) ≤ 8), (by decide +kernel : (1 : Nat) ≤ z_pg.2.1 36)⟩ hRm (s36_22 hRm (by omega) (by omega)) ⟨⟨trivial, trivial⟩, ⟨trivial, (z_sm0C 0 (by decide) rfl rfl), (Or.inl (by decide)), trivial, trivial⟩⟩ ?_
  refine z_Ln.blk (pc' := (if decide (4 ≤ 2) = true then 34 else 10)) (lv' := [(3, .int 2), (0, .ref 110), (1, .ref 84), (2, .int x)]) (st' := []) (H' := hC A E N V W ++ g) (C := []) 5 1 rfl trivial (z_Ln.brF (decide_eq_false (by decide)) ?_)
  refine z_Ln.blk (pc' := 20) (lv' := [(3, .int 2), (0, .ref 110), (1, .ref 84), (2, .int x)]) (st' := [.int 2, .ref 84, .int (z_fn 0 (A 4) (x + 2).toNatClampNeg)]) (H' := hC A E N V W ++ g) (C := [z_in (x + 2) 1500 = true]) 6 8 rfl h2 ?_
  refine z_Ln.call (s := 0) (mj := 39) (as := [.ref 84, .int 2]) (rr := [.int (z_fn 0 (A 4) (x + 2).toNatClampNeg)]) (v := some (.int 115)) (T1 := (hC A E N V W ++ g, c)) rfl rfl ⟨⟨by omega, by omega⟩, (by decide : (1 : Nat) ≤ 8), (by decide +kernel : (2 : Nat) ≤ z_pg.2.1 39)⟩ hRm (s39_22_2 hRm (by omega) (by omega)) ⟨⟨trivial, trivial⟩, ⟨trivial, (z_sm0C 0 (by decide) rfl rfl), (Or.inl (by decide)), trivial, trivial⟩⟩ ?_
  by_cases hb : (z_fn 0 (A 4) (x + 2).toNatClampNeg) = 115
  · refine z_Ln.blk (pc' := (if decide ((z_fn 0 (A 4) (x + 2).toNatClampNeg) = 115) = true then 28 else 26)) (lv' := [(3, .int 2), (0, .ref 110), (1, .ref 84), (2, .int x)]) (st' := []) (H' := hC A E N V W ++ g) (C := []) 15 1 rfl trivial (z_Ln.brT (decide_eq_true hb) ?_)
    refine z_Ln.blk (pc' := 2) (lv' := [(3, .int 3), (0, .ref 110), (1, .ref 84), (2, .int x)]) (st' := []) (H' := hC A E N V W ++ g) (C := []) 18 2 rfl trivial ?_
    have e : decide ((z_fn 0 (A 4) (x + 2).toNatClampNeg) = 115) = true := decide_eq_true hb
    rw [e]
    simp only [Bool.true_and]
    exact s38_22_3 (x := x) hRm hf hw h3
  · refine z_Ln.blk (pc' := (if decide ((z_fn 0 (A 4) (x + 2).toNatClampNeg) = 115) = true then 28 else 26)) (lv' := [(3, .int 2), (0, .ref 110), (1, .ref 84), (2, .int x)]) (st' := []) (H' := hC A E N V W ++ g) (C := []) 15 1 rfl trivial (z_Ln.brF (decide_eq_false hb) ?_)
    have e : decide ((z_fn 0 (A 4) (x + 2).toNatClampNeg) = 115) = false := decide_eq_false hb
    rw [e]
    simp only [Bool.false_and]
    refine z_Ln.blk (pc' := 27) (lv' := [(3, .int 2), (0, .ref 110), (1, .ref 84), (2, .int x)]) (st' := [.int 0]) (H' := hC A E N V W ++ g) (C := []) 16 1 rfl trivial ?_
    exact z_Ln.ret rfl (z_retB (Or.inl rfl))
set_option maxRecDepth 10000 in
theorem s38_22_1 {L : Nat} {xs : Nat → Int32} {fv : Value} {f w : Nat} {c : Nat × Nat} {A : Nat → List (Nat × Int32)} {E : List (Nat × Option Nat)} {N : Nat → Nat} {V : Nat → Nat → Int32} {W : Nat} {g : List z_E} {x : Int32} (hRm : z_Rm (hC A E N V W ++ g, c)) (hf : 4 ≤ f) (hw : 400 ≤ w) (h1 : z_in (x + 1) 1500 = true) (h2 : z_in (x + 2) 1500 = true) (h3 : z_in (x + 3) 1500 = true) : z_Ln L xs fv f w 38 2 [(3, .int 1), (0, .ref 110), (1, .ref 84), (2, .int x)] [] (hC A E N V W ++ g, c) (.inl (some (.int (z_B1 (decide (z_fn 0 (A 4) (x + 1).toNatClampNeg = 108) && decide (z_fn 0 (A 4) (x + 2).toNatClampNeg = 115) && decide (z_fn 0 (A 4) (x + 3).toNatClampNeg = 101)))))) (hC A E N V W ++ g, c) := by
  have m36 : z_pg.2.1 36 = 1 := rfl
  have m39 : z_pg.2.1 39 = 2 := rfl
  refine z_Ln.blk (pc' := 4) (lv' := [(3, .int 1), (0, .ref 110), (1, .ref 84), (2, .int x)]) (st' := [.ref 84, .int 1]) (H' := hC A E N V W ++ g) (C := []) 2 2 rfl trivial ?_
  refine z_Ln.call (s := 0) (mj := 36) (as := [.ref 84]) (rr := [.int 1]) (v := some (.int 4)) (T1 := (hC A E N V W ++ g, c)) rfl rfl ⟨⟨by omega, by omega⟩, (by decide : (1 : Nat) ≤ 8), (by decide +kernel : (1 : Nat) ≤ z_pg.2.1 36)⟩ hRm (s36_22 hRm (by omega) (by omega)) ⟨⟨trivial, trivial⟩, ⟨trivial, (z_sm0C 0 (by decide) rfl rfl), (Or.inl (by decide)), trivial, trivial⟩⟩ ?_
  refine z_Ln.blk (pc' := (if decide (4 ≤ 1) = true then 34 else 10)) (lv' := [(3, .int 1), (0, .ref 110), (1, .ref 84), (2, .int x)]) (st' := []) (H' := hC A E N V W ++ g) (C := []) 5 1 rfl trivial (z_Ln.brF (decide_eq_false (by decide)) ?_)
  refine z_Ln.blk (pc' := 20) (lv' := [(3, .int 1), (0, .ref 110), (1, .ref 84), (2, .int x)]) (st' := [.int 1, .ref 84, .int (z_fn 0 (A 4) (x + 1).toNatClampNeg)]) (H' := hC A E N V W ++ g) (C := [z_in (x + 1) 1500 = true]) 6 8 rfl h1 ?_
  refine z_Ln.call (s := 0) (mj := 39) (as := [.ref 84, .int 1]) (rr := [.int (z_fn 0 (A 4) (x + 1).toNatClampNeg)]) (v := some (.int 108)) (T1 := (hC A E N V W ++ g, c)) rfl rfl ⟨⟨by omega, by omega⟩, (by decide : (1 : Nat) ≤ 8), (by decide +kernel : (2 : Nat) ≤ z_pg.2.1 39)⟩ hRm (s39_22_1 hRm (by omega) (by omega)) ⟨⟨trivial, trivial⟩, ⟨trivial, (z_sm0C 0 (by decide) rfl rfl), (Or.inl (by decide)), trivial, trivial⟩⟩ ?_
  by_cases hb : (z_fn 0 (A 4) (x + 1).toNatClampNeg) = 108
  · refine z_Ln.blk (pc' := (if decide ((z_fn 0 (A 4) (x + 1).toNatClampNeg) = 108) = true then 28 else 26)) (lv' := [(3, .int 1), (0, .ref 110), (1, .ref 84), (2, .int x)]) (st' := []) (H' := hC A E N V W ++ g) (C := []) 15 1 rfl trivial (z_Ln.brT (decide_eq_true hb) ?_)
    refine z_Ln.blk (pc' := 2) (lv' := [(3, .int 2), (0, .ref 110), (1, .ref 84), (2, .int x)]) (st' := []) (H' := hC A E N V W ++ g) (C := []) 18 2 rfl trivial ?_
    have e : decide ((z_fn 0 (A 4) (x + 1).toNatClampNeg) = 108) = true := decide_eq_true hb
    rw [e]
    simp only [Bool.true_and]
    exact s38_22_2 (x := x) hRm hf hw h2 h3
  · refine z_Ln.blk (pc' := (if decide ((z_fn 0 (A 4) (x + 1).toNatClampNeg) = 108) = true then 28 else 26)) (lv' := [(3, .int 1), (0, .ref 110), (1, .ref 84), (2, .int x)]) (st' := []) (H' := hC A E N V W ++ g) (C := []) 15 1 rfl trivial (z_Ln.brF (decide_eq_false hb) ?_)
    have e : decide ((z_fn 0 (A 4) (x + 1).toNatClampNeg) = 108) = false := decide_eq_false hb
    rw [e]
    simp only [Bool.false_and]
    refine z_Ln.blk (pc' := 27) (lv' := [(3, .int 1), (0, .ref 110), (1, .ref 84), (2, .int x)]) (st' := [.int 0]) (H' := hC A E N V W ++ g) (C := []) 16 1 rfl trivial ?_
    exact z_Ln.ret rfl (z_retB (Or.inl rfl))
set_option maxRecDepth 10000 in
theorem s38_22_0 {L : Nat} {xs : Nat → Int32} {fv : Value} {f w : Nat} {c : Nat × Nat} {A : Nat → List (Nat × Int32)} {E : List (Nat × Option Nat)} {N : Nat → Nat} {V : Nat → Nat → Int32} {W : Nat} {g : List z_E} {x : Int32} (hRm : z_Rm (hC A E N V W ++ g, c)) (hf : 4 ≤ f) (hw : 400 ≤ w) (h0 : z_in (x + 0) 1500 = true) (h1 : z_in (x + 1) 1500 = true) (h2 : z_in (x + 2) 1500 = true) (h3 : z_in (x + 3) 1500 = true) : z_Ln L xs fv f w 38 2 [(3, .int 0), (0, .ref 110), (1, .ref 84), (2, .int x)] [] (hC A E N V W ++ g, c) (.inl (some (.int (z_B1 (decide (z_fn 0 (A 4) (x + 0).toNatClampNeg = 101) && decide (z_fn 0 (A 4) (x + 1).toNatClampNeg = 108) && decide (z_fn 0 (A 4) (x + 2).toNatClampNeg = 115) && decide (z_fn 0 (A 4) (x + 3).toNatClampNeg = 101)))))) (hC A E N V W ++ g, c) := by
  have m36 : z_pg.2.1 36 = 1 := rfl
  have m39 : z_pg.2.1 39 = 2 := rfl
  refine z_Ln.blk (pc' := 4) (lv' := [(3, .int 0), (0, .ref 110), (1, .ref 84), (2, .int x)]) (st' := [.ref 84, .int 0]) (H' := hC A E N V W ++ g) (C := []) 2 2 rfl trivial ?_
  refine z_Ln.call (s := 0) (mj := 36) (as := [.ref 84]) (rr := [.int 0]) (v := some (.int 4)) (T1 := (hC A E N V W ++ g, c)) rfl rfl ⟨⟨by omega, by omega⟩, (by decide : (1 : Nat) ≤ 8), (by decide +kernel : (1 : Nat) ≤ z_pg.2.1 36)⟩ hRm (s36_22 hRm (by omega) (by omega)) ⟨⟨trivial, trivial⟩, ⟨trivial, (z_sm0C 0 (by decide) rfl rfl), (Or.inl (by decide)), trivial, trivial⟩⟩ ?_
  refine z_Ln.blk (pc' := (if decide (4 ≤ 0) = true then 34 else 10)) (lv' := [(3, .int 0), (0, .ref 110), (1, .ref 84), (2, .int x)]) (st' := []) (H' := hC A E N V W ++ g) (C := []) 5 1 rfl trivial (z_Ln.brF (decide_eq_false (by decide)) ?_)
  refine z_Ln.blk (pc' := 20) (lv' := [(3, .int 0), (0, .ref 110), (1, .ref 84), (2, .int x)]) (st' := [.int 0, .ref 84, .int (z_fn 0 (A 4) (x + 0).toNatClampNeg)]) (H' := hC A E N V W ++ g) (C := [z_in (x + 0) 1500 = true]) 6 8 rfl h0 ?_
  refine z_Ln.call (s := 0) (mj := 39) (as := [.ref 84, .int 0]) (rr := [.int (z_fn 0 (A 4) (x + 0).toNatClampNeg)]) (v := some (.int 101)) (T1 := (hC A E N V W ++ g, c)) rfl rfl ⟨⟨by omega, by omega⟩, (by decide : (1 : Nat) ≤ 8), (by decide +kernel : (2 : Nat) ≤ z_pg.2.1 39)⟩ hRm (s39_22_0 hRm (by omega) (by omega)) ⟨⟨trivial, trivial⟩, ⟨trivial, (z_sm0C 0 (by decide) rfl rfl), (Or.inl (by decide)), trivial, trivial⟩⟩ ?_
  by_cases hb : (z_fn 0 (A 4) (x + 0).toNatClampNeg) = 101
  · refine z_Ln.blk (pc' := (if decide ((z_fn 0 (A 4) (x + 0).toNatClampNeg) = 101) = true then 28 else 26)) (lv' := [(3, .int 0), (0, .ref 110), (1, .ref 84), (2, .int x)]) (st' := []) (H' := hC A E N V W ++ g) (C := []) 15 1 rfl trivial (z_Ln.brT (decide_eq_true hb) ?_)
    refine z_Ln.blk (pc' := 2) (lv' := [(3, .int 1), (0, .ref 110), (1, .ref 84), (2, .int x)]) (st' := []) (H' := hC A E N V W ++ g) (C := []) 18 2 rfl trivial ?_
    have e : decide ((z_fn 0 (A 4) (x + 0).toNatClampNeg) = 101) = true := decide_eq_true hb
    rw [e]
    simp only [Bool.true_and]
    exact s38_22_1 (x := x) hRm hf hw h1 h2 h3
  · refine z_Ln.blk (pc' := (if decide ((z_fn 0 (A 4) (x + 0).toNatClampNeg) = 101) = true then 28 else 26)) (lv' := [(3, .int 0), (0, .ref 110), (1, .ref 84), (2, .int x)]) (st' := []) (H' := hC A E N V W ++ g) (C := []) 15 1 rfl trivial (z_Ln.brF (decide_eq_false hb) ?_)
    have e : decide ((z_fn 0 (A 4) (x + 0).toNatClampNeg) = 101) = false := decide_eq_false hb
    rw [e]
    simp only [Bool.false_and]
    refine z_Ln.blk (pc' := 27) (lv' := [(3, .int 0), (0, .ref 110), (1, .ref 84), (2, .int x)]) (st' := [.int 0]) (H' := hC A E N V W ++ g) (C := []) 16 1 rfl trivial ?_
    exact z_Ln.ret rfl (z_retB (Or.inl rfl))
set_option maxRecDepth 10000 in
theorem s38_23_2 {L : Nat} {xs : Nat → Int32} {fv : Value} {f w : Nat} {c : Nat × Nat} {A : Nat → List (Nat × Int32)} {E : List (Nat × Option Nat)} {N : Nat → Nat} {V : Nat → Nat → Int32} {W : Nat} {g : List z_E} {x : Int32} (hRm : z_Rm (hC A E N V W ++ g, c)) (hf : 4 ≤ f) (hw : 400 ≤ w)  : z_Ln L xs fv f w 38 2 [(3, .int 2), (0, .ref 110), (1, .ref 86), (2, .int x)] [] (hC A E N V W ++ g, c) (.inl (some (.int (z_B1 true)))) (hC A E N V W ++ g, c) := by
  have m36 : z_pg.2.1 36 = 1 := rfl
  refine z_Ln.blk (pc' := 4) (lv' := [(3, .int 2), (0, .ref 110), (1, .ref 86), (2, .int x)]) (st' := [.ref 86, .int 2]) (H' := hC A E N V W ++ g) (C := []) 2 2 rfl trivial ?_
  refine z_Ln.call (s := 0) (mj := 36) (as := [.ref 86]) (rr := [.int 2]) (v := some (.int 2)) (T1 := (hC A E N V W ++ g, c)) rfl rfl ⟨⟨by omega, by have : z_pg.2.1 36 = 1 := rfl; omega⟩, (by decide : (1 : Nat) ≤ 8), (by decide +kernel : (1 : Nat) ≤ z_pg.2.1 36)⟩ hRm (s36_23 hRm (by omega) (by omega)) ⟨⟨trivial, trivial⟩, ⟨trivial, (z_sm0C 0 (by decide) rfl rfl), (Or.inl (by decide)), trivial, trivial⟩⟩ ?_
  refine z_Ln.blk (pc' := (if decide (2 ≤ 2) = true then 34 else 10)) (lv' := [(3, .int 2), (0, .ref 110), (1, .ref 86), (2, .int x)]) (st' := []) (H' := hC A E N V W ++ g) (C := []) 5 1 rfl trivial (z_Ln.brT (decide_eq_true (by decide)) ?_)
  refine z_Ln.blk (pc' := 35) (lv' := [(3, .int 2), (0, .ref 110), (1, .ref 86), (2, .int x)]) (st' := [.int 1]) (H' := hC A E N V W ++ g) (C := []) 20 1 rfl trivial ?_
  exact z_Ln.ret rfl (z_retB (Or.inr rfl))
set_option maxRecDepth 10000 in
theorem s38_23_1 {L : Nat} {xs : Nat → Int32} {fv : Value} {f w : Nat} {c : Nat × Nat} {A : Nat → List (Nat × Int32)} {E : List (Nat × Option Nat)} {N : Nat → Nat} {V : Nat → Nat → Int32} {W : Nat} {g : List z_E} {x : Int32} (hRm : z_Rm (hC A E N V W ++ g, c)) (hf : 4 ≤ f) (hw : 400 ≤ w) (h1 : z_in (x + 1) 1500 = true) : z_Ln L xs fv f w 38 2 [(3, .int 1), (0, .ref 110), (1, .ref 86), (2, .int x)] [] (hC A E N V W ++ g, c) (.inl (some (.int (z_B1 (decide (z_fn 0 (A 4) (x + 1).toNatClampNeg = 110)))))) (hC A E N V W ++ g, c) := by
  have m36 : z_pg.2.1 36 = 1 := rfl
  have m39 : z_pg.2.1 39 = 2 := rfl
  refine z_Ln.blk (pc' := 4) (lv' := [(3, .int 1), (0, .ref 110), (1, .ref 86), (2, .int x)]) (st' := [.ref 86, .int 1]) (H' := hC A E N V W ++ g) (C := []) 2 2 rfl trivial ?_
  refine z_Ln.call (s := 0) (mj := 36) (as := [.ref 86]) (rr := [.int 1]) (v := some (.int 2)) (T1 := (hC A E N V W ++ g, c)) rfl rfl ⟨⟨by omega, by omega⟩, (by decide : (1 : Nat) ≤ 8), (by decide +kernel : (1 : Nat) ≤ z_pg.2.1 36)⟩ hRm (s36_23 hRm (by omega) (by omega)) ⟨⟨trivial, trivial⟩, ⟨trivial, (z_sm0C 0 (by decide) rfl rfl), (Or.inl (by decide)), trivial, trivial⟩⟩ ?_
  refine z_Ln.blk (pc' := (if decide (2 ≤ 1) = true then 34 else 10)) (lv' := [(3, .int 1), (0, .ref 110), (1, .ref 86), (2, .int x)]) (st' := []) (H' := hC A E N V W ++ g) (C := []) 5 1 rfl trivial (z_Ln.brF (decide_eq_false (by decide)) ?_)
  refine z_Ln.blk (pc' := 20) (lv' := [(3, .int 1), (0, .ref 110), (1, .ref 86), (2, .int x)]) (st' := [.int 1, .ref 86, .int (z_fn 0 (A 4) (x + 1).toNatClampNeg)]) (H' := hC A E N V W ++ g) (C := [z_in (x + 1) 1500 = true]) 6 8 rfl h1 ?_
  refine z_Ln.call (s := 0) (mj := 39) (as := [.ref 86, .int 1]) (rr := [.int (z_fn 0 (A 4) (x + 1).toNatClampNeg)]) (v := some (.int 110)) (T1 := (hC A E N V W ++ g, c)) rfl rfl ⟨⟨by omega, by omega⟩, (by decide : (1 : Nat) ≤ 8), (by decide +kernel : (2 : Nat) ≤ z_pg.2.1 39)⟩ hRm (s39_23_1 hRm (by omega) (by omega)) ⟨⟨trivial, trivial⟩, ⟨trivial, (z_sm0C 0 (by decide) rfl rfl), (Or.inl (by decide)), trivial, trivial⟩⟩ ?_
  by_cases hb : (z_fn 0 (A 4) (x + 1).toNatClampNeg) = 110
  · refine z_Ln.blk (pc' := (if decide ((z_fn 0 (A 4) (x + 1).toNatClampNeg) = 110) = true then 28 else 26)) (lv' := [(3, .int 1), (0, .ref 110), (1, .ref 86), (2, .int x)]) (st' := []) (H' := hC A E N V W ++ g) (C := []) 15 1 rfl trivial (z_Ln.brT (decide_eq_true hb) ?_)
    refine z_Ln.blk (pc' := 2) (lv' := [(3, .int 2), (0, .ref 110), (1, .ref 86), (2, .int x)]) (st' := []) (H' := hC A E N V W ++ g) (C := []) 18 2 rfl trivial ?_
    have e : decide ((z_fn 0 (A 4) (x + 1).toNatClampNeg) = 110) = true := decide_eq_true hb
    rw [e]
    exact s38_23_2 (x := x) hRm hf hw 
  · refine z_Ln.blk (pc' := (if decide ((z_fn 0 (A 4) (x + 1).toNatClampNeg) = 110) = true then 28 else 26)) (lv' := [(3, .int 1), (0, .ref 110), (1, .ref 86), (2, .int x)]) (st' := []) (H' := hC A E N V W ++ g) (C := []) 15 1 rfl trivial (z_Ln.brF (decide_eq_false hb) ?_)
    have e : decide ((z_fn 0 (A 4) (x + 1).toNatClampNeg) = 110) = false := decide_eq_false hb
    rw [e]
    refine z_Ln.blk (pc' := 27) (lv' := [(3, .int 1), (0, .ref 110), (1, .ref 86), (2, .int x)]) (st' := [.int 0]) (H' := hC A E N V W ++ g) (C := []) 16 1 rfl trivial ?_
    exact z_Ln.ret rfl (z_retB (Or.inl rfl))
set_option maxRecDepth 10000 in
theorem s38_23_0 {L : Nat} {xs : Nat → Int32} {fv : Value} {f w : Nat} {c : Nat × Nat} {A : Nat → List (Nat × Int32)} {E : List (Nat × Option Nat)} {N : Nat → Nat} {V : Nat → Nat → Int32} {W : Nat} {g : List z_E} {x : Int32} (hRm : z_Rm (hC A E N V W ++ g, c)) (hf : 4 ≤ f) (hw : 400 ≤ w) (h0 : z_in (x + 0) 1500 = true) (h1 : z_in (x + 1) 1500 = true) : z_Ln L xs fv f w 38 2 [(3, .int 0), (0, .ref 110), (1, .ref 86), (2, .int x)] [] (hC A E N V W ++ g, c) (.inl (some (.int (z_B1 (decide (z_fn 0 (A 4) (x + 0).toNatClampNeg = 102) && decide (z_fn 0 (A 4) (x + 1).toNatClampNeg = 110)))))) (hC A E N V W ++ g, c) := by
  have m36 : z_pg.2.1 36 = 1 := rfl
  have m39 : z_pg.2.1 39 = 2 := rfl
  refine z_Ln.blk (pc' := 4) (lv' := [(3, .int 0), (0, .ref 110), (1, .ref 86), (2, .int x)]) (st' := [.ref 86, .int 0]) (H' := hC A E N V W ++ g) (C := []) 2 2 rfl trivial ?_
  refine z_Ln.call (s := 0) (mj := 36) (as := [.ref 86]) (rr := [.int 0]) (v := some (.int 2)) (T1 := (hC A E N V W ++ g, c)) rfl rfl ⟨⟨by omega, by omega⟩, (by decide : (1 : Nat) ≤ 8), (by decide +kernel : (1 : Nat) ≤ z_pg.2.1 36)⟩ hRm (s36_23 hRm (by omega) (by omega)) ⟨⟨trivial, trivial⟩, ⟨trivial, (z_sm0C 0 (by decide) rfl rfl), (Or.inl (by decide)), trivial, trivial⟩⟩ ?_
  refine z_Ln.blk (pc' := (if decide (2 ≤ 0) = true then 34 else 10)) (lv' := [(3, .int 0), (0, .ref 110), (1, .ref 86), (2, .int x)]) (st' := []) (H' := hC A E N V W ++ g) (C := []) 5 1 rfl trivial (z_Ln.brF (decide_eq_false (by decide)) ?_)
  refine z_Ln.blk (pc' := 20) (lv' := [(3, .int 0), (0, .ref 110), (1, .ref 86), (2, .int x)]) (st' := [.int 0, .ref 86, .int (z_fn 0 (A 4) (x + 0).toNatClampNeg)]) (H' := hC A E N V W ++ g) (C := [z_in (x + 0) 1500 = true]) 6 8 rfl h0 ?_
  refine z_Ln.call (s := 0) (mj := 39) (as := [.ref 86, .int 0]) (rr := [.int (z_fn 0 (A 4) (x + 0).toNatClampNeg)]) (v := some (.int 102)) (T1 := (hC A E N V W ++ g, c)) rfl rfl ⟨⟨by omega, by omega⟩, (by decide : (1 : Nat) ≤ 8), (by decide +kernel : (2 : Nat) ≤ z_pg.2.1 39)⟩ hRm (s39_23_0 hRm (by omega) (by omega)) ⟨⟨trivial, trivial⟩, ⟨trivial, (z_sm0C 0 (by decide) rfl rfl), (Or.inl (by decide)), trivial, trivial⟩⟩ ?_
  by_cases hb : (z_fn 0 (A 4) (x + 0).toNatClampNeg) = 102
  · refine z_Ln.blk (pc' := (if decide ((z_fn 0 (A 4) (x + 0).toNatClampNeg) = 102) = true then 28 else 26)) (lv' := [(3, .int 0), (0, .ref 110), (1, .ref 86), (2, .int x)]) (st' := []) (H' := hC A E N V W ++ g) (C := []) 15 1 rfl trivial (z_Ln.brT (decide_eq_true hb) ?_)
    refine z_Ln.blk (pc' := 2) (lv' := [(3, .int 1), (0, .ref 110), (1, .ref 86), (2, .int x)]) (st' := []) (H' := hC A E N V W ++ g) (C := []) 18 2 rfl trivial ?_
    have e : decide ((z_fn 0 (A 4) (x + 0).toNatClampNeg) = 102) = true := decide_eq_true hb
    rw [e]
    simp only [Bool.true_and]
    exact s38_23_1 (x := x) hRm hf hw h1
  · refine z_Ln.blk (pc' := (if decide ((z_fn 0 (A 4) (x + 0).toNatClampNeg) = 102) = true then 28 else 26)) (lv' := [(3, .int 0), (0, .ref 110), (1, .ref 86), (2, .int x)]) (st' := []) (H' := hC A E N V W ++ g) (C := []) 15 1 rfl trivial (z_Ln.brF (decide_eq_false hb) ?_)
    have e : decide ((z_fn 0 (A 4) (x + 0).toNatClampNeg) = 102) = false := decide_eq_false hb
    rw [e]
    simp only [Bool.false_and]
    refine z_Ln.blk (pc' := 27) (lv' := [(3, .int 0), (0, .ref 110), (1, .ref 86), (2, .int x)]) (st' := [.int 0]) (H' := hC A E N V W ++ g) (C := []) 16 1 rfl trivial ?_
    exact z_Ln.ret rfl (z_retB (Or.inl rfl))
set_option maxRecDepth 10000 in
theorem s38_24_6 {L : Nat} {xs : Nat → Int32} {fv : Value} {f w : Nat} {c : Nat × Nat} {A : Nat → List (Nat × Int32)} {E : List (Nat × Option Nat)} {N : Nat → Nat} {V : Nat → Nat → Int32} {W : Nat} {g : List z_E} {x : Int32} (hRm : z_Rm (hC A E N V W ++ g, c)) (hf : 4 ≤ f) (hw : 400 ≤ w)  : z_Ln L xs fv f w 38 2 [(3, .int 6), (0, .ref 110), (1, .ref 88), (2, .int x)] [] (hC A E N V W ++ g, c) (.inl (some (.int (z_B1 true)))) (hC A E N V W ++ g, c) := by
  have m36 : z_pg.2.1 36 = 1 := rfl
  refine z_Ln.blk (pc' := 4) (lv' := [(3, .int 6), (0, .ref 110), (1, .ref 88), (2, .int x)]) (st' := [.ref 88, .int 6]) (H' := hC A E N V W ++ g) (C := []) 2 2 rfl trivial ?_
  refine z_Ln.call (s := 0) (mj := 36) (as := [.ref 88]) (rr := [.int 6]) (v := some (.int 6)) (T1 := (hC A E N V W ++ g, c)) rfl rfl ⟨⟨by omega, by have : z_pg.2.1 36 = 1 := rfl; omega⟩, (by decide : (1 : Nat) ≤ 8), (by decide +kernel : (1 : Nat) ≤ z_pg.2.1 36)⟩ hRm (s36_24 hRm (by omega) (by omega)) ⟨⟨trivial, trivial⟩, ⟨trivial, (z_sm0C 0 (by decide) rfl rfl), (Or.inl (by decide)), trivial, trivial⟩⟩ ?_
  refine z_Ln.blk (pc' := (if decide (6 ≤ 6) = true then 34 else 10)) (lv' := [(3, .int 6), (0, .ref 110), (1, .ref 88), (2, .int x)]) (st' := []) (H' := hC A E N V W ++ g) (C := []) 5 1 rfl trivial (z_Ln.brT (decide_eq_true (by decide)) ?_)
  refine z_Ln.blk (pc' := 35) (lv' := [(3, .int 6), (0, .ref 110), (1, .ref 88), (2, .int x)]) (st' := [.int 1]) (H' := hC A E N V W ++ g) (C := []) 20 1 rfl trivial ?_
  exact z_Ln.ret rfl (z_retB (Or.inr rfl))
set_option maxRecDepth 10000 in
theorem s38_24_5 {L : Nat} {xs : Nat → Int32} {fv : Value} {f w : Nat} {c : Nat × Nat} {A : Nat → List (Nat × Int32)} {E : List (Nat × Option Nat)} {N : Nat → Nat} {V : Nat → Nat → Int32} {W : Nat} {g : List z_E} {x : Int32} (hRm : z_Rm (hC A E N V W ++ g, c)) (hf : 4 ≤ f) (hw : 400 ≤ w) (h5 : z_in (x + 5) 1500 = true) : z_Ln L xs fv f w 38 2 [(3, .int 5), (0, .ref 110), (1, .ref 88), (2, .int x)] [] (hC A E N V W ++ g, c) (.inl (some (.int (z_B1 (decide (z_fn 0 (A 4) (x + 5).toNatClampNeg = 101)))))) (hC A E N V W ++ g, c) := by
  have m36 : z_pg.2.1 36 = 1 := rfl
  have m39 : z_pg.2.1 39 = 2 := rfl
  refine z_Ln.blk (pc' := 4) (lv' := [(3, .int 5), (0, .ref 110), (1, .ref 88), (2, .int x)]) (st' := [.ref 88, .int 5]) (H' := hC A E N V W ++ g) (C := []) 2 2 rfl trivial ?_
  refine z_Ln.call (s := 0) (mj := 36) (as := [.ref 88]) (rr := [.int 5]) (v := some (.int 6)) (T1 := (hC A E N V W ++ g, c)) rfl rfl ⟨⟨by omega, by omega⟩, (by decide : (1 : Nat) ≤ 8), (by decide +kernel : (1 : Nat) ≤ z_pg.2.1 36)⟩ hRm (s36_24 hRm (by omega) (by omega)) ⟨⟨trivial, trivial⟩, ⟨trivial, (z_sm0C 0 (by decide) rfl rfl), (Or.inl (by decide)), trivial, trivial⟩⟩ ?_
  refine z_Ln.blk (pc' := (if decide (6 ≤ 5) = true then 34 else 10)) (lv' := [(3, .int 5), (0, .ref 110), (1, .ref 88), (2, .int x)]) (st' := []) (H' := hC A E N V W ++ g) (C := []) 5 1 rfl trivial (z_Ln.brF (decide_eq_false (by decide)) ?_)
  refine z_Ln.blk (pc' := 20) (lv' := [(3, .int 5), (0, .ref 110), (1, .ref 88), (2, .int x)]) (st' := [.int 5, .ref 88, .int (z_fn 0 (A 4) (x + 5).toNatClampNeg)]) (H' := hC A E N V W ++ g) (C := [z_in (x + 5) 1500 = true]) 6 8 rfl h5 ?_
  refine z_Ln.call (s := 0) (mj := 39) (as := [.ref 88, .int 5]) (rr := [.int (z_fn 0 (A 4) (x + 5).toNatClampNeg)]) (v := some (.int 101)) (T1 := (hC A E N V W ++ g, c)) rfl rfl ⟨⟨by omega, by omega⟩, (by decide : (1 : Nat) ≤ 8), (by decide +kernel : (2 : Nat) ≤ z_pg.2.1 39)⟩ hRm (s39_24_5 hRm (by omega) (by omega)) ⟨⟨trivial, trivial⟩, ⟨trivial, (z_sm0C 0 (by decide) rfl rfl), (Or.inl (by decide)), trivial, trivial⟩⟩ ?_
  by_cases hb : (z_fn 0 (A 4) (x + 5).toNatClampNeg) = 101
  · refine z_Ln.blk (pc' := (if decide ((z_fn 0 (A 4) (x + 5).toNatClampNeg) = 101) = true then 28 else 26)) (lv' := [(3, .int 5), (0, .ref 110), (1, .ref 88), (2, .int x)]) (st' := []) (H' := hC A E N V W ++ g) (C := []) 15 1 rfl trivial (z_Ln.brT (decide_eq_true hb) ?_)
    refine z_Ln.blk (pc' := 2) (lv' := [(3, .int 6), (0, .ref 110), (1, .ref 88), (2, .int x)]) (st' := []) (H' := hC A E N V W ++ g) (C := []) 18 2 rfl trivial ?_
    have e : decide ((z_fn 0 (A 4) (x + 5).toNatClampNeg) = 101) = true := decide_eq_true hb
    rw [e]
    exact s38_24_6 (x := x) hRm hf hw 
  · refine z_Ln.blk (pc' := (if decide ((z_fn 0 (A 4) (x + 5).toNatClampNeg) = 101) = true then 28 else 26)) (lv' := [(3, .int 5), (0, .ref 110), (1, .ref 88), (2, .int x)]) (st' := []) (H' := hC A E N V W ++ g) (C := []) 15 1 rfl trivial (z_Ln.brF (decide_eq_false hb) ?_)
    have e : decide ((z_fn 0 (A 4) (x + 5).toNatClampNeg) = 101) = false := decide_eq_false hb
    rw [e]
    refine z_Ln.blk (pc' := 27) (lv' := [(3, .int 5), (0, .ref 110), (1, .ref 88), (2, .int x)]) (st' := [.int 0]) (H' := hC A E N V W ++ g) (C := []) 16 1 rfl trivial ?_
    exact z_Ln.ret rfl (z_retB (Or.inl rfl))
set_option maxRecDepth 10000 in
theorem s38_24_4 {L : Nat} {xs : Nat → Int32} {fv : Value} {f w : Nat} {c : Nat × Nat} {A : Nat → List (Nat × Int32)} {E : List (Nat × Option Nat)} {N : Nat → Nat} {V : Nat → Nat → Int32} {W : Nat} {g : List z_E} {x : Int32} (hRm : z_Rm (hC A E N V W ++ g, c)) (hf : 4 ≤ f) (hw : 400 ≤ w) (h4 : z_in (x + 4) 1500 = true) (h5 : z_in (x + 5) 1500 = true) : z_Ln L xs fv f w 38 2 [(3, .int 4), (0, .ref 110), (1, .ref 88), (2, .int x)] [] (hC A E N V W ++ g, c) (.inl (some (.int (z_B1 (decide (z_fn 0 (A 4) (x + 4).toNatClampNeg = 108) && decide (z_fn 0 (A 4) (x + 5).toNatClampNeg = 101)))))) (hC A E N V W ++ g, c) := by
  have m36 : z_pg.2.1 36 = 1 := rfl
  have m39 : z_pg.2.1 39 = 2 := rfl
  refine z_Ln.blk (pc' := 4) (lv' := [(3, .int 4), (0, .ref 110), (1, .ref 88), (2, .int x)]) (st' := [.ref 88, .int 4]) (H' := hC A E N V W ++ g) (C := []) 2 2 rfl trivial ?_
  refine z_Ln.call (s := 0) (mj := 36) (as := [.ref 88]) (rr := [.int 4]) (v := some (.int 6)) (T1 := (hC A E N V W ++ g, c)) rfl rfl ⟨⟨by omega, by omega⟩, (by decide : (1 : Nat) ≤ 8), (by decide +kernel : (1 : Nat) ≤ z_pg.2.1 36)⟩ hRm (s36_24 hRm (by omega) (by omega)) ⟨⟨trivial, trivial⟩, ⟨trivial, (z_sm0C 0 (by decide) rfl rfl), (Or.inl (by decide)), trivial, trivial⟩⟩ ?_
  refine z_Ln.blk (pc' := (if decide (6 ≤ 4) = true then 34 else 10)) (lv' := [(3, .int 4), (0, .ref 110), (1, .ref 88), (2, .int x)]) (st' := []) (H' := hC A E N V W ++ g) (C := []) 5 1 rfl trivial (z_Ln.brF (decide_eq_false (by decide)) ?_)
  refine z_Ln.blk (pc' := 20) (lv' := [(3, .int 4), (0, .ref 110), (1, .ref 88), (2, .int x)]) (st' := [.int 4, .ref 88, .int (z_fn 0 (A 4) (x + 4).toNatClampNeg)]) (H' := hC A E N V W ++ g) (C := [z_in (x + 4) 1500 = true]) 6 8 rfl h4 ?_
  refine z_Ln.call (s := 0) (mj := 39) (as := [.ref 88, .int 4]) (rr := [.int (z_fn 0 (A 4) (x + 4).toNatClampNeg)]) (v := some (.int 108)) (T1 := (hC A E N V W ++ g, c)) rfl rfl ⟨⟨by omega, by omega⟩, (by decide : (1 : Nat) ≤ 8), (by decide +kernel : (2 : Nat) ≤ z_pg.2.1 39)⟩ hRm (s39_24_4 hRm (by omega) (by omega)) ⟨⟨trivial, trivial⟩, ⟨trivial, (z_sm0C 0 (by decide) rfl rfl), (Or.inl (by decide)), trivial, trivial⟩⟩ ?_
  by_cases hb : (z_fn 0 (A 4) (x + 4).toNatClampNeg) = 108
  · refine z_Ln.blk (pc' := (if decide ((z_fn 0 (A 4) (x + 4).toNatClampNeg) = 108) = true then 28 else 26)) (lv' := [(3, .int 4), (0, .ref 110), (1, .ref 88), (2, .int x)]) (st' := []) (H' := hC A E N V W ++ g) (C := []) 15 1 rfl trivial (z_Ln.brT (decide_eq_true hb) ?_)
    refine z_Ln.blk (pc' := 2) (lv' := [(3, .int 5), (0, .ref 110), (1, .ref 88), (2, .int x)]) (st' := []) (H' := hC A E N V W ++ g) (C := []) 18 2 rfl trivial ?_
    have e : decide ((z_fn 0 (A 4) (x + 4).toNatClampNeg) = 108) = true := decide_eq_true hb
    rw [e]
    simp only [Bool.true_and]
    exact s38_24_5 (x := x) hRm hf hw h5
  · refine z_Ln.blk (pc' := (if decide ((z_fn 0 (A 4) (x + 4).toNatClampNeg) = 108) = true then 28 else 26)) (lv' := [(3, .int 4), (0, .ref 110), (1, .ref 88), (2, .int x)]) (st' := []) (H' := hC A E N V W ++ g) (C := []) 15 1 rfl trivial (z_Ln.brF (decide_eq_false hb) ?_)
    have e : decide ((z_fn 0 (A 4) (x + 4).toNatClampNeg) = 108) = false := decide_eq_false hb
    rw [e]
    simp only [Bool.false_and]
    refine z_Ln.blk (pc' := 27) (lv' := [(3, .int 4), (0, .ref 110), (1, .ref 88), (2, .int x)]) (st' := [.int 0]) (H' := hC A E N V W ++ g) (C := []) 16 1 rfl trivial ?_
    exact z_Ln.ret rfl (z_retB (Or.inl rfl))
set_option maxRecDepth 10000 in
theorem s38_24_3 {L : Nat} {xs : Nat → Int32} {fv : Value} {f w : Nat} {c : Nat × Nat} {A : Nat → List (Nat × Int32)} {E : List (Nat × Option Nat)} {N : Nat → Nat} {V : Nat → Nat → Int32} {W : Nat} {g : List z_E} {x : Int32} (hRm : z_Rm (hC A E N V W ++ g, c)) (hf : 4 ≤ f) (hw : 400 ≤ w) (h3 : z_in (x + 3) 1500 = true) (h4 : z_in (x + 4) 1500 = true) (h5 : z_in (x + 5) 1500 = true) : z_Ln L xs fv f w 38 2 [(3, .int 3), (0, .ref 110), (1, .ref 88), (2, .int x)] [] (hC A E N V W ++ g, c) (.inl (some (.int (z_B1 (decide (z_fn 0 (A 4) (x + 3).toNatClampNeg = 100) && decide (z_fn 0 (A 4) (x + 4).toNatClampNeg = 108) && decide (z_fn 0 (A 4) (x + 5).toNatClampNeg = 101)))))) (hC A E N V W ++ g, c) := by
  have m36 : z_pg.2.1 36 = 1 := rfl
  have m39 : z_pg.2.1 39 = 2 := rfl
  refine z_Ln.blk (pc' := 4) (lv' := [(3, .int 3), (0, .ref 110), (1, .ref 88), (2, .int x)]) (st' := [.ref 88, .int 3]) (H' := hC A E N V W ++ g) (C := []) 2 2 rfl trivial ?_
  refine z_Ln.call (s := 0) (mj := 36) (as := [.ref 88]) (rr := [.int 3]) (v := some (.int 6)) (T1 := (hC A E N V W ++ g, c)) rfl rfl ⟨⟨by omega, by omega⟩, (by decide : (1 : Nat) ≤ 8), (by decide +kernel : (1 : Nat) ≤ z_pg.2.1 36)⟩ hRm (s36_24 hRm (by omega) (by omega)) ⟨⟨trivial, trivial⟩, ⟨trivial, (z_sm0C 0 (by decide) rfl rfl), (Or.inl (by decide)), trivial, trivial⟩⟩ ?_
  refine z_Ln.blk (pc' := (if decide (6 ≤ 3) = true then 34 else 10)) (lv' := [(3, .int 3), (0, .ref 110), (1, .ref 88), (2, .int x)]) (st' := []) (H' := hC A E N V W ++ g) (C := []) 5 1 rfl trivial (z_Ln.brF (decide_eq_false (by decide)) ?_)
  refine z_Ln.blk (pc' := 20) (lv' := [(3, .int 3), (0, .ref 110), (1, .ref 88), (2, .int x)]) (st' := [.int 3, .ref 88, .int (z_fn 0 (A 4) (x + 3).toNatClampNeg)]) (H' := hC A E N V W ++ g) (C := [z_in (x + 3) 1500 = true]) 6 8 rfl h3 ?_
  refine z_Ln.call (s := 0) (mj := 39) (as := [.ref 88, .int 3]) (rr := [.int (z_fn 0 (A 4) (x + 3).toNatClampNeg)]) (v := some (.int 100)) (T1 := (hC A E N V W ++ g, c)) rfl rfl ⟨⟨by omega, by omega⟩, (by decide : (1 : Nat) ≤ 8), (by decide +kernel : (2 : Nat) ≤ z_pg.2.1 39)⟩ hRm (s39_24_3 hRm (by omega) (by omega)) ⟨⟨trivial, trivial⟩, ⟨trivial, (z_sm0C 0 (by decide) rfl rfl), (Or.inl (by decide)), trivial, trivial⟩⟩ ?_
  by_cases hb : (z_fn 0 (A 4) (x + 3).toNatClampNeg) = 100
  · refine z_Ln.blk (pc' := (if decide ((z_fn 0 (A 4) (x + 3).toNatClampNeg) = 100) = true then 28 else 26)) (lv' := [(3, .int 3), (0, .ref 110), (1, .ref 88), (2, .int x)]) (st' := []) (H' := hC A E N V W ++ g) (C := []) 15 1 rfl trivial (z_Ln.brT (decide_eq_true hb) ?_)
    refine z_Ln.blk (pc' := 2) (lv' := [(3, .int 4), (0, .ref 110), (1, .ref 88), (2, .int x)]) (st' := []) (H' := hC A E N V W ++ g) (C := []) 18 2 rfl trivial ?_
    have e : decide ((z_fn 0 (A 4) (x + 3).toNatClampNeg) = 100) = true := decide_eq_true hb
    rw [e]
    simp only [Bool.true_and]
    exact s38_24_4 (x := x) hRm hf hw h4 h5
  · refine z_Ln.blk (pc' := (if decide ((z_fn 0 (A 4) (x + 3).toNatClampNeg) = 100) = true then 28 else 26)) (lv' := [(3, .int 3), (0, .ref 110), (1, .ref 88), (2, .int x)]) (st' := []) (H' := hC A E N V W ++ g) (C := []) 15 1 rfl trivial (z_Ln.brF (decide_eq_false hb) ?_)
    have e : decide ((z_fn 0 (A 4) (x + 3).toNatClampNeg) = 100) = false := decide_eq_false hb
    rw [e]
    simp only [Bool.false_and]
    refine z_Ln.blk (pc' := 27) (lv' := [(3, .int 3), (0, .ref 110), (1, .ref 88), (2, .int x)]) (st' := [.int 0]) (H' := hC A E N V W ++ g) (C := []) 16 1 rfl trivial ?_
    exact z_Ln.ret rfl (z_retB (Or.inl rfl))
set_option maxRecDepth 10000 in
theorem s38_24_2 {L : Nat} {xs : Nat → Int32} {fv : Value} {f w : Nat} {c : Nat × Nat} {A : Nat → List (Nat × Int32)} {E : List (Nat × Option Nat)} {N : Nat → Nat} {V : Nat → Nat → Int32} {W : Nat} {g : List z_E} {x : Int32} (hRm : z_Rm (hC A E N V W ++ g, c)) (hf : 4 ≤ f) (hw : 400 ≤ w) (h2 : z_in (x + 2) 1500 = true) (h3 : z_in (x + 3) 1500 = true) (h4 : z_in (x + 4) 1500 = true) (h5 : z_in (x + 5) 1500 = true) : z_Ln L xs fv f w 38 2 [(3, .int 2), (0, .ref 110), (1, .ref 88), (2, .int x)] [] (hC A E N V W ++ g, c) (.inl (some (.int (z_B1 (decide (z_fn 0 (A 4) (x + 2).toNatClampNeg = 110) && decide (z_fn 0 (A 4) (x + 3).toNatClampNeg = 100) && decide (z_fn 0 (A 4) (x + 4).toNatClampNeg = 108) && decide (z_fn 0 (A 4) (x + 5).toNatClampNeg = 101)))))) (hC A E N V W ++ g, c) := by
  have m36 : z_pg.2.1 36 = 1 := rfl
  have m39 : z_pg.2.1 39 = 2 := rfl
  refine z_Ln.blk (pc' := 4) (lv' := [(3, .int 2), (0, .ref 110), (1, .ref 88), (2, .int x)]) (st' := [.ref 88, .int 2]) (H' := hC A E N V W ++ g) (C := []) 2 2 rfl trivial ?_
  refine z_Ln.call (s := 0) (mj := 36) (as := [.ref 88]) (rr := [.int 2]) (v := some (.int 6)) (T1 := (hC A E N V W ++ g, c)) rfl rfl ⟨⟨by omega, by omega⟩, (by decide : (1 : Nat) ≤ 8), (by decide +kernel : (1 : Nat) ≤ z_pg.2.1 36)⟩ hRm (s36_24 hRm (by omega) (by omega)) ⟨⟨trivial, trivial⟩, ⟨trivial, (z_sm0C 0 (by decide) rfl rfl), (Or.inl (by decide)), trivial, trivial⟩⟩ ?_
  refine z_Ln.blk (pc' := (if decide (6 ≤ 2) = true then 34 else 10)) (lv' := [(3, .int 2), (0, .ref 110), (1, .ref 88), (2, .int x)]) (st' := []) (H' := hC A E N V W ++ g) (C := []) 5 1 rfl trivial (z_Ln.brF (decide_eq_false (by decide)) ?_)
  refine z_Ln.blk (pc' := 20) (lv' := [(3, .int 2), (0, .ref 110), (1, .ref 88), (2, .int x)]) (st' := [.int 2, .ref 88, .int (z_fn 0 (A 4) (x + 2).toNatClampNeg)]) (H' := hC A E N V W ++ g) (C := [z_in (x + 2) 1500 = true]) 6 8 rfl h2 ?_
  refine z_Ln.call (s := 0) (mj := 39) (as := [.ref 88, .int 2]) (rr := [.int (z_fn 0 (A 4) (x + 2).toNatClampNeg)]) (v := some (.int 110)) (T1 := (hC A E N V W ++ g, c)) rfl rfl ⟨⟨by omega, by omega⟩, (by decide : (1 : Nat) ≤ 8), (by decide +kernel : (2 : Nat) ≤ z_pg.2.1 39)⟩ hRm (s39_24_2 hRm (by omega) (by omega)) ⟨⟨trivial, trivial⟩, ⟨trivial, (z_sm0C 0 (by decide) rfl rfl), (Or.inl (by decide)), trivial, trivial⟩⟩ ?_
  by_cases hb : (z_fn 0 (A 4) (x + 2).toNatClampNeg) = 110
  · refine z_Ln.blk (pc' := (if decide ((z_fn 0 (A 4) (x + 2).toNatClampNeg) = 110) = true then 28 else 26)) (lv' := [(3, .int 2), (0, .ref 110), (1, .ref 88), (2, .int x)]) (st' := []) (H' := hC A E N V W ++ g) (C := []) 15 1 rfl trivial (z_Ln.brT (decide_eq_true hb) ?_)
    refine z_Ln.blk (pc' := 2) (lv' := [(3, .int 3), (0, .ref 110), (1, .ref 88), (2, .int x)]) (st' := []) (H' := hC A E N V W ++ g) (C := []) 18 2 rfl trivial ?_
    have e : decide ((z_fn 0 (A 4) (x + 2).toNatClampNeg) = 110) = true := decide_eq_true hb
    rw [e]
    simp only [Bool.true_and]
    exact s38_24_3 (x := x) hRm hf hw h3 h4 h5
  · refine z_Ln.blk (pc' := (if decide ((z_fn 0 (A 4) (x + 2).toNatClampNeg) = 110) = true then 28 else 26)) (lv' := [(3, .int 2), (0, .ref 110), (1, .ref 88), (2, .int x)]) (st' := []) (H' := hC A E N V W ++ g) (C := []) 15 1 rfl trivial (z_Ln.brF (decide_eq_false hb) ?_)
    have e : decide ((z_fn 0 (A 4) (x + 2).toNatClampNeg) = 110) = false := decide_eq_false hb
    rw [e]
    simp only [Bool.false_and]
    refine z_Ln.blk (pc' := 27) (lv' := [(3, .int 2), (0, .ref 110), (1, .ref 88), (2, .int x)]) (st' := [.int 0]) (H' := hC A E N V W ++ g) (C := []) 16 1 rfl trivial ?_
    exact z_Ln.ret rfl (z_retB (Or.inl rfl))
set_option maxRecDepth 10000 in
theorem s38_24_1 {L : Nat} {xs : Nat → Int32} {fv : Value} {f w : Nat} {c : Nat × Nat} {A : Nat → List (Nat × Int32)} {E : List (Nat × Option Nat)} {N : Nat → Nat} {V : Nat → Nat → Int32} {W : Nat} {g : List z_E} {x : Int32} (hRm : z_Rm (hC A E N V W ++ g, c)) (hf : 4 ≤ f) (hw : 400 ≤ w) (h1 : z_in (x + 1) 1500 = true) (h2 : z_in (x + 2) 1500 = true) (h3 : z_in (x + 3) 1500 = true) (h4 : z_in (x + 4) 1500 = true) (h5 : z_in (x + 5) 1500 = true) : z_Ln L xs fv f w 38 2 [(3, .int 1), (0, .ref 110), (1, .ref 88), (2, .int x)] [] (hC A E N V W ++ g, c) (.inl (some (.int (z_B1 (decide (z_fn 0 (A 4) (x + 1).toNatClampNeg = 97) && decide (z_fn 0 (A 4) (x + 2).toNatClampNeg = 110) && decide (z_fn 0 (A 4) (x + 3).toNatClampNeg = 100) && decide (z_fn 0 (A 4) (x + 4).toNatClampNeg = 108) && decide (z_fn 0 (A 4) (x + 5).toNatClampNeg = 101)))))) (hC A E N V W ++ g, c) := by
  have m36 : z_pg.2.1 36 = 1 := rfl
  have m39 : z_pg.2.1 39 = 2 := rfl
  refine z_Ln.blk (pc' := 4) (lv' := [(3, .int 1), (0, .ref 110), (1, .ref 88), (2, .int x)]) (st' := [.ref 88, .int 1]) (H' := hC A E N V W ++ g) (C := []) 2 2 rfl trivial ?_
  refine z_Ln.call (s := 0) (mj := 36) (as := [.ref 88]) (rr := [.int 1]) (v := some (.int 6)) (T1 := (hC A E N V W ++ g, c)) rfl rfl ⟨⟨by omega, by omega⟩, (by decide : (1 : Nat) ≤ 8), (by decide +kernel : (1 : Nat) ≤ z_pg.2.1 36)⟩ hRm (s36_24 hRm (by omega) (by omega)) ⟨⟨trivial, trivial⟩, ⟨trivial, (z_sm0C 0 (by decide) rfl rfl), (Or.inl (by decide)), trivial, trivial⟩⟩ ?_
  refine z_Ln.blk (pc' := (if decide (6 ≤ 1) = true then 34 else 10)) (lv' := [(3, .int 1), (0, .ref 110), (1, .ref 88), (2, .int x)]) (st' := []) (H' := hC A E N V W ++ g) (C := []) 5 1 rfl trivial (z_Ln.brF (decide_eq_false (by decide)) ?_)
  refine z_Ln.blk (pc' := 20) (lv' := [(3, .int 1), (0, .ref 110), (1, .ref 88), (2, .int x)]) (st' := [.int 1, .ref 88, .int (z_fn 0 (A 4) (x + 1).toNatClampNeg)]) (H' := hC A E N V W ++ g) (C := [z_in (x + 1) 1500 = true]) 6 8 rfl h1 ?_
  refine z_Ln.call (s := 0) (mj := 39) (as := [.ref 88, .int 1]) (rr := [.int (z_fn 0 (A 4) (x + 1).toNatClampNeg)]) (v := some (.int 97)) (T1 := (hC A E N V W ++ g, c)) rfl rfl ⟨⟨by omega, by omega⟩, (by decide : (1 : Nat) ≤ 8), (by decide +kernel : (2 : Nat) ≤ z_pg.2.1 39)⟩ hRm (s39_24_1 hRm (by omega) (by omega)) ⟨⟨trivial, trivial⟩, ⟨trivial, (z_sm0C 0 (by decide) rfl rfl), (Or.inl (by decide)), trivial, trivial⟩⟩ ?_
  by_cases hb : (z_fn 0 (A 4) (x + 1).toNatClampNeg) = 97
  · refine z_Ln.blk (pc' := (if decide ((z_fn 0 (A 4) (x + 1).toNatClampNeg) = 97) = true then 28 else 26)) (lv' := [(3, .int 1), (0, .ref 110), (1, .ref 88), (2, .int x)]) (st' := []) (H' := hC A E N V W ++ g) (C := []) 15 1 rfl trivial (z_Ln.brT (decide_eq_true hb) ?_)
    refine z_Ln.blk (pc' := 2) (lv' := [(3, .int 2), (0, .ref 110), (1, .ref 88), (2, .int x)]) (st' := []) (H' := hC A E N V W ++ g) (C := []) 18 2 rfl trivial ?_
    have e : decide ((z_fn 0 (A 4) (x + 1).toNatClampNeg) = 97) = true := decide_eq_true hb
    rw [e]
    simp only [Bool.true_and]
    exact s38_24_2 (x := x) hRm hf hw h2 h3 h4 h5
  · refine z_Ln.blk (pc' := (if decide ((z_fn 0 (A 4) (x + 1).toNatClampNeg) = 97) = true then 28 else 26)) (lv' := [(3, .int 1), (0, .ref 110), (1, .ref 88), (2, .int x)]) (st' := []) (H' := hC A E N V W ++ g) (C := []) 15 1 rfl trivial (z_Ln.brF (decide_eq_false hb) ?_)
    have e : decide ((z_fn 0 (A 4) (x + 1).toNatClampNeg) = 97) = false := decide_eq_false hb
    rw [e]
    simp only [Bool.false_and]
    refine z_Ln.blk (pc' := 27) (lv' := [(3, .int 1), (0, .ref 110), (1, .ref 88), (2, .int x)]) (st' := [.int 0]) (H' := hC A E N V W ++ g) (C := []) 16 1 rfl trivial ?_
    exact z_Ln.ret rfl (z_retB (Or.inl rfl))
set_option maxRecDepth 10000 in
theorem s38_24_0 {L : Nat} {xs : Nat → Int32} {fv : Value} {f w : Nat} {c : Nat × Nat} {A : Nat → List (Nat × Int32)} {E : List (Nat × Option Nat)} {N : Nat → Nat} {V : Nat → Nat → Int32} {W : Nat} {g : List z_E} {x : Int32} (hRm : z_Rm (hC A E N V W ++ g, c)) (hf : 4 ≤ f) (hw : 400 ≤ w) (h0 : z_in (x + 0) 1500 = true) (h1 : z_in (x + 1) 1500 = true) (h2 : z_in (x + 2) 1500 = true) (h3 : z_in (x + 3) 1500 = true) (h4 : z_in (x + 4) 1500 = true) (h5 : z_in (x + 5) 1500 = true) : z_Ln L xs fv f w 38 2 [(3, .int 0), (0, .ref 110), (1, .ref 88), (2, .int x)] [] (hC A E N V W ++ g, c) (.inl (some (.int (z_B1 (decide (z_fn 0 (A 4) (x + 0).toNatClampNeg = 104) && decide (z_fn 0 (A 4) (x + 1).toNatClampNeg = 97) && decide (z_fn 0 (A 4) (x + 2).toNatClampNeg = 110) && decide (z_fn 0 (A 4) (x + 3).toNatClampNeg = 100) && decide (z_fn 0 (A 4) (x + 4).toNatClampNeg = 108) && decide (z_fn 0 (A 4) (x + 5).toNatClampNeg = 101)))))) (hC A E N V W ++ g, c) := by
  have m36 : z_pg.2.1 36 = 1 := rfl
  have m39 : z_pg.2.1 39 = 2 := rfl
  refine z_Ln.blk (pc' := 4) (lv' := [(3, .int 0), (0, .ref 110), (1, .ref 88), (2, .int x)]) (st' := [.ref 88, .int 0]) (H' := hC A E N V W ++ g) (C := []) 2 2 rfl trivial ?_
  refine z_Ln.call (s := 0) (mj := 36) (as := [.ref 88]) (rr := [.int 0]) (v := some (.int 6)) (T1 := (hC A E N V W ++ g, c)) rfl rfl ⟨⟨by omega, by omega⟩, (by decide : (1 : Nat) ≤ 8), (by decide +kernel : (1 : Nat) ≤ z_pg.2.1 36)⟩ hRm (s36_24 hRm (by omega) (by omega)) ⟨⟨trivial, trivial⟩, ⟨trivial, (z_sm0C 0 (by decide) rfl rfl), (Or.inl (by decide)), trivial, trivial⟩⟩ ?_
  refine z_Ln.blk (pc' := (if decide (6 ≤ 0) = true then 34 else 10)) (lv' := [(3, .int 0), (0, .ref 110), (1, .ref 88), (2, .int x)]) (st' := []) (H' := hC A E N V W ++ g) (C := []) 5 1 rfl trivial (z_Ln.brF (decide_eq_false (by decide)) ?_)
  refine z_Ln.blk (pc' := 20) (lv' := [(3, .int 0), (0, .ref 110), (1, .ref 88), (2, .int x)]) (st' := [.int 0, .ref 88, .int (z_fn 0 (A 4) (x + 0).toNatClampNeg)]) (H' := hC A E N V W ++ g) (C := [z_in (x + 0) 1500 = true]) 6 8 rfl h0 ?_
  refine z_Ln.call (s := 0) (mj := 39) (as := [.ref 88, .int 0]) (rr := [.int (z_fn 0 (A 4) (x + 0).toNatClampNeg)]) (v := some (.int 104)) (T1 := (hC A E N V W ++ g, c)) rfl rfl ⟨⟨by omega, by omega⟩, (by decide : (1 : Nat) ≤ 8), (by decide +kernel : (2 : Nat) ≤ z_pg.2.1 39)⟩ hRm (s39_24_0 hRm (by omega) (by omega)) ⟨⟨trivial, trivial⟩, ⟨trivial, (z_sm0C 0 (by decide) rfl rfl), (Or.inl (by decide)), trivial, trivial⟩⟩ ?_
  by_cases hb : (z_fn 0 (A 4) (x + 0).toNatClampNeg) = 104
  · refine z_Ln.blk (pc' := (if decide ((z_fn 0 (A 4) (x + 0).toNatClampNeg) = 104) = true then 28 else 26)) (lv' := [(3, .int 0), (0, .ref 110), (1, .ref 88), (2, .int x)]) (st' := []) (H' := hC A E N V W ++ g) (C := []) 15 1 rfl trivial (z_Ln.brT (decide_eq_true hb) ?_)
    refine z_Ln.blk (pc' := 2) (lv' := [(3, .int 1), (0, .ref 110), (1, .ref 88), (2, .int x)]) (st' := []) (H' := hC A E N V W ++ g) (C := []) 18 2 rfl trivial ?_
    have e : decide ((z_fn 0 (A 4) (x + 0).toNatClampNeg) = 104) = true := decide_eq_true hb
    rw [e]
    simp only [Bool.true_and]
    exact s38_24_1 (x := x) hRm hf hw h1 h2 h3 h4 h5
  · refine z_Ln.blk (pc' := (if decide ((z_fn 0 (A 4) (x + 0).toNatClampNeg) = 104) = true then 28 else 26)) (lv' := [(3, .int 0), (0, .ref 110), (1, .ref 88), (2, .int x)]) (st' := []) (H' := hC A E N V W ++ g) (C := []) 15 1 rfl trivial (z_Ln.brF (decide_eq_false hb) ?_)
    have e : decide ((z_fn 0 (A 4) (x + 0).toNatClampNeg) = 104) = false := decide_eq_false hb
    rw [e]
    simp only [Bool.false_and]
    refine z_Ln.blk (pc' := 27) (lv' := [(3, .int 0), (0, .ref 110), (1, .ref 88), (2, .int x)]) (st' := [.int 0]) (H' := hC A E N V W ++ g) (C := []) 16 1 rfl trivial ?_
    exact z_Ln.ret rfl (z_retB (Or.inl rfl))
set_option maxRecDepth 10000 in
theorem s38_25_4 {L : Nat} {xs : Nat → Int32} {fv : Value} {f w : Nat} {c : Nat × Nat} {A : Nat → List (Nat × Int32)} {E : List (Nat × Option Nat)} {N : Nat → Nat} {V : Nat → Nat → Int32} {W : Nat} {g : List z_E} {x : Int32} (hRm : z_Rm (hC A E N V W ++ g, c)) (hf : 4 ≤ f) (hw : 400 ≤ w)  : z_Ln L xs fv f w 38 2 [(3, .int 4), (0, .ref 110), (1, .ref 90), (2, .int x)] [] (hC A E N V W ++ g, c) (.inl (some (.int (z_B1 true)))) (hC A E N V W ++ g, c) := by
  have m36 : z_pg.2.1 36 = 1 := rfl
  refine z_Ln.blk (pc' := 4) (lv' := [(3, .int 4), (0, .ref 110), (1, .ref 90), (2, .int x)]) (st' := [.ref 90, .int 4]) (H' := hC A E N V W ++ g) (C := []) 2 2 rfl trivial ?_
  refine z_Ln.call (s := 0) (mj := 36) (as := [.ref 90]) (rr := [.int 4]) (v := some (.int 4)) (T1 := (hC A E N V W ++ g, c)) rfl rfl ⟨⟨by omega, by have : z_pg.2.1 36 = 1 := rfl; omega⟩, (by decide : (1 : Nat) ≤ 8), (by decide +kernel : (1 : Nat) ≤ z_pg.2.1 36)⟩ hRm (s36_25 hRm (by omega) (by omega)) ⟨⟨trivial, trivial⟩, ⟨trivial, (z_sm0C 0 (by decide) rfl rfl), (Or.inl (by decide)), trivial, trivial⟩⟩ ?_
  refine z_Ln.blk (pc' := (if decide (4 ≤ 4) = true then 34 else 10)) (lv' := [(3, .int 4), (0, .ref 110), (1, .ref 90), (2, .int x)]) (st' := []) (H' := hC A E N V W ++ g) (C := []) 5 1 rfl trivial (z_Ln.brT (decide_eq_true (by decide)) ?_)
  refine z_Ln.blk (pc' := 35) (lv' := [(3, .int 4), (0, .ref 110), (1, .ref 90), (2, .int x)]) (st' := [.int 1]) (H' := hC A E N V W ++ g) (C := []) 20 1 rfl trivial ?_
  exact z_Ln.ret rfl (z_retB (Or.inr rfl))
set_option maxRecDepth 10000 in
theorem s38_25_3 {L : Nat} {xs : Nat → Int32} {fv : Value} {f w : Nat} {c : Nat × Nat} {A : Nat → List (Nat × Int32)} {E : List (Nat × Option Nat)} {N : Nat → Nat} {V : Nat → Nat → Int32} {W : Nat} {g : List z_E} {x : Int32} (hRm : z_Rm (hC A E N V W ++ g, c)) (hf : 4 ≤ f) (hw : 400 ≤ w) (h3 : z_in (x + 3) 1500 = true) : z_Ln L xs fv f w 38 2 [(3, .int 3), (0, .ref 110), (1, .ref 90), (2, .int x)] [] (hC A E N V W ++ g, c) (.inl (some (.int (z_B1 (decide (z_fn 0 (A 4) (x + 3).toNatClampNeg = 104)))))) (hC A E N V W ++ g, c) := by
  have m36 : z_pg.2.1 36 = 1 := rfl
  have m39 : z_pg.2.1 39 = 2 := rfl
  refine z_Ln.blk (pc' := 4) (lv' := [(3, .int 3), (0, .ref 110), (1, .ref 90), (2, .int x)]) (st' := [.ref 90, .int 3]) (H' := hC A E N V W ++ g) (C := []) 2 2 rfl trivial ?_
  refine z_Ln.call (s := 0) (mj := 36) (as := [.ref 90]) (rr := [.int 3]) (v := some (.int 4)) (T1 := (hC A E N V W ++ g, c)) rfl rfl ⟨⟨by omega, by omega⟩, (by decide : (1 : Nat) ≤ 8), (by decide +kernel : (1 : Nat) ≤ z_pg.2.1 36)⟩ hRm (s36_25 hRm (by omega) (by omega)) ⟨⟨trivial, trivial⟩, ⟨trivial, (z_sm0C 0 (by decide) rfl rfl), (Or.inl (by decide)), trivial, trivial⟩⟩ ?_
  refine z_Ln.blk (pc' := (if decide (4 ≤ 3) = true then 34 else 10)) (lv' := [(3, .int 3), (0, .ref 110), (1, .ref 90), (2, .int x)]) (st' := []) (H' := hC A E N V W ++ g) (C := []) 5 1 rfl trivial (z_Ln.brF (decide_eq_false (by decide)) ?_)
  refine z_Ln.blk (pc' := 20) (lv' := [(3, .int 3), (0, .ref 110), (1, .ref 90), (2, .int x)]) (st' := [.int 3, .ref 90, .int (z_fn 0 (A 4) (x + 3).toNatClampNeg)]) (H' := hC A E N V W ++ g) (C := [z_in (x + 3) 1500 = true]) 6 8 rfl h3 ?_
  refine z_Ln.call (s := 0) (mj := 39) (as := [.ref 90, .int 3]) (rr := [.int (z_fn 0 (A 4) (x + 3).toNatClampNeg)]) (v := some (.int 104)) (T1 := (hC A E N V W ++ g, c)) rfl rfl ⟨⟨by omega, by omega⟩, (by decide : (1 : Nat) ≤ 8), (by decide +kernel : (2 : Nat) ≤ z_pg.2.1 39)⟩ hRm (s39_25_3 hRm (by omega) (by omega)) ⟨⟨trivial, trivial⟩, ⟨trivial, (z_sm0C 0 (by decide) rfl rfl), (Or.inl (by decide)), trivial, trivial⟩⟩ ?_
  by_cases hb : (z_fn 0 (A 4) (x + 3).toNatClampNeg) = 104
  · refine z_Ln.blk (pc' := (if decide ((z_fn 0 (A 4) (x + 3).toNatClampNeg) = 104) = true then 28 else 26)) (lv' := [(3, .int 3), (0, .ref 110), (1, .ref 90), (2, .int x)]) (st' := []) (H' := hC A E N V W ++ g) (C := []) 15 1 rfl trivial (z_Ln.brT (decide_eq_true hb) ?_)
    refine z_Ln.blk (pc' := 2) (lv' := [(3, .int 4), (0, .ref 110), (1, .ref 90), (2, .int x)]) (st' := []) (H' := hC A E N V W ++ g) (C := []) 18 2 rfl trivial ?_
    have e : decide ((z_fn 0 (A 4) (x + 3).toNatClampNeg) = 104) = true := decide_eq_true hb
    rw [e]
    exact s38_25_4 (x := x) hRm hf hw 
  · refine z_Ln.blk (pc' := (if decide ((z_fn 0 (A 4) (x + 3).toNatClampNeg) = 104) = true then 28 else 26)) (lv' := [(3, .int 3), (0, .ref 110), (1, .ref 90), (2, .int x)]) (st' := []) (H' := hC A E N V W ++ g) (C := []) 15 1 rfl trivial (z_Ln.brF (decide_eq_false hb) ?_)
    have e : decide ((z_fn 0 (A 4) (x + 3).toNatClampNeg) = 104) = false := decide_eq_false hb
    rw [e]
    refine z_Ln.blk (pc' := 27) (lv' := [(3, .int 3), (0, .ref 110), (1, .ref 90), (2, .int x)]) (st' := [.int 0]) (H' := hC A E N V W ++ g) (C := []) 16 1 rfl trivial ?_
    exact z_Ln.ret rfl (z_retB (Or.inl rfl))
set_option maxRecDepth 10000 in
theorem s38_25_2 {L : Nat} {xs : Nat → Int32} {fv : Value} {f w : Nat} {c : Nat × Nat} {A : Nat → List (Nat × Int32)} {E : List (Nat × Option Nat)} {N : Nat → Nat} {V : Nat → Nat → Int32} {W : Nat} {g : List z_E} {x : Int32} (hRm : z_Rm (hC A E N V W ++ g, c)) (hf : 4 ≤ f) (hw : 400 ≤ w) (h2 : z_in (x + 2) 1500 = true) (h3 : z_in (x + 3) 1500 = true) : z_Ln L xs fv f w 38 2 [(3, .int 2), (0, .ref 110), (1, .ref 90), (2, .int x)] [] (hC A E N V W ++ g, c) (.inl (some (.int (z_B1 (decide (z_fn 0 (A 4) (x + 2).toNatClampNeg = 116) && decide (z_fn 0 (A 4) (x + 3).toNatClampNeg = 104)))))) (hC A E N V W ++ g, c) := by
  have m36 : z_pg.2.1 36 = 1 := rfl
  have m39 : z_pg.2.1 39 = 2 := rfl
  refine z_Ln.blk (pc' := 4) (lv' := [(3, .int 2), (0, .ref 110), (1, .ref 90), (2, .int x)]) (st' := [.ref 90, .int 2]) (H' := hC A E N V W ++ g) (C := []) 2 2 rfl trivial ?_
  refine z_Ln.call (s := 0) (mj := 36) (as := [.ref 90]) (rr := [.int 2]) (v := some (.int 4)) (T1 := (hC A E N V W ++ g, c)) rfl rfl ⟨⟨by omega, by omega⟩, (by decide : (1 : Nat) ≤ 8), (by decide +kernel : (1 : Nat) ≤ z_pg.2.1 36)⟩ hRm (s36_25 hRm (by omega) (by omega)) ⟨⟨trivial, trivial⟩, ⟨trivial, (z_sm0C 0 (by decide) rfl rfl), (Or.inl (by decide)), trivial, trivial⟩⟩ ?_
  refine z_Ln.blk (pc' := (if decide (4 ≤ 2) = true then 34 else 10)) (lv' := [(3, .int 2), (0, .ref 110), (1, .ref 90), (2, .int x)]) (st' := []) (H' := hC A E N V W ++ g) (C := []) 5 1 rfl trivial (z_Ln.brF (decide_eq_false (by decide)) ?_)
  refine z_Ln.blk (pc' := 20) (lv' := [(3, .int 2), (0, .ref 110), (1, .ref 90), (2, .int x)]) (st' := [.int 2, .ref 90, .int (z_fn 0 (A 4) (x + 2).toNatClampNeg)]) (H' := hC A E N V W ++ g) (C := [z_in (x + 2) 1500 = true]) 6 8 rfl h2 ?_
  refine z_Ln.call (s := 0) (mj := 39) (as := [.ref 90, .int 2]) (rr := [.int (z_fn 0 (A 4) (x + 2).toNatClampNeg)]) (v := some (.int 116)) (T1 := (hC A E N V W ++ g, c)) rfl rfl ⟨⟨by omega, by omega⟩, (by decide : (1 : Nat) ≤ 8), (by decide +kernel : (2 : Nat) ≤ z_pg.2.1 39)⟩ hRm (s39_25_2 hRm (by omega) (by omega)) ⟨⟨trivial, trivial⟩, ⟨trivial, (z_sm0C 0 (by decide) rfl rfl), (Or.inl (by decide)), trivial, trivial⟩⟩ ?_
  by_cases hb : (z_fn 0 (A 4) (x + 2).toNatClampNeg) = 116
  · refine z_Ln.blk (pc' := (if decide ((z_fn 0 (A 4) (x + 2).toNatClampNeg) = 116) = true then 28 else 26)) (lv' := [(3, .int 2), (0, .ref 110), (1, .ref 90), (2, .int x)]) (st' := []) (H' := hC A E N V W ++ g) (C := []) 15 1 rfl trivial (z_Ln.brT (decide_eq_true hb) ?_)
    refine z_Ln.blk (pc' := 2) (lv' := [(3, .int 3), (0, .ref 110), (1, .ref 90), (2, .int x)]) (st' := []) (H' := hC A E N V W ++ g) (C := []) 18 2 rfl trivial ?_
    have e : decide ((z_fn 0 (A 4) (x + 2).toNatClampNeg) = 116) = true := decide_eq_true hb
    rw [e]
    simp only [Bool.true_and]
    exact s38_25_3 (x := x) hRm hf hw h3
  · refine z_Ln.blk (pc' := (if decide ((z_fn 0 (A 4) (x + 2).toNatClampNeg) = 116) = true then 28 else 26)) (lv' := [(3, .int 2), (0, .ref 110), (1, .ref 90), (2, .int x)]) (st' := []) (H' := hC A E N V W ++ g) (C := []) 15 1 rfl trivial (z_Ln.brF (decide_eq_false hb) ?_)
    have e : decide ((z_fn 0 (A 4) (x + 2).toNatClampNeg) = 116) = false := decide_eq_false hb
    rw [e]
    simp only [Bool.false_and]
    refine z_Ln.blk (pc' := 27) (lv' := [(3, .int 2), (0, .ref 110), (1, .ref 90), (2, .int x)]) (st' := [.int 0]) (H' := hC A E N V W ++ g) (C := []) 16 1 rfl trivial ?_
    exact z_Ln.ret rfl (z_retB (Or.inl rfl))
set_option maxRecDepth 10000 in
theorem s38_25_1 {L : Nat} {xs : Nat → Int32} {fv : Value} {f w : Nat} {c : Nat × Nat} {A : Nat → List (Nat × Int32)} {E : List (Nat × Option Nat)} {N : Nat → Nat} {V : Nat → Nat → Int32} {W : Nat} {g : List z_E} {x : Int32} (hRm : z_Rm (hC A E N V W ++ g, c)) (hf : 4 ≤ f) (hw : 400 ≤ w) (h1 : z_in (x + 1) 1500 = true) (h2 : z_in (x + 2) 1500 = true) (h3 : z_in (x + 3) 1500 = true) : z_Ln L xs fv f w 38 2 [(3, .int 1), (0, .ref 110), (1, .ref 90), (2, .int x)] [] (hC A E N V W ++ g, c) (.inl (some (.int (z_B1 (decide (z_fn 0 (A 4) (x + 1).toNatClampNeg = 105) && decide (z_fn 0 (A 4) (x + 2).toNatClampNeg = 116) && decide (z_fn 0 (A 4) (x + 3).toNatClampNeg = 104)))))) (hC A E N V W ++ g, c) := by
  have m36 : z_pg.2.1 36 = 1 := rfl
  have m39 : z_pg.2.1 39 = 2 := rfl
  refine z_Ln.blk (pc' := 4) (lv' := [(3, .int 1), (0, .ref 110), (1, .ref 90), (2, .int x)]) (st' := [.ref 90, .int 1]) (H' := hC A E N V W ++ g) (C := []) 2 2 rfl trivial ?_
  refine z_Ln.call (s := 0) (mj := 36) (as := [.ref 90]) (rr := [.int 1]) (v := some (.int 4)) (T1 := (hC A E N V W ++ g, c)) rfl rfl ⟨⟨by omega, by omega⟩, (by decide : (1 : Nat) ≤ 8), (by decide +kernel : (1 : Nat) ≤ z_pg.2.1 36)⟩ hRm (s36_25 hRm (by omega) (by omega)) ⟨⟨trivial, trivial⟩, ⟨trivial, (z_sm0C 0 (by decide) rfl rfl), (Or.inl (by decide)), trivial, trivial⟩⟩ ?_
  refine z_Ln.blk (pc' := (if decide (4 ≤ 1) = true then 34 else 10)) (lv' := [(3, .int 1), (0, .ref 110), (1, .ref 90), (2, .int x)]) (st' := []) (H' := hC A E N V W ++ g) (C := []) 5 1 rfl trivial (z_Ln.brF (decide_eq_false (by decide)) ?_)
  refine z_Ln.blk (pc' := 20) (lv' := [(3, .int 1), (0, .ref 110), (1, .ref 90), (2, .int x)]) (st' := [.int 1, .ref 90, .int (z_fn 0 (A 4) (x + 1).toNatClampNeg)]) (H' := hC A E N V W ++ g) (C := [z_in (x + 1) 1500 = true]) 6 8 rfl h1 ?_
  refine z_Ln.call (s := 0) (mj := 39) (as := [.ref 90, .int 1]) (rr := [.int (z_fn 0 (A 4) (x + 1).toNatClampNeg)]) (v := some (.int 105)) (T1 := (hC A E N V W ++ g, c)) rfl rfl ⟨⟨by omega, by omega⟩, (by decide : (1 : Nat) ≤ 8), (by decide +kernel : (2 : Nat) ≤ z_pg.2.1 39)⟩ hRm (s39_25_1 hRm (by omega) (by omega)) ⟨⟨trivial, trivial⟩, ⟨trivial, (z_sm0C 0 (by decide) rfl rfl), (Or.inl (by decide)), trivial, trivial⟩⟩ ?_
  by_cases hb : (z_fn 0 (A 4) (x + 1).toNatClampNeg) = 105
  · refine z_Ln.blk (pc' := (if decide ((z_fn 0 (A 4) (x + 1).toNatClampNeg) = 105) = true then 28 else 26)) (lv' := [(3, .int 1), (0, .ref 110), (1, .ref 90), (2, .int x)]) (st' := []) (H' := hC A E N V W ++ g) (C := []) 15 1 rfl trivial (z_Ln.brT (decide_eq_true hb) ?_)
    refine z_Ln.blk (pc' := 2) (lv' := [(3, .int 2), (0, .ref 110), (1, .ref 90), (2, .int x)]) (st' := []) (H' := hC A E N V W ++ g) (C := []) 18 2 rfl trivial ?_
    have e : decide ((z_fn 0 (A 4) (x + 1).toNatClampNeg) = 105) = true := decide_eq_true hb
    rw [e]
    simp only [Bool.true_and]
    exact s38_25_2 (x := x) hRm hf hw h2 h3
  · refine z_Ln.blk (pc' := (if decide ((z_fn 0 (A 4) (x + 1).toNatClampNeg) = 105) = true then 28 else 26)) (lv' := [(3, .int 1), (0, .ref 110), (1, .ref 90), (2, .int x)]) (st' := []) (H' := hC A E N V W ++ g) (C := []) 15 1 rfl trivial (z_Ln.brF (decide_eq_false hb) ?_)
    have e : decide ((z_fn 0 (A 4) (x + 1).toNatClampNeg) = 105) = false := decide_eq_false hb
    rw [e]
    simp only [Bool.false_and]
    refine z_Ln.blk (pc' := 27) (lv' := [(3, .int 1), (0, .ref 110), (1, .ref 90), (2, .int x)]) (st' := [.int 0]) (H' := hC A E N V W ++ g) (C := []) 16 1 rfl trivial ?_
    exact z_Ln.ret rfl (z_retB (Or.inl rfl))
set_option maxRecDepth 10000 in
theorem s38_25_0 {L : Nat} {xs : Nat → Int32} {fv : Value} {f w : Nat} {c : Nat × Nat} {A : Nat → List (Nat × Int32)} {E : List (Nat × Option Nat)} {N : Nat → Nat} {V : Nat → Nat → Int32} {W : Nat} {g : List z_E} {x : Int32} (hRm : z_Rm (hC A E N V W ++ g, c)) (hf : 4 ≤ f) (hw : 400 ≤ w) (h0 : z_in (x + 0) 1500 = true) (h1 : z_in (x + 1) 1500 = true) (h2 : z_in (x + 2) 1500 = true) (h3 : z_in (x + 3) 1500 = true) : z_Ln L xs fv f w 38 2 [(3, .int 0), (0, .ref 110), (1, .ref 90), (2, .int x)] [] (hC A E N V W ++ g, c) (.inl (some (.int (z_B1 (decide (z_fn 0 (A 4) (x + 0).toNatClampNeg = 119) && decide (z_fn 0 (A 4) (x + 1).toNatClampNeg = 105) && decide (z_fn 0 (A 4) (x + 2).toNatClampNeg = 116) && decide (z_fn 0 (A 4) (x + 3).toNatClampNeg = 104)))))) (hC A E N V W ++ g, c) := by
  have m36 : z_pg.2.1 36 = 1 := rfl
  have m39 : z_pg.2.1 39 = 2 := rfl
  refine z_Ln.blk (pc' := 4) (lv' := [(3, .int 0), (0, .ref 110), (1, .ref 90), (2, .int x)]) (st' := [.ref 90, .int 0]) (H' := hC A E N V W ++ g) (C := []) 2 2 rfl trivial ?_
  refine z_Ln.call (s := 0) (mj := 36) (as := [.ref 90]) (rr := [.int 0]) (v := some (.int 4)) (T1 := (hC A E N V W ++ g, c)) rfl rfl ⟨⟨by omega, by omega⟩, (by decide : (1 : Nat) ≤ 8), (by decide +kernel : (1 : Nat) ≤ z_pg.2.1 36)⟩ hRm (s36_25 hRm (by omega) (by omega)) ⟨⟨trivial, trivial⟩, ⟨trivial, (z_sm0C 0 (by decide) rfl rfl), (Or.inl (by decide)), trivial, trivial⟩⟩ ?_
  refine z_Ln.blk (pc' := (if decide (4 ≤ 0) = true then 34 else 10)) (lv' := [(3, .int 0), (0, .ref 110), (1, .ref 90), (2, .int x)]) (st' := []) (H' := hC A E N V W ++ g) (C := []) 5 1 rfl trivial (z_Ln.brF (decide_eq_false (by decide)) ?_)
  refine z_Ln.blk (pc' := 20) (lv' := [(3, .int 0), (0, .ref 110), (1, .ref 90), (2, .int x)]) (st' := [.int 0, .ref 90, .int (z_fn 0 (A 4) (x + 0).toNatClampNeg)]) (H' := hC A E N V W ++ g) (C := [z_in (x + 0) 1500 = true]) 6 8 rfl h0 ?_
  refine z_Ln.call (s := 0) (mj := 39) (as := [.ref 90, .int 0]) (rr := [.int (z_fn 0 (A 4) (x + 0).toNatClampNeg)]) (v := some (.int 119)) (T1 := (hC A E N V W ++ g, c)) rfl rfl ⟨⟨by omega, by omega⟩, (by decide : (1 : Nat) ≤ 8), (by decide +kernel : (2 : Nat) ≤ z_pg.2.1 39)⟩ hRm (s39_25_0 hRm (by omega) (by omega)) ⟨⟨trivial, trivial⟩, ⟨trivial, (z_sm0C 0 (by decide) rfl rfl), (Or.inl (by decide)), trivial, trivial⟩⟩ ?_
  by_cases hb : (z_fn 0 (A 4) (x + 0).toNatClampNeg) = 119
  · refine z_Ln.blk (pc' := (if decide ((z_fn 0 (A 4) (x + 0).toNatClampNeg) = 119) = true then 28 else 26)) (lv' := [(3, .int 0), (0, .ref 110), (1, .ref 90), (2, .int x)]) (st' := []) (H' := hC A E N V W ++ g) (C := []) 15 1 rfl trivial (z_Ln.brT (decide_eq_true hb) ?_)
    refine z_Ln.blk (pc' := 2) (lv' := [(3, .int 1), (0, .ref 110), (1, .ref 90), (2, .int x)]) (st' := []) (H' := hC A E N V W ++ g) (C := []) 18 2 rfl trivial ?_
    have e : decide ((z_fn 0 (A 4) (x + 0).toNatClampNeg) = 119) = true := decide_eq_true hb
    rw [e]
    simp only [Bool.true_and]
    exact s38_25_1 (x := x) hRm hf hw h1 h2 h3
  · refine z_Ln.blk (pc' := (if decide ((z_fn 0 (A 4) (x + 0).toNatClampNeg) = 119) = true then 28 else 26)) (lv' := [(3, .int 0), (0, .ref 110), (1, .ref 90), (2, .int x)]) (st' := []) (H' := hC A E N V W ++ g) (C := []) 15 1 rfl trivial (z_Ln.brF (decide_eq_false hb) ?_)
    have e : decide ((z_fn 0 (A 4) (x + 0).toNatClampNeg) = 119) = false := decide_eq_false hb
    rw [e]
    simp only [Bool.false_and]
    refine z_Ln.blk (pc' := 27) (lv' := [(3, .int 0), (0, .ref 110), (1, .ref 90), (2, .int x)]) (st' := [.int 0]) (H' := hC A E N V W ++ g) (C := []) 16 1 rfl trivial ?_
    exact z_Ln.ret rfl (z_retB (Or.inl rfl))
set_option maxRecDepth 10000 in
theorem s38_26_6 {L : Nat} {xs : Nat → Int32} {fv : Value} {f w : Nat} {c : Nat × Nat} {A : Nat → List (Nat × Int32)} {E : List (Nat × Option Nat)} {N : Nat → Nat} {V : Nat → Nat → Int32} {W : Nat} {g : List z_E} {x : Int32} (hRm : z_Rm (hC A E N V W ++ g, c)) (hf : 4 ≤ f) (hw : 400 ≤ w)  : z_Ln L xs fv f w 38 2 [(3, .int 6), (0, .ref 110), (1, .ref 92), (2, .int x)] [] (hC A E N V W ++ g, c) (.inl (some (.int (z_B1 true)))) (hC A E N V W ++ g, c) := by
  have m36 : z_pg.2.1 36 = 1 := rfl
  refine z_Ln.blk (pc' := 4) (lv' := [(3, .int 6), (0, .ref 110), (1, .ref 92), (2, .int x)]) (st' := [.ref 92, .int 6]) (H' := hC A E N V W ++ g) (C := []) 2 2 rfl trivial ?_
  refine z_Ln.call (s := 0) (mj := 36) (as := [.ref 92]) (rr := [.int 6]) (v := some (.int 6)) (T1 := (hC A E N V W ++ g, c)) rfl rfl ⟨⟨by omega, by have : z_pg.2.1 36 = 1 := rfl; omega⟩, (by decide : (1 : Nat) ≤ 8), (by decide +kernel : (1 : Nat) ≤ z_pg.2.1 36)⟩ hRm (s36_26 hRm (by omega) (by omega)) ⟨⟨trivial, trivial⟩, ⟨trivial, (z_sm0C 0 (by decide) rfl rfl), (Or.inl (by decide)), trivial, trivial⟩⟩ ?_
  refine z_Ln.blk (pc' := (if decide (6 ≤ 6) = true then 34 else 10)) (lv' := [(3, .int 6), (0, .ref 110), (1, .ref 92), (2, .int x)]) (st' := []) (H' := hC A E N V W ++ g) (C := []) 5 1 rfl trivial (z_Ln.brT (decide_eq_true (by decide)) ?_)
  refine z_Ln.blk (pc' := 35) (lv' := [(3, .int 6), (0, .ref 110), (1, .ref 92), (2, .int x)]) (st' := [.int 1]) (H' := hC A E N V W ++ g) (C := []) 20 1 rfl trivial ?_
  exact z_Ln.ret rfl (z_retB (Or.inr rfl))
set_option maxRecDepth 10000 in
theorem s38_26_5 {L : Nat} {xs : Nat → Int32} {fv : Value} {f w : Nat} {c : Nat × Nat} {A : Nat → List (Nat × Int32)} {E : List (Nat × Option Nat)} {N : Nat → Nat} {V : Nat → Nat → Int32} {W : Nat} {g : List z_E} {x : Int32} (hRm : z_Rm (hC A E N V W ++ g, c)) (hf : 4 ≤ f) (hw : 400 ≤ w) (h5 : z_in (x + 5) 1500 = true) : z_Ln L xs fv f w 38 2 [(3, .int 5), (0, .ref 110), (1, .ref 92), (2, .int x)] [] (hC A E N V W ++ g, c) (.inl (some (.int (z_B1 (decide (z_fn 0 (A 4) (x + 5).toNatClampNeg = 110)))))) (hC A E N V W ++ g, c) := by
  have m36 : z_pg.2.1 36 = 1 := rfl
  have m39 : z_pg.2.1 39 = 2 := rfl
  refine z_Ln.blk (pc' := 4) (lv' := [(3, .int 5), (0, .ref 110), (1, .ref 92), (2, .int x)]) (st' := [.ref 92, .int 5]) (H' := hC A E N V W ++ g) (C := []) 2 2 rfl trivial ?_
  refine z_Ln.call (s := 0) (mj := 36) (as := [.ref 92]) (rr := [.int 5]) (v := some (.int 6)) (T1 := (hC A E N V W ++ g, c)) rfl rfl ⟨⟨by omega, by omega⟩, (by decide : (1 : Nat) ≤ 8), (by decide +kernel : (1 : Nat) ≤ z_pg.2.1 36)⟩ hRm (s36_26 hRm (by omega) (by omega)) ⟨⟨trivial, trivial⟩, ⟨trivial, (z_sm0C 0 (by decide) rfl rfl), (Or.inl (by decide)), trivial, trivial⟩⟩ ?_
  refine z_Ln.blk (pc' := (if decide (6 ≤ 5) = true then 34 else 10)) (lv' := [(3, .int 5), (0, .ref 110), (1, .ref 92), (2, .int x)]) (st' := []) (H' := hC A E N V W ++ g) (C := []) 5 1 rfl trivial (z_Ln.brF (decide_eq_false (by decide)) ?_)
  refine z_Ln.blk (pc' := 20) (lv' := [(3, .int 5), (0, .ref 110), (1, .ref 92), (2, .int x)]) (st' := [.int 5, .ref 92, .int (z_fn 0 (A 4) (x + 5).toNatClampNeg)]) (H' := hC A E N V W ++ g) (C := [z_in (x + 5) 1500 = true]) 6 8 rfl h5 ?_
  refine z_Ln.call (s := 0) (mj := 39) (as := [.ref 92, .int 5]) (rr := [.int (z_fn 0 (A 4) (x + 5).toNatClampNeg)]) (v := some (.int 110)) (T1 := (hC A E N V W ++ g, c)) rfl rfl ⟨⟨by omega, by omega⟩, (by decide : (1 : Nat) ≤ 8), (by decide +kernel : (2 : Nat) ≤ z_pg.2.1 39)⟩ hRm (s39_26_5 hRm (by omega) (by omega)) ⟨⟨trivial, trivial⟩, ⟨trivial, (z_sm0C 0 (by decide) rfl rfl), (Or.inl (by decide)), trivial, trivial⟩⟩ ?_
  by_cases hb : (z_fn 0 (A 4) (x + 5).toNatClampNeg) = 110
  · refine z_Ln.blk (pc' := (if decide ((z_fn 0 (A 4) (x + 5).toNatClampNeg) = 110) = true then 28 else 26)) (lv' := [(3, .int 5), (0, .ref 110), (1, .ref 92), (2, .int x)]) (st' := []) (H' := hC A E N V W ++ g) (C := []) 15 1 rfl trivial (z_Ln.brT (decide_eq_true hb) ?_)
    refine z_Ln.blk (pc' := 2) (lv' := [(3, .int 6), (0, .ref 110), (1, .ref 92), (2, .int x)]) (st' := []) (H' := hC A E N V W ++ g) (C := []) 18 2 rfl trivial ?_
    have e : decide ((z_fn 0 (A 4) (x + 5).toNatClampNeg) = 110) = true := decide_eq_true hb
    rw [e]
    exact s38_26_6 (x := x) hRm hf hw 
  · refine z_Ln.blk (pc' := (if decide ((z_fn 0 (A 4) (x + 5).toNatClampNeg) = 110) = true then 28 else 26)) (lv' := [(3, .int 5), (0, .ref 110), (1, .ref 92), (2, .int x)]) (st' := []) (H' := hC A E N V W ++ g) (C := []) 15 1 rfl trivial (z_Ln.brF (decide_eq_false hb) ?_)
    have e : decide ((z_fn 0 (A 4) (x + 5).toNatClampNeg) = 110) = false := decide_eq_false hb
    rw [e]
    refine z_Ln.blk (pc' := 27) (lv' := [(3, .int 5), (0, .ref 110), (1, .ref 92), (2, .int x)]) (st' := [.int 0]) (H' := hC A E N V W ++ g) (C := []) 16 1 rfl trivial ?_
    exact z_Ln.ret rfl (z_retB (Or.inl rfl))
set_option maxRecDepth 10000 in
theorem s38_26_4 {L : Nat} {xs : Nat → Int32} {fv : Value} {f w : Nat} {c : Nat × Nat} {A : Nat → List (Nat × Int32)} {E : List (Nat × Option Nat)} {N : Nat → Nat} {V : Nat → Nat → Int32} {W : Nat} {g : List z_E} {x : Int32} (hRm : z_Rm (hC A E N V W ++ g, c)) (hf : 4 ≤ f) (hw : 400 ≤ w) (h4 : z_in (x + 4) 1500 = true) (h5 : z_in (x + 5) 1500 = true) : z_Ln L xs fv f w 38 2 [(3, .int 4), (0, .ref 110), (1, .ref 92), (2, .int x)] [] (hC A E N V W ++ g, c) (.inl (some (.int (z_B1 (decide (z_fn 0 (A 4) (x + 4).toNatClampNeg = 114) && decide (z_fn 0 (A 4) (x + 5).toNatClampNeg = 110)))))) (hC A E N V W ++ g, c) := by
  have m36 : z_pg.2.1 36 = 1 := rfl
  have m39 : z_pg.2.1 39 = 2 := rfl
  refine z_Ln.blk (pc' := 4) (lv' := [(3, .int 4), (0, .ref 110), (1, .ref 92), (2, .int x)]) (st' := [.ref 92, .int 4]) (H' := hC A E N V W ++ g) (C := []) 2 2 rfl trivial ?_
  refine z_Ln.call (s := 0) (mj := 36) (as := [.ref 92]) (rr := [.int 4]) (v := some (.int 6)) (T1 := (hC A E N V W ++ g, c)) rfl rfl ⟨⟨by omega, by omega⟩, (by decide : (1 : Nat) ≤ 8), (by decide +kernel : (1 : Nat) ≤ z_pg.2.1 36)⟩ hRm (s36_26 hRm (by omega) (by omega)) ⟨⟨trivial, trivial⟩, ⟨trivial, (z_sm0C 0 (by decide) rfl rfl), (Or.inl (by decide)), trivial, trivial⟩⟩ ?_
  refine z_Ln.blk (pc' := (if decide (6 ≤ 4) = true then 34 else 10)) (lv' := [(3, .int 4), (0, .ref 110), (1, .ref 92), (2, .int x)]) (st' := []) (H' := hC A E N V W ++ g) (C := []) 5 1 rfl trivial (z_Ln.brF (decide_eq_false (by decide)) ?_)
  refine z_Ln.blk (pc' := 20) (lv' := [(3, .int 4), (0, .ref 110), (1, .ref 92), (2, .int x)]) (st' := [.int 4, .ref 92, .int (z_fn 0 (A 4) (x + 4).toNatClampNeg)]) (H' := hC A E N V W ++ g) (C := [z_in (x + 4) 1500 = true]) 6 8 rfl h4 ?_
  refine z_Ln.call (s := 0) (mj := 39) (as := [.ref 92, .int 4]) (rr := [.int (z_fn 0 (A 4) (x + 4).toNatClampNeg)]) (v := some (.int 114)) (T1 := (hC A E N V W ++ g, c)) rfl rfl ⟨⟨by omega, by omega⟩, (by decide : (1 : Nat) ≤ 8), (by decide +kernel : (2 : Nat) ≤ z_pg.2.1 39)⟩ hRm (s39_26_4 hRm (by omega) (by omega)) ⟨⟨trivial, trivial⟩, ⟨trivial, (z_sm0C 0 (by decide) rfl rfl), (Or.inl (by decide)), trivial, trivial⟩⟩ ?_
  by_cases hb : (z_fn 0 (A 4) (x + 4).toNatClampNeg) = 114
  · refine z_Ln.blk (pc' := (if decide ((z_fn 0 (A 4) (x + 4).toNatClampNeg) = 114) = true then 28 else 26)) (lv' := [(3, .int 4), (0, .ref 110), (1, .ref 92), (2, .int x)]) (st' := []) (H' := hC A E N V W ++ g) (C := []) 15 1 rfl trivial (z_Ln.brT (decide_eq_true hb) ?_)
    refine z_Ln.blk (pc' := 2) (lv' := [(3, .int 5), (0, .ref 110), (1, .ref 92), (2, .int x)]) (st' := []) (H' := hC A E N V W ++ g) (C := []) 18 2 rfl trivial ?_
    have e : decide ((z_fn 0 (A 4) (x + 4).toNatClampNeg) = 114) = true := decide_eq_true hb
    rw [e]
    simp only [Bool.true_and]
    exact s38_26_5 (x := x) hRm hf hw h5
  · refine z_Ln.blk (pc' := (if decide ((z_fn 0 (A 4) (x + 4).toNatClampNeg) = 114) = true then 28 else 26)) (lv' := [(3, .int 4), (0, .ref 110), (1, .ref 92), (2, .int x)]) (st' := []) (H' := hC A E N V W ++ g) (C := []) 15 1 rfl trivial (z_Ln.brF (decide_eq_false hb) ?_)
    have e : decide ((z_fn 0 (A 4) (x + 4).toNatClampNeg) = 114) = false := decide_eq_false hb
    rw [e]
    simp only [Bool.false_and]
    refine z_Ln.blk (pc' := 27) (lv' := [(3, .int 4), (0, .ref 110), (1, .ref 92), (2, .int x)]) (st' := [.int 0]) (H' := hC A E N V W ++ g) (C := []) 16 1 rfl trivial ?_
    exact z_Ln.ret rfl (z_retB (Or.inl rfl))
set_option maxRecDepth 10000 in
theorem s38_26_3 {L : Nat} {xs : Nat → Int32} {fv : Value} {f w : Nat} {c : Nat × Nat} {A : Nat → List (Nat × Int32)} {E : List (Nat × Option Nat)} {N : Nat → Nat} {V : Nat → Nat → Int32} {W : Nat} {g : List z_E} {x : Int32} (hRm : z_Rm (hC A E N V W ++ g, c)) (hf : 4 ≤ f) (hw : 400 ≤ w) (h3 : z_in (x + 3) 1500 = true) (h4 : z_in (x + 4) 1500 = true) (h5 : z_in (x + 5) 1500 = true) : z_Ln L xs fv f w 38 2 [(3, .int 3), (0, .ref 110), (1, .ref 92), (2, .int x)] [] (hC A E N V W ++ g, c) (.inl (some (.int (z_B1 (decide (z_fn 0 (A 4) (x + 3).toNatClampNeg = 117) && decide (z_fn 0 (A 4) (x + 4).toNatClampNeg = 114) && decide (z_fn 0 (A 4) (x + 5).toNatClampNeg = 110)))))) (hC A E N V W ++ g, c) := by
  have m36 : z_pg.2.1 36 = 1 := rfl
  have m39 : z_pg.2.1 39 = 2 := rfl
  refine z_Ln.blk (pc' := 4) (lv' := [(3, .int 3), (0, .ref 110), (1, .ref 92), (2, .int x)]) (st' := [.ref 92, .int 3]) (H' := hC A E N V W ++ g) (C := []) 2 2 rfl trivial ?_
  refine z_Ln.call (s := 0) (mj := 36) (as := [.ref 92]) (rr := [.int 3]) (v := some (.int 6)) (T1 := (hC A E N V W ++ g, c)) rfl rfl ⟨⟨by omega, by omega⟩, (by decide : (1 : Nat) ≤ 8), (by decide +kernel : (1 : Nat) ≤ z_pg.2.1 36)⟩ hRm (s36_26 hRm (by omega) (by omega)) ⟨⟨trivial, trivial⟩, ⟨trivial, (z_sm0C 0 (by decide) rfl rfl), (Or.inl (by decide)), trivial, trivial⟩⟩ ?_
  refine z_Ln.blk (pc' := (if decide (6 ≤ 3) = true then 34 else 10)) (lv' := [(3, .int 3), (0, .ref 110), (1, .ref 92), (2, .int x)]) (st' := []) (H' := hC A E N V W ++ g) (C := []) 5 1 rfl trivial (z_Ln.brF (decide_eq_false (by decide)) ?_)
  refine z_Ln.blk (pc' := 20) (lv' := [(3, .int 3), (0, .ref 110), (1, .ref 92), (2, .int x)]) (st' := [.int 3, .ref 92, .int (z_fn 0 (A 4) (x + 3).toNatClampNeg)]) (H' := hC A E N V W ++ g) (C := [z_in (x + 3) 1500 = true]) 6 8 rfl h3 ?_
  refine z_Ln.call (s := 0) (mj := 39) (as := [.ref 92, .int 3]) (rr := [.int (z_fn 0 (A 4) (x + 3).toNatClampNeg)]) (v := some (.int 117)) (T1 := (hC A E N V W ++ g, c)) rfl rfl ⟨⟨by omega, by omega⟩, (by decide : (1 : Nat) ≤ 8), (by decide +kernel : (2 : Nat) ≤ z_pg.2.1 39)⟩ hRm (s39_26_3 hRm (by omega) (by omega)) ⟨⟨trivial, trivial⟩, ⟨trivial, (z_sm0C 0 (by decide) rfl rfl), (Or.inl (by decide)), trivial, trivial⟩⟩ ?_
  by_cases hb : (z_fn 0 (A 4) (x + 3).toNatClampNeg) = 117
  · refine z_Ln.blk (pc' := (if decide ((z_fn 0 (A 4) (x + 3).toNatClampNeg) = 117) = true then 28 else 26)) (lv' := [(3, .int 3), (0, .ref 110), (1, .ref 92), (2, .int x)]) (st' := []) (H' := hC A E N V W ++ g) (C := []) 15 1 rfl trivial (z_Ln.brT (decide_eq_true hb) ?_)
    refine z_Ln.blk (pc' := 2) (lv' := [(3, .int 4), (0, .ref 110), (1, .ref 92), (2, .int x)]) (st' := []) (H' := hC A E N V W ++ g) (C := []) 18 2 rfl trivial ?_
    have e : decide ((z_fn 0 (A 4) (x + 3).toNatClampNeg) = 117) = true := decide_eq_true hb
    rw [e]
    simp only [Bool.true_and]
    exact s38_26_4 (x := x) hRm hf hw h4 h5
  · refine z_Ln.blk (pc' := (if decide ((z_fn 0 (A 4) (x + 3).toNatClampNeg) = 117) = true then 28 else 26)) (lv' := [(3, .int 3), (0, .ref 110), (1, .ref 92), (2, .int x)]) (st' := []) (H' := hC A E N V W ++ g) (C := []) 15 1 rfl trivial (z_Ln.brF (decide_eq_false hb) ?_)
    have e : decide ((z_fn 0 (A 4) (x + 3).toNatClampNeg) = 117) = false := decide_eq_false hb
    rw [e]
    simp only [Bool.false_and]
    refine z_Ln.blk (pc' := 27) (lv' := [(3, .int 3), (0, .ref 110), (1, .ref 92), (2, .int x)]) (st' := [.int 0]) (H' := hC A E N V W ++ g) (C := []) 16 1 rfl trivial ?_
    exact z_Ln.ret rfl (z_retB (Or.inl rfl))
set_option maxRecDepth 10000 in
theorem s38_26_2 {L : Nat} {xs : Nat → Int32} {fv : Value} {f w : Nat} {c : Nat × Nat} {A : Nat → List (Nat × Int32)} {E : List (Nat × Option Nat)} {N : Nat → Nat} {V : Nat → Nat → Int32} {W : Nat} {g : List z_E} {x : Int32} (hRm : z_Rm (hC A E N V W ++ g, c)) (hf : 4 ≤ f) (hw : 400 ≤ w) (h2 : z_in (x + 2) 1500 = true) (h3 : z_in (x + 3) 1500 = true) (h4 : z_in (x + 4) 1500 = true) (h5 : z_in (x + 5) 1500 = true) : z_Ln L xs fv f w 38 2 [(3, .int 2), (0, .ref 110), (1, .ref 92), (2, .int x)] [] (hC A E N V W ++ g, c) (.inl (some (.int (z_B1 (decide (z_fn 0 (A 4) (x + 2).toNatClampNeg = 116) && decide (z_fn 0 (A 4) (x + 3).toNatClampNeg = 117) && decide (z_fn 0 (A 4) (x + 4).toNatClampNeg = 114) && decide (z_fn 0 (A 4) (x + 5).toNatClampNeg = 110)))))) (hC A E N V W ++ g, c) := by
  have m36 : z_pg.2.1 36 = 1 := rfl
  have m39 : z_pg.2.1 39 = 2 := rfl
  refine z_Ln.blk (pc' := 4) (lv' := [(3, .int 2), (0, .ref 110), (1, .ref 92), (2, .int x)]) (st' := [.ref 92, .int 2]) (H' := hC A E N V W ++ g) (C := []) 2 2 rfl trivial ?_
  refine z_Ln.call (s := 0) (mj := 36) (as := [.ref 92]) (rr := [.int 2]) (v := some (.int 6)) (T1 := (hC A E N V W ++ g, c)) rfl rfl ⟨⟨by omega, by omega⟩, (by decide : (1 : Nat) ≤ 8), (by decide +kernel : (1 : Nat) ≤ z_pg.2.1 36)⟩ hRm (s36_26 hRm (by omega) (by omega)) ⟨⟨trivial, trivial⟩, ⟨trivial, (z_sm0C 0 (by decide) rfl rfl), (Or.inl (by decide)), trivial, trivial⟩⟩ ?_
  refine z_Ln.blk (pc' := (if decide (6 ≤ 2) = true then 34 else 10)) (lv' := [(3, .int 2), (0, .ref 110), (1, .ref 92), (2, .int x)]) (st' := []) (H' := hC A E N V W ++ g) (C := []) 5 1 rfl trivial (z_Ln.brF (decide_eq_false (by decide)) ?_)
  refine z_Ln.blk (pc' := 20) (lv' := [(3, .int 2), (0, .ref 110), (1, .ref 92), (2, .int x)]) (st' := [.int 2, .ref 92, .int (z_fn 0 (A 4) (x + 2).toNatClampNeg)]) (H' := hC A E N V W ++ g) (C := [z_in (x + 2) 1500 = true]) 6 8 rfl h2 ?_
  refine z_Ln.call (s := 0) (mj := 39) (as := [.ref 92, .int 2]) (rr := [.int (z_fn 0 (A 4) (x + 2).toNatClampNeg)]) (v := some (.int 116)) (T1 := (hC A E N V W ++ g, c)) rfl rfl ⟨⟨by omega, by omega⟩, (by decide : (1 : Nat) ≤ 8), (by decide +kernel : (2 : Nat) ≤ z_pg.2.1 39)⟩ hRm (s39_26_2 hRm (by omega) (by omega)) ⟨⟨trivial, trivial⟩, ⟨trivial, (z_sm0C 0 (by decide) rfl rfl), (Or.inl (by decide)), trivial, trivial⟩⟩ ?_
  by_cases hb : (z_fn 0 (A 4) (x + 2).toNatClampNeg) = 116
  · refine z_Ln.blk (pc' := (if decide ((z_fn 0 (A 4) (x + 2).toNatClampNeg) = 116) = true then 28 else 26)) (lv' := [(3, .int 2), (0, .ref 110), (1, .ref 92), (2, .int x)]) (st' := []) (H' := hC A E N V W ++ g) (C := []) 15 1 rfl trivial (z_Ln.brT (decide_eq_true hb) ?_)
    refine z_Ln.blk (pc' := 2) (lv' := [(3, .int 3), (0, .ref 110), (1, .ref 92), (2, .int x)]) (st' := []) (H' := hC A E N V W ++ g) (C := []) 18 2 rfl trivial ?_
    have e : decide ((z_fn 0 (A 4) (x + 2).toNatClampNeg) = 116) = true := decide_eq_true hb
    rw [e]
    simp only [Bool.true_and]
    exact s38_26_3 (x := x) hRm hf hw h3 h4 h5
  · refine z_Ln.blk (pc' := (if decide ((z_fn 0 (A 4) (x + 2).toNatClampNeg) = 116) = true then 28 else 26)) (lv' := [(3, .int 2), (0, .ref 110), (1, .ref 92), (2, .int x)]) (st' := []) (H' := hC A E N V W ++ g) (C := []) 15 1 rfl trivial (z_Ln.brF (decide_eq_false hb) ?_)
    have e : decide ((z_fn 0 (A 4) (x + 2).toNatClampNeg) = 116) = false := decide_eq_false hb
    rw [e]
    simp only [Bool.false_and]
    refine z_Ln.blk (pc' := 27) (lv' := [(3, .int 2), (0, .ref 110), (1, .ref 92), (2, .int x)]) (st' := [.int 0]) (H' := hC A E N V W ++ g) (C := []) 16 1 rfl trivial ?_
    exact z_Ln.ret rfl (z_retB (Or.inl rfl))
set_option maxRecDepth 10000 in
theorem s38_26_1 {L : Nat} {xs : Nat → Int32} {fv : Value} {f w : Nat} {c : Nat × Nat} {A : Nat → List (Nat × Int32)} {E : List (Nat × Option Nat)} {N : Nat → Nat} {V : Nat → Nat → Int32} {W : Nat} {g : List z_E} {x : Int32} (hRm : z_Rm (hC A E N V W ++ g, c)) (hf : 4 ≤ f) (hw : 400 ≤ w) (h1 : z_in (x + 1) 1500 = true) (h2 : z_in (x + 2) 1500 = true) (h3 : z_in (x + 3) 1500 = true) (h4 : z_in (x + 4) 1500 = true) (h5 : z_in (x + 5) 1500 = true) : z_Ln L xs fv f w 38 2 [(3, .int 1), (0, .ref 110), (1, .ref 92), (2, .int x)] [] (hC A E N V W ++ g, c) (.inl (some (.int (z_B1 (decide (z_fn 0 (A 4) (x + 1).toNatClampNeg = 101) && decide (z_fn 0 (A 4) (x + 2).toNatClampNeg = 116) && decide (z_fn 0 (A 4) (x + 3).toNatClampNeg = 117) && decide (z_fn 0 (A 4) (x + 4).toNatClampNeg = 114) && decide (z_fn 0 (A 4) (x + 5).toNatClampNeg = 110)))))) (hC A E N V W ++ g, c) := by
  have m36 : z_pg.2.1 36 = 1 := rfl
  have m39 : z_pg.2.1 39 = 2 := rfl
  refine z_Ln.blk (pc' := 4) (lv' := [(3, .int 1), (0, .ref 110), (1, .ref 92), (2, .int x)]) (st' := [.ref 92, .int 1]) (H' := hC A E N V W ++ g) (C := []) 2 2 rfl trivial ?_
  refine z_Ln.call (s := 0) (mj := 36) (as := [.ref 92]) (rr := [.int 1]) (v := some (.int 6)) (T1 := (hC A E N V W ++ g, c)) rfl rfl ⟨⟨by omega, by omega⟩, (by decide : (1 : Nat) ≤ 8), (by decide +kernel : (1 : Nat) ≤ z_pg.2.1 36)⟩ hRm (s36_26 hRm (by omega) (by omega)) ⟨⟨trivial, trivial⟩, ⟨trivial, (z_sm0C 0 (by decide) rfl rfl), (Or.inl (by decide)), trivial, trivial⟩⟩ ?_
  refine z_Ln.blk (pc' := (if decide (6 ≤ 1) = true then 34 else 10)) (lv' := [(3, .int 1), (0, .ref 110), (1, .ref 92), (2, .int x)]) (st' := []) (H' := hC A E N V W ++ g) (C := []) 5 1 rfl trivial (z_Ln.brF (decide_eq_false (by decide)) ?_)
  refine z_Ln.blk (pc' := 20) (lv' := [(3, .int 1), (0, .ref 110), (1, .ref 92), (2, .int x)]) (st' := [.int 1, .ref 92, .int (z_fn 0 (A 4) (x + 1).toNatClampNeg)]) (H' := hC A E N V W ++ g) (C := [z_in (x + 1) 1500 = true]) 6 8 rfl h1 ?_
  refine z_Ln.call (s := 0) (mj := 39) (as := [.ref 92, .int 1]) (rr := [.int (z_fn 0 (A 4) (x + 1).toNatClampNeg)]) (v := some (.int 101)) (T1 := (hC A E N V W ++ g, c)) rfl rfl ⟨⟨by omega, by omega⟩, (by decide : (1 : Nat) ≤ 8), (by decide +kernel : (2 : Nat) ≤ z_pg.2.1 39)⟩ hRm (s39_26_1 hRm (by omega) (by omega)) ⟨⟨trivial, trivial⟩, ⟨trivial, (z_sm0C 0 (by decide) rfl rfl), (Or.inl (by decide)), trivial, trivial⟩⟩ ?_
  by_cases hb : (z_fn 0 (A 4) (x + 1).toNatClampNeg) = 101
  · refine z_Ln.blk (pc' := (if decide ((z_fn 0 (A 4) (x + 1).toNatClampNeg) = 101) = true then 28 else 26)) (lv' := [(3, .int 1), (0, .ref 110), (1, .ref 92), (2, .int x)]) (st' := []) (H' := hC A E N V W ++ g) (C := []) 15 1 rfl trivial (z_Ln.brT (decide_eq_true hb) ?_)
    refine z_Ln.blk (pc' := 2) (lv' := [(3, .int 2), (0, .ref 110), (1, .ref 92), (2, .int x)]) (st' := []) (H' := hC A E N V W ++ g) (C := []) 18 2 rfl trivial ?_
    have e : decide ((z_fn 0 (A 4) (x + 1).toNatClampNeg) = 101) = true := decide_eq_true hb
    rw [e]
    simp only [Bool.true_and]
    exact s38_26_2 (x := x) hRm hf hw h2 h3 h4 h5
  · refine z_Ln.blk (pc' := (if decide ((z_fn 0 (A 4) (x + 1).toNatClampNeg) = 101) = true then 28 else 26)) (lv' := [(3, .int 1), (0, .ref 110), (1, .ref 92), (2, .int x)]) (st' := []) (H' := hC A E N V W ++ g) (C := []) 15 1 rfl trivial (z_Ln.brF (decide_eq_false hb) ?_)
    have e : decide ((z_fn 0 (A 4) (x + 1).toNatClampNeg) = 101) = false := decide_eq_false hb
    rw [e]
    simp only [Bool.false_and]
    refine z_Ln.blk (pc' := 27) (lv' := [(3, .int 1), (0, .ref 110), (1, .ref 92), (2, .int x)]) (st' := [.int 0]) (H' := hC A E N V W ++ g) (C := []) 16 1 rfl trivial ?_
    exact z_Ln.ret rfl (z_retB (Or.inl rfl))
set_option maxRecDepth 10000 in
theorem s38_26_0 {L : Nat} {xs : Nat → Int32} {fv : Value} {f w : Nat} {c : Nat × Nat} {A : Nat → List (Nat × Int32)} {E : List (Nat × Option Nat)} {N : Nat → Nat} {V : Nat → Nat → Int32} {W : Nat} {g : List z_E} {x : Int32} (hRm : z_Rm (hC A E N V W ++ g, c)) (hf : 4 ≤ f) (hw : 400 ≤ w) (h0 : z_in (x + 0) 1500 = true) (h1 : z_in (x + 1) 1500 = true) (h2 : z_in (x + 2) 1500 = true) (h3 : z_in (x + 3) 1500 = true) (h4 : z_in (x + 4) 1500 = true) (h5 : z_in (x + 5) 1500 = true) : z_Ln L xs fv f w 38 2 [(3, .int 0), (0, .ref 110), (1, .ref 92), (2, .int x)] [] (hC A E N V W ++ g, c) (.inl (some (.int (z_B1 (decide (z_fn 0 (A 4) (x + 0).toNatClampNeg = 114) && decide (z_fn 0 (A 4) (x + 1).toNatClampNeg = 101) && decide (z_fn 0 (A 4) (x + 2).toNatClampNeg = 116) && decide (z_fn 0 (A 4) (x + 3).toNatClampNeg = 117) && decide (z_fn 0 (A 4) (x + 4).toNatClampNeg = 114) && decide (z_fn 0 (A 4) (x + 5).toNatClampNeg = 110)))))) (hC A E N V W ++ g, c) := by
  have m36 : z_pg.2.1 36 = 1 := rfl
  have m39 : z_pg.2.1 39 = 2 := rfl
  refine z_Ln.blk (pc' := 4) (lv' := [(3, .int 0), (0, .ref 110), (1, .ref 92), (2, .int x)]) (st' := [.ref 92, .int 0]) (H' := hC A E N V W ++ g) (C := []) 2 2 rfl trivial ?_
  refine z_Ln.call (s := 0) (mj := 36) (as := [.ref 92]) (rr := [.int 0]) (v := some (.int 6)) (T1 := (hC A E N V W ++ g, c)) rfl rfl ⟨⟨by omega, by omega⟩, (by decide : (1 : Nat) ≤ 8), (by decide +kernel : (1 : Nat) ≤ z_pg.2.1 36)⟩ hRm (s36_26 hRm (by omega) (by omega)) ⟨⟨trivial, trivial⟩, ⟨trivial, (z_sm0C 0 (by decide) rfl rfl), (Or.inl (by decide)), trivial, trivial⟩⟩ ?_
  refine z_Ln.blk (pc' := (if decide (6 ≤ 0) = true then 34 else 10)) (lv' := [(3, .int 0), (0, .ref 110), (1, .ref 92), (2, .int x)]) (st' := []) (H' := hC A E N V W ++ g) (C := []) 5 1 rfl trivial (z_Ln.brF (decide_eq_false (by decide)) ?_)
  refine z_Ln.blk (pc' := 20) (lv' := [(3, .int 0), (0, .ref 110), (1, .ref 92), (2, .int x)]) (st' := [.int 0, .ref 92, .int (z_fn 0 (A 4) (x + 0).toNatClampNeg)]) (H' := hC A E N V W ++ g) (C := [z_in (x + 0) 1500 = true]) 6 8 rfl h0 ?_
  refine z_Ln.call (s := 0) (mj := 39) (as := [.ref 92, .int 0]) (rr := [.int (z_fn 0 (A 4) (x + 0).toNatClampNeg)]) (v := some (.int 114)) (T1 := (hC A E N V W ++ g, c)) rfl rfl ⟨⟨by omega, by omega⟩, (by decide : (1 : Nat) ≤ 8), (by decide +kernel : (2 : Nat) ≤ z_pg.2.1 39)⟩ hRm (s39_26_0 hRm (by omega) (by omega)) ⟨⟨trivial, trivial⟩, ⟨trivial, (z_sm0C 0 (by decide) rfl rfl), (Or.inl (by decide)), trivial, trivial⟩⟩ ?_
  by_cases hb : (z_fn 0 (A 4) (x + 0).toNatClampNeg) = 114
  · refine z_Ln.blk (pc' := (if decide ((z_fn 0 (A 4) (x + 0).toNatClampNeg) = 114) = true then 28 else 26)) (lv' := [(3, .int 0), (0, .ref 110), (1, .ref 92), (2, .int x)]) (st' := []) (H' := hC A E N V W ++ g) (C := []) 15 1 rfl trivial (z_Ln.brT (decide_eq_true hb) ?_)
    refine z_Ln.blk (pc' := 2) (lv' := [(3, .int 1), (0, .ref 110), (1, .ref 92), (2, .int x)]) (st' := []) (H' := hC A E N V W ++ g) (C := []) 18 2 rfl trivial ?_
    have e : decide ((z_fn 0 (A 4) (x + 0).toNatClampNeg) = 114) = true := decide_eq_true hb
    rw [e]
    simp only [Bool.true_and]
    exact s38_26_1 (x := x) hRm hf hw h1 h2 h3 h4 h5
  · refine z_Ln.blk (pc' := (if decide ((z_fn 0 (A 4) (x + 0).toNatClampNeg) = 114) = true then 28 else 26)) (lv' := [(3, .int 0), (0, .ref 110), (1, .ref 92), (2, .int x)]) (st' := []) (H' := hC A E N V W ++ g) (C := []) 15 1 rfl trivial (z_Ln.brF (decide_eq_false hb) ?_)
    have e : decide ((z_fn 0 (A 4) (x + 0).toNatClampNeg) = 114) = false := decide_eq_false hb
    rw [e]
    simp only [Bool.false_and]
    refine z_Ln.blk (pc' := 27) (lv' := [(3, .int 0), (0, .ref 110), (1, .ref 92), (2, .int x)]) (st' := [.int 0]) (H' := hC A E N V W ++ g) (C := []) 16 1 rfl trivial ?_
    exact z_Ln.ret rfl (z_retB (Or.inl rfl))
set_option maxRecDepth 10000 in
theorem s38_27_3 {L : Nat} {xs : Nat → Int32} {fv : Value} {f w : Nat} {c : Nat × Nat} {A : Nat → List (Nat × Int32)} {E : List (Nat × Option Nat)} {N : Nat → Nat} {V : Nat → Nat → Int32} {W : Nat} {g : List z_E} {x : Int32} (hRm : z_Rm (hC A E N V W ++ g, c)) (hf : 4 ≤ f) (hw : 400 ≤ w)  : z_Ln L xs fv f w 38 2 [(3, .int 3), (0, .ref 110), (1, .ref 94), (2, .int x)] [] (hC A E N V W ++ g, c) (.inl (some (.int (z_B1 true)))) (hC A E N V W ++ g, c) := by
  have m36 : z_pg.2.1 36 = 1 := rfl
  refine z_Ln.blk (pc' := 4) (lv' := [(3, .int 3), (0, .ref 110), (1, .ref 94), (2, .int x)]) (st' := [.ref 94, .int 3]) (H' := hC A E N V W ++ g) (C := []) 2 2 rfl trivial ?_
  refine z_Ln.call (s := 0) (mj := 36) (as := [.ref 94]) (rr := [.int 3]) (v := some (.int 3)) (T1 := (hC A E N V W ++ g, c)) rfl rfl ⟨⟨by omega, by have : z_pg.2.1 36 = 1 := rfl; omega⟩, (by decide : (1 : Nat) ≤ 8), (by decide +kernel : (1 : Nat) ≤ z_pg.2.1 36)⟩ hRm (s36_27 hRm (by omega) (by omega)) ⟨⟨trivial, trivial⟩, ⟨trivial, (z_sm0C 0 (by decide) rfl rfl), (Or.inl (by decide)), trivial, trivial⟩⟩ ?_
  refine z_Ln.blk (pc' := (if decide (3 ≤ 3) = true then 34 else 10)) (lv' := [(3, .int 3), (0, .ref 110), (1, .ref 94), (2, .int x)]) (st' := []) (H' := hC A E N V W ++ g) (C := []) 5 1 rfl trivial (z_Ln.brT (decide_eq_true (by decide)) ?_)
  refine z_Ln.blk (pc' := 35) (lv' := [(3, .int 3), (0, .ref 110), (1, .ref 94), (2, .int x)]) (st' := [.int 1]) (H' := hC A E N V W ++ g) (C := []) 20 1 rfl trivial ?_
  exact z_Ln.ret rfl (z_retB (Or.inr rfl))
set_option maxRecDepth 10000 in
theorem s38_27_2 {L : Nat} {xs : Nat → Int32} {fv : Value} {f w : Nat} {c : Nat × Nat} {A : Nat → List (Nat × Int32)} {E : List (Nat × Option Nat)} {N : Nat → Nat} {V : Nat → Nat → Int32} {W : Nat} {g : List z_E} {x : Int32} (hRm : z_Rm (hC A E N V W ++ g, c)) (hf : 4 ≤ f) (hw : 400 ≤ w) (h2 : z_in (x + 2) 1500 = true) : z_Ln L xs fv f w 38 2 [(3, .int 2), (0, .ref 110), (1, .ref 94), (2, .int x)] [] (hC A E N V W ++ g, c) (.inl (some (.int (z_B1 (decide (z_fn 0 (A 4) (x + 2).toNatClampNeg = 100)))))) (hC A E N V W ++ g, c) := by
  have m36 : z_pg.2.1 36 = 1 := rfl
  have m39 : z_pg.2.1 39 = 2 := rfl
  refine z_Ln.blk (pc' := 4) (lv' := [(3, .int 2), (0, .ref 110), (1, .ref 94), (2, .int x)]) (st' := [.ref 94, .int 2]) (H' := hC A E N V W ++ g) (C := []) 2 2 rfl trivial ?_
  refine z_Ln.call (s := 0) (mj := 36) (as := [.ref 94]) (rr := [.int 2]) (v := some (.int 3)) (T1 := (hC A E N V W ++ g, c)) rfl rfl ⟨⟨by omega, by omega⟩, (by decide : (1 : Nat) ≤ 8), (by decide +kernel : (1 : Nat) ≤ z_pg.2.1 36)⟩ hRm (s36_27 hRm (by omega) (by omega)) ⟨⟨trivial, trivial⟩, ⟨trivial, (z_sm0C 0 (by decide) rfl rfl), (Or.inl (by decide)), trivial, trivial⟩⟩ ?_
  refine z_Ln.blk (pc' := (if decide (3 ≤ 2) = true then 34 else 10)) (lv' := [(3, .int 2), (0, .ref 110), (1, .ref 94), (2, .int x)]) (st' := []) (H' := hC A E N V W ++ g) (C := []) 5 1 rfl trivial (z_Ln.brF (decide_eq_false (by decide)) ?_)
  refine z_Ln.blk (pc' := 20) (lv' := [(3, .int 2), (0, .ref 110), (1, .ref 94), (2, .int x)]) (st' := [.int 2, .ref 94, .int (z_fn 0 (A 4) (x + 2).toNatClampNeg)]) (H' := hC A E N V W ++ g) (C := [z_in (x + 2) 1500 = true]) 6 8 rfl h2 ?_
  refine z_Ln.call (s := 0) (mj := 39) (as := [.ref 94, .int 2]) (rr := [.int (z_fn 0 (A 4) (x + 2).toNatClampNeg)]) (v := some (.int 100)) (T1 := (hC A E N V W ++ g, c)) rfl rfl ⟨⟨by omega, by omega⟩, (by decide : (1 : Nat) ≤ 8), (by decide +kernel : (2 : Nat) ≤ z_pg.2.1 39)⟩ hRm (s39_27_2 hRm (by omega) (by omega)) ⟨⟨trivial, trivial⟩, ⟨trivial, (z_sm0C 0 (by decide) rfl rfl), (Or.inl (by decide)), trivial, trivial⟩⟩ ?_
  by_cases hb : (z_fn 0 (A 4) (x + 2).toNatClampNeg) = 100
  · refine z_Ln.blk (pc' := (if decide ((z_fn 0 (A 4) (x + 2).toNatClampNeg) = 100) = true then 28 else 26)) (lv' := [(3, .int 2), (0, .ref 110), (1, .ref 94), (2, .int x)]) (st' := []) (H' := hC A E N V W ++ g) (C := []) 15 1 rfl trivial (z_Ln.brT (decide_eq_true hb) ?_)
    refine z_Ln.blk (pc' := 2) (lv' := [(3, .int 3), (0, .ref 110), (1, .ref 94), (2, .int x)]) (st' := []) (H' := hC A E N V W ++ g) (C := []) 18 2 rfl trivial ?_
    have e : decide ((z_fn 0 (A 4) (x + 2).toNatClampNeg) = 100) = true := decide_eq_true hb
    rw [e]
    exact s38_27_3 (x := x) hRm hf hw 
  · refine z_Ln.blk (pc' := (if decide ((z_fn 0 (A 4) (x + 2).toNatClampNeg) = 100) = true then 28 else 26)) (lv' := [(3, .int 2), (0, .ref 110), (1, .ref 94), (2, .int x)]) (st' := []) (H' := hC A E N V W ++ g) (C := []) 15 1 rfl trivial (z_Ln.brF (decide_eq_false hb) ?_)
    have e : decide ((z_fn 0 (A 4) (x + 2).toNatClampNeg) = 100) = false := decide_eq_false hb
    rw [e]
    refine z_Ln.blk (pc' := 27) (lv' := [(3, .int 2), (0, .ref 110), (1, .ref 94), (2, .int x)]) (st' := [.int 0]) (H' := hC A E N V W ++ g) (C := []) 16 1 rfl trivial ?_
    exact z_Ln.ret rfl (z_retB (Or.inl rfl))
set_option maxRecDepth 10000 in
theorem s38_27_1 {L : Nat} {xs : Nat → Int32} {fv : Value} {f w : Nat} {c : Nat × Nat} {A : Nat → List (Nat × Int32)} {E : List (Nat × Option Nat)} {N : Nat → Nat} {V : Nat → Nat → Int32} {W : Nat} {g : List z_E} {x : Int32} (hRm : z_Rm (hC A E N V W ++ g, c)) (hf : 4 ≤ f) (hw : 400 ≤ w) (h1 : z_in (x + 1) 1500 = true) (h2 : z_in (x + 2) 1500 = true) : z_Ln L xs fv f w 38 2 [(3, .int 1), (0, .ref 110), (1, .ref 94), (2, .int x)] [] (hC A E N V W ++ g, c) (.inl (some (.int (z_B1 (decide (z_fn 0 (A 4) (x + 1).toNatClampNeg = 110) && decide (z_fn 0 (A 4) (x + 2).toNatClampNeg = 100)))))) (hC A E N V W ++ g, c) := by
  have m36 : z_pg.2.1 36 = 1 := rfl
  have m39 : z_pg.2.1 39 = 2 := rfl
  refine z_Ln.blk (pc' := 4) (lv' := [(3, .int 1), (0, .ref 110), (1, .ref 94), (2, .int x)]) (st' := [.ref 94, .int 1]) (H' := hC A E N V W ++ g) (C := []) 2 2 rfl trivial ?_
  refine z_Ln.call (s := 0) (mj := 36) (as := [.ref 94]) (rr := [.int 1]) (v := some (.int 3)) (T1 := (hC A E N V W ++ g, c)) rfl rfl ⟨⟨by omega, by omega⟩, (by decide : (1 : Nat) ≤ 8), (by decide +kernel : (1 : Nat) ≤ z_pg.2.1 36)⟩ hRm (s36_27 hRm (by omega) (by omega)) ⟨⟨trivial, trivial⟩, ⟨trivial, (z_sm0C 0 (by decide) rfl rfl), (Or.inl (by decide)), trivial, trivial⟩⟩ ?_
  refine z_Ln.blk (pc' := (if decide (3 ≤ 1) = true then 34 else 10)) (lv' := [(3, .int 1), (0, .ref 110), (1, .ref 94), (2, .int x)]) (st' := []) (H' := hC A E N V W ++ g) (C := []) 5 1 rfl trivial (z_Ln.brF (decide_eq_false (by decide)) ?_)
  refine z_Ln.blk (pc' := 20) (lv' := [(3, .int 1), (0, .ref 110), (1, .ref 94), (2, .int x)]) (st' := [.int 1, .ref 94, .int (z_fn 0 (A 4) (x + 1).toNatClampNeg)]) (H' := hC A E N V W ++ g) (C := [z_in (x + 1) 1500 = true]) 6 8 rfl h1 ?_
  refine z_Ln.call (s := 0) (mj := 39) (as := [.ref 94, .int 1]) (rr := [.int (z_fn 0 (A 4) (x + 1).toNatClampNeg)]) (v := some (.int 110)) (T1 := (hC A E N V W ++ g, c)) rfl rfl ⟨⟨by omega, by omega⟩, (by decide : (1 : Nat) ≤ 8), (by decide +kernel : (2 : Nat) ≤ z_pg.2.1 39)⟩ hRm (s39_27_1 hRm (by omega) (by omega)) ⟨⟨trivial, trivial⟩, ⟨trivial, (z_sm0C 0 (by decide) rfl rfl), (Or.inl (by decide)), trivial, trivial⟩⟩ ?_
  by_cases hb : (z_fn 0 (A 4) (x + 1).toNatClampNeg) = 110
  · refine z_Ln.blk (pc' := (if decide ((z_fn 0 (A 4) (x + 1).toNatClampNeg) = 110) = true then 28 else 26)) (lv' := [(3, .int 1), (0, .ref 110), (1, .ref 94), (2, .int x)]) (st' := []) (H' := hC A E N V W ++ g) (C := []) 15 1 rfl trivial (z_Ln.brT (decide_eq_true hb) ?_)
    refine z_Ln.blk (pc' := 2) (lv' := [(3, .int 2), (0, .ref 110), (1, .ref 94), (2, .int x)]) (st' := []) (H' := hC A E N V W ++ g) (C := []) 18 2 rfl trivial ?_
    have e : decide ((z_fn 0 (A 4) (x + 1).toNatClampNeg) = 110) = true := decide_eq_true hb
    rw [e]
    simp only [Bool.true_and]
    exact s38_27_2 (x := x) hRm hf hw h2
  · refine z_Ln.blk (pc' := (if decide ((z_fn 0 (A 4) (x + 1).toNatClampNeg) = 110) = true then 28 else 26)) (lv' := [(3, .int 1), (0, .ref 110), (1, .ref 94), (2, .int x)]) (st' := []) (H' := hC A E N V W ++ g) (C := []) 15 1 rfl trivial (z_Ln.brF (decide_eq_false hb) ?_)
    have e : decide ((z_fn 0 (A 4) (x + 1).toNatClampNeg) = 110) = false := decide_eq_false hb
    rw [e]
    simp only [Bool.false_and]
    refine z_Ln.blk (pc' := 27) (lv' := [(3, .int 1), (0, .ref 110), (1, .ref 94), (2, .int x)]) (st' := [.int 0]) (H' := hC A E N V W ++ g) (C := []) 16 1 rfl trivial ?_
    exact z_Ln.ret rfl (z_retB (Or.inl rfl))
set_option maxRecDepth 10000 in
theorem s38_27_0 {L : Nat} {xs : Nat → Int32} {fv : Value} {f w : Nat} {c : Nat × Nat} {A : Nat → List (Nat × Int32)} {E : List (Nat × Option Nat)} {N : Nat → Nat} {V : Nat → Nat → Int32} {W : Nat} {g : List z_E} {x : Int32} (hRm : z_Rm (hC A E N V W ++ g, c)) (hf : 4 ≤ f) (hw : 400 ≤ w) (h0 : z_in (x + 0) 1500 = true) (h1 : z_in (x + 1) 1500 = true) (h2 : z_in (x + 2) 1500 = true) : z_Ln L xs fv f w 38 2 [(3, .int 0), (0, .ref 110), (1, .ref 94), (2, .int x)] [] (hC A E N V W ++ g, c) (.inl (some (.int (z_B1 (decide (z_fn 0 (A 4) (x + 0).toNatClampNeg = 101) && decide (z_fn 0 (A 4) (x + 1).toNatClampNeg = 110) && decide (z_fn 0 (A 4) (x + 2).toNatClampNeg = 100)))))) (hC A E N V W ++ g, c) := by
  have m36 : z_pg.2.1 36 = 1 := rfl
  have m39 : z_pg.2.1 39 = 2 := rfl
  refine z_Ln.blk (pc' := 4) (lv' := [(3, .int 0), (0, .ref 110), (1, .ref 94), (2, .int x)]) (st' := [.ref 94, .int 0]) (H' := hC A E N V W ++ g) (C := []) 2 2 rfl trivial ?_
  refine z_Ln.call (s := 0) (mj := 36) (as := [.ref 94]) (rr := [.int 0]) (v := some (.int 3)) (T1 := (hC A E N V W ++ g, c)) rfl rfl ⟨⟨by omega, by omega⟩, (by decide : (1 : Nat) ≤ 8), (by decide +kernel : (1 : Nat) ≤ z_pg.2.1 36)⟩ hRm (s36_27 hRm (by omega) (by omega)) ⟨⟨trivial, trivial⟩, ⟨trivial, (z_sm0C 0 (by decide) rfl rfl), (Or.inl (by decide)), trivial, trivial⟩⟩ ?_
  refine z_Ln.blk (pc' := (if decide (3 ≤ 0) = true then 34 else 10)) (lv' := [(3, .int 0), (0, .ref 110), (1, .ref 94), (2, .int x)]) (st' := []) (H' := hC A E N V W ++ g) (C := []) 5 1 rfl trivial (z_Ln.brF (decide_eq_false (by decide)) ?_)
  refine z_Ln.blk (pc' := 20) (lv' := [(3, .int 0), (0, .ref 110), (1, .ref 94), (2, .int x)]) (st' := [.int 0, .ref 94, .int (z_fn 0 (A 4) (x + 0).toNatClampNeg)]) (H' := hC A E N V W ++ g) (C := [z_in (x + 0) 1500 = true]) 6 8 rfl h0 ?_
  refine z_Ln.call (s := 0) (mj := 39) (as := [.ref 94, .int 0]) (rr := [.int (z_fn 0 (A 4) (x + 0).toNatClampNeg)]) (v := some (.int 101)) (T1 := (hC A E N V W ++ g, c)) rfl rfl ⟨⟨by omega, by omega⟩, (by decide : (1 : Nat) ≤ 8), (by decide +kernel : (2 : Nat) ≤ z_pg.2.1 39)⟩ hRm (s39_27_0 hRm (by omega) (by omega)) ⟨⟨trivial, trivial⟩, ⟨trivial, (z_sm0C 0 (by decide) rfl rfl), (Or.inl (by decide)), trivial, trivial⟩⟩ ?_
  by_cases hb : (z_fn 0 (A 4) (x + 0).toNatClampNeg) = 101
  · refine z_Ln.blk (pc' := (if decide ((z_fn 0 (A 4) (x + 0).toNatClampNeg) = 101) = true then 28 else 26)) (lv' := [(3, .int 0), (0, .ref 110), (1, .ref 94), (2, .int x)]) (st' := []) (H' := hC A E N V W ++ g) (C := []) 15 1 rfl trivial (z_Ln.brT (decide_eq_true hb) ?_)
    refine z_Ln.blk (pc' := 2) (lv' := [(3, .int 1), (0, .ref 110), (1, .ref 94), (2, .int x)]) (st' := []) (H' := hC A E N V W ++ g) (C := []) 18 2 rfl trivial ?_
    have e : decide ((z_fn 0 (A 4) (x + 0).toNatClampNeg) = 101) = true := decide_eq_true hb
    rw [e]
    simp only [Bool.true_and]
    exact s38_27_1 (x := x) hRm hf hw h1 h2
  · refine z_Ln.blk (pc' := (if decide ((z_fn 0 (A 4) (x + 0).toNatClampNeg) = 101) = true then 28 else 26)) (lv' := [(3, .int 0), (0, .ref 110), (1, .ref 94), (2, .int x)]) (st' := []) (H' := hC A E N V W ++ g) (C := []) 15 1 rfl trivial (z_Ln.brF (decide_eq_false hb) ?_)
    have e : decide ((z_fn 0 (A 4) (x + 0).toNatClampNeg) = 101) = false := decide_eq_false hb
    rw [e]
    simp only [Bool.false_and]
    refine z_Ln.blk (pc' := 27) (lv' := [(3, .int 0), (0, .ref 110), (1, .ref 94), (2, .int x)]) (st' := [.int 0]) (H' := hC A E N V W ++ g) (C := []) 16 1 rfl trivial ?_
    exact z_Ln.ret rfl (z_retB (Or.inl rfl))
set_option maxRecDepth 10000 in
theorem s38_28_4 {L : Nat} {xs : Nat → Int32} {fv : Value} {f w : Nat} {c : Nat × Nat} {A : Nat → List (Nat × Int32)} {E : List (Nat × Option Nat)} {N : Nat → Nat} {V : Nat → Nat → Int32} {W : Nat} {g : List z_E} {x : Int32} (hRm : z_Rm (hC A E N V W ++ g, c)) (hf : 4 ≤ f) (hw : 400 ≤ w)  : z_Ln L xs fv f w 38 2 [(3, .int 4), (0, .ref 110), (1, .ref 96), (2, .int x)] [] (hC A E N V W ++ g, c) (.inl (some (.int (z_B1 true)))) (hC A E N V W ++ g, c) := by
  have m36 : z_pg.2.1 36 = 1 := rfl
  refine z_Ln.blk (pc' := 4) (lv' := [(3, .int 4), (0, .ref 110), (1, .ref 96), (2, .int x)]) (st' := [.ref 96, .int 4]) (H' := hC A E N V W ++ g) (C := []) 2 2 rfl trivial ?_
  refine z_Ln.call (s := 0) (mj := 36) (as := [.ref 96]) (rr := [.int 4]) (v := some (.int 4)) (T1 := (hC A E N V W ++ g, c)) rfl rfl ⟨⟨by omega, by have : z_pg.2.1 36 = 1 := rfl; omega⟩, (by decide : (1 : Nat) ≤ 8), (by decide +kernel : (1 : Nat) ≤ z_pg.2.1 36)⟩ hRm (s36_28 hRm (by omega) (by omega)) ⟨⟨trivial, trivial⟩, ⟨trivial, (z_sm0C 0 (by decide) rfl rfl), (Or.inl (by decide)), trivial, trivial⟩⟩ ?_
  refine z_Ln.blk (pc' := (if decide (4 ≤ 4) = true then 34 else 10)) (lv' := [(3, .int 4), (0, .ref 110), (1, .ref 96), (2, .int x)]) (st' := []) (H' := hC A E N V W ++ g) (C := []) 5 1 rfl trivial (z_Ln.brT (decide_eq_true (by decide)) ?_)
  refine z_Ln.blk (pc' := 35) (lv' := [(3, .int 4), (0, .ref 110), (1, .ref 96), (2, .int x)]) (st' := [.int 1]) (H' := hC A E N V W ++ g) (C := []) 20 1 rfl trivial ?_
  exact z_Ln.ret rfl (z_retB (Or.inr rfl))
set_option maxRecDepth 10000 in
theorem s38_28_3 {L : Nat} {xs : Nat → Int32} {fv : Value} {f w : Nat} {c : Nat × Nat} {A : Nat → List (Nat × Int32)} {E : List (Nat × Option Nat)} {N : Nat → Nat} {V : Nat → Nat → Int32} {W : Nat} {g : List z_E} {x : Int32} (hRm : z_Rm (hC A E N V W ++ g, c)) (hf : 4 ≤ f) (hw : 400 ≤ w) (h3 : z_in (x + 3) 1500 = true) : z_Ln L xs fv f w 38 2 [(3, .int 3), (0, .ref 110), (1, .ref 96), (2, .int x)] [] (hC A E N V W ++ g, c) (.inl (some (.int (z_B1 (decide (z_fn 0 (A 4) (x + 3).toNatClampNeg = 101)))))) (hC A E N V W ++ g, c) := by
  have m36 : z_pg.2.1 36 = 1 := rfl
  have m39 : z_pg.2.1 39 = 2 := rfl
  refine z_Ln.blk (pc' := 4) (lv' := [(3, .int 3), (0, .ref 110), (1, .ref 96), (2, .int x)]) (st' := [.ref 96, .int 3]) (H' := hC A E N V W ++ g) (C := []) 2 2 rfl trivial ?_
  refine z_Ln.call (s := 0) (mj := 36) (as := [.ref 96]) (rr := [.int 3]) (v := some (.int 4)) (T1 := (hC A E N V W ++ g, c)) rfl rfl ⟨⟨by omega, by omega⟩, (by decide : (1 : Nat) ≤ 8), (by decide +kernel : (1 : Nat) ≤ z_pg.2.1 36)⟩ hRm (s36_28 hRm (by omega) (by omega)) ⟨⟨trivial, trivial⟩, ⟨trivial, (z_sm0C 0 (by decide) rfl rfl), (Or.inl (by decide)), trivial, trivial⟩⟩ ?_
  refine z_Ln.blk (pc' := (if decide (4 ≤ 3) = true then 34 else 10)) (lv' := [(3, .int 3), (0, .ref 110), (1, .ref 96), (2, .int x)]) (st' := []) (H' := hC A E N V W ++ g) (C := []) 5 1 rfl trivial (z_Ln.brF (decide_eq_false (by decide)) ?_)
  refine z_Ln.blk (pc' := 20) (lv' := [(3, .int 3), (0, .ref 110), (1, .ref 96), (2, .int x)]) (st' := [.int 3, .ref 96, .int (z_fn 0 (A 4) (x + 3).toNatClampNeg)]) (H' := hC A E N V W ++ g) (C := [z_in (x + 3) 1500 = true]) 6 8 rfl h3 ?_
  refine z_Ln.call (s := 0) (mj := 39) (as := [.ref 96, .int 3]) (rr := [.int (z_fn 0 (A 4) (x + 3).toNatClampNeg)]) (v := some (.int 101)) (T1 := (hC A E N V W ++ g, c)) rfl rfl ⟨⟨by omega, by omega⟩, (by decide : (1 : Nat) ≤ 8), (by decide +kernel : (2 : Nat) ≤ z_pg.2.1 39)⟩ hRm (s39_28_3 hRm (by omega) (by omega)) ⟨⟨trivial, trivial⟩, ⟨trivial, (z_sm0C 0 (by decide) rfl rfl), (Or.inl (by decide)), trivial, trivial⟩⟩ ?_
  by_cases hb : (z_fn 0 (A 4) (x + 3).toNatClampNeg) = 101
  · refine z_Ln.blk (pc' := (if decide ((z_fn 0 (A 4) (x + 3).toNatClampNeg) = 101) = true then 28 else 26)) (lv' := [(3, .int 3), (0, .ref 110), (1, .ref 96), (2, .int x)]) (st' := []) (H' := hC A E N V W ++ g) (C := []) 15 1 rfl trivial (z_Ln.brT (decide_eq_true hb) ?_)
    refine z_Ln.blk (pc' := 2) (lv' := [(3, .int 4), (0, .ref 110), (1, .ref 96), (2, .int x)]) (st' := []) (H' := hC A E N V W ++ g) (C := []) 18 2 rfl trivial ?_
    have e : decide ((z_fn 0 (A 4) (x + 3).toNatClampNeg) = 101) = true := decide_eq_true hb
    rw [e]
    exact s38_28_4 (x := x) hRm hf hw 
  · refine z_Ln.blk (pc' := (if decide ((z_fn 0 (A 4) (x + 3).toNatClampNeg) = 101) = true then 28 else 26)) (lv' := [(3, .int 3), (0, .ref 110), (1, .ref 96), (2, .int x)]) (st' := []) (H' := hC A E N V W ++ g) (C := []) 15 1 rfl trivial (z_Ln.brF (decide_eq_false hb) ?_)
    have e : decide ((z_fn 0 (A 4) (x + 3).toNatClampNeg) = 101) = false := decide_eq_false hb
    rw [e]
    refine z_Ln.blk (pc' := 27) (lv' := [(3, .int 3), (0, .ref 110), (1, .ref 96), (2, .int x)]) (st' := [.int 0]) (H' := hC A E N V W ++ g) (C := []) 16 1 rfl trivial ?_
    exact z_Ln.ret rfl (z_retB (Or.inl rfl))
set_option maxRecDepth 10000 in
theorem s38_28_2 {L : Nat} {xs : Nat → Int32} {fv : Value} {f w : Nat} {c : Nat × Nat} {A : Nat → List (Nat × Int32)} {E : List (Nat × Option Nat)} {N : Nat → Nat} {V : Nat → Nat → Int32} {W : Nat} {g : List z_E} {x : Int32} (hRm : z_Rm (hC A E N V W ++ g, c)) (hf : 4 ≤ f) (hw : 400 ≤ w) (h2 : z_in (x + 2) 1500 = true) (h3 : z_in (x + 3) 1500 = true) : z_Ln L xs fv f w 38 2 [(3, .int 2), (0, .ref 110), (1, .ref 96), (2, .int x)] [] (hC A E N V W ++ g, c) (.inl (some (.int (z_B1 (decide (z_fn 0 (A 4) (x + 2).toNatClampNeg = 117) && decide (z_fn 0 (A 4) (x + 3).toNatClampNeg = 101)))))) (hC A E N V W ++ g, c) := by
  have m36 : z_pg.2.1 36 = 1 := rfl
  have m39 : z_pg.2.1 39 = 2 := rfl
  refine z_Ln.blk (pc' := 4) (lv' := [(3, .int 2), (0, .ref 110), (1, .ref 96), (2, .int x)]) (st' := [.ref 96, .int 2]) (H' := hC A E N V W ++ g) (C := []) 2 2 rfl trivial ?_
  refine z_Ln.call (s := 0) (mj := 36) (as := [.ref 96]) (rr := [.int 2]) (v := some (.int 4)) (T1 := (hC A E N V W ++ g, c)) rfl rfl ⟨⟨by omega, by omega⟩, (by decide : (1 : Nat) ≤ 8), (by decide +kernel : (1 : Nat) ≤ z_pg.2.1 36)⟩ hRm (s36_28 hRm (by omega) (by omega)) ⟨⟨trivial, trivial⟩, ⟨trivial, (z_sm0C 0 (by decide) rfl rfl), (Or.inl (by decide)), trivial, trivial⟩⟩ ?_
  refine z_Ln.blk (pc' := (if decide (4 ≤ 2) = true then 34 else 10)) (lv' := [(3, .int 2), (0, .ref 110), (1, .ref 96), (2, .int x)]) (st' := []) (H' := hC A E N V W ++ g) (C := []) 5 1 rfl trivial (z_Ln.brF (decide_eq_false (by decide)) ?_)
  refine z_Ln.blk (pc' := 20) (lv' := [(3, .int 2), (0, .ref 110), (1, .ref 96), (2, .int x)]) (st' := [.int 2, .ref 96, .int (z_fn 0 (A 4) (x + 2).toNatClampNeg)]) (H' := hC A E N V W ++ g) (C := [z_in (x + 2) 1500 = true]) 6 8 rfl h2 ?_
  refine z_Ln.call (s := 0) (mj := 39) (as := [.ref 96, .int 2]) (rr := [.int (z_fn 0 (A 4) (x + 2).toNatClampNeg)]) (v := some (.int 117)) (T1 := (hC A E N V W ++ g, c)) rfl rfl ⟨⟨by omega, by omega⟩, (by decide : (1 : Nat) ≤ 8), (by decide +kernel : (2 : Nat) ≤ z_pg.2.1 39)⟩ hRm (s39_28_2 hRm (by omega) (by omega)) ⟨⟨trivial, trivial⟩, ⟨trivial, (z_sm0C 0 (by decide) rfl rfl), (Or.inl (by decide)), trivial, trivial⟩⟩ ?_
  by_cases hb : (z_fn 0 (A 4) (x + 2).toNatClampNeg) = 117
  · refine z_Ln.blk (pc' := (if decide ((z_fn 0 (A 4) (x + 2).toNatClampNeg) = 117) = true then 28 else 26)) (lv' := [(3, .int 2), (0, .ref 110), (1, .ref 96), (2, .int x)]) (st' := []) (H' := hC A E N V W ++ g) (C := []) 15 1 rfl trivial (z_Ln.brT (decide_eq_true hb) ?_)
    refine z_Ln.blk (pc' := 2) (lv' := [(3, .int 3), (0, .ref 110), (1, .ref 96), (2, .int x)]) (st' := []) (H' := hC A E N V W ++ g) (C := []) 18 2 rfl trivial ?_
    have e : decide ((z_fn 0 (A 4) (x + 2).toNatClampNeg) = 117) = true := decide_eq_true hb
    rw [e]
    simp only [Bool.true_and]
    exact s38_28_3 (x := x) hRm hf hw h3
  · refine z_Ln.blk (pc' := (if decide ((z_fn 0 (A 4) (x + 2).toNatClampNeg) = 117) = true then 28 else 26)) (lv' := [(3, .int 2), (0, .ref 110), (1, .ref 96), (2, .int x)]) (st' := []) (H' := hC A E N V W ++ g) (C := []) 15 1 rfl trivial (z_Ln.brF (decide_eq_false hb) ?_)
    have e : decide ((z_fn 0 (A 4) (x + 2).toNatClampNeg) = 117) = false := decide_eq_false hb
    rw [e]
    simp only [Bool.false_and]
    refine z_Ln.blk (pc' := 27) (lv' := [(3, .int 2), (0, .ref 110), (1, .ref 96), (2, .int x)]) (st' := [.int 0]) (H' := hC A E N V W ++ g) (C := []) 16 1 rfl trivial ?_
    exact z_Ln.ret rfl (z_retB (Or.inl rfl))
set_option maxRecDepth 10000 in
theorem s38_28_1 {L : Nat} {xs : Nat → Int32} {fv : Value} {f w : Nat} {c : Nat × Nat} {A : Nat → List (Nat × Int32)} {E : List (Nat × Option Nat)} {N : Nat → Nat} {V : Nat → Nat → Int32} {W : Nat} {g : List z_E} {x : Int32} (hRm : z_Rm (hC A E N V W ++ g, c)) (hf : 4 ≤ f) (hw : 400 ≤ w) (h1 : z_in (x + 1) 1500 = true) (h2 : z_in (x + 2) 1500 = true) (h3 : z_in (x + 3) 1500 = true) : z_Ln L xs fv f w 38 2 [(3, .int 1), (0, .ref 110), (1, .ref 96), (2, .int x)] [] (hC A E N V W ++ g, c) (.inl (some (.int (z_B1 (decide (z_fn 0 (A 4) (x + 1).toNatClampNeg = 114) && decide (z_fn 0 (A 4) (x + 2).toNatClampNeg = 117) && decide (z_fn 0 (A 4) (x + 3).toNatClampNeg = 101)))))) (hC A E N V W ++ g, c) := by
  have m36 : z_pg.2.1 36 = 1 := rfl
  have m39 : z_pg.2.1 39 = 2 := rfl
  refine z_Ln.blk (pc' := 4) (lv' := [(3, .int 1), (0, .ref 110), (1, .ref 96), (2, .int x)]) (st' := [.ref 96, .int 1]) (H' := hC A E N V W ++ g) (C := []) 2 2 rfl trivial ?_
  refine z_Ln.call (s := 0) (mj := 36) (as := [.ref 96]) (rr := [.int 1]) (v := some (.int 4)) (T1 := (hC A E N V W ++ g, c)) rfl rfl ⟨⟨by omega, by omega⟩, (by decide : (1 : Nat) ≤ 8), (by decide +kernel : (1 : Nat) ≤ z_pg.2.1 36)⟩ hRm (s36_28 hRm (by omega) (by omega)) ⟨⟨trivial, trivial⟩, ⟨trivial, (z_sm0C 0 (by decide) rfl rfl), (Or.inl (by decide)), trivial, trivial⟩⟩ ?_
  refine z_Ln.blk (pc' := (if decide (4 ≤ 1) = true then 34 else 10)) (lv' := [(3, .int 1), (0, .ref 110), (1, .ref 96), (2, .int x)]) (st' := []) (H' := hC A E N V W ++ g) (C := []) 5 1 rfl trivial (z_Ln.brF (decide_eq_false (by decide)) ?_)
  refine z_Ln.blk (pc' := 20) (lv' := [(3, .int 1), (0, .ref 110), (1, .ref 96), (2, .int x)]) (st' := [.int 1, .ref 96, .int (z_fn 0 (A 4) (x + 1).toNatClampNeg)]) (H' := hC A E N V W ++ g) (C := [z_in (x + 1) 1500 = true]) 6 8 rfl h1 ?_
  refine z_Ln.call (s := 0) (mj := 39) (as := [.ref 96, .int 1]) (rr := [.int (z_fn 0 (A 4) (x + 1).toNatClampNeg)]) (v := some (.int 114)) (T1 := (hC A E N V W ++ g, c)) rfl rfl ⟨⟨by omega, by omega⟩, (by decide : (1 : Nat) ≤ 8), (by decide +kernel : (2 : Nat) ≤ z_pg.2.1 39)⟩ hRm (s39_28_1 hRm (by omega) (by omega)) ⟨⟨trivial, trivial⟩, ⟨trivial, (z_sm0C 0 (by decide) rfl rfl), (Or.inl (by decide)), trivial, trivial⟩⟩ ?_
  by_cases hb : (z_fn 0 (A 4) (x + 1).toNatClampNeg) = 114
  · refine z_Ln.blk (pc' := (if decide ((z_fn 0 (A 4) (x + 1).toNatClampNeg) = 114) = true then 28 else 26)) (lv' := [(3, .int 1), (0, .ref 110), (1, .ref 96), (2, .int x)]) (st' := []) (H' := hC A E N V W ++ g) (C := []) 15 1 rfl trivial (z_Ln.brT (decide_eq_true hb) ?_)
    refine z_Ln.blk (pc' := 2) (lv' := [(3, .int 2), (0, .ref 110), (1, .ref 96), (2, .int x)]) (st' := []) (H' := hC A E N V W ++ g) (C := []) 18 2 rfl trivial ?_
    have e : decide ((z_fn 0 (A 4) (x + 1).toNatClampNeg) = 114) = true := decide_eq_true hb
    rw [e]
    simp only [Bool.true_and]
    exact s38_28_2 (x := x) hRm hf hw h2 h3
  · refine z_Ln.blk (pc' := (if decide ((z_fn 0 (A 4) (x + 1).toNatClampNeg) = 114) = true then 28 else 26)) (lv' := [(3, .int 1), (0, .ref 110), (1, .ref 96), (2, .int x)]) (st' := []) (H' := hC A E N V W ++ g) (C := []) 15 1 rfl trivial (z_Ln.brF (decide_eq_false hb) ?_)
    have e : decide ((z_fn 0 (A 4) (x + 1).toNatClampNeg) = 114) = false := decide_eq_false hb
    rw [e]
    simp only [Bool.false_and]
    refine z_Ln.blk (pc' := 27) (lv' := [(3, .int 1), (0, .ref 110), (1, .ref 96), (2, .int x)]) (st' := [.int 0]) (H' := hC A E N V W ++ g) (C := []) 16 1 rfl trivial ?_
    exact z_Ln.ret rfl (z_retB (Or.inl rfl))
set_option maxRecDepth 10000 in
theorem s38_28_0 {L : Nat} {xs : Nat → Int32} {fv : Value} {f w : Nat} {c : Nat × Nat} {A : Nat → List (Nat × Int32)} {E : List (Nat × Option Nat)} {N : Nat → Nat} {V : Nat → Nat → Int32} {W : Nat} {g : List z_E} {x : Int32} (hRm : z_Rm (hC A E N V W ++ g, c)) (hf : 4 ≤ f) (hw : 400 ≤ w) (h0 : z_in (x + 0) 1500 = true) (h1 : z_in (x + 1) 1500 = true) (h2 : z_in (x + 2) 1500 = true) (h3 : z_in (x + 3) 1500 = true) : z_Ln L xs fv f w 38 2 [(3, .int 0), (0, .ref 110), (1, .ref 96), (2, .int x)] [] (hC A E N V W ++ g, c) (.inl (some (.int (z_B1 (decide (z_fn 0 (A 4) (x + 0).toNatClampNeg = 116) && decide (z_fn 0 (A 4) (x + 1).toNatClampNeg = 114) && decide (z_fn 0 (A 4) (x + 2).toNatClampNeg = 117) && decide (z_fn 0 (A 4) (x + 3).toNatClampNeg = 101)))))) (hC A E N V W ++ g, c) := by
  have m36 : z_pg.2.1 36 = 1 := rfl
  have m39 : z_pg.2.1 39 = 2 := rfl
  refine z_Ln.blk (pc' := 4) (lv' := [(3, .int 0), (0, .ref 110), (1, .ref 96), (2, .int x)]) (st' := [.ref 96, .int 0]) (H' := hC A E N V W ++ g) (C := []) 2 2 rfl trivial ?_
  refine z_Ln.call (s := 0) (mj := 36) (as := [.ref 96]) (rr := [.int 0]) (v := some (.int 4)) (T1 := (hC A E N V W ++ g, c)) rfl rfl ⟨⟨by omega, by omega⟩, (by decide : (1 : Nat) ≤ 8), (by decide +kernel : (1 : Nat) ≤ z_pg.2.1 36)⟩ hRm (s36_28 hRm (by omega) (by omega)) ⟨⟨trivial, trivial⟩, ⟨trivial, (z_sm0C 0 (by decide) rfl rfl), (Or.inl (by decide)), trivial, trivial⟩⟩ ?_
  refine z_Ln.blk (pc' := (if decide (4 ≤ 0) = true then 34 else 10)) (lv' := [(3, .int 0), (0, .ref 110), (1, .ref 96), (2, .int x)]) (st' := []) (H' := hC A E N V W ++ g) (C := []) 5 1 rfl trivial (z_Ln.brF (decide_eq_false (by decide)) ?_)
  refine z_Ln.blk (pc' := 20) (lv' := [(3, .int 0), (0, .ref 110), (1, .ref 96), (2, .int x)]) (st' := [.int 0, .ref 96, .int (z_fn 0 (A 4) (x + 0).toNatClampNeg)]) (H' := hC A E N V W ++ g) (C := [z_in (x + 0) 1500 = true]) 6 8 rfl h0 ?_
  refine z_Ln.call (s := 0) (mj := 39) (as := [.ref 96, .int 0]) (rr := [.int (z_fn 0 (A 4) (x + 0).toNatClampNeg)]) (v := some (.int 116)) (T1 := (hC A E N V W ++ g, c)) rfl rfl ⟨⟨by omega, by omega⟩, (by decide : (1 : Nat) ≤ 8), (by decide +kernel : (2 : Nat) ≤ z_pg.2.1 39)⟩ hRm (s39_28_0 hRm (by omega) (by omega)) ⟨⟨trivial, trivial⟩, ⟨trivial, (z_sm0C 0 (by decide) rfl rfl), (Or.inl (by decide)), trivial, trivial⟩⟩ ?_
  by_cases hb : (z_fn 0 (A 4) (x + 0).toNatClampNeg) = 116
  · refine z_Ln.blk (pc' := (if decide ((z_fn 0 (A 4) (x + 0).toNatClampNeg) = 116) = true then 28 else 26)) (lv' := [(3, .int 0), (0, .ref 110), (1, .ref 96), (2, .int x)]) (st' := []) (H' := hC A E N V W ++ g) (C := []) 15 1 rfl trivial (z_Ln.brT (decide_eq_true hb) ?_)
    refine z_Ln.blk (pc' := 2) (lv' := [(3, .int 1), (0, .ref 110), (1, .ref 96), (2, .int x)]) (st' := []) (H' := hC A E N V W ++ g) (C := []) 18 2 rfl trivial ?_
    have e : decide ((z_fn 0 (A 4) (x + 0).toNatClampNeg) = 116) = true := decide_eq_true hb
    rw [e]
    simp only [Bool.true_and]
    exact s38_28_1 (x := x) hRm hf hw h1 h2 h3
  · refine z_Ln.blk (pc' := (if decide ((z_fn 0 (A 4) (x + 0).toNatClampNeg) = 116) = true then 28 else 26)) (lv' := [(3, .int 0), (0, .ref 110), (1, .ref 96), (2, .int x)]) (st' := []) (H' := hC A E N V W ++ g) (C := []) 15 1 rfl trivial (z_Ln.brF (decide_eq_false hb) ?_)
    have e : decide ((z_fn 0 (A 4) (x + 0).toNatClampNeg) = 116) = false := decide_eq_false hb
    rw [e]
    simp only [Bool.false_and]
    refine z_Ln.blk (pc' := 27) (lv' := [(3, .int 0), (0, .ref 110), (1, .ref 96), (2, .int x)]) (st' := [.int 0]) (H' := hC A E N V W ++ g) (C := []) 16 1 rfl trivial ?_
    exact z_Ln.ret rfl (z_retB (Or.inl rfl))
set_option maxRecDepth 10000 in
theorem s38_29_5 {L : Nat} {xs : Nat → Int32} {fv : Value} {f w : Nat} {c : Nat × Nat} {A : Nat → List (Nat × Int32)} {E : List (Nat × Option Nat)} {N : Nat → Nat} {V : Nat → Nat → Int32} {W : Nat} {g : List z_E} {x : Int32} (hRm : z_Rm (hC A E N V W ++ g, c)) (hf : 4 ≤ f) (hw : 400 ≤ w)  : z_Ln L xs fv f w 38 2 [(3, .int 5), (0, .ref 110), (1, .ref 98), (2, .int x)] [] (hC A E N V W ++ g, c) (.inl (some (.int (z_B1 true)))) (hC A E N V W ++ g, c) := by
  have m36 : z_pg.2.1 36 = 1 := rfl
  refine z_Ln.blk (pc' := 4) (lv' := [(3, .int 5), (0, .ref 110), (1, .ref 98), (2, .int x)]) (st' := [.ref 98, .int 5]) (H' := hC A E N V W ++ g) (C := []) 2 2 rfl trivial ?_
  refine z_Ln.call (s := 0) (mj := 36) (as := [.ref 98]) (rr := [.int 5]) (v := some (.int 5)) (T1 := (hC A E N V W ++ g, c)) rfl rfl ⟨⟨by omega, by have : z_pg.2.1 36 = 1 := rfl; omega⟩, (by decide : (1 : Nat) ≤ 8), (by decide +kernel : (1 : Nat) ≤ z_pg.2.1 36)⟩ hRm (s36_29 hRm (by omega) (by omega)) ⟨⟨trivial, trivial⟩, ⟨trivial, (z_sm0C 0 (by decide) rfl rfl), (Or.inl (by decide)), trivial, trivial⟩⟩ ?_
  refine z_Ln.blk (pc' := (if decide (5 ≤ 5) = true then 34 else 10)) (lv' := [(3, .int 5), (0, .ref 110), (1, .ref 98), (2, .int x)]) (st' := []) (H' := hC A E N V W ++ g) (C := []) 5 1 rfl trivial (z_Ln.brT (decide_eq_true (by decide)) ?_)
  refine z_Ln.blk (pc' := 35) (lv' := [(3, .int 5), (0, .ref 110), (1, .ref 98), (2, .int x)]) (st' := [.int 1]) (H' := hC A E N V W ++ g) (C := []) 20 1 rfl trivial ?_
  exact z_Ln.ret rfl (z_retB (Or.inr rfl))
set_option maxRecDepth 10000 in
theorem s38_29_4 {L : Nat} {xs : Nat → Int32} {fv : Value} {f w : Nat} {c : Nat × Nat} {A : Nat → List (Nat × Int32)} {E : List (Nat × Option Nat)} {N : Nat → Nat} {V : Nat → Nat → Int32} {W : Nat} {g : List z_E} {x : Int32} (hRm : z_Rm (hC A E N V W ++ g, c)) (hf : 4 ≤ f) (hw : 400 ≤ w) (h4 : z_in (x + 4) 1500 = true) : z_Ln L xs fv f w 38 2 [(3, .int 4), (0, .ref 110), (1, .ref 98), (2, .int x)] [] (hC A E N V W ++ g, c) (.inl (some (.int (z_B1 (decide (z_fn 0 (A 4) (x + 4).toNatClampNeg = 101)))))) (hC A E N V W ++ g, c) := by
  have m36 : z_pg.2.1 36 = 1 := rfl
  have m39 : z_pg.2.1 39 = 2 := rfl
  refine z_Ln.blk (pc' := 4) (lv' := [(3, .int 4), (0, .ref 110), (1, .ref 98), (2, .int x)]) (st' := [.ref 98, .int 4]) (H' := hC A E N V W ++ g) (C := []) 2 2 rfl trivial ?_
  refine z_Ln.call (s := 0) (mj := 36) (as := [.ref 98]) (rr := [.int 4]) (v := some (.int 5)) (T1 := (hC A E N V W ++ g, c)) rfl rfl ⟨⟨by omega, by omega⟩, (by decide : (1 : Nat) ≤ 8), (by decide +kernel : (1 : Nat) ≤ z_pg.2.1 36)⟩ hRm (s36_29 hRm (by omega) (by omega)) ⟨⟨trivial, trivial⟩, ⟨trivial, (z_sm0C 0 (by decide) rfl rfl), (Or.inl (by decide)), trivial, trivial⟩⟩ ?_
  refine z_Ln.blk (pc' := (if decide (5 ≤ 4) = true then 34 else 10)) (lv' := [(3, .int 4), (0, .ref 110), (1, .ref 98), (2, .int x)]) (st' := []) (H' := hC A E N V W ++ g) (C := []) 5 1 rfl trivial (z_Ln.brF (decide_eq_false (by decide)) ?_)
  refine z_Ln.blk (pc' := 20) (lv' := [(3, .int 4), (0, .ref 110), (1, .ref 98), (2, .int x)]) (st' := [.int 4, .ref 98, .int (z_fn 0 (A 4) (x + 4).toNatClampNeg)]) (H' := hC A E N V W ++ g) (C := [z_in (x + 4) 1500 = true]) 6 8 rfl h4 ?_
  refine z_Ln.call (s := 0) (mj := 39) (as := [.ref 98, .int 4]) (rr := [.int (z_fn 0 (A 4) (x + 4).toNatClampNeg)]) (v := some (.int 101)) (T1 := (hC A E N V W ++ g, c)) rfl rfl ⟨⟨by omega, by omega⟩, (by decide : (1 : Nat) ≤ 8), (by decide +kernel : (2 : Nat) ≤ z_pg.2.1 39)⟩ hRm (s39_29_4 hRm (by omega) (by omega)) ⟨⟨trivial, trivial⟩, ⟨trivial, (z_sm0C 0 (by decide) rfl rfl), (Or.inl (by decide)), trivial, trivial⟩⟩ ?_
  by_cases hb : (z_fn 0 (A 4) (x + 4).toNatClampNeg) = 101
  · refine z_Ln.blk (pc' := (if decide ((z_fn 0 (A 4) (x + 4).toNatClampNeg) = 101) = true then 28 else 26)) (lv' := [(3, .int 4), (0, .ref 110), (1, .ref 98), (2, .int x)]) (st' := []) (H' := hC A E N V W ++ g) (C := []) 15 1 rfl trivial (z_Ln.brT (decide_eq_true hb) ?_)
    refine z_Ln.blk (pc' := 2) (lv' := [(3, .int 5), (0, .ref 110), (1, .ref 98), (2, .int x)]) (st' := []) (H' := hC A E N V W ++ g) (C := []) 18 2 rfl trivial ?_
    have e : decide ((z_fn 0 (A 4) (x + 4).toNatClampNeg) = 101) = true := decide_eq_true hb
    rw [e]
    exact s38_29_5 (x := x) hRm hf hw 
  · refine z_Ln.blk (pc' := (if decide ((z_fn 0 (A 4) (x + 4).toNatClampNeg) = 101) = true then 28 else 26)) (lv' := [(3, .int 4), (0, .ref 110), (1, .ref 98), (2, .int x)]) (st' := []) (H' := hC A E N V W ++ g) (C := []) 15 1 rfl trivial (z_Ln.brF (decide_eq_false hb) ?_)
    have e : decide ((z_fn 0 (A 4) (x + 4).toNatClampNeg) = 101) = false := decide_eq_false hb
    rw [e]
    refine z_Ln.blk (pc' := 27) (lv' := [(3, .int 4), (0, .ref 110), (1, .ref 98), (2, .int x)]) (st' := [.int 0]) (H' := hC A E N V W ++ g) (C := []) 16 1 rfl trivial ?_
    exact z_Ln.ret rfl (z_retB (Or.inl rfl))
set_option maxRecDepth 10000 in
theorem s38_29_3 {L : Nat} {xs : Nat → Int32} {fv : Value} {f w : Nat} {c : Nat × Nat} {A : Nat → List (Nat × Int32)} {E : List (Nat × Option Nat)} {N : Nat → Nat} {V : Nat → Nat → Int32} {W : Nat} {g : List z_E} {x : Int32} (hRm : z_Rm (hC A E N V W ++ g, c)) (hf : 4 ≤ f) (hw : 400 ≤ w) (h3 : z_in (x + 3) 1500 = true) (h4 : z_in (x + 4) 1500 = true) : z_Ln L xs fv f w 38 2 [(3, .int 3), (0, .ref 110), (1, .ref 98), (2, .int x)] [] (hC A E N V W ++ g, c) (.inl (some (.int (z_B1 (decide (z_fn 0 (A 4) (x + 3).toNatClampNeg = 115) && decide (z_fn 0 (A 4) (x + 4).toNatClampNeg = 101)))))) (hC A E N V W ++ g, c) := by
  have m36 : z_pg.2.1 36 = 1 := rfl
  have m39 : z_pg.2.1 39 = 2 := rfl
  refine z_Ln.blk (pc' := 4) (lv' := [(3, .int 3), (0, .ref 110), (1, .ref 98), (2, .int x)]) (st' := [.ref 98, .int 3]) (H' := hC A E N V W ++ g) (C := []) 2 2 rfl trivial ?_
  refine z_Ln.call (s := 0) (mj := 36) (as := [.ref 98]) (rr := [.int 3]) (v := some (.int 5)) (T1 := (hC A E N V W ++ g, c)) rfl rfl ⟨⟨by omega, by omega⟩, (by decide : (1 : Nat) ≤ 8), (by decide +kernel : (1 : Nat) ≤ z_pg.2.1 36)⟩ hRm (s36_29 hRm (by omega) (by omega)) ⟨⟨trivial, trivial⟩, ⟨trivial, (z_sm0C 0 (by decide) rfl rfl), (Or.inl (by decide)), trivial, trivial⟩⟩ ?_
  refine z_Ln.blk (pc' := (if decide (5 ≤ 3) = true then 34 else 10)) (lv' := [(3, .int 3), (0, .ref 110), (1, .ref 98), (2, .int x)]) (st' := []) (H' := hC A E N V W ++ g) (C := []) 5 1 rfl trivial (z_Ln.brF (decide_eq_false (by decide)) ?_)
  refine z_Ln.blk (pc' := 20) (lv' := [(3, .int 3), (0, .ref 110), (1, .ref 98), (2, .int x)]) (st' := [.int 3, .ref 98, .int (z_fn 0 (A 4) (x + 3).toNatClampNeg)]) (H' := hC A E N V W ++ g) (C := [z_in (x + 3) 1500 = true]) 6 8 rfl h3 ?_
  refine z_Ln.call (s := 0) (mj := 39) (as := [.ref 98, .int 3]) (rr := [.int (z_fn 0 (A 4) (x + 3).toNatClampNeg)]) (v := some (.int 115)) (T1 := (hC A E N V W ++ g, c)) rfl rfl ⟨⟨by omega, by omega⟩, (by decide : (1 : Nat) ≤ 8), (by decide +kernel : (2 : Nat) ≤ z_pg.2.1 39)⟩ hRm (s39_29_3 hRm (by omega) (by omega)) ⟨⟨trivial, trivial⟩, ⟨trivial, (z_sm0C 0 (by decide) rfl rfl), (Or.inl (by decide)), trivial, trivial⟩⟩ ?_
  by_cases hb : (z_fn 0 (A 4) (x + 3).toNatClampNeg) = 115
  · refine z_Ln.blk (pc' := (if decide ((z_fn 0 (A 4) (x + 3).toNatClampNeg) = 115) = true then 28 else 26)) (lv' := [(3, .int 3), (0, .ref 110), (1, .ref 98), (2, .int x)]) (st' := []) (H' := hC A E N V W ++ g) (C := []) 15 1 rfl trivial (z_Ln.brT (decide_eq_true hb) ?_)
    refine z_Ln.blk (pc' := 2) (lv' := [(3, .int 4), (0, .ref 110), (1, .ref 98), (2, .int x)]) (st' := []) (H' := hC A E N V W ++ g) (C := []) 18 2 rfl trivial ?_
    have e : decide ((z_fn 0 (A 4) (x + 3).toNatClampNeg) = 115) = true := decide_eq_true hb
    rw [e]
    simp only [Bool.true_and]
    exact s38_29_4 (x := x) hRm hf hw h4
  · refine z_Ln.blk (pc' := (if decide ((z_fn 0 (A 4) (x + 3).toNatClampNeg) = 115) = true then 28 else 26)) (lv' := [(3, .int 3), (0, .ref 110), (1, .ref 98), (2, .int x)]) (st' := []) (H' := hC A E N V W ++ g) (C := []) 15 1 rfl trivial (z_Ln.brF (decide_eq_false hb) ?_)
    have e : decide ((z_fn 0 (A 4) (x + 3).toNatClampNeg) = 115) = false := decide_eq_false hb
    rw [e]
    simp only [Bool.false_and]
    refine z_Ln.blk (pc' := 27) (lv' := [(3, .int 3), (0, .ref 110), (1, .ref 98), (2, .int x)]) (st' := [.int 0]) (H' := hC A E N V W ++ g) (C := []) 16 1 rfl trivial ?_
    exact z_Ln.ret rfl (z_retB (Or.inl rfl))
set_option maxRecDepth 10000 in
theorem s38_29_2 {L : Nat} {xs : Nat → Int32} {fv : Value} {f w : Nat} {c : Nat × Nat} {A : Nat → List (Nat × Int32)} {E : List (Nat × Option Nat)} {N : Nat → Nat} {V : Nat → Nat → Int32} {W : Nat} {g : List z_E} {x : Int32} (hRm : z_Rm (hC A E N V W ++ g, c)) (hf : 4 ≤ f) (hw : 400 ≤ w) (h2 : z_in (x + 2) 1500 = true) (h3 : z_in (x + 3) 1500 = true) (h4 : z_in (x + 4) 1500 = true) : z_Ln L xs fv f w 38 2 [(3, .int 2), (0, .ref 110), (1, .ref 98), (2, .int x)] [] (hC A E N V W ++ g, c) (.inl (some (.int (z_B1 (decide (z_fn 0 (A 4) (x + 2).toNatClampNeg = 108) && decide (z_fn 0 (A 4) (x + 3).toNatClampNeg = 115) && decide (z_fn 0 (A 4) (x + 4).toNatClampNeg = 101)))))) (hC A E N V W ++ g, c) := by
  have m36 : z_pg.2.1 36 = 1 := rfl
  have m39 : z_pg.2.1 39 = 2 := rfl
  refine z_Ln.blk (pc' := 4) (lv' := [(3, .int 2), (0, .ref 110), (1, .ref 98), (2, .int x)]) (st' := [.ref 98, .int 2]) (H' := hC A E N V W ++ g) (C := []) 2 2 rfl trivial ?_
  refine z_Ln.call (s := 0) (mj := 36) (as := [.ref 98]) (rr := [.int 2]) (v := some (.int 5)) (T1 := (hC A E N V W ++ g, c)) rfl rfl ⟨⟨by omega, by omega⟩, (by decide : (1 : Nat) ≤ 8), (by decide +kernel : (1 : Nat) ≤ z_pg.2.1 36)⟩ hRm (s36_29 hRm (by omega) (by omega)) ⟨⟨trivial, trivial⟩, ⟨trivial, (z_sm0C 0 (by decide) rfl rfl), (Or.inl (by decide)), trivial, trivial⟩⟩ ?_
  refine z_Ln.blk (pc' := (if decide (5 ≤ 2) = true then 34 else 10)) (lv' := [(3, .int 2), (0, .ref 110), (1, .ref 98), (2, .int x)]) (st' := []) (H' := hC A E N V W ++ g) (C := []) 5 1 rfl trivial (z_Ln.brF (decide_eq_false (by decide)) ?_)
  refine z_Ln.blk (pc' := 20) (lv' := [(3, .int 2), (0, .ref 110), (1, .ref 98), (2, .int x)]) (st' := [.int 2, .ref 98, .int (z_fn 0 (A 4) (x + 2).toNatClampNeg)]) (H' := hC A E N V W ++ g) (C := [z_in (x + 2) 1500 = true]) 6 8 rfl h2 ?_
  refine z_Ln.call (s := 0) (mj := 39) (as := [.ref 98, .int 2]) (rr := [.int (z_fn 0 (A 4) (x + 2).toNatClampNeg)]) (v := some (.int 108)) (T1 := (hC A E N V W ++ g, c)) rfl rfl ⟨⟨by omega, by omega⟩, (by decide : (1 : Nat) ≤ 8), (by decide +kernel : (2 : Nat) ≤ z_pg.2.1 39)⟩ hRm (s39_29_2 hRm (by omega) (by omega)) ⟨⟨trivial, trivial⟩, ⟨trivial, (z_sm0C 0 (by decide) rfl rfl), (Or.inl (by decide)), trivial, trivial⟩⟩ ?_
  by_cases hb : (z_fn 0 (A 4) (x + 2).toNatClampNeg) = 108
  · refine z_Ln.blk (pc' := (if decide ((z_fn 0 (A 4) (x + 2).toNatClampNeg) = 108) = true then 28 else 26)) (lv' := [(3, .int 2), (0, .ref 110), (1, .ref 98), (2, .int x)]) (st' := []) (H' := hC A E N V W ++ g) (C := []) 15 1 rfl trivial (z_Ln.brT (decide_eq_true hb) ?_)
    refine z_Ln.blk (pc' := 2) (lv' := [(3, .int 3), (0, .ref 110), (1, .ref 98), (2, .int x)]) (st' := []) (H' := hC A E N V W ++ g) (C := []) 18 2 rfl trivial ?_
    have e : decide ((z_fn 0 (A 4) (x + 2).toNatClampNeg) = 108) = true := decide_eq_true hb
    rw [e]
    simp only [Bool.true_and]
    exact s38_29_3 (x := x) hRm hf hw h3 h4
  · refine z_Ln.blk (pc' := (if decide ((z_fn 0 (A 4) (x + 2).toNatClampNeg) = 108) = true then 28 else 26)) (lv' := [(3, .int 2), (0, .ref 110), (1, .ref 98), (2, .int x)]) (st' := []) (H' := hC A E N V W ++ g) (C := []) 15 1 rfl trivial (z_Ln.brF (decide_eq_false hb) ?_)
    have e : decide ((z_fn 0 (A 4) (x + 2).toNatClampNeg) = 108) = false := decide_eq_false hb
    rw [e]
    simp only [Bool.false_and]
    refine z_Ln.blk (pc' := 27) (lv' := [(3, .int 2), (0, .ref 110), (1, .ref 98), (2, .int x)]) (st' := [.int 0]) (H' := hC A E N V W ++ g) (C := []) 16 1 rfl trivial ?_
    exact z_Ln.ret rfl (z_retB (Or.inl rfl))
set_option maxRecDepth 10000 in
theorem s38_29_1 {L : Nat} {xs : Nat → Int32} {fv : Value} {f w : Nat} {c : Nat × Nat} {A : Nat → List (Nat × Int32)} {E : List (Nat × Option Nat)} {N : Nat → Nat} {V : Nat → Nat → Int32} {W : Nat} {g : List z_E} {x : Int32} (hRm : z_Rm (hC A E N V W ++ g, c)) (hf : 4 ≤ f) (hw : 400 ≤ w) (h1 : z_in (x + 1) 1500 = true) (h2 : z_in (x + 2) 1500 = true) (h3 : z_in (x + 3) 1500 = true) (h4 : z_in (x + 4) 1500 = true) : z_Ln L xs fv f w 38 2 [(3, .int 1), (0, .ref 110), (1, .ref 98), (2, .int x)] [] (hC A E N V W ++ g, c) (.inl (some (.int (z_B1 (decide (z_fn 0 (A 4) (x + 1).toNatClampNeg = 97) && decide (z_fn 0 (A 4) (x + 2).toNatClampNeg = 108) && decide (z_fn 0 (A 4) (x + 3).toNatClampNeg = 115) && decide (z_fn 0 (A 4) (x + 4).toNatClampNeg = 101)))))) (hC A E N V W ++ g, c) := by
  have m36 : z_pg.2.1 36 = 1 := rfl
  have m39 : z_pg.2.1 39 = 2 := rfl
  refine z_Ln.blk (pc' := 4) (lv' := [(3, .int 1), (0, .ref 110), (1, .ref 98), (2, .int x)]) (st' := [.ref 98, .int 1]) (H' := hC A E N V W ++ g) (C := []) 2 2 rfl trivial ?_
  refine z_Ln.call (s := 0) (mj := 36) (as := [.ref 98]) (rr := [.int 1]) (v := some (.int 5)) (T1 := (hC A E N V W ++ g, c)) rfl rfl ⟨⟨by omega, by omega⟩, (by decide : (1 : Nat) ≤ 8), (by decide +kernel : (1 : Nat) ≤ z_pg.2.1 36)⟩ hRm (s36_29 hRm (by omega) (by omega)) ⟨⟨trivial, trivial⟩, ⟨trivial, (z_sm0C 0 (by decide) rfl rfl), (Or.inl (by decide)), trivial, trivial⟩⟩ ?_
  refine z_Ln.blk (pc' := (if decide (5 ≤ 1) = true then 34 else 10)) (lv' := [(3, .int 1), (0, .ref 110), (1, .ref 98), (2, .int x)]) (st' := []) (H' := hC A E N V W ++ g) (C := []) 5 1 rfl trivial (z_Ln.brF (decide_eq_false (by decide)) ?_)
  refine z_Ln.blk (pc' := 20) (lv' := [(3, .int 1), (0, .ref 110), (1, .ref 98), (2, .int x)]) (st' := [.int 1, .ref 98, .int (z_fn 0 (A 4) (x + 1).toNatClampNeg)]) (H' := hC A E N V W ++ g) (C := [z_in (x + 1) 1500 = true]) 6 8 rfl h1 ?_
  refine z_Ln.call (s := 0) (mj := 39) (as := [.ref 98, .int 1]) (rr := [.int (z_fn 0 (A 4) (x + 1).toNatClampNeg)]) (v := some (.int 97)) (T1 := (hC A E N V W ++ g, c)) rfl rfl ⟨⟨by omega, by omega⟩, (by decide : (1 : Nat) ≤ 8), (by decide +kernel : (2 : Nat) ≤ z_pg.2.1 39)⟩ hRm (s39_29_1 hRm (by omega) (by omega)) ⟨⟨trivial, trivial⟩, ⟨trivial, (z_sm0C 0 (by decide) rfl rfl), (Or.inl (by decide)), trivial, trivial⟩⟩ ?_
  by_cases hb : (z_fn 0 (A 4) (x + 1).toNatClampNeg) = 97
  · refine z_Ln.blk (pc' := (if decide ((z_fn 0 (A 4) (x + 1).toNatClampNeg) = 97) = true then 28 else 26)) (lv' := [(3, .int 1), (0, .ref 110), (1, .ref 98), (2, .int x)]) (st' := []) (H' := hC A E N V W ++ g) (C := []) 15 1 rfl trivial (z_Ln.brT (decide_eq_true hb) ?_)
    refine z_Ln.blk (pc' := 2) (lv' := [(3, .int 2), (0, .ref 110), (1, .ref 98), (2, .int x)]) (st' := []) (H' := hC A E N V W ++ g) (C := []) 18 2 rfl trivial ?_
    have e : decide ((z_fn 0 (A 4) (x + 1).toNatClampNeg) = 97) = true := decide_eq_true hb
    rw [e]
    simp only [Bool.true_and]
    exact s38_29_2 (x := x) hRm hf hw h2 h3 h4
  · refine z_Ln.blk (pc' := (if decide ((z_fn 0 (A 4) (x + 1).toNatClampNeg) = 97) = true then 28 else 26)) (lv' := [(3, .int 1), (0, .ref 110), (1, .ref 98), (2, .int x)]) (st' := []) (H' := hC A E N V W ++ g) (C := []) 15 1 rfl trivial (z_Ln.brF (decide_eq_false hb) ?_)
    have e : decide ((z_fn 0 (A 4) (x + 1).toNatClampNeg) = 97) = false := decide_eq_false hb
    rw [e]
    simp only [Bool.false_and]
    refine z_Ln.blk (pc' := 27) (lv' := [(3, .int 1), (0, .ref 110), (1, .ref 98), (2, .int x)]) (st' := [.int 0]) (H' := hC A E N V W ++ g) (C := []) 16 1 rfl trivial ?_
    exact z_Ln.ret rfl (z_retB (Or.inl rfl))
set_option maxRecDepth 10000 in
theorem s38_29_0 {L : Nat} {xs : Nat → Int32} {fv : Value} {f w : Nat} {c : Nat × Nat} {A : Nat → List (Nat × Int32)} {E : List (Nat × Option Nat)} {N : Nat → Nat} {V : Nat → Nat → Int32} {W : Nat} {g : List z_E} {x : Int32} (hRm : z_Rm (hC A E N V W ++ g, c)) (hf : 4 ≤ f) (hw : 400 ≤ w) (h0 : z_in (x + 0) 1500 = true) (h1 : z_in (x + 1) 1500 = true) (h2 : z_in (x + 2) 1500 = true) (h3 : z_in (x + 3) 1500 = true) (h4 : z_in (x + 4) 1500 = true) : z_Ln L xs fv f w 38 2 [(3, .int 0), (0, .ref 110), (1, .ref 98), (2, .int x)] [] (hC A E N V W ++ g, c) (.inl (some (.int (z_B1 (decide (z_fn 0 (A 4) (x + 0).toNatClampNeg = 102) && decide (z_fn 0 (A 4) (x + 1).toNatClampNeg = 97) && decide (z_fn 0 (A 4) (x + 2).toNatClampNeg = 108) && decide (z_fn 0 (A 4) (x + 3).toNatClampNeg = 115) && decide (z_fn 0 (A 4) (x + 4).toNatClampNeg = 101)))))) (hC A E N V W ++ g, c) := by
  have m36 : z_pg.2.1 36 = 1 := rfl
  have m39 : z_pg.2.1 39 = 2 := rfl
  refine z_Ln.blk (pc' := 4) (lv' := [(3, .int 0), (0, .ref 110), (1, .ref 98), (2, .int x)]) (st' := [.ref 98, .int 0]) (H' := hC A E N V W ++ g) (C := []) 2 2 rfl trivial ?_
  refine z_Ln.call (s := 0) (mj := 36) (as := [.ref 98]) (rr := [.int 0]) (v := some (.int 5)) (T1 := (hC A E N V W ++ g, c)) rfl rfl ⟨⟨by omega, by omega⟩, (by decide : (1 : Nat) ≤ 8), (by decide +kernel : (1 : Nat) ≤ z_pg.2.1 36)⟩ hRm (s36_29 hRm (by omega) (by omega)) ⟨⟨trivial, trivial⟩, ⟨trivial, (z_sm0C 0 (by decide) rfl rfl), (Or.inl (by decide)), trivial, trivial⟩⟩ ?_
  refine z_Ln.blk (pc' := (if decide (5 ≤ 0) = true then 34 else 10)) (lv' := [(3, .int 0), (0, .ref 110), (1, .ref 98), (2, .int x)]) (st' := []) (H' := hC A E N V W ++ g) (C := []) 5 1 rfl trivial (z_Ln.brF (decide_eq_false (by decide)) ?_)
  refine z_Ln.blk (pc' := 20) (lv' := [(3, .int 0), (0, .ref 110), (1, .ref 98), (2, .int x)]) (st' := [.int 0, .ref 98, .int (z_fn 0 (A 4) (x + 0).toNatClampNeg)]) (H' := hC A E N V W ++ g) (C := [z_in (x + 0) 1500 = true]) 6 8 rfl h0 ?_
  refine z_Ln.call (s := 0) (mj := 39) (as := [.ref 98, .int 0]) (rr := [.int (z_fn 0 (A 4) (x + 0).toNatClampNeg)]) (v := some (.int 102)) (T1 := (hC A E N V W ++ g, c)) rfl rfl ⟨⟨by omega, by omega⟩, (by decide : (1 : Nat) ≤ 8), (by decide +kernel : (2 : Nat) ≤ z_pg.2.1 39)⟩ hRm (s39_29_0 hRm (by omega) (by omega)) ⟨⟨trivial, trivial⟩, ⟨trivial, (z_sm0C 0 (by decide) rfl rfl), (Or.inl (by decide)), trivial, trivial⟩⟩ ?_
  by_cases hb : (z_fn 0 (A 4) (x + 0).toNatClampNeg) = 102
  · refine z_Ln.blk (pc' := (if decide ((z_fn 0 (A 4) (x + 0).toNatClampNeg) = 102) = true then 28 else 26)) (lv' := [(3, .int 0), (0, .ref 110), (1, .ref 98), (2, .int x)]) (st' := []) (H' := hC A E N V W ++ g) (C := []) 15 1 rfl trivial (z_Ln.brT (decide_eq_true hb) ?_)
    refine z_Ln.blk (pc' := 2) (lv' := [(3, .int 1), (0, .ref 110), (1, .ref 98), (2, .int x)]) (st' := []) (H' := hC A E N V W ++ g) (C := []) 18 2 rfl trivial ?_
    have e : decide ((z_fn 0 (A 4) (x + 0).toNatClampNeg) = 102) = true := decide_eq_true hb
    rw [e]
    simp only [Bool.true_and]
    exact s38_29_1 (x := x) hRm hf hw h1 h2 h3 h4
  · refine z_Ln.blk (pc' := (if decide ((z_fn 0 (A 4) (x + 0).toNatClampNeg) = 102) = true then 28 else 26)) (lv' := [(3, .int 0), (0, .ref 110), (1, .ref 98), (2, .int x)]) (st' := []) (H' := hC A E N V W ++ g) (C := []) 15 1 rfl trivial (z_Ln.brF (decide_eq_false hb) ?_)
    have e : decide ((z_fn 0 (A 4) (x + 0).toNatClampNeg) = 102) = false := decide_eq_false hb
    rw [e]
    simp only [Bool.false_and]
    refine z_Ln.blk (pc' := 27) (lv' := [(3, .int 0), (0, .ref 110), (1, .ref 98), (2, .int x)]) (st' := [.int 0]) (H' := hC A E N V W ++ g) (C := []) 16 1 rfl trivial ?_
    exact z_Ln.ret rfl (z_retB (Or.inl rfl))
set_option maxRecDepth 10000 in
theorem s38_30_3 {L : Nat} {xs : Nat → Int32} {fv : Value} {f w : Nat} {c : Nat × Nat} {A : Nat → List (Nat × Int32)} {E : List (Nat × Option Nat)} {N : Nat → Nat} {V : Nat → Nat → Int32} {W : Nat} {g : List z_E} {x : Int32} (hRm : z_Rm (hC A E N V W ++ g, c)) (hf : 4 ≤ f) (hw : 400 ≤ w)  : z_Ln L xs fv f w 38 2 [(3, .int 3), (0, .ref 110), (1, .ref 100), (2, .int x)] [] (hC A E N V W ++ g, c) (.inl (some (.int (z_B1 true)))) (hC A E N V W ++ g, c) := by
  have m36 : z_pg.2.1 36 = 1 := rfl
  refine z_Ln.blk (pc' := 4) (lv' := [(3, .int 3), (0, .ref 110), (1, .ref 100), (2, .int x)]) (st' := [.ref 100, .int 3]) (H' := hC A E N V W ++ g) (C := []) 2 2 rfl trivial ?_
  refine z_Ln.call (s := 0) (mj := 36) (as := [.ref 100]) (rr := [.int 3]) (v := some (.int 3)) (T1 := (hC A E N V W ++ g, c)) rfl rfl ⟨⟨by omega, by have : z_pg.2.1 36 = 1 := rfl; omega⟩, (by decide : (1 : Nat) ≤ 8), (by decide +kernel : (1 : Nat) ≤ z_pg.2.1 36)⟩ hRm (s36_30 hRm (by omega) (by omega)) ⟨⟨trivial, trivial⟩, ⟨trivial, (z_sm0C 0 (by decide) rfl rfl), (Or.inl (by decide)), trivial, trivial⟩⟩ ?_
  refine z_Ln.blk (pc' := (if decide (3 ≤ 3) = true then 34 else 10)) (lv' := [(3, .int 3), (0, .ref 110), (1, .ref 100), (2, .int x)]) (st' := []) (H' := hC A E N V W ++ g) (C := []) 5 1 rfl trivial (z_Ln.brT (decide_eq_true (by decide)) ?_)
  refine z_Ln.blk (pc' := 35) (lv' := [(3, .int 3), (0, .ref 110), (1, .ref 100), (2, .int x)]) (st' := [.int 1]) (H' := hC A E N V W ++ g) (C := []) 20 1 rfl trivial ?_
  exact z_Ln.ret rfl (z_retB (Or.inr rfl))
set_option maxRecDepth 10000 in
theorem s38_30_2 {L : Nat} {xs : Nat → Int32} {fv : Value} {f w : Nat} {c : Nat × Nat} {A : Nat → List (Nat × Int32)} {E : List (Nat × Option Nat)} {N : Nat → Nat} {V : Nat → Nat → Int32} {W : Nat} {g : List z_E} {x : Int32} (hRm : z_Rm (hC A E N V W ++ g, c)) (hf : 4 ≤ f) (hw : 400 ≤ w) (h2 : z_in (x + 2) 1500 = true) : z_Ln L xs fv f w 38 2 [(3, .int 2), (0, .ref 110), (1, .ref 100), (2, .int x)] [] (hC A E N V W ++ g, c) (.inl (some (.int (z_B1 (decide (z_fn 0 (A 4) (x + 2).toNatClampNeg = 116)))))) (hC A E N V W ++ g, c) := by
  have m36 : z_pg.2.1 36 = 1 := rfl
  have m39 : z_pg.2.1 39 = 2 := rfl
  refine z_Ln.blk (pc' := 4) (lv' := [(3, .int 2), (0, .ref 110), (1, .ref 100), (2, .int x)]) (st' := [.ref 100, .int 2]) (H' := hC A E N V W ++ g) (C := []) 2 2 rfl trivial ?_
  refine z_Ln.call (s := 0) (mj := 36) (as := [.ref 100]) (rr := [.int 2]) (v := some (.int 3)) (T1 := (hC A E N V W ++ g, c)) rfl rfl ⟨⟨by omega, by omega⟩, (by decide : (1 : Nat) ≤ 8), (by decide +kernel : (1 : Nat) ≤ z_pg.2.1 36)⟩ hRm (s36_30 hRm (by omega) (by omega)) ⟨⟨trivial, trivial⟩, ⟨trivial, (z_sm0C 0 (by decide) rfl rfl), (Or.inl (by decide)), trivial, trivial⟩⟩ ?_
  refine z_Ln.blk (pc' := (if decide (3 ≤ 2) = true then 34 else 10)) (lv' := [(3, .int 2), (0, .ref 110), (1, .ref 100), (2, .int x)]) (st' := []) (H' := hC A E N V W ++ g) (C := []) 5 1 rfl trivial (z_Ln.brF (decide_eq_false (by decide)) ?_)
  refine z_Ln.blk (pc' := 20) (lv' := [(3, .int 2), (0, .ref 110), (1, .ref 100), (2, .int x)]) (st' := [.int 2, .ref 100, .int (z_fn 0 (A 4) (x + 2).toNatClampNeg)]) (H' := hC A E N V W ++ g) (C := [z_in (x + 2) 1500 = true]) 6 8 rfl h2 ?_
  refine z_Ln.call (s := 0) (mj := 39) (as := [.ref 100, .int 2]) (rr := [.int (z_fn 0 (A 4) (x + 2).toNatClampNeg)]) (v := some (.int 116)) (T1 := (hC A E N V W ++ g, c)) rfl rfl ⟨⟨by omega, by omega⟩, (by decide : (1 : Nat) ≤ 8), (by decide +kernel : (2 : Nat) ≤ z_pg.2.1 39)⟩ hRm (s39_30_2 hRm (by omega) (by omega)) ⟨⟨trivial, trivial⟩, ⟨trivial, (z_sm0C 0 (by decide) rfl rfl), (Or.inl (by decide)), trivial, trivial⟩⟩ ?_
  by_cases hb : (z_fn 0 (A 4) (x + 2).toNatClampNeg) = 116
  · refine z_Ln.blk (pc' := (if decide ((z_fn 0 (A 4) (x + 2).toNatClampNeg) = 116) = true then 28 else 26)) (lv' := [(3, .int 2), (0, .ref 110), (1, .ref 100), (2, .int x)]) (st' := []) (H' := hC A E N V W ++ g) (C := []) 15 1 rfl trivial (z_Ln.brT (decide_eq_true hb) ?_)
    refine z_Ln.blk (pc' := 2) (lv' := [(3, .int 3), (0, .ref 110), (1, .ref 100), (2, .int x)]) (st' := []) (H' := hC A E N V W ++ g) (C := []) 18 2 rfl trivial ?_
    have e : decide ((z_fn 0 (A 4) (x + 2).toNatClampNeg) = 116) = true := decide_eq_true hb
    rw [e]
    exact s38_30_3 (x := x) hRm hf hw 
  · refine z_Ln.blk (pc' := (if decide ((z_fn 0 (A 4) (x + 2).toNatClampNeg) = 116) = true then 28 else 26)) (lv' := [(3, .int 2), (0, .ref 110), (1, .ref 100), (2, .int x)]) (st' := []) (H' := hC A E N V W ++ g) (C := []) 15 1 rfl trivial (z_Ln.brF (decide_eq_false hb) ?_)
    have e : decide ((z_fn 0 (A 4) (x + 2).toNatClampNeg) = 116) = false := decide_eq_false hb
    rw [e]
    refine z_Ln.blk (pc' := 27) (lv' := [(3, .int 2), (0, .ref 110), (1, .ref 100), (2, .int x)]) (st' := [.int 0]) (H' := hC A E N V W ++ g) (C := []) 16 1 rfl trivial ?_
    exact z_Ln.ret rfl (z_retB (Or.inl rfl))
set_option maxRecDepth 10000 in
theorem s38_30_1 {L : Nat} {xs : Nat → Int32} {fv : Value} {f w : Nat} {c : Nat × Nat} {A : Nat → List (Nat × Int32)} {E : List (Nat × Option Nat)} {N : Nat → Nat} {V : Nat → Nat → Int32} {W : Nat} {g : List z_E} {x : Int32} (hRm : z_Rm (hC A E N V W ++ g, c)) (hf : 4 ≤ f) (hw : 400 ≤ w) (h1 : z_in (x + 1) 1500 = true) (h2 : z_in (x + 2) 1500 = true) : z_Ln L xs fv f w 38 2 [(3, .int 1), (0, .ref 110), (1, .ref 100), (2, .int x)] [] (hC A E N V W ++ g, c) (.inl (some (.int (z_B1 (decide (z_fn 0 (A 4) (x + 1).toNatClampNeg = 110) && decide (z_fn 0 (A 4) (x + 2).toNatClampNeg = 116)))))) (hC A E N V W ++ g, c) := by
  have m36 : z_pg.2.1 36 = 1 := rfl
  have m39 : z_pg.2.1 39 = 2 := rfl
  refine z_Ln.blk (pc' := 4) (lv' := [(3, .int 1), (0, .ref 110), (1, .ref 100), (2, .int x)]) (st' := [.ref 100, .int 1]) (H' := hC A E N V W ++ g) (C := []) 2 2 rfl trivial ?_
  refine z_Ln.call (s := 0) (mj := 36) (as := [.ref 100]) (rr := [.int 1]) (v := some (.int 3)) (T1 := (hC A E N V W ++ g, c)) rfl rfl ⟨⟨by omega, by omega⟩, (by decide : (1 : Nat) ≤ 8), (by decide +kernel : (1 : Nat) ≤ z_pg.2.1 36)⟩ hRm (s36_30 hRm (by omega) (by omega)) ⟨⟨trivial, trivial⟩, ⟨trivial, (z_sm0C 0 (by decide) rfl rfl), (Or.inl (by decide)), trivial, trivial⟩⟩ ?_
  refine z_Ln.blk (pc' := (if decide (3 ≤ 1) = true then 34 else 10)) (lv' := [(3, .int 1), (0, .ref 110), (1, .ref 100), (2, .int x)]) (st' := []) (H' := hC A E N V W ++ g) (C := []) 5 1 rfl trivial (z_Ln.brF (decide_eq_false (by decide)) ?_)
  refine z_Ln.blk (pc' := 20) (lv' := [(3, .int 1), (0, .ref 110), (1, .ref 100), (2, .int x)]) (st' := [.int 1, .ref 100, .int (z_fn 0 (A 4) (x + 1).toNatClampNeg)]) (H' := hC A E N V W ++ g) (C := [z_in (x + 1) 1500 = true]) 6 8 rfl h1 ?_
  refine z_Ln.call (s := 0) (mj := 39) (as := [.ref 100, .int 1]) (rr := [.int (z_fn 0 (A 4) (x + 1).toNatClampNeg)]) (v := some (.int 110)) (T1 := (hC A E N V W ++ g, c)) rfl rfl ⟨⟨by omega, by omega⟩, (by decide : (1 : Nat) ≤ 8), (by decide +kernel : (2 : Nat) ≤ z_pg.2.1 39)⟩ hRm (s39_30_1 hRm (by omega) (by omega)) ⟨⟨trivial, trivial⟩, ⟨trivial, (z_sm0C 0 (by decide) rfl rfl), (Or.inl (by decide)), trivial, trivial⟩⟩ ?_
  by_cases hb : (z_fn 0 (A 4) (x + 1).toNatClampNeg) = 110
  · refine z_Ln.blk (pc' := (if decide ((z_fn 0 (A 4) (x + 1).toNatClampNeg) = 110) = true then 28 else 26)) (lv' := [(3, .int 1), (0, .ref 110), (1, .ref 100), (2, .int x)]) (st' := []) (H' := hC A E N V W ++ g) (C := []) 15 1 rfl trivial (z_Ln.brT (decide_eq_true hb) ?_)
    refine z_Ln.blk (pc' := 2) (lv' := [(3, .int 2), (0, .ref 110), (1, .ref 100), (2, .int x)]) (st' := []) (H' := hC A E N V W ++ g) (C := []) 18 2 rfl trivial ?_
    have e : decide ((z_fn 0 (A 4) (x + 1).toNatClampNeg) = 110) = true := decide_eq_true hb
    rw [e]
    simp only [Bool.true_and]
    exact s38_30_2 (x := x) hRm hf hw h2
  · refine z_Ln.blk (pc' := (if decide ((z_fn 0 (A 4) (x + 1).toNatClampNeg) = 110) = true then 28 else 26)) (lv' := [(3, .int 1), (0, .ref 110), (1, .ref 100), (2, .int x)]) (st' := []) (H' := hC A E N V W ++ g) (C := []) 15 1 rfl trivial (z_Ln.brF (decide_eq_false hb) ?_)
    have e : decide ((z_fn 0 (A 4) (x + 1).toNatClampNeg) = 110) = false := decide_eq_false hb
    rw [e]
    simp only [Bool.false_and]
    refine z_Ln.blk (pc' := 27) (lv' := [(3, .int 1), (0, .ref 110), (1, .ref 100), (2, .int x)]) (st' := [.int 0]) (H' := hC A E N V W ++ g) (C := []) 16 1 rfl trivial ?_
    exact z_Ln.ret rfl (z_retB (Or.inl rfl))
set_option maxRecDepth 10000 in
theorem s38_30_0 {L : Nat} {xs : Nat → Int32} {fv : Value} {f w : Nat} {c : Nat × Nat} {A : Nat → List (Nat × Int32)} {E : List (Nat × Option Nat)} {N : Nat → Nat} {V : Nat → Nat → Int32} {W : Nat} {g : List z_E} {x : Int32} (hRm : z_Rm (hC A E N V W ++ g, c)) (hf : 4 ≤ f) (hw : 400 ≤ w) (h0 : z_in (x + 0) 1500 = true) (h1 : z_in (x + 1) 1500 = true) (h2 : z_in (x + 2) 1500 = true) : z_Ln L xs fv f w 38 2 [(3, .int 0), (0, .ref 110), (1, .ref 100), (2, .int x)] [] (hC A E N V W ++ g, c) (.inl (some (.int (z_B1 (decide (z_fn 0 (A 4) (x + 0).toNatClampNeg = 105) && decide (z_fn 0 (A 4) (x + 1).toNatClampNeg = 110) && decide (z_fn 0 (A 4) (x + 2).toNatClampNeg = 116)))))) (hC A E N V W ++ g, c) := by
  have m36 : z_pg.2.1 36 = 1 := rfl
  have m39 : z_pg.2.1 39 = 2 := rfl
  refine z_Ln.blk (pc' := 4) (lv' := [(3, .int 0), (0, .ref 110), (1, .ref 100), (2, .int x)]) (st' := [.ref 100, .int 0]) (H' := hC A E N V W ++ g) (C := []) 2 2 rfl trivial ?_
  refine z_Ln.call (s := 0) (mj := 36) (as := [.ref 100]) (rr := [.int 0]) (v := some (.int 3)) (T1 := (hC A E N V W ++ g, c)) rfl rfl ⟨⟨by omega, by omega⟩, (by decide : (1 : Nat) ≤ 8), (by decide +kernel : (1 : Nat) ≤ z_pg.2.1 36)⟩ hRm (s36_30 hRm (by omega) (by omega)) ⟨⟨trivial, trivial⟩, ⟨trivial, (z_sm0C 0 (by decide) rfl rfl), (Or.inl (by decide)), trivial, trivial⟩⟩ ?_
  refine z_Ln.blk (pc' := (if decide (3 ≤ 0) = true then 34 else 10)) (lv' := [(3, .int 0), (0, .ref 110), (1, .ref 100), (2, .int x)]) (st' := []) (H' := hC A E N V W ++ g) (C := []) 5 1 rfl trivial (z_Ln.brF (decide_eq_false (by decide)) ?_)
  refine z_Ln.blk (pc' := 20) (lv' := [(3, .int 0), (0, .ref 110), (1, .ref 100), (2, .int x)]) (st' := [.int 0, .ref 100, .int (z_fn 0 (A 4) (x + 0).toNatClampNeg)]) (H' := hC A E N V W ++ g) (C := [z_in (x + 0) 1500 = true]) 6 8 rfl h0 ?_
  refine z_Ln.call (s := 0) (mj := 39) (as := [.ref 100, .int 0]) (rr := [.int (z_fn 0 (A 4) (x + 0).toNatClampNeg)]) (v := some (.int 105)) (T1 := (hC A E N V W ++ g, c)) rfl rfl ⟨⟨by omega, by omega⟩, (by decide : (1 : Nat) ≤ 8), (by decide +kernel : (2 : Nat) ≤ z_pg.2.1 39)⟩ hRm (s39_30_0 hRm (by omega) (by omega)) ⟨⟨trivial, trivial⟩, ⟨trivial, (z_sm0C 0 (by decide) rfl rfl), (Or.inl (by decide)), trivial, trivial⟩⟩ ?_
  by_cases hb : (z_fn 0 (A 4) (x + 0).toNatClampNeg) = 105
  · refine z_Ln.blk (pc' := (if decide ((z_fn 0 (A 4) (x + 0).toNatClampNeg) = 105) = true then 28 else 26)) (lv' := [(3, .int 0), (0, .ref 110), (1, .ref 100), (2, .int x)]) (st' := []) (H' := hC A E N V W ++ g) (C := []) 15 1 rfl trivial (z_Ln.brT (decide_eq_true hb) ?_)
    refine z_Ln.blk (pc' := 2) (lv' := [(3, .int 1), (0, .ref 110), (1, .ref 100), (2, .int x)]) (st' := []) (H' := hC A E N V W ++ g) (C := []) 18 2 rfl trivial ?_
    have e : decide ((z_fn 0 (A 4) (x + 0).toNatClampNeg) = 105) = true := decide_eq_true hb
    rw [e]
    simp only [Bool.true_and]
    exact s38_30_1 (x := x) hRm hf hw h1 h2
  · refine z_Ln.blk (pc' := (if decide ((z_fn 0 (A 4) (x + 0).toNatClampNeg) = 105) = true then 28 else 26)) (lv' := [(3, .int 0), (0, .ref 110), (1, .ref 100), (2, .int x)]) (st' := []) (H' := hC A E N V W ++ g) (C := []) 15 1 rfl trivial (z_Ln.brF (decide_eq_false hb) ?_)
    have e : decide ((z_fn 0 (A 4) (x + 0).toNatClampNeg) = 105) = false := decide_eq_false hb
    rw [e]
    simp only [Bool.false_and]
    refine z_Ln.blk (pc' := 27) (lv' := [(3, .int 0), (0, .ref 110), (1, .ref 100), (2, .int x)]) (st' := [.int 0]) (H' := hC A E N V W ++ g) (C := []) 16 1 rfl trivial ?_
    exact z_Ln.ret rfl (z_retB (Or.inl rfl))
set_option maxRecDepth 10000 in
theorem s38_31_4 {L : Nat} {xs : Nat → Int32} {fv : Value} {f w : Nat} {c : Nat × Nat} {A : Nat → List (Nat × Int32)} {E : List (Nat × Option Nat)} {N : Nat → Nat} {V : Nat → Nat → Int32} {W : Nat} {g : List z_E} {x : Int32} (hRm : z_Rm (hC A E N V W ++ g, c)) (hf : 4 ≤ f) (hw : 400 ≤ w)  : z_Ln L xs fv f w 38 2 [(3, .int 4), (0, .ref 110), (1, .ref 102), (2, .int x)] [] (hC A E N V W ++ g, c) (.inl (some (.int (z_B1 true)))) (hC A E N V W ++ g, c) := by
  have m36 : z_pg.2.1 36 = 1 := rfl
  refine z_Ln.blk (pc' := 4) (lv' := [(3, .int 4), (0, .ref 110), (1, .ref 102), (2, .int x)]) (st' := [.ref 102, .int 4]) (H' := hC A E N V W ++ g) (C := []) 2 2 rfl trivial ?_
  refine z_Ln.call (s := 0) (mj := 36) (as := [.ref 102]) (rr := [.int 4]) (v := some (.int 4)) (T1 := (hC A E N V W ++ g, c)) rfl rfl ⟨⟨by omega, by have : z_pg.2.1 36 = 1 := rfl; omega⟩, (by decide : (1 : Nat) ≤ 8), (by decide +kernel : (1 : Nat) ≤ z_pg.2.1 36)⟩ hRm (s36_31 hRm (by omega) (by omega)) ⟨⟨trivial, trivial⟩, ⟨trivial, (z_sm0C 0 (by decide) rfl rfl), (Or.inl (by decide)), trivial, trivial⟩⟩ ?_
  refine z_Ln.blk (pc' := (if decide (4 ≤ 4) = true then 34 else 10)) (lv' := [(3, .int 4), (0, .ref 110), (1, .ref 102), (2, .int x)]) (st' := []) (H' := hC A E N V W ++ g) (C := []) 5 1 rfl trivial (z_Ln.brT (decide_eq_true (by decide)) ?_)
  refine z_Ln.blk (pc' := 35) (lv' := [(3, .int 4), (0, .ref 110), (1, .ref 102), (2, .int x)]) (st' := [.int 1]) (H' := hC A E N V W ++ g) (C := []) 20 1 rfl trivial ?_
  exact z_Ln.ret rfl (z_retB (Or.inr rfl))
set_option maxRecDepth 10000 in
theorem s38_31_3 {L : Nat} {xs : Nat → Int32} {fv : Value} {f w : Nat} {c : Nat × Nat} {A : Nat → List (Nat × Int32)} {E : List (Nat × Option Nat)} {N : Nat → Nat} {V : Nat → Nat → Int32} {W : Nat} {g : List z_E} {x : Int32} (hRm : z_Rm (hC A E N V W ++ g, c)) (hf : 4 ≤ f) (hw : 400 ≤ w) (h3 : z_in (x + 3) 1500 = true) : z_Ln L xs fv f w 38 2 [(3, .int 3), (0, .ref 110), (1, .ref 102), (2, .int x)] [] (hC A E N V W ++ g, c) (.inl (some (.int (z_B1 (decide (z_fn 0 (A 4) (x + 3).toNatClampNeg = 108)))))) (hC A E N V W ++ g, c) := by
  have m36 : z_pg.2.1 36 = 1 := rfl
  have m39 : z_pg.2.1 39 = 2 := rfl
  refine z_Ln.blk (pc' := 4) (lv' := [(3, .int 3), (0, .ref 110), (1, .ref 102), (2, .int x)]) (st' := [.ref 102, .int 3]) (H' := hC A E N V W ++ g) (C := []) 2 2 rfl trivial ?_
  refine z_Ln.call (s := 0) (mj := 36) (as := [.ref 102]) (rr := [.int 3]) (v := some (.int 4)) (T1 := (hC A E N V W ++ g, c)) rfl rfl ⟨⟨by omega, by omega⟩, (by decide : (1 : Nat) ≤ 8), (by decide +kernel : (1 : Nat) ≤ z_pg.2.1 36)⟩ hRm (s36_31 hRm (by omega) (by omega)) ⟨⟨trivial, trivial⟩, ⟨trivial, (z_sm0C 0 (by decide) rfl rfl), (Or.inl (by decide)), trivial, trivial⟩⟩ ?_
  refine z_Ln.blk (pc' := (if decide (4 ≤ 3) = true then 34 else 10)) (lv' := [(3, .int 3), (0, .ref 110), (1, .ref 102), (2, .int x)]) (st' := []) (H' := hC A E N V W ++ g) (C := []) 5 1 rfl trivial (z_Ln.brF (decide_eq_false (by decide)) ?_)
  refine z_Ln.blk (pc' := 20) (lv' := [(3, .int 3), (0, .ref 110), (1, .ref 102), (2, .int x)]) (st' := [.int 3, .ref 102, .int (z_fn 0 (A 4) (x + 3).toNatClampNeg)]) (H' := hC A E N V W ++ g) (C := [z_in (x + 3) 1500 = true]) 6 8 rfl h3 ?_
  refine z_Ln.call (s := 0) (mj := 39) (as := [.ref 102, .int 3]) (rr := [.int (z_fn 0 (A 4) (x + 3).toNatClampNeg)]) (v := some (.int 108)) (T1 := (hC A E N V W ++ g, c)) rfl rfl ⟨⟨by omega, by omega⟩, (by decide : (1 : Nat) ≤ 8), (by decide +kernel : (2 : Nat) ≤ z_pg.2.1 39)⟩ hRm (s39_31_3 hRm (by omega) (by omega)) ⟨⟨trivial, trivial⟩, ⟨trivial, (z_sm0C 0 (by decide) rfl rfl), (Or.inl (by decide)), trivial, trivial⟩⟩ ?_
  by_cases hb : (z_fn 0 (A 4) (x + 3).toNatClampNeg) = 108
  · refine z_Ln.blk (pc' := (if decide ((z_fn 0 (A 4) (x + 3).toNatClampNeg) = 108) = true then 28 else 26)) (lv' := [(3, .int 3), (0, .ref 110), (1, .ref 102), (2, .int x)]) (st' := []) (H' := hC A E N V W ++ g) (C := []) 15 1 rfl trivial (z_Ln.brT (decide_eq_true hb) ?_)
    refine z_Ln.blk (pc' := 2) (lv' := [(3, .int 4), (0, .ref 110), (1, .ref 102), (2, .int x)]) (st' := []) (H' := hC A E N V W ++ g) (C := []) 18 2 rfl trivial ?_
    have e : decide ((z_fn 0 (A 4) (x + 3).toNatClampNeg) = 108) = true := decide_eq_true hb
    rw [e]
    exact s38_31_4 (x := x) hRm hf hw 
  · refine z_Ln.blk (pc' := (if decide ((z_fn 0 (A 4) (x + 3).toNatClampNeg) = 108) = true then 28 else 26)) (lv' := [(3, .int 3), (0, .ref 110), (1, .ref 102), (2, .int x)]) (st' := []) (H' := hC A E N V W ++ g) (C := []) 15 1 rfl trivial (z_Ln.brF (decide_eq_false hb) ?_)
    have e : decide ((z_fn 0 (A 4) (x + 3).toNatClampNeg) = 108) = false := decide_eq_false hb
    rw [e]
    refine z_Ln.blk (pc' := 27) (lv' := [(3, .int 3), (0, .ref 110), (1, .ref 102), (2, .int x)]) (st' := [.int 0]) (H' := hC A E N V W ++ g) (C := []) 16 1 rfl trivial ?_
    exact z_Ln.ret rfl (z_retB (Or.inl rfl))
set_option maxRecDepth 10000 in
theorem s38_31_2 {L : Nat} {xs : Nat → Int32} {fv : Value} {f w : Nat} {c : Nat × Nat} {A : Nat → List (Nat × Int32)} {E : List (Nat × Option Nat)} {N : Nat → Nat} {V : Nat → Nat → Int32} {W : Nat} {g : List z_E} {x : Int32} (hRm : z_Rm (hC A E N V W ++ g, c)) (hf : 4 ≤ f) (hw : 400 ≤ w) (h2 : z_in (x + 2) 1500 = true) (h3 : z_in (x + 3) 1500 = true) : z_Ln L xs fv f w 38 2 [(3, .int 2), (0, .ref 110), (1, .ref 102), (2, .int x)] [] (hC A E N V W ++ g, c) (.inl (some (.int (z_B1 (decide (z_fn 0 (A 4) (x + 2).toNatClampNeg = 111) && decide (z_fn 0 (A 4) (x + 3).toNatClampNeg = 108)))))) (hC A E N V W ++ g, c) := by
  have m36 : z_pg.2.1 36 = 1 := rfl
  have m39 : z_pg.2.1 39 = 2 := rfl
  refine z_Ln.blk (pc' := 4) (lv' := [(3, .int 2), (0, .ref 110), (1, .ref 102), (2, .int x)]) (st' := [.ref 102, .int 2]) (H' := hC A E N V W ++ g) (C := []) 2 2 rfl trivial ?_
  refine z_Ln.call (s := 0) (mj := 36) (as := [.ref 102]) (rr := [.int 2]) (v := some (.int 4)) (T1 := (hC A E N V W ++ g, c)) rfl rfl ⟨⟨by omega, by omega⟩, (by decide : (1 : Nat) ≤ 8), (by decide +kernel : (1 : Nat) ≤ z_pg.2.1 36)⟩ hRm (s36_31 hRm (by omega) (by omega)) ⟨⟨trivial, trivial⟩, ⟨trivial, (z_sm0C 0 (by decide) rfl rfl), (Or.inl (by decide)), trivial, trivial⟩⟩ ?_
  refine z_Ln.blk (pc' := (if decide (4 ≤ 2) = true then 34 else 10)) (lv' := [(3, .int 2), (0, .ref 110), (1, .ref 102), (2, .int x)]) (st' := []) (H' := hC A E N V W ++ g) (C := []) 5 1 rfl trivial (z_Ln.brF (decide_eq_false (by decide)) ?_)
  refine z_Ln.blk (pc' := 20) (lv' := [(3, .int 2), (0, .ref 110), (1, .ref 102), (2, .int x)]) (st' := [.int 2, .ref 102, .int (z_fn 0 (A 4) (x + 2).toNatClampNeg)]) (H' := hC A E N V W ++ g) (C := [z_in (x + 2) 1500 = true]) 6 8 rfl h2 ?_
  refine z_Ln.call (s := 0) (mj := 39) (as := [.ref 102, .int 2]) (rr := [.int (z_fn 0 (A 4) (x + 2).toNatClampNeg)]) (v := some (.int 111)) (T1 := (hC A E N V W ++ g, c)) rfl rfl ⟨⟨by omega, by omega⟩, (by decide : (1 : Nat) ≤ 8), (by decide +kernel : (2 : Nat) ≤ z_pg.2.1 39)⟩ hRm (s39_31_2 hRm (by omega) (by omega)) ⟨⟨trivial, trivial⟩, ⟨trivial, (z_sm0C 0 (by decide) rfl rfl), (Or.inl (by decide)), trivial, trivial⟩⟩ ?_
  by_cases hb : (z_fn 0 (A 4) (x + 2).toNatClampNeg) = 111
  · refine z_Ln.blk (pc' := (if decide ((z_fn 0 (A 4) (x + 2).toNatClampNeg) = 111) = true then 28 else 26)) (lv' := [(3, .int 2), (0, .ref 110), (1, .ref 102), (2, .int x)]) (st' := []) (H' := hC A E N V W ++ g) (C := []) 15 1 rfl trivial (z_Ln.brT (decide_eq_true hb) ?_)
    refine z_Ln.blk (pc' := 2) (lv' := [(3, .int 3), (0, .ref 110), (1, .ref 102), (2, .int x)]) (st' := []) (H' := hC A E N V W ++ g) (C := []) 18 2 rfl trivial ?_
    have e : decide ((z_fn 0 (A 4) (x + 2).toNatClampNeg) = 111) = true := decide_eq_true hb
    rw [e]
    simp only [Bool.true_and]
    exact s38_31_3 (x := x) hRm hf hw h3
  · refine z_Ln.blk (pc' := (if decide ((z_fn 0 (A 4) (x + 2).toNatClampNeg) = 111) = true then 28 else 26)) (lv' := [(3, .int 2), (0, .ref 110), (1, .ref 102), (2, .int x)]) (st' := []) (H' := hC A E N V W ++ g) (C := []) 15 1 rfl trivial (z_Ln.brF (decide_eq_false hb) ?_)
    have e : decide ((z_fn 0 (A 4) (x + 2).toNatClampNeg) = 111) = false := decide_eq_false hb
    rw [e]
    simp only [Bool.false_and]
    refine z_Ln.blk (pc' := 27) (lv' := [(3, .int 2), (0, .ref 110), (1, .ref 102), (2, .int x)]) (st' := [.int 0]) (H' := hC A E N V W ++ g) (C := []) 16 1 rfl trivial ?_
    exact z_Ln.ret rfl (z_retB (Or.inl rfl))
set_option maxRecDepth 10000 in
theorem s38_31_1 {L : Nat} {xs : Nat → Int32} {fv : Value} {f w : Nat} {c : Nat × Nat} {A : Nat → List (Nat × Int32)} {E : List (Nat × Option Nat)} {N : Nat → Nat} {V : Nat → Nat → Int32} {W : Nat} {g : List z_E} {x : Int32} (hRm : z_Rm (hC A E N V W ++ g, c)) (hf : 4 ≤ f) (hw : 400 ≤ w) (h1 : z_in (x + 1) 1500 = true) (h2 : z_in (x + 2) 1500 = true) (h3 : z_in (x + 3) 1500 = true) : z_Ln L xs fv f w 38 2 [(3, .int 1), (0, .ref 110), (1, .ref 102), (2, .int x)] [] (hC A E N V W ++ g, c) (.inl (some (.int (z_B1 (decide (z_fn 0 (A 4) (x + 1).toNatClampNeg = 111) && decide (z_fn 0 (A 4) (x + 2).toNatClampNeg = 111) && decide (z_fn 0 (A 4) (x + 3).toNatClampNeg = 108)))))) (hC A E N V W ++ g, c) := by
  have m36 : z_pg.2.1 36 = 1 := rfl
  have m39 : z_pg.2.1 39 = 2 := rfl
  refine z_Ln.blk (pc' := 4) (lv' := [(3, .int 1), (0, .ref 110), (1, .ref 102), (2, .int x)]) (st' := [.ref 102, .int 1]) (H' := hC A E N V W ++ g) (C := []) 2 2 rfl trivial ?_
  refine z_Ln.call (s := 0) (mj := 36) (as := [.ref 102]) (rr := [.int 1]) (v := some (.int 4)) (T1 := (hC A E N V W ++ g, c)) rfl rfl ⟨⟨by omega, by omega⟩, (by decide : (1 : Nat) ≤ 8), (by decide +kernel : (1 : Nat) ≤ z_pg.2.1 36)⟩ hRm (s36_31 hRm (by omega) (by omega)) ⟨⟨trivial, trivial⟩, ⟨trivial, (z_sm0C 0 (by decide) rfl rfl), (Or.inl (by decide)), trivial, trivial⟩⟩ ?_
  refine z_Ln.blk (pc' := (if decide (4 ≤ 1) = true then 34 else 10)) (lv' := [(3, .int 1), (0, .ref 110), (1, .ref 102), (2, .int x)]) (st' := []) (H' := hC A E N V W ++ g) (C := []) 5 1 rfl trivial (z_Ln.brF (decide_eq_false (by decide)) ?_)
  refine z_Ln.blk (pc' := 20) (lv' := [(3, .int 1), (0, .ref 110), (1, .ref 102), (2, .int x)]) (st' := [.int 1, .ref 102, .int (z_fn 0 (A 4) (x + 1).toNatClampNeg)]) (H' := hC A E N V W ++ g) (C := [z_in (x + 1) 1500 = true]) 6 8 rfl h1 ?_
  refine z_Ln.call (s := 0) (mj := 39) (as := [.ref 102, .int 1]) (rr := [.int (z_fn 0 (A 4) (x + 1).toNatClampNeg)]) (v := some (.int 111)) (T1 := (hC A E N V W ++ g, c)) rfl rfl ⟨⟨by omega, by omega⟩, (by decide : (1 : Nat) ≤ 8), (by decide +kernel : (2 : Nat) ≤ z_pg.2.1 39)⟩ hRm (s39_31_1 hRm (by omega) (by omega)) ⟨⟨trivial, trivial⟩, ⟨trivial, (z_sm0C 0 (by decide) rfl rfl), (Or.inl (by decide)), trivial, trivial⟩⟩ ?_
  by_cases hb : (z_fn 0 (A 4) (x + 1).toNatClampNeg) = 111
  · refine z_Ln.blk (pc' := (if decide ((z_fn 0 (A 4) (x + 1).toNatClampNeg) = 111) = true then 28 else 26)) (lv' := [(3, .int 1), (0, .ref 110), (1, .ref 102), (2, .int x)]) (st' := []) (H' := hC A E N V W ++ g) (C := []) 15 1 rfl trivial (z_Ln.brT (decide_eq_true hb) ?_)
    refine z_Ln.blk (pc' := 2) (lv' := [(3, .int 2), (0, .ref 110), (1, .ref 102), (2, .int x)]) (st' := []) (H' := hC A E N V W ++ g) (C := []) 18 2 rfl trivial ?_
    have e : decide ((z_fn 0 (A 4) (x + 1).toNatClampNeg) = 111) = true := decide_eq_true hb
    rw [e]
    simp only [Bool.true_and]
    exact s38_31_2 (x := x) hRm hf hw h2 h3
  · refine z_Ln.blk (pc' := (if decide ((z_fn 0 (A 4) (x + 1).toNatClampNeg) = 111) = true then 28 else 26)) (lv' := [(3, .int 1), (0, .ref 110), (1, .ref 102), (2, .int x)]) (st' := []) (H' := hC A E N V W ++ g) (C := []) 15 1 rfl trivial (z_Ln.brF (decide_eq_false hb) ?_)
    have e : decide ((z_fn 0 (A 4) (x + 1).toNatClampNeg) = 111) = false := decide_eq_false hb
    rw [e]
    simp only [Bool.false_and]
    refine z_Ln.blk (pc' := 27) (lv' := [(3, .int 1), (0, .ref 110), (1, .ref 102), (2, .int x)]) (st' := [.int 0]) (H' := hC A E N V W ++ g) (C := []) 16 1 rfl trivial ?_
    exact z_Ln.ret rfl (z_retB (Or.inl rfl))
set_option maxRecDepth 10000 in
theorem s38_31_0 {L : Nat} {xs : Nat → Int32} {fv : Value} {f w : Nat} {c : Nat × Nat} {A : Nat → List (Nat × Int32)} {E : List (Nat × Option Nat)} {N : Nat → Nat} {V : Nat → Nat → Int32} {W : Nat} {g : List z_E} {x : Int32} (hRm : z_Rm (hC A E N V W ++ g, c)) (hf : 4 ≤ f) (hw : 400 ≤ w) (h0 : z_in (x + 0) 1500 = true) (h1 : z_in (x + 1) 1500 = true) (h2 : z_in (x + 2) 1500 = true) (h3 : z_in (x + 3) 1500 = true) : z_Ln L xs fv f w 38 2 [(3, .int 0), (0, .ref 110), (1, .ref 102), (2, .int x)] [] (hC A E N V W ++ g, c) (.inl (some (.int (z_B1 (decide (z_fn 0 (A 4) (x + 0).toNatClampNeg = 98) && decide (z_fn 0 (A 4) (x + 1).toNatClampNeg = 111) && decide (z_fn 0 (A 4) (x + 2).toNatClampNeg = 111) && decide (z_fn 0 (A 4) (x + 3).toNatClampNeg = 108)))))) (hC A E N V W ++ g, c) := by
  have m36 : z_pg.2.1 36 = 1 := rfl
  have m39 : z_pg.2.1 39 = 2 := rfl
  refine z_Ln.blk (pc' := 4) (lv' := [(3, .int 0), (0, .ref 110), (1, .ref 102), (2, .int x)]) (st' := [.ref 102, .int 0]) (H' := hC A E N V W ++ g) (C := []) 2 2 rfl trivial ?_
  refine z_Ln.call (s := 0) (mj := 36) (as := [.ref 102]) (rr := [.int 0]) (v := some (.int 4)) (T1 := (hC A E N V W ++ g, c)) rfl rfl ⟨⟨by omega, by omega⟩, (by decide : (1 : Nat) ≤ 8), (by decide +kernel : (1 : Nat) ≤ z_pg.2.1 36)⟩ hRm (s36_31 hRm (by omega) (by omega)) ⟨⟨trivial, trivial⟩, ⟨trivial, (z_sm0C 0 (by decide) rfl rfl), (Or.inl (by decide)), trivial, trivial⟩⟩ ?_
  refine z_Ln.blk (pc' := (if decide (4 ≤ 0) = true then 34 else 10)) (lv' := [(3, .int 0), (0, .ref 110), (1, .ref 102), (2, .int x)]) (st' := []) (H' := hC A E N V W ++ g) (C := []) 5 1 rfl trivial (z_Ln.brF (decide_eq_false (by decide)) ?_)
  refine z_Ln.blk (pc' := 20) (lv' := [(3, .int 0), (0, .ref 110), (1, .ref 102), (2, .int x)]) (st' := [.int 0, .ref 102, .int (z_fn 0 (A 4) (x + 0).toNatClampNeg)]) (H' := hC A E N V W ++ g) (C := [z_in (x + 0) 1500 = true]) 6 8 rfl h0 ?_
  refine z_Ln.call (s := 0) (mj := 39) (as := [.ref 102, .int 0]) (rr := [.int (z_fn 0 (A 4) (x + 0).toNatClampNeg)]) (v := some (.int 98)) (T1 := (hC A E N V W ++ g, c)) rfl rfl ⟨⟨by omega, by omega⟩, (by decide : (1 : Nat) ≤ 8), (by decide +kernel : (2 : Nat) ≤ z_pg.2.1 39)⟩ hRm (s39_31_0 hRm (by omega) (by omega)) ⟨⟨trivial, trivial⟩, ⟨trivial, (z_sm0C 0 (by decide) rfl rfl), (Or.inl (by decide)), trivial, trivial⟩⟩ ?_
  by_cases hb : (z_fn 0 (A 4) (x + 0).toNatClampNeg) = 98
  · refine z_Ln.blk (pc' := (if decide ((z_fn 0 (A 4) (x + 0).toNatClampNeg) = 98) = true then 28 else 26)) (lv' := [(3, .int 0), (0, .ref 110), (1, .ref 102), (2, .int x)]) (st' := []) (H' := hC A E N V W ++ g) (C := []) 15 1 rfl trivial (z_Ln.brT (decide_eq_true hb) ?_)
    refine z_Ln.blk (pc' := 2) (lv' := [(3, .int 1), (0, .ref 110), (1, .ref 102), (2, .int x)]) (st' := []) (H' := hC A E N V W ++ g) (C := []) 18 2 rfl trivial ?_
    have e : decide ((z_fn 0 (A 4) (x + 0).toNatClampNeg) = 98) = true := decide_eq_true hb
    rw [e]
    simp only [Bool.true_and]
    exact s38_31_1 (x := x) hRm hf hw h1 h2 h3
  · refine z_Ln.blk (pc' := (if decide ((z_fn 0 (A 4) (x + 0).toNatClampNeg) = 98) = true then 28 else 26)) (lv' := [(3, .int 0), (0, .ref 110), (1, .ref 102), (2, .int x)]) (st' := []) (H' := hC A E N V W ++ g) (C := []) 15 1 rfl trivial (z_Ln.brF (decide_eq_false hb) ?_)
    have e : decide ((z_fn 0 (A 4) (x + 0).toNatClampNeg) = 98) = false := decide_eq_false hb
    rw [e]
    simp only [Bool.false_and]
    refine z_Ln.blk (pc' := 27) (lv' := [(3, .int 0), (0, .ref 110), (1, .ref 102), (2, .int x)]) (st' := [.int 0]) (H' := hC A E N V W ++ g) (C := []) 16 1 rfl trivial ?_
    exact z_Ln.ret rfl (z_retB (Or.inl rfl))
set_option maxRecDepth 10000 in
theorem s38_32_4 {L : Nat} {xs : Nat → Int32} {fv : Value} {f w : Nat} {c : Nat × Nat} {A : Nat → List (Nat × Int32)} {E : List (Nat × Option Nat)} {N : Nat → Nat} {V : Nat → Nat → Int32} {W : Nat} {g : List z_E} {x : Int32} (hRm : z_Rm (hC A E N V W ++ g, c)) (hf : 4 ≤ f) (hw : 400 ≤ w)  : z_Ln L xs fv f w 38 2 [(3, .int 4), (0, .ref 110), (1, .ref 104), (2, .int x)] [] (hC A E N V W ++ g, c) (.inl (some (.int (z_B1 true)))) (hC A E N V W ++ g, c) := by
  have m36 : z_pg.2.1 36 = 1 := rfl
  refine z_Ln.blk (pc' := 4) (lv' := [(3, .int 4), (0, .ref 110), (1, .ref 104), (2, .int x)]) (st' := [.ref 104, .int 4]) (H' := hC A E N V W ++ g) (C := []) 2 2 rfl trivial ?_
  refine z_Ln.call (s := 0) (mj := 36) (as := [.ref 104]) (rr := [.int 4]) (v := some (.int 4)) (T1 := (hC A E N V W ++ g, c)) rfl rfl ⟨⟨by omega, by have : z_pg.2.1 36 = 1 := rfl; omega⟩, (by decide : (1 : Nat) ≤ 8), (by decide +kernel : (1 : Nat) ≤ z_pg.2.1 36)⟩ hRm (s36_32 hRm (by omega) (by omega)) ⟨⟨trivial, trivial⟩, ⟨trivial, (z_sm0C 0 (by decide) rfl rfl), (Or.inl (by decide)), trivial, trivial⟩⟩ ?_
  refine z_Ln.blk (pc' := (if decide (4 ≤ 4) = true then 34 else 10)) (lv' := [(3, .int 4), (0, .ref 110), (1, .ref 104), (2, .int x)]) (st' := []) (H' := hC A E N V W ++ g) (C := []) 5 1 rfl trivial (z_Ln.brT (decide_eq_true (by decide)) ?_)
  refine z_Ln.blk (pc' := 35) (lv' := [(3, .int 4), (0, .ref 110), (1, .ref 104), (2, .int x)]) (st' := [.int 1]) (H' := hC A E N V W ++ g) (C := []) 20 1 rfl trivial ?_
  exact z_Ln.ret rfl (z_retB (Or.inr rfl))
set_option maxRecDepth 10000 in
theorem s38_32_3 {L : Nat} {xs : Nat → Int32} {fv : Value} {f w : Nat} {c : Nat × Nat} {A : Nat → List (Nat × Int32)} {E : List (Nat × Option Nat)} {N : Nat → Nat} {V : Nat → Nat → Int32} {W : Nat} {g : List z_E} {x : Int32} (hRm : z_Rm (hC A E N V W ++ g, c)) (hf : 4 ≤ f) (hw : 400 ≤ w) (h3 : z_in (x + 3) 1500 = true) : z_Ln L xs fv f w 38 2 [(3, .int 3), (0, .ref 110), (1, .ref 104), (2, .int x)] [] (hC A E N V W ++ g, c) (.inl (some (.int (z_B1 (decide (z_fn 0 (A 4) (x + 3).toNatClampNeg = 116)))))) (hC A E N V W ++ g, c) := by
  have m36 : z_pg.2.1 36 = 1 := rfl
  have m39 : z_pg.2.1 39 = 2 := rfl
  refine z_Ln.blk (pc' := 4) (lv' := [(3, .int 3), (0, .ref 110), (1, .ref 104), (2, .int x)]) (st' := [.ref 104, .int 3]) (H' := hC A E N V W ++ g) (C := []) 2 2 rfl trivial ?_
  refine z_Ln.call (s := 0) (mj := 36) (as := [.ref 104]) (rr := [.int 3]) (v := some (.int 4)) (T1 := (hC A E N V W ++ g, c)) rfl rfl ⟨⟨by omega, by omega⟩, (by decide : (1 : Nat) ≤ 8), (by decide +kernel : (1 : Nat) ≤ z_pg.2.1 36)⟩ hRm (s36_32 hRm (by omega) (by omega)) ⟨⟨trivial, trivial⟩, ⟨trivial, (z_sm0C 0 (by decide) rfl rfl), (Or.inl (by decide)), trivial, trivial⟩⟩ ?_
  refine z_Ln.blk (pc' := (if decide (4 ≤ 3) = true then 34 else 10)) (lv' := [(3, .int 3), (0, .ref 110), (1, .ref 104), (2, .int x)]) (st' := []) (H' := hC A E N V W ++ g) (C := []) 5 1 rfl trivial (z_Ln.brF (decide_eq_false (by decide)) ?_)
  refine z_Ln.blk (pc' := 20) (lv' := [(3, .int 3), (0, .ref 110), (1, .ref 104), (2, .int x)]) (st' := [.int 3, .ref 104, .int (z_fn 0 (A 4) (x + 3).toNatClampNeg)]) (H' := hC A E N V W ++ g) (C := [z_in (x + 3) 1500 = true]) 6 8 rfl h3 ?_
  refine z_Ln.call (s := 0) (mj := 39) (as := [.ref 104, .int 3]) (rr := [.int (z_fn 0 (A 4) (x + 3).toNatClampNeg)]) (v := some (.int 116)) (T1 := (hC A E N V W ++ g, c)) rfl rfl ⟨⟨by omega, by omega⟩, (by decide : (1 : Nat) ≤ 8), (by decide +kernel : (2 : Nat) ≤ z_pg.2.1 39)⟩ hRm (s39_32_3 hRm (by omega) (by omega)) ⟨⟨trivial, trivial⟩, ⟨trivial, (z_sm0C 0 (by decide) rfl rfl), (Or.inl (by decide)), trivial, trivial⟩⟩ ?_
  by_cases hb : (z_fn 0 (A 4) (x + 3).toNatClampNeg) = 116
  · refine z_Ln.blk (pc' := (if decide ((z_fn 0 (A 4) (x + 3).toNatClampNeg) = 116) = true then 28 else 26)) (lv' := [(3, .int 3), (0, .ref 110), (1, .ref 104), (2, .int x)]) (st' := []) (H' := hC A E N V W ++ g) (C := []) 15 1 rfl trivial (z_Ln.brT (decide_eq_true hb) ?_)
    refine z_Ln.blk (pc' := 2) (lv' := [(3, .int 4), (0, .ref 110), (1, .ref 104), (2, .int x)]) (st' := []) (H' := hC A E N V W ++ g) (C := []) 18 2 rfl trivial ?_
    have e : decide ((z_fn 0 (A 4) (x + 3).toNatClampNeg) = 116) = true := decide_eq_true hb
    rw [e]
    exact s38_32_4 (x := x) hRm hf hw 
  · refine z_Ln.blk (pc' := (if decide ((z_fn 0 (A 4) (x + 3).toNatClampNeg) = 116) = true then 28 else 26)) (lv' := [(3, .int 3), (0, .ref 110), (1, .ref 104), (2, .int x)]) (st' := []) (H' := hC A E N V W ++ g) (C := []) 15 1 rfl trivial (z_Ln.brF (decide_eq_false hb) ?_)
    have e : decide ((z_fn 0 (A 4) (x + 3).toNatClampNeg) = 116) = false := decide_eq_false hb
    rw [e]
    refine z_Ln.blk (pc' := 27) (lv' := [(3, .int 3), (0, .ref 110), (1, .ref 104), (2, .int x)]) (st' := [.int 0]) (H' := hC A E N V W ++ g) (C := []) 16 1 rfl trivial ?_
    exact z_Ln.ret rfl (z_retB (Or.inl rfl))
set_option maxRecDepth 10000 in
theorem s38_32_2 {L : Nat} {xs : Nat → Int32} {fv : Value} {f w : Nat} {c : Nat × Nat} {A : Nat → List (Nat × Int32)} {E : List (Nat × Option Nat)} {N : Nat → Nat} {V : Nat → Nat → Int32} {W : Nat} {g : List z_E} {x : Int32} (hRm : z_Rm (hC A E N V W ++ g, c)) (hf : 4 ≤ f) (hw : 400 ≤ w) (h2 : z_in (x + 2) 1500 = true) (h3 : z_in (x + 3) 1500 = true) : z_Ln L xs fv f w 38 2 [(3, .int 2), (0, .ref 110), (1, .ref 104), (2, .int x)] [] (hC A E N V W ++ g, c) (.inl (some (.int (z_B1 (decide (z_fn 0 (A 4) (x + 2).toNatClampNeg = 105) && decide (z_fn 0 (A 4) (x + 3).toNatClampNeg = 116)))))) (hC A E N V W ++ g, c) := by
  have m36 : z_pg.2.1 36 = 1 := rfl
  have m39 : z_pg.2.1 39 = 2 := rfl
  refine z_Ln.blk (pc' := 4) (lv' := [(3, .int 2), (0, .ref 110), (1, .ref 104), (2, .int x)]) (st' := [.ref 104, .int 2]) (H' := hC A E N V W ++ g) (C := []) 2 2 rfl trivial ?_
  refine z_Ln.call (s := 0) (mj := 36) (as := [.ref 104]) (rr := [.int 2]) (v := some (.int 4)) (T1 := (hC A E N V W ++ g, c)) rfl rfl ⟨⟨by omega, by omega⟩, (by decide : (1 : Nat) ≤ 8), (by decide +kernel : (1 : Nat) ≤ z_pg.2.1 36)⟩ hRm (s36_32 hRm (by omega) (by omega)) ⟨⟨trivial, trivial⟩, ⟨trivial, (z_sm0C 0 (by decide) rfl rfl), (Or.inl (by decide)), trivial, trivial⟩⟩ ?_
  refine z_Ln.blk (pc' := (if decide (4 ≤ 2) = true then 34 else 10)) (lv' := [(3, .int 2), (0, .ref 110), (1, .ref 104), (2, .int x)]) (st' := []) (H' := hC A E N V W ++ g) (C := []) 5 1 rfl trivial (z_Ln.brF (decide_eq_false (by decide)) ?_)
  refine z_Ln.blk (pc' := 20) (lv' := [(3, .int 2), (0, .ref 110), (1, .ref 104), (2, .int x)]) (st' := [.int 2, .ref 104, .int (z_fn 0 (A 4) (x + 2).toNatClampNeg)]) (H' := hC A E N V W ++ g) (C := [z_in (x + 2) 1500 = true]) 6 8 rfl h2 ?_
  refine z_Ln.call (s := 0) (mj := 39) (as := [.ref 104, .int 2]) (rr := [.int (z_fn 0 (A 4) (x + 2).toNatClampNeg)]) (v := some (.int 105)) (T1 := (hC A E N V W ++ g, c)) rfl rfl ⟨⟨by omega, by omega⟩, (by decide : (1 : Nat) ≤ 8), (by decide +kernel : (2 : Nat) ≤ z_pg.2.1 39)⟩ hRm (s39_32_2 hRm (by omega) (by omega)) ⟨⟨trivial, trivial⟩, ⟨trivial, (z_sm0C 0 (by decide) rfl rfl), (Or.inl (by decide)), trivial, trivial⟩⟩ ?_
  by_cases hb : (z_fn 0 (A 4) (x + 2).toNatClampNeg) = 105
  · refine z_Ln.blk (pc' := (if decide ((z_fn 0 (A 4) (x + 2).toNatClampNeg) = 105) = true then 28 else 26)) (lv' := [(3, .int 2), (0, .ref 110), (1, .ref 104), (2, .int x)]) (st' := []) (H' := hC A E N V W ++ g) (C := []) 15 1 rfl trivial (z_Ln.brT (decide_eq_true hb) ?_)
    refine z_Ln.blk (pc' := 2) (lv' := [(3, .int 3), (0, .ref 110), (1, .ref 104), (2, .int x)]) (st' := []) (H' := hC A E N V W ++ g) (C := []) 18 2 rfl trivial ?_
    have e : decide ((z_fn 0 (A 4) (x + 2).toNatClampNeg) = 105) = true := decide_eq_true hb
    rw [e]
    simp only [Bool.true_and]
    exact s38_32_3 (x := x) hRm hf hw h3
  · refine z_Ln.blk (pc' := (if decide ((z_fn 0 (A 4) (x + 2).toNatClampNeg) = 105) = true then 28 else 26)) (lv' := [(3, .int 2), (0, .ref 110), (1, .ref 104), (2, .int x)]) (st' := []) (H' := hC A E N V W ++ g) (C := []) 15 1 rfl trivial (z_Ln.brF (decide_eq_false hb) ?_)
    have e : decide ((z_fn 0 (A 4) (x + 2).toNatClampNeg) = 105) = false := decide_eq_false hb
    rw [e]
    simp only [Bool.false_and]
    refine z_Ln.blk (pc' := 27) (lv' := [(3, .int 2), (0, .ref 110), (1, .ref 104), (2, .int x)]) (st' := [.int 0]) (H' := hC A E N V W ++ g) (C := []) 16 1 rfl trivial ?_
    exact z_Ln.ret rfl (z_retB (Or.inl rfl))
set_option maxRecDepth 10000 in
theorem s38_32_1 {L : Nat} {xs : Nat → Int32} {fv : Value} {f w : Nat} {c : Nat × Nat} {A : Nat → List (Nat × Int32)} {E : List (Nat × Option Nat)} {N : Nat → Nat} {V : Nat → Nat → Int32} {W : Nat} {g : List z_E} {x : Int32} (hRm : z_Rm (hC A E N V W ++ g, c)) (hf : 4 ≤ f) (hw : 400 ≤ w) (h1 : z_in (x + 1) 1500 = true) (h2 : z_in (x + 2) 1500 = true) (h3 : z_in (x + 3) 1500 = true) : z_Ln L xs fv f w 38 2 [(3, .int 1), (0, .ref 110), (1, .ref 104), (2, .int x)] [] (hC A E N V W ++ g, c) (.inl (some (.int (z_B1 (decide (z_fn 0 (A 4) (x + 1).toNatClampNeg = 110) && decide (z_fn 0 (A 4) (x + 2).toNatClampNeg = 105) && decide (z_fn 0 (A 4) (x + 3).toNatClampNeg = 116)))))) (hC A E N V W ++ g, c) := by
  have m36 : z_pg.2.1 36 = 1 := rfl
  have m39 : z_pg.2.1 39 = 2 := rfl
  refine z_Ln.blk (pc' := 4) (lv' := [(3, .int 1), (0, .ref 110), (1, .ref 104), (2, .int x)]) (st' := [.ref 104, .int 1]) (H' := hC A E N V W ++ g) (C := []) 2 2 rfl trivial ?_
  refine z_Ln.call (s := 0) (mj := 36) (as := [.ref 104]) (rr := [.int 1]) (v := some (.int 4)) (T1 := (hC A E N V W ++ g, c)) rfl rfl ⟨⟨by omega, by omega⟩, (by decide : (1 : Nat) ≤ 8), (by decide +kernel : (1 : Nat) ≤ z_pg.2.1 36)⟩ hRm (s36_32 hRm (by omega) (by omega)) ⟨⟨trivial, trivial⟩, ⟨trivial, (z_sm0C 0 (by decide) rfl rfl), (Or.inl (by decide)), trivial, trivial⟩⟩ ?_
  refine z_Ln.blk (pc' := (if decide (4 ≤ 1) = true then 34 else 10)) (lv' := [(3, .int 1), (0, .ref 110), (1, .ref 104), (2, .int x)]) (st' := []) (H' := hC A E N V W ++ g) (C := []) 5 1 rfl trivial (z_Ln.brF (decide_eq_false (by decide)) ?_)
  refine z_Ln.blk (pc' := 20) (lv' := [(3, .int 1), (0, .ref 110), (1, .ref 104), (2, .int x)]) (st' := [.int 1, .ref 104, .int (z_fn 0 (A 4) (x + 1).toNatClampNeg)]) (H' := hC A E N V W ++ g) (C := [z_in (x + 1) 1500 = true]) 6 8 rfl h1 ?_
  refine z_Ln.call (s := 0) (mj := 39) (as := [.ref 104, .int 1]) (rr := [.int (z_fn 0 (A 4) (x + 1).toNatClampNeg)]) (v := some (.int 110)) (T1 := (hC A E N V W ++ g, c)) rfl rfl ⟨⟨by omega, by omega⟩, (by decide : (1 : Nat) ≤ 8), (by decide +kernel : (2 : Nat) ≤ z_pg.2.1 39)⟩ hRm (s39_32_1 hRm (by omega) (by omega)) ⟨⟨trivial, trivial⟩, ⟨trivial, (z_sm0C 0 (by decide) rfl rfl), (Or.inl (by decide)), trivial, trivial⟩⟩ ?_
  by_cases hb : (z_fn 0 (A 4) (x + 1).toNatClampNeg) = 110
  · refine z_Ln.blk (pc' := (if decide ((z_fn 0 (A 4) (x + 1).toNatClampNeg) = 110) = true then 28 else 26)) (lv' := [(3, .int 1), (0, .ref 110), (1, .ref 104), (2, .int x)]) (st' := []) (H' := hC A E N V W ++ g) (C := []) 15 1 rfl trivial (z_Ln.brT (decide_eq_true hb) ?_)
    refine z_Ln.blk (pc' := 2) (lv' := [(3, .int 2), (0, .ref 110), (1, .ref 104), (2, .int x)]) (st' := []) (H' := hC A E N V W ++ g) (C := []) 18 2 rfl trivial ?_
    have e : decide ((z_fn 0 (A 4) (x + 1).toNatClampNeg) = 110) = true := decide_eq_true hb
    rw [e]
    simp only [Bool.true_and]
    exact s38_32_2 (x := x) hRm hf hw h2 h3
  · refine z_Ln.blk (pc' := (if decide ((z_fn 0 (A 4) (x + 1).toNatClampNeg) = 110) = true then 28 else 26)) (lv' := [(3, .int 1), (0, .ref 110), (1, .ref 104), (2, .int x)]) (st' := []) (H' := hC A E N V W ++ g) (C := []) 15 1 rfl trivial (z_Ln.brF (decide_eq_false hb) ?_)
    have e : decide ((z_fn 0 (A 4) (x + 1).toNatClampNeg) = 110) = false := decide_eq_false hb
    rw [e]
    simp only [Bool.false_and]
    refine z_Ln.blk (pc' := 27) (lv' := [(3, .int 1), (0, .ref 110), (1, .ref 104), (2, .int x)]) (st' := [.int 0]) (H' := hC A E N V W ++ g) (C := []) 16 1 rfl trivial ?_
    exact z_Ln.ret rfl (z_retB (Or.inl rfl))
set_option maxRecDepth 10000 in
theorem s38_32_0 {L : Nat} {xs : Nat → Int32} {fv : Value} {f w : Nat} {c : Nat × Nat} {A : Nat → List (Nat × Int32)} {E : List (Nat × Option Nat)} {N : Nat → Nat} {V : Nat → Nat → Int32} {W : Nat} {g : List z_E} {x : Int32} (hRm : z_Rm (hC A E N V W ++ g, c)) (hf : 4 ≤ f) (hw : 400 ≤ w) (h0 : z_in (x + 0) 1500 = true) (h1 : z_in (x + 1) 1500 = true) (h2 : z_in (x + 2) 1500 = true) (h3 : z_in (x + 3) 1500 = true) : z_Ln L xs fv f w 38 2 [(3, .int 0), (0, .ref 110), (1, .ref 104), (2, .int x)] [] (hC A E N V W ++ g, c) (.inl (some (.int (z_B1 (decide (z_fn 0 (A 4) (x + 0).toNatClampNeg = 117) && decide (z_fn 0 (A 4) (x + 1).toNatClampNeg = 110) && decide (z_fn 0 (A 4) (x + 2).toNatClampNeg = 105) && decide (z_fn 0 (A 4) (x + 3).toNatClampNeg = 116)))))) (hC A E N V W ++ g, c) := by
  have m36 : z_pg.2.1 36 = 1 := rfl
  have m39 : z_pg.2.1 39 = 2 := rfl
  refine z_Ln.blk (pc' := 4) (lv' := [(3, .int 0), (0, .ref 110), (1, .ref 104), (2, .int x)]) (st' := [.ref 104, .int 0]) (H' := hC A E N V W ++ g) (C := []) 2 2 rfl trivial ?_
  refine z_Ln.call (s := 0) (mj := 36) (as := [.ref 104]) (rr := [.int 0]) (v := some (.int 4)) (T1 := (hC A E N V W ++ g, c)) rfl rfl ⟨⟨by omega, by omega⟩, (by decide : (1 : Nat) ≤ 8), (by decide +kernel : (1 : Nat) ≤ z_pg.2.1 36)⟩ hRm (s36_32 hRm (by omega) (by omega)) ⟨⟨trivial, trivial⟩, ⟨trivial, (z_sm0C 0 (by decide) rfl rfl), (Or.inl (by decide)), trivial, trivial⟩⟩ ?_
  refine z_Ln.blk (pc' := (if decide (4 ≤ 0) = true then 34 else 10)) (lv' := [(3, .int 0), (0, .ref 110), (1, .ref 104), (2, .int x)]) (st' := []) (H' := hC A E N V W ++ g) (C := []) 5 1 rfl trivial (z_Ln.brF (decide_eq_false (by decide)) ?_)
  refine z_Ln.blk (pc' := 20) (lv' := [(3, .int 0), (0, .ref 110), (1, .ref 104), (2, .int x)]) (st' := [.int 0, .ref 104, .int (z_fn 0 (A 4) (x + 0).toNatClampNeg)]) (H' := hC A E N V W ++ g) (C := [z_in (x + 0) 1500 = true]) 6 8 rfl h0 ?_
  refine z_Ln.call (s := 0) (mj := 39) (as := [.ref 104, .int 0]) (rr := [.int (z_fn 0 (A 4) (x + 0).toNatClampNeg)]) (v := some (.int 117)) (T1 := (hC A E N V W ++ g, c)) rfl rfl ⟨⟨by omega, by omega⟩, (by decide : (1 : Nat) ≤ 8), (by decide +kernel : (2 : Nat) ≤ z_pg.2.1 39)⟩ hRm (s39_32_0 hRm (by omega) (by omega)) ⟨⟨trivial, trivial⟩, ⟨trivial, (z_sm0C 0 (by decide) rfl rfl), (Or.inl (by decide)), trivial, trivial⟩⟩ ?_
  by_cases hb : (z_fn 0 (A 4) (x + 0).toNatClampNeg) = 117
  · refine z_Ln.blk (pc' := (if decide ((z_fn 0 (A 4) (x + 0).toNatClampNeg) = 117) = true then 28 else 26)) (lv' := [(3, .int 0), (0, .ref 110), (1, .ref 104), (2, .int x)]) (st' := []) (H' := hC A E N V W ++ g) (C := []) 15 1 rfl trivial (z_Ln.brT (decide_eq_true hb) ?_)
    refine z_Ln.blk (pc' := 2) (lv' := [(3, .int 1), (0, .ref 110), (1, .ref 104), (2, .int x)]) (st' := []) (H' := hC A E N V W ++ g) (C := []) 18 2 rfl trivial ?_
    have e : decide ((z_fn 0 (A 4) (x + 0).toNatClampNeg) = 117) = true := decide_eq_true hb
    rw [e]
    simp only [Bool.true_and]
    exact s38_32_1 (x := x) hRm hf hw h1 h2 h3
  · refine z_Ln.blk (pc' := (if decide ((z_fn 0 (A 4) (x + 0).toNatClampNeg) = 117) = true then 28 else 26)) (lv' := [(3, .int 0), (0, .ref 110), (1, .ref 104), (2, .int x)]) (st' := []) (H' := hC A E N V W ++ g) (C := []) 15 1 rfl trivial (z_Ln.brF (decide_eq_false hb) ?_)
    have e : decide ((z_fn 0 (A 4) (x + 0).toNatClampNeg) = 117) = false := decide_eq_false hb
    rw [e]
    simp only [Bool.false_and]
    refine z_Ln.blk (pc' := 27) (lv' := [(3, .int 0), (0, .ref 110), (1, .ref 104), (2, .int x)]) (st' := [.int 0]) (H' := hC A E N V W ++ g) (C := []) 16 1 rfl trivial ?_
    exact z_Ln.ret rfl (z_retB (Or.inl rfl))
