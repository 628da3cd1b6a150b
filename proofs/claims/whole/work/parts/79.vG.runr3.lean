/-! PRINTED BY A PROGRAM OF MINE: what the methods of the reference that run ask. -/
set_option maxRecDepth 10000 in
theorem e215_0 {L : Nat} {xs : Nat → Int32} {fv : Value} {f w : Nat} {c : Nat × Nat} {o : z_V} {T' : z_Y} {A : Nat → List (Nat × Int32)} {E : List (Nat × Option Nat)} {N : Nat → Nat} {V : Nat → Nat → Int32} {W : Nat} {g : List z_E} {B : Nat → List (Nat × Int32)} {M : Nat → List (Nat × Int64)} {U : Nat → Nat → Int32} {x0 : Int32} {x1 : Int32} {x2 : Int32}  (kk : z_Ln L xs fv f w 215 1 [(0, .int x0), (1, .int x1), (2, .int x2)] [.int x0] (hC A E N V W ++ (hR B M U ++ g), c) o T') : z_Ln L xs fv f w 215 0 [(0, .int x0), (1, .int x1), (2, .int x2)] [] (hC A E N V W ++ (hR B M U ++ g), c) o T' := z_Ln.blk (pc' := 1) (lv' := [(0, .int x0), (1, .int x1), (2, .int x2)]) (st' := [.int x0]) (H' := hC A E N V W ++ (hR B M U ++ g)) (C := []) 0 1 rfl trivial kk
set_option maxRecDepth 10000 in
theorem e215_32 {L : Nat} {xs : Nat → Int32} {fv : Value} {f w : Nat} {c : Nat × Nat} {A : Nat → List (Nat × Int32)} {E : List (Nat × Option Nat)} {N : Nat → Nat} {V : Nat → Nat → Int32} {W : Nat} {g : List z_E} {B : Nat → List (Nat × Int32)} {M : Nat → List (Nat × Int64)} {U : Nat → Nat → Int32} {x0 : Int32} {x1 : Int32} {x2 : Int32}  : z_Ln L xs fv f w 215 32 [(0, .int x0), (1, .int x1), (2, .int x2)] [] (hC A E N V W ++ (hR B M U ++ g), c) (.inl (some (.int (x1 + x2)))) (hC A E N V W ++ (hR B M U ++ g), c) := z_Ln.blk (pc' := 35) (lv' := [(0, .int x0), (1, .int x1), (2, .int x2)]) (st' := [.int (x1 + x2)]) (H' := hC A E N V W ++ (hR B M U ++ g)) (C := []) 2 3 rfl trivial (z_Ln.ret rfl z_retI)
set_option maxRecDepth 10000 in
theorem e215_36 {L : Nat} {xs : Nat → Int32} {fv : Value} {f w : Nat} {c : Nat × Nat} {A : Nat → List (Nat × Int32)} {E : List (Nat × Option Nat)} {N : Nat → Nat} {V : Nat → Nat → Int32} {W : Nat} {g : List z_E} {B : Nat → List (Nat × Int32)} {M : Nat → List (Nat × Int64)} {U : Nat → Nat → Int32} {x0 : Int32} {x1 : Int32} {x2 : Int32}  : z_Ln L xs fv f w 215 36 [(0, .int x0), (1, .int x1), (2, .int x2)] [] (hC A E N V W ++ (hR B M U ++ g), c) (.inl (some (.int (x1 - x2)))) (hC A E N V W ++ (hR B M U ++ g), c) := z_Ln.blk (pc' := 39) (lv' := [(0, .int x0), (1, .int x1), (2, .int x2)]) (st' := [.int (x1 - x2)]) (H' := hC A E N V W ++ (hR B M U ++ g)) (C := []) 6 3 rfl trivial (z_Ln.ret rfl z_retI)
set_option maxRecDepth 10000 in
theorem e215_40 {L : Nat} {xs : Nat → Int32} {fv : Value} {f w : Nat} {c : Nat × Nat} {A : Nat → List (Nat × Int32)} {E : List (Nat × Option Nat)} {N : Nat → Nat} {V : Nat → Nat → Int32} {W : Nat} {g : List z_E} {B : Nat → List (Nat × Int32)} {M : Nat → List (Nat × Int64)} {U : Nat → Nat → Int32} {x0 : Int32} {x1 : Int32} {x2 : Int32}  : z_Ln L xs fv f w 215 40 [(0, .int x0), (1, .int x1), (2, .int x2)] [] (hC A E N V W ++ (hR B M U ++ g), c) (.inl (some (.int (x1 * x2)))) (hC A E N V W ++ (hR B M U ++ g), c) := z_Ln.blk (pc' := 43) (lv' := [(0, .int x0), (1, .int x1), (2, .int x2)]) (st' := [.int (x1 * x2)]) (H' := hC A E N V W ++ (hR B M U ++ g)) (C := []) 10 3 rfl trivial (z_Ln.ret rfl z_retI)
set_option maxRecDepth 10000 in
theorem e215_44t {L : Nat} {xs : Nat → Int32} {fv : Value} {f w : Nat} {c : Nat × Nat} {o : z_V} {T' : z_Y} {A : Nat → List (Nat × Int32)} {E : List (Nat × Option Nat)} {N : Nat → Nat} {V : Nat → Nat → Int32} {W : Nat} {g : List z_E} {B : Nat → List (Nat × Int32)} {M : Nat → List (Nat × Int64)} {U : Nat → Nat → Int32} {x0 : Int32} {x1 : Int32} {x2 : Int32}  (hb : x2 ≤ x1) (kk : z_Ln L xs fv f w 215 53 [(0, .int x0), (1, .int x1), (2, .int x2)] [] (hC A E N V W ++ (hR B M U ++ g), c) o T') : z_Ln L xs fv f w 215 44 [(0, .int x0), (1, .int x1), (2, .int x2)] [] (hC A E N V W ++ (hR B M U ++ g), c) o T' := z_Ln.blk (pc' := (if decide (x2 ≤ x1) = true then 53 else 49)) (lv' := [(0, .int x0), (1, .int x1), (2, .int x2)]) (st' := []) (H' := hC A E N V W ++ (hR B M U ++ g)) (C := []) 14 3 rfl trivial (z_Ln.brT (decide_eq_true hb) (kk))
set_option maxRecDepth 10000 in
theorem e215_44f {L : Nat} {xs : Nat → Int32} {fv : Value} {f w : Nat} {c : Nat × Nat} {o : z_V} {T' : z_Y} {A : Nat → List (Nat × Int32)} {E : List (Nat × Option Nat)} {N : Nat → Nat} {V : Nat → Nat → Int32} {W : Nat} {g : List z_E} {B : Nat → List (Nat × Int32)} {M : Nat → List (Nat × Int64)} {U : Nat → Nat → Int32} {x0 : Int32} {x1 : Int32} {x2 : Int32}  (hb : ¬ (x2 ≤ x1)) (kk : z_Ln L xs fv f w 215 49 [(0, .int x0), (1, .int x1), (2, .int x2)] [] (hC A E N V W ++ (hR B M U ++ g), c) o T') : z_Ln L xs fv f w 215 44 [(0, .int x0), (1, .int x1), (2, .int x2)] [] (hC A E N V W ++ (hR B M U ++ g), c) o T' := z_Ln.blk (pc' := (if decide (x2 ≤ x1) = true then 53 else 49)) (lv' := [(0, .int x0), (1, .int x1), (2, .int x2)]) (st' := []) (H' := hC A E N V W ++ (hR B M U ++ g)) (C := []) 14 3 rfl trivial (z_Ln.brF (decide_eq_false hb) (kk))
set_option maxRecDepth 10000 in
theorem e215_49 {L : Nat} {xs : Nat → Int32} {fv : Value} {f w : Nat} {c : Nat × Nat} {o : z_V} {T' : z_Y} {A : Nat → List (Nat × Int32)} {E : List (Nat × Option Nat)} {N : Nat → Nat} {V : Nat → Nat → Int32} {W : Nat} {g : List z_E} {B : Nat → List (Nat × Int32)} {M : Nat → List (Nat × Int64)} {U : Nat → Nat → Int32} {x0 : Int32} {x1 : Int32} {x2 : Int32}  (kk : z_Ln L xs fv f w 215 54 [(0, .int x0), (1, .int x1), (2, .int x2)] [.int 1] (hC A E N V W ++ (hR B M U ++ g), c) o T') : z_Ln L xs fv f w 215 49 [(0, .int x0), (1, .int x1), (2, .int x2)] [] (hC A E N V W ++ (hR B M U ++ g), c) o T' := z_Ln.blk (pc' := 54) (lv' := [(0, .int x0), (1, .int x1), (2, .int x2)]) (st' := [.int 1]) (H' := hC A E N V W ++ (hR B M U ++ g)) (C := []) 17 2 rfl trivial (kk)
set_option maxRecDepth 10000 in
theorem e215_53 {L : Nat} {xs : Nat → Int32} {fv : Value} {f w : Nat} {c : Nat × Nat} {o : z_V} {T' : z_Y} {A : Nat → List (Nat × Int32)} {E : List (Nat × Option Nat)} {N : Nat → Nat} {V : Nat → Nat → Int32} {W : Nat} {g : List z_E} {B : Nat → List (Nat × Int32)} {M : Nat → List (Nat × Int64)} {U : Nat → Nat → Int32} {x0 : Int32} {x1 : Int32} {x2 : Int32}  (kk : z_Ln L xs fv f w 215 54 [(0, .int x0), (1, .int x1), (2, .int x2)] [.int 0] (hC A E N V W ++ (hR B M U ++ g), c) o T') : z_Ln L xs fv f w 215 53 [(0, .int x0), (1, .int x1), (2, .int x2)] [] (hC A E N V W ++ (hR B M U ++ g), c) o T' := z_Ln.blk (pc' := 54) (lv' := [(0, .int x0), (1, .int x1), (2, .int x2)]) (st' := [.int 0]) (H' := hC A E N V W ++ (hR B M U ++ g)) (C := []) 19 1 rfl trivial (kk)
set_option maxRecDepth 10000 in
theorem e215_54 {L : Nat} {xs : Nat → Int32} {fv : Value} {f w : Nat} {c : Nat × Nat} {A : Nat → List (Nat × Int32)} {E : List (Nat × Option Nat)} {N : Nat → Nat} {V : Nat → Nat → Int32} {W : Nat} {g : List z_E} {B : Nat → List (Nat × Int32)} {M : Nat → List (Nat × Int64)} {U : Nat → Nat → Int32} {x0 : Int32} {x1 : Int32} {x2 : Int32} {y0 : Int32}  : z_Ln L xs fv f w 215 54 [(0, .int x0), (1, .int x1), (2, .int x2)] [.int y0] (hC A E N V W ++ (hR B M U ++ g), c) (.inl (some (.int y0))) (hC A E N V W ++ (hR B M U ++ g), c) := z_Ln.ret rfl z_retI
set_option maxRecDepth 10000 in
theorem e215_55t {L : Nat} {xs : Nat → Int32} {fv : Value} {f w : Nat} {c : Nat × Nat} {o : z_V} {T' : z_Y} {A : Nat → List (Nat × Int32)} {E : List (Nat × Option Nat)} {N : Nat → Nat} {V : Nat → Nat → Int32} {W : Nat} {g : List z_E} {B : Nat → List (Nat × Int32)} {M : Nat → List (Nat × Int64)} {U : Nat → Nat → Int32} {x0 : Int32} {x1 : Int32} {x2 : Int32}  (hb : ¬ x1 = x2) (kk : z_Ln L xs fv f w 215 64 [(0, .int x0), (1, .int x1), (2, .int x2)] [] (hC A E N V W ++ (hR B M U ++ g), c) o T') : z_Ln L xs fv f w 215 55 [(0, .int x0), (1, .int x1), (2, .int x2)] [] (hC A E N V W ++ (hR B M U ++ g), c) o T' := z_Ln.blk (pc' := (if decide (¬ x1 = x2) = true then 64 else 60)) (lv' := [(0, .int x0), (1, .int x1), (2, .int x2)]) (st' := []) (H' := hC A E N V W ++ (hR B M U ++ g)) (C := []) 21 3 rfl trivial (z_Ln.brT (decide_eq_true hb) (kk))
set_option maxRecDepth 10000 in
theorem e215_55f {L : Nat} {xs : Nat → Int32} {fv : Value} {f w : Nat} {c : Nat × Nat} {o : z_V} {T' : z_Y} {A : Nat → List (Nat × Int32)} {E : List (Nat × Option Nat)} {N : Nat → Nat} {V : Nat → Nat → Int32} {W : Nat} {g : List z_E} {B : Nat → List (Nat × Int32)} {M : Nat → List (Nat × Int64)} {U : Nat → Nat → Int32} {x0 : Int32} {x1 : Int32} {x2 : Int32}  (hb : ¬ (¬ x1 = x2)) (kk : z_Ln L xs fv f w 215 60 [(0, .int x0), (1, .int x1), (2, .int x2)] [] (hC A E N V W ++ (hR B M U ++ g), c) o T') : z_Ln L xs fv f w 215 55 [(0, .int x0), (1, .int x1), (2, .int x2)] [] (hC A E N V W ++ (hR B M U ++ g), c) o T' := z_Ln.blk (pc' := (if decide (¬ x1 = x2) = true then 64 else 60)) (lv' := [(0, .int x0), (1, .int x1), (2, .int x2)]) (st' := []) (H' := hC A E N V W ++ (hR B M U ++ g)) (C := []) 21 3 rfl trivial (z_Ln.brF (decide_eq_false hb) (kk))
set_option maxRecDepth 10000 in
theorem e215_60 {L : Nat} {xs : Nat → Int32} {fv : Value} {f w : Nat} {c : Nat × Nat} {o : z_V} {T' : z_Y} {A : Nat → List (Nat × Int32)} {E : List (Nat × Option Nat)} {N : Nat → Nat} {V : Nat → Nat → Int32} {W : Nat} {g : List z_E} {B : Nat → List (Nat × Int32)} {M : Nat → List (Nat × Int64)} {U : Nat → Nat → Int32} {x0 : Int32} {x1 : Int32} {x2 : Int32}  (kk : z_Ln L xs fv f w 215 65 [(0, .int x0), (1, .int x1), (2, .int x2)] [.int 1] (hC A E N V W ++ (hR B M U ++ g), c) o T') : z_Ln L xs fv f w 215 60 [(0, .int x0), (1, .int x1), (2, .int x2)] [] (hC A E N V W ++ (hR B M U ++ g), c) o T' := z_Ln.blk (pc' := 65) (lv' := [(0, .int x0), (1, .int x1), (2, .int x2)]) (st' := [.int 1]) (H' := hC A E N V W ++ (hR B M U ++ g)) (C := []) 24 2 rfl trivial (kk)
set_option maxRecDepth 10000 in
theorem e215_64 {L : Nat} {xs : Nat → Int32} {fv : Value} {f w : Nat} {c : Nat × Nat} {o : z_V} {T' : z_Y} {A : Nat → List (Nat × Int32)} {E : List (Nat × Option Nat)} {N : Nat → Nat} {V : Nat → Nat → Int32} {W : Nat} {g : List z_E} {B : Nat → List (Nat × Int32)} {M : Nat → List (Nat × Int64)} {U : Nat → Nat → Int32} {x0 : Int32} {x1 : Int32} {x2 : Int32}  (kk : z_Ln L xs fv f w 215 65 [(0, .int x0), (1, .int x1), (2, .int x2)] [.int 0] (hC A E N V W ++ (hR B M U ++ g), c) o T') : z_Ln L xs fv f w 215 64 [(0, .int x0), (1, .int x1), (2, .int x2)] [] (hC A E N V W ++ (hR B M U ++ g), c) o T' := z_Ln.blk (pc' := 65) (lv' := [(0, .int x0), (1, .int x1), (2, .int x2)]) (st' := [.int 0]) (H' := hC A E N V W ++ (hR B M U ++ g)) (C := []) 26 1 rfl trivial (kk)
set_option maxRecDepth 10000 in
theorem e215_65 {L : Nat} {xs : Nat → Int32} {fv : Value} {f w : Nat} {c : Nat × Nat} {A : Nat → List (Nat × Int32)} {E : List (Nat × Option Nat)} {N : Nat → Nat} {V : Nat → Nat → Int32} {W : Nat} {g : List z_E} {B : Nat → List (Nat × Int32)} {M : Nat → List (Nat × Int64)} {U : Nat → Nat → Int32} {x0 : Int32} {x1 : Int32} {x2 : Int32} {y0 : Int32}  : z_Ln L xs fv f w 215 65 [(0, .int x0), (1, .int x1), (2, .int x2)] [.int y0] (hC A E N V W ++ (hR B M U ++ g), c) (.inl (some (.int y0))) (hC A E N V W ++ (hR B M U ++ g), c) := z_Ln.ret rfl z_retI
def p215_65 (l : Nat) (B : Nat → List (Nat × Int32)) (M : Nat → List (Nat × Int64)) (U : Nat → Nat → Int32) (x0 : Int32) (x1 : Int32) (x2 : Int32) (y0 : Int32) (Q : Option Value → z_RS → Prop) : Prop := Q (some (.int y0)) (B, M, U)
set_option maxRecDepth 10000 in
theorem t215_65 {l : Nat} {B : Nat → List (Nat × Int32)} {M : Nat → List (Nat × Int64)} {U : Nat → Nat → Int32} {x0 : Int32} {x1 : Int32} {x2 : Int32} {y0 : Int32} {Q : Option Value → z_RS → Prop} (h : p215_65 l B M U x0 x1 x2 y0 Q) : z_WR (l + 1) 215 65 [(0, .int x0), (1, .int x1), (2, .int x2)] [.int y0] (B, M, U) Q := by
  unfold p215_65 at h
  exact ⟨(some (.int y0)), (B, M, U), fun _ _ _ _ _ _ _ _ _ _ _ _ hm hl => e215_65 , h⟩
def p215_64 (l : Nat) (B : Nat → List (Nat × Int32)) (M : Nat → List (Nat × Int64)) (U : Nat → Nat → Int32) (x0 : Int32) (x1 : Int32) (x2 : Int32) (Q : Option Value → z_RS → Prop) : Prop := p215_65 l B M U x0 x1 x2 0 Q
set_option maxRecDepth 10000 in
theorem t215_64 {l : Nat} {B : Nat → List (Nat × Int32)} {M : Nat → List (Nat × Int64)} {U : Nat → Nat → Int32} {x0 : Int32} {x1 : Int32} {x2 : Int32} {Q : Option Value → z_RS → Prop} (h : p215_64 l B M U x0 x1 x2 Q) : z_WR (l + 1) 215 64 [(0, .int x0), (1, .int x1), (2, .int x2)] [] (B, M, U) Q := by
  unfold p215_64 at h
  exact z_WR.blk (t215_65 h) (fun _ _ _ _ _ _ _ _ _ _ _ _ _ _ hm hl k => e215_64  k)
def p215_60 (l : Nat) (B : Nat → List (Nat × Int32)) (M : Nat → List (Nat × Int64)) (U : Nat → Nat → Int32) (x0 : Int32) (x1 : Int32) (x2 : Int32) (Q : Option Value → z_RS → Prop) : Prop := p215_65 l B M U x0 x1 x2 1 Q
set_option maxRecDepth 10000 in
theorem t215_60 {l : Nat} {B : Nat → List (Nat × Int32)} {M : Nat → List (Nat × Int64)} {U : Nat → Nat → Int32} {x0 : Int32} {x1 : Int32} {x2 : Int32} {Q : Option Value → z_RS → Prop} (h : p215_60 l B M U x0 x1 x2 Q) : z_WR (l + 1) 215 60 [(0, .int x0), (1, .int x1), (2, .int x2)] [] (B, M, U) Q := by
  unfold p215_60 at h
  exact z_WR.blk (t215_65 h) (fun _ _ _ _ _ _ _ _ _ _ _ _ _ _ hm hl k => e215_60  k)
def p215_55 (l : Nat) (B : Nat → List (Nat × Int32)) (M : Nat → List (Nat × Int64)) (U : Nat → Nat → Int32) (x0 : Int32) (x1 : Int32) (x2 : Int32) (Q : Option Value → z_RS → Prop) : Prop := (if x1 = x2 then p215_60 l B M U x0 x1 x2 Q else p215_64 l B M U x0 x1 x2 Q)
set_option maxRecDepth 10000 in
theorem t215_55 {l : Nat} {B : Nat → List (Nat × Int32)} {M : Nat → List (Nat × Int64)} {U : Nat → Nat → Int32} {x0 : Int32} {x1 : Int32} {x2 : Int32} {Q : Option Value → z_RS → Prop} (h : p215_55 l B M U x0 x1 x2 Q) : z_WR (l + 1) 215 55 [(0, .int x0), (1, .int x1), (2, .int x2)] [] (B, M, U) Q := by
  unfold p215_55 at h
  by_cases hb : x1 = x2
  · rw [if_pos hb] at h
    exact z_WR.blk (t215_60 h) (fun _ _ _ _ _ _ _ _ _ _ _ _ _ _ hm hl k => e215_55f  (fun q => q hb) k)
  · rw [if_neg hb] at h
    exact z_WR.blk (t215_64 h) (fun _ _ _ _ _ _ _ _ _ _ _ _ _ _ hm hl k => e215_55t  hb k)
def p215_32 (l : Nat) (B : Nat → List (Nat × Int32)) (M : Nat → List (Nat × Int64)) (U : Nat → Nat → Int32) (x0 : Int32) (x1 : Int32) (x2 : Int32) (Q : Option Value → z_RS → Prop) : Prop := Q (some (.int (x1 + x2))) (B, M, U)
set_option maxRecDepth 10000 in
theorem t215_32 {l : Nat} {B : Nat → List (Nat × Int32)} {M : Nat → List (Nat × Int64)} {U : Nat → Nat → Int32} {x0 : Int32} {x1 : Int32} {x2 : Int32} {Q : Option Value → z_RS → Prop} (h : p215_32 l B M U x0 x1 x2 Q) : z_WR (l + 1) 215 32 [(0, .int x0), (1, .int x1), (2, .int x2)] [] (B, M, U) Q := by
  unfold p215_32 at h
  exact ⟨(some (.int (x1 + x2))), (B, M, U), fun _ _ _ _ _ _ _ _ _ _ _ _ hm hl => e215_32 , h⟩
def p215_36 (l : Nat) (B : Nat → List (Nat × Int32)) (M : Nat → List (Nat × Int64)) (U : Nat → Nat → Int32) (x0 : Int32) (x1 : Int32) (x2 : Int32) (Q : Option Value → z_RS → Prop) : Prop := Q (some (.int (x1 - x2))) (B, M, U)
set_option maxRecDepth 10000 in
theorem t215_36 {l : Nat} {B : Nat → List (Nat × Int32)} {M : Nat → List (Nat × Int64)} {U : Nat → Nat → Int32} {x0 : Int32} {x1 : Int32} {x2 : Int32} {Q : Option Value → z_RS → Prop} (h : p215_36 l B M U x0 x1 x2 Q) : z_WR (l + 1) 215 36 [(0, .int x0), (1, .int x1), (2, .int x2)] [] (B, M, U) Q := by
  unfold p215_36 at h
  exact ⟨(some (.int (x1 - x2))), (B, M, U), fun _ _ _ _ _ _ _ _ _ _ _ _ hm hl => e215_36 , h⟩
def p215_40 (l : Nat) (B : Nat → List (Nat × Int32)) (M : Nat → List (Nat × Int64)) (U : Nat → Nat → Int32) (x0 : Int32) (x1 : Int32) (x2 : Int32) (Q : Option Value → z_RS → Prop) : Prop := Q (some (.int (x1 * x2))) (B, M, U)
set_option maxRecDepth 10000 in
theorem t215_40 {l : Nat} {B : Nat → List (Nat × Int32)} {M : Nat → List (Nat × Int64)} {U : Nat → Nat → Int32} {x0 : Int32} {x1 : Int32} {x2 : Int32} {Q : Option Value → z_RS → Prop} (h : p215_40 l B M U x0 x1 x2 Q) : z_WR (l + 1) 215 40 [(0, .int x0), (1, .int x1), (2, .int x2)] [] (B, M, U) Q := by
  unfold p215_40 at h
  exact ⟨(some (.int (x1 * x2))), (B, M, U), fun _ _ _ _ _ _ _ _ _ _ _ _ hm hl => e215_40 , h⟩
def p215_54 (l : Nat) (B : Nat → List (Nat × Int32)) (M : Nat → List (Nat × Int64)) (U : Nat → Nat → Int32) (x0 : Int32) (x1 : Int32) (x2 : Int32) (y0 : Int32) (Q : Option Value → z_RS → Prop) : Prop := Q (some (.int y0)) (B, M, U)
set_option maxRecDepth 10000 in
theorem t215_54 {l : Nat} {B : Nat → List (Nat × Int32)} {M : Nat → List (Nat × Int64)} {U : Nat → Nat → Int32} {x0 : Int32} {x1 : Int32} {x2 : Int32} {y0 : Int32} {Q : Option Value → z_RS → Prop} (h : p215_54 l B M U x0 x1 x2 y0 Q) : z_WR (l + 1) 215 54 [(0, .int x0), (1, .int x1), (2, .int x2)] [.int y0] (B, M, U) Q := by
  unfold p215_54 at h
  exact ⟨(some (.int y0)), (B, M, U), fun _ _ _ _ _ _ _ _ _ _ _ _ hm hl => e215_54 , h⟩
def p215_53 (l : Nat) (B : Nat → List (Nat × Int32)) (M : Nat → List (Nat × Int64)) (U : Nat → Nat → Int32) (x0 : Int32) (x1 : Int32) (x2 : Int32) (Q : Option Value → z_RS → Prop) : Prop := p215_54 l B M U x0 x1 x2 0 Q
set_option maxRecDepth 10000 in
theorem t215_53 {l : Nat} {B : Nat → List (Nat × Int32)} {M : Nat → List (Nat × Int64)} {U : Nat → Nat → Int32} {x0 : Int32} {x1 : Int32} {x2 : Int32} {Q : Option Value → z_RS → Prop} (h : p215_53 l B M U x0 x1 x2 Q) : z_WR (l + 1) 215 53 [(0, .int x0), (1, .int x1), (2, .int x2)] [] (B, M, U) Q := by
  unfold p215_53 at h
  exact z_WR.blk (t215_54 h) (fun _ _ _ _ _ _ _ _ _ _ _ _ _ _ hm hl k => e215_53  k)
def p215_49 (l : Nat) (B : Nat → List (Nat × Int32)) (M : Nat → List (Nat × Int64)) (U : Nat → Nat → Int32) (x0 : Int32) (x1 : Int32) (x2 : Int32) (Q : Option Value → z_RS → Prop) : Prop := p215_54 l B M U x0 x1 x2 1 Q
set_option maxRecDepth 10000 in
theorem t215_49 {l : Nat} {B : Nat → List (Nat × Int32)} {M : Nat → List (Nat × Int64)} {U : Nat → Nat → Int32} {x0 : Int32} {x1 : Int32} {x2 : Int32} {Q : Option Value → z_RS → Prop} (h : p215_49 l B M U x0 x1 x2 Q) : z_WR (l + 1) 215 49 [(0, .int x0), (1, .int x1), (2, .int x2)] [] (B, M, U) Q := by
  unfold p215_49 at h
  exact z_WR.blk (t215_54 h) (fun _ _ _ _ _ _ _ _ _ _ _ _ _ _ hm hl k => e215_49  k)
def p215_44 (l : Nat) (B : Nat → List (Nat × Int32)) (M : Nat → List (Nat × Int64)) (U : Nat → Nat → Int32) (x0 : Int32) (x1 : Int32) (x2 : Int32) (Q : Option Value → z_RS → Prop) : Prop := (if x2 ≤ x1 then p215_53 l B M U x0 x1 x2 Q else p215_49 l B M U x0 x1 x2 Q)
set_option maxRecDepth 10000 in
theorem t215_44 {l : Nat} {B : Nat → List (Nat × Int32)} {M : Nat → List (Nat × Int64)} {U : Nat → Nat → Int32} {x0 : Int32} {x1 : Int32} {x2 : Int32} {Q : Option Value → z_RS → Prop} (h : p215_44 l B M U x0 x1 x2 Q) : z_WR (l + 1) 215 44 [(0, .int x0), (1, .int x1), (2, .int x2)] [] (B, M, U) Q := by
  unfold p215_44 at h
  by_cases hb : x2 ≤ x1
  · rw [if_pos hb] at h
    exact z_WR.blk (t215_53 h) (fun _ _ _ _ _ _ _ _ _ _ _ _ _ _ hm hl k => e215_44t  hb k)
  · rw [if_neg hb] at h
    exact z_WR.blk (t215_49 h) (fun _ _ _ _ _ _ _ _ _ _ _ _ _ _ hm hl k => e215_44f  hb k)
def p215_0 (l : Nat) (B : Nat → List (Nat × Int32)) (M : Nat → List (Nat × Int64)) (U : Nat → Nat → Int32) (x0 : Int32) (x1 : Int32) (x2 : Int32) (Q : Option Value → z_RS → Prop) : Prop := (if x0 = 5 then p215_32 l B M U x0 x1 x2 Q else if x0 = 6 then p215_36 l B M U x0 x1 x2 Q else if x0 = 7 then p215_40 l B M U x0 x1 x2 Q else if x0 = 8 then p215_44 l B M U x0 x1 x2 Q else p215_55 l B M U x0 x1 x2 Q)
set_option maxRecDepth 10000 in
theorem t215_0 {l : Nat} {B : Nat → List (Nat × Int32)} {M : Nat → List (Nat × Int64)} {U : Nat → Nat → Int32} {x0 : Int32} {x1 : Int32} {x2 : Int32} {Q : Option Value → z_RS → Prop} (h : p215_0 l B M U x0 x1 x2 Q) : z_WR (l + 1) 215 0 [(0, .int x0), (1, .int x1), (2, .int x2)] [] (B, M, U) Q := by
  unfold p215_0 at h
  by_cases e5 : x0 = 5
  · rw [if_pos e5] at h
    have hk : z_tg 5 8 [55, 32, 36, 40, 44] (x0) = some 32 := by
      rw [e5]
      rfl
    exact z_WR.blk (t215_32 h) (fun _ _ _ _ _ _ _ _ _ _ _ _ _ _ hm hl k => e215_0  (z_Ln.tab (t := 32) rfl hk (z_Ln.lv (z_le.cons rfl rfl (z_le.cons rfl rfl (z_le.cons rfl rfl z_le.nil))) k)))
  rw [if_neg e5] at h
  by_cases e6 : x0 = 6
  · rw [if_pos e6] at h
    have hk : z_tg 5 8 [55, 32, 36, 40, 44] (x0) = some 36 := by
      rw [e6]
      rfl
    exact z_WR.blk (t215_36 h) (fun _ _ _ _ _ _ _ _ _ _ _ _ _ _ hm hl k => e215_0  (z_Ln.tab (t := 36) rfl hk (z_Ln.lv (z_le.cons rfl rfl (z_le.cons rfl rfl (z_le.cons rfl rfl z_le.nil))) k)))
  rw [if_neg e6] at h
  by_cases e7 : x0 = 7
  · rw [if_pos e7] at h
    have hk : z_tg 5 8 [55, 32, 36, 40, 44] (x0) = some 40 := by
      rw [e7]
      rfl
    exact z_WR.blk (t215_40 h) (fun _ _ _ _ _ _ _ _ _ _ _ _ _ _ hm hl k => e215_0  (z_Ln.tab (t := 40) rfl hk (z_Ln.lv (z_le.cons rfl rfl (z_le.cons rfl rfl (z_le.cons rfl rfl z_le.nil))) k)))
  rw [if_neg e7] at h
  by_cases e8 : x0 = 8
  · rw [if_pos e8] at h
    have hk : z_tg 5 8 [55, 32, 36, 40, 44] (x0) = some 44 := by
      rw [e8]
      rfl
    exact z_WR.blk (t215_44 h) (fun _ _ _ _ _ _ _ _ _ _ _ _ _ _ hm hl k => e215_0  (z_Ln.tab (t := 44) rfl hk (z_Ln.lv (z_le.cons rfl rfl (z_le.cons rfl rfl (z_le.cons rfl rfl z_le.nil))) k)))
  rw [if_neg e8] at h
  have hd : z_tg 5 8 [55, 32, 36, 40, 44] (x0) = some 55 := by
    by_cases hr : (x0).toInt < 5 ∨ 8 < (x0).toInt
    · exact if_pos hr
    · have : (x0).toInt = 5 ∨ (x0).toInt = 6 ∨ (x0).toInt = 7 ∨ (x0).toInt = 8 := by omega
      rcases this with e | e | e | e
      · have q : x0 = 5 := Int32.toInt_inj.mp (by rw [e]; rfl)
        exact absurd q e5
      · have q : x0 = 6 := Int32.toInt_inj.mp (by rw [e]; rfl)
        exact absurd q e6
      · have q : x0 = 7 := Int32.toInt_inj.mp (by rw [e]; rfl)
        exact absurd q e7
      · have q : x0 = 8 := Int32.toInt_inj.mp (by rw [e]; rfl)
        exact absurd q e8
  exact z_WR.blk (t215_55 h) (fun _ _ _ _ _ _ _ _ _ _ _ _ _ _ hm hl k => e215_0  (z_Ln.tab (t := 55) rfl hd (z_Ln.lv (z_le.cons rfl rfl (z_le.cons rfl rfl (z_le.cons rfl rfl z_le.nil))) k)))
set_option maxRecDepth 10000 in
theorem e219_0t {L : Nat} {xs : Nat → Int32} {fv : Value} {f w : Nat} {c : Nat × Nat} {o : z_V} {T' : z_Y} {A : Nat → List (Nat × Int32)} {E : List (Nat × Option Nat)} {N : Nat → Nat} {V : Nat → Nat → Int32} {W : Nat} {g : List z_E} {B : Nat → List (Nat × Int32)} {M : Nat → List (Nat × Int64)} {U : Nat → Nat → Int32} {x0 : Int32}  (hb : x0 < 7) (kk : z_Ln L xs fv f w 219 10 [(0, .int x0)] [] (hC A E N V W ++ (hR B M U ++ g), c) o T') : z_Ln L xs fv f w 219 0 [(0, .int x0)] [] (hC A E N V W ++ (hR B M U ++ g), c) o T' := z_Ln.blk (pc' := (if decide (x0 < 7) = true then 10 else 6)) (lv' := [(0, .int x0)]) (st' := []) (H' := hC A E N V W ++ (hR B M U ++ g)) (C := []) 0 3 rfl trivial (z_Ln.brT (decide_eq_true hb) (kk))
set_option maxRecDepth 10000 in
theorem e219_0f {L : Nat} {xs : Nat → Int32} {fv : Value} {f w : Nat} {c : Nat × Nat} {o : z_V} {T' : z_Y} {A : Nat → List (Nat × Int32)} {E : List (Nat × Option Nat)} {N : Nat → Nat} {V : Nat → Nat → Int32} {W : Nat} {g : List z_E} {B : Nat → List (Nat × Int32)} {M : Nat → List (Nat × Int64)} {U : Nat → Nat → Int32} {x0 : Int32}  (hb : ¬ (x0 < 7)) (kk : z_Ln L xs fv f w 219 6 [(0, .int x0)] [] (hC A E N V W ++ (hR B M U ++ g), c) o T') : z_Ln L xs fv f w 219 0 [(0, .int x0)] [] (hC A E N V W ++ (hR B M U ++ g), c) o T' := z_Ln.blk (pc' := (if decide (x0 < 7) = true then 10 else 6)) (lv' := [(0, .int x0)]) (st' := []) (H' := hC A E N V W ++ (hR B M U ++ g)) (C := []) 0 3 rfl trivial (z_Ln.brF (decide_eq_false hb) (kk))
set_option maxRecDepth 10000 in
theorem e219_6 {L : Nat} {xs : Nat → Int32} {fv : Value} {f w : Nat} {c : Nat × Nat} {o : z_V} {T' : z_Y} {A : Nat → List (Nat × Int32)} {E : List (Nat × Option Nat)} {N : Nat → Nat} {V : Nat → Nat → Int32} {W : Nat} {g : List z_E} {B : Nat → List (Nat × Int32)} {M : Nat → List (Nat × Int64)} {U : Nat → Nat → Int32} {x0 : Int32}  (kk : z_Ln L xs fv f w 219 11 [(0, .int x0)] [.int 1] (hC A E N V W ++ (hR B M U ++ g), c) o T') : z_Ln L xs fv f w 219 6 [(0, .int x0)] [] (hC A E N V W ++ (hR B M U ++ g), c) o T' := z_Ln.blk (pc' := 11) (lv' := [(0, .int x0)]) (st' := [.int 1]) (H' := hC A E N V W ++ (hR B M U ++ g)) (C := []) 3 2 rfl trivial (kk)
set_option maxRecDepth 10000 in
theorem e219_10 {L : Nat} {xs : Nat → Int32} {fv : Value} {f w : Nat} {c : Nat × Nat} {o : z_V} {T' : z_Y} {A : Nat → List (Nat × Int32)} {E : List (Nat × Option Nat)} {N : Nat → Nat} {V : Nat → Nat → Int32} {W : Nat} {g : List z_E} {B : Nat → List (Nat × Int32)} {M : Nat → List (Nat × Int64)} {U : Nat → Nat → Int32} {x0 : Int32}  (kk : z_Ln L xs fv f w 219 11 [(0, .int x0)] [.int 0] (hC A E N V W ++ (hR B M U ++ g), c) o T') : z_Ln L xs fv f w 219 10 [(0, .int x0)] [] (hC A E N V W ++ (hR B M U ++ g), c) o T' := z_Ln.blk (pc' := 11) (lv' := [(0, .int x0)]) (st' := [.int 0]) (H' := hC A E N V W ++ (hR B M U ++ g)) (C := []) 5 1 rfl trivial (kk)
set_option maxRecDepth 10000 in
theorem e219_11 {L : Nat} {xs : Nat → Int32} {fv : Value} {f w : Nat} {c : Nat × Nat} {A : Nat → List (Nat × Int32)} {E : List (Nat × Option Nat)} {N : Nat → Nat} {V : Nat → Nat → Int32} {W : Nat} {g : List z_E} {B : Nat → List (Nat × Int32)} {M : Nat → List (Nat × Int64)} {U : Nat → Nat → Int32} {x0 : Int32} {y0 : Int32} (hq : y0 = 0 ∨ y0 = 1) : z_Ln L xs fv f w 219 11 [(0, .int x0)] [.int y0] (hC A E N V W ++ (hR B M U ++ g), c) (.inl (some (.int y0))) (hC A E N V W ++ (hR B M U ++ g), c) := z_Ln.ret rfl (z_retB hq)
def p219_11 (l : Nat) (B : Nat → List (Nat × Int32)) (M : Nat → List (Nat × Int64)) (U : Nat → Nat → Int32) (x0 : Int32) (y0 : Int32) (Q : Option Value → z_RS → Prop) : Prop := (y0 = 0 ∨ y0 = 1) ∧ Q (some (.int y0)) (B, M, U)
set_option maxRecDepth 10000 in
theorem t219_11 {l : Nat} {B : Nat → List (Nat × Int32)} {M : Nat → List (Nat × Int64)} {U : Nat → Nat → Int32} {x0 : Int32} {y0 : Int32} {Q : Option Value → z_RS → Prop} (h : p219_11 l B M U x0 y0 Q) : z_WR (l + 1) 219 11 [(0, .int x0)] [.int y0] (B, M, U) Q := by
  unfold p219_11 at h
  obtain ⟨hq, h⟩ := h
  exact ⟨(some (.int y0)), (B, M, U), fun _ _ _ _ _ _ _ _ _ _ _ _ hm hl => e219_11  hq, h⟩
def p219_10 (l : Nat) (B : Nat → List (Nat × Int32)) (M : Nat → List (Nat × Int64)) (U : Nat → Nat → Int32) (x0 : Int32) (Q : Option Value → z_RS → Prop) : Prop := p219_11 l B M U x0 0 Q
set_option maxRecDepth 10000 in
theorem t219_10 {l : Nat} {B : Nat → List (Nat × Int32)} {M : Nat → List (Nat × Int64)} {U : Nat → Nat → Int32} {x0 : Int32} {Q : Option Value → z_RS → Prop} (h : p219_10 l B M U x0 Q) : z_WR (l + 1) 219 10 [(0, .int x0)] [] (B, M, U) Q := by
  unfold p219_10 at h
  exact z_WR.blk (t219_11 h) (fun _ _ _ _ _ _ _ _ _ _ _ _ _ _ hm hl k => e219_10  k)
def p219_6 (l : Nat) (B : Nat → List (Nat × Int32)) (M : Nat → List (Nat × Int64)) (U : Nat → Nat → Int32) (x0 : Int32) (Q : Option Value → z_RS → Prop) : Prop := p219_11 l B M U x0 1 Q
set_option maxRecDepth 10000 in
theorem t219_6 {l : Nat} {B : Nat → List (Nat × Int32)} {M : Nat → List (Nat × Int64)} {U : Nat → Nat → Int32} {x0 : Int32} {Q : Option Value → z_RS → Prop} (h : p219_6 l B M U x0 Q) : z_WR (l + 1) 219 6 [(0, .int x0)] [] (B, M, U) Q := by
  unfold p219_6 at h
  exact z_WR.blk (t219_11 h) (fun _ _ _ _ _ _ _ _ _ _ _ _ _ _ hm hl k => e219_6  k)
def p219_0 (l : Nat) (B : Nat → List (Nat × Int32)) (M : Nat → List (Nat × Int64)) (U : Nat → Nat → Int32) (x0 : Int32) (Q : Option Value → z_RS → Prop) : Prop := (if x0 < 7 then p219_10 l B M U x0 Q else p219_6 l B M U x0 Q)
set_option maxRecDepth 10000 in
theorem t219_0 {l : Nat} {B : Nat → List (Nat × Int32)} {M : Nat → List (Nat × Int64)} {U : Nat → Nat → Int32} {x0 : Int32} {Q : Option Value → z_RS → Prop} (h : p219_0 l B M U x0 Q) : z_WR (l + 1) 219 0 [(0, .int x0)] [] (B, M, U) Q := by
  unfold p219_0 at h
  by_cases hb : x0 < 7
  · rw [if_pos hb] at h
    exact z_WR.blk (t219_10 h) (fun _ _ _ _ _ _ _ _ _ _ _ _ _ _ hm hl k => e219_0t  hb k)
  · rw [if_neg hb] at h
    exact z_WR.blk (t219_6 h) (fun _ _ _ _ _ _ _ _ _ _ _ _ _ _ hm hl k => e219_0f  hb k)
