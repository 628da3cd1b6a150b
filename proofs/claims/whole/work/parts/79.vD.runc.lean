/-! PRINTED BY A PROGRAM OF MINE: what the methods of the class that run ask. -/
set_option maxRecDepth 10000 in
theorem e13_0 {L : Nat} {xs : Nat → Int32} {fv : Value} {f w : Nat} {c : Nat × Nat} {A : Nat → List (Nat × Int32)} {E : List (Nat × Option Nat)} {N : Nat → Nat} {V : Nat → Nat → Int32} {W : Nat} {g : List z_E}  : z_Ln L xs fv f w 13 0 [(0, .ref 145)] [] (hC A E N V W ++ g, c) (.inl none) (hC A E N (z_v (z_v (z_v (z_v (z_v (z_v V 38 7 (0)) 38 8 (0)) 38 9 ((-1))) 38 10 (0)) 38 11 (0)) 38 12 (0)) W ++ g, c) := z_Ln.blk (pc' := 30) (lv' := [(0, .ref 145)]) (st' := []) (H' := hC A E N (z_v (z_v (z_v (z_v (z_v (z_v V 38 7 (0)) 38 8 (0)) 38 9 ((-1))) 38 10 (0)) 38 11 (0)) 38 12 (0)) W ++ g) (C := [z_fit (z_fty 8 7) (.int 0) = true, z_fit (z_fty 8 8) (.int 0) = true, z_fit (z_fty 8 9) (.int ((-1))) = true, z_fit (z_fty 8 10) (.int 0) = true, z_fit (z_fty 8 11) (.int 0) = true, z_fit (z_fty 8 12) (.int 0) = true]) 0 18 rfl ⟨z_fitI, z_fitI, z_fitI, z_fitI, z_fitI, z_fitI⟩ (z_Ln.ret rfl rfl)
def p13_0 (l : Nat) (A : Nat → List (Nat × Int32)) (E : List (Nat × Option Nat)) (N : Nat → Nat) (V : Nat → Nat → Int32) (W : Nat) (c : Nat × Nat)  (Q : z_V → z_CS → Prop) : Prop := Q (.inl (none)) (A, E, N, (z_v (z_v (z_v (z_v (z_v (z_v V 38 7 (0)) 38 8 (0)) 38 9 ((-1))) 38 10 (0)) 38 11 (0)) 38 12 (0)), W, c)
set_option maxRecDepth 10000 in
theorem t13_0 {l : Nat} {A : Nat → List (Nat × Int32)} {E : List (Nat × Option Nat)} {N : Nat → Nat} {V : Nat → Nat → Int32} {W : Nat} {c : Nat × Nat}  {Q : z_V → z_CS → Prop} (h : p13_0 l A E N V W c  Q) : z_WC (l + 1) 13 0 [(0, .ref 145)] [] (A, E, N, V, W, c) Q := by
  unfold p13_0 at h
  exact ⟨(.inl (none)), (A, E, N, (z_v (z_v (z_v (z_v (z_v (z_v V 38 7 (0)) 38 8 (0)) 38 9 ((-1))) 38 10 (0)) 38 11 (0)) 38 12 (0)), W, c), fun _ _ _ _ _ _ hg hl => e13_0 , h⟩
set_option maxRecDepth 10000 in
theorem e110_0 {L : Nat} {xs : Nat → Int32} {fv : Value} {f w : Nat} {c : Nat × Nat} {o : z_V} {T' : z_Y} {A : Nat → List (Nat × Int32)} {E : List (Nat × Option Nat)} {N : Nat → Nat} {V : Nat → Nat → Int32} {W : Nat} {g : List z_E} {x1 : Int32} {x2 : Int32}  (kk : z_Ln L xs fv f w 110 24 [(3, .int (V 38 5)), (0, .ref 145), (1, .int x1), (2, .int x2)] [.int ((V 38 5) + x2), .ref 147, .ref 145] (hC A E N (z_v V 38 5 ((V 38 5) + x2)) W ++ g, c) o T') : z_Ln L xs fv f w 110 0 [(0, .ref 145), (1, .int x1), (2, .int x2)] [] (hC A E N V W ++ g, c) o T' := z_Ln.blk (pc' := 24) (lv' := [(3, .int (V 38 5)), (0, .ref 145), (1, .int x1), (2, .int x2)]) (st' := [.int ((V 38 5) + x2), .ref 147, .ref 145]) (H' := hC A E N (z_v V 38 5 ((V 38 5) + x2)) W ++ g) (C := [z_fit (z_fty 8 5) (.int ((V 38 5) + x2)) = true]) 0 14 rfl z_fitI kk
set_option maxRecDepth 10000 in
theorem e110_30 {L : Nat} {xs : Nat → Int32} {fv : Value} {f w : Nat} {c : Nat × Nat} {A : Nat → List (Nat × Int32)} {E : List (Nat × Option Nat)} {N : Nat → Nat} {V : Nat → Nat → Int32} {W : Nat} {g : List z_E} {x1 : Int32} {x2 : Int32} {x3 : Int32} (h1 : z_in x3 (N 40) = true) : z_Ln L xs fv f w 110 30 [(0, .ref 145), (1, .int x1), (2, .int x2), (3, .int x3)] [] (hC A E N V W ++ g, c) (.inl (some (.int x3))) (hC (z_u A 40 ((x3.toNatClampNeg, x1) :: A 40)) E N V W ++ g, c) := z_Ln.blk (pc' := 38) (lv' := [(0, .ref 145), (1, .int x1), (2, .int x2), (3, .int x3)]) (st' := [.int x3]) (H' := hC (z_u A 40 ((x3.toNatClampNeg, x1) :: A 40)) E N V W ++ g) (C := [z_in x3 (N 40) = true]) 16 6 rfl h1 (z_Ln.ret rfl z_retI)
def p110_30 (l : Nat) (A : Nat → List (Nat × Int32)) (E : List (Nat × Option Nat)) (N : Nat → Nat) (V : Nat → Nat → Int32) (W : Nat) (c : Nat × Nat) (x1 : Int32) (x2 : Int32) (x3 : Int32) (Q : z_V → z_CS → Prop) : Prop := z_in x3 (N 40) = true ∧ Q (.inl (some (.int x3))) ((z_u A 40 ((x3.toNatClampNeg, x1) :: A 40)), E, N, V, W, c)
set_option maxRecDepth 10000 in
theorem t110_30 {l : Nat} {A : Nat → List (Nat × Int32)} {E : List (Nat × Option Nat)} {N : Nat → Nat} {V : Nat → Nat → Int32} {W : Nat} {c : Nat × Nat} {x1 : Int32} {x2 : Int32} {x3 : Int32} {Q : z_V → z_CS → Prop} (h : p110_30 l A E N V W c x1 x2 x3 Q) : z_WC (l + 1) 110 30 [(0, .ref 145), (1, .int x1), (2, .int x2), (3, .int x3)] [] (A, E, N, V, W, c) Q := by
  unfold p110_30 at h
  obtain ⟨h1, h⟩ := h
  exact ⟨(.inl (some (.int x3))), ((z_u A 40 ((x3.toNatClampNeg, x1) :: A 40)), E, N, V, W, c), fun _ _ _ _ _ _ hg hl => e110_30 h1, h⟩
def p110_0 (l : Nat) (A : Nat → List (Nat × Int32)) (E : List (Nat × Option Nat)) (N : Nat → Nat) (V : Nat → Nat → Int32) (W : Nat) (c : Nat × Nat) (x1 : Int32) (x2 : Int32) (Q : z_V → z_CS → Prop) : Prop := W < 107 ∧ z_Gr 40 ((V 38 5) + x2) A N c (fun A1 N1 c1 => p110_30 l A1 E N1 (z_v V 38 5 ((V 38 5) + x2)) W c1 x1 x2 (V 38 5) Q)
set_option maxRecDepth 10000 in
theorem t110_0 {l : Nat} {A : Nat → List (Nat × Int32)} {E : List (Nat × Option Nat)} {N : Nat → Nat} {V : Nat → Nat → Int32} {W : Nat} {c : Nat × Nat} {x1 : Int32} {x2 : Int32} {Q : z_V → z_CS → Prop} (h : p110_0 l A E N V W c x1 x2 Q) : z_WC (l + 1) 110 0 [(0, .ref 145), (1, .int x1), (2, .int x2)] [] (A, E, N, V, W, c) Q := by
  unfold p110_0 at h
  obtain ⟨h107, h⟩ := h
  rcases h with ⟨hn, hm, h⟩ | ⟨nl, hn, hm, h⟩
  · exact z_WC.blk (t110_30 h) (fun _ _ _ _ _ _ _ _ hg hl k => e110_0  (z_Ln.keep rfl rfl rfl (by decide) (by decide) rfl rfl rfl hn hm (by have := hl.1; omega) (by have := hl.2; omega) (by decide : (0 : Nat) ≤ 7) (z_Ln.lv (z_le.cons rfl rfl (z_le.cons rfl rfl (z_le.cons rfl rfl (z_le.cons rfl rfl z_le.nil)))) k)))
  · exact z_WC.blk (t110_30 h) (fun _ _ _ _ _ _ _ _ hg hl k => e110_0  (z_Ln.grow rfl rfl rfl (by decide) (by decide) rfl rfl rfl (z_one_40 h107 hg) (z_nov_i (z_nov_r (by decide) (z_nov_i (z_nov_i z_nov_nil)))) z_nov_nil hn hm (by have := hl.1; omega) (by have := hl.2; omega) (by decide : (0 : Nat) ≤ 7) (z_Ln.lv (z_le.cons rfl rfl (z_le.cons rfl rfl (z_le.cons rfl rfl (z_le.cons rfl rfl z_le.nil)))) k)))
set_option maxRecDepth 10000 in
theorem e111_0 {L : Nat} {xs : Nat → Int32} {fv : Value} {f w : Nat} {c : Nat × Nat} {o : z_V} {T' : z_Y} {A : Nat → List (Nat × Int32)} {E : List (Nat × Option Nat)} {N : Nat → Nat} {V : Nat → Nat → Int32} {W : Nat} {g : List z_E} {x1 : Int32} {x2 : Int32} {x3 : Int32} {x4 : Int32}  (kk : z_Ln L xs fv f w 111 14 [(0, .ref 145), (1, .int x1), (2, .int x2), (3, .int x3), (4, .int x4)] [.int (((V 38 2) + 4) + x4), .ref 146, .ref 145] (hC A E N V W ++ g, c) o T') : z_Ln L xs fv f w 111 0 [(0, .ref 145), (1, .int x1), (2, .int x2), (3, .int x3), (4, .int x4)] [] (hC A E N V W ++ g, c) o T' := z_Ln.blk (pc' := 14) (lv' := [(0, .ref 145), (1, .int x1), (2, .int x2), (3, .int x3), (4, .int x4)]) (st' := [.int (((V 38 2) + 4) + x4), .ref 146, .ref 145]) (H' := hC A E N V W ++ g) (C := []) 0 9 rfl trivial kk
set_option maxRecDepth 10000 in
theorem e111_20 {L : Nat} {xs : Nat → Int32} {fv : Value} {f w : Nat} {c : Nat × Nat} {A : Nat → List (Nat × Int32)} {E : List (Nat × Option Nat)} {N : Nat → Nat} {V : Nat → Nat → Int32} {W : Nat} {g : List z_E} {x1 : Int32} {x2 : Int32} {x3 : Int32} {x4 : Int32} (h1 : z_in ((V 38 2) + 0) (N 39) = true) (h2 : z_in ((V 38 2) + 1) (N 39) = true) (h3 : z_in ((V 38 2) + 2) (N 39) = true) (h4 : z_in ((V 38 2) + 3) (N 39) = true) : z_Ln L xs fv f w 111 20 [(0, .ref 145), (1, .int x1), (2, .int x2), (3, .int x3), (4, .int x4)] [] (hC A E N V W ++ g, c) (.inl none) (hC (z_u A 39 ((((V 38 2) + 3).toNatClampNeg, x3) :: (((V 38 2) + 2).toNatClampNeg, x2) :: (((V 38 2) + 1).toNatClampNeg, ((V 38 2) - (V 38 3))) :: (((V 38 2) + 0).toNatClampNeg, x1) :: A 39)) E N (z_v (z_v V 38 3 (V 38 2)) 38 2 ((V 38 2) + (4 + x4))) W ++ g, c) := z_Ln.blk (pc' := 97) (lv' := [(0, .ref 145), (1, .int x1), (2, .int x2), (3, .int x3), (4, .int x4)]) (st' := []) (H' := hC (z_u A 39 ((((V 38 2) + 3).toNatClampNeg, x3) :: (((V 38 2) + 2).toNatClampNeg, x2) :: (((V 38 2) + 1).toNatClampNeg, ((V 38 2) - (V 38 3))) :: (((V 38 2) + 0).toNatClampNeg, x1) :: A 39)) E N (z_v (z_v V 38 3 (V 38 2)) 38 2 ((V 38 2) + (4 + x4))) W ++ g) (C := [z_in ((V 38 2) + 0) (N 39) = true, z_in ((V 38 2) + 1) (N 39) = true, z_in ((V 38 2) + 2) (N 39) = true, z_in ((V 38 2) + 3) (N 39) = true, z_fit (z_fty 8 3) (.int (V 38 2)) = true, z_fit (z_fty 8 2) (.int ((V 38 2) + (4 + x4))) = true]) 11 48 rfl ⟨h1, h2, h3, h4, z_fitI, z_fitI⟩ (z_Ln.ret rfl rfl)
def p111_20 (l : Nat) (A : Nat → List (Nat × Int32)) (E : List (Nat × Option Nat)) (N : Nat → Nat) (V : Nat → Nat → Int32) (W : Nat) (c : Nat × Nat) (x1 : Int32) (x2 : Int32) (x3 : Int32) (x4 : Int32) (Q : z_V → z_CS → Prop) : Prop := z_in ((V 38 2) + 0) (N 39) = true ∧ z_in ((V 38 2) + 1) (N 39) = true ∧ z_in ((V 38 2) + 2) (N 39) = true ∧ z_in ((V 38 2) + 3) (N 39) = true ∧ Q (.inl (none)) ((z_u A 39 ((((V 38 2) + 3).toNatClampNeg, x3) :: (((V 38 2) + 2).toNatClampNeg, x2) :: (((V 38 2) + 1).toNatClampNeg, ((V 38 2) - (V 38 3))) :: (((V 38 2) + 0).toNatClampNeg, x1) :: A 39)), E, N, (z_v (z_v V 38 3 (V 38 2)) 38 2 ((V 38 2) + (4 + x4))), W, c)
set_option maxRecDepth 10000 in
theorem t111_20 {l : Nat} {A : Nat → List (Nat × Int32)} {E : List (Nat × Option Nat)} {N : Nat → Nat} {V : Nat → Nat → Int32} {W : Nat} {c : Nat × Nat} {x1 : Int32} {x2 : Int32} {x3 : Int32} {x4 : Int32} {Q : z_V → z_CS → Prop} (h : p111_20 l A E N V W c x1 x2 x3 x4 Q) : z_WC (l + 1) 111 20 [(0, .ref 145), (1, .int x1), (2, .int x2), (3, .int x3), (4, .int x4)] [] (A, E, N, V, W, c) Q := by
  unfold p111_20 at h
  obtain ⟨h1, h2, h3, h4, h⟩ := h
  exact ⟨(.inl (none)), ((z_u A 39 ((((V 38 2) + 3).toNatClampNeg, x3) :: (((V 38 2) + 2).toNatClampNeg, x2) :: (((V 38 2) + 1).toNatClampNeg, ((V 38 2) - (V 38 3))) :: (((V 38 2) + 0).toNatClampNeg, x1) :: A 39)), E, N, (z_v (z_v V 38 3 (V 38 2)) 38 2 ((V 38 2) + (4 + x4))), W, c), fun _ _ _ _ _ _ hg hl => e111_20 h1 h2 h3 h4, h⟩
def p111_0 (l : Nat) (A : Nat → List (Nat × Int32)) (E : List (Nat × Option Nat)) (N : Nat → Nat) (V : Nat → Nat → Int32) (W : Nat) (c : Nat × Nat) (x1 : Int32) (x2 : Int32) (x3 : Int32) (x4 : Int32) (Q : z_V → z_CS → Prop) : Prop := W < 107 ∧ z_Gr 39 (((V 38 2) + 4) + x4) A N c (fun A1 N1 c1 => p111_20 l A1 E N1 V W c1 x1 x2 x3 x4 Q)
set_option maxRecDepth 10000 in
theorem t111_0 {l : Nat} {A : Nat → List (Nat × Int32)} {E : List (Nat × Option Nat)} {N : Nat → Nat} {V : Nat → Nat → Int32} {W : Nat} {c : Nat × Nat} {x1 : Int32} {x2 : Int32} {x3 : Int32} {x4 : Int32} {Q : z_V → z_CS → Prop} (h : p111_0 l A E N V W c x1 x2 x3 x4 Q) : z_WC (l + 1) 111 0 [(0, .ref 145), (1, .int x1), (2, .int x2), (3, .int x3), (4, .int x4)] [] (A, E, N, V, W, c) Q := by
  unfold p111_0 at h
  obtain ⟨h107, h⟩ := h
  rcases h with ⟨hn, hm, h⟩ | ⟨nl, hn, hm, h⟩
  · exact z_WC.blk (t111_20 h) (fun _ _ _ _ _ _ _ _ hg hl k => e111_0  (z_Ln.keep rfl rfl rfl (by decide) (by decide) rfl rfl rfl hn hm (by have := hl.1; omega) (by have := hl.2; omega) (by decide : (0 : Nat) ≤ 7) (z_Ln.lv (z_le.cons rfl rfl (z_le.cons rfl rfl (z_le.cons rfl rfl (z_le.cons rfl rfl (z_le.cons rfl rfl z_le.nil))))) k)))
  · exact z_WC.blk (t111_20 h) (fun _ _ _ _ _ _ _ _ hg hl k => e111_0  (z_Ln.grow rfl rfl rfl (by decide) (by decide) rfl rfl rfl (z_one_39 h107 hg) (z_nov_r (by decide) (z_nov_i (z_nov_i (z_nov_i (z_nov_i z_nov_nil))))) z_nov_nil hn hm (by have := hl.1; omega) (by have := hl.2; omega) (by decide : (0 : Nat) ≤ 7) (z_Ln.lv (z_le.cons rfl rfl (z_le.cons rfl rfl (z_le.cons rfl rfl (z_le.cons rfl rfl (z_le.cons rfl rfl z_le.nil))))) k)))
set_option maxRecDepth 10000 in
theorem e109_0 {L : Nat} {xs : Nat → Int32} {fv : Value} {f w : Nat} {c : Nat × Nat} {o : z_V} {T' : z_Y} {A : Nat → List (Nat × Int32)} {E : List (Nat × Option Nat)} {N : Nat → Nat} {V : Nat → Nat → Int32} {W : Nat} {g : List z_E} {A1 : Nat → List (Nat × Int32)} {E1 : List (Nat × Option Nat)} {N1 : Nat → Nat} {V1 : Nat → Nat → Int32} {W1 : Nat} {g1 : List z_E} {c1 : Nat × Nat}   (hRm : z_Rm (hC A E N V W ++ g, c)) (hf : 1 ≤ f) (hw : 19 + z_pg.2.1 13 ≤ w) (hc : z_Ln L xs fv (f - 1) (w - (19 + z_pg.2.1 13)) 13 0 [(0, .ref 145)] [] (hC A E N V W ++ g, c) (.inl (none)) (hC A1 E1 N1 V1 W1 ++ g1, c1)) (kk : z_Ln L xs fv f w 109 4 [(0, .ref 145)] [] (hC A1 E1 N1 V1 W1 ++ g1, c1) o T') : z_Ln L xs fv f w 109 0 [(0, .ref 145)] [] (hC A E N V W ++ g, c) o T' := z_Ln.blk (pc' := 1) (lv' := [(0, .ref 145)]) (st' := [.ref 145]) (H' := hC A E N V W ++ g) (C := []) 0 1 rfl trivial (z_Ln.call (s := 0) (mj := 13) (as := [.ref 145]) (rr := []) (v := none) (T1 := (hC A1 E1 N1 V1 W1 ++ g1, c1)) rfl rfl ⟨⟨hf, hw⟩, (by decide : (0 : Nat) ≤ 8), (by decide +kernel : (1 : Nat) ≤ z_pg.2.1 13)⟩ hRm hc ⟨trivial, ⟨(z_sm0C 0 (by decide) rfl rfl), trivial⟩⟩ (kk))
set_option maxRecDepth 10000 in
theorem e109_0x {L : Nat} {xs : Nat → Int32} {fv : Value} {f w : Nat} {c : Nat × Nat} {T' : z_Y} {A : Nat → List (Nat × Int32)} {E : List (Nat × Option Nat)} {N : Nat → Nat} {V : Nat → Nat → Int32} {W : Nat} {g : List z_E}  (hRm : z_Rm (hC A E N V W ++ g, c)) (hf : 1 ≤ f) (hw : 19 + z_pg.2.1 13 ≤ w) (hc : z_Ln L xs fv (f - 1) (w - (19 + z_pg.2.1 13)) 13 0 [(0, .ref 145)] [] (hC A E N V W ++ g, c) (.inr 10) T') : z_Ln L xs fv f w 109 0 [(0, .ref 145)] [] (hC A E N V W ++ g, c) (.inr 10) T' := z_Ln.blk (pc' := 1) (lv' := [(0, .ref 145)]) (st' := [.ref 145]) (H' := hC A E N V W ++ g) (C := []) 0 1 rfl trivial (z_Ln.past (s := 0) (mj := 13) (as := [.ref 145]) (rr := []) rfl rfl ⟨⟨hf, hw⟩, (by decide : (0 : Nat) ≤ 8), (by decide +kernel : (1 : Nat) ≤ z_pg.2.1 13)⟩ hRm hc rfl)
set_option maxRecDepth 10000 in
theorem e109_4 {L : Nat} {xs : Nat → Int32} {fv : Value} {f w : Nat} {c : Nat × Nat} {o : z_V} {T' : z_Y} {A : Nat → List (Nat × Int32)} {E : List (Nat × Option Nat)} {N : Nat → Nat} {V : Nat → Nat → Int32} {W : Nat} {g : List z_E} {A1 : Nat → List (Nat × Int32)} {E1 : List (Nat × Option Nat)} {N1 : Nat → Nat} {V1 : Nat → Nat → Int32} {W1 : Nat} {g1 : List z_E} {c1 : Nat × Nat} {v : Int32}   (hRm : z_Rm (hC A E N (z_v (z_v (z_v (z_v (z_v V 38 7 (1)) 38 6 (0)) 38 2 (0)) 38 3 (0)) 38 5 (0)) W ++ g, c)) (hf : 1 ≤ f) (hw : 19 + z_pg.2.1 110 ≤ w) (hc : z_Ln L xs fv (f - 1) (w - (19 + z_pg.2.1 110)) 110 0 [(0, .ref 145), (1, .int ((V 13 6) - 1)), (2, .int 1)] [] (hC A E N (z_v (z_v (z_v (z_v (z_v V 38 7 (1)) 38 6 (0)) 38 2 (0)) 38 3 (0)) 38 5 (0)) W ++ g, c) (.inl (some (.int v))) (hC A1 E1 N1 V1 W1 ++ g1, c1)) (kk : z_Ln L xs fv f w 109 43 [(0, .ref 145)] [.int v] (hC A1 E1 N1 V1 W1 ++ g1, c1) o T') : z_Ln L xs fv f w 109 4 [(0, .ref 145)] [] (hC A E N V W ++ g, c) o T' := z_Ln.blk (pc' := 40) (lv' := [(0, .ref 145)]) (st' := [.int 1, .int ((V 13 6) - 1), .ref 145]) (H' := hC A E N (z_v (z_v (z_v (z_v (z_v V 38 7 (1)) 38 6 (0)) 38 2 (0)) 38 3 (0)) 38 5 (0)) W ++ g) (C := [z_fit (z_fty 8 7) (.int 1) = true, z_fit (z_fty 8 6) (.int 0) = true, z_fit (z_fty 8 2) (.int 0) = true, z_fit (z_fty 8 3) (.int 0) = true, z_fit (z_fty 8 5) (.int 0) = true]) 2 22 rfl ⟨z_fitI, z_fitI, z_fitI, z_fitI, z_fitI⟩ (z_Ln.call (s := 0) (mj := 110) (as := [.ref 145, .int ((V 13 6) - 1), .int 1]) (rr := []) (v := some (.int v)) (T1 := (hC A1 E1 N1 V1 W1 ++ g1, c1)) rfl rfl ⟨⟨hf, hw⟩, (by decide : (0 : Nat) ≤ 8), (by decide +kernel : (3 : Nat) ≤ z_pg.2.1 110)⟩ hRm hc ⟨trivial, ⟨(z_sm0C 0 (by decide) rfl rfl), trivial⟩⟩ (kk))
set_option maxRecDepth 10000 in
theorem e109_4x {L : Nat} {xs : Nat → Int32} {fv : Value} {f w : Nat} {c : Nat × Nat} {T' : z_Y} {A : Nat → List (Nat × Int32)} {E : List (Nat × Option Nat)} {N : Nat → Nat} {V : Nat → Nat → Int32} {W : Nat} {g : List z_E}  (hRm : z_Rm (hC A E N (z_v (z_v (z_v (z_v (z_v V 38 7 (1)) 38 6 (0)) 38 2 (0)) 38 3 (0)) 38 5 (0)) W ++ g, c)) (hf : 1 ≤ f) (hw : 19 + z_pg.2.1 110 ≤ w) (hc : z_Ln L xs fv (f - 1) (w - (19 + z_pg.2.1 110)) 110 0 [(0, .ref 145), (1, .int ((V 13 6) - 1)), (2, .int 1)] [] (hC A E N (z_v (z_v (z_v (z_v (z_v V 38 7 (1)) 38 6 (0)) 38 2 (0)) 38 3 (0)) 38 5 (0)) W ++ g, c) (.inr 10) T') : z_Ln L xs fv f w 109 4 [(0, .ref 145)] [] (hC A E N V W ++ g, c) (.inr 10) T' := z_Ln.blk (pc' := 40) (lv' := [(0, .ref 145)]) (st' := [.int 1, .int ((V 13 6) - 1), .ref 145]) (H' := hC A E N (z_v (z_v (z_v (z_v (z_v V 38 7 (1)) 38 6 (0)) 38 2 (0)) 38 3 (0)) 38 5 (0)) W ++ g) (C := [z_fit (z_fty 8 7) (.int 1) = true, z_fit (z_fty 8 6) (.int 0) = true, z_fit (z_fty 8 2) (.int 0) = true, z_fit (z_fty 8 3) (.int 0) = true, z_fit (z_fty 8 5) (.int 0) = true]) 2 22 rfl ⟨z_fitI, z_fitI, z_fitI, z_fitI, z_fitI⟩ (z_Ln.past (s := 0) (mj := 110) (as := [.ref 145, .int ((V 13 6) - 1), .int 1]) (rr := []) rfl rfl ⟨⟨hf, hw⟩, (by decide : (0 : Nat) ≤ 8), (by decide +kernel : (3 : Nat) ≤ z_pg.2.1 110)⟩ hRm hc rfl)
set_option maxRecDepth 10000 in
theorem e109_43 {L : Nat} {xs : Nat → Int32} {fv : Value} {f w : Nat} {c : Nat × Nat} {o : z_V} {T' : z_Y} {A : Nat → List (Nat × Int32)} {E : List (Nat × Option Nat)} {N : Nat → Nat} {V : Nat → Nat → Int32} {W : Nat} {g : List z_E} {y0 : Int32} {A1 : Nat → List (Nat × Int32)} {E1 : List (Nat × Option Nat)} {N1 : Nat → Nat} {V1 : Nat → Nat → Int32} {W1 : Nat} {g1 : List z_E} {c1 : Nat × Nat}   (hRm : z_Rm (hC A E N V W ++ g, c)) (hf : 1 ≤ f) (hw : 19 + z_pg.2.1 111 ≤ w) (hc : z_Ln L xs fv (f - 1) (w - (19 + z_pg.2.1 111)) 111 0 [(0, .ref 145), (1, .int 0), (2, .int y0), (3, .int ((-1))), (4, .int (V 13 10))] [] (hC A E N V W ++ g, c) (.inl (none)) (hC A1 E1 N1 V1 W1 ++ g1, c1)) (kk : z_Ln L xs fv f w 109 58 [(0, .ref 145), (1, .int y0)] [] (hC A1 E1 N1 V1 W1 ++ g1, c1) o T') : z_Ln L xs fv f w 109 43 [(0, .ref 145)] [.int y0] (hC A E N V W ++ g, c) o T' := z_Ln.blk (pc' := 55) (lv' := [(1, .int y0), (0, .ref 145)]) (st' := [.int (V 13 10), .int ((-1)), .int y0, .int 0, .ref 145]) (H' := hC A E N V W ++ g) (C := []) 25 8 rfl trivial (z_Ln.call (s := 0) (mj := 111) (as := [.ref 145, .int 0, .int y0, .int ((-1)), .int (V 13 10)]) (rr := []) (v := none) (T1 := (hC A1 E1 N1 V1 W1 ++ g1, c1)) rfl rfl ⟨⟨hf, hw⟩, (by decide : (0 : Nat) ≤ 8), (by decide +kernel : (5 : Nat) ≤ z_pg.2.1 111)⟩ hRm hc ⟨trivial, ⟨trivial, (z_sm0C 0 (by decide) rfl rfl), trivial⟩⟩ (z_Ln.lv (z_le.cons rfl rfl (z_le.cons rfl rfl z_le.nil)) kk))
set_option maxRecDepth 10000 in
theorem e109_43x {L : Nat} {xs : Nat → Int32} {fv : Value} {f w : Nat} {c : Nat × Nat} {T' : z_Y} {A : Nat → List (Nat × Int32)} {E : List (Nat × Option Nat)} {N : Nat → Nat} {V : Nat → Nat → Int32} {W : Nat} {g : List z_E} {y0 : Int32}  (hRm : z_Rm (hC A E N V W ++ g, c)) (hf : 1 ≤ f) (hw : 19 + z_pg.2.1 111 ≤ w) (hc : z_Ln L xs fv (f - 1) (w - (19 + z_pg.2.1 111)) 111 0 [(0, .ref 145), (1, .int 0), (2, .int y0), (3, .int ((-1))), (4, .int (V 13 10))] [] (hC A E N V W ++ g, c) (.inr 10) T') : z_Ln L xs fv f w 109 43 [(0, .ref 145)] [.int y0] (hC A E N V W ++ g, c) (.inr 10) T' := z_Ln.blk (pc' := 55) (lv' := [(1, .int y0), (0, .ref 145)]) (st' := [.int (V 13 10), .int ((-1)), .int y0, .int 0, .ref 145]) (H' := hC A E N V W ++ g) (C := []) 25 8 rfl trivial (z_Ln.past (s := 0) (mj := 111) (as := [.ref 145, .int 0, .int y0, .int ((-1)), .int (V 13 10)]) (rr := []) rfl rfl ⟨⟨hf, hw⟩, (by decide : (0 : Nat) ≤ 8), (by decide +kernel : (5 : Nat) ≤ z_pg.2.1 111)⟩ hRm hc rfl)
set_option maxRecDepth 10000 in
theorem e109_58 {L : Nat} {xs : Nat → Int32} {fv : Value} {f w : Nat} {c : Nat × Nat} {A : Nat → List (Nat × Int32)} {E : List (Nat × Option Nat)} {N : Nat → Nat} {V : Nat → Nat → Int32} {W : Nat} {g : List z_E} {x1 : Int32}  : z_Ln L xs fv f w 109 58 [(0, .ref 145), (1, .int x1)] [] (hC A E N V W ++ g, c) (.inl none) (hC A E N V W ++ g, c) := z_Ln.ret rfl rfl
def p109_58 (l : Nat) (A : Nat → List (Nat × Int32)) (E : List (Nat × Option Nat)) (N : Nat → Nat) (V : Nat → Nat → Int32) (W : Nat) (c : Nat × Nat) (x1 : Int32) (Q : z_V → z_CS → Prop) : Prop := Q (.inl (none)) (A, E, N, V, W, c)
set_option maxRecDepth 10000 in
theorem t109_58 {l : Nat} {A : Nat → List (Nat × Int32)} {E : List (Nat × Option Nat)} {N : Nat → Nat} {V : Nat → Nat → Int32} {W : Nat} {c : Nat × Nat} {x1 : Int32} {Q : z_V → z_CS → Prop} (h : p109_58 l A E N V W c x1 Q) : z_WC (l + 1) 109 58 [(0, .ref 145), (1, .int x1)] [] (A, E, N, V, W, c) Q := by
  unfold p109_58 at h
  exact ⟨(.inl (none)), (A, E, N, V, W, c), fun _ _ _ _ _ _ hg hl => e109_58 , h⟩
def p109_43 (l : Nat) (A : Nat → List (Nat × Int32)) (E : List (Nat × Option Nat)) (N : Nat → Nat) (V : Nat → Nat → Int32) (W : Nat) (c : Nat × Nat) (y0 : Int32) (Q : z_V → z_CS → Prop) : Prop := z_Rm ([], c) ∧ z_WC l 111 0 [(0, .ref 145), (1, .int 0), (2, .int y0), (3, .int ((-1))), (4, .int (V 13 10))] [] (A, E, N, V, W, c) (z_cx Q (fun x S1 => x = none ∧ p109_58 l S1.1 S1.2.1 S1.2.2.1 S1.2.2.2.1 S1.2.2.2.2.1 S1.2.2.2.2.2 y0 Q))
set_option maxRecDepth 10000 in
theorem t109_43 {l : Nat} {A : Nat → List (Nat × Int32)} {E : List (Nat × Option Nat)} {N : Nat → Nat} {V : Nat → Nat → Int32} {W : Nat} {c : Nat × Nat} {y0 : Int32} {Q : z_V → z_CS → Prop} (h : p109_43 l A E N V W c y0 Q) : z_WC (l + 1) 109 43 [(0, .ref 145)] [.int y0] (A, E, N, V, W, c) Q := by
  unfold p109_43 at h
  obtain ⟨hm, h⟩ := h
  obtain ⟨o, S1, hc, h⟩ := h
  cases o with
  | inl x =>
    obtain ⟨rfl, h⟩ := h
    obtain ⟨o2, S2, hk, hQ⟩ := t109_58 h
    exact ⟨o2, S2, fun L xs fv f w g hg hl => e109_43   hm hl.f1 (hl.w1 111 (by decide)) (hc L xs fv _ _ g hg (hl.dn 111 (by decide))) (hk L xs fv f w g hg hl), hQ⟩
  | inr e =>
    obtain ⟨rfl, h⟩ := h
    exact ⟨_, S1, fun L xs fv f w g hg hl => e109_43x  hm hl.f1 (hl.w1 111 (by decide)) (hc L xs fv _ _ g hg (hl.dn 111 (by decide))), h⟩
def p109_4 (l : Nat) (A : Nat → List (Nat × Int32)) (E : List (Nat × Option Nat)) (N : Nat → Nat) (V : Nat → Nat → Int32) (W : Nat) (c : Nat × Nat)  (Q : z_V → z_CS → Prop) : Prop := z_Rm ([], c) ∧ z_WC l 110 0 [(0, .ref 145), (1, .int ((V 13 6) - 1)), (2, .int 1)] [] (A, E, N, (z_v (z_v (z_v (z_v (z_v V 38 7 (1)) 38 6 (0)) 38 2 (0)) 38 3 (0)) 38 5 (0)), W, c) (z_cx Q (fun x S1 => ∃ v : Int32, x = some (.int v) ∧ p109_43 l S1.1 S1.2.1 S1.2.2.1 S1.2.2.2.1 S1.2.2.2.2.1 S1.2.2.2.2.2 v Q))
set_option maxRecDepth 10000 in
theorem t109_4 {l : Nat} {A : Nat → List (Nat × Int32)} {E : List (Nat × Option Nat)} {N : Nat → Nat} {V : Nat → Nat → Int32} {W : Nat} {c : Nat × Nat}  {Q : z_V → z_CS → Prop} (h : p109_4 l A E N V W c  Q) : z_WC (l + 1) 109 4 [(0, .ref 145)] [] (A, E, N, V, W, c) Q := by
  unfold p109_4 at h
  obtain ⟨hm, h⟩ := h
  obtain ⟨o, S1, hc, h⟩ := h
  cases o with
  | inl x =>
    obtain ⟨v, rfl, h⟩ := h
    obtain ⟨o2, S2, hk, hQ⟩ := t109_43 h
    exact ⟨o2, S2, fun L xs fv f w g hg hl => e109_4   hm hl.f1 (hl.w1 110 (by decide)) (hc L xs fv _ _ g hg (hl.dn 110 (by decide))) (hk L xs fv f w g hg hl), hQ⟩
  | inr e =>
    obtain ⟨rfl, h⟩ := h
    exact ⟨_, S1, fun L xs fv f w g hg hl => e109_4x  hm hl.f1 (hl.w1 110 (by decide)) (hc L xs fv _ _ g hg (hl.dn 110 (by decide))), h⟩
def p109_0 (l : Nat) (A : Nat → List (Nat × Int32)) (E : List (Nat × Option Nat)) (N : Nat → Nat) (V : Nat → Nat → Int32) (W : Nat) (c : Nat × Nat)  (Q : z_V → z_CS → Prop) : Prop := z_Rm ([], c) ∧ z_WC l 13 0 [(0, .ref 145)] [] (A, E, N, V, W, c) (z_cx Q (fun x S1 => x = none ∧ p109_4 l S1.1 S1.2.1 S1.2.2.1 S1.2.2.2.1 S1.2.2.2.2.1 S1.2.2.2.2.2  Q))
set_option maxRecDepth 10000 in
theorem t109_0 {l : Nat} {A : Nat → List (Nat × Int32)} {E : List (Nat × Option Nat)} {N : Nat → Nat} {V : Nat → Nat → Int32} {W : Nat} {c : Nat × Nat}  {Q : z_V → z_CS → Prop} (h : p109_0 l A E N V W c  Q) : z_WC (l + 1) 109 0 [(0, .ref 145)] [] (A, E, N, V, W, c) Q := by
  unfold p109_0 at h
  obtain ⟨hm, h⟩ := h
  obtain ⟨o, S1, hc, h⟩ := h
  cases o with
  | inl x =>
    obtain ⟨rfl, h⟩ := h
    obtain ⟨o2, S2, hk, hQ⟩ := t109_4 h
    exact ⟨o2, S2, fun L xs fv f w g hg hl => e109_0   hm hl.f1 (hl.w1 13 (by decide)) (hc L xs fv _ _ g hg (hl.dn 13 (by decide))) (hk L xs fv f w g hg hl), hQ⟩
  | inr e =>
    obtain ⟨rfl, h⟩ := h
    exact ⟨_, S1, fun L xs fv f w g hg hl => e109_0x  hm hl.f1 (hl.w1 13 (by decide)) (hc L xs fv _ _ g hg (hl.dn 13 (by decide))), h⟩
set_option maxRecDepth 10000 in
theorem e115_0t {L : Nat} {xs : Nat → Int32} {fv : Value} {f w : Nat} {c : Nat × Nat} {o : z_V} {T' : z_Y} {A : Nat → List (Nat × Int32)} {E : List (Nat × Option Nat)} {N : Nat → Nat} {V : Nat → Nat → Int32} {W : Nat} {g : List z_E} (h1 : z_in (V 38 6) (N 14) = true) (hb : (z_fn 0 (A 14) (V 38 6).toNatClampNeg) = 15) (kk : z_Ln L xs fv f w 115 34 [(0, .ref 145)] [] (hC A E N V W ++ g, c) o T') : z_Ln L xs fv f w 115 0 [(0, .ref 145)] [] (hC A E N V W ++ g, c) o T' := z_Ln.blk (pc' := (if decide ((z_fn 0 (A 14) (V 38 6).toNatClampNeg) = 15) = true then 34 else 17)) (lv' := [(0, .ref 145)]) (st' := []) (H' := hC A E N V W ++ g) (C := [z_in (V 38 6) (N 14) = true]) 0 8 rfl h1 (z_Ln.brT (decide_eq_true hb) (kk))
set_option maxRecDepth 10000 in
theorem e115_0f {L : Nat} {xs : Nat → Int32} {fv : Value} {f w : Nat} {c : Nat × Nat} {o : z_V} {T' : z_Y} {A : Nat → List (Nat × Int32)} {E : List (Nat × Option Nat)} {N : Nat → Nat} {V : Nat → Nat → Int32} {W : Nat} {g : List z_E} (h1 : z_in (V 38 6) (N 14) = true) (hb : ¬ ((z_fn 0 (A 14) (V 38 6).toNatClampNeg) = 15)) (kk : z_Ln L xs fv f w 115 17 [(0, .ref 145)] [] (hC A E N V W ++ g, c) o T') : z_Ln L xs fv f w 115 0 [(0, .ref 145)] [] (hC A E N V W ++ g, c) o T' := z_Ln.blk (pc' := (if decide ((z_fn 0 (A 14) (V 38 6).toNatClampNeg) = 15) = true then 34 else 17)) (lv' := [(0, .ref 145)]) (st' := []) (H' := hC A E N V W ++ g) (C := [z_in (V 38 6) (N 14) = true]) 0 8 rfl h1 (z_Ln.brF (decide_eq_false hb) (kk))
set_option maxRecDepth 10000 in
theorem e115_17t {L : Nat} {xs : Nat → Int32} {fv : Value} {f w : Nat} {c : Nat × Nat} {o : z_V} {T' : z_Y} {A : Nat → List (Nat × Int32)} {E : List (Nat × Option Nat)} {N : Nat → Nat} {V : Nat → Nat → Int32} {W : Nat} {g : List z_E} (h1 : z_in (V 38 6) (N 14) = true) (hb : ¬ (z_fn 0 (A 14) (V 38 6).toNatClampNeg) = 16) (kk : z_Ln L xs fv f w 115 38 [(0, .ref 145)] [] (hC A E N V W ++ g, c) o T') : z_Ln L xs fv f w 115 17 [(0, .ref 145)] [] (hC A E N V W ++ g, c) o T' := z_Ln.blk (pc' := (if decide (¬ (z_fn 0 (A 14) (V 38 6).toNatClampNeg) = 16) = true then 38 else 34)) (lv' := [(0, .ref 145)]) (st' := []) (H' := hC A E N V W ++ g) (C := [z_in (V 38 6) (N 14) = true]) 8 8 rfl h1 (z_Ln.brT (decide_eq_true hb) (kk))
set_option maxRecDepth 10000 in
theorem e115_17f {L : Nat} {xs : Nat → Int32} {fv : Value} {f w : Nat} {c : Nat × Nat} {o : z_V} {T' : z_Y} {A : Nat → List (Nat × Int32)} {E : List (Nat × Option Nat)} {N : Nat → Nat} {V : Nat → Nat → Int32} {W : Nat} {g : List z_E} (h1 : z_in (V 38 6) (N 14) = true) (hb : ¬ (¬ (z_fn 0 (A 14) (V 38 6).toNatClampNeg) = 16)) (kk : z_Ln L xs fv f w 115 34 [(0, .ref 145)] [] (hC A E N V W ++ g, c) o T') : z_Ln L xs fv f w 115 17 [(0, .ref 145)] [] (hC A E N V W ++ g, c) o T' := z_Ln.blk (pc' := (if decide (¬ (z_fn 0 (A 14) (V 38 6).toNatClampNeg) = 16) = true then 38 else 34)) (lv' := [(0, .ref 145)]) (st' := []) (H' := hC A E N V W ++ g) (C := [z_in (V 38 6) (N 14) = true]) 8 8 rfl h1 (z_Ln.brF (decide_eq_false hb) (kk))
set_option maxRecDepth 10000 in
theorem e115_34 {L : Nat} {xs : Nat → Int32} {fv : Value} {f w : Nat} {c : Nat × Nat} {o : z_V} {T' : z_Y} {A : Nat → List (Nat × Int32)} {E : List (Nat × Option Nat)} {N : Nat → Nat} {V : Nat → Nat → Int32} {W : Nat} {g : List z_E}  (kk : z_Ln L xs fv f w 115 39 [(0, .ref 145)] [.int 1] (hC A E N V W ++ g, c) o T') : z_Ln L xs fv f w 115 34 [(0, .ref 145)] [] (hC A E N V W ++ g, c) o T' := z_Ln.blk (pc' := 39) (lv' := [(0, .ref 145)]) (st' := [.int 1]) (H' := hC A E N V W ++ g) (C := []) 16 2 rfl trivial (kk)
set_option maxRecDepth 10000 in
theorem e115_38 {L : Nat} {xs : Nat → Int32} {fv : Value} {f w : Nat} {c : Nat × Nat} {o : z_V} {T' : z_Y} {A : Nat → List (Nat × Int32)} {E : List (Nat × Option Nat)} {N : Nat → Nat} {V : Nat → Nat → Int32} {W : Nat} {g : List z_E}  (kk : z_Ln L xs fv f w 115 39 [(0, .ref 145)] [.int 0] (hC A E N V W ++ g, c) o T') : z_Ln L xs fv f w 115 38 [(0, .ref 145)] [] (hC A E N V W ++ g, c) o T' := z_Ln.blk (pc' := 39) (lv' := [(0, .ref 145)]) (st' := [.int 0]) (H' := hC A E N V W ++ g) (C := []) 18 1 rfl trivial (kk)
set_option maxRecDepth 10000 in
theorem e115_39 {L : Nat} {xs : Nat → Int32} {fv : Value} {f w : Nat} {c : Nat × Nat} {A : Nat → List (Nat × Int32)} {E : List (Nat × Option Nat)} {N : Nat → Nat} {V : Nat → Nat → Int32} {W : Nat} {g : List z_E} {y0 : Int32} (hq : y0 = 0 ∨ y0 = 1) : z_Ln L xs fv f w 115 39 [(0, .ref 145)] [.int y0] (hC A E N V W ++ g, c) (.inl (some (.int y0))) (hC A E N V W ++ g, c) := z_Ln.ret rfl (z_retB hq)
def p115_39 (l : Nat) (A : Nat → List (Nat × Int32)) (E : List (Nat × Option Nat)) (N : Nat → Nat) (V : Nat → Nat → Int32) (W : Nat) (c : Nat × Nat) (y0 : Int32) (Q : z_V → z_CS → Prop) : Prop := (y0 = 0 ∨ y0 = 1) ∧ Q (.inl (some (.int y0))) (A, E, N, V, W, c)
set_option maxRecDepth 10000 in
theorem t115_39 {l : Nat} {A : Nat → List (Nat × Int32)} {E : List (Nat × Option Nat)} {N : Nat → Nat} {V : Nat → Nat → Int32} {W : Nat} {c : Nat × Nat} {y0 : Int32} {Q : z_V → z_CS → Prop} (h : p115_39 l A E N V W c y0 Q) : z_WC (l + 1) 115 39 [(0, .ref 145)] [.int y0] (A, E, N, V, W, c) Q := by
  unfold p115_39 at h
  obtain ⟨hq, h⟩ := h
  exact ⟨(.inl (some (.int y0))), (A, E, N, V, W, c), fun _ _ _ _ _ _ hg hl => e115_39  hq, h⟩
def p115_34 (l : Nat) (A : Nat → List (Nat × Int32)) (E : List (Nat × Option Nat)) (N : Nat → Nat) (V : Nat → Nat → Int32) (W : Nat) (c : Nat × Nat)  (Q : z_V → z_CS → Prop) : Prop := p115_39 l A E N V W c 1 Q
set_option maxRecDepth 10000 in
theorem t115_34 {l : Nat} {A : Nat → List (Nat × Int32)} {E : List (Nat × Option Nat)} {N : Nat → Nat} {V : Nat → Nat → Int32} {W : Nat} {c : Nat × Nat}  {Q : z_V → z_CS → Prop} (h : p115_34 l A E N V W c  Q) : z_WC (l + 1) 115 34 [(0, .ref 145)] [] (A, E, N, V, W, c) Q := by
  unfold p115_34 at h
  exact z_WC.blk (t115_39 h) (fun _ _ _ _ _ _ _ _ hg hl k => e115_34  k)
def p115_38 (l : Nat) (A : Nat → List (Nat × Int32)) (E : List (Nat × Option Nat)) (N : Nat → Nat) (V : Nat → Nat → Int32) (W : Nat) (c : Nat × Nat)  (Q : z_V → z_CS → Prop) : Prop := p115_39 l A E N V W c 0 Q
set_option maxRecDepth 10000 in
theorem t115_38 {l : Nat} {A : Nat → List (Nat × Int32)} {E : List (Nat × Option Nat)} {N : Nat → Nat} {V : Nat → Nat → Int32} {W : Nat} {c : Nat × Nat}  {Q : z_V → z_CS → Prop} (h : p115_38 l A E N V W c  Q) : z_WC (l + 1) 115 38 [(0, .ref 145)] [] (A, E, N, V, W, c) Q := by
  unfold p115_38 at h
  exact z_WC.blk (t115_39 h) (fun _ _ _ _ _ _ _ _ hg hl k => e115_38  k)
def p115_17 (l : Nat) (A : Nat → List (Nat × Int32)) (E : List (Nat × Option Nat)) (N : Nat → Nat) (V : Nat → Nat → Int32) (W : Nat) (c : Nat × Nat)  (Q : z_V → z_CS → Prop) : Prop := z_in (V 38 6) (N 14) = true ∧ (if (z_fn 0 (A 14) (V 38 6).toNatClampNeg) = 16 then p115_34 l A E N V W c  Q else p115_38 l A E N V W c  Q)
set_option maxRecDepth 10000 in
theorem t115_17 {l : Nat} {A : Nat → List (Nat × Int32)} {E : List (Nat × Option Nat)} {N : Nat → Nat} {V : Nat → Nat → Int32} {W : Nat} {c : Nat × Nat}  {Q : z_V → z_CS → Prop} (h : p115_17 l A E N V W c  Q) : z_WC (l + 1) 115 17 [(0, .ref 145)] [] (A, E, N, V, W, c) Q := by
  unfold p115_17 at h
  obtain ⟨h1, h⟩ := h
  by_cases hb : (z_fn 0 (A 14) (V 38 6).toNatClampNeg) = 16
  · rw [if_pos hb] at h
    exact z_WC.blk (t115_34 h) (fun _ _ _ _ _ _ _ _ hg hl k => e115_17f h1 (fun q => q hb) k)
  · rw [if_neg hb] at h
    exact z_WC.blk (t115_38 h) (fun _ _ _ _ _ _ _ _ hg hl k => e115_17t h1 hb k)
def p115_0 (l : Nat) (A : Nat → List (Nat × Int32)) (E : List (Nat × Option Nat)) (N : Nat → Nat) (V : Nat → Nat → Int32) (W : Nat) (c : Nat × Nat)  (Q : z_V → z_CS → Prop) : Prop := z_in (V 38 6) (N 14) = true ∧ (if (z_fn 0 (A 14) (V 38 6).toNatClampNeg) = 15 then p115_34 l A E N V W c  Q else p115_17 l A E N V W c  Q)
set_option maxRecDepth 10000 in
theorem t115_0 {l : Nat} {A : Nat → List (Nat × Int32)} {E : List (Nat × Option Nat)} {N : Nat → Nat} {V : Nat → Nat → Int32} {W : Nat} {c : Nat × Nat}  {Q : z_V → z_CS → Prop} (h : p115_0 l A E N V W c  Q) : z_WC (l + 1) 115 0 [(0, .ref 145)] [] (A, E, N, V, W, c) Q := by
  unfold p115_0 at h
  obtain ⟨h1, h⟩ := h
  by_cases hb : (z_fn 0 (A 14) (V 38 6).toNatClampNeg) = 15
  · rw [if_pos hb] at h
    exact z_WC.blk (t115_34 h) (fun _ _ _ _ _ _ _ _ hg hl k => e115_0t h1 hb k)
  · rw [if_neg hb] at h
    exact z_WC.blk (t115_17 h) (fun _ _ _ _ _ _ _ _ hg hl k => e115_0f h1 hb k)
set_option maxRecDepth 10000 in
theorem e117_0 {L : Nat} {xs : Nat → Int32} {fv : Value} {f w : Nat} {c : Nat × Nat} {o : z_V} {T' : z_Y} {A : Nat → List (Nat × Int32)} {E : List (Nat × Option Nat)} {N : Nat → Nat} {V : Nat → Nat → Int32} {W : Nat} {g : List z_E} {x1 : Int32}  (kk : z_Ln L xs fv f w 117 11 [(0, .ref 145), (1, .int x1)] [.int ((V 38 2) + 1), .ref 146, .ref 145] (hC A E N V W ++ g, c) o T') : z_Ln L xs fv f w 117 0 [(0, .ref 145), (1, .int x1)] [] (hC A E N V W ++ g, c) o T' := z_Ln.blk (pc' := 11) (lv' := [(0, .ref 145), (1, .int x1)]) (st' := [.int ((V 38 2) + 1), .ref 146, .ref 145]) (H' := hC A E N V W ++ g) (C := []) 0 7 rfl trivial kk
set_option maxRecDepth 10000 in
theorem e117_17 {L : Nat} {xs : Nat → Int32} {fv : Value} {f w : Nat} {c : Nat × Nat} {A : Nat → List (Nat × Int32)} {E : List (Nat × Option Nat)} {N : Nat → Nat} {V : Nat → Nat → Int32} {W : Nat} {g : List z_E} {x1 : Int32} (h1 : z_in (V 38 2) (N 39) = true) : z_Ln L xs fv f w 117 17 [(0, .ref 145), (1, .int x1)] [] (hC A E N V W ++ g, c) (.inl none) (hC (z_u A 39 (((V 38 2).toNatClampNeg, x1) :: A 39)) E N (z_v V 38 2 ((V 38 2) + 1)) W ++ g, c) := z_Ln.blk (pc' := 37) (lv' := [(0, .ref 145), (1, .int x1)]) (st' := []) (H' := hC (z_u A 39 (((V 38 2).toNatClampNeg, x1) :: A 39)) E N (z_v V 38 2 ((V 38 2) + 1)) W ++ g) (C := [z_in (V 38 2) (N 39) = true, z_fit (z_fty 8 2) (.int ((V 38 2) + 1)) = true]) 9 12 rfl ⟨h1, z_fitI⟩ (z_Ln.ret rfl rfl)
def p117_17 (l : Nat) (A : Nat → List (Nat × Int32)) (E : List (Nat × Option Nat)) (N : Nat → Nat) (V : Nat → Nat → Int32) (W : Nat) (c : Nat × Nat) (x1 : Int32) (Q : z_V → z_CS → Prop) : Prop := z_in (V 38 2) (N 39) = true ∧ Q (.inl (none)) ((z_u A 39 (((V 38 2).toNatClampNeg, x1) :: A 39)), E, N, (z_v V 38 2 ((V 38 2) + 1)), W, c)
set_option maxRecDepth 10000 in
theorem t117_17 {l : Nat} {A : Nat → List (Nat × Int32)} {E : List (Nat × Option Nat)} {N : Nat → Nat} {V : Nat → Nat → Int32} {W : Nat} {c : Nat × Nat} {x1 : Int32} {Q : z_V → z_CS → Prop} (h : p117_17 l A E N V W c x1 Q) : z_WC (l + 1) 117 17 [(0, .ref 145), (1, .int x1)] [] (A, E, N, V, W, c) Q := by
  unfold p117_17 at h
  obtain ⟨h1, h⟩ := h
  exact ⟨(.inl (none)), ((z_u A 39 (((V 38 2).toNatClampNeg, x1) :: A 39)), E, N, (z_v V 38 2 ((V 38 2) + 1)), W, c), fun _ _ _ _ _ _ hg hl => e117_17 h1, h⟩
def p117_0 (l : Nat) (A : Nat → List (Nat × Int32)) (E : List (Nat × Option Nat)) (N : Nat → Nat) (V : Nat → Nat → Int32) (W : Nat) (c : Nat × Nat) (x1 : Int32) (Q : z_V → z_CS → Prop) : Prop := W < 107 ∧ z_Gr 39 ((V 38 2) + 1) A N c (fun A1 N1 c1 => p117_17 l A1 E N1 V W c1 x1 Q)
set_option maxRecDepth 10000 in
theorem t117_0 {l : Nat} {A : Nat → List (Nat × Int32)} {E : List (Nat × Option Nat)} {N : Nat → Nat} {V : Nat → Nat → Int32} {W : Nat} {c : Nat × Nat} {x1 : Int32} {Q : z_V → z_CS → Prop} (h : p117_0 l A E N V W c x1 Q) : z_WC (l + 1) 117 0 [(0, .ref 145), (1, .int x1)] [] (A, E, N, V, W, c) Q := by
  unfold p117_0 at h
  obtain ⟨h107, h⟩ := h
  rcases h with ⟨hn, hm, h⟩ | ⟨nl, hn, hm, h⟩
  · exact z_WC.blk (t117_17 h) (fun _ _ _ _ _ _ _ _ hg hl k => e117_0  (z_Ln.keep rfl rfl rfl (by decide) (by decide) rfl rfl rfl hn hm (by have := hl.1; omega) (by have := hl.2; omega) (by decide : (0 : Nat) ≤ 7) (z_Ln.lv (z_le.cons rfl rfl (z_le.cons rfl rfl z_le.nil)) k)))
  · exact z_WC.blk (t117_17 h) (fun _ _ _ _ _ _ _ _ hg hl k => e117_0  (z_Ln.grow rfl rfl rfl (by decide) (by decide) rfl rfl rfl (z_one_39 h107 hg) (z_nov_r (by decide) (z_nov_i z_nov_nil)) z_nov_nil hn hm (by have := hl.1; omega) (by have := hl.2; omega) (by decide : (0 : Nat) ≤ 7) (z_Ln.lv (z_le.cons rfl rfl (z_le.cons rfl rfl z_le.nil)) k)))
set_option maxRecDepth 10000 in
theorem e118_0 {L : Nat} {xs : Nat → Int32} {fv : Value} {f w : Nat} {c : Nat × Nat} {A : Nat → List (Nat × Int32)} {E : List (Nat × Option Nat)} {N : Nat → Nat} {V : Nat → Nat → Int32} {W : Nat} {g : List z_E} (h1 : z_in ((V 38 2) - 1) (N 39) = true) : z_Ln L xs fv f w 118 0 [(0, .ref 145)] [] (hC A E N V W ++ g, c) (.inl (some (.int (z_fn 0 (A 39) ((V 38 2) - 1).toNatClampNeg)))) (hC A E N (z_v V 38 2 ((V 38 2) - 1)) W ++ g, c) := z_Ln.blk (pc' := 19) (lv' := [(0, .ref 145)]) (st' := [.int (z_fn 0 (A 39) ((V 38 2) - 1).toNatClampNeg)]) (H' := hC A E N (z_v V 38 2 ((V 38 2) - 1)) W ++ g) (C := [z_fit (z_fty 8 2) (.int ((V 38 2) - 1)) = true, z_in ((V 38 2) - 1) (N 39) = true]) 0 11 rfl ⟨z_fitI, h1⟩ (z_Ln.ret rfl z_retI)
def p118_0 (l : Nat) (A : Nat → List (Nat × Int32)) (E : List (Nat × Option Nat)) (N : Nat → Nat) (V : Nat → Nat → Int32) (W : Nat) (c : Nat × Nat)  (Q : z_V → z_CS → Prop) : Prop := z_in ((V 38 2) - 1) (N 39) = true ∧ Q (.inl (some (.int (z_fn 0 (A 39) ((V 38 2) - 1).toNatClampNeg)))) (A, E, N, (z_v V 38 2 ((V 38 2) - 1)), W, c)
set_option maxRecDepth 10000 in
theorem t118_0 {l : Nat} {A : Nat → List (Nat × Int32)} {E : List (Nat × Option Nat)} {N : Nat → Nat} {V : Nat → Nat → Int32} {W : Nat} {c : Nat × Nat}  {Q : z_V → z_CS → Prop} (h : p118_0 l A E N V W c  Q) : z_WC (l + 1) 118 0 [(0, .ref 145)] [] (A, E, N, V, W, c) Q := by
  unfold p118_0 at h
  obtain ⟨h1, h⟩ := h
  exact ⟨(.inl (some (.int (z_fn 0 (A 39) ((V 38 2) - 1).toNatClampNeg)))), (A, E, N, (z_v V 38 2 ((V 38 2) - 1)), W, c), fun _ _ _ _ _ _ hg hl => e118_0 h1, h⟩
set_option maxRecDepth 10000 in
theorem e119_0 {L : Nat} {xs : Nat → Int32} {fv : Value} {f w : Nat} {c : Nat × Nat} {o : z_V} {T' : z_Y} {A : Nat → List (Nat × Int32)} {E : List (Nat × Option Nat)} {N : Nat → Nat} {V : Nat → Nat → Int32} {W : Nat} {g : List z_E} {x1 : Int32} {A1 : Nat → List (Nat × Int32)} {E1 : List (Nat × Option Nat)} {N1 : Nat → Nat} {V1 : Nat → Nat → Int32} {W1 : Nat} {g1 : List z_E} {c1 : Nat × Nat} {v : Int32}   (hRm : z_Rm (hC A E N V W ++ g, c)) (hf : 1 ≤ f) (hw : 19 + z_pg.2.1 118 ≤ w) (hc : z_Ln L xs fv (f - 1) (w - (19 + z_pg.2.1 118)) 118 0 [(0, .ref 145)] [] (hC A E N V W ++ g, c) (.inl (some (.int v))) (hC A1 E1 N1 V1 W1 ++ g1, c1)) (kk : z_Ln L xs fv f w 119 4 [(0, .ref 145), (1, .int x1)] [.int v] (hC A1 E1 N1 V1 W1 ++ g1, c1) o T') : z_Ln L xs fv f w 119 0 [(0, .ref 145), (1, .int x1)] [] (hC A E N V W ++ g, c) o T' := z_Ln.blk (pc' := 1) (lv' := [(0, .ref 145), (1, .int x1)]) (st' := [.ref 145]) (H' := hC A E N V W ++ g) (C := []) 0 1 rfl trivial (z_Ln.call (s := 0) (mj := 118) (as := [.ref 145]) (rr := []) (v := some (.int v)) (T1 := (hC A1 E1 N1 V1 W1 ++ g1, c1)) rfl rfl ⟨⟨hf, hw⟩, (by decide : (0 : Nat) ≤ 8), (by decide +kernel : (1 : Nat) ≤ z_pg.2.1 118)⟩ hRm hc ⟨trivial, ⟨(z_sm0C 0 (by decide) rfl rfl), trivial, trivial⟩⟩ (kk))
set_option maxRecDepth 10000 in
theorem e119_0x {L : Nat} {xs : Nat → Int32} {fv : Value} {f w : Nat} {c : Nat × Nat} {T' : z_Y} {A : Nat → List (Nat × Int32)} {E : List (Nat × Option Nat)} {N : Nat → Nat} {V : Nat → Nat → Int32} {W : Nat} {g : List z_E} {x1 : Int32}  (hRm : z_Rm (hC A E N V W ++ g, c)) (hf : 1 ≤ f) (hw : 19 + z_pg.2.1 118 ≤ w) (hc : z_Ln L xs fv (f - 1) (w - (19 + z_pg.2.1 118)) 118 0 [(0, .ref 145)] [] (hC A E N V W ++ g, c) (.inr 10) T') : z_Ln L xs fv f w 119 0 [(0, .ref 145), (1, .int x1)] [] (hC A E N V W ++ g, c) (.inr 10) T' := z_Ln.blk (pc' := 1) (lv' := [(0, .ref 145), (1, .int x1)]) (st' := [.ref 145]) (H' := hC A E N V W ++ g) (C := []) 0 1 rfl trivial (z_Ln.past (s := 0) (mj := 118) (as := [.ref 145]) (rr := []) rfl rfl ⟨⟨hf, hw⟩, (by decide : (0 : Nat) ≤ 8), (by decide +kernel : (1 : Nat) ≤ z_pg.2.1 118)⟩ hRm hc rfl)
set_option maxRecDepth 10000 in
theorem e119_4 {L : Nat} {xs : Nat → Int32} {fv : Value} {f w : Nat} {c : Nat × Nat} {o : z_V} {T' : z_Y} {A : Nat → List (Nat × Int32)} {E : List (Nat × Option Nat)} {N : Nat → Nat} {V : Nat → Nat → Int32} {W : Nat} {g : List z_E} {x1 : Int32} {y0 : Int32} {A1 : Nat → List (Nat × Int32)} {E1 : List (Nat × Option Nat)} {N1 : Nat → Nat} {V1 : Nat → Nat → Int32} {W1 : Nat} {g1 : List z_E} {c1 : Nat × Nat} {v : Int32}   (hRm : z_Rm (hC A E N V W ++ g, c)) (hf : 1 ≤ f) (hw : 19 + z_pg.2.1 118 ≤ w) (hc : z_Ln L xs fv (f - 1) (w - (19 + z_pg.2.1 118)) 118 0 [(0, .ref 145)] [] (hC A E N V W ++ g, c) (.inl (some (.int v))) (hC A1 E1 N1 V1 W1 ++ g1, c1)) (kk : z_Ln L xs fv f w 119 9 [(0, .ref 145), (1, .int x1), (2, .int y0)] [.int v] (hC A1 E1 N1 V1 W1 ++ g1, c1) o T') : z_Ln L xs fv f w 119 4 [(0, .ref 145), (1, .int x1)] [.int y0] (hC A E N V W ++ g, c) o T' := z_Ln.blk (pc' := 6) (lv' := [(2, .int y0), (0, .ref 145), (1, .int x1)]) (st' := [.ref 145]) (H' := hC A E N V W ++ g) (C := []) 2 2 rfl trivial (z_Ln.call (s := 0) (mj := 118) (as := [.ref 145]) (rr := []) (v := some (.int v)) (T1 := (hC A1 E1 N1 V1 W1 ++ g1, c1)) rfl rfl ⟨⟨hf, hw⟩, (by decide : (0 : Nat) ≤ 8), (by decide +kernel : (1 : Nat) ≤ z_pg.2.1 118)⟩ hRm hc ⟨trivial, ⟨trivial, (z_sm0C 0 (by decide) rfl rfl), trivial, trivial⟩⟩ (z_Ln.lv (z_le.cons rfl rfl (z_le.cons rfl rfl (z_le.cons rfl rfl z_le.nil))) kk))
set_option maxRecDepth 10000 in
theorem e119_4x {L : Nat} {xs : Nat → Int32} {fv : Value} {f w : Nat} {c : Nat × Nat} {T' : z_Y} {A : Nat → List (Nat × Int32)} {E : List (Nat × Option Nat)} {N : Nat → Nat} {V : Nat → Nat → Int32} {W : Nat} {g : List z_E} {x1 : Int32} {y0 : Int32}  (hRm : z_Rm (hC A E N V W ++ g, c)) (hf : 1 ≤ f) (hw : 19 + z_pg.2.1 118 ≤ w) (hc : z_Ln L xs fv (f - 1) (w - (19 + z_pg.2.1 118)) 118 0 [(0, .ref 145)] [] (hC A E N V W ++ g, c) (.inr 10) T') : z_Ln L xs fv f w 119 4 [(0, .ref 145), (1, .int x1)] [.int y0] (hC A E N V W ++ g, c) (.inr 10) T' := z_Ln.blk (pc' := 6) (lv' := [(2, .int y0), (0, .ref 145), (1, .int x1)]) (st' := [.ref 145]) (H' := hC A E N V W ++ g) (C := []) 2 2 rfl trivial (z_Ln.past (s := 0) (mj := 118) (as := [.ref 145]) (rr := []) rfl rfl ⟨⟨hf, hw⟩, (by decide : (0 : Nat) ≤ 8), (by decide +kernel : (1 : Nat) ≤ z_pg.2.1 118)⟩ hRm hc rfl)
set_option maxRecDepth 10000 in
theorem e119_9 {L : Nat} {xs : Nat → Int32} {fv : Value} {f w : Nat} {c : Nat × Nat} {o : z_V} {T' : z_Y} {A : Nat → List (Nat × Int32)} {E : List (Nat × Option Nat)} {N : Nat → Nat} {V : Nat → Nat → Int32} {W : Nat} {g : List z_E} {x1 : Int32} {x2 : Int32} {y0 : Int32}  (kk : z_Ln L xs fv f w 119 11 [(3, .int y0), (0, .ref 145), (1, .int x1), (2, .int x2)] [.int x1] (hC A E N V W ++ g, c) o T') : z_Ln L xs fv f w 119 9 [(0, .ref 145), (1, .int x1), (2, .int x2)] [.int y0] (hC A E N V W ++ g, c) o T' := z_Ln.blk (pc' := 11) (lv' := [(3, .int y0), (0, .ref 145), (1, .int x1), (2, .int x2)]) (st' := [.int x1]) (H' := hC A E N V W ++ g) (C := []) 5 2 rfl trivial kk
set_option maxRecDepth 10000 in
theorem e119_40 {L : Nat} {xs : Nat → Int32} {fv : Value} {f w : Nat} {c : Nat × Nat} {o : z_V} {T' : z_Y} {A : Nat → List (Nat × Int32)} {E : List (Nat × Option Nat)} {N : Nat → Nat} {V : Nat → Nat → Int32} {W : Nat} {g : List z_E} {x1 : Int32} {x2 : Int32} {x3 : Int32} {A1 : Nat → List (Nat × Int32)} {E1 : List (Nat × Option Nat)} {N1 : Nat → Nat} {V1 : Nat → Nat → Int32} {W1 : Nat} {g1 : List z_E} {c1 : Nat × Nat}   (hRm : z_Rm (hC A E N V W ++ g, c)) (hf : 1 ≤ f) (hw : 19 + z_pg.2.1 117 ≤ w) (hc : z_Ln L xs fv (f - 1) (w - (19 + z_pg.2.1 117)) 117 0 [(0, .ref 145), (1, .int (x3 + x2))] [] (hC A E N V W ++ g, c) (.inl (none)) (hC A1 E1 N1 V1 W1 ++ g1, c1)) (kk : z_Ln L xs fv f w 119 47 [(0, .ref 145), (1, .int x1), (2, .int x2), (3, .int x3)] [] (hC A1 E1 N1 V1 W1 ++ g1, c1) o T') : z_Ln L xs fv f w 119 40 [(0, .ref 145), (1, .int x1), (2, .int x2), (3, .int x3)] [] (hC A E N V W ++ g, c) o T' := z_Ln.blk (pc' := 44) (lv' := [(0, .ref 145), (1, .int x1), (2, .int x2), (3, .int x3)]) (st' := [.int (x3 + x2), .ref 145]) (H' := hC A E N V W ++ g) (C := []) 8 4 rfl trivial (z_Ln.call (s := 0) (mj := 117) (as := [.ref 145, .int (x3 + x2)]) (rr := []) (v := none) (T1 := (hC A1 E1 N1 V1 W1 ++ g1, c1)) rfl rfl ⟨⟨hf, hw⟩, (by decide : (0 : Nat) ≤ 8), (by decide +kernel : (2 : Nat) ≤ z_pg.2.1 117)⟩ hRm hc ⟨trivial, ⟨(z_sm0C 0 (by decide) rfl rfl), trivial, trivial, trivial, trivial⟩⟩ (kk))
set_option maxRecDepth 10000 in
theorem e119_40x {L : Nat} {xs : Nat → Int32} {fv : Value} {f w : Nat} {c : Nat × Nat} {T' : z_Y} {A : Nat → List (Nat × Int32)} {E : List (Nat × Option Nat)} {N : Nat → Nat} {V : Nat → Nat → Int32} {W : Nat} {g : List z_E} {x1 : Int32} {x2 : Int32} {x3 : Int32}  (hRm : z_Rm (hC A E N V W ++ g, c)) (hf : 1 ≤ f) (hw : 19 + z_pg.2.1 117 ≤ w) (hc : z_Ln L xs fv (f - 1) (w - (19 + z_pg.2.1 117)) 117 0 [(0, .ref 145), (1, .int (x3 + x2))] [] (hC A E N V W ++ g, c) (.inr 10) T') : z_Ln L xs fv f w 119 40 [(0, .ref 145), (1, .int x1), (2, .int x2), (3, .int x3)] [] (hC A E N V W ++ g, c) (.inr 10) T' := z_Ln.blk (pc' := 44) (lv' := [(0, .ref 145), (1, .int x1), (2, .int x2), (3, .int x3)]) (st' := [.int (x3 + x2), .ref 145]) (H' := hC A E N V W ++ g) (C := []) 8 4 rfl trivial (z_Ln.past (s := 0) (mj := 117) (as := [.ref 145, .int (x3 + x2)]) (rr := []) rfl rfl ⟨⟨hf, hw⟩, (by decide : (0 : Nat) ≤ 8), (by decide +kernel : (2 : Nat) ≤ z_pg.2.1 117)⟩ hRm hc rfl)
set_option maxRecDepth 10000 in
theorem e119_47 {L : Nat} {xs : Nat → Int32} {fv : Value} {f w : Nat} {c : Nat × Nat} {o : z_V} {T' : z_Y} {A : Nat → List (Nat × Int32)} {E : List (Nat × Option Nat)} {N : Nat → Nat} {V : Nat → Nat → Int32} {W : Nat} {g : List z_E} {x1 : Int32} {x2 : Int32} {x3 : Int32}  (kk : z_Ln L xs fv f w 119 101 [(0, .ref 145), (1, .int x1), (2, .int x2), (3, .int x3)] [] (hC A E N V W ++ g, c) o T') : z_Ln L xs fv f w 119 47 [(0, .ref 145), (1, .int x1), (2, .int x2), (3, .int x3)] [] (hC A E N V W ++ g, c) o T' := z_Ln.blk (pc' := 101) (lv' := [(0, .ref 145), (1, .int x1), (2, .int x2), (3, .int x3)]) (st' := []) (H' := hC A E N V W ++ g) (C := []) 13 1 rfl trivial (kk)
set_option maxRecDepth 10000 in
theorem e119_50 {L : Nat} {xs : Nat → Int32} {fv : Value} {f w : Nat} {c : Nat × Nat} {o : z_V} {T' : z_Y} {A : Nat → List (Nat × Int32)} {E : List (Nat × Option Nat)} {N : Nat → Nat} {V : Nat → Nat → Int32} {W : Nat} {g : List z_E} {x1 : Int32} {x2 : Int32} {x3 : Int32} {A1 : Nat → List (Nat × Int32)} {E1 : List (Nat × Option Nat)} {N1 : Nat → Nat} {V1 : Nat → Nat → Int32} {W1 : Nat} {g1 : List z_E} {c1 : Nat × Nat}   (hRm : z_Rm (hC A E N V W ++ g, c)) (hf : 1 ≤ f) (hw : 19 + z_pg.2.1 117 ≤ w) (hc : z_Ln L xs fv (f - 1) (w - (19 + z_pg.2.1 117)) 117 0 [(0, .ref 145), (1, .int (x3 - x2))] [] (hC A E N V W ++ g, c) (.inl (none)) (hC A1 E1 N1 V1 W1 ++ g1, c1)) (kk : z_Ln L xs fv f w 119 57 [(0, .ref 145), (1, .int x1), (2, .int x2), (3, .int x3)] [] (hC A1 E1 N1 V1 W1 ++ g1, c1) o T') : z_Ln L xs fv f w 119 50 [(0, .ref 145), (1, .int x1), (2, .int x2), (3, .int x3)] [] (hC A E N V W ++ g, c) o T' := z_Ln.blk (pc' := 54) (lv' := [(0, .ref 145), (1, .int x1), (2, .int x2), (3, .int x3)]) (st' := [.int (x3 - x2), .ref 145]) (H' := hC A E N V W ++ g) (C := []) 14 4 rfl trivial (z_Ln.call (s := 0) (mj := 117) (as := [.ref 145, .int (x3 - x2)]) (rr := []) (v := none) (T1 := (hC A1 E1 N1 V1 W1 ++ g1, c1)) rfl rfl ⟨⟨hf, hw⟩, (by decide : (0 : Nat) ≤ 8), (by decide +kernel : (2 : Nat) ≤ z_pg.2.1 117)⟩ hRm hc ⟨trivial, ⟨(z_sm0C 0 (by decide) rfl rfl), trivial, trivial, trivial, trivial⟩⟩ (kk))
set_option maxRecDepth 10000 in
theorem e119_50x {L : Nat} {xs : Nat → Int32} {fv : Value} {f w : Nat} {c : Nat × Nat} {T' : z_Y} {A : Nat → List (Nat × Int32)} {E : List (Nat × Option Nat)} {N : Nat → Nat} {V : Nat → Nat → Int32} {W : Nat} {g : List z_E} {x1 : Int32} {x2 : Int32} {x3 : Int32}  (hRm : z_Rm (hC A E N V W ++ g, c)) (hf : 1 ≤ f) (hw : 19 + z_pg.2.1 117 ≤ w) (hc : z_Ln L xs fv (f - 1) (w - (19 + z_pg.2.1 117)) 117 0 [(0, .ref 145), (1, .int (x3 - x2))] [] (hC A E N V W ++ g, c) (.inr 10) T') : z_Ln L xs fv f w 119 50 [(0, .ref 145), (1, .int x1), (2, .int x2), (3, .int x3)] [] (hC A E N V W ++ g, c) (.inr 10) T' := z_Ln.blk (pc' := 54) (lv' := [(0, .ref 145), (1, .int x1), (2, .int x2), (3, .int x3)]) (st' := [.int (x3 - x2), .ref 145]) (H' := hC A E N V W ++ g) (C := []) 14 4 rfl trivial (z_Ln.past (s := 0) (mj := 117) (as := [.ref 145, .int (x3 - x2)]) (rr := []) rfl rfl ⟨⟨hf, hw⟩, (by decide : (0 : Nat) ≤ 8), (by decide +kernel : (2 : Nat) ≤ z_pg.2.1 117)⟩ hRm hc rfl)
set_option maxRecDepth 10000 in
theorem e119_57 {L : Nat} {xs : Nat → Int32} {fv : Value} {f w : Nat} {c : Nat × Nat} {o : z_V} {T' : z_Y} {A : Nat → List (Nat × Int32)} {E : List (Nat × Option Nat)} {N : Nat → Nat} {V : Nat → Nat → Int32} {W : Nat} {g : List z_E} {x1 : Int32} {x2 : Int32} {x3 : Int32}  (kk : z_Ln L xs fv f w 119 101 [(0, .ref 145), (1, .int x1), (2, .int x2), (3, .int x3)] [] (hC A E N V W ++ g, c) o T') : z_Ln L xs fv f w 119 57 [(0, .ref 145), (1, .int x1), (2, .int x2), (3, .int x3)] [] (hC A E N V W ++ g, c) o T' := z_Ln.blk (pc' := 101) (lv' := [(0, .ref 145), (1, .int x1), (2, .int x2), (3, .int x3)]) (st' := []) (H' := hC A E N V W ++ g) (C := []) 19 1 rfl trivial (kk)
set_option maxRecDepth 10000 in
theorem e119_60 {L : Nat} {xs : Nat → Int32} {fv : Value} {f w : Nat} {c : Nat × Nat} {o : z_V} {T' : z_Y} {A : Nat → List (Nat × Int32)} {E : List (Nat × Option Nat)} {N : Nat → Nat} {V : Nat → Nat → Int32} {W : Nat} {g : List z_E} {x1 : Int32} {x2 : Int32} {x3 : Int32} {A1 : Nat → List (Nat × Int32)} {E1 : List (Nat × Option Nat)} {N1 : Nat → Nat} {V1 : Nat → Nat → Int32} {W1 : Nat} {g1 : List z_E} {c1 : Nat × Nat}   (hRm : z_Rm (hC A E N V W ++ g, c)) (hf : 1 ≤ f) (hw : 19 + z_pg.2.1 117 ≤ w) (hc : z_Ln L xs fv (f - 1) (w - (19 + z_pg.2.1 117)) 117 0 [(0, .ref 145), (1, .int (x3 * x2))] [] (hC A E N V W ++ g, c) (.inl (none)) (hC A1 E1 N1 V1 W1 ++ g1, c1)) (kk : z_Ln L xs fv f w 119 67 [(0, .ref 145), (1, .int x1), (2, .int x2), (3, .int x3)] [] (hC A1 E1 N1 V1 W1 ++ g1, c1) o T') : z_Ln L xs fv f w 119 60 [(0, .ref 145), (1, .int x1), (2, .int x2), (3, .int x3)] [] (hC A E N V W ++ g, c) o T' := z_Ln.blk (pc' := 64) (lv' := [(0, .ref 145), (1, .int x1), (2, .int x2), (3, .int x3)]) (st' := [.int (x3 * x2), .ref 145]) (H' := hC A E N V W ++ g) (C := []) 20 4 rfl trivial (z_Ln.call (s := 0) (mj := 117) (as := [.ref 145, .int (x3 * x2)]) (rr := []) (v := none) (T1 := (hC A1 E1 N1 V1 W1 ++ g1, c1)) rfl rfl ⟨⟨hf, hw⟩, (by decide : (0 : Nat) ≤ 8), (by decide +kernel : (2 : Nat) ≤ z_pg.2.1 117)⟩ hRm hc ⟨trivial, ⟨(z_sm0C 0 (by decide) rfl rfl), trivial, trivial, trivial, trivial⟩⟩ (kk))
set_option maxRecDepth 10000 in
theorem e119_60x {L : Nat} {xs : Nat → Int32} {fv : Value} {f w : Nat} {c : Nat × Nat} {T' : z_Y} {A : Nat → List (Nat × Int32)} {E : List (Nat × Option Nat)} {N : Nat → Nat} {V : Nat → Nat → Int32} {W : Nat} {g : List z_E} {x1 : Int32} {x2 : Int32} {x3 : Int32}  (hRm : z_Rm (hC A E N V W ++ g, c)) (hf : 1 ≤ f) (hw : 19 + z_pg.2.1 117 ≤ w) (hc : z_Ln L xs fv (f - 1) (w - (19 + z_pg.2.1 117)) 117 0 [(0, .ref 145), (1, .int (x3 * x2))] [] (hC A E N V W ++ g, c) (.inr 10) T') : z_Ln L xs fv f w 119 60 [(0, .ref 145), (1, .int x1), (2, .int x2), (3, .int x3)] [] (hC A E N V W ++ g, c) (.inr 10) T' := z_Ln.blk (pc' := 64) (lv' := [(0, .ref 145), (1, .int x1), (2, .int x2), (3, .int x3)]) (st' := [.int (x3 * x2), .ref 145]) (H' := hC A E N V W ++ g) (C := []) 20 4 rfl trivial (z_Ln.past (s := 0) (mj := 117) (as := [.ref 145, .int (x3 * x2)]) (rr := []) rfl rfl ⟨⟨hf, hw⟩, (by decide : (0 : Nat) ≤ 8), (by decide +kernel : (2 : Nat) ≤ z_pg.2.1 117)⟩ hRm hc rfl)
set_option maxRecDepth 10000 in
theorem e119_67 {L : Nat} {xs : Nat → Int32} {fv : Value} {f w : Nat} {c : Nat × Nat} {o : z_V} {T' : z_Y} {A : Nat → List (Nat × Int32)} {E : List (Nat × Option Nat)} {N : Nat → Nat} {V : Nat → Nat → Int32} {W : Nat} {g : List z_E} {x1 : Int32} {x2 : Int32} {x3 : Int32}  (kk : z_Ln L xs fv f w 119 101 [(0, .ref 145), (1, .int x1), (2, .int x2), (3, .int x3)] [] (hC A E N V W ++ g, c) o T') : z_Ln L xs fv f w 119 67 [(0, .ref 145), (1, .int x1), (2, .int x2), (3, .int x3)] [] (hC A E N V W ++ g, c) o T' := z_Ln.blk (pc' := 101) (lv' := [(0, .ref 145), (1, .int x1), (2, .int x2), (3, .int x3)]) (st' := []) (H' := hC A E N V W ++ g) (C := []) 25 1 rfl trivial (kk)
set_option maxRecDepth 10000 in
theorem e119_70t {L : Nat} {xs : Nat → Int32} {fv : Value} {f w : Nat} {c : Nat × Nat} {o : z_V} {T' : z_Y} {A : Nat → List (Nat × Int32)} {E : List (Nat × Option Nat)} {N : Nat → Nat} {V : Nat → Nat → Int32} {W : Nat} {g : List z_E} {x1 : Int32} {x2 : Int32} {x3 : Int32}  (hb : x2 ≤ x3) (kk : z_Ln L xs fv f w 119 80 [(0, .ref 145), (1, .int x1), (2, .int x2), (3, .int x3)] [.ref 145] (hC A E N V W ++ g, c) o T') : z_Ln L xs fv f w 119 70 [(0, .ref 145), (1, .int x1), (2, .int x2), (3, .int x3)] [] (hC A E N V W ++ g, c) o T' := z_Ln.blk (pc' := (if decide (x2 ≤ x3) = true then 80 else 76)) (lv' := [(0, .ref 145), (1, .int x1), (2, .int x2), (3, .int x3)]) (st' := [.ref 145]) (H' := hC A E N V W ++ g) (C := []) 26 4 rfl trivial (z_Ln.brT (decide_eq_true hb) (kk))
set_option maxRecDepth 10000 in
theorem e119_70f {L : Nat} {xs : Nat → Int32} {fv : Value} {f w : Nat} {c : Nat × Nat} {o : z_V} {T' : z_Y} {A : Nat → List (Nat × Int32)} {E : List (Nat × Option Nat)} {N : Nat → Nat} {V : Nat → Nat → Int32} {W : Nat} {g : List z_E} {x1 : Int32} {x2 : Int32} {x3 : Int32}  (hb : ¬ (x2 ≤ x3)) (kk : z_Ln L xs fv f w 119 76 [(0, .ref 145), (1, .int x1), (2, .int x2), (3, .int x3)] [.ref 145] (hC A E N V W ++ g, c) o T') : z_Ln L xs fv f w 119 70 [(0, .ref 145), (1, .int x1), (2, .int x2), (3, .int x3)] [] (hC A E N V W ++ g, c) o T' := z_Ln.blk (pc' := (if decide (x2 ≤ x3) = true then 80 else 76)) (lv' := [(0, .ref 145), (1, .int x1), (2, .int x2), (3, .int x3)]) (st' := [.ref 145]) (H' := hC A E N V W ++ g) (C := []) 26 4 rfl trivial (z_Ln.brF (decide_eq_false hb) (kk))
set_option maxRecDepth 10000 in
theorem e119_76 {L : Nat} {xs : Nat → Int32} {fv : Value} {f w : Nat} {c : Nat × Nat} {o : z_V} {T' : z_Y} {A : Nat → List (Nat × Int32)} {E : List (Nat × Option Nat)} {N : Nat → Nat} {V : Nat → Nat → Int32} {W : Nat} {g : List z_E} {x1 : Int32} {x2 : Int32} {x3 : Int32}  (kk : z_Ln L xs fv f w 119 81 [(0, .ref 145), (1, .int x1), (2, .int x2), (3, .int x3)] [.int 1, .ref 145] (hC A E N V W ++ g, c) o T') : z_Ln L xs fv f w 119 76 [(0, .ref 145), (1, .int x1), (2, .int x2), (3, .int x3)] [.ref 145] (hC A E N V W ++ g, c) o T' := z_Ln.blk (pc' := 81) (lv' := [(0, .ref 145), (1, .int x1), (2, .int x2), (3, .int x3)]) (st' := [.int 1, .ref 145]) (H' := hC A E N V W ++ g) (C := []) 30 2 rfl trivial (kk)
set_option maxRecDepth 10000 in
theorem e119_80 {L : Nat} {xs : Nat → Int32} {fv : Value} {f w : Nat} {c : Nat × Nat} {o : z_V} {T' : z_Y} {A : Nat → List (Nat × Int32)} {E : List (Nat × Option Nat)} {N : Nat → Nat} {V : Nat → Nat → Int32} {W : Nat} {g : List z_E} {x1 : Int32} {x2 : Int32} {x3 : Int32}  (kk : z_Ln L xs fv f w 119 81 [(0, .ref 145), (1, .int x1), (2, .int x2), (3, .int x3)] [.int 0, .ref 145] (hC A E N V W ++ g, c) o T') : z_Ln L xs fv f w 119 80 [(0, .ref 145), (1, .int x1), (2, .int x2), (3, .int x3)] [.ref 145] (hC A E N V W ++ g, c) o T' := z_Ln.blk (pc' := 81) (lv' := [(0, .ref 145), (1, .int x1), (2, .int x2), (3, .int x3)]) (st' := [.int 0, .ref 145]) (H' := hC A E N V W ++ g) (C := []) 32 1 rfl trivial (kk)
set_option maxRecDepth 10000 in
theorem e119_81 {L : Nat} {xs : Nat → Int32} {fv : Value} {f w : Nat} {c : Nat × Nat} {o : z_V} {T' : z_Y} {A : Nat → List (Nat × Int32)} {E : List (Nat × Option Nat)} {N : Nat → Nat} {V : Nat → Nat → Int32} {W : Nat} {g : List z_E} {x1 : Int32} {x2 : Int32} {x3 : Int32} {y0 : Int32} {A1 : Nat → List (Nat × Int32)} {E1 : List (Nat × Option Nat)} {N1 : Nat → Nat} {V1 : Nat → Nat → Int32} {W1 : Nat} {g1 : List z_E} {c1 : Nat × Nat}   (hRm : z_Rm (hC A E N V W ++ g, c)) (hf : 1 ≤ f) (hw : 19 + z_pg.2.1 117 ≤ w) (hc : z_Ln L xs fv (f - 1) (w - (19 + z_pg.2.1 117)) 117 0 [(0, .ref 145), (1, .int y0)] [] (hC A E N V W ++ g, c) (.inl (none)) (hC A1 E1 N1 V1 W1 ++ g1, c1)) (kk : z_Ln L xs fv f w 119 84 [(0, .ref 145), (1, .int x1), (2, .int x2), (3, .int x3)] [] (hC A1 E1 N1 V1 W1 ++ g1, c1) o T') : z_Ln L xs fv f w 119 81 [(0, .ref 145), (1, .int x1), (2, .int x2), (3, .int x3)] [.int y0, .ref 145] (hC A E N V W ++ g, c) o T' := z_Ln.call (s := 0) (mj := 117) (as := [.ref 145, .int y0]) (rr := []) (v := none) (T1 := (hC A1 E1 N1 V1 W1 ++ g1, c1)) rfl rfl ⟨⟨hf, hw⟩, (by decide : (0 : Nat) ≤ 8), (by decide +kernel : (2 : Nat) ≤ z_pg.2.1 117)⟩ hRm hc ⟨trivial, ⟨(z_sm0C 0 (by decide) rfl rfl), trivial, trivial, trivial, trivial⟩⟩ (kk)
set_option maxRecDepth 10000 in
theorem e119_81x {L : Nat} {xs : Nat → Int32} {fv : Value} {f w : Nat} {c : Nat × Nat} {T' : z_Y} {A : Nat → List (Nat × Int32)} {E : List (Nat × Option Nat)} {N : Nat → Nat} {V : Nat → Nat → Int32} {W : Nat} {g : List z_E} {x1 : Int32} {x2 : Int32} {x3 : Int32} {y0 : Int32}  (hRm : z_Rm (hC A E N V W ++ g, c)) (hf : 1 ≤ f) (hw : 19 + z_pg.2.1 117 ≤ w) (hc : z_Ln L xs fv (f - 1) (w - (19 + z_pg.2.1 117)) 117 0 [(0, .ref 145), (1, .int y0)] [] (hC A E N V W ++ g, c) (.inr 10) T') : z_Ln L xs fv f w 119 81 [(0, .ref 145), (1, .int x1), (2, .int x2), (3, .int x3)] [.int y0, .ref 145] (hC A E N V W ++ g, c) (.inr 10) T' := z_Ln.past (s := 0) (mj := 117) (as := [.ref 145, .int y0]) (rr := []) rfl rfl ⟨⟨hf, hw⟩, (by decide : (0 : Nat) ≤ 8), (by decide +kernel : (2 : Nat) ≤ z_pg.2.1 117)⟩ hRm hc rfl
set_option maxRecDepth 10000 in
theorem e119_84 {L : Nat} {xs : Nat → Int32} {fv : Value} {f w : Nat} {c : Nat × Nat} {o : z_V} {T' : z_Y} {A : Nat → List (Nat × Int32)} {E : List (Nat × Option Nat)} {N : Nat → Nat} {V : Nat → Nat → Int32} {W : Nat} {g : List z_E} {x1 : Int32} {x2 : Int32} {x3 : Int32}  (kk : z_Ln L xs fv f w 119 101 [(0, .ref 145), (1, .int x1), (2, .int x2), (3, .int x3)] [] (hC A E N V W ++ g, c) o T') : z_Ln L xs fv f w 119 84 [(0, .ref 145), (1, .int x1), (2, .int x2), (3, .int x3)] [] (hC A E N V W ++ g, c) o T' := z_Ln.blk (pc' := 101) (lv' := [(0, .ref 145), (1, .int x1), (2, .int x2), (3, .int x3)]) (st' := []) (H' := hC A E N V W ++ g) (C := []) 34 1 rfl trivial (kk)
set_option maxRecDepth 10000 in
theorem e119_87t {L : Nat} {xs : Nat → Int32} {fv : Value} {f w : Nat} {c : Nat × Nat} {o : z_V} {T' : z_Y} {A : Nat → List (Nat × Int32)} {E : List (Nat × Option Nat)} {N : Nat → Nat} {V : Nat → Nat → Int32} {W : Nat} {g : List z_E} {x1 : Int32} {x2 : Int32} {x3 : Int32}  (hb : ¬ x3 = x2) (kk : z_Ln L xs fv f w 119 97 [(0, .ref 145), (1, .int x1), (2, .int x2), (3, .int x3)] [.ref 145] (hC A E N V W ++ g, c) o T') : z_Ln L xs fv f w 119 87 [(0, .ref 145), (1, .int x1), (2, .int x2), (3, .int x3)] [] (hC A E N V W ++ g, c) o T' := z_Ln.blk (pc' := (if decide (¬ x3 = x2) = true then 97 else 93)) (lv' := [(0, .ref 145), (1, .int x1), (2, .int x2), (3, .int x3)]) (st' := [.ref 145]) (H' := hC A E N V W ++ g) (C := []) 35 4 rfl trivial (z_Ln.brT (decide_eq_true hb) (kk))
set_option maxRecDepth 10000 in
theorem e119_87f {L : Nat} {xs : Nat → Int32} {fv : Value} {f w : Nat} {c : Nat × Nat} {o : z_V} {T' : z_Y} {A : Nat → List (Nat × Int32)} {E : List (Nat × Option Nat)} {N : Nat → Nat} {V : Nat → Nat → Int32} {W : Nat} {g : List z_E} {x1 : Int32} {x2 : Int32} {x3 : Int32}  (hb : ¬ (¬ x3 = x2)) (kk : z_Ln L xs fv f w 119 93 [(0, .ref 145), (1, .int x1), (2, .int x2), (3, .int x3)] [.ref 145] (hC A E N V W ++ g, c) o T') : z_Ln L xs fv f w 119 87 [(0, .ref 145), (1, .int x1), (2, .int x2), (3, .int x3)] [] (hC A E N V W ++ g, c) o T' := z_Ln.blk (pc' := (if decide (¬ x3 = x2) = true then 97 else 93)) (lv' := [(0, .ref 145), (1, .int x1), (2, .int x2), (3, .int x3)]) (st' := [.ref 145]) (H' := hC A E N V W ++ g) (C := []) 35 4 rfl trivial (z_Ln.brF (decide_eq_false hb) (kk))
set_option maxRecDepth 10000 in
theorem e119_93 {L : Nat} {xs : Nat → Int32} {fv : Value} {f w : Nat} {c : Nat × Nat} {o : z_V} {T' : z_Y} {A : Nat → List (Nat × Int32)} {E : List (Nat × Option Nat)} {N : Nat → Nat} {V : Nat → Nat → Int32} {W : Nat} {g : List z_E} {x1 : Int32} {x2 : Int32} {x3 : Int32}  (kk : z_Ln L xs fv f w 119 98 [(0, .ref 145), (1, .int x1), (2, .int x2), (3, .int x3)] [.int 1, .ref 145] (hC A E N V W ++ g, c) o T') : z_Ln L xs fv f w 119 93 [(0, .ref 145), (1, .int x1), (2, .int x2), (3, .int x3)] [.ref 145] (hC A E N V W ++ g, c) o T' := z_Ln.blk (pc' := 98) (lv' := [(0, .ref 145), (1, .int x1), (2, .int x2), (3, .int x3)]) (st' := [.int 1, .ref 145]) (H' := hC A E N V W ++ g) (C := []) 39 2 rfl trivial (kk)
set_option maxRecDepth 10000 in
theorem e119_97 {L : Nat} {xs : Nat → Int32} {fv : Value} {f w : Nat} {c : Nat × Nat} {o : z_V} {T' : z_Y} {A : Nat → List (Nat × Int32)} {E : List (Nat × Option Nat)} {N : Nat → Nat} {V : Nat → Nat → Int32} {W : Nat} {g : List z_E} {x1 : Int32} {x2 : Int32} {x3 : Int32}  (kk : z_Ln L xs fv f w 119 98 [(0, .ref 145), (1, .int x1), (2, .int x2), (3, .int x3)] [.int 0, .ref 145] (hC A E N V W ++ g, c) o T') : z_Ln L xs fv f w 119 97 [(0, .ref 145), (1, .int x1), (2, .int x2), (3, .int x3)] [.ref 145] (hC A E N V W ++ g, c) o T' := z_Ln.blk (pc' := 98) (lv' := [(0, .ref 145), (1, .int x1), (2, .int x2), (3, .int x3)]) (st' := [.int 0, .ref 145]) (H' := hC A E N V W ++ g) (C := []) 41 1 rfl trivial (kk)
set_option maxRecDepth 10000 in
theorem e119_98 {L : Nat} {xs : Nat → Int32} {fv : Value} {f w : Nat} {c : Nat × Nat} {o : z_V} {T' : z_Y} {A : Nat → List (Nat × Int32)} {E : List (Nat × Option Nat)} {N : Nat → Nat} {V : Nat → Nat → Int32} {W : Nat} {g : List z_E} {x1 : Int32} {x2 : Int32} {x3 : Int32} {y0 : Int32} {A1 : Nat → List (Nat × Int32)} {E1 : List (Nat × Option Nat)} {N1 : Nat → Nat} {V1 : Nat → Nat → Int32} {W1 : Nat} {g1 : List z_E} {c1 : Nat × Nat}   (hRm : z_Rm (hC A E N V W ++ g, c)) (hf : 1 ≤ f) (hw : 19 + z_pg.2.1 117 ≤ w) (hc : z_Ln L xs fv (f - 1) (w - (19 + z_pg.2.1 117)) 117 0 [(0, .ref 145), (1, .int y0)] [] (hC A E N V W ++ g, c) (.inl (none)) (hC A1 E1 N1 V1 W1 ++ g1, c1)) (kk : z_Ln L xs fv f w 119 101 [(0, .ref 145), (1, .int x1), (2, .int x2), (3, .int x3)] [] (hC A1 E1 N1 V1 W1 ++ g1, c1) o T') : z_Ln L xs fv f w 119 98 [(0, .ref 145), (1, .int x1), (2, .int x2), (3, .int x3)] [.int y0, .ref 145] (hC A E N V W ++ g, c) o T' := z_Ln.call (s := 0) (mj := 117) (as := [.ref 145, .int y0]) (rr := []) (v := none) (T1 := (hC A1 E1 N1 V1 W1 ++ g1, c1)) rfl rfl ⟨⟨hf, hw⟩, (by decide : (0 : Nat) ≤ 8), (by decide +kernel : (2 : Nat) ≤ z_pg.2.1 117)⟩ hRm hc ⟨trivial, ⟨(z_sm0C 0 (by decide) rfl rfl), trivial, trivial, trivial, trivial⟩⟩ (kk)
set_option maxRecDepth 10000 in
theorem e119_98x {L : Nat} {xs : Nat → Int32} {fv : Value} {f w : Nat} {c : Nat × Nat} {T' : z_Y} {A : Nat → List (Nat × Int32)} {E : List (Nat × Option Nat)} {N : Nat → Nat} {V : Nat → Nat → Int32} {W : Nat} {g : List z_E} {x1 : Int32} {x2 : Int32} {x3 : Int32} {y0 : Int32}  (hRm : z_Rm (hC A E N V W ++ g, c)) (hf : 1 ≤ f) (hw : 19 + z_pg.2.1 117 ≤ w) (hc : z_Ln L xs fv (f - 1) (w - (19 + z_pg.2.1 117)) 117 0 [(0, .ref 145), (1, .int y0)] [] (hC A E N V W ++ g, c) (.inr 10) T') : z_Ln L xs fv f w 119 98 [(0, .ref 145), (1, .int x1), (2, .int x2), (3, .int x3)] [.int y0, .ref 145] (hC A E N V W ++ g, c) (.inr 10) T' := z_Ln.past (s := 0) (mj := 117) (as := [.ref 145, .int y0]) (rr := []) rfl rfl ⟨⟨hf, hw⟩, (by decide : (0 : Nat) ≤ 8), (by decide +kernel : (2 : Nat) ≤ z_pg.2.1 117)⟩ hRm hc rfl
set_option maxRecDepth 10000 in
theorem e119_101 {L : Nat} {xs : Nat → Int32} {fv : Value} {f w : Nat} {c : Nat × Nat} {A : Nat → List (Nat × Int32)} {E : List (Nat × Option Nat)} {N : Nat → Nat} {V : Nat → Nat → Int32} {W : Nat} {g : List z_E} {x1 : Int32} {x2 : Int32} {x3 : Int32}  : z_Ln L xs fv f w 119 101 [(0, .ref 145), (1, .int x1), (2, .int x2), (3, .int x3)] [] (hC A E N V W ++ g, c) (.inl none) (hC A E N V W ++ g, c) := z_Ln.ret rfl rfl
def p119_101 (l : Nat) (A : Nat → List (Nat × Int32)) (E : List (Nat × Option Nat)) (N : Nat → Nat) (V : Nat → Nat → Int32) (W : Nat) (c : Nat × Nat) (x1 : Int32) (x2 : Int32) (x3 : Int32) (Q : z_V → z_CS → Prop) : Prop := Q (.inl (none)) (A, E, N, V, W, c)
set_option maxRecDepth 10000 in
theorem t119_101 {l : Nat} {A : Nat → List (Nat × Int32)} {E : List (Nat × Option Nat)} {N : Nat → Nat} {V : Nat → Nat → Int32} {W : Nat} {c : Nat × Nat} {x1 : Int32} {x2 : Int32} {x3 : Int32} {Q : z_V → z_CS → Prop} (h : p119_101 l A E N V W c x1 x2 x3 Q) : z_WC (l + 1) 119 101 [(0, .ref 145), (1, .int x1), (2, .int x2), (3, .int x3)] [] (A, E, N, V, W, c) Q := by
  unfold p119_101 at h
  exact ⟨(.inl (none)), (A, E, N, V, W, c), fun _ _ _ _ _ _ hg hl => e119_101 , h⟩
def p119_98 (l : Nat) (A : Nat → List (Nat × Int32)) (E : List (Nat × Option Nat)) (N : Nat → Nat) (V : Nat → Nat → Int32) (W : Nat) (c : Nat × Nat) (x1 : Int32) (x2 : Int32) (x3 : Int32) (y0 : Int32) (Q : z_V → z_CS → Prop) : Prop := z_Rm ([], c) ∧ z_WC l 117 0 [(0, .ref 145), (1, .int y0)] [] (A, E, N, V, W, c) (z_cx Q (fun x S1 => x = none ∧ p119_101 l S1.1 S1.2.1 S1.2.2.1 S1.2.2.2.1 S1.2.2.2.2.1 S1.2.2.2.2.2 x1 x2 x3 Q))
set_option maxRecDepth 10000 in
theorem t119_98 {l : Nat} {A : Nat → List (Nat × Int32)} {E : List (Nat × Option Nat)} {N : Nat → Nat} {V : Nat → Nat → Int32} {W : Nat} {c : Nat × Nat} {x1 : Int32} {x2 : Int32} {x3 : Int32} {y0 : Int32} {Q : z_V → z_CS → Prop} (h : p119_98 l A E N V W c x1 x2 x3 y0 Q) : z_WC (l + 1) 119 98 [(0, .ref 145), (1, .int x1), (2, .int x2), (3, .int x3)] [.int y0, .ref 145] (A, E, N, V, W, c) Q := by
  unfold p119_98 at h
  obtain ⟨hm, h⟩ := h
  obtain ⟨o, S1, hc, h⟩ := h
  cases o with
  | inl x =>
    obtain ⟨rfl, h⟩ := h
    obtain ⟨o2, S2, hk, hQ⟩ := t119_101 h
    exact ⟨o2, S2, fun L xs fv f w g hg hl => e119_98   hm hl.f1 (hl.w1 117 (by decide)) (hc L xs fv _ _ g hg (hl.dn 117 (by decide))) (hk L xs fv f w g hg hl), hQ⟩
  | inr e =>
    obtain ⟨rfl, h⟩ := h
    exact ⟨_, S1, fun L xs fv f w g hg hl => e119_98x  hm hl.f1 (hl.w1 117 (by decide)) (hc L xs fv _ _ g hg (hl.dn 117 (by decide))), h⟩
def p119_97 (l : Nat) (A : Nat → List (Nat × Int32)) (E : List (Nat × Option Nat)) (N : Nat → Nat) (V : Nat → Nat → Int32) (W : Nat) (c : Nat × Nat) (x1 : Int32) (x2 : Int32) (x3 : Int32) (Q : z_V → z_CS → Prop) : Prop := p119_98 l A E N V W c x1 x2 x3 0 Q
set_option maxRecDepth 10000 in
theorem t119_97 {l : Nat} {A : Nat → List (Nat × Int32)} {E : List (Nat × Option Nat)} {N : Nat → Nat} {V : Nat → Nat → Int32} {W : Nat} {c : Nat × Nat} {x1 : Int32} {x2 : Int32} {x3 : Int32} {Q : z_V → z_CS → Prop} (h : p119_97 l A E N V W c x1 x2 x3 Q) : z_WC (l + 1) 119 97 [(0, .ref 145), (1, .int x1), (2, .int x2), (3, .int x3)] [.ref 145] (A, E, N, V, W, c) Q := by
  unfold p119_97 at h
  exact z_WC.blk (t119_98 h) (fun _ _ _ _ _ _ _ _ hg hl k => e119_97  k)
def p119_93 (l : Nat) (A : Nat → List (Nat × Int32)) (E : List (Nat × Option Nat)) (N : Nat → Nat) (V : Nat → Nat → Int32) (W : Nat) (c : Nat × Nat) (x1 : Int32) (x2 : Int32) (x3 : Int32) (Q : z_V → z_CS → Prop) : Prop := p119_98 l A E N V W c x1 x2 x3 1 Q
set_option maxRecDepth 10000 in
theorem t119_93 {l : Nat} {A : Nat → List (Nat × Int32)} {E : List (Nat × Option Nat)} {N : Nat → Nat} {V : Nat → Nat → Int32} {W : Nat} {c : Nat × Nat} {x1 : Int32} {x2 : Int32} {x3 : Int32} {Q : z_V → z_CS → Prop} (h : p119_93 l A E N V W c x1 x2 x3 Q) : z_WC (l + 1) 119 93 [(0, .ref 145), (1, .int x1), (2, .int x2), (3, .int x3)] [.ref 145] (A, E, N, V, W, c) Q := by
  unfold p119_93 at h
  exact z_WC.blk (t119_98 h) (fun _ _ _ _ _ _ _ _ hg hl k => e119_93  k)
def p119_87 (l : Nat) (A : Nat → List (Nat × Int32)) (E : List (Nat × Option Nat)) (N : Nat → Nat) (V : Nat → Nat → Int32) (W : Nat) (c : Nat × Nat) (x1 : Int32) (x2 : Int32) (x3 : Int32) (Q : z_V → z_CS → Prop) : Prop := (if x3 = x2 then p119_93 l A E N V W c x1 x2 x3 Q else p119_97 l A E N V W c x1 x2 x3 Q)
set_option maxRecDepth 10000 in
theorem t119_87 {l : Nat} {A : Nat → List (Nat × Int32)} {E : List (Nat × Option Nat)} {N : Nat → Nat} {V : Nat → Nat → Int32} {W : Nat} {c : Nat × Nat} {x1 : Int32} {x2 : Int32} {x3 : Int32} {Q : z_V → z_CS → Prop} (h : p119_87 l A E N V W c x1 x2 x3 Q) : z_WC (l + 1) 119 87 [(0, .ref 145), (1, .int x1), (2, .int x2), (3, .int x3)] [] (A, E, N, V, W, c) Q := by
  unfold p119_87 at h
  by_cases hb : x3 = x2
  · rw [if_pos hb] at h
    exact z_WC.blk (t119_93 h) (fun _ _ _ _ _ _ _ _ hg hl k => e119_87f  (fun q => q hb) k)
  · rw [if_neg hb] at h
    exact z_WC.blk (t119_97 h) (fun _ _ _ _ _ _ _ _ hg hl k => e119_87t  hb k)
def p119_47 (l : Nat) (A : Nat → List (Nat × Int32)) (E : List (Nat × Option Nat)) (N : Nat → Nat) (V : Nat → Nat → Int32) (W : Nat) (c : Nat × Nat) (x1 : Int32) (x2 : Int32) (x3 : Int32) (Q : z_V → z_CS → Prop) : Prop := p119_101 l A E N V W c x1 x2 x3 Q
set_option maxRecDepth 10000 in
theorem t119_47 {l : Nat} {A : Nat → List (Nat × Int32)} {E : List (Nat × Option Nat)} {N : Nat → Nat} {V : Nat → Nat → Int32} {W : Nat} {c : Nat × Nat} {x1 : Int32} {x2 : Int32} {x3 : Int32} {Q : z_V → z_CS → Prop} (h : p119_47 l A E N V W c x1 x2 x3 Q) : z_WC (l + 1) 119 47 [(0, .ref 145), (1, .int x1), (2, .int x2), (3, .int x3)] [] (A, E, N, V, W, c) Q := by
  unfold p119_47 at h
  exact z_WC.blk (t119_101 h) (fun _ _ _ _ _ _ _ _ hg hl k => e119_47  k)
def p119_40 (l : Nat) (A : Nat → List (Nat × Int32)) (E : List (Nat × Option Nat)) (N : Nat → Nat) (V : Nat → Nat → Int32) (W : Nat) (c : Nat × Nat) (x1 : Int32) (x2 : Int32) (x3 : Int32) (Q : z_V → z_CS → Prop) : Prop := z_Rm ([], c) ∧ z_WC l 117 0 [(0, .ref 145), (1, .int (x3 + x2))] [] (A, E, N, V, W, c) (z_cx Q (fun x S1 => x = none ∧ p119_47 l S1.1 S1.2.1 S1.2.2.1 S1.2.2.2.1 S1.2.2.2.2.1 S1.2.2.2.2.2 x1 x2 x3 Q))
set_option maxRecDepth 10000 in
theorem t119_40 {l : Nat} {A : Nat → List (Nat × Int32)} {E : List (Nat × Option Nat)} {N : Nat → Nat} {V : Nat → Nat → Int32} {W : Nat} {c : Nat × Nat} {x1 : Int32} {x2 : Int32} {x3 : Int32} {Q : z_V → z_CS → Prop} (h : p119_40 l A E N V W c x1 x2 x3 Q) : z_WC (l + 1) 119 40 [(0, .ref 145), (1, .int x1), (2, .int x2), (3, .int x3)] [] (A, E, N, V, W, c) Q := by
  unfold p119_40 at h
  obtain ⟨hm, h⟩ := h
  obtain ⟨o, S1, hc, h⟩ := h
  cases o with
  | inl x =>
    obtain ⟨rfl, h⟩ := h
    obtain ⟨o2, S2, hk, hQ⟩ := t119_47 h
    exact ⟨o2, S2, fun L xs fv f w g hg hl => e119_40   hm hl.f1 (hl.w1 117 (by decide)) (hc L xs fv _ _ g hg (hl.dn 117 (by decide))) (hk L xs fv f w g hg hl), hQ⟩
  | inr e =>
    obtain ⟨rfl, h⟩ := h
    exact ⟨_, S1, fun L xs fv f w g hg hl => e119_40x  hm hl.f1 (hl.w1 117 (by decide)) (hc L xs fv _ _ g hg (hl.dn 117 (by decide))), h⟩
def p119_57 (l : Nat) (A : Nat → List (Nat × Int32)) (E : List (Nat × Option Nat)) (N : Nat → Nat) (V : Nat → Nat → Int32) (W : Nat) (c : Nat × Nat) (x1 : Int32) (x2 : Int32) (x3 : Int32) (Q : z_V → z_CS → Prop) : Prop := p119_101 l A E N V W c x1 x2 x3 Q
set_option maxRecDepth 10000 in
theorem t119_57 {l : Nat} {A : Nat → List (Nat × Int32)} {E : List (Nat × Option Nat)} {N : Nat → Nat} {V : Nat → Nat → Int32} {W : Nat} {c : Nat × Nat} {x1 : Int32} {x2 : Int32} {x3 : Int32} {Q : z_V → z_CS → Prop} (h : p119_57 l A E N V W c x1 x2 x3 Q) : z_WC (l + 1) 119 57 [(0, .ref 145), (1, .int x1), (2, .int x2), (3, .int x3)] [] (A, E, N, V, W, c) Q := by
  unfold p119_57 at h
  exact z_WC.blk (t119_101 h) (fun _ _ _ _ _ _ _ _ hg hl k => e119_57  k)
def p119_50 (l : Nat) (A : Nat → List (Nat × Int32)) (E : List (Nat × Option Nat)) (N : Nat → Nat) (V : Nat → Nat → Int32) (W : Nat) (c : Nat × Nat) (x1 : Int32) (x2 : Int32) (x3 : Int32) (Q : z_V → z_CS → Prop) : Prop := z_Rm ([], c) ∧ z_WC l 117 0 [(0, .ref 145), (1, .int (x3 - x2))] [] (A, E, N, V, W, c) (z_cx Q (fun x S1 => x = none ∧ p119_57 l S1.1 S1.2.1 S1.2.2.1 S1.2.2.2.1 S1.2.2.2.2.1 S1.2.2.2.2.2 x1 x2 x3 Q))
set_option maxRecDepth 10000 in
theorem t119_50 {l : Nat} {A : Nat → List (Nat × Int32)} {E : List (Nat × Option Nat)} {N : Nat → Nat} {V : Nat → Nat → Int32} {W : Nat} {c : Nat × Nat} {x1 : Int32} {x2 : Int32} {x3 : Int32} {Q : z_V → z_CS → Prop} (h : p119_50 l A E N V W c x1 x2 x3 Q) : z_WC (l + 1) 119 50 [(0, .ref 145), (1, .int x1), (2, .int x2), (3, .int x3)] [] (A, E, N, V, W, c) Q := by
  unfold p119_50 at h
  obtain ⟨hm, h⟩ := h
  obtain ⟨o, S1, hc, h⟩ := h
  cases o with
  | inl x =>
    obtain ⟨rfl, h⟩ := h
    obtain ⟨o2, S2, hk, hQ⟩ := t119_57 h
    exact ⟨o2, S2, fun L xs fv f w g hg hl => e119_50   hm hl.f1 (hl.w1 117 (by decide)) (hc L xs fv _ _ g hg (hl.dn 117 (by decide))) (hk L xs fv f w g hg hl), hQ⟩
  | inr e =>
    obtain ⟨rfl, h⟩ := h
    exact ⟨_, S1, fun L xs fv f w g hg hl => e119_50x  hm hl.f1 (hl.w1 117 (by decide)) (hc L xs fv _ _ g hg (hl.dn 117 (by decide))), h⟩
def p119_67 (l : Nat) (A : Nat → List (Nat × Int32)) (E : List (Nat × Option Nat)) (N : Nat → Nat) (V : Nat → Nat → Int32) (W : Nat) (c : Nat × Nat) (x1 : Int32) (x2 : Int32) (x3 : Int32) (Q : z_V → z_CS → Prop) : Prop := p119_101 l A E N V W c x1 x2 x3 Q
set_option maxRecDepth 10000 in
theorem t119_67 {l : Nat} {A : Nat → List (Nat × Int32)} {E : List (Nat × Option Nat)} {N : Nat → Nat} {V : Nat → Nat → Int32} {W : Nat} {c : Nat × Nat} {x1 : Int32} {x2 : Int32} {x3 : Int32} {Q : z_V → z_CS → Prop} (h : p119_67 l A E N V W c x1 x2 x3 Q) : z_WC (l + 1) 119 67 [(0, .ref 145), (1, .int x1), (2, .int x2), (3, .int x3)] [] (A, E, N, V, W, c) Q := by
  unfold p119_67 at h
  exact z_WC.blk (t119_101 h) (fun _ _ _ _ _ _ _ _ hg hl k => e119_67  k)
def p119_60 (l : Nat) (A : Nat → List (Nat × Int32)) (E : List (Nat × Option Nat)) (N : Nat → Nat) (V : Nat → Nat → Int32) (W : Nat) (c : Nat × Nat) (x1 : Int32) (x2 : Int32) (x3 : Int32) (Q : z_V → z_CS → Prop) : Prop := z_Rm ([], c) ∧ z_WC l 117 0 [(0, .ref 145), (1, .int (x3 * x2))] [] (A, E, N, V, W, c) (z_cx Q (fun x S1 => x = none ∧ p119_67 l S1.1 S1.2.1 S1.2.2.1 S1.2.2.2.1 S1.2.2.2.2.1 S1.2.2.2.2.2 x1 x2 x3 Q))
set_option maxRecDepth 10000 in
theorem t119_60 {l : Nat} {A : Nat → List (Nat × Int32)} {E : List (Nat × Option Nat)} {N : Nat → Nat} {V : Nat → Nat → Int32} {W : Nat} {c : Nat × Nat} {x1 : Int32} {x2 : Int32} {x3 : Int32} {Q : z_V → z_CS → Prop} (h : p119_60 l A E N V W c x1 x2 x3 Q) : z_WC (l + 1) 119 60 [(0, .ref 145), (1, .int x1), (2, .int x2), (3, .int x3)] [] (A, E, N, V, W, c) Q := by
  unfold p119_60 at h
  obtain ⟨hm, h⟩ := h
  obtain ⟨o, S1, hc, h⟩ := h
  cases o with
  | inl x =>
    obtain ⟨rfl, h⟩ := h
    obtain ⟨o2, S2, hk, hQ⟩ := t119_67 h
    exact ⟨o2, S2, fun L xs fv f w g hg hl => e119_60   hm hl.f1 (hl.w1 117 (by decide)) (hc L xs fv _ _ g hg (hl.dn 117 (by decide))) (hk L xs fv f w g hg hl), hQ⟩
  | inr e =>
    obtain ⟨rfl, h⟩ := h
    exact ⟨_, S1, fun L xs fv f w g hg hl => e119_60x  hm hl.f1 (hl.w1 117 (by decide)) (hc L xs fv _ _ g hg (hl.dn 117 (by decide))), h⟩
def p119_84 (l : Nat) (A : Nat → List (Nat × Int32)) (E : List (Nat × Option Nat)) (N : Nat → Nat) (V : Nat → Nat → Int32) (W : Nat) (c : Nat × Nat) (x1 : Int32) (x2 : Int32) (x3 : Int32) (Q : z_V → z_CS → Prop) : Prop := p119_101 l A E N V W c x1 x2 x3 Q
set_option maxRecDepth 10000 in
theorem t119_84 {l : Nat} {A : Nat → List (Nat × Int32)} {E : List (Nat × Option Nat)} {N : Nat → Nat} {V : Nat → Nat → Int32} {W : Nat} {c : Nat × Nat} {x1 : Int32} {x2 : Int32} {x3 : Int32} {Q : z_V → z_CS → Prop} (h : p119_84 l A E N V W c x1 x2 x3 Q) : z_WC (l + 1) 119 84 [(0, .ref 145), (1, .int x1), (2, .int x2), (3, .int x3)] [] (A, E, N, V, W, c) Q := by
  unfold p119_84 at h
  exact z_WC.blk (t119_101 h) (fun _ _ _ _ _ _ _ _ hg hl k => e119_84  k)
def p119_81 (l : Nat) (A : Nat → List (Nat × Int32)) (E : List (Nat × Option Nat)) (N : Nat → Nat) (V : Nat → Nat → Int32) (W : Nat) (c : Nat × Nat) (x1 : Int32) (x2 : Int32) (x3 : Int32) (y0 : Int32) (Q : z_V → z_CS → Prop) : Prop := z_Rm ([], c) ∧ z_WC l 117 0 [(0, .ref 145), (1, .int y0)] [] (A, E, N, V, W, c) (z_cx Q (fun x S1 => x = none ∧ p119_84 l S1.1 S1.2.1 S1.2.2.1 S1.2.2.2.1 S1.2.2.2.2.1 S1.2.2.2.2.2 x1 x2 x3 Q))
set_option maxRecDepth 10000 in
theorem t119_81 {l : Nat} {A : Nat → List (Nat × Int32)} {E : List (Nat × Option Nat)} {N : Nat → Nat} {V : Nat → Nat → Int32} {W : Nat} {c : Nat × Nat} {x1 : Int32} {x2 : Int32} {x3 : Int32} {y0 : Int32} {Q : z_V → z_CS → Prop} (h : p119_81 l A E N V W c x1 x2 x3 y0 Q) : z_WC (l + 1) 119 81 [(0, .ref 145), (1, .int x1), (2, .int x2), (3, .int x3)] [.int y0, .ref 145] (A, E, N, V, W, c) Q := by
  unfold p119_81 at h
  obtain ⟨hm, h⟩ := h
  obtain ⟨o, S1, hc, h⟩ := h
  cases o with
  | inl x =>
    obtain ⟨rfl, h⟩ := h
    obtain ⟨o2, S2, hk, hQ⟩ := t119_84 h
    exact ⟨o2, S2, fun L xs fv f w g hg hl => e119_81   hm hl.f1 (hl.w1 117 (by decide)) (hc L xs fv _ _ g hg (hl.dn 117 (by decide))) (hk L xs fv f w g hg hl), hQ⟩
  | inr e =>
    obtain ⟨rfl, h⟩ := h
    exact ⟨_, S1, fun L xs fv f w g hg hl => e119_81x  hm hl.f1 (hl.w1 117 (by decide)) (hc L xs fv _ _ g hg (hl.dn 117 (by decide))), h⟩
def p119_80 (l : Nat) (A : Nat → List (Nat × Int32)) (E : List (Nat × Option Nat)) (N : Nat → Nat) (V : Nat → Nat → Int32) (W : Nat) (c : Nat × Nat) (x1 : Int32) (x2 : Int32) (x3 : Int32) (Q : z_V → z_CS → Prop) : Prop := p119_81 l A E N V W c x1 x2 x3 0 Q
set_option maxRecDepth 10000 in
theorem t119_80 {l : Nat} {A : Nat → List (Nat × Int32)} {E : List (Nat × Option Nat)} {N : Nat → Nat} {V : Nat → Nat → Int32} {W : Nat} {c : Nat × Nat} {x1 : Int32} {x2 : Int32} {x3 : Int32} {Q : z_V → z_CS → Prop} (h : p119_80 l A E N V W c x1 x2 x3 Q) : z_WC (l + 1) 119 80 [(0, .ref 145), (1, .int x1), (2, .int x2), (3, .int x3)] [.ref 145] (A, E, N, V, W, c) Q := by
  unfold p119_80 at h
  exact z_WC.blk (t119_81 h) (fun _ _ _ _ _ _ _ _ hg hl k => e119_80  k)
def p119_76 (l : Nat) (A : Nat → List (Nat × Int32)) (E : List (Nat × Option Nat)) (N : Nat → Nat) (V : Nat → Nat → Int32) (W : Nat) (c : Nat × Nat) (x1 : Int32) (x2 : Int32) (x3 : Int32) (Q : z_V → z_CS → Prop) : Prop := p119_81 l A E N V W c x1 x2 x3 1 Q
set_option maxRecDepth 10000 in
theorem t119_76 {l : Nat} {A : Nat → List (Nat × Int32)} {E : List (Nat × Option Nat)} {N : Nat → Nat} {V : Nat → Nat → Int32} {W : Nat} {c : Nat × Nat} {x1 : Int32} {x2 : Int32} {x3 : Int32} {Q : z_V → z_CS → Prop} (h : p119_76 l A E N V W c x1 x2 x3 Q) : z_WC (l + 1) 119 76 [(0, .ref 145), (1, .int x1), (2, .int x2), (3, .int x3)] [.ref 145] (A, E, N, V, W, c) Q := by
  unfold p119_76 at h
  exact z_WC.blk (t119_81 h) (fun _ _ _ _ _ _ _ _ hg hl k => e119_76  k)
def p119_70 (l : Nat) (A : Nat → List (Nat × Int32)) (E : List (Nat × Option Nat)) (N : Nat → Nat) (V : Nat → Nat → Int32) (W : Nat) (c : Nat × Nat) (x1 : Int32) (x2 : Int32) (x3 : Int32) (Q : z_V → z_CS → Prop) : Prop := (if x2 ≤ x3 then p119_80 l A E N V W c x1 x2 x3 Q else p119_76 l A E N V W c x1 x2 x3 Q)
set_option maxRecDepth 10000 in
theorem t119_70 {l : Nat} {A : Nat → List (Nat × Int32)} {E : List (Nat × Option Nat)} {N : Nat → Nat} {V : Nat → Nat → Int32} {W : Nat} {c : Nat × Nat} {x1 : Int32} {x2 : Int32} {x3 : Int32} {Q : z_V → z_CS → Prop} (h : p119_70 l A E N V W c x1 x2 x3 Q) : z_WC (l + 1) 119 70 [(0, .ref 145), (1, .int x1), (2, .int x2), (3, .int x3)] [] (A, E, N, V, W, c) Q := by
  unfold p119_70 at h
  by_cases hb : x2 ≤ x3
  · rw [if_pos hb] at h
    exact z_WC.blk (t119_80 h) (fun _ _ _ _ _ _ _ _ hg hl k => e119_70t  hb k)
  · rw [if_neg hb] at h
    exact z_WC.blk (t119_76 h) (fun _ _ _ _ _ _ _ _ hg hl k => e119_70f  hb k)
def p119_9 (l : Nat) (A : Nat → List (Nat × Int32)) (E : List (Nat × Option Nat)) (N : Nat → Nat) (V : Nat → Nat → Int32) (W : Nat) (c : Nat × Nat) (x1 : Int32) (x2 : Int32) (y0 : Int32) (Q : z_V → z_CS → Prop) : Prop := (if x1 = 9 then p119_40 l A E N V W c x1 x2 y0 Q else if x1 = 10 then p119_50 l A E N V W c x1 x2 y0 Q else if x1 = 11 then p119_60 l A E N V W c x1 x2 y0 Q else if x1 = 12 then p119_70 l A E N V W c x1 x2 y0 Q else p119_87 l A E N V W c x1 x2 y0 Q)
set_option maxRecDepth 10000 in
theorem t119_9 {l : Nat} {A : Nat → List (Nat × Int32)} {E : List (Nat × Option Nat)} {N : Nat → Nat} {V : Nat → Nat → Int32} {W : Nat} {c : Nat × Nat} {x1 : Int32} {x2 : Int32} {y0 : Int32} {Q : z_V → z_CS → Prop} (h : p119_9 l A E N V W c x1 x2 y0 Q) : z_WC (l + 1) 119 9 [(0, .ref 145), (1, .int x1), (2, .int x2)] [.int y0] (A, E, N, V, W, c) Q := by
  unfold p119_9 at h
  by_cases e9 : x1 = 9
  · rw [if_pos e9] at h
    have hk : z_tg 9 12 [87, 40, 50, 60, 70] (x1) = some 40 := by
      rw [e9]
      rfl
    exact z_WC.blk (t119_40 h) (fun _ _ _ _ _ _ _ _ hg hl k => e119_9  (z_Ln.tab (t := 40) rfl hk (z_Ln.lv (z_le.cons rfl rfl (z_le.cons rfl rfl (z_le.cons rfl rfl (z_le.cons rfl rfl z_le.nil)))) k)))
  rw [if_neg e9] at h
  by_cases e10 : x1 = 10
  · rw [if_pos e10] at h
    have hk : z_tg 9 12 [87, 40, 50, 60, 70] (x1) = some 50 := by
      rw [e10]
      rfl
    exact z_WC.blk (t119_50 h) (fun _ _ _ _ _ _ _ _ hg hl k => e119_9  (z_Ln.tab (t := 50) rfl hk (z_Ln.lv (z_le.cons rfl rfl (z_le.cons rfl rfl (z_le.cons rfl rfl (z_le.cons rfl rfl z_le.nil)))) k)))
  rw [if_neg e10] at h
  by_cases e11 : x1 = 11
  · rw [if_pos e11] at h
    have hk : z_tg 9 12 [87, 40, 50, 60, 70] (x1) = some 60 := by
      rw [e11]
      rfl
    exact z_WC.blk (t119_60 h) (fun _ _ _ _ _ _ _ _ hg hl k => e119_9  (z_Ln.tab (t := 60) rfl hk (z_Ln.lv (z_le.cons rfl rfl (z_le.cons rfl rfl (z_le.cons rfl rfl (z_le.cons rfl rfl z_le.nil)))) k)))
  rw [if_neg e11] at h
  by_cases e12 : x1 = 12
  · rw [if_pos e12] at h
    have hk : z_tg 9 12 [87, 40, 50, 60, 70] (x1) = some 70 := by
      rw [e12]
      rfl
    exact z_WC.blk (t119_70 h) (fun _ _ _ _ _ _ _ _ hg hl k => e119_9  (z_Ln.tab (t := 70) rfl hk (z_Ln.lv (z_le.cons rfl rfl (z_le.cons rfl rfl (z_le.cons rfl rfl (z_le.cons rfl rfl z_le.nil)))) k)))
  rw [if_neg e12] at h
  have hd : z_tg 9 12 [87, 40, 50, 60, 70] (x1) = some 87 := by
    by_cases hr : (x1).toInt < 9 ∨ 12 < (x1).toInt
    · exact if_pos hr
    · have : (x1).toInt = 9 ∨ (x1).toInt = 10 ∨ (x1).toInt = 11 ∨ (x1).toInt = 12 := by omega
      rcases this with e | e | e | e
      · have q : x1 = 9 := Int32.toInt_inj.mp (by rw [e]; rfl)
        exact absurd q e9
      · have q : x1 = 10 := Int32.toInt_inj.mp (by rw [e]; rfl)
        exact absurd q e10
      · have q : x1 = 11 := Int32.toInt_inj.mp (by rw [e]; rfl)
        exact absurd q e11
      · have q : x1 = 12 := Int32.toInt_inj.mp (by rw [e]; rfl)
        exact absurd q e12
  exact z_WC.blk (t119_87 h) (fun _ _ _ _ _ _ _ _ hg hl k => e119_9  (z_Ln.tab (t := 87) rfl hd (z_Ln.lv (z_le.cons rfl rfl (z_le.cons rfl rfl (z_le.cons rfl rfl (z_le.cons rfl rfl z_le.nil)))) k)))
def p119_4 (l : Nat) (A : Nat → List (Nat × Int32)) (E : List (Nat × Option Nat)) (N : Nat → Nat) (V : Nat → Nat → Int32) (W : Nat) (c : Nat × Nat) (x1 : Int32) (y0 : Int32) (Q : z_V → z_CS → Prop) : Prop := z_Rm ([], c) ∧ z_WC l 118 0 [(0, .ref 145)] [] (A, E, N, V, W, c) (z_cx Q (fun x S1 => ∃ v : Int32, x = some (.int v) ∧ p119_9 l S1.1 S1.2.1 S1.2.2.1 S1.2.2.2.1 S1.2.2.2.2.1 S1.2.2.2.2.2 x1 y0 v Q))
set_option maxRecDepth 10000 in
theorem t119_4 {l : Nat} {A : Nat → List (Nat × Int32)} {E : List (Nat × Option Nat)} {N : Nat → Nat} {V : Nat → Nat → Int32} {W : Nat} {c : Nat × Nat} {x1 : Int32} {y0 : Int32} {Q : z_V → z_CS → Prop} (h : p119_4 l A E N V W c x1 y0 Q) : z_WC (l + 1) 119 4 [(0, .ref 145), (1, .int x1)] [.int y0] (A, E, N, V, W, c) Q := by
  unfold p119_4 at h
  obtain ⟨hm, h⟩ := h
  obtain ⟨o, S1, hc, h⟩ := h
  cases o with
  | inl x =>
    obtain ⟨v, rfl, h⟩ := h
    obtain ⟨o2, S2, hk, hQ⟩ := t119_9 h
    exact ⟨o2, S2, fun L xs fv f w g hg hl => e119_4   hm hl.f1 (hl.w1 118 (by decide)) (hc L xs fv _ _ g hg (hl.dn 118 (by decide))) (hk L xs fv f w g hg hl), hQ⟩
  | inr e =>
    obtain ⟨rfl, h⟩ := h
    exact ⟨_, S1, fun L xs fv f w g hg hl => e119_4x  hm hl.f1 (hl.w1 118 (by decide)) (hc L xs fv _ _ g hg (hl.dn 118 (by decide))), h⟩
def p119_0 (l : Nat) (A : Nat → List (Nat × Int32)) (E : List (Nat × Option Nat)) (N : Nat → Nat) (V : Nat → Nat → Int32) (W : Nat) (c : Nat × Nat) (x1 : Int32) (Q : z_V → z_CS → Prop) : Prop := z_Rm ([], c) ∧ z_WC l 118 0 [(0, .ref 145)] [] (A, E, N, V, W, c) (z_cx Q (fun x S1 => ∃ v : Int32, x = some (.int v) ∧ p119_4 l S1.1 S1.2.1 S1.2.2.1 S1.2.2.2.1 S1.2.2.2.2.1 S1.2.2.2.2.2 x1 v Q))
set_option maxRecDepth 10000 in
theorem t119_0 {l : Nat} {A : Nat → List (Nat × Int32)} {E : List (Nat × Option Nat)} {N : Nat → Nat} {V : Nat → Nat → Int32} {W : Nat} {c : Nat × Nat} {x1 : Int32} {Q : z_V → z_CS → Prop} (h : p119_0 l A E N V W c x1 Q) : z_WC (l + 1) 119 0 [(0, .ref 145), (1, .int x1)] [] (A, E, N, V, W, c) Q := by
  unfold p119_0 at h
  obtain ⟨hm, h⟩ := h
  obtain ⟨o, S1, hc, h⟩ := h
  cases o with
  | inl x =>
    obtain ⟨v, rfl, h⟩ := h
    obtain ⟨o2, S2, hk, hQ⟩ := t119_4 h
    exact ⟨o2, S2, fun L xs fv f w g hg hl => e119_0   hm hl.f1 (hl.w1 118 (by decide)) (hc L xs fv _ _ g hg (hl.dn 118 (by decide))) (hk L xs fv f w g hg hl), hQ⟩
  | inr e =>
    obtain ⟨rfl, h⟩ := h
    exact ⟨_, S1, fun L xs fv f w g hg hl => e119_0x  hm hl.f1 (hl.w1 118 (by decide)) (hc L xs fv _ _ g hg (hl.dn 118 (by decide))), h⟩
set_option maxRecDepth 10000 in
theorem e116_0 {L : Nat} {xs : Nat → Int32} {fv : Value} {f w : Nat} {c : Nat × Nat} {o : z_V} {T' : z_Y} {A : Nat → List (Nat × Int32)} {E : List (Nat × Option Nat)} {N : Nat → Nat} {V : Nat → Nat → Int32} {W : Nat} {g : List z_E}  (h1 : z_in (V 38 6) (N 14) = true) (kk : z_Ln L xs fv f w 116 12 [(0, .ref 145)] [.int (z_fn 0 (A 14) (V 38 6).toNatClampNeg)] (hC A E N V W ++ g, c) o T') : z_Ln L xs fv f w 116 0 [(0, .ref 145)] [] (hC A E N V W ++ g, c) o T' := z_Ln.blk (pc' := 12) (lv' := [(0, .ref 145)]) (st' := [.int (z_fn 0 (A 14) (V 38 6).toNatClampNeg)]) (H' := hC A E N V W ++ g) (C := [z_in (V 38 6) (N 14) = true]) 0 6 rfl h1 kk
set_option maxRecDepth 10000 in
theorem e116_84 {L : Nat} {xs : Nat → Int32} {fv : Value} {f w : Nat} {c : Nat × Nat} {o : z_V} {T' : z_Y} {A : Nat → List (Nat × Int32)} {E : List (Nat × Option Nat)} {N : Nat → Nat} {V : Nat → Nat → Int32} {W : Nat} {g : List z_E} {A1 : Nat → List (Nat × Int32)} {E1 : List (Nat × Option Nat)} {N1 : Nat → Nat} {V1 : Nat → Nat → Int32} {W1 : Nat} {g1 : List z_E} {c1 : Nat × Nat} (h1 : z_in (V 38 6) (N 15) = true)  (hRm : z_Rm (hC A E N V W ++ g, c)) (hf : 1 ≤ f) (hw : 19 + z_pg.2.1 117 ≤ w) (hc : z_Ln L xs fv (f - 1) (w - (19 + z_pg.2.1 117)) 117 0 [(0, .ref 145), (1, .int (z_fn 0 (A 15) (V 38 6).toNatClampNeg))] [] (hC A E N V W ++ g, c) (.inl (none)) (hC A1 E1 N1 V1 W1 ++ g1, c1)) (kk : z_Ln L xs fv f w 116 100 [(0, .ref 145)] [] (hC A1 E1 N1 V1 W1 ++ g1, c1) o T') : z_Ln L xs fv f w 116 84 [(0, .ref 145)] [] (hC A E N V W ++ g, c) o T' := z_Ln.blk (pc' := 97) (lv' := [(0, .ref 145)]) (st' := [.int (z_fn 0 (A 15) (V 38 6).toNatClampNeg), .ref 145]) (H' := hC A E N V W ++ g) (C := [z_in (V 38 6) (N 15) = true]) 7 7 rfl h1 (z_Ln.call (s := 0) (mj := 117) (as := [.ref 145, .int (z_fn 0 (A 15) (V 38 6).toNatClampNeg)]) (rr := []) (v := none) (T1 := (hC A1 E1 N1 V1 W1 ++ g1, c1)) rfl rfl ⟨⟨hf, hw⟩, (by decide : (0 : Nat) ≤ 8), (by decide +kernel : (2 : Nat) ≤ z_pg.2.1 117)⟩ hRm hc ⟨trivial, ⟨(z_sm0C 0 (by decide) rfl rfl), trivial⟩⟩ (kk))
set_option maxRecDepth 10000 in
theorem e116_84x {L : Nat} {xs : Nat → Int32} {fv : Value} {f w : Nat} {c : Nat × Nat} {T' : z_Y} {A : Nat → List (Nat × Int32)} {E : List (Nat × Option Nat)} {N : Nat → Nat} {V : Nat → Nat → Int32} {W : Nat} {g : List z_E} (h1 : z_in (V 38 6) (N 15) = true) (hRm : z_Rm (hC A E N V W ++ g, c)) (hf : 1 ≤ f) (hw : 19 + z_pg.2.1 117 ≤ w) (hc : z_Ln L xs fv (f - 1) (w - (19 + z_pg.2.1 117)) 117 0 [(0, .ref 145), (1, .int (z_fn 0 (A 15) (V 38 6).toNatClampNeg))] [] (hC A E N V W ++ g, c) (.inr 10) T') : z_Ln L xs fv f w 116 84 [(0, .ref 145)] [] (hC A E N V W ++ g, c) (.inr 10) T' := z_Ln.blk (pc' := 97) (lv' := [(0, .ref 145)]) (st' := [.int (z_fn 0 (A 15) (V 38 6).toNatClampNeg), .ref 145]) (H' := hC A E N V W ++ g) (C := [z_in (V 38 6) (N 15) = true]) 7 7 rfl h1 (z_Ln.past (s := 0) (mj := 117) (as := [.ref 145, .int (z_fn 0 (A 15) (V 38 6).toNatClampNeg)]) (rr := []) rfl rfl ⟨⟨hf, hw⟩, (by decide : (0 : Nat) ≤ 8), (by decide +kernel : (2 : Nat) ≤ z_pg.2.1 117)⟩ hRm hc rfl)
set_option maxRecDepth 10000 in
theorem e116_100 {L : Nat} {xs : Nat → Int32} {fv : Value} {f w : Nat} {c : Nat × Nat} {o : z_V} {T' : z_Y} {A : Nat → List (Nat × Int32)} {E : List (Nat × Option Nat)} {N : Nat → Nat} {V : Nat → Nat → Int32} {W : Nat} {g : List z_E}  (kk : z_Ln L xs fv f w 116 336 [(0, .ref 145)] [] (hC A E N (z_v V 38 6 ((V 38 6) + 1)) W ++ g, c) o T') : z_Ln L xs fv f w 116 100 [(0, .ref 145)] [] (hC A E N V W ++ g, c) o T' := z_Ln.blk (pc' := 336) (lv' := [(0, .ref 145)]) (st' := []) (H' := hC A E N (z_v V 38 6 ((V 38 6) + 1)) W ++ g) (C := [z_fit (z_fty 8 6) (.int ((V 38 6) + 1)) = true]) 15 7 rfl z_fitI (kk)
set_option maxRecDepth 10000 in
theorem e116_113 {L : Nat} {xs : Nat → Int32} {fv : Value} {f w : Nat} {c : Nat × Nat} {o : z_V} {T' : z_Y} {A : Nat → List (Nat × Int32)} {E : List (Nat × Option Nat)} {N : Nat → Nat} {V : Nat → Nat → Int32} {W : Nat} {g : List z_E} {A1 : Nat → List (Nat × Int32)} {E1 : List (Nat × Option Nat)} {N1 : Nat → Nat} {V1 : Nat → Nat → Int32} {W1 : Nat} {g1 : List z_E} {c1 : Nat × Nat} (h1 : z_in (V 38 6) (N 15) = true) (h2 : z_in (((V 38 3) + 4) + (z_fn 0 (A 15) (V 38 6).toNatClampNeg)) (N 39) = true)  (hRm : z_Rm (hC A E N V W ++ g, c)) (hf : 1 ≤ f) (hw : 19 + z_pg.2.1 117 ≤ w) (hc : z_Ln L xs fv (f - 1) (w - (19 + z_pg.2.1 117)) 117 0 [(0, .ref 145), (1, .int (z_fn 0 (A 39) (((V 38 3) + 4) + (z_fn 0 (A 15) (V 38 6).toNatClampNeg)).toNatClampNeg))] [] (hC A E N V W ++ g, c) (.inl (none)) (hC A1 E1 N1 V1 W1 ++ g1, c1)) (kk : z_Ln L xs fv f w 116 141 [(0, .ref 145)] [] (hC A1 E1 N1 V1 W1 ++ g1, c1) o T') : z_Ln L xs fv f w 116 113 [(0, .ref 145)] [] (hC A E N V W ++ g, c) o T' := z_Ln.blk (pc' := 138) (lv' := [(0, .ref 145)]) (st' := [.int (z_fn 0 (A 39) (((V 38 3) + 4) + (z_fn 0 (A 15) (V 38 6).toNatClampNeg)).toNatClampNeg), .ref 145]) (H' := hC A E N V W ++ g) (C := [z_in (V 38 6) (N 15) = true, z_in (((V 38 3) + 4) + (z_fn 0 (A 15) (V 38 6).toNatClampNeg)) (N 39) = true]) 22 15 rfl ⟨h1, h2⟩ (z_Ln.call (s := 0) (mj := 117) (as := [.ref 145, .int (z_fn 0 (A 39) (((V 38 3) + 4) + (z_fn 0 (A 15) (V 38 6).toNatClampNeg)).toNatClampNeg)]) (rr := []) (v := none) (T1 := (hC A1 E1 N1 V1 W1 ++ g1, c1)) rfl rfl ⟨⟨hf, hw⟩, (by decide : (0 : Nat) ≤ 8), (by decide +kernel : (2 : Nat) ≤ z_pg.2.1 117)⟩ hRm hc ⟨trivial, ⟨(z_sm0C 0 (by decide) rfl rfl), trivial⟩⟩ (kk))
set_option maxRecDepth 10000 in
theorem e116_113x {L : Nat} {xs : Nat → Int32} {fv : Value} {f w : Nat} {c : Nat × Nat} {T' : z_Y} {A : Nat → List (Nat × Int32)} {E : List (Nat × Option Nat)} {N : Nat → Nat} {V : Nat → Nat → Int32} {W : Nat} {g : List z_E} (h1 : z_in (V 38 6) (N 15) = true) (h2 : z_in (((V 38 3) + 4) + (z_fn 0 (A 15) (V 38 6).toNatClampNeg)) (N 39) = true) (hRm : z_Rm (hC A E N V W ++ g, c)) (hf : 1 ≤ f) (hw : 19 + z_pg.2.1 117 ≤ w) (hc : z_Ln L xs fv (f - 1) (w - (19 + z_pg.2.1 117)) 117 0 [(0, .ref 145), (1, .int (z_fn 0 (A 39) (((V 38 3) + 4) + (z_fn 0 (A 15) (V 38 6).toNatClampNeg)).toNatClampNeg))] [] (hC A E N V W ++ g, c) (.inr 10) T') : z_Ln L xs fv f w 116 113 [(0, .ref 145)] [] (hC A E N V W ++ g, c) (.inr 10) T' := z_Ln.blk (pc' := 138) (lv' := [(0, .ref 145)]) (st' := [.int (z_fn 0 (A 39) (((V 38 3) + 4) + (z_fn 0 (A 15) (V 38 6).toNatClampNeg)).toNatClampNeg), .ref 145]) (H' := hC A E N V W ++ g) (C := [z_in (V 38 6) (N 15) = true, z_in (((V 38 3) + 4) + (z_fn 0 (A 15) (V 38 6).toNatClampNeg)) (N 39) = true]) 22 15 rfl ⟨h1, h2⟩ (z_Ln.past (s := 0) (mj := 117) (as := [.ref 145, .int (z_fn 0 (A 39) (((V 38 3) + 4) + (z_fn 0 (A 15) (V 38 6).toNatClampNeg)).toNatClampNeg)]) (rr := []) rfl rfl ⟨⟨hf, hw⟩, (by decide : (0 : Nat) ≤ 8), (by decide +kernel : (2 : Nat) ≤ z_pg.2.1 117)⟩ hRm hc rfl)
set_option maxRecDepth 10000 in
theorem e116_141 {L : Nat} {xs : Nat → Int32} {fv : Value} {f w : Nat} {c : Nat × Nat} {o : z_V} {T' : z_Y} {A : Nat → List (Nat × Int32)} {E : List (Nat × Option Nat)} {N : Nat → Nat} {V : Nat → Nat → Int32} {W : Nat} {g : List z_E}  (kk : z_Ln L xs fv f w 116 336 [(0, .ref 145)] [] (hC A E N (z_v V 38 6 ((V 38 6) + 1)) W ++ g, c) o T') : z_Ln L xs fv f w 116 141 [(0, .ref 145)] [] (hC A E N V W ++ g, c) o T' := z_Ln.blk (pc' := 336) (lv' := [(0, .ref 145)]) (st' := []) (H' := hC A E N (z_v V 38 6 ((V 38 6) + 1)) W ++ g) (C := [z_fit (z_fty 8 6) (.int ((V 38 6) + 1)) = true]) 38 7 rfl z_fitI (kk)
set_option maxRecDepth 10000 in
theorem e116_154 {L : Nat} {xs : Nat → Int32} {fv : Value} {f w : Nat} {c : Nat × Nat} {o : z_V} {T' : z_Y} {A : Nat → List (Nat × Int32)} {E : List (Nat × Option Nat)} {N : Nat → Nat} {V : Nat → Nat → Int32} {W : Nat} {g : List z_E} {A1 : Nat → List (Nat × Int32)} {E1 : List (Nat × Option Nat)} {N1 : Nat → Nat} {V1 : Nat → Nat → Int32} {W1 : Nat} {g1 : List z_E} {c1 : Nat × Nat} (h1 : z_in ((V 38 3) + 2) (N 39) = true) (h2 : z_in (V 38 6) (N 15) = true) (h3 : z_in (((z_fn 0 (A 39) ((V 38 3) + 2).toNatClampNeg) + 1) + (z_fn 0 (A 15) (V 38 6).toNatClampNeg)) (N 40) = true)  (hRm : z_Rm (hC A E N V W ++ g, c)) (hf : 1 ≤ f) (hw : 19 + z_pg.2.1 117 ≤ w) (hc : z_Ln L xs fv (f - 1) (w - (19 + z_pg.2.1 117)) 117 0 [(0, .ref 145), (1, .int (z_fn 0 (A 40) (((z_fn 0 (A 39) ((V 38 3) + 2).toNatClampNeg) + 1) + (z_fn 0 (A 15) (V 38 6).toNatClampNeg)).toNatClampNeg))] [] (hC A E N V W ++ g, c) (.inl (none)) (hC A1 E1 N1 V1 W1 ++ g1, c1)) (kk : z_Ln L xs fv f w 116 189 [(0, .ref 145)] [] (hC A1 E1 N1 V1 W1 ++ g1, c1) o T') : z_Ln L xs fv f w 116 154 [(0, .ref 145)] [] (hC A E N V W ++ g, c) o T' := z_Ln.blk (pc' := 186) (lv' := [(0, .ref 145)]) (st' := [.int (z_fn 0 (A 40) (((z_fn 0 (A 39) ((V 38 3) + 2).toNatClampNeg) + 1) + (z_fn 0 (A 15) (V 38 6).toNatClampNeg)).toNatClampNeg), .ref 145]) (H' := hC A E N V W ++ g) (C := [z_in ((V 38 3) + 2) (N 39) = true, z_in (V 38 6) (N 15) = true, z_in (((z_fn 0 (A 39) ((V 38 3) + 2).toNatClampNeg) + 1) + (z_fn 0 (A 15) (V 38 6).toNatClampNeg)) (N 40) = true]) 45 20 rfl ⟨h1, h2, h3⟩ (z_Ln.call (s := 0) (mj := 117) (as := [.ref 145, .int (z_fn 0 (A 40) (((z_fn 0 (A 39) ((V 38 3) + 2).toNatClampNeg) + 1) + (z_fn 0 (A 15) (V 38 6).toNatClampNeg)).toNatClampNeg)]) (rr := []) (v := none) (T1 := (hC A1 E1 N1 V1 W1 ++ g1, c1)) rfl rfl ⟨⟨hf, hw⟩, (by decide : (0 : Nat) ≤ 8), (by decide +kernel : (2 : Nat) ≤ z_pg.2.1 117)⟩ hRm hc ⟨trivial, ⟨(z_sm0C 0 (by decide) rfl rfl), trivial⟩⟩ (kk))
set_option maxRecDepth 10000 in
theorem e116_154x {L : Nat} {xs : Nat → Int32} {fv : Value} {f w : Nat} {c : Nat × Nat} {T' : z_Y} {A : Nat → List (Nat × Int32)} {E : List (Nat × Option Nat)} {N : Nat → Nat} {V : Nat → Nat → Int32} {W : Nat} {g : List z_E} (h1 : z_in ((V 38 3) + 2) (N 39) = true) (h2 : z_in (V 38 6) (N 15) = true) (h3 : z_in (((z_fn 0 (A 39) ((V 38 3) + 2).toNatClampNeg) + 1) + (z_fn 0 (A 15) (V 38 6).toNatClampNeg)) (N 40) = true) (hRm : z_Rm (hC A E N V W ++ g, c)) (hf : 1 ≤ f) (hw : 19 + z_pg.2.1 117 ≤ w) (hc : z_Ln L xs fv (f - 1) (w - (19 + z_pg.2.1 117)) 117 0 [(0, .ref 145), (1, .int (z_fn 0 (A 40) (((z_fn 0 (A 39) ((V 38 3) + 2).toNatClampNeg) + 1) + (z_fn 0 (A 15) (V 38 6).toNatClampNeg)).toNatClampNeg))] [] (hC A E N V W ++ g, c) (.inr 10) T') : z_Ln L xs fv f w 116 154 [(0, .ref 145)] [] (hC A E N V W ++ g, c) (.inr 10) T' := z_Ln.blk (pc' := 186) (lv' := [(0, .ref 145)]) (st' := [.int (z_fn 0 (A 40) (((z_fn 0 (A 39) ((V 38 3) + 2).toNatClampNeg) + 1) + (z_fn 0 (A 15) (V 38 6).toNatClampNeg)).toNatClampNeg), .ref 145]) (H' := hC A E N V W ++ g) (C := [z_in ((V 38 3) + 2) (N 39) = true, z_in (V 38 6) (N 15) = true, z_in (((z_fn 0 (A 39) ((V 38 3) + 2).toNatClampNeg) + 1) + (z_fn 0 (A 15) (V 38 6).toNatClampNeg)) (N 40) = true]) 45 20 rfl ⟨h1, h2, h3⟩ (z_Ln.past (s := 0) (mj := 117) (as := [.ref 145, .int (z_fn 0 (A 40) (((z_fn 0 (A 39) ((V 38 3) + 2).toNatClampNeg) + 1) + (z_fn 0 (A 15) (V 38 6).toNatClampNeg)).toNatClampNeg)]) (rr := []) rfl rfl ⟨⟨hf, hw⟩, (by decide : (0 : Nat) ≤ 8), (by decide +kernel : (2 : Nat) ≤ z_pg.2.1 117)⟩ hRm hc rfl)
set_option maxRecDepth 10000 in
theorem e116_189 {L : Nat} {xs : Nat → Int32} {fv : Value} {f w : Nat} {c : Nat × Nat} {o : z_V} {T' : z_Y} {A : Nat → List (Nat × Int32)} {E : List (Nat × Option Nat)} {N : Nat → Nat} {V : Nat → Nat → Int32} {W : Nat} {g : List z_E}  (kk : z_Ln L xs fv f w 116 336 [(0, .ref 145)] [] (hC A E N (z_v V 38 6 ((V 38 6) + 1)) W ++ g, c) o T') : z_Ln L xs fv f w 116 189 [(0, .ref 145)] [] (hC A E N V W ++ g, c) o T' := z_Ln.blk (pc' := 336) (lv' := [(0, .ref 145)]) (st' := []) (H' := hC A E N (z_v V 38 6 ((V 38 6) + 1)) W ++ g) (C := [z_fit (z_fty 8 6) (.int ((V 38 6) + 1)) = true]) 66 7 rfl z_fitI (kk)
set_option maxRecDepth 10000 in
theorem e116_202 {L : Nat} {xs : Nat → Int32} {fv : Value} {f w : Nat} {c : Nat × Nat} {o : z_V} {T' : z_Y} {A : Nat → List (Nat × Int32)} {E : List (Nat × Option Nat)} {N : Nat → Nat} {V : Nat → Nat → Int32} {W : Nat} {g : List z_E} {A1 : Nat → List (Nat × Int32)} {E1 : List (Nat × Option Nat)} {N1 : Nat → Nat} {V1 : Nat → Nat → Int32} {W1 : Nat} {g1 : List z_E} {c1 : Nat × Nat} {v : Int32} (h1 : z_in (V 38 6) (N 15) = true) (hN39 : N1 39 = N 39) (hRm : z_Rm (hC A E N V W ++ g, c)) (hf : 1 ≤ f) (hw : 19 + z_pg.2.1 118 ≤ w) (hc : z_Ln L xs fv (f - 1) (w - (19 + z_pg.2.1 118)) 118 0 [(0, .ref 145)] [] (hC A E N V W ++ g, c) (.inl (some (.int v))) (hC A1 E1 N1 V1 W1 ++ g1, c1)) (kk : z_Ln L xs fv f w 116 229 [(0, .ref 145)] [.int v, .int (((V 38 3) + 4) + (z_fn 0 (A 15) (V 38 6).toNatClampNeg)), .ref 146] (hC A1 E1 N1 V1 W1 ++ g1, c1) o T') : z_Ln L xs fv f w 116 202 [(0, .ref 145)] [] (hC A E N V W ++ g, c) o T' := z_Ln.blk (pc' := 226) (lv' := [(0, .ref 145)]) (st' := [.ref 145, .int (((V 38 3) + 4) + (z_fn 0 (A 15) (V 38 6).toNatClampNeg)), .ref 146]) (H' := hC A E N V W ++ g) (C := [z_in (V 38 6) (N 15) = true]) 73 14 rfl h1 (z_Ln.call (s := 0) (mj := 118) (as := [.ref 145]) (rr := [.int (((V 38 3) + 4) + (z_fn 0 (A 15) (V 38 6).toNatClampNeg)), .ref 146]) (v := some (.int v)) (T1 := (hC A1 E1 N1 V1 W1 ++ g1, c1)) rfl rfl ⟨⟨hf, hw⟩, (by decide : (2 : Nat) ≤ 8), (by decide +kernel : (1 : Nat) ≤ z_pg.2.1 118)⟩ hRm hc ⟨⟨trivial, (z_sm0C (N 39) (by decide) rfl hN39), trivial⟩, ⟨(z_sm0C 0 (by decide) rfl rfl), trivial⟩⟩ (kk))
set_option maxRecDepth 10000 in
theorem e116_202x {L : Nat} {xs : Nat → Int32} {fv : Value} {f w : Nat} {c : Nat × Nat} {T' : z_Y} {A : Nat → List (Nat × Int32)} {E : List (Nat × Option Nat)} {N : Nat → Nat} {V : Nat → Nat → Int32} {W : Nat} {g : List z_E} (h1 : z_in (V 38 6) (N 15) = true) (hRm : z_Rm (hC A E N V W ++ g, c)) (hf : 1 ≤ f) (hw : 19 + z_pg.2.1 118 ≤ w) (hc : z_Ln L xs fv (f - 1) (w - (19 + z_pg.2.1 118)) 118 0 [(0, .ref 145)] [] (hC A E N V W ++ g, c) (.inr 10) T') : z_Ln L xs fv f w 116 202 [(0, .ref 145)] [] (hC A E N V W ++ g, c) (.inr 10) T' := z_Ln.blk (pc' := 226) (lv' := [(0, .ref 145)]) (st' := [.ref 145, .int (((V 38 3) + 4) + (z_fn 0 (A 15) (V 38 6).toNatClampNeg)), .ref 146]) (H' := hC A E N V W ++ g) (C := [z_in (V 38 6) (N 15) = true]) 73 14 rfl h1 (z_Ln.past (s := 0) (mj := 118) (as := [.ref 145]) (rr := [.int (((V 38 3) + 4) + (z_fn 0 (A 15) (V 38 6).toNatClampNeg)), .ref 146]) rfl rfl ⟨⟨hf, hw⟩, (by decide : (2 : Nat) ≤ 8), (by decide +kernel : (1 : Nat) ≤ z_pg.2.1 118)⟩ hRm hc rfl)
set_option maxRecDepth 10000 in
theorem e116_229 {L : Nat} {xs : Nat → Int32} {fv : Value} {f w : Nat} {c : Nat × Nat} {o : z_V} {T' : z_Y} {A : Nat → List (Nat × Int32)} {E : List (Nat × Option Nat)} {N : Nat → Nat} {V : Nat → Nat → Int32} {W : Nat} {g : List z_E} {y0 : Int32} {y1 : Int32} (h1 : z_in y1 (N 39) = true) (kk : z_Ln L xs fv f w 116 336 [(0, .ref 145)] [] (hC (z_u A 39 ((y1.toNatClampNeg, y0) :: A 39)) E N (z_v V 38 6 ((V 38 6) + 1)) W ++ g, c) o T') : z_Ln L xs fv f w 116 229 [(0, .ref 145)] [.int y0, .int y1, .ref 146] (hC A E N V W ++ g, c) o T' := z_Ln.blk (pc' := 336) (lv' := [(0, .ref 145)]) (st' := []) (H' := hC (z_u A 39 ((y1.toNatClampNeg, y0) :: A 39)) E N (z_v V 38 6 ((V 38 6) + 1)) W ++ g) (C := [z_in y1 (N 39) = true, z_fit (z_fty 8 6) (.int ((V 38 6) + 1)) = true]) 88 8 rfl ⟨h1, z_fitI⟩ (kk)
set_option maxRecDepth 10000 in
theorem e116_243 {L : Nat} {xs : Nat → Int32} {fv : Value} {f w : Nat} {c : Nat × Nat} {o : z_V} {T' : z_Y} {A : Nat → List (Nat × Int32)} {E : List (Nat × Option Nat)} {N : Nat → Nat} {V : Nat → Nat → Int32} {W : Nat} {g : List z_E} {A1 : Nat → List (Nat × Int32)} {E1 : List (Nat × Option Nat)} {N1 : Nat → Nat} {V1 : Nat → Nat → Int32} {W1 : Nat} {g1 : List z_E} {c1 : Nat × Nat} {v : Int32}   (hRm : z_Rm (hC A E N V W ++ g, c)) (hf : 1 ≤ f) (hw : 19 + z_pg.2.1 118 ≤ w) (hc : z_Ln L xs fv (f - 1) (w - (19 + z_pg.2.1 118)) 118 0 [(0, .ref 145)] [] (hC A E N V W ++ g, c) (.inl (some (.int v))) (hC A1 E1 N1 V1 W1 ++ g1, c1)) (kk : z_Ln L xs fv f w 116 248 [(0, .ref 145)] [.int v, .ref 145] (hC A1 E1 N1 V1 W1 ++ g1, c1) o T') : z_Ln L xs fv f w 116 243 [(0, .ref 145)] [] (hC A E N V W ++ g, c) o T' := z_Ln.blk (pc' := 245) (lv' := [(0, .ref 145)]) (st' := [.ref 145, .ref 145]) (H' := hC A E N V W ++ g) (C := []) 96 2 rfl trivial (z_Ln.call (s := 0) (mj := 118) (as := [.ref 145]) (rr := [.ref 145]) (v := some (.int v)) (T1 := (hC A1 E1 N1 V1 W1 ++ g1, c1)) rfl rfl ⟨⟨hf, hw⟩, (by decide : (1 : Nat) ≤ 8), (by decide +kernel : (1 : Nat) ≤ z_pg.2.1 118)⟩ hRm hc ⟨⟨(z_sm0C 0 (by decide) rfl rfl), trivial⟩, ⟨(z_sm0C 0 (by decide) rfl rfl), trivial⟩⟩ (kk))
set_option maxRecDepth 10000 in
theorem e116_243x {L : Nat} {xs : Nat → Int32} {fv : Value} {f w : Nat} {c : Nat × Nat} {T' : z_Y} {A : Nat → List (Nat × Int32)} {E : List (Nat × Option Nat)} {N : Nat → Nat} {V : Nat → Nat → Int32} {W : Nat} {g : List z_E}  (hRm : z_Rm (hC A E N V W ++ g, c)) (hf : 1 ≤ f) (hw : 19 + z_pg.2.1 118 ≤ w) (hc : z_Ln L xs fv (f - 1) (w - (19 + z_pg.2.1 118)) 118 0 [(0, .ref 145)] [] (hC A E N V W ++ g, c) (.inr 10) T') : z_Ln L xs fv f w 116 243 [(0, .ref 145)] [] (hC A E N V W ++ g, c) (.inr 10) T' := z_Ln.blk (pc' := 245) (lv' := [(0, .ref 145)]) (st' := [.ref 145, .ref 145]) (H' := hC A E N V W ++ g) (C := []) 96 2 rfl trivial (z_Ln.past (s := 0) (mj := 118) (as := [.ref 145]) (rr := [.ref 145]) rfl rfl ⟨⟨hf, hw⟩, (by decide : (1 : Nat) ≤ 8), (by decide +kernel : (1 : Nat) ≤ z_pg.2.1 118)⟩ hRm hc rfl)
set_option maxRecDepth 10000 in
theorem e116_248t {L : Nat} {xs : Nat → Int32} {fv : Value} {f w : Nat} {c : Nat × Nat} {o : z_V} {T' : z_Y} {A : Nat → List (Nat × Int32)} {E : List (Nat × Option Nat)} {N : Nat → Nat} {V : Nat → Nat → Int32} {W : Nat} {g : List z_E} {y0 : Int32}  (hb : y0 = 0) (kk : z_Ln L xs fv f w 116 260 [(0, .ref 145)] [.ref 145] (hC A E N V W ++ g, c) o T') : z_Ln L xs fv f w 116 248 [(0, .ref 145)] [.int y0, .ref 145] (hC A E N V W ++ g, c) o T' := z_Ln.blk (pc' := (if decide (y0 = 0) = true then 260 else 251)) (lv' := [(0, .ref 145)]) (st' := [.ref 145]) (H' := hC A E N V W ++ g) (C := []) 99 1 rfl trivial (z_Ln.brT (decide_eq_true hb) (kk))
set_option maxRecDepth 10000 in
theorem e116_248f {L : Nat} {xs : Nat → Int32} {fv : Value} {f w : Nat} {c : Nat × Nat} {o : z_V} {T' : z_Y} {A : Nat → List (Nat × Int32)} {E : List (Nat × Option Nat)} {N : Nat → Nat} {V : Nat → Nat → Int32} {W : Nat} {g : List z_E} {y0 : Int32}  (hb : ¬ (y0 = 0)) (kk : z_Ln L xs fv f w 116 251 [(0, .ref 145)] [.ref 145] (hC A E N V W ++ g, c) o T') : z_Ln L xs fv f w 116 248 [(0, .ref 145)] [.int y0, .ref 145] (hC A E N V W ++ g, c) o T' := z_Ln.blk (pc' := (if decide (y0 = 0) = true then 260 else 251)) (lv' := [(0, .ref 145)]) (st' := [.ref 145]) (H' := hC A E N V W ++ g) (C := []) 99 1 rfl trivial (z_Ln.brF (decide_eq_false hb) (kk))
set_option maxRecDepth 10000 in
theorem e116_251 {L : Nat} {xs : Nat → Int32} {fv : Value} {f w : Nat} {c : Nat × Nat} {o : z_V} {T' : z_Y} {A : Nat → List (Nat × Int32)} {E : List (Nat × Option Nat)} {N : Nat → Nat} {V : Nat → Nat → Int32} {W : Nat} {g : List z_E}  (kk : z_Ln L xs fv f w 116 272 [(0, .ref 145)] [.int ((V 38 6) + 1), .ref 145] (hC A E N V W ++ g, c) o T') : z_Ln L xs fv f w 116 251 [(0, .ref 145)] [.ref 145] (hC A E N V W ++ g, c) o T' := z_Ln.blk (pc' := 272) (lv' := [(0, .ref 145)]) (st' := [.int ((V 38 6) + 1), .ref 145]) (H' := hC A E N V W ++ g) (C := []) 100 5 rfl trivial (kk)
set_option maxRecDepth 10000 in
theorem e116_260 {L : Nat} {xs : Nat → Int32} {fv : Value} {f w : Nat} {c : Nat × Nat} {o : z_V} {T' : z_Y} {A : Nat → List (Nat × Int32)} {E : List (Nat × Option Nat)} {N : Nat → Nat} {V : Nat → Nat → Int32} {W : Nat} {g : List z_E} (h1 : z_in (V 38 6) (N 15) = true) (kk : z_Ln L xs fv f w 116 272 [(0, .ref 145)] [.int (z_fn 0 (A 15) (V 38 6).toNatClampNeg), .ref 145] (hC A E N V W ++ g, c) o T') : z_Ln L xs fv f w 116 260 [(0, .ref 145)] [.ref 145] (hC A E N V W ++ g, c) o T' := z_Ln.blk (pc' := 272) (lv' := [(0, .ref 145)]) (st' := [.int (z_fn 0 (A 15) (V 38 6).toNatClampNeg), .ref 145]) (H' := hC A E N V W ++ g) (C := [z_in (V 38 6) (N 15) = true]) 105 6 rfl h1 (kk)
set_option maxRecDepth 10000 in
theorem e116_272 {L : Nat} {xs : Nat → Int32} {fv : Value} {f w : Nat} {c : Nat × Nat} {o : z_V} {T' : z_Y} {A : Nat → List (Nat × Int32)} {E : List (Nat × Option Nat)} {N : Nat → Nat} {V : Nat → Nat → Int32} {W : Nat} {g : List z_E} {y0 : Int32}  (kk : z_Ln L xs fv f w 116 336 [(0, .ref 145)] [] (hC A E N (z_v V 38 6 (y0)) W ++ g, c) o T') : z_Ln L xs fv f w 116 272 [(0, .ref 145)] [.int y0, .ref 145] (hC A E N V W ++ g, c) o T' := z_Ln.blk (pc' := 336) (lv' := [(0, .ref 145)]) (st' := []) (H' := hC A E N (z_v V 38 6 (y0)) W ++ g) (C := [z_fit (z_fty 8 6) (.int y0) = true]) 111 2 rfl z_fitI (kk)
set_option maxRecDepth 10000 in
theorem e116_278 {L : Nat} {xs : Nat → Int32} {fv : Value} {f w : Nat} {c : Nat × Nat} {o : z_V} {T' : z_Y} {A : Nat → List (Nat × Int32)} {E : List (Nat × Option Nat)} {N : Nat → Nat} {V : Nat → Nat → Int32} {W : Nat} {g : List z_E} (h1 : z_in (V 38 6) (N 15) = true) (kk : z_Ln L xs fv f w 116 336 [(0, .ref 145)] [] (hC A E N (z_v V 38 6 (z_fn 0 (A 15) (V 38 6).toNatClampNeg)) W ++ g, c) o T') : z_Ln L xs fv f w 116 278 [(0, .ref 145)] [] (hC A E N V W ++ g, c) o T' := z_Ln.blk (pc' := 336) (lv' := [(0, .ref 145)]) (st' := []) (H' := hC A E N (z_v V 38 6 (z_fn 0 (A 15) (V 38 6).toNatClampNeg)) W ++ g) (C := [z_in (V 38 6) (N 15) = true, z_fit (z_fty 8 6) (.int (z_fn 0 (A 15) (V 38 6).toNatClampNeg)) = true]) 113 9 rfl ⟨h1, z_fitI⟩ (kk)
set_option maxRecDepth 10000 in
theorem e116_297 {L : Nat} {xs : Nat → Int32} {fv : Value} {f w : Nat} {c : Nat × Nat} {o : z_V} {T' : z_Y} {A : Nat → List (Nat × Int32)} {E : List (Nat × Option Nat)} {N : Nat → Nat} {V : Nat → Nat → Int32} {W : Nat} {g : List z_E} {A1 : Nat → List (Nat × Int32)} {E1 : List (Nat × Option Nat)} {N1 : Nat → Nat} {V1 : Nat → Nat → Int32} {W1 : Nat} {g1 : List z_E} {c1 : Nat × Nat} (h1 : z_in (V 38 6) (N 14) = true)  (hRm : z_Rm (hC A E N V W ++ g, c)) (hf : 1 ≤ f) (hw : 19 + z_pg.2.1 119 ≤ w) (hc : z_Ln L xs fv (f - 1) (w - (19 + z_pg.2.1 119)) 119 0 [(0, .ref 145), (1, .int (z_fn 0 (A 14) (V 38 6).toNatClampNeg))] [] (hC A E N V W ++ g, c) (.inl (none)) (hC A1 E1 N1 V1 W1 ++ g1, c1)) (kk : z_Ln L xs fv f w 116 313 [(0, .ref 145)] [] (hC A1 E1 N1 V1 W1 ++ g1, c1) o T') : z_Ln L xs fv f w 116 297 [(0, .ref 145)] [] (hC A E N V W ++ g, c) o T' := z_Ln.blk (pc' := 310) (lv' := [(0, .ref 145)]) (st' := [.int (z_fn 0 (A 14) (V 38 6).toNatClampNeg), .ref 145]) (H' := hC A E N V W ++ g) (C := [z_in (V 38 6) (N 14) = true]) 122 7 rfl h1 (z_Ln.call (s := 0) (mj := 119) (as := [.ref 145, .int (z_fn 0 (A 14) (V 38 6).toNatClampNeg)]) (rr := []) (v := none) (T1 := (hC A1 E1 N1 V1 W1 ++ g1, c1)) rfl rfl ⟨⟨hf, hw⟩, (by decide : (0 : Nat) ≤ 8), (by decide +kernel : (2 : Nat) ≤ z_pg.2.1 119)⟩ hRm hc ⟨trivial, ⟨(z_sm0C 0 (by decide) rfl rfl), trivial⟩⟩ (kk))
set_option maxRecDepth 10000 in
theorem e116_297x {L : Nat} {xs : Nat → Int32} {fv : Value} {f w : Nat} {c : Nat × Nat} {T' : z_Y} {A : Nat → List (Nat × Int32)} {E : List (Nat × Option Nat)} {N : Nat → Nat} {V : Nat → Nat → Int32} {W : Nat} {g : List z_E} (h1 : z_in (V 38 6) (N 14) = true) (hRm : z_Rm (hC A E N V W ++ g, c)) (hf : 1 ≤ f) (hw : 19 + z_pg.2.1 119 ≤ w) (hc : z_Ln L xs fv (f - 1) (w - (19 + z_pg.2.1 119)) 119 0 [(0, .ref 145), (1, .int (z_fn 0 (A 14) (V 38 6).toNatClampNeg))] [] (hC A E N V W ++ g, c) (.inr 10) T') : z_Ln L xs fv f w 116 297 [(0, .ref 145)] [] (hC A E N V W ++ g, c) (.inr 10) T' := z_Ln.blk (pc' := 310) (lv' := [(0, .ref 145)]) (st' := [.int (z_fn 0 (A 14) (V 38 6).toNatClampNeg), .ref 145]) (H' := hC A E N V W ++ g) (C := [z_in (V 38 6) (N 14) = true]) 122 7 rfl h1 (z_Ln.past (s := 0) (mj := 119) (as := [.ref 145, .int (z_fn 0 (A 14) (V 38 6).toNatClampNeg)]) (rr := []) rfl rfl ⟨⟨hf, hw⟩, (by decide : (0 : Nat) ≤ 8), (by decide +kernel : (2 : Nat) ≤ z_pg.2.1 119)⟩ hRm hc rfl)
set_option maxRecDepth 10000 in
theorem e116_313 {L : Nat} {xs : Nat → Int32} {fv : Value} {f w : Nat} {c : Nat × Nat} {o : z_V} {T' : z_Y} {A : Nat → List (Nat × Int32)} {E : List (Nat × Option Nat)} {N : Nat → Nat} {V : Nat → Nat → Int32} {W : Nat} {g : List z_E}  (kk : z_Ln L xs fv f w 116 336 [(0, .ref 145)] [] (hC A E N (z_v V 38 6 ((V 38 6) + 1)) W ++ g, c) o T') : z_Ln L xs fv f w 116 313 [(0, .ref 145)] [] (hC A E N V W ++ g, c) o T' := z_Ln.blk (pc' := 336) (lv' := [(0, .ref 145)]) (st' := []) (H' := hC A E N (z_v V 38 6 ((V 38 6) + 1)) W ++ g) (C := [z_fit (z_fty 8 6) (.int ((V 38 6) + 1)) = true]) 130 7 rfl z_fitI (kk)
set_option maxRecDepth 10000 in
theorem e116_326 {L : Nat} {xs : Nat → Int32} {fv : Value} {f w : Nat} {c : Nat × Nat} {o : z_V} {T' : z_Y} {A : Nat → List (Nat × Int32)} {E : List (Nat × Option Nat)} {N : Nat → Nat} {V : Nat → Nat → Int32} {W : Nat} {g : List z_E}  (kk : z_Ln L xs fv f w 116 336 [(0, .ref 145)] [] (hC A E N (z_v V 38 6 ((V 38 6) + 1)) W ++ g, c) o T') : z_Ln L xs fv f w 116 326 [(0, .ref 145)] [] (hC A E N V W ++ g, c) o T' := z_Ln.blk (pc' := 336) (lv' := [(0, .ref 145)]) (st' := []) (H' := hC A E N (z_v V 38 6 ((V 38 6) + 1)) W ++ g) (C := [z_fit (z_fty 8 6) (.int ((V 38 6) + 1)) = true]) 137 6 rfl z_fitI (kk)
set_option maxRecDepth 10000 in
theorem e116_336 {L : Nat} {xs : Nat → Int32} {fv : Value} {f w : Nat} {c : Nat × Nat} {A : Nat → List (Nat × Int32)} {E : List (Nat × Option Nat)} {N : Nat → Nat} {V : Nat → Nat → Int32} {W : Nat} {g : List z_E}  : z_Ln L xs fv f w 116 336 [(0, .ref 145)] [] (hC A E N V W ++ g, c) (.inl none) (hC A E N V W ++ g, c) := z_Ln.ret rfl rfl
def p116_336 (l : Nat) (A : Nat → List (Nat × Int32)) (E : List (Nat × Option Nat)) (N : Nat → Nat) (V : Nat → Nat → Int32) (W : Nat) (c : Nat × Nat)  (Q : z_V → z_CS → Prop) : Prop := Q (.inl (none)) (A, E, N, V, W, c)
set_option maxRecDepth 10000 in
theorem t116_336 {l : Nat} {A : Nat → List (Nat × Int32)} {E : List (Nat × Option Nat)} {N : Nat → Nat} {V : Nat → Nat → Int32} {W : Nat} {c : Nat × Nat}  {Q : z_V → z_CS → Prop} (h : p116_336 l A E N V W c  Q) : z_WC (l + 1) 116 336 [(0, .ref 145)] [] (A, E, N, V, W, c) Q := by
  unfold p116_336 at h
  exact ⟨(.inl (none)), (A, E, N, V, W, c), fun _ _ _ _ _ _ hg hl => e116_336 , h⟩
def p116_326 (l : Nat) (A : Nat → List (Nat × Int32)) (E : List (Nat × Option Nat)) (N : Nat → Nat) (V : Nat → Nat → Int32) (W : Nat) (c : Nat × Nat)  (Q : z_V → z_CS → Prop) : Prop := p116_336 l A E N (z_v V 38 6 ((V 38 6) + 1)) W c  Q
set_option maxRecDepth 10000 in
theorem t116_326 {l : Nat} {A : Nat → List (Nat × Int32)} {E : List (Nat × Option Nat)} {N : Nat → Nat} {V : Nat → Nat → Int32} {W : Nat} {c : Nat × Nat}  {Q : z_V → z_CS → Prop} (h : p116_326 l A E N V W c  Q) : z_WC (l + 1) 116 326 [(0, .ref 145)] [] (A, E, N, V, W, c) Q := by
  unfold p116_326 at h
  exact z_WC.blk (t116_336 h) (fun _ _ _ _ _ _ _ _ hg hl k => e116_326  k)
def p116_100 (l : Nat) (A : Nat → List (Nat × Int32)) (E : List (Nat × Option Nat)) (N : Nat → Nat) (V : Nat → Nat → Int32) (W : Nat) (c : Nat × Nat)  (Q : z_V → z_CS → Prop) : Prop := p116_336 l A E N (z_v V 38 6 ((V 38 6) + 1)) W c  Q
set_option maxRecDepth 10000 in
theorem t116_100 {l : Nat} {A : Nat → List (Nat × Int32)} {E : List (Nat × Option Nat)} {N : Nat → Nat} {V : Nat → Nat → Int32} {W : Nat} {c : Nat × Nat}  {Q : z_V → z_CS → Prop} (h : p116_100 l A E N V W c  Q) : z_WC (l + 1) 116 100 [(0, .ref 145)] [] (A, E, N, V, W, c) Q := by
  unfold p116_100 at h
  exact z_WC.blk (t116_336 h) (fun _ _ _ _ _ _ _ _ hg hl k => e116_100  k)
def p116_84 (l : Nat) (A : Nat → List (Nat × Int32)) (E : List (Nat × Option Nat)) (N : Nat → Nat) (V : Nat → Nat → Int32) (W : Nat) (c : Nat × Nat)  (Q : z_V → z_CS → Prop) : Prop := z_in (V 38 6) (N 15) = true ∧ z_Rm ([], c) ∧ z_WC l 117 0 [(0, .ref 145), (1, .int (z_fn 0 (A 15) (V 38 6).toNatClampNeg))] [] (A, E, N, V, W, c) (z_cx Q (fun x S1 => x = none ∧ p116_100 l S1.1 S1.2.1 S1.2.2.1 S1.2.2.2.1 S1.2.2.2.2.1 S1.2.2.2.2.2  Q))
set_option maxRecDepth 10000 in
theorem t116_84 {l : Nat} {A : Nat → List (Nat × Int32)} {E : List (Nat × Option Nat)} {N : Nat → Nat} {V : Nat → Nat → Int32} {W : Nat} {c : Nat × Nat}  {Q : z_V → z_CS → Prop} (h : p116_84 l A E N V W c  Q) : z_WC (l + 1) 116 84 [(0, .ref 145)] [] (A, E, N, V, W, c) Q := by
  unfold p116_84 at h
  obtain ⟨h1, hm, h⟩ := h
  obtain ⟨o, S1, hc, h⟩ := h
  cases o with
  | inl x =>
    obtain ⟨rfl, h⟩ := h
    obtain ⟨o2, S2, hk, hQ⟩ := t116_100 h
    exact ⟨o2, S2, fun L xs fv f w g hg hl => e116_84 h1  hm hl.f1 (hl.w1 117 (by decide)) (hc L xs fv _ _ g hg (hl.dn 117 (by decide))) (hk L xs fv f w g hg hl), hQ⟩
  | inr e =>
    obtain ⟨rfl, h⟩ := h
    exact ⟨_, S1, fun L xs fv f w g hg hl => e116_84x h1 hm hl.f1 (hl.w1 117 (by decide)) (hc L xs fv _ _ g hg (hl.dn 117 (by decide))), h⟩
def p116_141 (l : Nat) (A : Nat → List (Nat × Int32)) (E : List (Nat × Option Nat)) (N : Nat → Nat) (V : Nat → Nat → Int32) (W : Nat) (c : Nat × Nat)  (Q : z_V → z_CS → Prop) : Prop := p116_336 l A E N (z_v V 38 6 ((V 38 6) + 1)) W c  Q
set_option maxRecDepth 10000 in
theorem t116_141 {l : Nat} {A : Nat → List (Nat × Int32)} {E : List (Nat × Option Nat)} {N : Nat → Nat} {V : Nat → Nat → Int32} {W : Nat} {c : Nat × Nat}  {Q : z_V → z_CS → Prop} (h : p116_141 l A E N V W c  Q) : z_WC (l + 1) 116 141 [(0, .ref 145)] [] (A, E, N, V, W, c) Q := by
  unfold p116_141 at h
  exact z_WC.blk (t116_336 h) (fun _ _ _ _ _ _ _ _ hg hl k => e116_141  k)
def p116_113 (l : Nat) (A : Nat → List (Nat × Int32)) (E : List (Nat × Option Nat)) (N : Nat → Nat) (V : Nat → Nat → Int32) (W : Nat) (c : Nat × Nat)  (Q : z_V → z_CS → Prop) : Prop := z_in (V 38 6) (N 15) = true ∧ z_in (((V 38 3) + 4) + (z_fn 0 (A 15) (V 38 6).toNatClampNeg)) (N 39) = true ∧ z_Rm ([], c) ∧ z_WC l 117 0 [(0, .ref 145), (1, .int (z_fn 0 (A 39) (((V 38 3) + 4) + (z_fn 0 (A 15) (V 38 6).toNatClampNeg)).toNatClampNeg))] [] (A, E, N, V, W, c) (z_cx Q (fun x S1 => x = none ∧ p116_141 l S1.1 S1.2.1 S1.2.2.1 S1.2.2.2.1 S1.2.2.2.2.1 S1.2.2.2.2.2  Q))
set_option maxRecDepth 10000 in
theorem t116_113 {l : Nat} {A : Nat → List (Nat × Int32)} {E : List (Nat × Option Nat)} {N : Nat → Nat} {V : Nat → Nat → Int32} {W : Nat} {c : Nat × Nat}  {Q : z_V → z_CS → Prop} (h : p116_113 l A E N V W c  Q) : z_WC (l + 1) 116 113 [(0, .ref 145)] [] (A, E, N, V, W, c) Q := by
  unfold p116_113 at h
  obtain ⟨h1, h2, hm, h⟩ := h
  obtain ⟨o, S1, hc, h⟩ := h
  cases o with
  | inl x =>
    obtain ⟨rfl, h⟩ := h
    obtain ⟨o2, S2, hk, hQ⟩ := t116_141 h
    exact ⟨o2, S2, fun L xs fv f w g hg hl => e116_113 h1 h2  hm hl.f1 (hl.w1 117 (by decide)) (hc L xs fv _ _ g hg (hl.dn 117 (by decide))) (hk L xs fv f w g hg hl), hQ⟩
  | inr e =>
    obtain ⟨rfl, h⟩ := h
    exact ⟨_, S1, fun L xs fv f w g hg hl => e116_113x h1 h2 hm hl.f1 (hl.w1 117 (by decide)) (hc L xs fv _ _ g hg (hl.dn 117 (by decide))), h⟩
def p116_189 (l : Nat) (A : Nat → List (Nat × Int32)) (E : List (Nat × Option Nat)) (N : Nat → Nat) (V : Nat → Nat → Int32) (W : Nat) (c : Nat × Nat)  (Q : z_V → z_CS → Prop) : Prop := p116_336 l A E N (z_v V 38 6 ((V 38 6) + 1)) W c  Q
set_option maxRecDepth 10000 in
theorem t116_189 {l : Nat} {A : Nat → List (Nat × Int32)} {E : List (Nat × Option Nat)} {N : Nat → Nat} {V : Nat → Nat → Int32} {W : Nat} {c : Nat × Nat}  {Q : z_V → z_CS → Prop} (h : p116_189 l A E N V W c  Q) : z_WC (l + 1) 116 189 [(0, .ref 145)] [] (A, E, N, V, W, c) Q := by
  unfold p116_189 at h
  exact z_WC.blk (t116_336 h) (fun _ _ _ _ _ _ _ _ hg hl k => e116_189  k)
def p116_154 (l : Nat) (A : Nat → List (Nat × Int32)) (E : List (Nat × Option Nat)) (N : Nat → Nat) (V : Nat → Nat → Int32) (W : Nat) (c : Nat × Nat)  (Q : z_V → z_CS → Prop) : Prop := z_in ((V 38 3) + 2) (N 39) = true ∧ z_in (V 38 6) (N 15) = true ∧ z_in (((z_fn 0 (A 39) ((V 38 3) + 2).toNatClampNeg) + 1) + (z_fn 0 (A 15) (V 38 6).toNatClampNeg)) (N 40) = true ∧ z_Rm ([], c) ∧ z_WC l 117 0 [(0, .ref 145), (1, .int (z_fn 0 (A 40) (((z_fn 0 (A 39) ((V 38 3) + 2).toNatClampNeg) + 1) + (z_fn 0 (A 15) (V 38 6).toNatClampNeg)).toNatClampNeg))] [] (A, E, N, V, W, c) (z_cx Q (fun x S1 => x = none ∧ p116_189 l S1.1 S1.2.1 S1.2.2.1 S1.2.2.2.1 S1.2.2.2.2.1 S1.2.2.2.2.2  Q))
set_option maxRecDepth 10000 in
theorem t116_154 {l : Nat} {A : Nat → List (Nat × Int32)} {E : List (Nat × Option Nat)} {N : Nat → Nat} {V : Nat → Nat → Int32} {W : Nat} {c : Nat × Nat}  {Q : z_V → z_CS → Prop} (h : p116_154 l A E N V W c  Q) : z_WC (l + 1) 116 154 [(0, .ref 145)] [] (A, E, N, V, W, c) Q := by
  unfold p116_154 at h
  obtain ⟨h1, h2, h3, hm, h⟩ := h
  obtain ⟨o, S1, hc, h⟩ := h
  cases o with
  | inl x =>
    obtain ⟨rfl, h⟩ := h
    obtain ⟨o2, S2, hk, hQ⟩ := t116_189 h
    exact ⟨o2, S2, fun L xs fv f w g hg hl => e116_154 h1 h2 h3  hm hl.f1 (hl.w1 117 (by decide)) (hc L xs fv _ _ g hg (hl.dn 117 (by decide))) (hk L xs fv f w g hg hl), hQ⟩
  | inr e =>
    obtain ⟨rfl, h⟩ := h
    exact ⟨_, S1, fun L xs fv f w g hg hl => e116_154x h1 h2 h3 hm hl.f1 (hl.w1 117 (by decide)) (hc L xs fv _ _ g hg (hl.dn 117 (by decide))), h⟩
def p116_229 (l : Nat) (A : Nat → List (Nat × Int32)) (E : List (Nat × Option Nat)) (N : Nat → Nat) (V : Nat → Nat → Int32) (W : Nat) (c : Nat × Nat) (y0 : Int32) (y1 : Int32) (Q : z_V → z_CS → Prop) : Prop := z_in y1 (N 39) = true ∧ p116_336 l (z_u A 39 ((y1.toNatClampNeg, y0) :: A 39)) E N (z_v V 38 6 ((V 38 6) + 1)) W c  Q
set_option maxRecDepth 10000 in
theorem t116_229 {l : Nat} {A : Nat → List (Nat × Int32)} {E : List (Nat × Option Nat)} {N : Nat → Nat} {V : Nat → Nat → Int32} {W : Nat} {c : Nat × Nat} {y0 : Int32} {y1 : Int32} {Q : z_V → z_CS → Prop} (h : p116_229 l A E N V W c y0 y1 Q) : z_WC (l + 1) 116 229 [(0, .ref 145)] [.int y0, .int y1, .ref 146] (A, E, N, V, W, c) Q := by
  unfold p116_229 at h
  obtain ⟨h1, h⟩ := h
  exact z_WC.blk (t116_336 h) (fun _ _ _ _ _ _ _ _ hg hl k => e116_229 h1 k)
def p116_202 (l : Nat) (A : Nat → List (Nat × Int32)) (E : List (Nat × Option Nat)) (N : Nat → Nat) (V : Nat → Nat → Int32) (W : Nat) (c : Nat × Nat)  (Q : z_V → z_CS → Prop) : Prop := z_in (V 38 6) (N 15) = true ∧ z_Rm ([], c) ∧ z_WC l 118 0 [(0, .ref 145)] [] (A, E, N, V, W, c) (z_cx Q (fun x S1 => ∃ v : Int32, x = some (.int v) ∧ S1.2.2.1 39 = N 39 ∧ p116_229 l S1.1 S1.2.1 S1.2.2.1 S1.2.2.2.1 S1.2.2.2.2.1 S1.2.2.2.2.2 v (((V 38 3) + 4) + (z_fn 0 (A 15) (V 38 6).toNatClampNeg)) Q))
set_option maxRecDepth 10000 in
theorem t116_202 {l : Nat} {A : Nat → List (Nat × Int32)} {E : List (Nat × Option Nat)} {N : Nat → Nat} {V : Nat → Nat → Int32} {W : Nat} {c : Nat × Nat}  {Q : z_V → z_CS → Prop} (h : p116_202 l A E N V W c  Q) : z_WC (l + 1) 116 202 [(0, .ref 145)] [] (A, E, N, V, W, c) Q := by
  unfold p116_202 at h
  obtain ⟨h1, hm, h⟩ := h
  obtain ⟨o, S1, hc, h⟩ := h
  cases o with
  | inl x =>
    obtain ⟨v, rfl, hN39, h⟩ := h
    obtain ⟨o2, S2, hk, hQ⟩ := t116_229 h
    exact ⟨o2, S2, fun L xs fv f w g hg hl => e116_202 h1 hN39 hm hl.f1 (hl.w1 118 (by decide)) (hc L xs fv _ _ g hg (hl.dn 118 (by decide))) (hk L xs fv f w g hg hl), hQ⟩
  | inr e =>
    obtain ⟨rfl, h⟩ := h
    exact ⟨_, S1, fun L xs fv f w g hg hl => e116_202x h1 hm hl.f1 (hl.w1 118 (by decide)) (hc L xs fv _ _ g hg (hl.dn 118 (by decide))), h⟩
def p116_272 (l : Nat) (A : Nat → List (Nat × Int32)) (E : List (Nat × Option Nat)) (N : Nat → Nat) (V : Nat → Nat → Int32) (W : Nat) (c : Nat × Nat) (y0 : Int32) (Q : z_V → z_CS → Prop) : Prop := p116_336 l A E N (z_v V 38 6 (y0)) W c  Q
set_option maxRecDepth 10000 in
theorem t116_272 {l : Nat} {A : Nat → List (Nat × Int32)} {E : List (Nat × Option Nat)} {N : Nat → Nat} {V : Nat → Nat → Int32} {W : Nat} {c : Nat × Nat} {y0 : Int32} {Q : z_V → z_CS → Prop} (h : p116_272 l A E N V W c y0 Q) : z_WC (l + 1) 116 272 [(0, .ref 145)] [.int y0, .ref 145] (A, E, N, V, W, c) Q := by
  unfold p116_272 at h
  exact z_WC.blk (t116_336 h) (fun _ _ _ _ _ _ _ _ hg hl k => e116_272  k)
def p116_260 (l : Nat) (A : Nat → List (Nat × Int32)) (E : List (Nat × Option Nat)) (N : Nat → Nat) (V : Nat → Nat → Int32) (W : Nat) (c : Nat × Nat)  (Q : z_V → z_CS → Prop) : Prop := z_in (V 38 6) (N 15) = true ∧ p116_272 l A E N V W c (z_fn 0 (A 15) (V 38 6).toNatClampNeg) Q
set_option maxRecDepth 10000 in
theorem t116_260 {l : Nat} {A : Nat → List (Nat × Int32)} {E : List (Nat × Option Nat)} {N : Nat → Nat} {V : Nat → Nat → Int32} {W : Nat} {c : Nat × Nat}  {Q : z_V → z_CS → Prop} (h : p116_260 l A E N V W c  Q) : z_WC (l + 1) 116 260 [(0, .ref 145)] [.ref 145] (A, E, N, V, W, c) Q := by
  unfold p116_260 at h
  obtain ⟨h1, h⟩ := h
  exact z_WC.blk (t116_272 h) (fun _ _ _ _ _ _ _ _ hg hl k => e116_260 h1 k)
def p116_251 (l : Nat) (A : Nat → List (Nat × Int32)) (E : List (Nat × Option Nat)) (N : Nat → Nat) (V : Nat → Nat → Int32) (W : Nat) (c : Nat × Nat)  (Q : z_V → z_CS → Prop) : Prop := p116_272 l A E N V W c ((V 38 6) + 1) Q
set_option maxRecDepth 10000 in
theorem t116_251 {l : Nat} {A : Nat → List (Nat × Int32)} {E : List (Nat × Option Nat)} {N : Nat → Nat} {V : Nat → Nat → Int32} {W : Nat} {c : Nat × Nat}  {Q : z_V → z_CS → Prop} (h : p116_251 l A E N V W c  Q) : z_WC (l + 1) 116 251 [(0, .ref 145)] [.ref 145] (A, E, N, V, W, c) Q := by
  unfold p116_251 at h
  exact z_WC.blk (t116_272 h) (fun _ _ _ _ _ _ _ _ hg hl k => e116_251  k)
def p116_248 (l : Nat) (A : Nat → List (Nat × Int32)) (E : List (Nat × Option Nat)) (N : Nat → Nat) (V : Nat → Nat → Int32) (W : Nat) (c : Nat × Nat) (y0 : Int32) (Q : z_V → z_CS → Prop) : Prop := (if y0 = 0 then p116_260 l A E N V W c  Q else p116_251 l A E N V W c  Q)
set_option maxRecDepth 10000 in
theorem t116_248 {l : Nat} {A : Nat → List (Nat × Int32)} {E : List (Nat × Option Nat)} {N : Nat → Nat} {V : Nat → Nat → Int32} {W : Nat} {c : Nat × Nat} {y0 : Int32} {Q : z_V → z_CS → Prop} (h : p116_248 l A E N V W c y0 Q) : z_WC (l + 1) 116 248 [(0, .ref 145)] [.int y0, .ref 145] (A, E, N, V, W, c) Q := by
  unfold p116_248 at h
  by_cases hb : y0 = 0
  · rw [if_pos hb] at h
    exact z_WC.blk (t116_260 h) (fun _ _ _ _ _ _ _ _ hg hl k => e116_248t  hb k)
  · rw [if_neg hb] at h
    exact z_WC.blk (t116_251 h) (fun _ _ _ _ _ _ _ _ hg hl k => e116_248f  hb k)
def p116_243 (l : Nat) (A : Nat → List (Nat × Int32)) (E : List (Nat × Option Nat)) (N : Nat → Nat) (V : Nat → Nat → Int32) (W : Nat) (c : Nat × Nat)  (Q : z_V → z_CS → Prop) : Prop := z_Rm ([], c) ∧ z_WC l 118 0 [(0, .ref 145)] [] (A, E, N, V, W, c) (z_cx Q (fun x S1 => ∃ v : Int32, x = some (.int v) ∧ p116_248 l S1.1 S1.2.1 S1.2.2.1 S1.2.2.2.1 S1.2.2.2.2.1 S1.2.2.2.2.2 v Q))
set_option maxRecDepth 10000 in
theorem t116_243 {l : Nat} {A : Nat → List (Nat × Int32)} {E : List (Nat × Option Nat)} {N : Nat → Nat} {V : Nat → Nat → Int32} {W : Nat} {c : Nat × Nat}  {Q : z_V → z_CS → Prop} (h : p116_243 l A E N V W c  Q) : z_WC (l + 1) 116 243 [(0, .ref 145)] [] (A, E, N, V, W, c) Q := by
  unfold p116_243 at h
  obtain ⟨hm, h⟩ := h
  obtain ⟨o, S1, hc, h⟩ := h
  cases o with
  | inl x =>
    obtain ⟨v, rfl, h⟩ := h
    obtain ⟨o2, S2, hk, hQ⟩ := t116_248 h
    exact ⟨o2, S2, fun L xs fv f w g hg hl => e116_243   hm hl.f1 (hl.w1 118 (by decide)) (hc L xs fv _ _ g hg (hl.dn 118 (by decide))) (hk L xs fv f w g hg hl), hQ⟩
  | inr e =>
    obtain ⟨rfl, h⟩ := h
    exact ⟨_, S1, fun L xs fv f w g hg hl => e116_243x  hm hl.f1 (hl.w1 118 (by decide)) (hc L xs fv _ _ g hg (hl.dn 118 (by decide))), h⟩
def p116_278 (l : Nat) (A : Nat → List (Nat × Int32)) (E : List (Nat × Option Nat)) (N : Nat → Nat) (V : Nat → Nat → Int32) (W : Nat) (c : Nat × Nat)  (Q : z_V → z_CS → Prop) : Prop := z_in (V 38 6) (N 15) = true ∧ p116_336 l A E N (z_v V 38 6 (z_fn 0 (A 15) (V 38 6).toNatClampNeg)) W c  Q
set_option maxRecDepth 10000 in
theorem t116_278 {l : Nat} {A : Nat → List (Nat × Int32)} {E : List (Nat × Option Nat)} {N : Nat → Nat} {V : Nat → Nat → Int32} {W : Nat} {c : Nat × Nat}  {Q : z_V → z_CS → Prop} (h : p116_278 l A E N V W c  Q) : z_WC (l + 1) 116 278 [(0, .ref 145)] [] (A, E, N, V, W, c) Q := by
  unfold p116_278 at h
  obtain ⟨h1, h⟩ := h
  exact z_WC.blk (t116_336 h) (fun _ _ _ _ _ _ _ _ hg hl k => e116_278 h1 k)
def p116_313 (l : Nat) (A : Nat → List (Nat × Int32)) (E : List (Nat × Option Nat)) (N : Nat → Nat) (V : Nat → Nat → Int32) (W : Nat) (c : Nat × Nat)  (Q : z_V → z_CS → Prop) : Prop := p116_336 l A E N (z_v V 38 6 ((V 38 6) + 1)) W c  Q
set_option maxRecDepth 10000 in
theorem t116_313 {l : Nat} {A : Nat → List (Nat × Int32)} {E : List (Nat × Option Nat)} {N : Nat → Nat} {V : Nat → Nat → Int32} {W : Nat} {c : Nat × Nat}  {Q : z_V → z_CS → Prop} (h : p116_313 l A E N V W c  Q) : z_WC (l + 1) 116 313 [(0, .ref 145)] [] (A, E, N, V, W, c) Q := by
  unfold p116_313 at h
  exact z_WC.blk (t116_336 h) (fun _ _ _ _ _ _ _ _ hg hl k => e116_313  k)
def p116_297 (l : Nat) (A : Nat → List (Nat × Int32)) (E : List (Nat × Option Nat)) (N : Nat → Nat) (V : Nat → Nat → Int32) (W : Nat) (c : Nat × Nat)  (Q : z_V → z_CS → Prop) : Prop := z_in (V 38 6) (N 14) = true ∧ z_Rm ([], c) ∧ z_WC l 119 0 [(0, .ref 145), (1, .int (z_fn 0 (A 14) (V 38 6).toNatClampNeg))] [] (A, E, N, V, W, c) (z_cx Q (fun x S1 => x = none ∧ p116_313 l S1.1 S1.2.1 S1.2.2.1 S1.2.2.2.1 S1.2.2.2.2.1 S1.2.2.2.2.2  Q))
set_option maxRecDepth 10000 in
theorem t116_297 {l : Nat} {A : Nat → List (Nat × Int32)} {E : List (Nat × Option Nat)} {N : Nat → Nat} {V : Nat → Nat → Int32} {W : Nat} {c : Nat × Nat}  {Q : z_V → z_CS → Prop} (h : p116_297 l A E N V W c  Q) : z_WC (l + 1) 116 297 [(0, .ref 145)] [] (A, E, N, V, W, c) Q := by
  unfold p116_297 at h
  obtain ⟨h1, hm, h⟩ := h
  obtain ⟨o, S1, hc, h⟩ := h
  cases o with
  | inl x =>
    obtain ⟨rfl, h⟩ := h
    obtain ⟨o2, S2, hk, hQ⟩ := t116_313 h
    exact ⟨o2, S2, fun L xs fv f w g hg hl => e116_297 h1  hm hl.f1 (hl.w1 119 (by decide)) (hc L xs fv _ _ g hg (hl.dn 119 (by decide))) (hk L xs fv f w g hg hl), hQ⟩
  | inr e =>
    obtain ⟨rfl, h⟩ := h
    exact ⟨_, S1, fun L xs fv f w g hg hl => e116_297x h1 hm hl.f1 (hl.w1 119 (by decide)) (hc L xs fv _ _ g hg (hl.dn 119 (by decide))), h⟩
def p116_0 (l : Nat) (A : Nat → List (Nat × Int32)) (E : List (Nat × Option Nat)) (N : Nat → Nat) (V : Nat → Nat → Int32) (W : Nat) (c : Nat × Nat)  (Q : z_V → z_CS → Prop) : Prop := z_in (V 38 6) (N 14) = true ∧ (if z_fn 0 (A 14) (V 38 6).toNatClampNeg = 0 then p116_84 l A E N V W c  Q else if z_fn 0 (A 14) (V 38 6).toNatClampNeg = 2 then p116_113 l A E N V W c  Q else if z_fn 0 (A 14) (V 38 6).toNatClampNeg = 3 then p116_154 l A E N V W c  Q else if z_fn 0 (A 14) (V 38 6).toNatClampNeg = 4 then p116_202 l A E N V W c  Q else if z_fn 0 (A 14) (V 38 6).toNatClampNeg = 6 then p116_243 l A E N V W c  Q else if z_fn 0 (A 14) (V 38 6).toNatClampNeg = 7 then p116_278 l A E N V W c  Q else if z_fn 0 (A 14) (V 38 6).toNatClampNeg = 9 then p116_297 l A E N V W c  Q else if z_fn 0 (A 14) (V 38 6).toNatClampNeg = 10 then p116_297 l A E N V W c  Q else if z_fn 0 (A 14) (V 38 6).toNatClampNeg = 11 then p116_297 l A E N V W c  Q else if z_fn 0 (A 14) (V 38 6).toNatClampNeg = 12 then p116_297 l A E N V W c  Q else if z_fn 0 (A 14) (V 38 6).toNatClampNeg = 13 then p116_297 l A E N V W c  Q else p116_326 l A E N V W c  Q)
set_option maxRecDepth 10000 in
theorem t116_0 {l : Nat} {A : Nat → List (Nat × Int32)} {E : List (Nat × Option Nat)} {N : Nat → Nat} {V : Nat → Nat → Int32} {W : Nat} {c : Nat × Nat}  {Q : z_V → z_CS → Prop} (h : p116_0 l A E N V W c  Q) : z_WC (l + 1) 116 0 [(0, .ref 145)] [] (A, E, N, V, W, c) Q := by
  unfold p116_0 at h
  obtain ⟨h1, h⟩ := h
  by_cases e0 : z_fn 0 (A 14) (V 38 6).toNatClampNeg = 0
  · rw [if_pos e0] at h
    have hk : z_tg 0 13 [326, 84, 326, 113, 154, 202, 326, 243, 278, 326, 297, 297, 297, 297, 297] (z_fn 0 (A 14) (V 38 6).toNatClampNeg) = some 84 := by
      rw [e0]
      rfl
    exact z_WC.blk (t116_84 h) (fun _ _ _ _ _ _ _ _ hg hl k => e116_0 h1 (z_Ln.tab (t := 84) rfl hk (z_Ln.lv (z_le.cons rfl rfl z_le.nil) k)))
  rw [if_neg e0] at h
  by_cases e2 : z_fn 0 (A 14) (V 38 6).toNatClampNeg = 2
  · rw [if_pos e2] at h
    have hk : z_tg 0 13 [326, 84, 326, 113, 154, 202, 326, 243, 278, 326, 297, 297, 297, 297, 297] (z_fn 0 (A 14) (V 38 6).toNatClampNeg) = some 113 := by
      rw [e2]
      rfl
    exact z_WC.blk (t116_113 h) (fun _ _ _ _ _ _ _ _ hg hl k => e116_0 h1 (z_Ln.tab (t := 113) rfl hk (z_Ln.lv (z_le.cons rfl rfl z_le.nil) k)))
  rw [if_neg e2] at h
  by_cases e3 : z_fn 0 (A 14) (V 38 6).toNatClampNeg = 3
  · rw [if_pos e3] at h
    have hk : z_tg 0 13 [326, 84, 326, 113, 154, 202, 326, 243, 278, 326, 297, 297, 297, 297, 297] (z_fn 0 (A 14) (V 38 6).toNatClampNeg) = some 154 := by
      rw [e3]
      rfl
    exact z_WC.blk (t116_154 h) (fun _ _ _ _ _ _ _ _ hg hl k => e116_0 h1 (z_Ln.tab (t := 154) rfl hk (z_Ln.lv (z_le.cons rfl rfl z_le.nil) k)))
  rw [if_neg e3] at h
  by_cases e4 : z_fn 0 (A 14) (V 38 6).toNatClampNeg = 4
  · rw [if_pos e4] at h
    have hk : z_tg 0 13 [326, 84, 326, 113, 154, 202, 326, 243, 278, 326, 297, 297, 297, 297, 297] (z_fn 0 (A 14) (V 38 6).toNatClampNeg) = some 202 := by
      rw [e4]
      rfl
    exact z_WC.blk (t116_202 h) (fun _ _ _ _ _ _ _ _ hg hl k => e116_0 h1 (z_Ln.tab (t := 202) rfl hk (z_Ln.lv (z_le.cons rfl rfl z_le.nil) k)))
  rw [if_neg e4] at h
  by_cases e6 : z_fn 0 (A 14) (V 38 6).toNatClampNeg = 6
  · rw [if_pos e6] at h
    have hk : z_tg 0 13 [326, 84, 326, 113, 154, 202, 326, 243, 278, 326, 297, 297, 297, 297, 297] (z_fn 0 (A 14) (V 38 6).toNatClampNeg) = some 243 := by
      rw [e6]
      rfl
    exact z_WC.blk (t116_243 h) (fun _ _ _ _ _ _ _ _ hg hl k => e116_0 h1 (z_Ln.tab (t := 243) rfl hk (z_Ln.lv (z_le.cons rfl rfl z_le.nil) k)))
  rw [if_neg e6] at h
  by_cases e7 : z_fn 0 (A 14) (V 38 6).toNatClampNeg = 7
  · rw [if_pos e7] at h
    have hk : z_tg 0 13 [326, 84, 326, 113, 154, 202, 326, 243, 278, 326, 297, 297, 297, 297, 297] (z_fn 0 (A 14) (V 38 6).toNatClampNeg) = some 278 := by
      rw [e7]
      rfl
    exact z_WC.blk (t116_278 h) (fun _ _ _ _ _ _ _ _ hg hl k => e116_0 h1 (z_Ln.tab (t := 278) rfl hk (z_Ln.lv (z_le.cons rfl rfl z_le.nil) k)))
  rw [if_neg e7] at h
  by_cases e9 : z_fn 0 (A 14) (V 38 6).toNatClampNeg = 9
  · rw [if_pos e9] at h
    have hk : z_tg 0 13 [326, 84, 326, 113, 154, 202, 326, 243, 278, 326, 297, 297, 297, 297, 297] (z_fn 0 (A 14) (V 38 6).toNatClampNeg) = some 297 := by
      rw [e9]
      rfl
    exact z_WC.blk (t116_297 h) (fun _ _ _ _ _ _ _ _ hg hl k => e116_0 h1 (z_Ln.tab (t := 297) rfl hk (z_Ln.lv (z_le.cons rfl rfl z_le.nil) k)))
  rw [if_neg e9] at h
  by_cases e10 : z_fn 0 (A 14) (V 38 6).toNatClampNeg = 10
  · rw [if_pos e10] at h
    have hk : z_tg 0 13 [326, 84, 326, 113, 154, 202, 326, 243, 278, 326, 297, 297, 297, 297, 297] (z_fn 0 (A 14) (V 38 6).toNatClampNeg) = some 297 := by
      rw [e10]
      rfl
    exact z_WC.blk (t116_297 h) (fun _ _ _ _ _ _ _ _ hg hl k => e116_0 h1 (z_Ln.tab (t := 297) rfl hk (z_Ln.lv (z_le.cons rfl rfl z_le.nil) k)))
  rw [if_neg e10] at h
  by_cases e11 : z_fn 0 (A 14) (V 38 6).toNatClampNeg = 11
  · rw [if_pos e11] at h
    have hk : z_tg 0 13 [326, 84, 326, 113, 154, 202, 326, 243, 278, 326, 297, 297, 297, 297, 297] (z_fn 0 (A 14) (V 38 6).toNatClampNeg) = some 297 := by
      rw [e11]
      rfl
    exact z_WC.blk (t116_297 h) (fun _ _ _ _ _ _ _ _ hg hl k => e116_0 h1 (z_Ln.tab (t := 297) rfl hk (z_Ln.lv (z_le.cons rfl rfl z_le.nil) k)))
  rw [if_neg e11] at h
  by_cases e12 : z_fn 0 (A 14) (V 38 6).toNatClampNeg = 12
  · rw [if_pos e12] at h
    have hk : z_tg 0 13 [326, 84, 326, 113, 154, 202, 326, 243, 278, 326, 297, 297, 297, 297, 297] (z_fn 0 (A 14) (V 38 6).toNatClampNeg) = some 297 := by
      rw [e12]
      rfl
    exact z_WC.blk (t116_297 h) (fun _ _ _ _ _ _ _ _ hg hl k => e116_0 h1 (z_Ln.tab (t := 297) rfl hk (z_Ln.lv (z_le.cons rfl rfl z_le.nil) k)))
  rw [if_neg e12] at h
  by_cases e13 : z_fn 0 (A 14) (V 38 6).toNatClampNeg = 13
  · rw [if_pos e13] at h
    have hk : z_tg 0 13 [326, 84, 326, 113, 154, 202, 326, 243, 278, 326, 297, 297, 297, 297, 297] (z_fn 0 (A 14) (V 38 6).toNatClampNeg) = some 297 := by
      rw [e13]
      rfl
    exact z_WC.blk (t116_297 h) (fun _ _ _ _ _ _ _ _ hg hl k => e116_0 h1 (z_Ln.tab (t := 297) rfl hk (z_Ln.lv (z_le.cons rfl rfl z_le.nil) k)))
  rw [if_neg e13] at h
  have hd : z_tg 0 13 [326, 84, 326, 113, 154, 202, 326, 243, 278, 326, 297, 297, 297, 297, 297] (z_fn 0 (A 14) (V 38 6).toNatClampNeg) = some 326 := by
    by_cases hr : (z_fn 0 (A 14) (V 38 6).toNatClampNeg).toInt < 0 ∨ 13 < (z_fn 0 (A 14) (V 38 6).toNatClampNeg).toInt
    · exact if_pos hr
    · have : (z_fn 0 (A 14) (V 38 6).toNatClampNeg).toInt = 0 ∨ (z_fn 0 (A 14) (V 38 6).toNatClampNeg).toInt = 1 ∨ (z_fn 0 (A 14) (V 38 6).toNatClampNeg).toInt = 2 ∨ (z_fn 0 (A 14) (V 38 6).toNatClampNeg).toInt = 3 ∨ (z_fn 0 (A 14) (V 38 6).toNatClampNeg).toInt = 4 ∨ (z_fn 0 (A 14) (V 38 6).toNatClampNeg).toInt = 5 ∨ (z_fn 0 (A 14) (V 38 6).toNatClampNeg).toInt = 6 ∨ (z_fn 0 (A 14) (V 38 6).toNatClampNeg).toInt = 7 ∨ (z_fn 0 (A 14) (V 38 6).toNatClampNeg).toInt = 8 ∨ (z_fn 0 (A 14) (V 38 6).toNatClampNeg).toInt = 9 ∨ (z_fn 0 (A 14) (V 38 6).toNatClampNeg).toInt = 10 ∨ (z_fn 0 (A 14) (V 38 6).toNatClampNeg).toInt = 11 ∨ (z_fn 0 (A 14) (V 38 6).toNatClampNeg).toInt = 12 ∨ (z_fn 0 (A 14) (V 38 6).toNatClampNeg).toInt = 13 := by omega
      rcases this with e | e | e | e | e | e | e | e | e | e | e | e | e | e
      · have q : z_fn 0 (A 14) (V 38 6).toNatClampNeg = 0 := Int32.toInt_inj.mp (by rw [e]; rfl)
        exact absurd q e0
      · have q : z_fn 0 (A 14) (V 38 6).toNatClampNeg = 1 := Int32.toInt_inj.mp (by rw [e]; rfl)
        rw [q]
        rfl
      · have q : z_fn 0 (A 14) (V 38 6).toNatClampNeg = 2 := Int32.toInt_inj.mp (by rw [e]; rfl)
        exact absurd q e2
      · have q : z_fn 0 (A 14) (V 38 6).toNatClampNeg = 3 := Int32.toInt_inj.mp (by rw [e]; rfl)
        exact absurd q e3
      · have q : z_fn 0 (A 14) (V 38 6).toNatClampNeg = 4 := Int32.toInt_inj.mp (by rw [e]; rfl)
        exact absurd q e4
      · have q : z_fn 0 (A 14) (V 38 6).toNatClampNeg = 5 := Int32.toInt_inj.mp (by rw [e]; rfl)
        rw [q]
        rfl
      · have q : z_fn 0 (A 14) (V 38 6).toNatClampNeg = 6 := Int32.toInt_inj.mp (by rw [e]; rfl)
        exact absurd q e6
      · have q : z_fn 0 (A 14) (V 38 6).toNatClampNeg = 7 := Int32.toInt_inj.mp (by rw [e]; rfl)
        exact absurd q e7
      · have q : z_fn 0 (A 14) (V 38 6).toNatClampNeg = 8 := Int32.toInt_inj.mp (by rw [e]; rfl)
        rw [q]
        rfl
      · have q : z_fn 0 (A 14) (V 38 6).toNatClampNeg = 9 := Int32.toInt_inj.mp (by rw [e]; rfl)
        exact absurd q e9
      · have q : z_fn 0 (A 14) (V 38 6).toNatClampNeg = 10 := Int32.toInt_inj.mp (by rw [e]; rfl)
        exact absurd q e10
      · have q : z_fn 0 (A 14) (V 38 6).toNatClampNeg = 11 := Int32.toInt_inj.mp (by rw [e]; rfl)
        exact absurd q e11
      · have q : z_fn 0 (A 14) (V 38 6).toNatClampNeg = 12 := Int32.toInt_inj.mp (by rw [e]; rfl)
        exact absurd q e12
      · have q : z_fn 0 (A 14) (V 38 6).toNatClampNeg = 13 := Int32.toInt_inj.mp (by rw [e]; rfl)
        exact absurd q e13
  exact z_WC.blk (t116_326 h) (fun _ _ _ _ _ _ _ _ hg hl k => e116_0 h1 (z_Ln.tab (t := 326) rfl hd (z_Ln.lv (z_le.cons rfl rfl z_le.nil) k)))
set_option maxRecDepth 10000 in
theorem e123_0 {L : Nat} {xs : Nat → Int32} {fv : Value} {f w : Nat} {c : Nat × Nat} {o : z_V} {T' : z_Y} {A : Nat → List (Nat × Int32)} {E : List (Nat × Option Nat)} {N : Nat → Nat} {V : Nat → Nat → Int32} {W : Nat} {g : List z_E} {x1 : Int32} (h1 : z_in (x1 + 4) (N 40) = true) (kk : z_Ln L xs fv f w 123 20 [(2, .int (z_fn 0 (A 40) (x1 + 4).toNatClampNeg)), (0, .ref 145), (1, .int x1)] [.int ((V 38 2) + (z_fn 0 (A 40) (x1 + 4).toNatClampNeg)), .ref 146, .ref 145] (hC A E N V W ++ g, c) o T') : z_Ln L xs fv f w 123 0 [(0, .ref 145), (1, .int x1)] [] (hC A E N V W ++ g, c) o T' := z_Ln.blk (pc' := 20) (lv' := [(2, .int (z_fn 0 (A 40) (x1 + 4).toNatClampNeg)), (0, .ref 145), (1, .int x1)]) (st' := [.int ((V 38 2) + (z_fn 0 (A 40) (x1 + 4).toNatClampNeg)), .ref 146, .ref 145]) (H' := hC A E N V W ++ g) (C := [z_in (x1 + 4) (N 40) = true]) 0 14 rfl h1 kk
set_option maxRecDepth 10000 in
theorem e123_26 {L : Nat} {xs : Nat → Int32} {fv : Value} {f w : Nat} {c : Nat × Nat} {A : Nat → List (Nat × Int32)} {E : List (Nat × Option Nat)} {N : Nat → Nat} {V : Nat → Nat → Int32} {W : Nat} {g : List z_E} {x1 : Int32} {x2 : Int32} (hR0 : ((c.1 ≤ 601024 ∧ c.2 ≤ 7293034) ∧ 1 ≤ f ∧ 60 ≤ w)) (h2 : z_cpk .int 0 (N 40) (N 39) (A 40) (x1 + 5) (V 38 2) x2 []) (h3 : z_in ((V 38 2) + 0) (N 39) = true) (h4 : z_in ((V 38 2) + 1) (N 39) = true) (h5 : z_in (x1 + 3) (N 40) = true) : z_Ln L xs fv f w 123 26 [(0, .ref 145), (1, .int x1), (2, .int x2)] [] (hC A E N V W ++ g, c) (.inl none) (hC (z_u A 39 ((((V 38 2) + 1).toNatClampNeg, ((V 38 2) - (V 38 3))) :: (((V 38 2) + 0).toNatClampNeg, ((V 38 6) + 1)) :: z_cpl (A 40) (A 39) (x1 + 5).toNatClampNeg (V 38 2).toNatClampNeg x2.toNatClampNeg)) E N (z_v (z_v V 38 3 ((V 38 2) + (z_fn 0 (A 40) (x1 + 3).toNatClampNeg))) 38 2 ((V 38 2) + x2)) W ++ g, c) := z_Ln.blk (pc' := 109) (lv' := [(0, .ref 145), (1, .int x1), (2, .int x2)]) (st' := []) (H' := hC (z_u A 39 ((((V 38 2) + 1).toNatClampNeg, ((V 38 2) - (V 38 3))) :: (((V 38 2) + 0).toNatClampNeg, ((V 38 6) + 1)) :: z_cpl (A 40) (A 39) (x1 + 5).toNatClampNeg (V 38 2).toNatClampNeg x2.toNatClampNeg)) E N (z_v (z_v V 38 3 ((V 38 2) + (z_fn 0 (A 40) (x1 + 3).toNatClampNeg))) 38 2 ((V 38 2) + x2)) W ++ g) (C := [((c.1 ≤ 601024 ∧ c.2 ≤ 7293034) ∧ 1 ≤ f ∧ 60 ≤ w), z_cpk .int 0 (N 40) (N 39) (A 40) (x1 + 5) (V 38 2) x2 [], z_in ((V 38 2) + 0) (N 39) = true, z_in ((V 38 2) + 1) (N 39) = true, z_in (x1 + 3) (N 40) = true, z_fit (z_fty 8 3) (.int ((V 38 2) + (z_fn 0 (A 40) (x1 + 3).toNatClampNeg))) = true, z_fit (z_fty 8 2) (.int ((V 38 2) + x2)) = true]) 16 51 rfl ⟨hR0, h2, h3, h4, h5, z_fitI, z_fitI⟩ (z_Ln.ret rfl rfl)
def p123_26 (l : Nat) (A : Nat → List (Nat × Int32)) (E : List (Nat × Option Nat)) (N : Nat → Nat) (V : Nat → Nat → Int32) (W : Nat) (c : Nat × Nat) (x1 : Int32) (x2 : Int32) (Q : z_V → z_CS → Prop) : Prop := z_cpk .int 0 (N 40) (N 39) (A 40) (x1 + 5) (V 38 2) x2 [] ∧ z_in ((V 38 2) + 0) (N 39) = true ∧ z_in ((V 38 2) + 1) (N 39) = true ∧ z_in (x1 + 3) (N 40) = true ∧ z_Rm ([], c) ∧ Q (.inl (none)) ((z_u A 39 ((((V 38 2) + 1).toNatClampNeg, ((V 38 2) - (V 38 3))) :: (((V 38 2) + 0).toNatClampNeg, ((V 38 6) + 1)) :: z_cpl (A 40) (A 39) (x1 + 5).toNatClampNeg (V 38 2).toNatClampNeg x2.toNatClampNeg)), E, N, (z_v (z_v V 38 3 ((V 38 2) + (z_fn 0 (A 40) (x1 + 3).toNatClampNeg))) 38 2 ((V 38 2) + x2)), W, c)
set_option maxRecDepth 10000 in
theorem t123_26 {l : Nat} {A : Nat → List (Nat × Int32)} {E : List (Nat × Option Nat)} {N : Nat → Nat} {V : Nat → Nat → Int32} {W : Nat} {c : Nat × Nat} {x1 : Int32} {x2 : Int32} {Q : z_V → z_CS → Prop} (h : p123_26 l A E N V W c x1 x2 Q) : z_WC (l + 1) 123 26 [(0, .ref 145), (1, .int x1), (2, .int x2)] [] (A, E, N, V, W, c) Q := by
  unfold p123_26 at h
  obtain ⟨h1, h2, h3, h4, hm, h⟩ := h
  exact ⟨(.inl (none)), ((z_u A 39 ((((V 38 2) + 1).toNatClampNeg, ((V 38 2) - (V 38 3))) :: (((V 38 2) + 0).toNatClampNeg, ((V 38 6) + 1)) :: z_cpl (A 40) (A 39) (x1 + 5).toNatClampNeg (V 38 2).toNatClampNeg x2.toNatClampNeg)), E, N, (z_v (z_v V 38 3 ((V 38 2) + (z_fn 0 (A 40) (x1 + 3).toNatClampNeg))) 38 2 ((V 38 2) + x2)), W, c), fun _ _ _ _ _ _ hg hl => e123_26 (hl.r0 hm) h1 h2 h3 h4, h⟩
def p123_0 (l : Nat) (A : Nat → List (Nat × Int32)) (E : List (Nat × Option Nat)) (N : Nat → Nat) (V : Nat → Nat → Int32) (W : Nat) (c : Nat × Nat) (x1 : Int32) (Q : z_V → z_CS → Prop) : Prop := z_in (x1 + 4) (N 40) = true ∧ W < 107 ∧ z_Gr 39 ((V 38 2) + (z_fn 0 (A 40) (x1 + 4).toNatClampNeg)) A N c (fun A1 N1 c1 => p123_26 l A1 E N1 V W c1 x1 (z_fn 0 (A 40) (x1 + 4).toNatClampNeg) Q)
set_option maxRecDepth 10000 in
theorem t123_0 {l : Nat} {A : Nat → List (Nat × Int32)} {E : List (Nat × Option Nat)} {N : Nat → Nat} {V : Nat → Nat → Int32} {W : Nat} {c : Nat × Nat} {x1 : Int32} {Q : z_V → z_CS → Prop} (h : p123_0 l A E N V W c x1 Q) : z_WC (l + 1) 123 0 [(0, .ref 145), (1, .int x1)] [] (A, E, N, V, W, c) Q := by
  unfold p123_0 at h
  obtain ⟨h1, h107, h⟩ := h
  rcases h with ⟨hn, hm, h⟩ | ⟨nl, hn, hm, h⟩
  · exact z_WC.blk (t123_26 h) (fun _ _ _ _ _ _ _ _ hg hl k => e123_0 h1 (z_Ln.keep rfl rfl rfl (by decide) (by decide) rfl rfl rfl hn hm (by have := hl.1; omega) (by have := hl.2; omega) (by decide : (0 : Nat) ≤ 7) (z_Ln.lv (z_le.cons rfl rfl (z_le.cons rfl rfl (z_le.cons rfl rfl z_le.nil))) k)))
  · exact z_WC.blk (t123_26 h) (fun _ _ _ _ _ _ _ _ hg hl k => e123_0 h1 (z_Ln.grow rfl rfl rfl (by decide) (by decide) rfl rfl rfl (z_one_39 h107 hg) (z_nov_i (z_nov_r (by decide) (z_nov_i z_nov_nil))) z_nov_nil hn hm (by have := hl.1; omega) (by have := hl.2; omega) (by decide : (0 : Nat) ≤ 7) (z_Ln.lv (z_le.cons rfl rfl (z_le.cons rfl rfl (z_le.cons rfl rfl z_le.nil))) k)))
set_option maxRecDepth 10000 in
theorem e122_0t {L : Nat} {xs : Nat → Int32} {fv : Value} {f w : Nat} {c : Nat × Nat} {o : z_V} {T' : z_Y} {A : Nat → List (Nat × Int32)} {E : List (Nat × Option Nat)} {N : Nat → Nat} {V : Nat → Nat → Int32} {W : Nat} {g : List z_E} {x1 : Int32} (h1 : z_in (x1 + 2) (N 40) = true) (h2 : z_in (x1 + 1) (N 40) = true) (hb : (z_fn 0 (A 40) (x1 + 1).toNatClampNeg) = 0) (kk : z_Ln L xs fv f w 122 28 [(0, .ref 145), (1, .int x1), (2, .int (z_fn 0 (A 40) (x1 + 2).toNatClampNeg))] [] (hC A E N V W ++ g, c) o T') : z_Ln L xs fv f w 122 0 [(0, .ref 145), (1, .int x1)] [] (hC A E N V W ++ g, c) o T' := z_Ln.blk (pc' := (if decide ((z_fn 0 (A 40) (x1 + 1).toNatClampNeg) = 0) = true then 28 else 20)) (lv' := [(2, .int (z_fn 0 (A 40) (x1 + 2).toNatClampNeg)), (0, .ref 145), (1, .int x1)]) (st' := []) (H' := hC A E N V W ++ g) (C := [z_in (x1 + 2) (N 40) = true, z_in (x1 + 1) (N 40) = true]) 0 14 rfl ⟨h1, h2⟩ (z_Ln.brT (decide_eq_true hb) (z_Ln.lv (z_le.cons rfl rfl (z_le.cons rfl rfl (z_le.cons rfl rfl z_le.nil))) kk))
set_option maxRecDepth 10000 in
theorem e122_0f {L : Nat} {xs : Nat → Int32} {fv : Value} {f w : Nat} {c : Nat × Nat} {o : z_V} {T' : z_Y} {A : Nat → List (Nat × Int32)} {E : List (Nat × Option Nat)} {N : Nat → Nat} {V : Nat → Nat → Int32} {W : Nat} {g : List z_E} {x1 : Int32} (h1 : z_in (x1 + 2) (N 40) = true) (h2 : z_in (x1 + 1) (N 40) = true) (hb : ¬ ((z_fn 0 (A 40) (x1 + 1).toNatClampNeg) = 0)) (kk : z_Ln L xs fv f w 122 20 [(0, .ref 145), (1, .int x1), (2, .int (z_fn 0 (A 40) (x1 + 2).toNatClampNeg))] [] (hC A E N V W ++ g, c) o T') : z_Ln L xs fv f w 122 0 [(0, .ref 145), (1, .int x1)] [] (hC A E N V W ++ g, c) o T' := z_Ln.blk (pc' := (if decide ((z_fn 0 (A 40) (x1 + 1).toNatClampNeg) = 0) = true then 28 else 20)) (lv' := [(2, .int (z_fn 0 (A 40) (x1 + 2).toNatClampNeg)), (0, .ref 145), (1, .int x1)]) (st' := []) (H' := hC A E N V W ++ g) (C := [z_in (x1 + 2) (N 40) = true, z_in (x1 + 1) (N 40) = true]) 0 14 rfl ⟨h1, h2⟩ (z_Ln.brF (decide_eq_false hb) (z_Ln.lv (z_le.cons rfl rfl (z_le.cons rfl rfl (z_le.cons rfl rfl z_le.nil))) kk))
set_option maxRecDepth 10000 in
theorem e122_20 {L : Nat} {xs : Nat → Int32} {fv : Value} {f w : Nat} {c : Nat × Nat} {o : z_V} {T' : z_Y} {A : Nat → List (Nat × Int32)} {E : List (Nat × Option Nat)} {N : Nat → Nat} {V : Nat → Nat → Int32} {W : Nat} {g : List z_E} {x1 : Int32} {x2 : Int32}  (kk : z_Ln L xs fv f w 122 105 [(0, .ref 145), (1, .int x1), (2, .int x2)] [] (hC A E N (z_v V 38 7 (3)) W ++ g, c) o T') : z_Ln L xs fv f w 122 20 [(0, .ref 145), (1, .int x1), (2, .int x2)] [] (hC A E N V W ++ g, c) o T' := z_Ln.blk (pc' := 105) (lv' := [(0, .ref 145), (1, .int x1), (2, .int x2)]) (st' := []) (H' := hC A E N (z_v V 38 7 (3)) W ++ g) (C := [z_fit (z_fty 8 7) (.int 3) = true]) 14 4 rfl z_fitI (kk)
set_option maxRecDepth 10000 in
theorem e122_28t {L : Nat} {xs : Nat → Int32} {fv : Value} {f w : Nat} {c : Nat × Nat} {o : z_V} {T' : z_Y} {A : Nat → List (Nat × Int32)} {E : List (Nat × Option Nat)} {N : Nat → Nat} {V : Nat → Nat → Int32} {W : Nat} {g : List z_E} {x1 : Int32} {x2 : Int32}  (hb : ((V 38 12) + x2) ≤ 400) (kk : z_Ln L xs fv f w 122 49 [(0, .ref 145), (1, .int x1), (2, .int x2)] [] (hC A E N V W ++ g, c) o T') : z_Ln L xs fv f w 122 28 [(0, .ref 145), (1, .int x1), (2, .int x2)] [] (hC A E N V W ++ g, c) o T' := z_Ln.blk (pc' := (if decide (((V 38 12) + x2) ≤ 400) = true then 49 else 40)) (lv' := [(0, .ref 145), (1, .int x1), (2, .int x2)]) (st' := []) (H' := hC A E N V W ++ g) (C := []) 18 6 rfl trivial (z_Ln.brT (decide_eq_true hb) (kk))
set_option maxRecDepth 10000 in
theorem e122_28f {L : Nat} {xs : Nat → Int32} {fv : Value} {f w : Nat} {c : Nat × Nat} {o : z_V} {T' : z_Y} {A : Nat → List (Nat × Int32)} {E : List (Nat × Option Nat)} {N : Nat → Nat} {V : Nat → Nat → Int32} {W : Nat} {g : List z_E} {x1 : Int32} {x2 : Int32}  (hb : ¬ (((V 38 12) + x2) ≤ 400)) (kk : z_Ln L xs fv f w 122 40 [(0, .ref 145), (1, .int x1), (2, .int x2)] [] (hC A E N V W ++ g, c) o T') : z_Ln L xs fv f w 122 28 [(0, .ref 145), (1, .int x1), (2, .int x2)] [] (hC A E N V W ++ g, c) o T' := z_Ln.blk (pc' := (if decide (((V 38 12) + x2) ≤ 400) = true then 49 else 40)) (lv' := [(0, .ref 145), (1, .int x1), (2, .int x2)]) (st' := []) (H' := hC A E N V W ++ g) (C := []) 18 6 rfl trivial (z_Ln.brF (decide_eq_false hb) (kk))
set_option maxRecDepth 10000 in
theorem e122_40 {L : Nat} {xs : Nat → Int32} {fv : Value} {f w : Nat} {c : Nat × Nat} {o : z_V} {T' : z_Y} {A : Nat → List (Nat × Int32)} {E : List (Nat × Option Nat)} {N : Nat → Nat} {V : Nat → Nat → Int32} {W : Nat} {g : List z_E} {x1 : Int32} {x2 : Int32}  (kk : z_Ln L xs fv f w 122 105 [(0, .ref 145), (1, .int x1), (2, .int x2)] [] (hC A E N (z_v V 38 7 (6)) W ++ g, c) o T') : z_Ln L xs fv f w 122 40 [(0, .ref 145), (1, .int x1), (2, .int x2)] [] (hC A E N V W ++ g, c) o T' := z_Ln.blk (pc' := 105) (lv' := [(0, .ref 145), (1, .int x1), (2, .int x2)]) (st' := []) (H' := hC A E N (z_v V 38 7 (6)) W ++ g) (C := [z_fit (z_fty 8 7) (.int 6) = true]) 24 4 rfl z_fitI (kk)
set_option maxRecDepth 10000 in
theorem e122_49 {L : Nat} {xs : Nat → Int32} {fv : Value} {f w : Nat} {c : Nat × Nat} {o : z_V} {T' : z_Y} {A : Nat → List (Nat × Int32)} {E : List (Nat × Option Nat)} {N : Nat → Nat} {V : Nat → Nat → Int32} {W : Nat} {g : List z_E} {x1 : Int32} {x2 : Int32} {A1 : Nat → List (Nat × Int32)} {E1 : List (Nat × Option Nat)} {N1 : Nat → Nat} {V1 : Nat → Nat → Int32} {W1 : Nat} {g1 : List z_E} {c1 : Nat × Nat} {v : Int32} (h1 : z_in (x1 + 1) (N 40) = true)  (hRm : z_Rm (hC (z_u A 40 (((x1 + 1).toNatClampNeg, 1) :: A 40)) E N (z_v V 38 12 ((V 38 12) + x2)) W ++ g, c)) (hf : 1 ≤ f) (hw : 19 + z_pg.2.1 118 ≤ w) (hc : z_Ln L xs fv (f - 1) (w - (19 + z_pg.2.1 118)) 118 0 [(0, .ref 145)] [] (hC (z_u A 40 (((x1 + 1).toNatClampNeg, 1) :: A 40)) E N (z_v V 38 12 ((V 38 12) + x2)) W ++ g, c) (.inl (some (.int v))) (hC A1 E1 N1 V1 W1 ++ g1, c1)) (kk : z_Ln L xs fv f w 122 72 [(0, .ref 145), (1, .int x1), (2, .int x2)] [.int v] (hC A1 E1 N1 V1 W1 ++ g1, c1) o T') : z_Ln L xs fv f w 122 49 [(0, .ref 145), (1, .int x1), (2, .int x2)] [] (hC A E N V W ++ g, c) o T' := z_Ln.blk (pc' := 69) (lv' := [(0, .ref 145), (1, .int x1), (2, .int x2)]) (st' := [.ref 145]) (H' := hC (z_u A 40 (((x1 + 1).toNatClampNeg, 1) :: A 40)) E N (z_v V 38 12 ((V 38 12) + x2)) W ++ g) (C := [z_in (x1 + 1) (N 40) = true, z_fit (z_fty 8 12) (.int ((V 38 12) + x2)) = true]) 28 14 rfl ⟨h1, z_fitI⟩ (z_Ln.call (s := 0) (mj := 118) (as := [.ref 145]) (rr := []) (v := some (.int v)) (T1 := (hC A1 E1 N1 V1 W1 ++ g1, c1)) rfl rfl ⟨⟨hf, hw⟩, (by decide : (0 : Nat) ≤ 8), (by decide +kernel : (1 : Nat) ≤ z_pg.2.1 118)⟩ hRm hc ⟨trivial, ⟨(z_sm0C 0 (by decide) rfl rfl), trivial, trivial, trivial⟩⟩ (kk))
set_option maxRecDepth 10000 in
theorem e122_49x {L : Nat} {xs : Nat → Int32} {fv : Value} {f w : Nat} {c : Nat × Nat} {T' : z_Y} {A : Nat → List (Nat × Int32)} {E : List (Nat × Option Nat)} {N : Nat → Nat} {V : Nat → Nat → Int32} {W : Nat} {g : List z_E} {x1 : Int32} {x2 : Int32} (h1 : z_in (x1 + 1) (N 40) = true) (hRm : z_Rm (hC (z_u A 40 (((x1 + 1).toNatClampNeg, 1) :: A 40)) E N (z_v V 38 12 ((V 38 12) + x2)) W ++ g, c)) (hf : 1 ≤ f) (hw : 19 + z_pg.2.1 118 ≤ w) (hc : z_Ln L xs fv (f - 1) (w - (19 + z_pg.2.1 118)) 118 0 [(0, .ref 145)] [] (hC (z_u A 40 (((x1 + 1).toNatClampNeg, 1) :: A 40)) E N (z_v V 38 12 ((V 38 12) + x2)) W ++ g, c) (.inr 10) T') : z_Ln L xs fv f w 122 49 [(0, .ref 145), (1, .int x1), (2, .int x2)] [] (hC A E N V W ++ g, c) (.inr 10) T' := z_Ln.blk (pc' := 69) (lv' := [(0, .ref 145), (1, .int x1), (2, .int x2)]) (st' := [.ref 145]) (H' := hC (z_u A 40 (((x1 + 1).toNatClampNeg, 1) :: A 40)) E N (z_v V 38 12 ((V 38 12) + x2)) W ++ g) (C := [z_in (x1 + 1) (N 40) = true, z_fit (z_fty 8 12) (.int ((V 38 12) + x2)) = true]) 28 14 rfl ⟨h1, z_fitI⟩ (z_Ln.past (s := 0) (mj := 118) (as := [.ref 145]) (rr := []) rfl rfl ⟨⟨hf, hw⟩, (by decide : (0 : Nat) ≤ 8), (by decide +kernel : (1 : Nat) ≤ z_pg.2.1 118)⟩ hRm hc rfl)
set_option maxRecDepth 10000 in
theorem e122_72 {L : Nat} {xs : Nat → Int32} {fv : Value} {f w : Nat} {c : Nat × Nat} {o : z_V} {T' : z_Y} {A : Nat → List (Nat × Int32)} {E : List (Nat × Option Nat)} {N : Nat → Nat} {V : Nat → Nat → Int32} {W : Nat} {g : List z_E} {x1 : Int32} {x2 : Int32} {y0 : Int32} {A1 : Nat → List (Nat × Int32)} {E1 : List (Nat × Option Nat)} {N1 : Nat → Nat} {V1 : Nat → Nat → Int32} {W1 : Nat} {g1 : List z_E} {c1 : Nat × Nat}   (hRm : z_Rm (hC A E N (z_v V 38 2 ((V 38 2) - 1)) W ++ g, c)) (hf : 1 ≤ f) (hw : 19 + z_pg.2.1 123 ≤ w) (hc : z_Ln L xs fv (f - 1) (w - (19 + z_pg.2.1 123)) 123 0 [(0, .ref 145), (1, .int x1)] [] (hC A E N (z_v V 38 2 ((V 38 2) - 1)) W ++ g, c) (.inl (none)) (hC A1 E1 N1 V1 W1 ++ g1, c1)) (kk : z_Ln L xs fv f w 122 88 [(0, .ref 145), (1, .int x1), (2, .int x2), (3, .int y0)] [] (hC A1 E1 N1 V1 W1 ++ g1, c1) o T') : z_Ln L xs fv f w 122 72 [(0, .ref 145), (1, .int x1), (2, .int x2)] [.int y0] (hC A E N V W ++ g, c) o T' := z_Ln.blk (pc' := 85) (lv' := [(3, .int y0), (0, .ref 145), (1, .int x1), (2, .int x2)]) (st' := [.int x1, .ref 145]) (H' := hC A E N (z_v V 38 2 ((V 38 2) - 1)) W ++ g) (C := [z_fit (z_fty 8 2) (.int ((V 38 2) - 1)) = true]) 43 9 rfl z_fitI (z_Ln.call (s := 0) (mj := 123) (as := [.ref 145, .int x1]) (rr := []) (v := none) (T1 := (hC A1 E1 N1 V1 W1 ++ g1, c1)) rfl rfl ⟨⟨hf, hw⟩, (by decide : (0 : Nat) ≤ 8), (by decide +kernel : (2 : Nat) ≤ z_pg.2.1 123)⟩ hRm hc ⟨trivial, ⟨trivial, (z_sm0C 0 (by decide) rfl rfl), trivial, trivial, trivial⟩⟩ (z_Ln.lv (z_le.cons rfl rfl (z_le.cons rfl rfl (z_le.cons rfl rfl (z_le.cons rfl rfl z_le.nil)))) kk))
set_option maxRecDepth 10000 in
theorem e122_72x {L : Nat} {xs : Nat → Int32} {fv : Value} {f w : Nat} {c : Nat × Nat} {T' : z_Y} {A : Nat → List (Nat × Int32)} {E : List (Nat × Option Nat)} {N : Nat → Nat} {V : Nat → Nat → Int32} {W : Nat} {g : List z_E} {x1 : Int32} {x2 : Int32} {y0 : Int32}  (hRm : z_Rm (hC A E N (z_v V 38 2 ((V 38 2) - 1)) W ++ g, c)) (hf : 1 ≤ f) (hw : 19 + z_pg.2.1 123 ≤ w) (hc : z_Ln L xs fv (f - 1) (w - (19 + z_pg.2.1 123)) 123 0 [(0, .ref 145), (1, .int x1)] [] (hC A E N (z_v V 38 2 ((V 38 2) - 1)) W ++ g, c) (.inr 10) T') : z_Ln L xs fv f w 122 72 [(0, .ref 145), (1, .int x1), (2, .int x2)] [.int y0] (hC A E N V W ++ g, c) (.inr 10) T' := z_Ln.blk (pc' := 85) (lv' := [(3, .int y0), (0, .ref 145), (1, .int x1), (2, .int x2)]) (st' := [.int x1, .ref 145]) (H' := hC A E N (z_v V 38 2 ((V 38 2) - 1)) W ++ g) (C := [z_fit (z_fty 8 2) (.int ((V 38 2) - 1)) = true]) 43 9 rfl z_fitI (z_Ln.past (s := 0) (mj := 123) (as := [.ref 145, .int x1]) (rr := []) rfl rfl ⟨⟨hf, hw⟩, (by decide : (0 : Nat) ≤ 8), (by decide +kernel : (2 : Nat) ≤ z_pg.2.1 123)⟩ hRm hc rfl)
set_option maxRecDepth 10000 in
theorem e122_88 {L : Nat} {xs : Nat → Int32} {fv : Value} {f w : Nat} {c : Nat × Nat} {o : z_V} {T' : z_Y} {A : Nat → List (Nat × Int32)} {E : List (Nat × Option Nat)} {N : Nat → Nat} {V : Nat → Nat → Int32} {W : Nat} {g : List z_E} {x1 : Int32} {x2 : Int32} {x3 : Int32} {A1 : Nat → List (Nat × Int32)} {E1 : List (Nat × Option Nat)} {N1 : Nat → Nat} {V1 : Nat → Nat → Int32} {W1 : Nat} {g1 : List z_E} {c1 : Nat × Nat} (h1 : z_in x1 (N 40) = true)  (hRm : z_Rm (hC A E N (z_v V 38 6 ((z_fn 0 (A 40) x1.toNatClampNeg) + 1)) W ++ g, c)) (hf : 1 ≤ f) (hw : 19 + z_pg.2.1 117 ≤ w) (hc : z_Ln L xs fv (f - 1) (w - (19 + z_pg.2.1 117)) 117 0 [(0, .ref 145), (1, .int x3)] [] (hC A E N (z_v V 38 6 ((z_fn 0 (A 40) x1.toNatClampNeg) + 1)) W ++ g, c) (.inl (none)) (hC A1 E1 N1 V1 W1 ++ g1, c1)) (kk : z_Ln L xs fv f w 122 105 [(0, .ref 145), (1, .int x1), (2, .int x2)] [] (hC A1 E1 N1 V1 W1 ++ g1, c1) o T') : z_Ln L xs fv f w 122 88 [(0, .ref 145), (1, .int x1), (2, .int x2), (3, .int x3)] [] (hC A E N V W ++ g, c) o T' := z_Ln.blk (pc' := 102) (lv' := [(0, .ref 145), (1, .int x1), (2, .int x2), (3, .int x3)]) (st' := [.int x3, .ref 145]) (H' := hC A E N (z_v V 38 6 ((z_fn 0 (A 40) x1.toNatClampNeg) + 1)) W ++ g) (C := [z_in x1 (N 40) = true, z_fit (z_fty 8 6) (.int ((z_fn 0 (A 40) x1.toNatClampNeg) + 1)) = true]) 53 10 rfl ⟨h1, z_fitI⟩ (z_Ln.call (s := 0) (mj := 117) (as := [.ref 145, .int x3]) (rr := []) (v := none) (T1 := (hC A1 E1 N1 V1 W1 ++ g1, c1)) rfl rfl ⟨⟨hf, hw⟩, (by decide : (0 : Nat) ≤ 8), (by decide +kernel : (2 : Nat) ≤ z_pg.2.1 117)⟩ hRm hc ⟨trivial, ⟨(z_sm0C 0 (by decide) rfl rfl), trivial, trivial, trivial, trivial⟩⟩ (z_Ln.lv (z_le.cons rfl rfl (z_le.cons rfl rfl (z_le.cons rfl rfl z_le.nil))) kk))
set_option maxRecDepth 10000 in
theorem e122_88x {L : Nat} {xs : Nat → Int32} {fv : Value} {f w : Nat} {c : Nat × Nat} {T' : z_Y} {A : Nat → List (Nat × Int32)} {E : List (Nat × Option Nat)} {N : Nat → Nat} {V : Nat → Nat → Int32} {W : Nat} {g : List z_E} {x1 : Int32} {x2 : Int32} {x3 : Int32} (h1 : z_in x1 (N 40) = true) (hRm : z_Rm (hC A E N (z_v V 38 6 ((z_fn 0 (A 40) x1.toNatClampNeg) + 1)) W ++ g, c)) (hf : 1 ≤ f) (hw : 19 + z_pg.2.1 117 ≤ w) (hc : z_Ln L xs fv (f - 1) (w - (19 + z_pg.2.1 117)) 117 0 [(0, .ref 145), (1, .int x3)] [] (hC A E N (z_v V 38 6 ((z_fn 0 (A 40) x1.toNatClampNeg) + 1)) W ++ g, c) (.inr 10) T') : z_Ln L xs fv f w 122 88 [(0, .ref 145), (1, .int x1), (2, .int x2), (3, .int x3)] [] (hC A E N V W ++ g, c) (.inr 10) T' := z_Ln.blk (pc' := 102) (lv' := [(0, .ref 145), (1, .int x1), (2, .int x2), (3, .int x3)]) (st' := [.int x3, .ref 145]) (H' := hC A E N (z_v V 38 6 ((z_fn 0 (A 40) x1.toNatClampNeg) + 1)) W ++ g) (C := [z_in x1 (N 40) = true, z_fit (z_fty 8 6) (.int ((z_fn 0 (A 40) x1.toNatClampNeg) + 1)) = true]) 53 10 rfl ⟨h1, z_fitI⟩ (z_Ln.past (s := 0) (mj := 117) (as := [.ref 145, .int x3]) (rr := []) rfl rfl ⟨⟨hf, hw⟩, (by decide : (0 : Nat) ≤ 8), (by decide +kernel : (2 : Nat) ≤ z_pg.2.1 117)⟩ hRm hc rfl)
set_option maxRecDepth 10000 in
theorem e122_105 {L : Nat} {xs : Nat → Int32} {fv : Value} {f w : Nat} {c : Nat × Nat} {A : Nat → List (Nat × Int32)} {E : List (Nat × Option Nat)} {N : Nat → Nat} {V : Nat → Nat → Int32} {W : Nat} {g : List z_E} {x1 : Int32} {x2 : Int32}  : z_Ln L xs fv f w 122 105 [(0, .ref 145), (1, .int x1), (2, .int x2)] [] (hC A E N V W ++ g, c) (.inl none) (hC A E N V W ++ g, c) := z_Ln.ret rfl rfl
def p122_105 (l : Nat) (A : Nat → List (Nat × Int32)) (E : List (Nat × Option Nat)) (N : Nat → Nat) (V : Nat → Nat → Int32) (W : Nat) (c : Nat × Nat) (x1 : Int32) (x2 : Int32) (Q : z_V → z_CS → Prop) : Prop := Q (.inl (none)) (A, E, N, V, W, c)
set_option maxRecDepth 10000 in
theorem t122_105 {l : Nat} {A : Nat → List (Nat × Int32)} {E : List (Nat × Option Nat)} {N : Nat → Nat} {V : Nat → Nat → Int32} {W : Nat} {c : Nat × Nat} {x1 : Int32} {x2 : Int32} {Q : z_V → z_CS → Prop} (h : p122_105 l A E N V W c x1 x2 Q) : z_WC (l + 1) 122 105 [(0, .ref 145), (1, .int x1), (2, .int x2)] [] (A, E, N, V, W, c) Q := by
  unfold p122_105 at h
  exact ⟨(.inl (none)), (A, E, N, V, W, c), fun _ _ _ _ _ _ hg hl => e122_105 , h⟩
def p122_88 (l : Nat) (A : Nat → List (Nat × Int32)) (E : List (Nat × Option Nat)) (N : Nat → Nat) (V : Nat → Nat → Int32) (W : Nat) (c : Nat × Nat) (x1 : Int32) (x2 : Int32) (x3 : Int32) (Q : z_V → z_CS → Prop) : Prop := z_in x1 (N 40) = true ∧ z_Rm ([], c) ∧ z_WC l 117 0 [(0, .ref 145), (1, .int x3)] [] (A, E, N, (z_v V 38 6 ((z_fn 0 (A 40) x1.toNatClampNeg) + 1)), W, c) (z_cx Q (fun x S1 => x = none ∧ p122_105 l S1.1 S1.2.1 S1.2.2.1 S1.2.2.2.1 S1.2.2.2.2.1 S1.2.2.2.2.2 x1 x2 Q))
set_option maxRecDepth 10000 in
theorem t122_88 {l : Nat} {A : Nat → List (Nat × Int32)} {E : List (Nat × Option Nat)} {N : Nat → Nat} {V : Nat → Nat → Int32} {W : Nat} {c : Nat × Nat} {x1 : Int32} {x2 : Int32} {x3 : Int32} {Q : z_V → z_CS → Prop} (h : p122_88 l A E N V W c x1 x2 x3 Q) : z_WC (l + 1) 122 88 [(0, .ref 145), (1, .int x1), (2, .int x2), (3, .int x3)] [] (A, E, N, V, W, c) Q := by
  unfold p122_88 at h
  obtain ⟨h1, hm, h⟩ := h
  obtain ⟨o, S1, hc, h⟩ := h
  cases o with
  | inl x =>
    obtain ⟨rfl, h⟩ := h
    obtain ⟨o2, S2, hk, hQ⟩ := t122_105 h
    exact ⟨o2, S2, fun L xs fv f w g hg hl => e122_88 h1  hm hl.f1 (hl.w1 117 (by decide)) (hc L xs fv _ _ g hg (hl.dn 117 (by decide))) (hk L xs fv f w g hg hl), hQ⟩
  | inr e =>
    obtain ⟨rfl, h⟩ := h
    exact ⟨_, S1, fun L xs fv f w g hg hl => e122_88x h1 hm hl.f1 (hl.w1 117 (by decide)) (hc L xs fv _ _ g hg (hl.dn 117 (by decide))), h⟩
def p122_72 (l : Nat) (A : Nat → List (Nat × Int32)) (E : List (Nat × Option Nat)) (N : Nat → Nat) (V : Nat → Nat → Int32) (W : Nat) (c : Nat × Nat) (x1 : Int32) (x2 : Int32) (y0 : Int32) (Q : z_V → z_CS → Prop) : Prop := z_Rm ([], c) ∧ z_WC l 123 0 [(0, .ref 145), (1, .int x1)] [] (A, E, N, (z_v V 38 2 ((V 38 2) - 1)), W, c) (z_cx Q (fun x S1 => x = none ∧ p122_88 l S1.1 S1.2.1 S1.2.2.1 S1.2.2.2.1 S1.2.2.2.2.1 S1.2.2.2.2.2 x1 x2 y0 Q))
set_option maxRecDepth 10000 in
theorem t122_72 {l : Nat} {A : Nat → List (Nat × Int32)} {E : List (Nat × Option Nat)} {N : Nat → Nat} {V : Nat → Nat → Int32} {W : Nat} {c : Nat × Nat} {x1 : Int32} {x2 : Int32} {y0 : Int32} {Q : z_V → z_CS → Prop} (h : p122_72 l A E N V W c x1 x2 y0 Q) : z_WC (l + 1) 122 72 [(0, .ref 145), (1, .int x1), (2, .int x2)] [.int y0] (A, E, N, V, W, c) Q := by
  unfold p122_72 at h
  obtain ⟨hm, h⟩ := h
  obtain ⟨o, S1, hc, h⟩ := h
  cases o with
  | inl x =>
    obtain ⟨rfl, h⟩ := h
    obtain ⟨o2, S2, hk, hQ⟩ := t122_88 h
    exact ⟨o2, S2, fun L xs fv f w g hg hl => e122_72   hm hl.f1 (hl.w1 123 (by decide)) (hc L xs fv _ _ g hg (hl.dn 123 (by decide))) (hk L xs fv f w g hg hl), hQ⟩
  | inr e =>
    obtain ⟨rfl, h⟩ := h
    exact ⟨_, S1, fun L xs fv f w g hg hl => e122_72x  hm hl.f1 (hl.w1 123 (by decide)) (hc L xs fv _ _ g hg (hl.dn 123 (by decide))), h⟩
def p122_49 (l : Nat) (A : Nat → List (Nat × Int32)) (E : List (Nat × Option Nat)) (N : Nat → Nat) (V : Nat → Nat → Int32) (W : Nat) (c : Nat × Nat) (x1 : Int32) (x2 : Int32) (Q : z_V → z_CS → Prop) : Prop := z_in (x1 + 1) (N 40) = true ∧ z_Rm ([], c) ∧ z_WC l 118 0 [(0, .ref 145)] [] ((z_u A 40 (((x1 + 1).toNatClampNeg, 1) :: A 40)), E, N, (z_v V 38 12 ((V 38 12) + x2)), W, c) (z_cx Q (fun x S1 => ∃ v : Int32, x = some (.int v) ∧ p122_72 l S1.1 S1.2.1 S1.2.2.1 S1.2.2.2.1 S1.2.2.2.2.1 S1.2.2.2.2.2 x1 x2 v Q))
set_option maxRecDepth 10000 in
theorem t122_49 {l : Nat} {A : Nat → List (Nat × Int32)} {E : List (Nat × Option Nat)} {N : Nat → Nat} {V : Nat → Nat → Int32} {W : Nat} {c : Nat × Nat} {x1 : Int32} {x2 : Int32} {Q : z_V → z_CS → Prop} (h : p122_49 l A E N V W c x1 x2 Q) : z_WC (l + 1) 122 49 [(0, .ref 145), (1, .int x1), (2, .int x2)] [] (A, E, N, V, W, c) Q := by
  unfold p122_49 at h
  obtain ⟨h1, hm, h⟩ := h
  obtain ⟨o, S1, hc, h⟩ := h
  cases o with
  | inl x =>
    obtain ⟨v, rfl, h⟩ := h
    obtain ⟨o2, S2, hk, hQ⟩ := t122_72 h
    exact ⟨o2, S2, fun L xs fv f w g hg hl => e122_49 h1  hm hl.f1 (hl.w1 118 (by decide)) (hc L xs fv _ _ g hg (hl.dn 118 (by decide))) (hk L xs fv f w g hg hl), hQ⟩
  | inr e =>
    obtain ⟨rfl, h⟩ := h
    exact ⟨_, S1, fun L xs fv f w g hg hl => e122_49x h1 hm hl.f1 (hl.w1 118 (by decide)) (hc L xs fv _ _ g hg (hl.dn 118 (by decide))), h⟩
def p122_40 (l : Nat) (A : Nat → List (Nat × Int32)) (E : List (Nat × Option Nat)) (N : Nat → Nat) (V : Nat → Nat → Int32) (W : Nat) (c : Nat × Nat) (x1 : Int32) (x2 : Int32) (Q : z_V → z_CS → Prop) : Prop := p122_105 l A E N (z_v V 38 7 (6)) W c x1 x2 Q
set_option maxRecDepth 10000 in
theorem t122_40 {l : Nat} {A : Nat → List (Nat × Int32)} {E : List (Nat × Option Nat)} {N : Nat → Nat} {V : Nat → Nat → Int32} {W : Nat} {c : Nat × Nat} {x1 : Int32} {x2 : Int32} {Q : z_V → z_CS → Prop} (h : p122_40 l A E N V W c x1 x2 Q) : z_WC (l + 1) 122 40 [(0, .ref 145), (1, .int x1), (2, .int x2)] [] (A, E, N, V, W, c) Q := by
  unfold p122_40 at h
  exact z_WC.blk (t122_105 h) (fun _ _ _ _ _ _ _ _ hg hl k => e122_40  k)
def p122_28 (l : Nat) (A : Nat → List (Nat × Int32)) (E : List (Nat × Option Nat)) (N : Nat → Nat) (V : Nat → Nat → Int32) (W : Nat) (c : Nat × Nat) (x1 : Int32) (x2 : Int32) (Q : z_V → z_CS → Prop) : Prop := (if ((V 38 12) + x2) ≤ 400 then p122_49 l A E N V W c x1 x2 Q else p122_40 l A E N V W c x1 x2 Q)
set_option maxRecDepth 10000 in
theorem t122_28 {l : Nat} {A : Nat → List (Nat × Int32)} {E : List (Nat × Option Nat)} {N : Nat → Nat} {V : Nat → Nat → Int32} {W : Nat} {c : Nat × Nat} {x1 : Int32} {x2 : Int32} {Q : z_V → z_CS → Prop} (h : p122_28 l A E N V W c x1 x2 Q) : z_WC (l + 1) 122 28 [(0, .ref 145), (1, .int x1), (2, .int x2)] [] (A, E, N, V, W, c) Q := by
  unfold p122_28 at h
  by_cases hb : ((V 38 12) + x2) ≤ 400
  · rw [if_pos hb] at h
    exact z_WC.blk (t122_49 h) (fun _ _ _ _ _ _ _ _ hg hl k => e122_28t  hb k)
  · rw [if_neg hb] at h
    exact z_WC.blk (t122_40 h) (fun _ _ _ _ _ _ _ _ hg hl k => e122_28f  hb k)
def p122_20 (l : Nat) (A : Nat → List (Nat × Int32)) (E : List (Nat × Option Nat)) (N : Nat → Nat) (V : Nat → Nat → Int32) (W : Nat) (c : Nat × Nat) (x1 : Int32) (x2 : Int32) (Q : z_V → z_CS → Prop) : Prop := p122_105 l A E N (z_v V 38 7 (3)) W c x1 x2 Q
set_option maxRecDepth 10000 in
theorem t122_20 {l : Nat} {A : Nat → List (Nat × Int32)} {E : List (Nat × Option Nat)} {N : Nat → Nat} {V : Nat → Nat → Int32} {W : Nat} {c : Nat × Nat} {x1 : Int32} {x2 : Int32} {Q : z_V → z_CS → Prop} (h : p122_20 l A E N V W c x1 x2 Q) : z_WC (l + 1) 122 20 [(0, .ref 145), (1, .int x1), (2, .int x2)] [] (A, E, N, V, W, c) Q := by
  unfold p122_20 at h
  exact z_WC.blk (t122_105 h) (fun _ _ _ _ _ _ _ _ hg hl k => e122_20  k)
def p122_0 (l : Nat) (A : Nat → List (Nat × Int32)) (E : List (Nat × Option Nat)) (N : Nat → Nat) (V : Nat → Nat → Int32) (W : Nat) (c : Nat × Nat) (x1 : Int32) (Q : z_V → z_CS → Prop) : Prop := z_in (x1 + 2) (N 40) = true ∧ z_in (x1 + 1) (N 40) = true ∧ (if (z_fn 0 (A 40) (x1 + 1).toNatClampNeg) = 0 then p122_28 l A E N V W c x1 (z_fn 0 (A 40) (x1 + 2).toNatClampNeg) Q else p122_20 l A E N V W c x1 (z_fn 0 (A 40) (x1 + 2).toNatClampNeg) Q)
set_option maxRecDepth 10000 in
theorem t122_0 {l : Nat} {A : Nat → List (Nat × Int32)} {E : List (Nat × Option Nat)} {N : Nat → Nat} {V : Nat → Nat → Int32} {W : Nat} {c : Nat × Nat} {x1 : Int32} {Q : z_V → z_CS → Prop} (h : p122_0 l A E N V W c x1 Q) : z_WC (l + 1) 122 0 [(0, .ref 145), (1, .int x1)] [] (A, E, N, V, W, c) Q := by
  unfold p122_0 at h
  obtain ⟨h1, h2, h⟩ := h
  by_cases hb : (z_fn 0 (A 40) (x1 + 1).toNatClampNeg) = 0
  · rw [if_pos hb] at h
    exact z_WC.blk (t122_28 h) (fun _ _ _ _ _ _ _ _ hg hl k => e122_0t h1 h2 hb k)
  · rw [if_neg hb] at h
    exact z_WC.blk (t122_20 h) (fun _ _ _ _ _ _ _ _ hg hl k => e122_0f h1 h2 hb k)
set_option maxRecDepth 10000 in
theorem e121_0t {L : Nat} {xs : Nat → Int32} {fv : Value} {f w : Nat} {c : Nat × Nat} {o : z_V} {T' : z_Y} {A : Nat → List (Nat × Int32)} {E : List (Nat × Option Nat)} {N : Nat → Nat} {V : Nat → Nat → Int32} {W : Nat} {g : List z_E} (h1 : z_in ((V 38 2) - 2) (N 39) = true) (h2 : z_in (z_fn 0 (A 39) ((V 38 2) - 2).toNatClampNeg) (N 40) = true) (h3 : z_in (z_fn 0 (A 40) (z_fn 0 (A 39) ((V 38 2) - 2).toNatClampNeg).toNatClampNeg) (N 14) = true) (hb : ¬ (z_fn 0 (A 14) (z_fn 0 (A 40) (z_fn 0 (A 39) ((V 38 2) - 2).toNatClampNeg).toNatClampNeg).toNatClampNeg) = 16) (kk : z_Ln L xs fv f w 121 41 [(0, .ref 145), (1, .int (z_fn 0 (A 39) ((V 38 2) - 2).toNatClampNeg)), (2, .int (z_fn 0 (A 40) (z_fn 0 (A 39) ((V 38 2) - 2).toNatClampNeg).toNatClampNeg))] [] (hC A E N V W ++ g, c) o T') : z_Ln L xs fv f w 121 0 [(0, .ref 145)] [] (hC A E N V W ++ g, c) o T' := z_Ln.blk (pc' := (if decide (¬ (z_fn 0 (A 14) (z_fn 0 (A 40) (z_fn 0 (A 39) ((V 38 2) - 2).toNatClampNeg).toNatClampNeg).toNatClampNeg) = 16) = true then 41 else 33)) (lv' := [(2, .int (z_fn 0 (A 40) (z_fn 0 (A 39) ((V 38 2) - 2).toNatClampNeg).toNatClampNeg)), (1, .int (z_fn 0 (A 39) ((V 38 2) - 2).toNatClampNeg)), (0, .ref 145)]) (st' := []) (H' := hC A E N V W ++ g) (C := [z_in ((V 38 2) - 2) (N 39) = true, z_in (z_fn 0 (A 39) ((V 38 2) - 2).toNatClampNeg) (N 40) = true, z_in (z_fn 0 (A 40) (z_fn 0 (A 39) ((V 38 2) - 2).toNatClampNeg).toNatClampNeg) (N 14) = true]) 0 20 rfl ⟨h1, h2, h3⟩ (z_Ln.brT (decide_eq_true hb) (z_Ln.lv (z_le.cons rfl rfl (z_le.cons rfl rfl (z_le.cons rfl rfl z_le.nil))) kk))
set_option maxRecDepth 10000 in
theorem e121_0f {L : Nat} {xs : Nat → Int32} {fv : Value} {f w : Nat} {c : Nat × Nat} {o : z_V} {T' : z_Y} {A : Nat → List (Nat × Int32)} {E : List (Nat × Option Nat)} {N : Nat → Nat} {V : Nat → Nat → Int32} {W : Nat} {g : List z_E} (h1 : z_in ((V 38 2) - 2) (N 39) = true) (h2 : z_in (z_fn 0 (A 39) ((V 38 2) - 2).toNatClampNeg) (N 40) = true) (h3 : z_in (z_fn 0 (A 40) (z_fn 0 (A 39) ((V 38 2) - 2).toNatClampNeg).toNatClampNeg) (N 14) = true) (hb : ¬ (¬ (z_fn 0 (A 14) (z_fn 0 (A 40) (z_fn 0 (A 39) ((V 38 2) - 2).toNatClampNeg).toNatClampNeg).toNatClampNeg) = 16)) (kk : z_Ln L xs fv f w 121 33 [(0, .ref 145), (1, .int (z_fn 0 (A 39) ((V 38 2) - 2).toNatClampNeg)), (2, .int (z_fn 0 (A 40) (z_fn 0 (A 39) ((V 38 2) - 2).toNatClampNeg).toNatClampNeg))] [] (hC A E N V W ++ g, c) o T') : z_Ln L xs fv f w 121 0 [(0, .ref 145)] [] (hC A E N V W ++ g, c) o T' := z_Ln.blk (pc' := (if decide (¬ (z_fn 0 (A 14) (z_fn 0 (A 40) (z_fn 0 (A 39) ((V 38 2) - 2).toNatClampNeg).toNatClampNeg).toNatClampNeg) = 16) = true then 41 else 33)) (lv' := [(2, .int (z_fn 0 (A 40) (z_fn 0 (A 39) ((V 38 2) - 2).toNatClampNeg).toNatClampNeg)), (1, .int (z_fn 0 (A 39) ((V 38 2) - 2).toNatClampNeg)), (0, .ref 145)]) (st' := []) (H' := hC A E N V W ++ g) (C := [z_in ((V 38 2) - 2) (N 39) = true, z_in (z_fn 0 (A 39) ((V 38 2) - 2).toNatClampNeg) (N 40) = true, z_in (z_fn 0 (A 40) (z_fn 0 (A 39) ((V 38 2) - 2).toNatClampNeg).toNatClampNeg) (N 14) = true]) 0 20 rfl ⟨h1, h2, h3⟩ (z_Ln.brF (decide_eq_false hb) (z_Ln.lv (z_le.cons rfl rfl (z_le.cons rfl rfl (z_le.cons rfl rfl z_le.nil))) kk))
set_option maxRecDepth 10000 in
theorem e121_33 {L : Nat} {xs : Nat → Int32} {fv : Value} {f w : Nat} {c : Nat × Nat} {o : z_V} {T' : z_Y} {A : Nat → List (Nat × Int32)} {E : List (Nat × Option Nat)} {N : Nat → Nat} {V : Nat → Nat → Int32} {W : Nat} {g : List z_E} {x1 : Int32} {x2 : Int32} {A1 : Nat → List (Nat × Int32)} {E1 : List (Nat × Option Nat)} {N1 : Nat → Nat} {V1 : Nat → Nat → Int32} {W1 : Nat} {g1 : List z_E} {c1 : Nat × Nat}   (hRm : z_Rm (hC A E N V W ++ g, c)) (hf : 1 ≤ f) (hw : 19 + z_pg.2.1 122 ≤ w) (hc : z_Ln L xs fv (f - 1) (w - (19 + z_pg.2.1 122)) 122 0 [(0, .ref 145), (1, .int x1)] [] (hC A E N V W ++ g, c) (.inl (none)) (hC A1 E1 N1 V1 W1 ++ g1, c1)) (kk : z_Ln L xs fv f w 121 38 [(0, .ref 145), (1, .int x1), (2, .int x2)] [] (hC A1 E1 N1 V1 W1 ++ g1, c1) o T') : z_Ln L xs fv f w 121 33 [(0, .ref 145), (1, .int x1), (2, .int x2)] [] (hC A E N V W ++ g, c) o T' := z_Ln.blk (pc' := 35) (lv' := [(0, .ref 145), (1, .int x1), (2, .int x2)]) (st' := [.int x1, .ref 145]) (H' := hC A E N V W ++ g) (C := []) 20 2 rfl trivial (z_Ln.call (s := 0) (mj := 122) (as := [.ref 145, .int x1]) (rr := []) (v := none) (T1 := (hC A1 E1 N1 V1 W1 ++ g1, c1)) rfl rfl ⟨⟨hf, hw⟩, (by decide : (0 : Nat) ≤ 8), (by decide +kernel : (2 : Nat) ≤ z_pg.2.1 122)⟩ hRm hc ⟨trivial, ⟨(z_sm0C 0 (by decide) rfl rfl), trivial, trivial, trivial⟩⟩ (kk))
set_option maxRecDepth 10000 in
theorem e121_33x {L : Nat} {xs : Nat → Int32} {fv : Value} {f w : Nat} {c : Nat × Nat} {T' : z_Y} {A : Nat → List (Nat × Int32)} {E : List (Nat × Option Nat)} {N : Nat → Nat} {V : Nat → Nat → Int32} {W : Nat} {g : List z_E} {x1 : Int32} {x2 : Int32}  (hRm : z_Rm (hC A E N V W ++ g, c)) (hf : 1 ≤ f) (hw : 19 + z_pg.2.1 122 ≤ w) (hc : z_Ln L xs fv (f - 1) (w - (19 + z_pg.2.1 122)) 122 0 [(0, .ref 145), (1, .int x1)] [] (hC A E N V W ++ g, c) (.inr 10) T') : z_Ln L xs fv f w 121 33 [(0, .ref 145), (1, .int x1), (2, .int x2)] [] (hC A E N V W ++ g, c) (.inr 10) T' := z_Ln.blk (pc' := 35) (lv' := [(0, .ref 145), (1, .int x1), (2, .int x2)]) (st' := [.int x1, .ref 145]) (H' := hC A E N V W ++ g) (C := []) 20 2 rfl trivial (z_Ln.past (s := 0) (mj := 122) (as := [.ref 145, .int x1]) (rr := []) rfl rfl ⟨⟨hf, hw⟩, (by decide : (0 : Nat) ≤ 8), (by decide +kernel : (2 : Nat) ≤ z_pg.2.1 122)⟩ hRm hc rfl)
set_option maxRecDepth 10000 in
theorem e121_38 {L : Nat} {xs : Nat → Int32} {fv : Value} {f w : Nat} {c : Nat × Nat} {o : z_V} {T' : z_Y} {A : Nat → List (Nat × Int32)} {E : List (Nat × Option Nat)} {N : Nat → Nat} {V : Nat → Nat → Int32} {W : Nat} {g : List z_E} {x1 : Int32} {x2 : Int32}  (kk : z_Ln L xs fv f w 121 174 [(0, .ref 145), (1, .int x1), (2, .int x2)] [] (hC A E N V W ++ g, c) o T') : z_Ln L xs fv f w 121 38 [(0, .ref 145), (1, .int x1), (2, .int x2)] [] (hC A E N V W ++ g, c) o T' := z_Ln.blk (pc' := 174) (lv' := [(0, .ref 145), (1, .int x1), (2, .int x2)]) (st' := []) (H' := hC A E N V W ++ g) (C := []) 23 1 rfl trivial (kk)
set_option maxRecDepth 10000 in
theorem e121_41t {L : Nat} {xs : Nat → Int32} {fv : Value} {f w : Nat} {c : Nat × Nat} {o : z_V} {T' : z_Y} {A : Nat → List (Nat × Int32)} {E : List (Nat × Option Nat)} {N : Nat → Nat} {V : Nat → Nat → Int32} {W : Nat} {g : List z_E} {x1 : Int32} {x2 : Int32}  (hb : ¬ (V 38 12) = 400) (kk : z_Ln L xs fv f w 121 60 [(0, .ref 145), (1, .int x1), (2, .int x2)] [] (hC A E N V W ++ g, c) o T') : z_Ln L xs fv f w 121 41 [(0, .ref 145), (1, .int x1), (2, .int x2)] [] (hC A E N V W ++ g, c) o T' := z_Ln.blk (pc' := (if decide (¬ (V 38 12) = 400) = true then 60 else 51)) (lv' := [(0, .ref 145), (1, .int x1), (2, .int x2)]) (st' := []) (H' := hC A E N V W ++ g) (C := []) 24 4 rfl trivial (z_Ln.brT (decide_eq_true hb) (kk))
set_option maxRecDepth 10000 in
theorem e121_41f {L : Nat} {xs : Nat → Int32} {fv : Value} {f w : Nat} {c : Nat × Nat} {o : z_V} {T' : z_Y} {A : Nat → List (Nat × Int32)} {E : List (Nat × Option Nat)} {N : Nat → Nat} {V : Nat → Nat → Int32} {W : Nat} {g : List z_E} {x1 : Int32} {x2 : Int32}  (hb : ¬ (¬ (V 38 12) = 400)) (kk : z_Ln L xs fv f w 121 51 [(0, .ref 145), (1, .int x1), (2, .int x2)] [] (hC A E N V W ++ g, c) o T') : z_Ln L xs fv f w 121 41 [(0, .ref 145), (1, .int x1), (2, .int x2)] [] (hC A E N V W ++ g, c) o T' := z_Ln.blk (pc' := (if decide (¬ (V 38 12) = 400) = true then 60 else 51)) (lv' := [(0, .ref 145), (1, .int x1), (2, .int x2)]) (st' := []) (H' := hC A E N V W ++ g) (C := []) 24 4 rfl trivial (z_Ln.brF (decide_eq_false hb) (kk))
set_option maxRecDepth 10000 in
theorem e121_51 {L : Nat} {xs : Nat → Int32} {fv : Value} {f w : Nat} {c : Nat × Nat} {o : z_V} {T' : z_Y} {A : Nat → List (Nat × Int32)} {E : List (Nat × Option Nat)} {N : Nat → Nat} {V : Nat → Nat → Int32} {W : Nat} {g : List z_E} {x1 : Int32} {x2 : Int32}  (kk : z_Ln L xs fv f w 121 174 [(0, .ref 145), (1, .int x1), (2, .int x2)] [] (hC A E N (z_v V 38 7 (6)) W ++ g, c) o T') : z_Ln L xs fv f w 121 51 [(0, .ref 145), (1, .int x1), (2, .int x2)] [] (hC A E N V W ++ g, c) o T' := z_Ln.blk (pc' := 174) (lv' := [(0, .ref 145), (1, .int x1), (2, .int x2)]) (st' := []) (H' := hC A E N (z_v V 38 7 (6)) W ++ g) (C := [z_fit (z_fty 8 7) (.int 6) = true]) 28 4 rfl z_fitI (kk)
set_option maxRecDepth 10000 in
theorem e121_60 {L : Nat} {xs : Nat → Int32} {fv : Value} {f w : Nat} {c : Nat × Nat} {o : z_V} {T' : z_Y} {A : Nat → List (Nat × Int32)} {E : List (Nat × Option Nat)} {N : Nat → Nat} {V : Nat → Nat → Int32} {W : Nat} {g : List z_E} {x1 : Int32} {x2 : Int32} {A1 : Nat → List (Nat × Int32)} {E1 : List (Nat × Option Nat)} {N1 : Nat → Nat} {V1 : Nat → Nat → Int32} {W1 : Nat} {g1 : List z_E} {c1 : Nat × Nat} {v : Int32}   (hRm : z_Rm (hC A E N (z_v V 38 12 ((V 38 12) + 1)) W ++ g, c)) (hf : 1 ≤ f) (hw : 19 + z_pg.2.1 118 ≤ w) (hc : z_Ln L xs fv (f - 1) (w - (19 + z_pg.2.1 118)) 118 0 [(0, .ref 145)] [] (hC A E N (z_v V 38 12 ((V 38 12) + 1)) W ++ g, c) (.inl (some (.int v))) (hC A1 E1 N1 V1 W1 ++ g1, c1)) (kk : z_Ln L xs fv f w 121 74 [(0, .ref 145), (1, .int x1), (2, .int x2)] [.int v] (hC A1 E1 N1 V1 W1 ++ g1, c1) o T') : z_Ln L xs fv f w 121 60 [(0, .ref 145), (1, .int x1), (2, .int x2)] [] (hC A E N V W ++ g, c) o T' := z_Ln.blk (pc' := 71) (lv' := [(0, .ref 145), (1, .int x1), (2, .int x2)]) (st' := [.ref 145]) (H' := hC A E N (z_v V 38 12 ((V 38 12) + 1)) W ++ g) (C := [z_fit (z_fty 8 12) (.int ((V 38 12) + 1)) = true]) 32 7 rfl z_fitI (z_Ln.call (s := 0) (mj := 118) (as := [.ref 145]) (rr := []) (v := some (.int v)) (T1 := (hC A1 E1 N1 V1 W1 ++ g1, c1)) rfl rfl ⟨⟨hf, hw⟩, (by decide : (0 : Nat) ≤ 8), (by decide +kernel : (1 : Nat) ≤ z_pg.2.1 118)⟩ hRm hc ⟨trivial, ⟨(z_sm0C 0 (by decide) rfl rfl), trivial, trivial, trivial⟩⟩ (kk))
set_option maxRecDepth 10000 in
theorem e121_60x {L : Nat} {xs : Nat → Int32} {fv : Value} {f w : Nat} {c : Nat × Nat} {T' : z_Y} {A : Nat → List (Nat × Int32)} {E : List (Nat × Option Nat)} {N : Nat → Nat} {V : Nat → Nat → Int32} {W : Nat} {g : List z_E} {x1 : Int32} {x2 : Int32}  (hRm : z_Rm (hC A E N (z_v V 38 12 ((V 38 12) + 1)) W ++ g, c)) (hf : 1 ≤ f) (hw : 19 + z_pg.2.1 118 ≤ w) (hc : z_Ln L xs fv (f - 1) (w - (19 + z_pg.2.1 118)) 118 0 [(0, .ref 145)] [] (hC A E N (z_v V 38 12 ((V 38 12) + 1)) W ++ g, c) (.inr 10) T') : z_Ln L xs fv f w 121 60 [(0, .ref 145), (1, .int x1), (2, .int x2)] [] (hC A E N V W ++ g, c) (.inr 10) T' := z_Ln.blk (pc' := 71) (lv' := [(0, .ref 145), (1, .int x1), (2, .int x2)]) (st' := [.ref 145]) (H' := hC A E N (z_v V 38 12 ((V 38 12) + 1)) W ++ g) (C := [z_fit (z_fty 8 12) (.int ((V 38 12) + 1)) = true]) 32 7 rfl z_fitI (z_Ln.past (s := 0) (mj := 118) (as := [.ref 145]) (rr := []) rfl rfl ⟨⟨hf, hw⟩, (by decide : (0 : Nat) ≤ 8), (by decide +kernel : (1 : Nat) ≤ z_pg.2.1 118)⟩ hRm hc rfl)
set_option maxRecDepth 10000 in
theorem e121_74 {L : Nat} {xs : Nat → Int32} {fv : Value} {f w : Nat} {c : Nat × Nat} {o : z_V} {T' : z_Y} {A : Nat → List (Nat × Int32)} {E : List (Nat × Option Nat)} {N : Nat → Nat} {V : Nat → Nat → Int32} {W : Nat} {g : List z_E} {x1 : Int32} {x2 : Int32} {y0 : Int32} {A1 : Nat → List (Nat × Int32)} {E1 : List (Nat × Option Nat)} {N1 : Nat → Nat} {V1 : Nat → Nat → Int32} {W1 : Nat} {g1 : List z_E} {c1 : Nat × Nat} (h1 : z_in x2 (N 18) = true)  (hRm : z_Rm (hC A E N (z_v V 38 2 ((V 38 2) - 1)) W ++ g, c)) (hf : 1 ≤ f) (hw : 19 + z_pg.2.1 111 ≤ w) (hc : z_Ln L xs fv (f - 1) (w - (19 + z_pg.2.1 111)) 111 0 [(0, .ref 145), (1, .int ((V 38 6) + 1)), (2, .int x1), (3, .int ((-1))), (4, .int (z_fn 0 (A 18) x2.toNatClampNeg))] [] (hC A E N (z_v V 38 2 ((V 38 2) - 1)) W ++ g, c) (.inl (none)) (hC A1 E1 N1 V1 W1 ++ g1, c1)) (kk : z_Ln L xs fv f w 121 106 [(0, .ref 145), (1, .int x1), (2, .int x2), (3, .int y0)] [] (hC A1 E1 N1 V1 W1 ++ g1, c1) o T') : z_Ln L xs fv f w 121 74 [(0, .ref 145), (1, .int x1), (2, .int x2)] [.int y0] (hC A E N V W ++ g, c) o T' := z_Ln.blk (pc' := 103) (lv' := [(3, .int y0), (0, .ref 145), (1, .int x1), (2, .int x2)]) (st' := [.int (z_fn 0 (A 18) x2.toNatClampNeg), .int ((-1)), .int x1, .int ((V 38 6) + 1), .ref 145]) (H' := hC A E N (z_v V 38 2 ((V 38 2) - 1)) W ++ g) (C := [z_fit (z_fty 8 2) (.int ((V 38 2) - 1)) = true, z_in x2 (N 18) = true]) 40 19 rfl ⟨z_fitI, h1⟩ (z_Ln.call (s := 0) (mj := 111) (as := [.ref 145, .int ((V 38 6) + 1), .int x1, .int ((-1)), .int (z_fn 0 (A 18) x2.toNatClampNeg)]) (rr := []) (v := none) (T1 := (hC A1 E1 N1 V1 W1 ++ g1, c1)) rfl rfl ⟨⟨hf, hw⟩, (by decide : (0 : Nat) ≤ 8), (by decide +kernel : (5 : Nat) ≤ z_pg.2.1 111)⟩ hRm hc ⟨trivial, ⟨trivial, (z_sm0C 0 (by decide) rfl rfl), trivial, trivial, trivial⟩⟩ (z_Ln.lv (z_le.cons rfl rfl (z_le.cons rfl rfl (z_le.cons rfl rfl (z_le.cons rfl rfl z_le.nil)))) kk))
set_option maxRecDepth 10000 in
theorem e121_74x {L : Nat} {xs : Nat → Int32} {fv : Value} {f w : Nat} {c : Nat × Nat} {T' : z_Y} {A : Nat → List (Nat × Int32)} {E : List (Nat × Option Nat)} {N : Nat → Nat} {V : Nat → Nat → Int32} {W : Nat} {g : List z_E} {x1 : Int32} {x2 : Int32} {y0 : Int32} (h1 : z_in x2 (N 18) = true) (hRm : z_Rm (hC A E N (z_v V 38 2 ((V 38 2) - 1)) W ++ g, c)) (hf : 1 ≤ f) (hw : 19 + z_pg.2.1 111 ≤ w) (hc : z_Ln L xs fv (f - 1) (w - (19 + z_pg.2.1 111)) 111 0 [(0, .ref 145), (1, .int ((V 38 6) + 1)), (2, .int x1), (3, .int ((-1))), (4, .int (z_fn 0 (A 18) x2.toNatClampNeg))] [] (hC A E N (z_v V 38 2 ((V 38 2) - 1)) W ++ g, c) (.inr 10) T') : z_Ln L xs fv f w 121 74 [(0, .ref 145), (1, .int x1), (2, .int x2)] [.int y0] (hC A E N V W ++ g, c) (.inr 10) T' := z_Ln.blk (pc' := 103) (lv' := [(3, .int y0), (0, .ref 145), (1, .int x1), (2, .int x2)]) (st' := [.int (z_fn 0 (A 18) x2.toNatClampNeg), .int ((-1)), .int x1, .int ((V 38 6) + 1), .ref 145]) (H' := hC A E N (z_v V 38 2 ((V 38 2) - 1)) W ++ g) (C := [z_fit (z_fty 8 2) (.int ((V 38 2) - 1)) = true, z_in x2 (N 18) = true]) 40 19 rfl ⟨z_fitI, h1⟩ (z_Ln.past (s := 0) (mj := 111) (as := [.ref 145, .int ((V 38 6) + 1), .int x1, .int ((-1)), .int (z_fn 0 (A 18) x2.toNatClampNeg)]) (rr := []) rfl rfl ⟨⟨hf, hw⟩, (by decide : (0 : Nat) ≤ 8), (by decide +kernel : (5 : Nat) ≤ z_pg.2.1 111)⟩ hRm hc rfl)
set_option maxRecDepth 10000 in
theorem e121_106t {L : Nat} {xs : Nat → Int32} {fv : Value} {f w : Nat} {c : Nat × Nat} {o : z_V} {T' : z_Y} {A : Nat → List (Nat × Int32)} {E : List (Nat × Option Nat)} {N : Nat → Nat} {V : Nat → Nat → Int32} {W : Nat} {g : List z_E} {x1 : Int32} {x2 : Int32} {x3 : Int32} (h1 : z_in x2 (N 14) = true) (hb : ¬ (z_fn 0 (A 14) x2.toNatClampNeg) = 19) (kk : z_Ln L xs fv f w 121 124 [(0, .ref 145), (1, .int x1), (2, .int x2), (3, .int x3)] [] (hC A E N V W ++ g, c) o T') : z_Ln L xs fv f w 121 106 [(0, .ref 145), (1, .int x1), (2, .int x2), (3, .int x3)] [] (hC A E N V W ++ g, c) o T' := z_Ln.blk (pc' := (if decide (¬ (z_fn 0 (A 14) x2.toNatClampNeg) = 19) = true then 124 else 120)) (lv' := [(0, .ref 145), (1, .int x1), (2, .int x2), (3, .int x3)]) (st' := []) (H' := hC A E N V W ++ g) (C := [z_in x2 (N 14) = true]) 60 7 rfl h1 (z_Ln.brT (decide_eq_true hb) (kk))
set_option maxRecDepth 10000 in
theorem e121_106f {L : Nat} {xs : Nat → Int32} {fv : Value} {f w : Nat} {c : Nat × Nat} {o : z_V} {T' : z_Y} {A : Nat → List (Nat × Int32)} {E : List (Nat × Option Nat)} {N : Nat → Nat} {V : Nat → Nat → Int32} {W : Nat} {g : List z_E} {x1 : Int32} {x2 : Int32} {x3 : Int32} (h1 : z_in x2 (N 14) = true) (hb : ¬ (¬ (z_fn 0 (A 14) x2.toNatClampNeg) = 19)) (kk : z_Ln L xs fv f w 121 120 [(0, .ref 145), (1, .int x1), (2, .int x2), (3, .int x3)] [] (hC A E N V W ++ g, c) o T') : z_Ln L xs fv f w 121 106 [(0, .ref 145), (1, .int x1), (2, .int x2), (3, .int x3)] [] (hC A E N V W ++ g, c) o T' := z_Ln.blk (pc' := (if decide (¬ (z_fn 0 (A 14) x2.toNatClampNeg) = 19) = true then 124 else 120)) (lv' := [(0, .ref 145), (1, .int x1), (2, .int x2), (3, .int x3)]) (st' := []) (H' := hC A E N V W ++ g) (C := [z_in x2 (N 14) = true]) 60 7 rfl h1 (z_Ln.brF (decide_eq_false hb) (kk))
set_option maxRecDepth 10000 in
theorem e121_120 {L : Nat} {xs : Nat → Int32} {fv : Value} {f w : Nat} {c : Nat × Nat} {o : z_V} {T' : z_Y} {A : Nat → List (Nat × Int32)} {E : List (Nat × Option Nat)} {N : Nat → Nat} {V : Nat → Nat → Int32} {W : Nat} {g : List z_E} {x1 : Int32} {x2 : Int32} {x3 : Int32}  (kk : z_Ln L xs fv f w 121 125 [(0, .ref 145), (1, .int x1), (2, .int x2), (3, .int x3)] [.int 1] (hC A E N V W ++ g, c) o T') : z_Ln L xs fv f w 121 120 [(0, .ref 145), (1, .int x1), (2, .int x2), (3, .int x3)] [] (hC A E N V W ++ g, c) o T' := z_Ln.blk (pc' := 125) (lv' := [(0, .ref 145), (1, .int x1), (2, .int x2), (3, .int x3)]) (st' := [.int 1]) (H' := hC A E N V W ++ g) (C := []) 67 2 rfl trivial (kk)
set_option maxRecDepth 10000 in
theorem e121_124 {L : Nat} {xs : Nat → Int32} {fv : Value} {f w : Nat} {c : Nat × Nat} {o : z_V} {T' : z_Y} {A : Nat → List (Nat × Int32)} {E : List (Nat × Option Nat)} {N : Nat → Nat} {V : Nat → Nat → Int32} {W : Nat} {g : List z_E} {x1 : Int32} {x2 : Int32} {x3 : Int32}  (kk : z_Ln L xs fv f w 121 125 [(0, .ref 145), (1, .int x1), (2, .int x2), (3, .int x3)] [.int 0] (hC A E N V W ++ g, c) o T') : z_Ln L xs fv f w 121 124 [(0, .ref 145), (1, .int x1), (2, .int x2), (3, .int x3)] [] (hC A E N V W ++ g, c) o T' := z_Ln.blk (pc' := 125) (lv' := [(0, .ref 145), (1, .int x1), (2, .int x2), (3, .int x3)]) (st' := [.int 0]) (H' := hC A E N V W ++ g) (C := []) 69 1 rfl trivial (kk)
set_option maxRecDepth 10000 in
theorem e121_125t {L : Nat} {xs : Nat → Int32} {fv : Value} {f w : Nat} {c : Nat × Nat} {o : z_V} {T' : z_Y} {A : Nat → List (Nat × Int32)} {E : List (Nat × Option Nat)} {N : Nat → Nat} {V : Nat → Nat → Int32} {W : Nat} {g : List z_E} {x1 : Int32} {x2 : Int32} {x3 : Int32} {y0 : Int32}  (hb : y0 = 0) (kk : z_Ln L xs fv f w 121 146 [(0, .ref 145), (1, .int x1), (2, .int x2), (3, .int x3), (4, .int y0)] [.int ((V 38 3) + 4), .ref 146] (hC A E N V W ++ g, c) o T') : z_Ln L xs fv f w 121 125 [(0, .ref 145), (1, .int x1), (2, .int x2), (3, .int x3)] [.int y0] (hC A E N V W ++ g, c) o T' := z_Ln.blk (pc' := (if decide (y0 = 0) = true then 146 else 142)) (lv' := [(4, .int y0), (0, .ref 145), (1, .int x1), (2, .int x2), (3, .int x3)]) (st' := [.int ((V 38 3) + 4), .ref 146]) (H' := hC A E N V W ++ g) (C := []) 70 9 rfl trivial (z_Ln.brT (decide_eq_true hb) (z_Ln.lv (z_le.cons rfl rfl (z_le.cons rfl rfl (z_le.cons rfl rfl (z_le.cons rfl rfl (z_le.cons rfl rfl z_le.nil))))) kk))
set_option maxRecDepth 10000 in
theorem e121_125f {L : Nat} {xs : Nat → Int32} {fv : Value} {f w : Nat} {c : Nat × Nat} {o : z_V} {T' : z_Y} {A : Nat → List (Nat × Int32)} {E : List (Nat × Option Nat)} {N : Nat → Nat} {V : Nat → Nat → Int32} {W : Nat} {g : List z_E} {x1 : Int32} {x2 : Int32} {x3 : Int32} {y0 : Int32}  (hb : ¬ (y0 = 0)) (kk : z_Ln L xs fv f w 121 142 [(0, .ref 145), (1, .int x1), (2, .int x2), (3, .int x3), (4, .int y0)] [.int ((V 38 3) + 4), .ref 146] (hC A E N V W ++ g, c) o T') : z_Ln L xs fv f w 121 125 [(0, .ref 145), (1, .int x1), (2, .int x2), (3, .int x3)] [.int y0] (hC A E N V W ++ g, c) o T' := z_Ln.blk (pc' := (if decide (y0 = 0) = true then 146 else 142)) (lv' := [(4, .int y0), (0, .ref 145), (1, .int x1), (2, .int x2), (3, .int x3)]) (st' := [.int ((V 38 3) + 4), .ref 146]) (H' := hC A E N V W ++ g) (C := []) 70 9 rfl trivial (z_Ln.brF (decide_eq_false hb) (z_Ln.lv (z_le.cons rfl rfl (z_le.cons rfl rfl (z_le.cons rfl rfl (z_le.cons rfl rfl (z_le.cons rfl rfl z_le.nil))))) kk))
set_option maxRecDepth 10000 in
theorem e121_142 {L : Nat} {xs : Nat → Int32} {fv : Value} {f w : Nat} {c : Nat × Nat} {o : z_V} {T' : z_Y} {A : Nat → List (Nat × Int32)} {E : List (Nat × Option Nat)} {N : Nat → Nat} {V : Nat → Nat → Int32} {W : Nat} {g : List z_E} {x1 : Int32} {x2 : Int32} {x3 : Int32} {x4 : Int32} {y0 : Int32}  (kk : z_Ln L xs fv f w 121 147 [(0, .ref 145), (1, .int x1), (2, .int x2), (3, .int x3), (4, .int x4)] [.int x1, .int y0, .ref 146] (hC A E N V W ++ g, c) o T') : z_Ln L xs fv f w 121 142 [(0, .ref 145), (1, .int x1), (2, .int x2), (3, .int x3), (4, .int x4)] [.int y0, .ref 146] (hC A E N V W ++ g, c) o T' := z_Ln.blk (pc' := 147) (lv' := [(0, .ref 145), (1, .int x1), (2, .int x2), (3, .int x3), (4, .int x4)]) (st' := [.int x1, .int y0, .ref 146]) (H' := hC A E N V W ++ g) (C := []) 79 2 rfl trivial (kk)
set_option maxRecDepth 10000 in
theorem e121_146 {L : Nat} {xs : Nat → Int32} {fv : Value} {f w : Nat} {c : Nat × Nat} {o : z_V} {T' : z_Y} {A : Nat → List (Nat × Int32)} {E : List (Nat × Option Nat)} {N : Nat → Nat} {V : Nat → Nat → Int32} {W : Nat} {g : List z_E} {x1 : Int32} {x2 : Int32} {x3 : Int32} {x4 : Int32} {y0 : Int32}  (kk : z_Ln L xs fv f w 121 147 [(0, .ref 145), (1, .int x1), (2, .int x2), (3, .int x3), (4, .int x4)] [.int x3, .int y0, .ref 146] (hC A E N V W ++ g, c) o T') : z_Ln L xs fv f w 121 146 [(0, .ref 145), (1, .int x1), (2, .int x2), (3, .int x3), (4, .int x4)] [.int y0, .ref 146] (hC A E N V W ++ g, c) o T' := z_Ln.blk (pc' := 147) (lv' := [(0, .ref 145), (1, .int x1), (2, .int x2), (3, .int x3), (4, .int x4)]) (st' := [.int x3, .int y0, .ref 146]) (H' := hC A E N V W ++ g) (C := []) 81 1 rfl trivial (kk)
set_option maxRecDepth 10000 in
theorem e121_147t {L : Nat} {xs : Nat → Int32} {fv : Value} {f w : Nat} {c : Nat × Nat} {o : z_V} {T' : z_Y} {A : Nat → List (Nat × Int32)} {E : List (Nat × Option Nat)} {N : Nat → Nat} {V : Nat → Nat → Int32} {W : Nat} {g : List z_E} {x1 : Int32} {x2 : Int32} {x3 : Int32} {x4 : Int32} {y0 : Int32} {y1 : Int32} (h1 : z_in y1 (N 39) = true) (hb : x4 = 0) (kk : z_Ln L xs fv f w 121 167 [(0, .ref 145), (1, .int x1), (2, .int x2), (3, .int x3), (4, .int x4)] [] (hC (z_u A 39 ((y1.toNatClampNeg, y0) :: A 39)) E N V W ++ g, c) o T') : z_Ln L xs fv f w 121 147 [(0, .ref 145), (1, .int x1), (2, .int x2), (3, .int x3), (4, .int x4)] [.int y0, .int y1, .ref 146] (hC A E N V W ++ g, c) o T' := z_Ln.blk (pc' := (if decide (x4 = 0) = true then 167 else 153)) (lv' := [(0, .ref 145), (1, .int x1), (2, .int x2), (3, .int x3), (4, .int x4)]) (st' := []) (H' := hC (z_u A 39 ((y1.toNatClampNeg, y0) :: A 39)) E N V W ++ g) (C := [z_in y1 (N 39) = true]) 82 3 rfl h1 (z_Ln.brT (decide_eq_true hb) (kk))
set_option maxRecDepth 10000 in
theorem e121_147f {L : Nat} {xs : Nat → Int32} {fv : Value} {f w : Nat} {c : Nat × Nat} {o : z_V} {T' : z_Y} {A : Nat → List (Nat × Int32)} {E : List (Nat × Option Nat)} {N : Nat → Nat} {V : Nat → Nat → Int32} {W : Nat} {g : List z_E} {x1 : Int32} {x2 : Int32} {x3 : Int32} {x4 : Int32} {y0 : Int32} {y1 : Int32} (h1 : z_in y1 (N 39) = true) (hb : ¬ (x4 = 0)) (kk : z_Ln L xs fv f w 121 153 [(0, .ref 145), (1, .int x1), (2, .int x2), (3, .int x3), (4, .int x4)] [] (hC (z_u A 39 ((y1.toNatClampNeg, y0) :: A 39)) E N V W ++ g, c) o T') : z_Ln L xs fv f w 121 147 [(0, .ref 145), (1, .int x1), (2, .int x2), (3, .int x3), (4, .int x4)] [.int y0, .int y1, .ref 146] (hC A E N V W ++ g, c) o T' := z_Ln.blk (pc' := (if decide (x4 = 0) = true then 167 else 153)) (lv' := [(0, .ref 145), (1, .int x1), (2, .int x2), (3, .int x3), (4, .int x4)]) (st' := []) (H' := hC (z_u A 39 ((y1.toNatClampNeg, y0) :: A 39)) E N V W ++ g) (C := [z_in y1 (N 39) = true]) 82 3 rfl h1 (z_Ln.brF (decide_eq_false hb) (kk))
set_option maxRecDepth 10000 in
theorem e121_153 {L : Nat} {xs : Nat → Int32} {fv : Value} {f w : Nat} {c : Nat × Nat} {o : z_V} {T' : z_Y} {A : Nat → List (Nat × Int32)} {E : List (Nat × Option Nat)} {N : Nat → Nat} {V : Nat → Nat → Int32} {W : Nat} {g : List z_E} {x1 : Int32} {x2 : Int32} {x3 : Int32} {x4 : Int32} (h1 : z_in (((V 38 3) + 4) + 1) (N 39) = true) (kk : z_Ln L xs fv f w 121 167 [(0, .ref 145), (1, .int x1), (2, .int x2), (3, .int x3), (4, .int x4)] [] (hC (z_u A 39 (((((V 38 3) + 4) + 1).toNatClampNeg, x3) :: A 39)) E N V W ++ g, c) o T') : z_Ln L xs fv f w 121 153 [(0, .ref 145), (1, .int x1), (2, .int x2), (3, .int x3), (4, .int x4)] [] (hC A E N V W ++ g, c) o T' := z_Ln.blk (pc' := 167) (lv' := [(0, .ref 145), (1, .int x1), (2, .int x2), (3, .int x3), (4, .int x4)]) (st' := []) (H' := hC (z_u A 39 (((((V 38 3) + 4) + 1).toNatClampNeg, x3) :: A 39)) E N V W ++ g) (C := [z_in (((V 38 3) + 4) + 1) (N 39) = true]) 85 10 rfl h1 (kk)
set_option maxRecDepth 10000 in
theorem e121_167 {L : Nat} {xs : Nat → Int32} {fv : Value} {f w : Nat} {c : Nat × Nat} {o : z_V} {T' : z_Y} {A : Nat → List (Nat × Int32)} {E : List (Nat × Option Nat)} {N : Nat → Nat} {V : Nat → Nat → Int32} {W : Nat} {g : List z_E} {x1 : Int32} {x2 : Int32} {x3 : Int32} {x4 : Int32}  (kk : z_Ln L xs fv f w 121 174 [(0, .ref 145), (1, .int x1), (2, .int x2)] [] (hC A E N (z_v V 38 6 (x2 + 1)) W ++ g, c) o T') : z_Ln L xs fv f w 121 167 [(0, .ref 145), (1, .int x1), (2, .int x2), (3, .int x3), (4, .int x4)] [] (hC A E N V W ++ g, c) o T' := z_Ln.blk (pc' := 174) (lv' := [(0, .ref 145), (1, .int x1), (2, .int x2), (3, .int x3), (4, .int x4)]) (st' := []) (H' := hC A E N (z_v V 38 6 (x2 + 1)) W ++ g) (C := [z_fit (z_fty 8 6) (.int (x2 + 1)) = true]) 95 5 rfl z_fitI (z_Ln.lv (z_le.cons rfl rfl (z_le.cons rfl rfl (z_le.cons rfl rfl z_le.nil))) kk)
set_option maxRecDepth 10000 in
theorem e121_174 {L : Nat} {xs : Nat → Int32} {fv : Value} {f w : Nat} {c : Nat × Nat} {A : Nat → List (Nat × Int32)} {E : List (Nat × Option Nat)} {N : Nat → Nat} {V : Nat → Nat → Int32} {W : Nat} {g : List z_E} {x1 : Int32} {x2 : Int32}  : z_Ln L xs fv f w 121 174 [(0, .ref 145), (1, .int x1), (2, .int x2)] [] (hC A E N V W ++ g, c) (.inl none) (hC A E N V W ++ g, c) := z_Ln.ret rfl rfl
def p121_174 (l : Nat) (A : Nat → List (Nat × Int32)) (E : List (Nat × Option Nat)) (N : Nat → Nat) (V : Nat → Nat → Int32) (W : Nat) (c : Nat × Nat) (x1 : Int32) (x2 : Int32) (Q : z_V → z_CS → Prop) : Prop := Q (.inl (none)) (A, E, N, V, W, c)
set_option maxRecDepth 10000 in
theorem t121_174 {l : Nat} {A : Nat → List (Nat × Int32)} {E : List (Nat × Option Nat)} {N : Nat → Nat} {V : Nat → Nat → Int32} {W : Nat} {c : Nat × Nat} {x1 : Int32} {x2 : Int32} {Q : z_V → z_CS → Prop} (h : p121_174 l A E N V W c x1 x2 Q) : z_WC (l + 1) 121 174 [(0, .ref 145), (1, .int x1), (2, .int x2)] [] (A, E, N, V, W, c) Q := by
  unfold p121_174 at h
  exact ⟨(.inl (none)), (A, E, N, V, W, c), fun _ _ _ _ _ _ hg hl => e121_174 , h⟩
def p121_167 (l : Nat) (A : Nat → List (Nat × Int32)) (E : List (Nat × Option Nat)) (N : Nat → Nat) (V : Nat → Nat → Int32) (W : Nat) (c : Nat × Nat) (x1 : Int32) (x2 : Int32) (x3 : Int32) (x4 : Int32) (Q : z_V → z_CS → Prop) : Prop := p121_174 l A E N (z_v V 38 6 (x2 + 1)) W c x1 x2 Q
set_option maxRecDepth 10000 in
theorem t121_167 {l : Nat} {A : Nat → List (Nat × Int32)} {E : List (Nat × Option Nat)} {N : Nat → Nat} {V : Nat → Nat → Int32} {W : Nat} {c : Nat × Nat} {x1 : Int32} {x2 : Int32} {x3 : Int32} {x4 : Int32} {Q : z_V → z_CS → Prop} (h : p121_167 l A E N V W c x1 x2 x3 x4 Q) : z_WC (l + 1) 121 167 [(0, .ref 145), (1, .int x1), (2, .int x2), (3, .int x3), (4, .int x4)] [] (A, E, N, V, W, c) Q := by
  unfold p121_167 at h
  exact z_WC.blk (t121_174 h) (fun _ _ _ _ _ _ _ _ hg hl k => e121_167  k)
def p121_153 (l : Nat) (A : Nat → List (Nat × Int32)) (E : List (Nat × Option Nat)) (N : Nat → Nat) (V : Nat → Nat → Int32) (W : Nat) (c : Nat × Nat) (x1 : Int32) (x2 : Int32) (x3 : Int32) (x4 : Int32) (Q : z_V → z_CS → Prop) : Prop := z_in (((V 38 3) + 4) + 1) (N 39) = true ∧ p121_167 l (z_u A 39 (((((V 38 3) + 4) + 1).toNatClampNeg, x3) :: A 39)) E N V W c x1 x2 x3 x4 Q
set_option maxRecDepth 10000 in
theorem t121_153 {l : Nat} {A : Nat → List (Nat × Int32)} {E : List (Nat × Option Nat)} {N : Nat → Nat} {V : Nat → Nat → Int32} {W : Nat} {c : Nat × Nat} {x1 : Int32} {x2 : Int32} {x3 : Int32} {x4 : Int32} {Q : z_V → z_CS → Prop} (h : p121_153 l A E N V W c x1 x2 x3 x4 Q) : z_WC (l + 1) 121 153 [(0, .ref 145), (1, .int x1), (2, .int x2), (3, .int x3), (4, .int x4)] [] (A, E, N, V, W, c) Q := by
  unfold p121_153 at h
  obtain ⟨h1, h⟩ := h
  exact z_WC.blk (t121_167 h) (fun _ _ _ _ _ _ _ _ hg hl k => e121_153 h1 k)
def p121_147 (l : Nat) (A : Nat → List (Nat × Int32)) (E : List (Nat × Option Nat)) (N : Nat → Nat) (V : Nat → Nat → Int32) (W : Nat) (c : Nat × Nat) (x1 : Int32) (x2 : Int32) (x3 : Int32) (x4 : Int32) (y0 : Int32) (y1 : Int32) (Q : z_V → z_CS → Prop) : Prop := z_in y1 (N 39) = true ∧ (if x4 = 0 then p121_167 l (z_u A 39 ((y1.toNatClampNeg, y0) :: A 39)) E N V W c x1 x2 x3 x4 Q else p121_153 l (z_u A 39 ((y1.toNatClampNeg, y0) :: A 39)) E N V W c x1 x2 x3 x4 Q)
set_option maxRecDepth 10000 in
theorem t121_147 {l : Nat} {A : Nat → List (Nat × Int32)} {E : List (Nat × Option Nat)} {N : Nat → Nat} {V : Nat → Nat → Int32} {W : Nat} {c : Nat × Nat} {x1 : Int32} {x2 : Int32} {x3 : Int32} {x4 : Int32} {y0 : Int32} {y1 : Int32} {Q : z_V → z_CS → Prop} (h : p121_147 l A E N V W c x1 x2 x3 x4 y0 y1 Q) : z_WC (l + 1) 121 147 [(0, .ref 145), (1, .int x1), (2, .int x2), (3, .int x3), (4, .int x4)] [.int y0, .int y1, .ref 146] (A, E, N, V, W, c) Q := by
  unfold p121_147 at h
  obtain ⟨h1, h⟩ := h
  by_cases hb : x4 = 0
  · rw [if_pos hb] at h
    exact z_WC.blk (t121_167 h) (fun _ _ _ _ _ _ _ _ hg hl k => e121_147t h1 hb k)
  · rw [if_neg hb] at h
    exact z_WC.blk (t121_153 h) (fun _ _ _ _ _ _ _ _ hg hl k => e121_147f h1 hb k)
def p121_146 (l : Nat) (A : Nat → List (Nat × Int32)) (E : List (Nat × Option Nat)) (N : Nat → Nat) (V : Nat → Nat → Int32) (W : Nat) (c : Nat × Nat) (x1 : Int32) (x2 : Int32) (x3 : Int32) (x4 : Int32) (y0 : Int32) (Q : z_V → z_CS → Prop) : Prop := p121_147 l A E N V W c x1 x2 x3 x4 x3 y0 Q
set_option maxRecDepth 10000 in
theorem t121_146 {l : Nat} {A : Nat → List (Nat × Int32)} {E : List (Nat × Option Nat)} {N : Nat → Nat} {V : Nat → Nat → Int32} {W : Nat} {c : Nat × Nat} {x1 : Int32} {x2 : Int32} {x3 : Int32} {x4 : Int32} {y0 : Int32} {Q : z_V → z_CS → Prop} (h : p121_146 l A E N V W c x1 x2 x3 x4 y0 Q) : z_WC (l + 1) 121 146 [(0, .ref 145), (1, .int x1), (2, .int x2), (3, .int x3), (4, .int x4)] [.int y0, .ref 146] (A, E, N, V, W, c) Q := by
  unfold p121_146 at h
  exact z_WC.blk (t121_147 h) (fun _ _ _ _ _ _ _ _ hg hl k => e121_146  k)
def p121_142 (l : Nat) (A : Nat → List (Nat × Int32)) (E : List (Nat × Option Nat)) (N : Nat → Nat) (V : Nat → Nat → Int32) (W : Nat) (c : Nat × Nat) (x1 : Int32) (x2 : Int32) (x3 : Int32) (x4 : Int32) (y0 : Int32) (Q : z_V → z_CS → Prop) : Prop := p121_147 l A E N V W c x1 x2 x3 x4 x1 y0 Q
set_option maxRecDepth 10000 in
theorem t121_142 {l : Nat} {A : Nat → List (Nat × Int32)} {E : List (Nat × Option Nat)} {N : Nat → Nat} {V : Nat → Nat → Int32} {W : Nat} {c : Nat × Nat} {x1 : Int32} {x2 : Int32} {x3 : Int32} {x4 : Int32} {y0 : Int32} {Q : z_V → z_CS → Prop} (h : p121_142 l A E N V W c x1 x2 x3 x4 y0 Q) : z_WC (l + 1) 121 142 [(0, .ref 145), (1, .int x1), (2, .int x2), (3, .int x3), (4, .int x4)] [.int y0, .ref 146] (A, E, N, V, W, c) Q := by
  unfold p121_142 at h
  exact z_WC.blk (t121_147 h) (fun _ _ _ _ _ _ _ _ hg hl k => e121_142  k)
def p121_125 (l : Nat) (A : Nat → List (Nat × Int32)) (E : List (Nat × Option Nat)) (N : Nat → Nat) (V : Nat → Nat → Int32) (W : Nat) (c : Nat × Nat) (x1 : Int32) (x2 : Int32) (x3 : Int32) (y0 : Int32) (Q : z_V → z_CS → Prop) : Prop := (if y0 = 0 then p121_146 l A E N V W c x1 x2 x3 y0 ((V 38 3) + 4) Q else p121_142 l A E N V W c x1 x2 x3 y0 ((V 38 3) + 4) Q)
set_option maxRecDepth 10000 in
theorem t121_125 {l : Nat} {A : Nat → List (Nat × Int32)} {E : List (Nat × Option Nat)} {N : Nat → Nat} {V : Nat → Nat → Int32} {W : Nat} {c : Nat × Nat} {x1 : Int32} {x2 : Int32} {x3 : Int32} {y0 : Int32} {Q : z_V → z_CS → Prop} (h : p121_125 l A E N V W c x1 x2 x3 y0 Q) : z_WC (l + 1) 121 125 [(0, .ref 145), (1, .int x1), (2, .int x2), (3, .int x3)] [.int y0] (A, E, N, V, W, c) Q := by
  unfold p121_125 at h
  by_cases hb : y0 = 0
  · rw [if_pos hb] at h
    exact z_WC.blk (t121_146 h) (fun _ _ _ _ _ _ _ _ hg hl k => e121_125t  hb k)
  · rw [if_neg hb] at h
    exact z_WC.blk (t121_142 h) (fun _ _ _ _ _ _ _ _ hg hl k => e121_125f  hb k)
def p121_124 (l : Nat) (A : Nat → List (Nat × Int32)) (E : List (Nat × Option Nat)) (N : Nat → Nat) (V : Nat → Nat → Int32) (W : Nat) (c : Nat × Nat) (x1 : Int32) (x2 : Int32) (x3 : Int32) (Q : z_V → z_CS → Prop) : Prop := p121_125 l A E N V W c x1 x2 x3 0 Q
set_option maxRecDepth 10000 in
theorem t121_124 {l : Nat} {A : Nat → List (Nat × Int32)} {E : List (Nat × Option Nat)} {N : Nat → Nat} {V : Nat → Nat → Int32} {W : Nat} {c : Nat × Nat} {x1 : Int32} {x2 : Int32} {x3 : Int32} {Q : z_V → z_CS → Prop} (h : p121_124 l A E N V W c x1 x2 x3 Q) : z_WC (l + 1) 121 124 [(0, .ref 145), (1, .int x1), (2, .int x2), (3, .int x3)] [] (A, E, N, V, W, c) Q := by
  unfold p121_124 at h
  exact z_WC.blk (t121_125 h) (fun _ _ _ _ _ _ _ _ hg hl k => e121_124  k)
def p121_120 (l : Nat) (A : Nat → List (Nat × Int32)) (E : List (Nat × Option Nat)) (N : Nat → Nat) (V : Nat → Nat → Int32) (W : Nat) (c : Nat × Nat) (x1 : Int32) (x2 : Int32) (x3 : Int32) (Q : z_V → z_CS → Prop) : Prop := p121_125 l A E N V W c x1 x2 x3 1 Q
set_option maxRecDepth 10000 in
theorem t121_120 {l : Nat} {A : Nat → List (Nat × Int32)} {E : List (Nat × Option Nat)} {N : Nat → Nat} {V : Nat → Nat → Int32} {W : Nat} {c : Nat × Nat} {x1 : Int32} {x2 : Int32} {x3 : Int32} {Q : z_V → z_CS → Prop} (h : p121_120 l A E N V W c x1 x2 x3 Q) : z_WC (l + 1) 121 120 [(0, .ref 145), (1, .int x1), (2, .int x2), (3, .int x3)] [] (A, E, N, V, W, c) Q := by
  unfold p121_120 at h
  exact z_WC.blk (t121_125 h) (fun _ _ _ _ _ _ _ _ hg hl k => e121_120  k)
def p121_106 (l : Nat) (A : Nat → List (Nat × Int32)) (E : List (Nat × Option Nat)) (N : Nat → Nat) (V : Nat → Nat → Int32) (W : Nat) (c : Nat × Nat) (x1 : Int32) (x2 : Int32) (x3 : Int32) (Q : z_V → z_CS → Prop) : Prop := z_in x2 (N 14) = true ∧ (if (z_fn 0 (A 14) x2.toNatClampNeg) = 19 then p121_120 l A E N V W c x1 x2 x3 Q else p121_124 l A E N V W c x1 x2 x3 Q)
set_option maxRecDepth 10000 in
theorem t121_106 {l : Nat} {A : Nat → List (Nat × Int32)} {E : List (Nat × Option Nat)} {N : Nat → Nat} {V : Nat → Nat → Int32} {W : Nat} {c : Nat × Nat} {x1 : Int32} {x2 : Int32} {x3 : Int32} {Q : z_V → z_CS → Prop} (h : p121_106 l A E N V W c x1 x2 x3 Q) : z_WC (l + 1) 121 106 [(0, .ref 145), (1, .int x1), (2, .int x2), (3, .int x3)] [] (A, E, N, V, W, c) Q := by
  unfold p121_106 at h
  obtain ⟨h1, h⟩ := h
  by_cases hb : (z_fn 0 (A 14) x2.toNatClampNeg) = 19
  · rw [if_pos hb] at h
    exact z_WC.blk (t121_120 h) (fun _ _ _ _ _ _ _ _ hg hl k => e121_106f h1 (fun q => q hb) k)
  · rw [if_neg hb] at h
    exact z_WC.blk (t121_124 h) (fun _ _ _ _ _ _ _ _ hg hl k => e121_106t h1 hb k)
def p121_74 (l : Nat) (A : Nat → List (Nat × Int32)) (E : List (Nat × Option Nat)) (N : Nat → Nat) (V : Nat → Nat → Int32) (W : Nat) (c : Nat × Nat) (x1 : Int32) (x2 : Int32) (y0 : Int32) (Q : z_V → z_CS → Prop) : Prop := z_in x2 (N 18) = true ∧ z_Rm ([], c) ∧ z_WC l 111 0 [(0, .ref 145), (1, .int ((V 38 6) + 1)), (2, .int x1), (3, .int ((-1))), (4, .int (z_fn 0 (A 18) x2.toNatClampNeg))] [] (A, E, N, (z_v V 38 2 ((V 38 2) - 1)), W, c) (z_cx Q (fun x S1 => x = none ∧ p121_106 l S1.1 S1.2.1 S1.2.2.1 S1.2.2.2.1 S1.2.2.2.2.1 S1.2.2.2.2.2 x1 x2 y0 Q))
set_option maxRecDepth 10000 in
theorem t121_74 {l : Nat} {A : Nat → List (Nat × Int32)} {E : List (Nat × Option Nat)} {N : Nat → Nat} {V : Nat → Nat → Int32} {W : Nat} {c : Nat × Nat} {x1 : Int32} {x2 : Int32} {y0 : Int32} {Q : z_V → z_CS → Prop} (h : p121_74 l A E N V W c x1 x2 y0 Q) : z_WC (l + 1) 121 74 [(0, .ref 145), (1, .int x1), (2, .int x2)] [.int y0] (A, E, N, V, W, c) Q := by
  unfold p121_74 at h
  obtain ⟨h1, hm, h⟩ := h
  obtain ⟨o, S1, hc, h⟩ := h
  cases o with
  | inl x =>
    obtain ⟨rfl, h⟩ := h
    obtain ⟨o2, S2, hk, hQ⟩ := t121_106 h
    exact ⟨o2, S2, fun L xs fv f w g hg hl => e121_74 h1  hm hl.f1 (hl.w1 111 (by decide)) (hc L xs fv _ _ g hg (hl.dn 111 (by decide))) (hk L xs fv f w g hg hl), hQ⟩
  | inr e =>
    obtain ⟨rfl, h⟩ := h
    exact ⟨_, S1, fun L xs fv f w g hg hl => e121_74x h1 hm hl.f1 (hl.w1 111 (by decide)) (hc L xs fv _ _ g hg (hl.dn 111 (by decide))), h⟩
def p121_60 (l : Nat) (A : Nat → List (Nat × Int32)) (E : List (Nat × Option Nat)) (N : Nat → Nat) (V : Nat → Nat → Int32) (W : Nat) (c : Nat × Nat) (x1 : Int32) (x2 : Int32) (Q : z_V → z_CS → Prop) : Prop := z_Rm ([], c) ∧ z_WC l 118 0 [(0, .ref 145)] [] (A, E, N, (z_v V 38 12 ((V 38 12) + 1)), W, c) (z_cx Q (fun x S1 => ∃ v : Int32, x = some (.int v) ∧ p121_74 l S1.1 S1.2.1 S1.2.2.1 S1.2.2.2.1 S1.2.2.2.2.1 S1.2.2.2.2.2 x1 x2 v Q))
set_option maxRecDepth 10000 in
theorem t121_60 {l : Nat} {A : Nat → List (Nat × Int32)} {E : List (Nat × Option Nat)} {N : Nat → Nat} {V : Nat → Nat → Int32} {W : Nat} {c : Nat × Nat} {x1 : Int32} {x2 : Int32} {Q : z_V → z_CS → Prop} (h : p121_60 l A E N V W c x1 x2 Q) : z_WC (l + 1) 121 60 [(0, .ref 145), (1, .int x1), (2, .int x2)] [] (A, E, N, V, W, c) Q := by
  unfold p121_60 at h
  obtain ⟨hm, h⟩ := h
  obtain ⟨o, S1, hc, h⟩ := h
  cases o with
  | inl x =>
    obtain ⟨v, rfl, h⟩ := h
    obtain ⟨o2, S2, hk, hQ⟩ := t121_74 h
    exact ⟨o2, S2, fun L xs fv f w g hg hl => e121_60   hm hl.f1 (hl.w1 118 (by decide)) (hc L xs fv _ _ g hg (hl.dn 118 (by decide))) (hk L xs fv f w g hg hl), hQ⟩
  | inr e =>
    obtain ⟨rfl, h⟩ := h
    exact ⟨_, S1, fun L xs fv f w g hg hl => e121_60x  hm hl.f1 (hl.w1 118 (by decide)) (hc L xs fv _ _ g hg (hl.dn 118 (by decide))), h⟩
def p121_51 (l : Nat) (A : Nat → List (Nat × Int32)) (E : List (Nat × Option Nat)) (N : Nat → Nat) (V : Nat → Nat → Int32) (W : Nat) (c : Nat × Nat) (x1 : Int32) (x2 : Int32) (Q : z_V → z_CS → Prop) : Prop := p121_174 l A E N (z_v V 38 7 (6)) W c x1 x2 Q
set_option maxRecDepth 10000 in
theorem t121_51 {l : Nat} {A : Nat → List (Nat × Int32)} {E : List (Nat × Option Nat)} {N : Nat → Nat} {V : Nat → Nat → Int32} {W : Nat} {c : Nat × Nat} {x1 : Int32} {x2 : Int32} {Q : z_V → z_CS → Prop} (h : p121_51 l A E N V W c x1 x2 Q) : z_WC (l + 1) 121 51 [(0, .ref 145), (1, .int x1), (2, .int x2)] [] (A, E, N, V, W, c) Q := by
  unfold p121_51 at h
  exact z_WC.blk (t121_174 h) (fun _ _ _ _ _ _ _ _ hg hl k => e121_51  k)
def p121_41 (l : Nat) (A : Nat → List (Nat × Int32)) (E : List (Nat × Option Nat)) (N : Nat → Nat) (V : Nat → Nat → Int32) (W : Nat) (c : Nat × Nat) (x1 : Int32) (x2 : Int32) (Q : z_V → z_CS → Prop) : Prop := (if (V 38 12) = 400 then p121_51 l A E N V W c x1 x2 Q else p121_60 l A E N V W c x1 x2 Q)
set_option maxRecDepth 10000 in
theorem t121_41 {l : Nat} {A : Nat → List (Nat × Int32)} {E : List (Nat × Option Nat)} {N : Nat → Nat} {V : Nat → Nat → Int32} {W : Nat} {c : Nat × Nat} {x1 : Int32} {x2 : Int32} {Q : z_V → z_CS → Prop} (h : p121_41 l A E N V W c x1 x2 Q) : z_WC (l + 1) 121 41 [(0, .ref 145), (1, .int x1), (2, .int x2)] [] (A, E, N, V, W, c) Q := by
  unfold p121_41 at h
  by_cases hb : (V 38 12) = 400
  · rw [if_pos hb] at h
    exact z_WC.blk (t121_51 h) (fun _ _ _ _ _ _ _ _ hg hl k => e121_41f  (fun q => q hb) k)
  · rw [if_neg hb] at h
    exact z_WC.blk (t121_60 h) (fun _ _ _ _ _ _ _ _ hg hl k => e121_41t  hb k)
def p121_38 (l : Nat) (A : Nat → List (Nat × Int32)) (E : List (Nat × Option Nat)) (N : Nat → Nat) (V : Nat → Nat → Int32) (W : Nat) (c : Nat × Nat) (x1 : Int32) (x2 : Int32) (Q : z_V → z_CS → Prop) : Prop := p121_174 l A E N V W c x1 x2 Q
set_option maxRecDepth 10000 in
theorem t121_38 {l : Nat} {A : Nat → List (Nat × Int32)} {E : List (Nat × Option Nat)} {N : Nat → Nat} {V : Nat → Nat → Int32} {W : Nat} {c : Nat × Nat} {x1 : Int32} {x2 : Int32} {Q : z_V → z_CS → Prop} (h : p121_38 l A E N V W c x1 x2 Q) : z_WC (l + 1) 121 38 [(0, .ref 145), (1, .int x1), (2, .int x2)] [] (A, E, N, V, W, c) Q := by
  unfold p121_38 at h
  exact z_WC.blk (t121_174 h) (fun _ _ _ _ _ _ _ _ hg hl k => e121_38  k)
def p121_33 (l : Nat) (A : Nat → List (Nat × Int32)) (E : List (Nat × Option Nat)) (N : Nat → Nat) (V : Nat → Nat → Int32) (W : Nat) (c : Nat × Nat) (x1 : Int32) (x2 : Int32) (Q : z_V → z_CS → Prop) : Prop := z_Rm ([], c) ∧ z_WC l 122 0 [(0, .ref 145), (1, .int x1)] [] (A, E, N, V, W, c) (z_cx Q (fun x S1 => x = none ∧ p121_38 l S1.1 S1.2.1 S1.2.2.1 S1.2.2.2.1 S1.2.2.2.2.1 S1.2.2.2.2.2 x1 x2 Q))
set_option maxRecDepth 10000 in
theorem t121_33 {l : Nat} {A : Nat → List (Nat × Int32)} {E : List (Nat × Option Nat)} {N : Nat → Nat} {V : Nat → Nat → Int32} {W : Nat} {c : Nat × Nat} {x1 : Int32} {x2 : Int32} {Q : z_V → z_CS → Prop} (h : p121_33 l A E N V W c x1 x2 Q) : z_WC (l + 1) 121 33 [(0, .ref 145), (1, .int x1), (2, .int x2)] [] (A, E, N, V, W, c) Q := by
  unfold p121_33 at h
  obtain ⟨hm, h⟩ := h
  obtain ⟨o, S1, hc, h⟩ := h
  cases o with
  | inl x =>
    obtain ⟨rfl, h⟩ := h
    obtain ⟨o2, S2, hk, hQ⟩ := t121_38 h
    exact ⟨o2, S2, fun L xs fv f w g hg hl => e121_33   hm hl.f1 (hl.w1 122 (by decide)) (hc L xs fv _ _ g hg (hl.dn 122 (by decide))) (hk L xs fv f w g hg hl), hQ⟩
  | inr e =>
    obtain ⟨rfl, h⟩ := h
    exact ⟨_, S1, fun L xs fv f w g hg hl => e121_33x  hm hl.f1 (hl.w1 122 (by decide)) (hc L xs fv _ _ g hg (hl.dn 122 (by decide))), h⟩
def p121_0 (l : Nat) (A : Nat → List (Nat × Int32)) (E : List (Nat × Option Nat)) (N : Nat → Nat) (V : Nat → Nat → Int32) (W : Nat) (c : Nat × Nat)  (Q : z_V → z_CS → Prop) : Prop := z_in ((V 38 2) - 2) (N 39) = true ∧ z_in (z_fn 0 (A 39) ((V 38 2) - 2).toNatClampNeg) (N 40) = true ∧ z_in (z_fn 0 (A 40) (z_fn 0 (A 39) ((V 38 2) - 2).toNatClampNeg).toNatClampNeg) (N 14) = true ∧ (if (z_fn 0 (A 14) (z_fn 0 (A 40) (z_fn 0 (A 39) ((V 38 2) - 2).toNatClampNeg).toNatClampNeg).toNatClampNeg) = 16 then p121_33 l A E N V W c (z_fn 0 (A 39) ((V 38 2) - 2).toNatClampNeg) (z_fn 0 (A 40) (z_fn 0 (A 39) ((V 38 2) - 2).toNatClampNeg).toNatClampNeg) Q else p121_41 l A E N V W c (z_fn 0 (A 39) ((V 38 2) - 2).toNatClampNeg) (z_fn 0 (A 40) (z_fn 0 (A 39) ((V 38 2) - 2).toNatClampNeg).toNatClampNeg) Q)
set_option maxRecDepth 10000 in
theorem t121_0 {l : Nat} {A : Nat → List (Nat × Int32)} {E : List (Nat × Option Nat)} {N : Nat → Nat} {V : Nat → Nat → Int32} {W : Nat} {c : Nat × Nat}  {Q : z_V → z_CS → Prop} (h : p121_0 l A E N V W c  Q) : z_WC (l + 1) 121 0 [(0, .ref 145)] [] (A, E, N, V, W, c) Q := by
  unfold p121_0 at h
  obtain ⟨h1, h2, h3, h⟩ := h
  by_cases hb : (z_fn 0 (A 14) (z_fn 0 (A 40) (z_fn 0 (A 39) ((V 38 2) - 2).toNatClampNeg).toNatClampNeg).toNatClampNeg) = 16
  · rw [if_pos hb] at h
    exact z_WC.blk (t121_33 h) (fun _ _ _ _ _ _ _ _ hg hl k => e121_0f h1 h2 h3 (fun q => q hb) k)
  · rw [if_neg hb] at h
    exact z_WC.blk (t121_41 h) (fun _ _ _ _ _ _ _ _ hg hl k => e121_0t h1 h2 h3 hb k)
set_option maxRecDepth 10000 in
theorem e126_0 {L : Nat} {xs : Nat → Int32} {fv : Value} {f w : Nat} {c : Nat × Nat} {o : z_V} {T' : z_Y} {A : Nat → List (Nat × Int32)} {E : List (Nat × Option Nat)} {N : Nat → Nat} {V : Nat → Nat → Int32} {W : Nat} {g : List z_E} {x1 : Int32} {x2 : Int32} (h1 : z_in x1 (N 16) = true) (kk : z_Ln L xs fv f w 126 13 [(0, .ref 145), (1, .int x1), (2, .int x2), (3, .int (z_fn 0 (A 16) x1.toNatClampNeg)), (4, .int 0)] [] (hC A E N V W ++ g, c) o T') : z_Ln L xs fv f w 126 0 [(0, .ref 145), (1, .int x1), (2, .int x2)] [] (hC A E N V W ++ g, c) o T' := z_Ln.blk (pc' := 13) (lv' := [(4, .int 0), (3, .int (z_fn 0 (A 16) x1.toNatClampNeg)), (0, .ref 145), (1, .int x1), (2, .int x2)]) (st' := []) (H' := hC A E N V W ++ g) (C := [z_in x1 (N 16) = true]) 0 8 rfl h1 (z_Ln.lv (z_le.cons rfl rfl (z_le.cons rfl rfl (z_le.cons rfl rfl (z_le.cons rfl rfl (z_le.cons rfl rfl z_le.nil))))) kk)
set_option maxRecDepth 10000 in
theorem e126_13t {L : Nat} {xs : Nat → Int32} {fv : Value} {f w : Nat} {c : Nat × Nat} {o : z_V} {T' : z_Y} {A : Nat → List (Nat × Int32)} {E : List (Nat × Option Nat)} {N : Nat → Nat} {V : Nat → Nat → Int32} {W : Nat} {g : List z_E} {x1 : Int32} {x2 : Int32} {x3 : Int32} {x4 : Int32}  (hb : 8 ≤ x4) (kk : z_Ln L xs fv f w 126 55 [(0, .ref 145), (1, .int x1), (2, .int x2), (3, .int x3), (4, .int x4)] [] (hC A E N V W ++ g, c) o T') : z_Ln L xs fv f w 126 13 [(0, .ref 145), (1, .int x1), (2, .int x2), (3, .int x3), (4, .int x4)] [] (hC A E N V W ++ g, c) o T' := z_Ln.blk (pc' := (if decide (8 ≤ x4) = true then 55 else 20)) (lv' := [(0, .ref 145), (1, .int x1), (2, .int x2), (3, .int x3), (4, .int x4)]) (st' := []) (H' := hC A E N V W ++ g) (C := []) 8 3 rfl trivial (z_Ln.brT (decide_eq_true hb) (kk))
set_option maxRecDepth 10000 in
theorem e126_13f {L : Nat} {xs : Nat → Int32} {fv : Value} {f w : Nat} {c : Nat × Nat} {o : z_V} {T' : z_Y} {A : Nat → List (Nat × Int32)} {E : List (Nat × Option Nat)} {N : Nat → Nat} {V : Nat → Nat → Int32} {W : Nat} {g : List z_E} {x1 : Int32} {x2 : Int32} {x3 : Int32} {x4 : Int32}  (hb : ¬ (8 ≤ x4)) (kk : z_Ln L xs fv f w 126 20 [(0, .ref 145), (1, .int x1), (2, .int x2), (3, .int x3), (4, .int x4)] [] (hC A E N V W ++ g, c) o T') : z_Ln L xs fv f w 126 13 [(0, .ref 145), (1, .int x1), (2, .int x2), (3, .int x3), (4, .int x4)] [] (hC A E N V W ++ g, c) o T' := z_Ln.blk (pc' := (if decide (8 ≤ x4) = true then 55 else 20)) (lv' := [(0, .ref 145), (1, .int x1), (2, .int x2), (3, .int x3), (4, .int x4)]) (st' := []) (H' := hC A E N V W ++ g) (C := []) 8 3 rfl trivial (z_Ln.brF (decide_eq_false hb) (kk))
set_option maxRecDepth 10000 in
theorem e126_20t {L : Nat} {xs : Nat → Int32} {fv : Value} {f w : Nat} {c : Nat × Nat} {o : z_V} {T' : z_Y} {A : Nat → List (Nat × Int32)} {E : List (Nat × Option Nat)} {N : Nat → Nat} {V : Nat → Nat → Int32} {W : Nat} {g : List z_E} {x1 : Int32} {x2 : Int32} {x3 : Int32} {x4 : Int32}  (hb : x3 = 0) (kk : z_Ln L xs fv f w 126 55 [(0, .ref 145), (1, .int x1), (2, .int x2), (3, .int x3), (4, .int x4)] [] (hC A E N V W ++ g, c) o T') : z_Ln L xs fv f w 126 20 [(0, .ref 145), (1, .int x1), (2, .int x2), (3, .int x3), (4, .int x4)] [] (hC A E N V W ++ g, c) o T' := z_Ln.blk (pc' := (if decide (x3 = 0) = true then 55 else 24)) (lv' := [(0, .ref 145), (1, .int x1), (2, .int x2), (3, .int x3), (4, .int x4)]) (st' := []) (H' := hC A E N V W ++ g) (C := []) 11 2 rfl trivial (z_Ln.brT (decide_eq_true hb) (kk))
set_option maxRecDepth 10000 in
theorem e126_20f {L : Nat} {xs : Nat → Int32} {fv : Value} {f w : Nat} {c : Nat × Nat} {o : z_V} {T' : z_Y} {A : Nat → List (Nat × Int32)} {E : List (Nat × Option Nat)} {N : Nat → Nat} {V : Nat → Nat → Int32} {W : Nat} {g : List z_E} {x1 : Int32} {x2 : Int32} {x3 : Int32} {x4 : Int32}  (hb : ¬ (x3 = 0)) (kk : z_Ln L xs fv f w 126 24 [(0, .ref 145), (1, .int x1), (2, .int x2), (3, .int x3), (4, .int x4)] [] (hC A E N V W ++ g, c) o T') : z_Ln L xs fv f w 126 20 [(0, .ref 145), (1, .int x1), (2, .int x2), (3, .int x3), (4, .int x4)] [] (hC A E N V W ++ g, c) o T' := z_Ln.blk (pc' := (if decide (x3 = 0) = true then 55 else 24)) (lv' := [(0, .ref 145), (1, .int x1), (2, .int x2), (3, .int x3), (4, .int x4)]) (st' := []) (H' := hC A E N V W ++ g) (C := []) 11 2 rfl trivial (z_Ln.brF (decide_eq_false hb) (kk))
set_option maxRecDepth 10000 in
theorem e126_24t {L : Nat} {xs : Nat → Int32} {fv : Value} {f w : Nat} {c : Nat × Nat} {o : z_V} {T' : z_Y} {A : Nat → List (Nat × Int32)} {E : List (Nat × Option Nat)} {N : Nat → Nat} {V : Nat → Nat → Int32} {W : Nat} {g : List z_E} {x1 : Int32} {x2 : Int32} {x3 : Int32} {x4 : Int32} (h1 : z_in x3 (N 17) = true) (hb : ¬ (z_fn 0 (A 17) x3.toNatClampNeg) = x2) (kk : z_Ln L xs fv f w 126 39 [(0, .ref 145), (1, .int x1), (2, .int x2), (3, .int x3), (4, .int x4)] [] (hC A E N V W ++ g, c) o T') : z_Ln L xs fv f w 126 24 [(0, .ref 145), (1, .int x1), (2, .int x2), (3, .int x3), (4, .int x4)] [] (hC A E N V W ++ g, c) o T' := z_Ln.blk (pc' := (if decide (¬ (z_fn 0 (A 17) x3.toNatClampNeg) = x2) = true then 39 else 37)) (lv' := [(0, .ref 145), (1, .int x1), (2, .int x2), (3, .int x3), (4, .int x4)]) (st' := []) (H' := hC A E N V W ++ g) (C := [z_in x3 (N 17) = true]) 13 7 rfl h1 (z_Ln.brT (decide_eq_true hb) (kk))
set_option maxRecDepth 10000 in
theorem e126_24f {L : Nat} {xs : Nat → Int32} {fv : Value} {f w : Nat} {c : Nat × Nat} {o : z_V} {T' : z_Y} {A : Nat → List (Nat × Int32)} {E : List (Nat × Option Nat)} {N : Nat → Nat} {V : Nat → Nat → Int32} {W : Nat} {g : List z_E} {x1 : Int32} {x2 : Int32} {x3 : Int32} {x4 : Int32} (h1 : z_in x3 (N 17) = true) (hb : ¬ (¬ (z_fn 0 (A 17) x3.toNatClampNeg) = x2)) (kk : z_Ln L xs fv f w 126 37 [(0, .ref 145), (1, .int x1), (2, .int x2), (3, .int x3), (4, .int x4)] [] (hC A E N V W ++ g, c) o T') : z_Ln L xs fv f w 126 24 [(0, .ref 145), (1, .int x1), (2, .int x2), (3, .int x3), (4, .int x4)] [] (hC A E N V W ++ g, c) o T' := z_Ln.blk (pc' := (if decide (¬ (z_fn 0 (A 17) x3.toNatClampNeg) = x2) = true then 39 else 37)) (lv' := [(0, .ref 145), (1, .int x1), (2, .int x2), (3, .int x3), (4, .int x4)]) (st' := []) (H' := hC A E N V W ++ g) (C := [z_in x3 (N 17) = true]) 13 7 rfl h1 (z_Ln.brF (decide_eq_false hb) (kk))
set_option maxRecDepth 10000 in
theorem e126_37 {L : Nat} {xs : Nat → Int32} {fv : Value} {f w : Nat} {c : Nat × Nat} {A : Nat → List (Nat × Int32)} {E : List (Nat × Option Nat)} {N : Nat → Nat} {V : Nat → Nat → Int32} {W : Nat} {g : List z_E} {x1 : Int32} {x2 : Int32} {x3 : Int32} {x4 : Int32}  : z_Ln L xs fv f w 126 37 [(0, .ref 145), (1, .int x1), (2, .int x2), (3, .int x3), (4, .int x4)] [] (hC A E N V W ++ g, c) (.inl (some (.int x3))) (hC A E N V W ++ g, c) := z_Ln.blk (pc' := 38) (lv' := [(0, .ref 145), (1, .int x1), (2, .int x2), (3, .int x3), (4, .int x4)]) (st' := [.int x3]) (H' := hC A E N V W ++ g) (C := []) 20 1 rfl trivial (z_Ln.ret rfl z_retI)
set_option maxRecDepth 10000 in
theorem e126_39 {L : Nat} {xs : Nat → Int32} {fv : Value} {f w : Nat} {c : Nat × Nat} {o : z_V} {T' : z_Y} {A : Nat → List (Nat × Int32)} {E : List (Nat × Option Nat)} {N : Nat → Nat} {V : Nat → Nat → Int32} {W : Nat} {g : List z_E} {x1 : Int32} {x2 : Int32} {x3 : Int32} {x4 : Int32} (h1 : z_in x3 (N 16) = true) (kk : z_Ln L xs fv f w 126 13 [(0, .ref 145), (1, .int x1), (2, .int x2), (3, .int (z_fn 0 (A 16) x3.toNatClampNeg)), (4, .int (x4 + 1))] [] (hC A E N V W ++ g, c) o T') : z_Ln L xs fv f w 126 39 [(0, .ref 145), (1, .int x1), (2, .int x2), (3, .int x3), (4, .int x4)] [] (hC A E N V W ++ g, c) o T' := z_Ln.blk (pc' := 13) (lv' := [(4, .int (x4 + 1)), (3, .int (z_fn 0 (A 16) x3.toNatClampNeg)), (0, .ref 145), (1, .int x1), (2, .int x2)]) (st' := []) (H' := hC A E N V W ++ g) (C := [z_in x3 (N 16) = true]) 22 8 rfl h1 (z_Ln.lv (z_le.cons rfl rfl (z_le.cons rfl rfl (z_le.cons rfl rfl (z_le.cons rfl rfl (z_le.cons rfl rfl z_le.nil))))) kk)
set_option maxRecDepth 10000 in
theorem e126_55 {L : Nat} {xs : Nat → Int32} {fv : Value} {f w : Nat} {c : Nat × Nat} {A : Nat → List (Nat × Int32)} {E : List (Nat × Option Nat)} {N : Nat → Nat} {V : Nat → Nat → Int32} {W : Nat} {g : List z_E} {x1 : Int32} {x2 : Int32} {x3 : Int32} {x4 : Int32}  : z_Ln L xs fv f w 126 55 [(0, .ref 145), (1, .int x1), (2, .int x2), (3, .int x3), (4, .int x4)] [] (hC A E N V W ++ g, c) (.inl (some (.int 0))) (hC A E N V W ++ g, c) := z_Ln.blk (pc' := 56) (lv' := [(0, .ref 145), (1, .int x1), (2, .int x2), (3, .int x3), (4, .int x4)]) (st' := [.int 0]) (H' := hC A E N V W ++ g) (C := []) 30 1 rfl trivial (z_Ln.ret rfl z_retI)
def p126_0 (l : Nat) (A : Nat → List (Nat × Int32)) (E : List (Nat × Option Nat)) (N : Nat → Nat) (V : Nat → Nat → Int32) (W : Nat) (c : Nat × Nat) (x1 : Int32) (x2 : Int32) (Q : z_V → z_CS → Prop) : Prop := z_in x1 (N 16) = true ∧ z_WC (l + 1) 126 13 [(0, .ref 145), (1, .int x1), (2, .int x2), (3, .int (z_fn 0 (A 16) x1.toNatClampNeg)), (4, .int 0)] [] (A, E, N, V, W, c) Q
set_option maxRecDepth 10000 in
theorem t126_0 {l : Nat} {A : Nat → List (Nat × Int32)} {E : List (Nat × Option Nat)} {N : Nat → Nat} {V : Nat → Nat → Int32} {W : Nat} {c : Nat × Nat} {x1 : Int32} {x2 : Int32} {Q : z_V → z_CS → Prop} (h : p126_0 l A E N V W c x1 x2 Q) : z_WC (l + 1) 126 0 [(0, .ref 145), (1, .int x1), (2, .int x2)] [] (A, E, N, V, W, c) Q := by
  unfold p126_0 at h
  obtain ⟨h1, h⟩ := h
  exact z_WC.blk (h) (fun _ _ _ _ _ _ _ _ hg hl k => e126_0 h1 k)
def p126_55 (l : Nat) (A : Nat → List (Nat × Int32)) (E : List (Nat × Option Nat)) (N : Nat → Nat) (V : Nat → Nat → Int32) (W : Nat) (c : Nat × Nat) (x1 : Int32) (x2 : Int32) (x3 : Int32) (x4 : Int32) (Q : z_V → z_CS → Prop) : Prop := Q (.inl (some (.int 0))) (A, E, N, V, W, c)
set_option maxRecDepth 10000 in
theorem t126_55 {l : Nat} {A : Nat → List (Nat × Int32)} {E : List (Nat × Option Nat)} {N : Nat → Nat} {V : Nat → Nat → Int32} {W : Nat} {c : Nat × Nat} {x1 : Int32} {x2 : Int32} {x3 : Int32} {x4 : Int32} {Q : z_V → z_CS → Prop} (h : p126_55 l A E N V W c x1 x2 x3 x4 Q) : z_WC (l + 1) 126 55 [(0, .ref 145), (1, .int x1), (2, .int x2), (3, .int x3), (4, .int x4)] [] (A, E, N, V, W, c) Q := by
  unfold p126_55 at h
  exact ⟨(.inl (some (.int 0))), (A, E, N, V, W, c), fun _ _ _ _ _ _ hg hl => e126_55 , h⟩
def p126_39 (l : Nat) (A : Nat → List (Nat × Int32)) (E : List (Nat × Option Nat)) (N : Nat → Nat) (V : Nat → Nat → Int32) (W : Nat) (c : Nat × Nat) (x1 : Int32) (x2 : Int32) (x3 : Int32) (x4 : Int32) (Q : z_V → z_CS → Prop) : Prop := z_in x3 (N 16) = true ∧ z_WC (l + 1) 126 13 [(0, .ref 145), (1, .int x1), (2, .int x2), (3, .int (z_fn 0 (A 16) x3.toNatClampNeg)), (4, .int (x4 + 1))] [] (A, E, N, V, W, c) Q
set_option maxRecDepth 10000 in
theorem t126_39 {l : Nat} {A : Nat → List (Nat × Int32)} {E : List (Nat × Option Nat)} {N : Nat → Nat} {V : Nat → Nat → Int32} {W : Nat} {c : Nat × Nat} {x1 : Int32} {x2 : Int32} {x3 : Int32} {x4 : Int32} {Q : z_V → z_CS → Prop} (h : p126_39 l A E N V W c x1 x2 x3 x4 Q) : z_WC (l + 1) 126 39 [(0, .ref 145), (1, .int x1), (2, .int x2), (3, .int x3), (4, .int x4)] [] (A, E, N, V, W, c) Q := by
  unfold p126_39 at h
  obtain ⟨h1, h⟩ := h
  exact z_WC.blk (h) (fun _ _ _ _ _ _ _ _ hg hl k => e126_39 h1 k)
def p126_37 (l : Nat) (A : Nat → List (Nat × Int32)) (E : List (Nat × Option Nat)) (N : Nat → Nat) (V : Nat → Nat → Int32) (W : Nat) (c : Nat × Nat) (x1 : Int32) (x2 : Int32) (x3 : Int32) (x4 : Int32) (Q : z_V → z_CS → Prop) : Prop := Q (.inl (some (.int x3))) (A, E, N, V, W, c)
set_option maxRecDepth 10000 in
theorem t126_37 {l : Nat} {A : Nat → List (Nat × Int32)} {E : List (Nat × Option Nat)} {N : Nat → Nat} {V : Nat → Nat → Int32} {W : Nat} {c : Nat × Nat} {x1 : Int32} {x2 : Int32} {x3 : Int32} {x4 : Int32} {Q : z_V → z_CS → Prop} (h : p126_37 l A E N V W c x1 x2 x3 x4 Q) : z_WC (l + 1) 126 37 [(0, .ref 145), (1, .int x1), (2, .int x2), (3, .int x3), (4, .int x4)] [] (A, E, N, V, W, c) Q := by
  unfold p126_37 at h
  exact ⟨(.inl (some (.int x3))), (A, E, N, V, W, c), fun _ _ _ _ _ _ hg hl => e126_37 , h⟩
def p126_24 (l : Nat) (A : Nat → List (Nat × Int32)) (E : List (Nat × Option Nat)) (N : Nat → Nat) (V : Nat → Nat → Int32) (W : Nat) (c : Nat × Nat) (x1 : Int32) (x2 : Int32) (x3 : Int32) (x4 : Int32) (Q : z_V → z_CS → Prop) : Prop := z_in x3 (N 17) = true ∧ (if (z_fn 0 (A 17) x3.toNatClampNeg) = x2 then p126_37 l A E N V W c x1 x2 x3 x4 Q else p126_39 l A E N V W c x1 x2 x3 x4 Q)
set_option maxRecDepth 10000 in
theorem t126_24 {l : Nat} {A : Nat → List (Nat × Int32)} {E : List (Nat × Option Nat)} {N : Nat → Nat} {V : Nat → Nat → Int32} {W : Nat} {c : Nat × Nat} {x1 : Int32} {x2 : Int32} {x3 : Int32} {x4 : Int32} {Q : z_V → z_CS → Prop} (h : p126_24 l A E N V W c x1 x2 x3 x4 Q) : z_WC (l + 1) 126 24 [(0, .ref 145), (1, .int x1), (2, .int x2), (3, .int x3), (4, .int x4)] [] (A, E, N, V, W, c) Q := by
  unfold p126_24 at h
  obtain ⟨h1, h⟩ := h
  by_cases hb : (z_fn 0 (A 17) x3.toNatClampNeg) = x2
  · rw [if_pos hb] at h
    exact z_WC.blk (t126_37 h) (fun _ _ _ _ _ _ _ _ hg hl k => e126_24f h1 (fun q => q hb) k)
  · rw [if_neg hb] at h
    exact z_WC.blk (t126_39 h) (fun _ _ _ _ _ _ _ _ hg hl k => e126_24t h1 hb k)
def p126_20 (l : Nat) (A : Nat → List (Nat × Int32)) (E : List (Nat × Option Nat)) (N : Nat → Nat) (V : Nat → Nat → Int32) (W : Nat) (c : Nat × Nat) (x1 : Int32) (x2 : Int32) (x3 : Int32) (x4 : Int32) (Q : z_V → z_CS → Prop) : Prop := (if x3 = 0 then p126_55 l A E N V W c x1 x2 x3 x4 Q else p126_24 l A E N V W c x1 x2 x3 x4 Q)
set_option maxRecDepth 10000 in
theorem t126_20 {l : Nat} {A : Nat → List (Nat × Int32)} {E : List (Nat × Option Nat)} {N : Nat → Nat} {V : Nat → Nat → Int32} {W : Nat} {c : Nat × Nat} {x1 : Int32} {x2 : Int32} {x3 : Int32} {x4 : Int32} {Q : z_V → z_CS → Prop} (h : p126_20 l A E N V W c x1 x2 x3 x4 Q) : z_WC (l + 1) 126 20 [(0, .ref 145), (1, .int x1), (2, .int x2), (3, .int x3), (4, .int x4)] [] (A, E, N, V, W, c) Q := by
  unfold p126_20 at h
  by_cases hb : x3 = 0
  · rw [if_pos hb] at h
    exact z_WC.blk (t126_55 h) (fun _ _ _ _ _ _ _ _ hg hl k => e126_20t  hb k)
  · rw [if_neg hb] at h
    exact z_WC.blk (t126_24 h) (fun _ _ _ _ _ _ _ _ hg hl k => e126_20f  hb k)
def p126_13 (l : Nat) (A : Nat → List (Nat × Int32)) (E : List (Nat × Option Nat)) (N : Nat → Nat) (V : Nat → Nat → Int32) (W : Nat) (c : Nat × Nat) (x1 : Int32) (x2 : Int32) (x3 : Int32) (x4 : Int32) (Q : z_V → z_CS → Prop) : Prop := (if 8 ≤ x4 then p126_55 l A E N V W c x1 x2 x3 x4 Q else p126_20 l A E N V W c x1 x2 x3 x4 Q)
set_option maxRecDepth 10000 in
theorem t126_13 {l : Nat} {A : Nat → List (Nat × Int32)} {E : List (Nat × Option Nat)} {N : Nat → Nat} {V : Nat → Nat → Int32} {W : Nat} {c : Nat × Nat} {x1 : Int32} {x2 : Int32} {x3 : Int32} {x4 : Int32} {Q : z_V → z_CS → Prop} (h : p126_13 l A E N V W c x1 x2 x3 x4 Q) : z_WC (l + 1) 126 13 [(0, .ref 145), (1, .int x1), (2, .int x2), (3, .int x3), (4, .int x4)] [] (A, E, N, V, W, c) Q := by
  unfold p126_13 at h
  by_cases hb : 8 ≤ x4
  · rw [if_pos hb] at h
    exact z_WC.blk (t126_55 h) (fun _ _ _ _ _ _ _ _ hg hl k => e126_13t  hb k)
  · rw [if_neg hb] at h
    exact z_WC.blk (t126_20 h) (fun _ _ _ _ _ _ _ _ hg hl k => e126_13f  hb k)
set_option maxRecDepth 10000 in
theorem e125_0 {L : Nat} {xs : Nat → Int32} {fv : Value} {f w : Nat} {c : Nat × Nat} {o : z_V} {T' : z_Y} {A : Nat → List (Nat × Int32)} {E : List (Nat × Option Nat)} {N : Nat → Nat} {V : Nat → Nat → Int32} {W : Nat} {g : List z_E} {x1 : Int32}  (kk : z_Ln L xs fv f w 125 7 [(0, .ref 145), (1, .int x1), (2, .int (V 38 3)), (3, .int 1)] [] (hC A E N V W ++ g, c) o T') : z_Ln L xs fv f w 125 0 [(0, .ref 145), (1, .int x1)] [] (hC A E N V W ++ g, c) o T' := z_Ln.blk (pc' := 7) (lv' := [(3, .int 1), (2, .int (V 38 3)), (0, .ref 145), (1, .int x1)]) (st' := []) (H' := hC A E N V W ++ g) (C := []) 0 5 rfl trivial (z_Ln.lv (z_le.cons rfl rfl (z_le.cons rfl rfl (z_le.cons rfl rfl (z_le.cons rfl rfl z_le.nil)))) kk)
set_option maxRecDepth 10000 in
theorem e125_7t {L : Nat} {xs : Nat → Int32} {fv : Value} {f w : Nat} {c : Nat × Nat} {o : z_V} {T' : z_Y} {A : Nat → List (Nat × Int32)} {E : List (Nat × Option Nat)} {N : Nat → Nat} {V : Nat → Nat → Int32} {W : Nat} {g : List z_E} {x1 : Int32} {x2 : Int32} {x3 : Int32}  (hb : (V 38 12) < x3) (kk : z_Ln L xs fv f w 125 60 [(0, .ref 145), (1, .int x1), (2, .int x2), (3, .int x3)] [] (hC A E N V W ++ g, c) o T') : z_Ln L xs fv f w 125 7 [(0, .ref 145), (1, .int x1), (2, .int x2), (3, .int x3)] [] (hC A E N V W ++ g, c) o T' := z_Ln.blk (pc' := (if decide ((V 38 12) < x3) = true then 60 else 15)) (lv' := [(0, .ref 145), (1, .int x1), (2, .int x2), (3, .int x3)]) (st' := []) (H' := hC A E N V W ++ g) (C := []) 5 4 rfl trivial (z_Ln.brT (decide_eq_true hb) (kk))
set_option maxRecDepth 10000 in
theorem e125_7f {L : Nat} {xs : Nat → Int32} {fv : Value} {f w : Nat} {c : Nat × Nat} {o : z_V} {T' : z_Y} {A : Nat → List (Nat × Int32)} {E : List (Nat × Option Nat)} {N : Nat → Nat} {V : Nat → Nat → Int32} {W : Nat} {g : List z_E} {x1 : Int32} {x2 : Int32} {x3 : Int32}  (hb : ¬ ((V 38 12) < x3)) (kk : z_Ln L xs fv f w 125 15 [(0, .ref 145), (1, .int x1), (2, .int x2), (3, .int x3)] [] (hC A E N V W ++ g, c) o T') : z_Ln L xs fv f w 125 7 [(0, .ref 145), (1, .int x1), (2, .int x2), (3, .int x3)] [] (hC A E N V W ++ g, c) o T' := z_Ln.blk (pc' := (if decide ((V 38 12) < x3) = true then 60 else 15)) (lv' := [(0, .ref 145), (1, .int x1), (2, .int x2), (3, .int x3)]) (st' := []) (H' := hC A E N V W ++ g) (C := []) 5 4 rfl trivial (z_Ln.brF (decide_eq_false hb) (kk))
set_option maxRecDepth 10000 in
theorem e125_15t {L : Nat} {xs : Nat → Int32} {fv : Value} {f w : Nat} {c : Nat × Nat} {o : z_V} {T' : z_Y} {A : Nat → List (Nat × Int32)} {E : List (Nat × Option Nat)} {N : Nat → Nat} {V : Nat → Nat → Int32} {W : Nat} {g : List z_E} {x1 : Int32} {x2 : Int32} {x3 : Int32} (h1 : z_in (x2 + 3) (N 39) = true) (hb : (z_fn 0 (A 39) (x2 + 3).toNatClampNeg) = ((-1))) (kk : z_Ln L xs fv f w 125 43 [(0, .ref 145), (1, .int x1), (2, .int x2), (3, .int x3), (4, .int (z_fn 0 (A 39) (x2 + 3).toNatClampNeg))] [] (hC A E N V W ++ g, c) o T') : z_Ln L xs fv f w 125 15 [(0, .ref 145), (1, .int x1), (2, .int x2), (3, .int x3)] [] (hC A E N V W ++ g, c) o T' := z_Ln.blk (pc' := (if decide ((z_fn 0 (A 39) (x2 + 3).toNatClampNeg) = ((-1))) = true then 43 else 31)) (lv' := [(4, .int (z_fn 0 (A 39) (x2 + 3).toNatClampNeg)), (0, .ref 145), (1, .int x1), (2, .int x2), (3, .int x3)]) (st' := []) (H' := hC A E N V W ++ g) (C := [z_in (x2 + 3) (N 39) = true]) 9 10 rfl h1 (z_Ln.brT (decide_eq_true hb) (z_Ln.lv (z_le.cons rfl rfl (z_le.cons rfl rfl (z_le.cons rfl rfl (z_le.cons rfl rfl (z_le.cons rfl rfl z_le.nil))))) kk))
set_option maxRecDepth 10000 in
theorem e125_15f {L : Nat} {xs : Nat → Int32} {fv : Value} {f w : Nat} {c : Nat × Nat} {o : z_V} {T' : z_Y} {A : Nat → List (Nat × Int32)} {E : List (Nat × Option Nat)} {N : Nat → Nat} {V : Nat → Nat → Int32} {W : Nat} {g : List z_E} {x1 : Int32} {x2 : Int32} {x3 : Int32} (h1 : z_in (x2 + 3) (N 39) = true) (hb : ¬ ((z_fn 0 (A 39) (x2 + 3).toNatClampNeg) = ((-1)))) (kk : z_Ln L xs fv f w 125 31 [(0, .ref 145), (1, .int x1), (2, .int x2), (3, .int x3), (4, .int (z_fn 0 (A 39) (x2 + 3).toNatClampNeg))] [] (hC A E N V W ++ g, c) o T') : z_Ln L xs fv f w 125 15 [(0, .ref 145), (1, .int x1), (2, .int x2), (3, .int x3)] [] (hC A E N V W ++ g, c) o T' := z_Ln.blk (pc' := (if decide ((z_fn 0 (A 39) (x2 + 3).toNatClampNeg) = ((-1))) = true then 43 else 31)) (lv' := [(4, .int (z_fn 0 (A 39) (x2 + 3).toNatClampNeg)), (0, .ref 145), (1, .int x1), (2, .int x2), (3, .int x3)]) (st' := []) (H' := hC A E N V W ++ g) (C := [z_in (x2 + 3) (N 39) = true]) 9 10 rfl h1 (z_Ln.brF (decide_eq_false hb) (z_Ln.lv (z_le.cons rfl rfl (z_le.cons rfl rfl (z_le.cons rfl rfl (z_le.cons rfl rfl (z_le.cons rfl rfl z_le.nil))))) kk))
set_option maxRecDepth 10000 in
theorem e125_31 {L : Nat} {xs : Nat → Int32} {fv : Value} {f w : Nat} {c : Nat × Nat} {o : z_V} {T' : z_Y} {A : Nat → List (Nat × Int32)} {E : List (Nat × Option Nat)} {N : Nat → Nat} {V : Nat → Nat → Int32} {W : Nat} {g : List z_E} {x1 : Int32} {x2 : Int32} {x3 : Int32} {x4 : Int32} {A1 : Nat → List (Nat × Int32)} {E1 : List (Nat × Option Nat)} {N1 : Nat → Nat} {V1 : Nat → Nat → Int32} {W1 : Nat} {g1 : List z_E} {c1 : Nat × Nat} {v : Int32}   (hRm : z_Rm (hC A E N V W ++ g, c)) (hf : 1 ≤ f) (hw : 19 + z_pg.2.1 126 ≤ w) (hc : z_Ln L xs fv (f - 1) (w - (19 + z_pg.2.1 126)) 126 0 [(0, .ref 145), (1, .int x4), (2, .int x1)] [] (hC A E N V W ++ g, c) (.inl (some (.int v))) (hC A1 E1 N1 V1 W1 ++ g1, c1)) (kk : z_Ln L xs fv f w 125 38 [(0, .ref 145), (1, .int x1), (2, .int x2), (3, .int x3), (4, .int x4)] [.int v] (hC A1 E1 N1 V1 W1 ++ g1, c1) o T') : z_Ln L xs fv f w 125 31 [(0, .ref 145), (1, .int x1), (2, .int x2), (3, .int x3), (4, .int x4)] [] (hC A E N V W ++ g, c) o T' := z_Ln.blk (pc' := 35) (lv' := [(0, .ref 145), (1, .int x1), (2, .int x2), (3, .int x3), (4, .int x4)]) (st' := [.int x1, .int x4, .ref 145]) (H' := hC A E N V W ++ g) (C := []) 19 3 rfl trivial (z_Ln.call (s := 0) (mj := 126) (as := [.ref 145, .int x4, .int x1]) (rr := []) (v := some (.int v)) (T1 := (hC A1 E1 N1 V1 W1 ++ g1, c1)) rfl rfl ⟨⟨hf, hw⟩, (by decide : (0 : Nat) ≤ 8), (by decide +kernel : (3 : Nat) ≤ z_pg.2.1 126)⟩ hRm hc ⟨trivial, ⟨(z_sm0C 0 (by decide) rfl rfl), trivial, trivial, trivial, trivial, trivial⟩⟩ (kk))
set_option maxRecDepth 10000 in
theorem e125_31x {L : Nat} {xs : Nat → Int32} {fv : Value} {f w : Nat} {c : Nat × Nat} {T' : z_Y} {A : Nat → List (Nat × Int32)} {E : List (Nat × Option Nat)} {N : Nat → Nat} {V : Nat → Nat → Int32} {W : Nat} {g : List z_E} {x1 : Int32} {x2 : Int32} {x3 : Int32} {x4 : Int32}  (hRm : z_Rm (hC A E N V W ++ g, c)) (hf : 1 ≤ f) (hw : 19 + z_pg.2.1 126 ≤ w) (hc : z_Ln L xs fv (f - 1) (w - (19 + z_pg.2.1 126)) 126 0 [(0, .ref 145), (1, .int x4), (2, .int x1)] [] (hC A E N V W ++ g, c) (.inr 10) T') : z_Ln L xs fv f w 125 31 [(0, .ref 145), (1, .int x1), (2, .int x2), (3, .int x3), (4, .int x4)] [] (hC A E N V W ++ g, c) (.inr 10) T' := z_Ln.blk (pc' := 35) (lv' := [(0, .ref 145), (1, .int x1), (2, .int x2), (3, .int x3), (4, .int x4)]) (st' := [.int x1, .int x4, .ref 145]) (H' := hC A E N V W ++ g) (C := []) 19 3 rfl trivial (z_Ln.past (s := 0) (mj := 126) (as := [.ref 145, .int x4, .int x1]) (rr := []) rfl rfl ⟨⟨hf, hw⟩, (by decide : (0 : Nat) ≤ 8), (by decide +kernel : (3 : Nat) ≤ z_pg.2.1 126)⟩ hRm hc rfl)
set_option maxRecDepth 10000 in
theorem e125_38t {L : Nat} {xs : Nat → Int32} {fv : Value} {f w : Nat} {c : Nat × Nat} {o : z_V} {T' : z_Y} {A : Nat → List (Nat × Int32)} {E : List (Nat × Option Nat)} {N : Nat → Nat} {V : Nat → Nat → Int32} {W : Nat} {g : List z_E} {x1 : Int32} {x2 : Int32} {x3 : Int32} {x4 : Int32} {y0 : Int32}  (hb : y0 = 0) (kk : z_Ln L xs fv f w 125 43 [(0, .ref 145), (1, .int x1), (2, .int x2), (3, .int x3), (4, .int x4)] [] (hC A E N V W ++ g, c) o T') : z_Ln L xs fv f w 125 38 [(0, .ref 145), (1, .int x1), (2, .int x2), (3, .int x3), (4, .int x4)] [.int y0] (hC A E N V W ++ g, c) o T' := z_Ln.blk (pc' := (if decide (y0 = 0) = true then 43 else 41)) (lv' := [(0, .ref 145), (1, .int x1), (2, .int x2), (3, .int x3), (4, .int x4)]) (st' := []) (H' := hC A E N V W ++ g) (C := []) 23 1 rfl trivial (z_Ln.brT (decide_eq_true hb) (kk))
set_option maxRecDepth 10000 in
theorem e125_38f {L : Nat} {xs : Nat → Int32} {fv : Value} {f w : Nat} {c : Nat × Nat} {o : z_V} {T' : z_Y} {A : Nat → List (Nat × Int32)} {E : List (Nat × Option Nat)} {N : Nat → Nat} {V : Nat → Nat → Int32} {W : Nat} {g : List z_E} {x1 : Int32} {x2 : Int32} {x3 : Int32} {x4 : Int32} {y0 : Int32}  (hb : ¬ (y0 = 0)) (kk : z_Ln L xs fv f w 125 41 [(0, .ref 145), (1, .int x1), (2, .int x2), (3, .int x3), (4, .int x4)] [] (hC A E N V W ++ g, c) o T') : z_Ln L xs fv f w 125 38 [(0, .ref 145), (1, .int x1), (2, .int x2), (3, .int x3), (4, .int x4)] [.int y0] (hC A E N V W ++ g, c) o T' := z_Ln.blk (pc' := (if decide (y0 = 0) = true then 43 else 41)) (lv' := [(0, .ref 145), (1, .int x1), (2, .int x2), (3, .int x3), (4, .int x4)]) (st' := []) (H' := hC A E N V W ++ g) (C := []) 23 1 rfl trivial (z_Ln.brF (decide_eq_false hb) (kk))
set_option maxRecDepth 10000 in
theorem e125_41 {L : Nat} {xs : Nat → Int32} {fv : Value} {f w : Nat} {c : Nat × Nat} {A : Nat → List (Nat × Int32)} {E : List (Nat × Option Nat)} {N : Nat → Nat} {V : Nat → Nat → Int32} {W : Nat} {g : List z_E} {x1 : Int32} {x2 : Int32} {x3 : Int32} {x4 : Int32}  : z_Ln L xs fv f w 125 41 [(0, .ref 145), (1, .int x1), (2, .int x2), (3, .int x3), (4, .int x4)] [] (hC A E N V W ++ g, c) (.inl (some (.int x3))) (hC A E N V W ++ g, c) := z_Ln.blk (pc' := 42) (lv' := [(0, .ref 145), (1, .int x1), (2, .int x2), (3, .int x3), (4, .int x4)]) (st' := [.int x3]) (H' := hC A E N V W ++ g) (C := []) 24 1 rfl trivial (z_Ln.ret rfl z_retI)
set_option maxRecDepth 10000 in
theorem e125_43 {L : Nat} {xs : Nat → Int32} {fv : Value} {f w : Nat} {c : Nat × Nat} {o : z_V} {T' : z_Y} {A : Nat → List (Nat × Int32)} {E : List (Nat × Option Nat)} {N : Nat → Nat} {V : Nat → Nat → Int32} {W : Nat} {g : List z_E} {x1 : Int32} {x2 : Int32} {x3 : Int32} {x4 : Int32} (h1 : z_in (x2 + 1) (N 39) = true) (kk : z_Ln L xs fv f w 125 7 [(0, .ref 145), (1, .int x1), (2, .int (x2 - (z_fn 0 (A 39) (x2 + 1).toNatClampNeg))), (3, .int (x3 + 1))] [] (hC A E N V W ++ g, c) o T') : z_Ln L xs fv f w 125 43 [(0, .ref 145), (1, .int x1), (2, .int x2), (3, .int x3), (4, .int x4)] [] (hC A E N V W ++ g, c) o T' := z_Ln.blk (pc' := 7) (lv' := [(3, .int (x3 + 1)), (2, .int (x2 - (z_fn 0 (A 39) (x2 + 1).toNatClampNeg))), (0, .ref 145), (1, .int x1), (4, .int x4)]) (st' := []) (H' := hC A E N V W ++ g) (C := [z_in (x2 + 1) (N 39) = true]) 26 11 rfl h1 (z_Ln.lv (z_le.cons rfl rfl (z_le.cons rfl rfl (z_le.cons rfl rfl (z_le.cons rfl rfl z_le.nil)))) kk)
set_option maxRecDepth 10000 in
theorem e125_60 {L : Nat} {xs : Nat → Int32} {fv : Value} {f w : Nat} {c : Nat × Nat} {A : Nat → List (Nat × Int32)} {E : List (Nat × Option Nat)} {N : Nat → Nat} {V : Nat → Nat → Int32} {W : Nat} {g : List z_E} {x1 : Int32} {x2 : Int32} {x3 : Int32}  : z_Ln L xs fv f w 125 60 [(0, .ref 145), (1, .int x1), (2, .int x2), (3, .int x3)] [] (hC A E N V W ++ g, c) (.inl (some (.int 0))) (hC A E N V W ++ g, c) := z_Ln.blk (pc' := 61) (lv' := [(0, .ref 145), (1, .int x1), (2, .int x2), (3, .int x3)]) (st' := [.int 0]) (H' := hC A E N V W ++ g) (C := []) 37 1 rfl trivial (z_Ln.ret rfl z_retI)
def p125_0 (l : Nat) (A : Nat → List (Nat × Int32)) (E : List (Nat × Option Nat)) (N : Nat → Nat) (V : Nat → Nat → Int32) (W : Nat) (c : Nat × Nat) (x1 : Int32) (Q : z_V → z_CS → Prop) : Prop := z_WC (l + 1) 125 7 [(0, .ref 145), (1, .int x1), (2, .int (V 38 3)), (3, .int 1)] [] (A, E, N, V, W, c) Q
set_option maxRecDepth 10000 in
theorem t125_0 {l : Nat} {A : Nat → List (Nat × Int32)} {E : List (Nat × Option Nat)} {N : Nat → Nat} {V : Nat → Nat → Int32} {W : Nat} {c : Nat × Nat} {x1 : Int32} {Q : z_V → z_CS → Prop} (h : p125_0 l A E N V W c x1 Q) : z_WC (l + 1) 125 0 [(0, .ref 145), (1, .int x1)] [] (A, E, N, V, W, c) Q := by
  unfold p125_0 at h
  exact z_WC.blk (h) (fun _ _ _ _ _ _ _ _ hg hl k => e125_0  k)
def p125_60 (l : Nat) (A : Nat → List (Nat × Int32)) (E : List (Nat × Option Nat)) (N : Nat → Nat) (V : Nat → Nat → Int32) (W : Nat) (c : Nat × Nat) (x1 : Int32) (x2 : Int32) (x3 : Int32) (Q : z_V → z_CS → Prop) : Prop := Q (.inl (some (.int 0))) (A, E, N, V, W, c)
set_option maxRecDepth 10000 in
theorem t125_60 {l : Nat} {A : Nat → List (Nat × Int32)} {E : List (Nat × Option Nat)} {N : Nat → Nat} {V : Nat → Nat → Int32} {W : Nat} {c : Nat × Nat} {x1 : Int32} {x2 : Int32} {x3 : Int32} {Q : z_V → z_CS → Prop} (h : p125_60 l A E N V W c x1 x2 x3 Q) : z_WC (l + 1) 125 60 [(0, .ref 145), (1, .int x1), (2, .int x2), (3, .int x3)] [] (A, E, N, V, W, c) Q := by
  unfold p125_60 at h
  exact ⟨(.inl (some (.int 0))), (A, E, N, V, W, c), fun _ _ _ _ _ _ hg hl => e125_60 , h⟩
def p125_43 (l : Nat) (A : Nat → List (Nat × Int32)) (E : List (Nat × Option Nat)) (N : Nat → Nat) (V : Nat → Nat → Int32) (W : Nat) (c : Nat × Nat) (x1 : Int32) (x2 : Int32) (x3 : Int32) (x4 : Int32) (Q : z_V → z_CS → Prop) : Prop := z_in (x2 + 1) (N 39) = true ∧ z_WC (l + 1) 125 7 [(0, .ref 145), (1, .int x1), (2, .int (x2 - (z_fn 0 (A 39) (x2 + 1).toNatClampNeg))), (3, .int (x3 + 1))] [] (A, E, N, V, W, c) Q
set_option maxRecDepth 10000 in
theorem t125_43 {l : Nat} {A : Nat → List (Nat × Int32)} {E : List (Nat × Option Nat)} {N : Nat → Nat} {V : Nat → Nat → Int32} {W : Nat} {c : Nat × Nat} {x1 : Int32} {x2 : Int32} {x3 : Int32} {x4 : Int32} {Q : z_V → z_CS → Prop} (h : p125_43 l A E N V W c x1 x2 x3 x4 Q) : z_WC (l + 1) 125 43 [(0, .ref 145), (1, .int x1), (2, .int x2), (3, .int x3), (4, .int x4)] [] (A, E, N, V, W, c) Q := by
  unfold p125_43 at h
  obtain ⟨h1, h⟩ := h
  exact z_WC.blk (h) (fun _ _ _ _ _ _ _ _ hg hl k => e125_43 h1 k)
def p125_41 (l : Nat) (A : Nat → List (Nat × Int32)) (E : List (Nat × Option Nat)) (N : Nat → Nat) (V : Nat → Nat → Int32) (W : Nat) (c : Nat × Nat) (x1 : Int32) (x2 : Int32) (x3 : Int32) (x4 : Int32) (Q : z_V → z_CS → Prop) : Prop := Q (.inl (some (.int x3))) (A, E, N, V, W, c)
set_option maxRecDepth 10000 in
theorem t125_41 {l : Nat} {A : Nat → List (Nat × Int32)} {E : List (Nat × Option Nat)} {N : Nat → Nat} {V : Nat → Nat → Int32} {W : Nat} {c : Nat × Nat} {x1 : Int32} {x2 : Int32} {x3 : Int32} {x4 : Int32} {Q : z_V → z_CS → Prop} (h : p125_41 l A E N V W c x1 x2 x3 x4 Q) : z_WC (l + 1) 125 41 [(0, .ref 145), (1, .int x1), (2, .int x2), (3, .int x3), (4, .int x4)] [] (A, E, N, V, W, c) Q := by
  unfold p125_41 at h
  exact ⟨(.inl (some (.int x3))), (A, E, N, V, W, c), fun _ _ _ _ _ _ hg hl => e125_41 , h⟩
def p125_38 (l : Nat) (A : Nat → List (Nat × Int32)) (E : List (Nat × Option Nat)) (N : Nat → Nat) (V : Nat → Nat → Int32) (W : Nat) (c : Nat × Nat) (x1 : Int32) (x2 : Int32) (x3 : Int32) (x4 : Int32) (y0 : Int32) (Q : z_V → z_CS → Prop) : Prop := (if y0 = 0 then p125_43 l A E N V W c x1 x2 x3 x4 Q else p125_41 l A E N V W c x1 x2 x3 x4 Q)
set_option maxRecDepth 10000 in
theorem t125_38 {l : Nat} {A : Nat → List (Nat × Int32)} {E : List (Nat × Option Nat)} {N : Nat → Nat} {V : Nat → Nat → Int32} {W : Nat} {c : Nat × Nat} {x1 : Int32} {x2 : Int32} {x3 : Int32} {x4 : Int32} {y0 : Int32} {Q : z_V → z_CS → Prop} (h : p125_38 l A E N V W c x1 x2 x3 x4 y0 Q) : z_WC (l + 1) 125 38 [(0, .ref 145), (1, .int x1), (2, .int x2), (3, .int x3), (4, .int x4)] [.int y0] (A, E, N, V, W, c) Q := by
  unfold p125_38 at h
  by_cases hb : y0 = 0
  · rw [if_pos hb] at h
    exact z_WC.blk (t125_43 h) (fun _ _ _ _ _ _ _ _ hg hl k => e125_38t  hb k)
  · rw [if_neg hb] at h
    exact z_WC.blk (t125_41 h) (fun _ _ _ _ _ _ _ _ hg hl k => e125_38f  hb k)
def p125_31 (l : Nat) (A : Nat → List (Nat × Int32)) (E : List (Nat × Option Nat)) (N : Nat → Nat) (V : Nat → Nat → Int32) (W : Nat) (c : Nat × Nat) (x1 : Int32) (x2 : Int32) (x3 : Int32) (x4 : Int32) (Q : z_V → z_CS → Prop) : Prop := z_Rm ([], c) ∧ z_WC l 126 0 [(0, .ref 145), (1, .int x4), (2, .int x1)] [] (A, E, N, V, W, c) (z_cx Q (fun x S1 => ∃ v : Int32, x = some (.int v) ∧ p125_38 l S1.1 S1.2.1 S1.2.2.1 S1.2.2.2.1 S1.2.2.2.2.1 S1.2.2.2.2.2 x1 x2 x3 x4 v Q))
set_option maxRecDepth 10000 in
theorem t125_31 {l : Nat} {A : Nat → List (Nat × Int32)} {E : List (Nat × Option Nat)} {N : Nat → Nat} {V : Nat → Nat → Int32} {W : Nat} {c : Nat × Nat} {x1 : Int32} {x2 : Int32} {x3 : Int32} {x4 : Int32} {Q : z_V → z_CS → Prop} (h : p125_31 l A E N V W c x1 x2 x3 x4 Q) : z_WC (l + 1) 125 31 [(0, .ref 145), (1, .int x1), (2, .int x2), (3, .int x3), (4, .int x4)] [] (A, E, N, V, W, c) Q := by
  unfold p125_31 at h
  obtain ⟨hm, h⟩ := h
  obtain ⟨o, S1, hc, h⟩ := h
  cases o with
  | inl x =>
    obtain ⟨v, rfl, h⟩ := h
    obtain ⟨o2, S2, hk, hQ⟩ := t125_38 h
    exact ⟨o2, S2, fun L xs fv f w g hg hl => e125_31   hm hl.f1 (hl.w1 126 (by decide)) (hc L xs fv _ _ g hg (hl.dn 126 (by decide))) (hk L xs fv f w g hg hl), hQ⟩
  | inr e =>
    obtain ⟨rfl, h⟩ := h
    exact ⟨_, S1, fun L xs fv f w g hg hl => e125_31x  hm hl.f1 (hl.w1 126 (by decide)) (hc L xs fv _ _ g hg (hl.dn 126 (by decide))), h⟩
def p125_15 (l : Nat) (A : Nat → List (Nat × Int32)) (E : List (Nat × Option Nat)) (N : Nat → Nat) (V : Nat → Nat → Int32) (W : Nat) (c : Nat × Nat) (x1 : Int32) (x2 : Int32) (x3 : Int32) (Q : z_V → z_CS → Prop) : Prop := z_in (x2 + 3) (N 39) = true ∧ (if (z_fn 0 (A 39) (x2 + 3).toNatClampNeg) = ((-1)) then p125_43 l A E N V W c x1 x2 x3 (z_fn 0 (A 39) (x2 + 3).toNatClampNeg) Q else p125_31 l A E N V W c x1 x2 x3 (z_fn 0 (A 39) (x2 + 3).toNatClampNeg) Q)
set_option maxRecDepth 10000 in
theorem t125_15 {l : Nat} {A : Nat → List (Nat × Int32)} {E : List (Nat × Option Nat)} {N : Nat → Nat} {V : Nat → Nat → Int32} {W : Nat} {c : Nat × Nat} {x1 : Int32} {x2 : Int32} {x3 : Int32} {Q : z_V → z_CS → Prop} (h : p125_15 l A E N V W c x1 x2 x3 Q) : z_WC (l + 1) 125 15 [(0, .ref 145), (1, .int x1), (2, .int x2), (3, .int x3)] [] (A, E, N, V, W, c) Q := by
  unfold p125_15 at h
  obtain ⟨h1, h⟩ := h
  by_cases hb : (z_fn 0 (A 39) (x2 + 3).toNatClampNeg) = ((-1))
  · rw [if_pos hb] at h
    exact z_WC.blk (t125_43 h) (fun _ _ _ _ _ _ _ _ hg hl k => e125_15t h1 hb k)
  · rw [if_neg hb] at h
    exact z_WC.blk (t125_31 h) (fun _ _ _ _ _ _ _ _ hg hl k => e125_15f h1 hb k)
def p125_7 (l : Nat) (A : Nat → List (Nat × Int32)) (E : List (Nat × Option Nat)) (N : Nat → Nat) (V : Nat → Nat → Int32) (W : Nat) (c : Nat × Nat) (x1 : Int32) (x2 : Int32) (x3 : Int32) (Q : z_V → z_CS → Prop) : Prop := (if (V 38 12) < x3 then p125_60 l A E N V W c x1 x2 x3 Q else p125_15 l A E N V W c x1 x2 x3 Q)
set_option maxRecDepth 10000 in
theorem t125_7 {l : Nat} {A : Nat → List (Nat × Int32)} {E : List (Nat × Option Nat)} {N : Nat → Nat} {V : Nat → Nat → Int32} {W : Nat} {c : Nat × Nat} {x1 : Int32} {x2 : Int32} {x3 : Int32} {Q : z_V → z_CS → Prop} (h : p125_7 l A E N V W c x1 x2 x3 Q) : z_WC (l + 1) 125 7 [(0, .ref 145), (1, .int x1), (2, .int x2), (3, .int x3)] [] (A, E, N, V, W, c) Q := by
  unfold p125_7 at h
  by_cases hb : (V 38 12) < x3
  · rw [if_pos hb] at h
    exact z_WC.blk (t125_60 h) (fun _ _ _ _ _ _ _ _ hg hl k => e125_7t  hb k)
  · rw [if_neg hb] at h
    exact z_WC.blk (t125_15 h) (fun _ _ _ _ _ _ _ _ hg hl k => e125_7f  hb k)
set_option maxRecDepth 10000 in
theorem e127_0 {L : Nat} {xs : Nat → Int32} {fv : Value} {f w : Nat} {c : Nat × Nat} {o : z_V} {T' : z_Y} {A : Nat → List (Nat × Int32)} {E : List (Nat × Option Nat)} {N : Nat → Nat} {V : Nat → Nat → Int32} {W : Nat} {g : List z_E} {x1 : Int32}  (kk : z_Ln L xs fv f w 127 7 [(0, .ref 145), (1, .int x1), (2, .int (V 38 3)), (3, .int 0)] [] (hC A E N V W ++ g, c) o T') : z_Ln L xs fv f w 127 0 [(0, .ref 145), (1, .int x1)] [] (hC A E N V W ++ g, c) o T' := z_Ln.blk (pc' := 7) (lv' := [(3, .int 0), (2, .int (V 38 3)), (0, .ref 145), (1, .int x1)]) (st' := []) (H' := hC A E N V W ++ g) (C := []) 0 5 rfl trivial (z_Ln.lv (z_le.cons rfl rfl (z_le.cons rfl rfl (z_le.cons rfl rfl (z_le.cons rfl rfl z_le.nil)))) kk)
set_option maxRecDepth 10000 in
theorem e127_7t {L : Nat} {xs : Nat → Int32} {fv : Value} {f w : Nat} {c : Nat × Nat} {o : z_V} {T' : z_Y} {A : Nat → List (Nat × Int32)} {E : List (Nat × Option Nat)} {N : Nat → Nat} {V : Nat → Nat → Int32} {W : Nat} {g : List z_E} {x1 : Int32} {x2 : Int32} {x3 : Int32}  (hb : x1 ≤ x3) (kk : z_Ln L xs fv f w 127 29 [(0, .ref 145), (1, .int x1), (2, .int x2), (3, .int x3)] [] (hC A E N V W ++ g, c) o T') : z_Ln L xs fv f w 127 7 [(0, .ref 145), (1, .int x1), (2, .int x2), (3, .int x3)] [] (hC A E N V W ++ g, c) o T' := z_Ln.blk (pc' := (if decide (x1 ≤ x3) = true then 29 else 12)) (lv' := [(0, .ref 145), (1, .int x1), (2, .int x2), (3, .int x3)]) (st' := []) (H' := hC A E N V W ++ g) (C := []) 5 3 rfl trivial (z_Ln.brT (decide_eq_true hb) (kk))
set_option maxRecDepth 10000 in
theorem e127_7f {L : Nat} {xs : Nat → Int32} {fv : Value} {f w : Nat} {c : Nat × Nat} {o : z_V} {T' : z_Y} {A : Nat → List (Nat × Int32)} {E : List (Nat × Option Nat)} {N : Nat → Nat} {V : Nat → Nat → Int32} {W : Nat} {g : List z_E} {x1 : Int32} {x2 : Int32} {x3 : Int32}  (hb : ¬ (x1 ≤ x3)) (kk : z_Ln L xs fv f w 127 12 [(0, .ref 145), (1, .int x1), (2, .int x2), (3, .int x3)] [] (hC A E N V W ++ g, c) o T') : z_Ln L xs fv f w 127 7 [(0, .ref 145), (1, .int x1), (2, .int x2), (3, .int x3)] [] (hC A E N V W ++ g, c) o T' := z_Ln.blk (pc' := (if decide (x1 ≤ x3) = true then 29 else 12)) (lv' := [(0, .ref 145), (1, .int x1), (2, .int x2), (3, .int x3)]) (st' := []) (H' := hC A E N V W ++ g) (C := []) 5 3 rfl trivial (z_Ln.brF (decide_eq_false hb) (kk))
set_option maxRecDepth 10000 in
theorem e127_12 {L : Nat} {xs : Nat → Int32} {fv : Value} {f w : Nat} {c : Nat × Nat} {o : z_V} {T' : z_Y} {A : Nat → List (Nat × Int32)} {E : List (Nat × Option Nat)} {N : Nat → Nat} {V : Nat → Nat → Int32} {W : Nat} {g : List z_E} {x1 : Int32} {x2 : Int32} {x3 : Int32} (h1 : z_in (x2 + 1) (N 39) = true) (kk : z_Ln L xs fv f w 127 7 [(0, .ref 145), (1, .int x1), (2, .int (x2 - (z_fn 0 (A 39) (x2 + 1).toNatClampNeg))), (3, .int (x3 + 1))] [] (hC A E N V W ++ g, c) o T') : z_Ln L xs fv f w 127 12 [(0, .ref 145), (1, .int x1), (2, .int x2), (3, .int x3)] [] (hC A E N V W ++ g, c) o T' := z_Ln.blk (pc' := 7) (lv' := [(3, .int (x3 + 1)), (2, .int (x2 - (z_fn 0 (A 39) (x2 + 1).toNatClampNeg))), (0, .ref 145), (1, .int x1)]) (st' := []) (H' := hC A E N V W ++ g) (C := [z_in (x2 + 1) (N 39) = true]) 8 11 rfl h1 (z_Ln.lv (z_le.cons rfl rfl (z_le.cons rfl rfl (z_le.cons rfl rfl (z_le.cons rfl rfl z_le.nil)))) kk)
set_option maxRecDepth 10000 in
theorem e127_29 {L : Nat} {xs : Nat → Int32} {fv : Value} {f w : Nat} {c : Nat × Nat} {A : Nat → List (Nat × Int32)} {E : List (Nat × Option Nat)} {N : Nat → Nat} {V : Nat → Nat → Int32} {W : Nat} {g : List z_E} {x1 : Int32} {x2 : Int32} {x3 : Int32}  : z_Ln L xs fv f w 127 29 [(0, .ref 145), (1, .int x1), (2, .int x2), (3, .int x3)] [] (hC A E N V W ++ g, c) (.inl (some (.int x2))) (hC A E N V W ++ g, c) := z_Ln.blk (pc' := 30) (lv' := [(0, .ref 145), (1, .int x1), (2, .int x2), (3, .int x3)]) (st' := [.int x2]) (H' := hC A E N V W ++ g) (C := []) 19 1 rfl trivial (z_Ln.ret rfl z_retI)
def p127_0 (l : Nat) (A : Nat → List (Nat × Int32)) (E : List (Nat × Option Nat)) (N : Nat → Nat) (V : Nat → Nat → Int32) (W : Nat) (c : Nat × Nat) (x1 : Int32) (Q : z_V → z_CS → Prop) : Prop := z_WC (l + 1) 127 7 [(0, .ref 145), (1, .int x1), (2, .int (V 38 3)), (3, .int 0)] [] (A, E, N, V, W, c) Q
set_option maxRecDepth 10000 in
theorem t127_0 {l : Nat} {A : Nat → List (Nat × Int32)} {E : List (Nat × Option Nat)} {N : Nat → Nat} {V : Nat → Nat → Int32} {W : Nat} {c : Nat × Nat} {x1 : Int32} {Q : z_V → z_CS → Prop} (h : p127_0 l A E N V W c x1 Q) : z_WC (l + 1) 127 0 [(0, .ref 145), (1, .int x1)] [] (A, E, N, V, W, c) Q := by
  unfold p127_0 at h
  exact z_WC.blk (h) (fun _ _ _ _ _ _ _ _ hg hl k => e127_0  k)
def p127_29 (l : Nat) (A : Nat → List (Nat × Int32)) (E : List (Nat × Option Nat)) (N : Nat → Nat) (V : Nat → Nat → Int32) (W : Nat) (c : Nat × Nat) (x1 : Int32) (x2 : Int32) (x3 : Int32) (Q : z_V → z_CS → Prop) : Prop := Q (.inl (some (.int x2))) (A, E, N, V, W, c)
set_option maxRecDepth 10000 in
theorem t127_29 {l : Nat} {A : Nat → List (Nat × Int32)} {E : List (Nat × Option Nat)} {N : Nat → Nat} {V : Nat → Nat → Int32} {W : Nat} {c : Nat × Nat} {x1 : Int32} {x2 : Int32} {x3 : Int32} {Q : z_V → z_CS → Prop} (h : p127_29 l A E N V W c x1 x2 x3 Q) : z_WC (l + 1) 127 29 [(0, .ref 145), (1, .int x1), (2, .int x2), (3, .int x3)] [] (A, E, N, V, W, c) Q := by
  unfold p127_29 at h
  exact ⟨(.inl (some (.int x2))), (A, E, N, V, W, c), fun _ _ _ _ _ _ hg hl => e127_29 , h⟩
def p127_12 (l : Nat) (A : Nat → List (Nat × Int32)) (E : List (Nat × Option Nat)) (N : Nat → Nat) (V : Nat → Nat → Int32) (W : Nat) (c : Nat × Nat) (x1 : Int32) (x2 : Int32) (x3 : Int32) (Q : z_V → z_CS → Prop) : Prop := z_in (x2 + 1) (N 39) = true ∧ z_WC (l + 1) 127 7 [(0, .ref 145), (1, .int x1), (2, .int (x2 - (z_fn 0 (A 39) (x2 + 1).toNatClampNeg))), (3, .int (x3 + 1))] [] (A, E, N, V, W, c) Q
set_option maxRecDepth 10000 in
theorem t127_12 {l : Nat} {A : Nat → List (Nat × Int32)} {E : List (Nat × Option Nat)} {N : Nat → Nat} {V : Nat → Nat → Int32} {W : Nat} {c : Nat × Nat} {x1 : Int32} {x2 : Int32} {x3 : Int32} {Q : z_V → z_CS → Prop} (h : p127_12 l A E N V W c x1 x2 x3 Q) : z_WC (l + 1) 127 12 [(0, .ref 145), (1, .int x1), (2, .int x2), (3, .int x3)] [] (A, E, N, V, W, c) Q := by
  unfold p127_12 at h
  obtain ⟨h1, h⟩ := h
  exact z_WC.blk (h) (fun _ _ _ _ _ _ _ _ hg hl k => e127_12 h1 k)
def p127_7 (l : Nat) (A : Nat → List (Nat × Int32)) (E : List (Nat × Option Nat)) (N : Nat → Nat) (V : Nat → Nat → Int32) (W : Nat) (c : Nat × Nat) (x1 : Int32) (x2 : Int32) (x3 : Int32) (Q : z_V → z_CS → Prop) : Prop := (if x1 ≤ x3 then p127_29 l A E N V W c x1 x2 x3 Q else p127_12 l A E N V W c x1 x2 x3 Q)
set_option maxRecDepth 10000 in
theorem t127_7 {l : Nat} {A : Nat → List (Nat × Int32)} {E : List (Nat × Option Nat)} {N : Nat → Nat} {V : Nat → Nat → Int32} {W : Nat} {c : Nat × Nat} {x1 : Int32} {x2 : Int32} {x3 : Int32} {Q : z_V → z_CS → Prop} (h : p127_7 l A E N V W c x1 x2 x3 Q) : z_WC (l + 1) 127 7 [(0, .ref 145), (1, .int x1), (2, .int x2), (3, .int x3)] [] (A, E, N, V, W, c) Q := by
  unfold p127_7 at h
  by_cases hb : x1 ≤ x3
  · rw [if_pos hb] at h
    exact z_WC.blk (t127_29 h) (fun _ _ _ _ _ _ _ _ hg hl k => e127_7t  hb k)
  · rw [if_neg hb] at h
    exact z_WC.blk (t127_12 h) (fun _ _ _ _ _ _ _ _ hg hl k => e127_7f  hb k)
set_option maxRecDepth 10000 in
theorem e128_0 {L : Nat} {xs : Nat → Int32} {fv : Value} {f w : Nat} {c : Nat × Nat} {o : z_V} {T' : z_Y} {A : Nat → List (Nat × Int32)} {E : List (Nat × Option Nat)} {N : Nat → Nat} {V : Nat → Nat → Int32} {W : Nat} {g : List z_E} {x1 : Int32} {x2 : Int32} {A1 : Nat → List (Nat × Int32)} {E1 : List (Nat × Option Nat)} {N1 : Nat → Nat} {V1 : Nat → Nat → Int32} {W1 : Nat} {g1 : List z_E} {c1 : Nat × Nat} {v : Int32}   (hRm : z_Rm (hC A E N V W ++ g, c)) (hf : 1 ≤ f) (hw : 19 + z_pg.2.1 110 ≤ w) (hc : z_Ln L xs fv (f - 1) (w - (19 + z_pg.2.1 110)) 110 0 [(0, .ref 145), (1, .int (V 38 6)), (2, .int (5 + ((V 38 2) - x1)))] [] (hC A E N V W ++ g, c) (.inl (some (.int v))) (hC A1 E1 N1 V1 W1 ++ g1, c1)) (kk : z_Ln L xs fv f w 128 18 [(0, .ref 145), (1, .int x1), (2, .int x2), (3, .int ((V 38 2) - x1))] [.int v] (hC A1 E1 N1 V1 W1 ++ g1, c1) o T') : z_Ln L xs fv f w 128 0 [(0, .ref 145), (1, .int x1), (2, .int x2)] [] (hC A E N V W ++ g, c) o T' := z_Ln.blk (pc' := 15) (lv' := [(3, .int ((V 38 2) - x1)), (0, .ref 145), (1, .int x1), (2, .int x2)]) (st' := [.int (5 + ((V 38 2) - x1)), .int (V 38 6), .ref 145]) (H' := hC A E N V W ++ g) (C := []) 0 11 rfl trivial (z_Ln.call (s := 0) (mj := 110) (as := [.ref 145, .int (V 38 6), .int (5 + ((V 38 2) - x1))]) (rr := []) (v := some (.int v)) (T1 := (hC A1 E1 N1 V1 W1 ++ g1, c1)) rfl rfl ⟨⟨hf, hw⟩, (by decide : (0 : Nat) ≤ 8), (by decide +kernel : (3 : Nat) ≤ z_pg.2.1 110)⟩ hRm hc ⟨trivial, ⟨trivial, (z_sm0C 0 (by decide) rfl rfl), trivial, trivial, trivial⟩⟩ (z_Ln.lv (z_le.cons rfl rfl (z_le.cons rfl rfl (z_le.cons rfl rfl (z_le.cons rfl rfl z_le.nil)))) kk))
set_option maxRecDepth 10000 in
theorem e128_0x {L : Nat} {xs : Nat → Int32} {fv : Value} {f w : Nat} {c : Nat × Nat} {T' : z_Y} {A : Nat → List (Nat × Int32)} {E : List (Nat × Option Nat)} {N : Nat → Nat} {V : Nat → Nat → Int32} {W : Nat} {g : List z_E} {x1 : Int32} {x2 : Int32}  (hRm : z_Rm (hC A E N V W ++ g, c)) (hf : 1 ≤ f) (hw : 19 + z_pg.2.1 110 ≤ w) (hc : z_Ln L xs fv (f - 1) (w - (19 + z_pg.2.1 110)) 110 0 [(0, .ref 145), (1, .int (V 38 6)), (2, .int (5 + ((V 38 2) - x1)))] [] (hC A E N V W ++ g, c) (.inr 10) T') : z_Ln L xs fv f w 128 0 [(0, .ref 145), (1, .int x1), (2, .int x2)] [] (hC A E N V W ++ g, c) (.inr 10) T' := z_Ln.blk (pc' := 15) (lv' := [(3, .int ((V 38 2) - x1)), (0, .ref 145), (1, .int x1), (2, .int x2)]) (st' := [.int (5 + ((V 38 2) - x1)), .int (V 38 6), .ref 145]) (H' := hC A E N V W ++ g) (C := []) 0 11 rfl trivial (z_Ln.past (s := 0) (mj := 110) (as := [.ref 145, .int (V 38 6), .int (5 + ((V 38 2) - x1))]) (rr := []) rfl rfl ⟨⟨hf, hw⟩, (by decide : (0 : Nat) ≤ 8), (by decide +kernel : (3 : Nat) ≤ z_pg.2.1 110)⟩ hRm hc rfl)
set_option maxRecDepth 10000 in
theorem e128_18 {L : Nat} {xs : Nat → Int32} {fv : Value} {f w : Nat} {c : Nat × Nat} {A : Nat → List (Nat × Int32)} {E : List (Nat × Option Nat)} {N : Nat → Nat} {V : Nat → Nat → Int32} {W : Nat} {g : List z_E} {x1 : Int32} {x2 : Int32} {x3 : Int32} {y0 : Int32} (h1 : z_in (y0 + 1) (N 40) = true) (h2 : z_in (y0 + 2) (N 40) = true) (h3 : z_in (y0 + 3) (N 40) = true) (h4 : z_in (y0 + 4) (N 40) = true) (hR0 : ((c.1 ≤ 601024 ∧ c.2 ≤ 7293034) ∧ 1 ≤ f ∧ 60 ≤ w)) (h6 : z_cpk .int 0 (N 39) (N 40) (A 39) x1 (y0 + 5) x3 []) : z_Ln L xs fv f w 128 18 [(0, .ref 145), (1, .int x1), (2, .int x2), (3, .int x3)] [.int y0] (hC A E N V W ++ g, c) (.inl (some (.int y0))) (hC (z_u A 40 (z_cpl (A 39) (((y0 + 4).toNatClampNeg, x3) :: ((y0 + 3).toNatClampNeg, ((V 38 3) - x1)) :: ((y0 + 2).toNatClampNeg, x2) :: ((y0 + 1).toNatClampNeg, 0) :: A 40) x1.toNatClampNeg (y0 + 5).toNatClampNeg x3.toNatClampNeg)) E N V W ++ g, c) := z_Ln.blk (pc' := 84) (lv' := [(4, .int y0), (0, .ref 145), (1, .int x1), (2, .int x2), (3, .int x3)]) (st' := [.int y0]) (H' := hC (z_u A 40 (z_cpl (A 39) (((y0 + 4).toNatClampNeg, x3) :: ((y0 + 3).toNatClampNeg, ((V 38 3) - x1)) :: ((y0 + 2).toNatClampNeg, x2) :: ((y0 + 1).toNatClampNeg, 0) :: A 40) x1.toNatClampNeg (y0 + 5).toNatClampNeg x3.toNatClampNeg)) E N V W ++ g) (C := [z_in (y0 + 1) (N 40) = true, z_in (y0 + 2) (N 40) = true, z_in (y0 + 3) (N 40) = true, z_in (y0 + 4) (N 40) = true, ((c.1 ≤ 601024 ∧ c.2 ≤ 7293034) ∧ 1 ≤ f ∧ 60 ≤ w), z_cpk .int 0 (N 39) (N 40) (A 39) x1 (y0 + 5) x3 []]) 12 43 rfl ⟨h1, h2, h3, h4, hR0, h6⟩ (z_Ln.ret rfl z_retI)
def p128_18 (l : Nat) (A : Nat → List (Nat × Int32)) (E : List (Nat × Option Nat)) (N : Nat → Nat) (V : Nat → Nat → Int32) (W : Nat) (c : Nat × Nat) (x1 : Int32) (x2 : Int32) (x3 : Int32) (y0 : Int32) (Q : z_V → z_CS → Prop) : Prop := z_in (y0 + 1) (N 40) = true ∧ z_in (y0 + 2) (N 40) = true ∧ z_in (y0 + 3) (N 40) = true ∧ z_in (y0 + 4) (N 40) = true ∧ z_cpk .int 0 (N 39) (N 40) (A 39) x1 (y0 + 5) x3 [] ∧ z_Rm ([], c) ∧ Q (.inl (some (.int y0))) ((z_u A 40 (z_cpl (A 39) (((y0 + 4).toNatClampNeg, x3) :: ((y0 + 3).toNatClampNeg, ((V 38 3) - x1)) :: ((y0 + 2).toNatClampNeg, x2) :: ((y0 + 1).toNatClampNeg, 0) :: A 40) x1.toNatClampNeg (y0 + 5).toNatClampNeg x3.toNatClampNeg)), E, N, V, W, c)
set_option maxRecDepth 10000 in
theorem t128_18 {l : Nat} {A : Nat → List (Nat × Int32)} {E : List (Nat × Option Nat)} {N : Nat → Nat} {V : Nat → Nat → Int32} {W : Nat} {c : Nat × Nat} {x1 : Int32} {x2 : Int32} {x3 : Int32} {y0 : Int32} {Q : z_V → z_CS → Prop} (h : p128_18 l A E N V W c x1 x2 x3 y0 Q) : z_WC (l + 1) 128 18 [(0, .ref 145), (1, .int x1), (2, .int x2), (3, .int x3)] [.int y0] (A, E, N, V, W, c) Q := by
  unfold p128_18 at h
  obtain ⟨h1, h2, h3, h4, h5, hm, h⟩ := h
  exact ⟨(.inl (some (.int y0))), ((z_u A 40 (z_cpl (A 39) (((y0 + 4).toNatClampNeg, x3) :: ((y0 + 3).toNatClampNeg, ((V 38 3) - x1)) :: ((y0 + 2).toNatClampNeg, x2) :: ((y0 + 1).toNatClampNeg, 0) :: A 40) x1.toNatClampNeg (y0 + 5).toNatClampNeg x3.toNatClampNeg)), E, N, V, W, c), fun _ _ _ _ _ _ hg hl => e128_18 h1 h2 h3 h4 (hl.r0 hm) h5, h⟩
def p128_0 (l : Nat) (A : Nat → List (Nat × Int32)) (E : List (Nat × Option Nat)) (N : Nat → Nat) (V : Nat → Nat → Int32) (W : Nat) (c : Nat × Nat) (x1 : Int32) (x2 : Int32) (Q : z_V → z_CS → Prop) : Prop := z_Rm ([], c) ∧ z_WC l 110 0 [(0, .ref 145), (1, .int (V 38 6)), (2, .int (5 + ((V 38 2) - x1)))] [] (A, E, N, V, W, c) (z_cx Q (fun x S1 => ∃ v : Int32, x = some (.int v) ∧ p128_18 l S1.1 S1.2.1 S1.2.2.1 S1.2.2.2.1 S1.2.2.2.2.1 S1.2.2.2.2.2 x1 x2 ((V 38 2) - x1) v Q))
set_option maxRecDepth 10000 in
theorem t128_0 {l : Nat} {A : Nat → List (Nat × Int32)} {E : List (Nat × Option Nat)} {N : Nat → Nat} {V : Nat → Nat → Int32} {W : Nat} {c : Nat × Nat} {x1 : Int32} {x2 : Int32} {Q : z_V → z_CS → Prop} (h : p128_0 l A E N V W c x1 x2 Q) : z_WC (l + 1) 128 0 [(0, .ref 145), (1, .int x1), (2, .int x2)] [] (A, E, N, V, W, c) Q := by
  unfold p128_0 at h
  obtain ⟨hm, h⟩ := h
  obtain ⟨o, S1, hc, h⟩ := h
  cases o with
  | inl x =>
    obtain ⟨v, rfl, h⟩ := h
    obtain ⟨o2, S2, hk, hQ⟩ := t128_18 h
    exact ⟨o2, S2, fun L xs fv f w g hg hl => e128_0   hm hl.f1 (hl.w1 110 (by decide)) (hc L xs fv _ _ g hg (hl.dn 110 (by decide))) (hk L xs fv f w g hg hl), hQ⟩
  | inr e =>
    obtain ⟨rfl, h⟩ := h
    exact ⟨_, S1, fun L xs fv f w g hg hl => e128_0x  hm hl.f1 (hl.w1 110 (by decide)) (hc L xs fv _ _ g hg (hl.dn 110 (by decide))), h⟩
set_option maxRecDepth 10000 in
theorem e124_0 {L : Nat} {xs : Nat → Int32} {fv : Value} {f w : Nat} {c : Nat × Nat} {o : z_V} {T' : z_Y} {A : Nat → List (Nat × Int32)} {E : List (Nat × Option Nat)} {N : Nat → Nat} {V : Nat → Nat → Int32} {W : Nat} {g : List z_E} {x1 : Int32} {A1 : Nat → List (Nat × Int32)} {E1 : List (Nat × Option Nat)} {N1 : Nat → Nat} {V1 : Nat → Nat → Int32} {W1 : Nat} {g1 : List z_E} {c1 : Nat × Nat} {v : Int32}   (hRm : z_Rm (hC A E N V W ++ g, c)) (hf : 1 ≤ f) (hw : 19 + z_pg.2.1 125 ≤ w) (hc : z_Ln L xs fv (f - 1) (w - (19 + z_pg.2.1 125)) 125 0 [(0, .ref 145), (1, .int x1)] [] (hC A E N V W ++ g, c) (.inl (some (.int v))) (hC A1 E1 N1 V1 W1 ++ g1, c1)) (kk : z_Ln L xs fv f w 124 5 [(0, .ref 145), (1, .int x1)] [.int v] (hC A1 E1 N1 V1 W1 ++ g1, c1) o T') : z_Ln L xs fv f w 124 0 [(0, .ref 145), (1, .int x1)] [] (hC A E N V W ++ g, c) o T' := z_Ln.blk (pc' := 2) (lv' := [(0, .ref 145), (1, .int x1)]) (st' := [.int x1, .ref 145]) (H' := hC A E N V W ++ g) (C := []) 0 2 rfl trivial (z_Ln.call (s := 0) (mj := 125) (as := [.ref 145, .int x1]) (rr := []) (v := some (.int v)) (T1 := (hC A1 E1 N1 V1 W1 ++ g1, c1)) rfl rfl ⟨⟨hf, hw⟩, (by decide : (0 : Nat) ≤ 8), (by decide +kernel : (2 : Nat) ≤ z_pg.2.1 125)⟩ hRm hc ⟨trivial, ⟨(z_sm0C 0 (by decide) rfl rfl), trivial, trivial⟩⟩ (kk))
set_option maxRecDepth 10000 in
theorem e124_0x {L : Nat} {xs : Nat → Int32} {fv : Value} {f w : Nat} {c : Nat × Nat} {T' : z_Y} {A : Nat → List (Nat × Int32)} {E : List (Nat × Option Nat)} {N : Nat → Nat} {V : Nat → Nat → Int32} {W : Nat} {g : List z_E} {x1 : Int32}  (hRm : z_Rm (hC A E N V W ++ g, c)) (hf : 1 ≤ f) (hw : 19 + z_pg.2.1 125 ≤ w) (hc : z_Ln L xs fv (f - 1) (w - (19 + z_pg.2.1 125)) 125 0 [(0, .ref 145), (1, .int x1)] [] (hC A E N V W ++ g, c) (.inr 10) T') : z_Ln L xs fv f w 124 0 [(0, .ref 145), (1, .int x1)] [] (hC A E N V W ++ g, c) (.inr 10) T' := z_Ln.blk (pc' := 2) (lv' := [(0, .ref 145), (1, .int x1)]) (st' := [.int x1, .ref 145]) (H' := hC A E N V W ++ g) (C := []) 0 2 rfl trivial (z_Ln.past (s := 0) (mj := 125) (as := [.ref 145, .int x1]) (rr := []) rfl rfl ⟨⟨hf, hw⟩, (by decide : (0 : Nat) ≤ 8), (by decide +kernel : (2 : Nat) ≤ z_pg.2.1 125)⟩ hRm hc rfl)
set_option maxRecDepth 10000 in
theorem e124_5t {L : Nat} {xs : Nat → Int32} {fv : Value} {f w : Nat} {c : Nat × Nat} {o : z_V} {T' : z_Y} {A : Nat → List (Nat × Int32)} {E : List (Nat × Option Nat)} {N : Nat → Nat} {V : Nat → Nat → Int32} {W : Nat} {g : List z_E} {x1 : Int32} {y0 : Int32}  (hb : ¬ y0 = 0) (kk : z_Ln L xs fv f w 124 23 [(0, .ref 145), (1, .int x1), (2, .int y0)] [] (hC A E N V W ++ g, c) o T') : z_Ln L xs fv f w 124 5 [(0, .ref 145), (1, .int x1)] [.int y0] (hC A E N V W ++ g, c) o T' := z_Ln.blk (pc' := (if decide (¬ y0 = 0) = true then 23 else 10)) (lv' := [(2, .int y0), (0, .ref 145), (1, .int x1)]) (st' := []) (H' := hC A E N V W ++ g) (C := []) 3 3 rfl trivial (z_Ln.brT (decide_eq_true hb) (z_Ln.lv (z_le.cons rfl rfl (z_le.cons rfl rfl (z_le.cons rfl rfl z_le.nil))) kk))
set_option maxRecDepth 10000 in
theorem e124_5f {L : Nat} {xs : Nat → Int32} {fv : Value} {f w : Nat} {c : Nat × Nat} {o : z_V} {T' : z_Y} {A : Nat → List (Nat × Int32)} {E : List (Nat × Option Nat)} {N : Nat → Nat} {V : Nat → Nat → Int32} {W : Nat} {g : List z_E} {x1 : Int32} {y0 : Int32}  (hb : ¬ (¬ y0 = 0)) (kk : z_Ln L xs fv f w 124 10 [(0, .ref 145), (1, .int x1), (2, .int y0)] [] (hC A E N V W ++ g, c) o T') : z_Ln L xs fv f w 124 5 [(0, .ref 145), (1, .int x1)] [.int y0] (hC A E N V W ++ g, c) o T' := z_Ln.blk (pc' := (if decide (¬ y0 = 0) = true then 23 else 10)) (lv' := [(2, .int y0), (0, .ref 145), (1, .int x1)]) (st' := []) (H' := hC A E N V W ++ g) (C := []) 3 3 rfl trivial (z_Ln.brF (decide_eq_false hb) (z_Ln.lv (z_le.cons rfl rfl (z_le.cons rfl rfl (z_le.cons rfl rfl z_le.nil))) kk))
set_option maxRecDepth 10000 in
theorem e124_10 {L : Nat} {xs : Nat → Int32} {fv : Value} {f w : Nat} {c : Nat × Nat} {o : z_V} {T' : z_Y} {A : Nat → List (Nat × Int32)} {E : List (Nat × Option Nat)} {N : Nat → Nat} {V : Nat → Nat → Int32} {W : Nat} {g : List z_E} {x1 : Int32} {x2 : Int32}  (kk : z_Ln L xs fv f w 124 180 [(0, .ref 145), (1, .int x1), (2, .int x2)] [] (hC A E N (z_v (z_v V 38 7 (4)) 38 9 (x1)) W ++ g, c) o T') : z_Ln L xs fv f w 124 10 [(0, .ref 145), (1, .int x1), (2, .int x2)] [] (hC A E N V W ++ g, c) o T' := z_Ln.blk (pc' := 180) (lv' := [(0, .ref 145), (1, .int x1), (2, .int x2)]) (st' := []) (H' := hC A E N (z_v (z_v V 38 7 (4)) 38 9 (x1)) W ++ g) (C := [z_fit (z_fty 8 7) (.int 4) = true, z_fit (z_fty 8 9) (.int x1) = true]) 6 7 rfl ⟨z_fitI, z_fitI⟩ (kk)
set_option maxRecDepth 10000 in
theorem e124_23t {L : Nat} {xs : Nat → Int32} {fv : Value} {f w : Nat} {c : Nat × Nat} {o : z_V} {T' : z_Y} {A : Nat → List (Nat × Int32)} {E : List (Nat × Option Nat)} {N : Nat → Nat} {V : Nat → Nat → Int32} {W : Nat} {g : List z_E} {x1 : Int32} {x2 : Int32}  (hb : (((V 38 11) + 1) + x2) ≤ 1000) (kk : z_Ln L xs fv f w 124 45 [(0, .ref 145), (1, .int x1), (2, .int x2)] [] (hC A E N V W ++ g, c) o T') : z_Ln L xs fv f w 124 23 [(0, .ref 145), (1, .int x1), (2, .int x2)] [] (hC A E N V W ++ g, c) o T' := z_Ln.blk (pc' := (if decide ((((V 38 11) + 1) + x2) ≤ 1000) = true then 45 else 37)) (lv' := [(0, .ref 145), (1, .int x1), (2, .int x2)]) (st' := []) (H' := hC A E N V W ++ g) (C := []) 13 8 rfl trivial (z_Ln.brT (decide_eq_true hb) (kk))
set_option maxRecDepth 10000 in
theorem e124_23f {L : Nat} {xs : Nat → Int32} {fv : Value} {f w : Nat} {c : Nat × Nat} {o : z_V} {T' : z_Y} {A : Nat → List (Nat × Int32)} {E : List (Nat × Option Nat)} {N : Nat → Nat} {V : Nat → Nat → Int32} {W : Nat} {g : List z_E} {x1 : Int32} {x2 : Int32}  (hb : ¬ ((((V 38 11) + 1) + x2) ≤ 1000)) (kk : z_Ln L xs fv f w 124 37 [(0, .ref 145), (1, .int x1), (2, .int x2)] [] (hC A E N V W ++ g, c) o T') : z_Ln L xs fv f w 124 23 [(0, .ref 145), (1, .int x1), (2, .int x2)] [] (hC A E N V W ++ g, c) o T' := z_Ln.blk (pc' := (if decide ((((V 38 11) + 1) + x2) ≤ 1000) = true then 45 else 37)) (lv' := [(0, .ref 145), (1, .int x1), (2, .int x2)]) (st' := []) (H' := hC A E N V W ++ g) (C := []) 13 8 rfl trivial (z_Ln.brF (decide_eq_false hb) (kk))
set_option maxRecDepth 10000 in
theorem e124_37 {L : Nat} {xs : Nat → Int32} {fv : Value} {f w : Nat} {c : Nat × Nat} {o : z_V} {T' : z_Y} {A : Nat → List (Nat × Int32)} {E : List (Nat × Option Nat)} {N : Nat → Nat} {V : Nat → Nat → Int32} {W : Nat} {g : List z_E} {x1 : Int32} {x2 : Int32}  (kk : z_Ln L xs fv f w 124 180 [(0, .ref 145), (1, .int x1), (2, .int x2)] [] (hC A E N (z_v V 38 7 (5)) W ++ g, c) o T') : z_Ln L xs fv f w 124 37 [(0, .ref 145), (1, .int x1), (2, .int x2)] [] (hC A E N V W ++ g, c) o T' := z_Ln.blk (pc' := 180) (lv' := [(0, .ref 145), (1, .int x1), (2, .int x2)]) (st' := []) (H' := hC A E N (z_v V 38 7 (5)) W ++ g) (C := [z_fit (z_fty 8 7) (.int 5) = true]) 21 4 rfl z_fitI (kk)
set_option maxRecDepth 10000 in
theorem e124_45 {L : Nat} {xs : Nat → Int32} {fv : Value} {f w : Nat} {c : Nat × Nat} {o : z_V} {T' : z_Y} {A : Nat → List (Nat × Int32)} {E : List (Nat × Option Nat)} {N : Nat → Nat} {V : Nat → Nat → Int32} {W : Nat} {g : List z_E} {x1 : Int32} {x2 : Int32} {A1 : Nat → List (Nat × Int32)} {E1 : List (Nat × Option Nat)} {N1 : Nat → Nat} {V1 : Nat → Nat → Int32} {W1 : Nat} {g1 : List z_E} {c1 : Nat × Nat} {v : Int32}   (hRm : z_Rm (hC A E N (z_v (z_v V 38 11 ((V 38 11) + (1 + x2))) 38 12 ((V 38 12) + (1 - x2))) W ++ g, c)) (hf : 1 ≤ f) (hw : 19 + z_pg.2.1 118 ≤ w) (hc : z_Ln L xs fv (f - 1) (w - (19 + z_pg.2.1 118)) 118 0 [(0, .ref 145)] [] (hC A E N (z_v (z_v V 38 11 ((V 38 11) + (1 + x2))) 38 12 ((V 38 12) + (1 - x2))) W ++ g, c) (.inl (some (.int v))) (hC A1 E1 N1 V1 W1 ++ g1, c1)) (kk : z_Ln L xs fv f w 124 73 [(0, .ref 145), (1, .int x1), (2, .int x2)] [.int v] (hC A1 E1 N1 V1 W1 ++ g1, c1) o T') : z_Ln L xs fv f w 124 45 [(0, .ref 145), (1, .int x1), (2, .int x2)] [] (hC A E N V W ++ g, c) o T' := z_Ln.blk (pc' := 70) (lv' := [(0, .ref 145), (1, .int x1), (2, .int x2)]) (st' := [.ref 145]) (H' := hC A E N (z_v (z_v V 38 11 ((V 38 11) + (1 + x2))) 38 12 ((V 38 12) + (1 - x2))) W ++ g) (C := [z_fit (z_fty 8 11) (.int ((V 38 11) + (1 + x2))) = true, z_fit (z_fty 8 12) (.int ((V 38 12) + (1 - x2))) = true]) 25 17 rfl ⟨z_fitI, z_fitI⟩ (z_Ln.call (s := 0) (mj := 118) (as := [.ref 145]) (rr := []) (v := some (.int v)) (T1 := (hC A1 E1 N1 V1 W1 ++ g1, c1)) rfl rfl ⟨⟨hf, hw⟩, (by decide : (0 : Nat) ≤ 8), (by decide +kernel : (1 : Nat) ≤ z_pg.2.1 118)⟩ hRm hc ⟨trivial, ⟨(z_sm0C 0 (by decide) rfl rfl), trivial, trivial, trivial⟩⟩ (kk))
set_option maxRecDepth 10000 in
theorem e124_45x {L : Nat} {xs : Nat → Int32} {fv : Value} {f w : Nat} {c : Nat × Nat} {T' : z_Y} {A : Nat → List (Nat × Int32)} {E : List (Nat × Option Nat)} {N : Nat → Nat} {V : Nat → Nat → Int32} {W : Nat} {g : List z_E} {x1 : Int32} {x2 : Int32}  (hRm : z_Rm (hC A E N (z_v (z_v V 38 11 ((V 38 11) + (1 + x2))) 38 12 ((V 38 12) + (1 - x2))) W ++ g, c)) (hf : 1 ≤ f) (hw : 19 + z_pg.2.1 118 ≤ w) (hc : z_Ln L xs fv (f - 1) (w - (19 + z_pg.2.1 118)) 118 0 [(0, .ref 145)] [] (hC A E N (z_v (z_v V 38 11 ((V 38 11) + (1 + x2))) 38 12 ((V 38 12) + (1 - x2))) W ++ g, c) (.inr 10) T') : z_Ln L xs fv f w 124 45 [(0, .ref 145), (1, .int x1), (2, .int x2)] [] (hC A E N V W ++ g, c) (.inr 10) T' := z_Ln.blk (pc' := 70) (lv' := [(0, .ref 145), (1, .int x1), (2, .int x2)]) (st' := [.ref 145]) (H' := hC A E N (z_v (z_v V 38 11 ((V 38 11) + (1 + x2))) 38 12 ((V 38 12) + (1 - x2))) W ++ g) (C := [z_fit (z_fty 8 11) (.int ((V 38 11) + (1 + x2))) = true, z_fit (z_fty 8 12) (.int ((V 38 12) + (1 - x2))) = true]) 25 17 rfl ⟨z_fitI, z_fitI⟩ (z_Ln.past (s := 0) (mj := 118) (as := [.ref 145]) (rr := []) rfl rfl ⟨⟨hf, hw⟩, (by decide : (0 : Nat) ≤ 8), (by decide +kernel : (1 : Nat) ≤ z_pg.2.1 118)⟩ hRm hc rfl)
set_option maxRecDepth 10000 in
theorem e124_73 {L : Nat} {xs : Nat → Int32} {fv : Value} {f w : Nat} {c : Nat × Nat} {o : z_V} {T' : z_Y} {A : Nat → List (Nat × Int32)} {E : List (Nat × Option Nat)} {N : Nat → Nat} {V : Nat → Nat → Int32} {W : Nat} {g : List z_E} {x1 : Int32} {x2 : Int32} {y0 : Int32} {A1 : Nat → List (Nat × Int32)} {E1 : List (Nat × Option Nat)} {N1 : Nat → Nat} {V1 : Nat → Nat → Int32} {W1 : Nat} {g1 : List z_E} {c1 : Nat × Nat} {v : Int32}   (hRm : z_Rm (hC A E N V W ++ g, c)) (hf : 1 ≤ f) (hw : 19 + z_pg.2.1 127 ≤ w) (hc : z_Ln L xs fv (f - 1) (w - (19 + z_pg.2.1 127)) 127 0 [(0, .ref 145), (1, .int (x2 - 1))] [] (hC A E N V W ++ g, c) (.inl (some (.int v))) (hC A1 E1 N1 V1 W1 ++ g1, c1)) (kk : z_Ln L xs fv f w 124 81 [(0, .ref 145), (1, .int x1), (2, .int x2), (3, .int y0)] [.int v] (hC A1 E1 N1 V1 W1 ++ g1, c1) o T') : z_Ln L xs fv f w 124 73 [(0, .ref 145), (1, .int x1), (2, .int x2)] [.int y0] (hC A E N V W ++ g, c) o T' := z_Ln.blk (pc' := 78) (lv' := [(3, .int y0), (0, .ref 145), (1, .int x1), (2, .int x2)]) (st' := [.int (x2 - 1), .ref 145]) (H' := hC A E N V W ++ g) (C := []) 43 5 rfl trivial (z_Ln.call (s := 0) (mj := 127) (as := [.ref 145, .int (x2 - 1)]) (rr := []) (v := some (.int v)) (T1 := (hC A1 E1 N1 V1 W1 ++ g1, c1)) rfl rfl ⟨⟨hf, hw⟩, (by decide : (0 : Nat) ≤ 8), (by decide +kernel : (2 : Nat) ≤ z_pg.2.1 127)⟩ hRm hc ⟨trivial, ⟨trivial, (z_sm0C 0 (by decide) rfl rfl), trivial, trivial, trivial⟩⟩ (z_Ln.lv (z_le.cons rfl rfl (z_le.cons rfl rfl (z_le.cons rfl rfl (z_le.cons rfl rfl z_le.nil)))) kk))
set_option maxRecDepth 10000 in
theorem e124_73x {L : Nat} {xs : Nat → Int32} {fv : Value} {f w : Nat} {c : Nat × Nat} {T' : z_Y} {A : Nat → List (Nat × Int32)} {E : List (Nat × Option Nat)} {N : Nat → Nat} {V : Nat → Nat → Int32} {W : Nat} {g : List z_E} {x1 : Int32} {x2 : Int32} {y0 : Int32}  (hRm : z_Rm (hC A E N V W ++ g, c)) (hf : 1 ≤ f) (hw : 19 + z_pg.2.1 127 ≤ w) (hc : z_Ln L xs fv (f - 1) (w - (19 + z_pg.2.1 127)) 127 0 [(0, .ref 145), (1, .int (x2 - 1))] [] (hC A E N V W ++ g, c) (.inr 10) T') : z_Ln L xs fv f w 124 73 [(0, .ref 145), (1, .int x1), (2, .int x2)] [.int y0] (hC A E N V W ++ g, c) (.inr 10) T' := z_Ln.blk (pc' := 78) (lv' := [(3, .int y0), (0, .ref 145), (1, .int x1), (2, .int x2)]) (st' := [.int (x2 - 1), .ref 145]) (H' := hC A E N V W ++ g) (C := []) 43 5 rfl trivial (z_Ln.past (s := 0) (mj := 127) (as := [.ref 145, .int (x2 - 1)]) (rr := []) rfl rfl ⟨⟨hf, hw⟩, (by decide : (0 : Nat) ≤ 8), (by decide +kernel : (2 : Nat) ≤ z_pg.2.1 127)⟩ hRm hc rfl)
set_option maxRecDepth 10000 in
theorem e124_81 {L : Nat} {xs : Nat → Int32} {fv : Value} {f w : Nat} {c : Nat × Nat} {o : z_V} {T' : z_Y} {A : Nat → List (Nat × Int32)} {E : List (Nat × Option Nat)} {N : Nat → Nat} {V : Nat → Nat → Int32} {W : Nat} {g : List z_E} {x1 : Int32} {x2 : Int32} {x3 : Int32} {y0 : Int32} {A1 : Nat → List (Nat × Int32)} {E1 : List (Nat × Option Nat)} {N1 : Nat → Nat} {V1 : Nat → Nat → Int32} {W1 : Nat} {g1 : List z_E} {c1 : Nat × Nat} {v : Int32} (h1 : z_in (y0 + 3) (N 39) = true)  (hRm : z_Rm (hC A E N V W ++ g, c)) (hf : 1 ≤ f) (hw : 19 + z_pg.2.1 128 ≤ w) (hc : z_Ln L xs fv (f - 1) (w - (19 + z_pg.2.1 128)) 128 0 [(0, .ref 145), (1, .int y0), (2, .int x2)] [] (hC A E N V W ++ g, c) (.inl (some (.int v))) (hC A1 E1 N1 V1 W1 ++ g1, c1)) (kk : z_Ln L xs fv f w 124 101 [(0, .ref 145), (1, .int x1), (2, .int x2), (3, .int x3), (4, .int y0), (5, .int (z_fn 0 (A 39) (y0 + 3).toNatClampNeg))] [.int v] (hC A1 E1 N1 V1 W1 ++ g1, c1) o T') : z_Ln L xs fv f w 124 81 [(0, .ref 145), (1, .int x1), (2, .int x2), (3, .int x3)] [.int y0] (hC A E N V W ++ g, c) o T' := z_Ln.blk (pc' := 98) (lv' := [(5, .int (z_fn 0 (A 39) (y0 + 3).toNatClampNeg)), (4, .int y0), (0, .ref 145), (1, .int x1), (2, .int x2), (3, .int x3)]) (st' := [.int x2, .int y0, .ref 145]) (H' := hC A E N V W ++ g) (C := [z_in (y0 + 3) (N 39) = true]) 49 11 rfl h1 (z_Ln.call (s := 0) (mj := 128) (as := [.ref 145, .int y0, .int x2]) (rr := []) (v := some (.int v)) (T1 := (hC A1 E1 N1 V1 W1 ++ g1, c1)) rfl rfl ⟨⟨hf, hw⟩, (by decide : (0 : Nat) ≤ 8), (by decide +kernel : (3 : Nat) ≤ z_pg.2.1 128)⟩ hRm hc ⟨trivial, ⟨trivial, trivial, (z_sm0C 0 (by decide) rfl rfl), trivial, trivial, trivial, trivial⟩⟩ (z_Ln.lv (z_le.cons rfl rfl (z_le.cons rfl rfl (z_le.cons rfl rfl (z_le.cons rfl rfl (z_le.cons rfl rfl (z_le.cons rfl rfl z_le.nil)))))) kk))
set_option maxRecDepth 10000 in
theorem e124_81x {L : Nat} {xs : Nat → Int32} {fv : Value} {f w : Nat} {c : Nat × Nat} {T' : z_Y} {A : Nat → List (Nat × Int32)} {E : List (Nat × Option Nat)} {N : Nat → Nat} {V : Nat → Nat → Int32} {W : Nat} {g : List z_E} {x1 : Int32} {x2 : Int32} {x3 : Int32} {y0 : Int32} (h1 : z_in (y0 + 3) (N 39) = true) (hRm : z_Rm (hC A E N V W ++ g, c)) (hf : 1 ≤ f) (hw : 19 + z_pg.2.1 128 ≤ w) (hc : z_Ln L xs fv (f - 1) (w - (19 + z_pg.2.1 128)) 128 0 [(0, .ref 145), (1, .int y0), (2, .int x2)] [] (hC A E N V W ++ g, c) (.inr 10) T') : z_Ln L xs fv f w 124 81 [(0, .ref 145), (1, .int x1), (2, .int x2), (3, .int x3)] [.int y0] (hC A E N V W ++ g, c) (.inr 10) T' := z_Ln.blk (pc' := 98) (lv' := [(5, .int (z_fn 0 (A 39) (y0 + 3).toNatClampNeg)), (4, .int y0), (0, .ref 145), (1, .int x1), (2, .int x2), (3, .int x3)]) (st' := [.int x2, .int y0, .ref 145]) (H' := hC A E N V W ++ g) (C := [z_in (y0 + 3) (N 39) = true]) 49 11 rfl h1 (z_Ln.past (s := 0) (mj := 128) (as := [.ref 145, .int y0, .int x2]) (rr := []) rfl rfl ⟨⟨hf, hw⟩, (by decide : (0 : Nat) ≤ 8), (by decide +kernel : (3 : Nat) ≤ z_pg.2.1 128)⟩ hRm hc rfl)
set_option maxRecDepth 10000 in
theorem e124_101 {L : Nat} {xs : Nat → Int32} {fv : Value} {f w : Nat} {c : Nat × Nat} {o : z_V} {T' : z_Y} {A : Nat → List (Nat × Int32)} {E : List (Nat × Option Nat)} {N : Nat → Nat} {V : Nat → Nat → Int32} {W : Nat} {g : List z_E} {x1 : Int32} {x2 : Int32} {x3 : Int32} {x4 : Int32} {x5 : Int32} {y0 : Int32} {A1 : Nat → List (Nat × Int32)} {E1 : List (Nat × Option Nat)} {N1 : Nat → Nat} {V1 : Nat → Nat → Int32} {W1 : Nat} {g1 : List z_E} {c1 : Nat × Nat} {v : Int32} (h1 : z_in x5 (N 18) = true) (h2 : z_in (x4 + 3) (N 39) = true) (h3 : z_in (x4 + 4) (N 39) = true) (h4 : z_in ((x4 + 4) + 1) (N 39) = true)  (hRm : z_Rm (hC (z_u A 39 ((((x4 + 4) + 1).toNatClampNeg, y0) :: ((x4 + 4).toNatClampNeg, x3) :: ((x4 + 3).toNatClampNeg, ((-1))) :: A 39)) E N (z_v (z_v V 38 3 (x4)) 38 2 ((x4 + 4) + (z_fn 0 (A 18) x5.toNatClampNeg))) W ++ g, c)) (hf : 1 ≤ f) (hw : 19 + z_pg.2.1 126 ≤ w) (hc : z_Ln L xs fv (f - 1) (w - (19 + z_pg.2.1 126)) 126 0 [(0, .ref 145), (1, .int x5), (2, .int x1)] [] (hC (z_u A 39 ((((x4 + 4) + 1).toNatClampNeg, y0) :: ((x4 + 4).toNatClampNeg, x3) :: ((x4 + 3).toNatClampNeg, ((-1))) :: A 39)) E N (z_v (z_v V 38 3 (x4)) 38 2 ((x4 + 4) + (z_fn 0 (A 18) x5.toNatClampNeg))) W ++ g, c) (.inl (some (.int v))) (hC A1 E1 N1 V1 W1 ++ g1, c1)) (kk : z_Ln L xs fv f w 124 175 [(0, .ref 145), (1, .int x1), (2, .int x2), (3, .int x3), (4, .int x4), (5, .int x5), (6, .int y0)] [.int v, .ref 145] (hC A1 E1 N1 V1 W1 ++ g1, c1) o T') : z_Ln L xs fv f w 124 101 [(0, .ref 145), (1, .int x1), (2, .int x2), (3, .int x3), (4, .int x4), (5, .int x5)] [.int y0] (hC A E N V W ++ g, c) o T' := z_Ln.blk (pc' := 172) (lv' := [(6, .int y0), (0, .ref 145), (1, .int x1), (2, .int x2), (3, .int x3), (4, .int x4), (5, .int x5)]) (st' := [.int x1, .int x5, .ref 145, .ref 145]) (H' := hC (z_u A 39 ((((x4 + 4) + 1).toNatClampNeg, y0) :: ((x4 + 4).toNatClampNeg, x3) :: ((x4 + 3).toNatClampNeg, ((-1))) :: A 39)) E N (z_v (z_v V 38 3 (x4)) 38 2 ((x4 + 4) + (z_fn 0 (A 18) x5.toNatClampNeg))) W ++ g) (C := [z_fit (z_fty 8 3) (.int x4) = true, z_in x5 (N 18) = true, z_fit (z_fty 8 2) (.int ((x4 + 4) + (z_fn 0 (A 18) x5.toNatClampNeg))) = true, z_in (x4 + 3) (N 39) = true, z_in (x4 + 4) (N 39) = true, z_in ((x4 + 4) + 1) (N 39) = true]) 61 45 rfl ⟨z_fitI, h1, z_fitI, h2, h3, h4⟩ (z_Ln.call (s := 0) (mj := 126) (as := [.ref 145, .int x5, .int x1]) (rr := [.ref 145]) (v := some (.int v)) (T1 := (hC A1 E1 N1 V1 W1 ++ g1, c1)) rfl rfl ⟨⟨hf, hw⟩, (by decide : (1 : Nat) ≤ 8), (by decide +kernel : (3 : Nat) ≤ z_pg.2.1 126)⟩ hRm hc ⟨⟨(z_sm0C 0 (by decide) rfl rfl), trivial⟩, ⟨trivial, (z_sm0C 0 (by decide) rfl rfl), trivial, trivial, trivial, trivial, trivial, trivial⟩⟩ (z_Ln.lv (z_le.cons rfl rfl (z_le.cons rfl rfl (z_le.cons rfl rfl (z_le.cons rfl rfl (z_le.cons rfl rfl (z_le.cons rfl rfl (z_le.cons rfl rfl z_le.nil))))))) kk))
set_option maxRecDepth 10000 in
theorem e124_101x {L : Nat} {xs : Nat → Int32} {fv : Value} {f w : Nat} {c : Nat × Nat} {T' : z_Y} {A : Nat → List (Nat × Int32)} {E : List (Nat × Option Nat)} {N : Nat → Nat} {V : Nat → Nat → Int32} {W : Nat} {g : List z_E} {x1 : Int32} {x2 : Int32} {x3 : Int32} {x4 : Int32} {x5 : Int32} {y0 : Int32} (h1 : z_in x5 (N 18) = true) (h2 : z_in (x4 + 3) (N 39) = true) (h3 : z_in (x4 + 4) (N 39) = true) (h4 : z_in ((x4 + 4) + 1) (N 39) = true) (hRm : z_Rm (hC (z_u A 39 ((((x4 + 4) + 1).toNatClampNeg, y0) :: ((x4 + 4).toNatClampNeg, x3) :: ((x4 + 3).toNatClampNeg, ((-1))) :: A 39)) E N (z_v (z_v V 38 3 (x4)) 38 2 ((x4 + 4) + (z_fn 0 (A 18) x5.toNatClampNeg))) W ++ g, c)) (hf : 1 ≤ f) (hw : 19 + z_pg.2.1 126 ≤ w) (hc : z_Ln L xs fv (f - 1) (w - (19 + z_pg.2.1 126)) 126 0 [(0, .ref 145), (1, .int x5), (2, .int x1)] [] (hC (z_u A 39 ((((x4 + 4) + 1).toNatClampNeg, y0) :: ((x4 + 4).toNatClampNeg, x3) :: ((x4 + 3).toNatClampNeg, ((-1))) :: A 39)) E N (z_v (z_v V 38 3 (x4)) 38 2 ((x4 + 4) + (z_fn 0 (A 18) x5.toNatClampNeg))) W ++ g, c) (.inr 10) T') : z_Ln L xs fv f w 124 101 [(0, .ref 145), (1, .int x1), (2, .int x2), (3, .int x3), (4, .int x4), (5, .int x5)] [.int y0] (hC A E N V W ++ g, c) (.inr 10) T' := z_Ln.blk (pc' := 172) (lv' := [(6, .int y0), (0, .ref 145), (1, .int x1), (2, .int x2), (3, .int x3), (4, .int x4), (5, .int x5)]) (st' := [.int x1, .int x5, .ref 145, .ref 145]) (H' := hC (z_u A 39 ((((x4 + 4) + 1).toNatClampNeg, y0) :: ((x4 + 4).toNatClampNeg, x3) :: ((x4 + 3).toNatClampNeg, ((-1))) :: A 39)) E N (z_v (z_v V 38 3 (x4)) 38 2 ((x4 + 4) + (z_fn 0 (A 18) x5.toNatClampNeg))) W ++ g) (C := [z_fit (z_fty 8 3) (.int x4) = true, z_in x5 (N 18) = true, z_fit (z_fty 8 2) (.int ((x4 + 4) + (z_fn 0 (A 18) x5.toNatClampNeg))) = true, z_in (x4 + 3) (N 39) = true, z_in (x4 + 4) (N 39) = true, z_in ((x4 + 4) + 1) (N 39) = true]) 61 45 rfl ⟨z_fitI, h1, z_fitI, h2, h3, h4⟩ (z_Ln.past (s := 0) (mj := 126) (as := [.ref 145, .int x5, .int x1]) (rr := [.ref 145]) rfl rfl ⟨⟨hf, hw⟩, (by decide : (1 : Nat) ≤ 8), (by decide +kernel : (3 : Nat) ≤ z_pg.2.1 126)⟩ hRm hc rfl)
set_option maxRecDepth 10000 in
theorem e124_175 {L : Nat} {xs : Nat → Int32} {fv : Value} {f w : Nat} {c : Nat × Nat} {o : z_V} {T' : z_Y} {A : Nat → List (Nat × Int32)} {E : List (Nat × Option Nat)} {N : Nat → Nat} {V : Nat → Nat → Int32} {W : Nat} {g : List z_E} {x1 : Int32} {x2 : Int32} {x3 : Int32} {x4 : Int32} {x5 : Int32} {x6 : Int32} {y0 : Int32}  (kk : z_Ln L xs fv f w 124 180 [(0, .ref 145), (1, .int x1), (2, .int x2)] [] (hC A E N (z_v V 38 6 (y0 + 1)) W ++ g, c) o T') : z_Ln L xs fv f w 124 175 [(0, .ref 145), (1, .int x1), (2, .int x2), (3, .int x3), (4, .int x4), (5, .int x5), (6, .int x6)] [.int y0, .ref 145] (hC A E N V W ++ g, c) o T' := z_Ln.blk (pc' := 180) (lv' := [(0, .ref 145), (1, .int x1), (2, .int x2), (3, .int x3), (4, .int x4), (5, .int x5), (6, .int x6)]) (st' := []) (H' := hC A E N (z_v V 38 6 (y0 + 1)) W ++ g) (C := [z_fit (z_fty 8 6) (.int (y0 + 1)) = true]) 107 3 rfl z_fitI (z_Ln.lv (z_le.cons rfl rfl (z_le.cons rfl rfl (z_le.cons rfl rfl z_le.nil))) kk)
set_option maxRecDepth 10000 in
theorem e124_180 {L : Nat} {xs : Nat → Int32} {fv : Value} {f w : Nat} {c : Nat × Nat} {A : Nat → List (Nat × Int32)} {E : List (Nat × Option Nat)} {N : Nat → Nat} {V : Nat → Nat → Int32} {W : Nat} {g : List z_E} {x1 : Int32} {x2 : Int32}  : z_Ln L xs fv f w 124 180 [(0, .ref 145), (1, .int x1), (2, .int x2)] [] (hC A E N V W ++ g, c) (.inl none) (hC A E N V W ++ g, c) := z_Ln.ret rfl rfl
def p124_180 (l : Nat) (A : Nat → List (Nat × Int32)) (E : List (Nat × Option Nat)) (N : Nat → Nat) (V : Nat → Nat → Int32) (W : Nat) (c : Nat × Nat) (x1 : Int32) (x2 : Int32) (Q : z_V → z_CS → Prop) : Prop := Q (.inl (none)) (A, E, N, V, W, c)
set_option maxRecDepth 10000 in
theorem t124_180 {l : Nat} {A : Nat → List (Nat × Int32)} {E : List (Nat × Option Nat)} {N : Nat → Nat} {V : Nat → Nat → Int32} {W : Nat} {c : Nat × Nat} {x1 : Int32} {x2 : Int32} {Q : z_V → z_CS → Prop} (h : p124_180 l A E N V W c x1 x2 Q) : z_WC (l + 1) 124 180 [(0, .ref 145), (1, .int x1), (2, .int x2)] [] (A, E, N, V, W, c) Q := by
  unfold p124_180 at h
  exact ⟨(.inl (none)), (A, E, N, V, W, c), fun _ _ _ _ _ _ hg hl => e124_180 , h⟩
def p124_175 (l : Nat) (A : Nat → List (Nat × Int32)) (E : List (Nat × Option Nat)) (N : Nat → Nat) (V : Nat → Nat → Int32) (W : Nat) (c : Nat × Nat) (x1 : Int32) (x2 : Int32) (x3 : Int32) (x4 : Int32) (x5 : Int32) (x6 : Int32) (y0 : Int32) (Q : z_V → z_CS → Prop) : Prop := p124_180 l A E N (z_v V 38 6 (y0 + 1)) W c x1 x2 Q
set_option maxRecDepth 10000 in
theorem t124_175 {l : Nat} {A : Nat → List (Nat × Int32)} {E : List (Nat × Option Nat)} {N : Nat → Nat} {V : Nat → Nat → Int32} {W : Nat} {c : Nat × Nat} {x1 : Int32} {x2 : Int32} {x3 : Int32} {x4 : Int32} {x5 : Int32} {x6 : Int32} {y0 : Int32} {Q : z_V → z_CS → Prop} (h : p124_175 l A E N V W c x1 x2 x3 x4 x5 x6 y0 Q) : z_WC (l + 1) 124 175 [(0, .ref 145), (1, .int x1), (2, .int x2), (3, .int x3), (4, .int x4), (5, .int x5), (6, .int x6)] [.int y0, .ref 145] (A, E, N, V, W, c) Q := by
  unfold p124_175 at h
  exact z_WC.blk (t124_180 h) (fun _ _ _ _ _ _ _ _ hg hl k => e124_175  k)
def p124_101 (l : Nat) (A : Nat → List (Nat × Int32)) (E : List (Nat × Option Nat)) (N : Nat → Nat) (V : Nat → Nat → Int32) (W : Nat) (c : Nat × Nat) (x1 : Int32) (x2 : Int32) (x3 : Int32) (x4 : Int32) (x5 : Int32) (y0 : Int32) (Q : z_V → z_CS → Prop) : Prop := z_in x5 (N 18) = true ∧ z_in (x4 + 3) (N 39) = true ∧ z_in (x4 + 4) (N 39) = true ∧ z_in ((x4 + 4) + 1) (N 39) = true ∧ z_Rm ([], c) ∧ z_WC l 126 0 [(0, .ref 145), (1, .int x5), (2, .int x1)] [] ((z_u A 39 ((((x4 + 4) + 1).toNatClampNeg, y0) :: ((x4 + 4).toNatClampNeg, x3) :: ((x4 + 3).toNatClampNeg, ((-1))) :: A 39)), E, N, (z_v (z_v V 38 3 (x4)) 38 2 ((x4 + 4) + (z_fn 0 (A 18) x5.toNatClampNeg))), W, c) (z_cx Q (fun x S1 => ∃ v : Int32, x = some (.int v) ∧ p124_175 l S1.1 S1.2.1 S1.2.2.1 S1.2.2.2.1 S1.2.2.2.2.1 S1.2.2.2.2.2 x1 x2 x3 x4 x5 y0 v Q))
set_option maxRecDepth 10000 in
theorem t124_101 {l : Nat} {A : Nat → List (Nat × Int32)} {E : List (Nat × Option Nat)} {N : Nat → Nat} {V : Nat → Nat → Int32} {W : Nat} {c : Nat × Nat} {x1 : Int32} {x2 : Int32} {x3 : Int32} {x4 : Int32} {x5 : Int32} {y0 : Int32} {Q : z_V → z_CS → Prop} (h : p124_101 l A E N V W c x1 x2 x3 x4 x5 y0 Q) : z_WC (l + 1) 124 101 [(0, .ref 145), (1, .int x1), (2, .int x2), (3, .int x3), (4, .int x4), (5, .int x5)] [.int y0] (A, E, N, V, W, c) Q := by
  unfold p124_101 at h
  obtain ⟨h1, h2, h3, h4, hm, h⟩ := h
  obtain ⟨o, S1, hc, h⟩ := h
  cases o with
  | inl x =>
    obtain ⟨v, rfl, h⟩ := h
    obtain ⟨o2, S2, hk, hQ⟩ := t124_175 h
    exact ⟨o2, S2, fun L xs fv f w g hg hl => e124_101 h1 h2 h3 h4  hm hl.f1 (hl.w1 126 (by decide)) (hc L xs fv _ _ g hg (hl.dn 126 (by decide))) (hk L xs fv f w g hg hl), hQ⟩
  | inr e =>
    obtain ⟨rfl, h⟩ := h
    exact ⟨_, S1, fun L xs fv f w g hg hl => e124_101x h1 h2 h3 h4 hm hl.f1 (hl.w1 126 (by decide)) (hc L xs fv _ _ g hg (hl.dn 126 (by decide))), h⟩
def p124_81 (l : Nat) (A : Nat → List (Nat × Int32)) (E : List (Nat × Option Nat)) (N : Nat → Nat) (V : Nat → Nat → Int32) (W : Nat) (c : Nat × Nat) (x1 : Int32) (x2 : Int32) (x3 : Int32) (y0 : Int32) (Q : z_V → z_CS → Prop) : Prop := z_in (y0 + 3) (N 39) = true ∧ z_Rm ([], c) ∧ z_WC l 128 0 [(0, .ref 145), (1, .int y0), (2, .int x2)] [] (A, E, N, V, W, c) (z_cx Q (fun x S1 => ∃ v : Int32, x = some (.int v) ∧ p124_101 l S1.1 S1.2.1 S1.2.2.1 S1.2.2.2.1 S1.2.2.2.2.1 S1.2.2.2.2.2 x1 x2 x3 y0 (z_fn 0 (A 39) (y0 + 3).toNatClampNeg) v Q))
set_option maxRecDepth 10000 in
theorem t124_81 {l : Nat} {A : Nat → List (Nat × Int32)} {E : List (Nat × Option Nat)} {N : Nat → Nat} {V : Nat → Nat → Int32} {W : Nat} {c : Nat × Nat} {x1 : Int32} {x2 : Int32} {x3 : Int32} {y0 : Int32} {Q : z_V → z_CS → Prop} (h : p124_81 l A E N V W c x1 x2 x3 y0 Q) : z_WC (l + 1) 124 81 [(0, .ref 145), (1, .int x1), (2, .int x2), (3, .int x3)] [.int y0] (A, E, N, V, W, c) Q := by
  unfold p124_81 at h
  obtain ⟨h1, hm, h⟩ := h
  obtain ⟨o, S1, hc, h⟩ := h
  cases o with
  | inl x =>
    obtain ⟨v, rfl, h⟩ := h
    obtain ⟨o2, S2, hk, hQ⟩ := t124_101 h
    exact ⟨o2, S2, fun L xs fv f w g hg hl => e124_81 h1  hm hl.f1 (hl.w1 128 (by decide)) (hc L xs fv _ _ g hg (hl.dn 128 (by decide))) (hk L xs fv f w g hg hl), hQ⟩
  | inr e =>
    obtain ⟨rfl, h⟩ := h
    exact ⟨_, S1, fun L xs fv f w g hg hl => e124_81x h1 hm hl.f1 (hl.w1 128 (by decide)) (hc L xs fv _ _ g hg (hl.dn 128 (by decide))), h⟩
def p124_73 (l : Nat) (A : Nat → List (Nat × Int32)) (E : List (Nat × Option Nat)) (N : Nat → Nat) (V : Nat → Nat → Int32) (W : Nat) (c : Nat × Nat) (x1 : Int32) (x2 : Int32) (y0 : Int32) (Q : z_V → z_CS → Prop) : Prop := z_Rm ([], c) ∧ z_WC l 127 0 [(0, .ref 145), (1, .int (x2 - 1))] [] (A, E, N, V, W, c) (z_cx Q (fun x S1 => ∃ v : Int32, x = some (.int v) ∧ p124_81 l S1.1 S1.2.1 S1.2.2.1 S1.2.2.2.1 S1.2.2.2.2.1 S1.2.2.2.2.2 x1 x2 y0 v Q))
set_option maxRecDepth 10000 in
theorem t124_73 {l : Nat} {A : Nat → List (Nat × Int32)} {E : List (Nat × Option Nat)} {N : Nat → Nat} {V : Nat → Nat → Int32} {W : Nat} {c : Nat × Nat} {x1 : Int32} {x2 : Int32} {y0 : Int32} {Q : z_V → z_CS → Prop} (h : p124_73 l A E N V W c x1 x2 y0 Q) : z_WC (l + 1) 124 73 [(0, .ref 145), (1, .int x1), (2, .int x2)] [.int y0] (A, E, N, V, W, c) Q := by
  unfold p124_73 at h
  obtain ⟨hm, h⟩ := h
  obtain ⟨o, S1, hc, h⟩ := h
  cases o with
  | inl x =>
    obtain ⟨v, rfl, h⟩ := h
    obtain ⟨o2, S2, hk, hQ⟩ := t124_81 h
    exact ⟨o2, S2, fun L xs fv f w g hg hl => e124_73   hm hl.f1 (hl.w1 127 (by decide)) (hc L xs fv _ _ g hg (hl.dn 127 (by decide))) (hk L xs fv f w g hg hl), hQ⟩
  | inr e =>
    obtain ⟨rfl, h⟩ := h
    exact ⟨_, S1, fun L xs fv f w g hg hl => e124_73x  hm hl.f1 (hl.w1 127 (by decide)) (hc L xs fv _ _ g hg (hl.dn 127 (by decide))), h⟩
def p124_45 (l : Nat) (A : Nat → List (Nat × Int32)) (E : List (Nat × Option Nat)) (N : Nat → Nat) (V : Nat → Nat → Int32) (W : Nat) (c : Nat × Nat) (x1 : Int32) (x2 : Int32) (Q : z_V → z_CS → Prop) : Prop := z_Rm ([], c) ∧ z_WC l 118 0 [(0, .ref 145)] [] (A, E, N, (z_v (z_v V 38 11 ((V 38 11) + (1 + x2))) 38 12 ((V 38 12) + (1 - x2))), W, c) (z_cx Q (fun x S1 => ∃ v : Int32, x = some (.int v) ∧ p124_73 l S1.1 S1.2.1 S1.2.2.1 S1.2.2.2.1 S1.2.2.2.2.1 S1.2.2.2.2.2 x1 x2 v Q))
set_option maxRecDepth 10000 in
theorem t124_45 {l : Nat} {A : Nat → List (Nat × Int32)} {E : List (Nat × Option Nat)} {N : Nat → Nat} {V : Nat → Nat → Int32} {W : Nat} {c : Nat × Nat} {x1 : Int32} {x2 : Int32} {Q : z_V → z_CS → Prop} (h : p124_45 l A E N V W c x1 x2 Q) : z_WC (l + 1) 124 45 [(0, .ref 145), (1, .int x1), (2, .int x2)] [] (A, E, N, V, W, c) Q := by
  unfold p124_45 at h
  obtain ⟨hm, h⟩ := h
  obtain ⟨o, S1, hc, h⟩ := h
  cases o with
  | inl x =>
    obtain ⟨v, rfl, h⟩ := h
    obtain ⟨o2, S2, hk, hQ⟩ := t124_73 h
    exact ⟨o2, S2, fun L xs fv f w g hg hl => e124_45   hm hl.f1 (hl.w1 118 (by decide)) (hc L xs fv _ _ g hg (hl.dn 118 (by decide))) (hk L xs fv f w g hg hl), hQ⟩
  | inr e =>
    obtain ⟨rfl, h⟩ := h
    exact ⟨_, S1, fun L xs fv f w g hg hl => e124_45x  hm hl.f1 (hl.w1 118 (by decide)) (hc L xs fv _ _ g hg (hl.dn 118 (by decide))), h⟩
def p124_37 (l : Nat) (A : Nat → List (Nat × Int32)) (E : List (Nat × Option Nat)) (N : Nat → Nat) (V : Nat → Nat → Int32) (W : Nat) (c : Nat × Nat) (x1 : Int32) (x2 : Int32) (Q : z_V → z_CS → Prop) : Prop := p124_180 l A E N (z_v V 38 7 (5)) W c x1 x2 Q
set_option maxRecDepth 10000 in
theorem t124_37 {l : Nat} {A : Nat → List (Nat × Int32)} {E : List (Nat × Option Nat)} {N : Nat → Nat} {V : Nat → Nat → Int32} {W : Nat} {c : Nat × Nat} {x1 : Int32} {x2 : Int32} {Q : z_V → z_CS → Prop} (h : p124_37 l A E N V W c x1 x2 Q) : z_WC (l + 1) 124 37 [(0, .ref 145), (1, .int x1), (2, .int x2)] [] (A, E, N, V, W, c) Q := by
  unfold p124_37 at h
  exact z_WC.blk (t124_180 h) (fun _ _ _ _ _ _ _ _ hg hl k => e124_37  k)
def p124_23 (l : Nat) (A : Nat → List (Nat × Int32)) (E : List (Nat × Option Nat)) (N : Nat → Nat) (V : Nat → Nat → Int32) (W : Nat) (c : Nat × Nat) (x1 : Int32) (x2 : Int32) (Q : z_V → z_CS → Prop) : Prop := (if (((V 38 11) + 1) + x2) ≤ 1000 then p124_45 l A E N V W c x1 x2 Q else p124_37 l A E N V W c x1 x2 Q)
set_option maxRecDepth 10000 in
theorem t124_23 {l : Nat} {A : Nat → List (Nat × Int32)} {E : List (Nat × Option Nat)} {N : Nat → Nat} {V : Nat → Nat → Int32} {W : Nat} {c : Nat × Nat} {x1 : Int32} {x2 : Int32} {Q : z_V → z_CS → Prop} (h : p124_23 l A E N V W c x1 x2 Q) : z_WC (l + 1) 124 23 [(0, .ref 145), (1, .int x1), (2, .int x2)] [] (A, E, N, V, W, c) Q := by
  unfold p124_23 at h
  by_cases hb : (((V 38 11) + 1) + x2) ≤ 1000
  · rw [if_pos hb] at h
    exact z_WC.blk (t124_45 h) (fun _ _ _ _ _ _ _ _ hg hl k => e124_23t  hb k)
  · rw [if_neg hb] at h
    exact z_WC.blk (t124_37 h) (fun _ _ _ _ _ _ _ _ hg hl k => e124_23f  hb k)
def p124_10 (l : Nat) (A : Nat → List (Nat × Int32)) (E : List (Nat × Option Nat)) (N : Nat → Nat) (V : Nat → Nat → Int32) (W : Nat) (c : Nat × Nat) (x1 : Int32) (x2 : Int32) (Q : z_V → z_CS → Prop) : Prop := p124_180 l A E N (z_v (z_v V 38 7 (4)) 38 9 (x1)) W c x1 x2 Q
set_option maxRecDepth 10000 in
theorem t124_10 {l : Nat} {A : Nat → List (Nat × Int32)} {E : List (Nat × Option Nat)} {N : Nat → Nat} {V : Nat → Nat → Int32} {W : Nat} {c : Nat × Nat} {x1 : Int32} {x2 : Int32} {Q : z_V → z_CS → Prop} (h : p124_10 l A E N V W c x1 x2 Q) : z_WC (l + 1) 124 10 [(0, .ref 145), (1, .int x1), (2, .int x2)] [] (A, E, N, V, W, c) Q := by
  unfold p124_10 at h
  exact z_WC.blk (t124_180 h) (fun _ _ _ _ _ _ _ _ hg hl k => e124_10  k)
def p124_5 (l : Nat) (A : Nat → List (Nat × Int32)) (E : List (Nat × Option Nat)) (N : Nat → Nat) (V : Nat → Nat → Int32) (W : Nat) (c : Nat × Nat) (x1 : Int32) (y0 : Int32) (Q : z_V → z_CS → Prop) : Prop := (if y0 = 0 then p124_10 l A E N V W c x1 y0 Q else p124_23 l A E N V W c x1 y0 Q)
set_option maxRecDepth 10000 in
theorem t124_5 {l : Nat} {A : Nat → List (Nat × Int32)} {E : List (Nat × Option Nat)} {N : Nat → Nat} {V : Nat → Nat → Int32} {W : Nat} {c : Nat × Nat} {x1 : Int32} {y0 : Int32} {Q : z_V → z_CS → Prop} (h : p124_5 l A E N V W c x1 y0 Q) : z_WC (l + 1) 124 5 [(0, .ref 145), (1, .int x1)] [.int y0] (A, E, N, V, W, c) Q := by
  unfold p124_5 at h
  by_cases hb : y0 = 0
  · rw [if_pos hb] at h
    exact z_WC.blk (t124_10 h) (fun _ _ _ _ _ _ _ _ hg hl k => e124_5f  (fun q => q hb) k)
  · rw [if_neg hb] at h
    exact z_WC.blk (t124_23 h) (fun _ _ _ _ _ _ _ _ hg hl k => e124_5t  hb k)
def p124_0 (l : Nat) (A : Nat → List (Nat × Int32)) (E : List (Nat × Option Nat)) (N : Nat → Nat) (V : Nat → Nat → Int32) (W : Nat) (c : Nat × Nat) (x1 : Int32) (Q : z_V → z_CS → Prop) : Prop := z_Rm ([], c) ∧ z_WC l 125 0 [(0, .ref 145), (1, .int x1)] [] (A, E, N, V, W, c) (z_cx Q (fun x S1 => ∃ v : Int32, x = some (.int v) ∧ p124_5 l S1.1 S1.2.1 S1.2.2.1 S1.2.2.2.1 S1.2.2.2.2.1 S1.2.2.2.2.2 x1 v Q))
set_option maxRecDepth 10000 in
theorem t124_0 {l : Nat} {A : Nat → List (Nat × Int32)} {E : List (Nat × Option Nat)} {N : Nat → Nat} {V : Nat → Nat → Int32} {W : Nat} {c : Nat × Nat} {x1 : Int32} {Q : z_V → z_CS → Prop} (h : p124_0 l A E N V W c x1 Q) : z_WC (l + 1) 124 0 [(0, .ref 145), (1, .int x1)] [] (A, E, N, V, W, c) Q := by
  unfold p124_0 at h
  obtain ⟨hm, h⟩ := h
  obtain ⟨o, S1, hc, h⟩ := h
  cases o with
  | inl x =>
    obtain ⟨v, rfl, h⟩ := h
    obtain ⟨o2, S2, hk, hQ⟩ := t124_5 h
    exact ⟨o2, S2, fun L xs fv f w g hg hl => e124_0   hm hl.f1 (hl.w1 125 (by decide)) (hc L xs fv _ _ g hg (hl.dn 125 (by decide))) (hk L xs fv f w g hg hl), hQ⟩
  | inr e =>
    obtain ⟨rfl, h⟩ := h
    exact ⟨_, S1, fun L xs fv f w g hg hl => e124_0x  hm hl.f1 (hl.w1 125 (by decide)) (hc L xs fv _ _ g hg (hl.dn 125 (by decide))), h⟩
set_option maxRecDepth 10000 in
theorem e130_0 {L : Nat} {xs : Nat → Int32} {fv : Value} {f w : Nat} {c : Nat × Nat} {o : z_V} {T' : z_Y} {A : Nat → List (Nat × Int32)} {E : List (Nat × Option Nat)} {N : Nat → Nat} {V : Nat → Nat → Int32} {W : Nat} {g : List z_E} {A1 : Nat → List (Nat × Int32)} {E1 : List (Nat × Option Nat)} {N1 : Nat → Nat} {V1 : Nat → Nat → Int32} {W1 : Nat} {g1 : List z_E} {c1 : Nat × Nat} {v : Int32} (h1 : z_in (V 38 6) (N 15) = true)  (hRm : z_Rm (hC A E N V W ++ g, c)) (hf : 1 ≤ f) (hw : 19 + z_pg.2.1 110 ≤ w) (hc : z_Ln L xs fv (f - 1) (w - (19 + z_pg.2.1 110)) 110 0 [(0, .ref 145), (1, .int (V 38 6)), (2, .int (1 + (z_fn 0 (A 15) (V 38 6).toNatClampNeg)))] [] (hC A E N V W ++ g, c) (.inl (some (.int v))) (hC A1 E1 N1 V1 W1 ++ g1, c1)) (kk : z_Ln L xs fv f w 130 24 [(0, .ref 145), (1, .int (z_fn 0 (A 15) (V 38 6).toNatClampNeg))] [.int v] (hC A1 E1 N1 V1 W1 ++ g1, c1) o T') : z_Ln L xs fv f w 130 0 [(0, .ref 145)] [] (hC A E N V W ++ g, c) o T' := z_Ln.blk (pc' := 21) (lv' := [(1, .int (z_fn 0 (A 15) (V 38 6).toNatClampNeg)), (0, .ref 145)]) (st' := [.int (1 + (z_fn 0 (A 15) (V 38 6).toNatClampNeg)), .int (V 38 6), .ref 145]) (H' := hC A E N V W ++ g) (C := [z_in (V 38 6) (N 15) = true]) 0 13 rfl h1 (z_Ln.call (s := 0) (mj := 110) (as := [.ref 145, .int (V 38 6), .int (1 + (z_fn 0 (A 15) (V 38 6).toNatClampNeg))]) (rr := []) (v := some (.int v)) (T1 := (hC A1 E1 N1 V1 W1 ++ g1, c1)) rfl rfl ⟨⟨hf, hw⟩, (by decide : (0 : Nat) ≤ 8), (by decide +kernel : (3 : Nat) ≤ z_pg.2.1 110)⟩ hRm hc ⟨trivial, ⟨trivial, (z_sm0C 0 (by decide) rfl rfl), trivial⟩⟩ (z_Ln.lv (z_le.cons rfl rfl (z_le.cons rfl rfl z_le.nil)) kk))
set_option maxRecDepth 10000 in
theorem e130_0x {L : Nat} {xs : Nat → Int32} {fv : Value} {f w : Nat} {c : Nat × Nat} {T' : z_Y} {A : Nat → List (Nat × Int32)} {E : List (Nat × Option Nat)} {N : Nat → Nat} {V : Nat → Nat → Int32} {W : Nat} {g : List z_E} (h1 : z_in (V 38 6) (N 15) = true) (hRm : z_Rm (hC A E N V W ++ g, c)) (hf : 1 ≤ f) (hw : 19 + z_pg.2.1 110 ≤ w) (hc : z_Ln L xs fv (f - 1) (w - (19 + z_pg.2.1 110)) 110 0 [(0, .ref 145), (1, .int (V 38 6)), (2, .int (1 + (z_fn 0 (A 15) (V 38 6).toNatClampNeg)))] [] (hC A E N V W ++ g, c) (.inr 10) T') : z_Ln L xs fv f w 130 0 [(0, .ref 145)] [] (hC A E N V W ++ g, c) (.inr 10) T' := z_Ln.blk (pc' := 21) (lv' := [(1, .int (z_fn 0 (A 15) (V 38 6).toNatClampNeg)), (0, .ref 145)]) (st' := [.int (1 + (z_fn 0 (A 15) (V 38 6).toNatClampNeg)), .int (V 38 6), .ref 145]) (H' := hC A E N V W ++ g) (C := [z_in (V 38 6) (N 15) = true]) 0 13 rfl h1 (z_Ln.past (s := 0) (mj := 110) (as := [.ref 145, .int (V 38 6), .int (1 + (z_fn 0 (A 15) (V 38 6).toNatClampNeg))]) (rr := []) rfl rfl ⟨⟨hf, hw⟩, (by decide : (0 : Nat) ≤ 8), (by decide +kernel : (3 : Nat) ≤ z_pg.2.1 110)⟩ hRm hc rfl)
set_option maxRecDepth 10000 in
theorem e130_24 {L : Nat} {xs : Nat → Int32} {fv : Value} {f w : Nat} {c : Nat × Nat} {A : Nat → List (Nat × Int32)} {E : List (Nat × Option Nat)} {N : Nat → Nat} {V : Nat → Nat → Int32} {W : Nat} {g : List z_E} {x1 : Int32} {y0 : Int32} (h1 : z_in ((V 38 3) + 2) (N 39) = true) (h2 : z_in (z_fn 0 (A 39) ((V 38 3) + 2).toNatClampNeg) (N 40) = true) (h3 : z_in (z_fn 0 (A 40) (z_fn 0 (A 39) ((V 38 3) + 2).toNatClampNeg).toNatClampNeg) (N 15) = true) (hR0 : ((c.1 ≤ 601024 ∧ c.2 ≤ 7293034) ∧ 1 ≤ f ∧ 60 ≤ w)) (h5 : z_cpk .int 0 (N 40) (N 40) (A 40) ((z_fn 0 (A 39) ((V 38 3) + 2).toNatClampNeg) + 1) (y0 + 1) (z_fn 0 (A 15) (z_fn 0 (A 40) (z_fn 0 (A 39) ((V 38 3) + 2).toNatClampNeg).toNatClampNeg).toNatClampNeg) []) (h6 : z_cpk .int 0 (N 39) (N 40) (A 39) ((V 38 3) + 4) ((y0 + 1) + (z_fn 0 (A 15) (z_fn 0 (A 40) (z_fn 0 (A 39) ((V 38 3) + 2).toNatClampNeg).toNatClampNeg).toNatClampNeg)) (x1 - (z_fn 0 (A 15) (z_fn 0 (A 40) (z_fn 0 (A 39) ((V 38 3) + 2).toNatClampNeg).toNatClampNeg).toNatClampNeg)) []) : z_Ln L xs fv f w 130 24 [(0, .ref 145), (1, .int x1)] [.int y0] (hC A E N V W ++ g, c) (.inl (some (.int y0))) (hC (z_u A 40 (z_cpl (A 39) (z_cpl (A 40) (A 40) ((z_fn 0 (A 39) ((V 38 3) + 2).toNatClampNeg) + 1).toNatClampNeg (y0 + 1).toNatClampNeg (z_fn 0 (A 15) (z_fn 0 (A 40) (z_fn 0 (A 39) ((V 38 3) + 2).toNatClampNeg).toNatClampNeg).toNatClampNeg).toNatClampNeg) ((V 38 3) + 4).toNatClampNeg ((y0 + 1) + (z_fn 0 (A 15) (z_fn 0 (A 40) (z_fn 0 (A 39) ((V 38 3) + 2).toNatClampNeg).toNatClampNeg).toNatClampNeg)).toNatClampNeg (x1 - (z_fn 0 (A 15) (z_fn 0 (A 40) (z_fn 0 (A 39) ((V 38 3) + 2).toNatClampNeg).toNatClampNeg).toNatClampNeg)).toNatClampNeg)) E N V W ++ g, c) := z_Ln.blk (pc' := 100) (lv' := [(4, .int (z_fn 0 (A 15) (z_fn 0 (A 40) (z_fn 0 (A 39) ((V 38 3) + 2).toNatClampNeg).toNatClampNeg).toNatClampNeg)), (3, .int (z_fn 0 (A 39) ((V 38 3) + 2).toNatClampNeg)), (2, .int y0), (0, .ref 145), (1, .int x1)]) (st' := [.int y0]) (H' := hC (z_u A 40 (z_cpl (A 39) (z_cpl (A 40) (A 40) ((z_fn 0 (A 39) ((V 38 3) + 2).toNatClampNeg) + 1).toNatClampNeg (y0 + 1).toNatClampNeg (z_fn 0 (A 15) (z_fn 0 (A 40) (z_fn 0 (A 39) ((V 38 3) + 2).toNatClampNeg).toNatClampNeg).toNatClampNeg).toNatClampNeg) ((V 38 3) + 4).toNatClampNeg ((y0 + 1) + (z_fn 0 (A 15) (z_fn 0 (A 40) (z_fn 0 (A 39) ((V 38 3) + 2).toNatClampNeg).toNatClampNeg).toNatClampNeg)).toNatClampNeg (x1 - (z_fn 0 (A 15) (z_fn 0 (A 40) (z_fn 0 (A 39) ((V 38 3) + 2).toNatClampNeg).toNatClampNeg).toNatClampNeg)).toNatClampNeg)) E N V W ++ g) (C := [z_in ((V 38 3) + 2) (N 39) = true, z_in (z_fn 0 (A 39) ((V 38 3) + 2).toNatClampNeg) (N 40) = true, z_in (z_fn 0 (A 40) (z_fn 0 (A 39) ((V 38 3) + 2).toNatClampNeg).toNatClampNeg) (N 15) = true, ((c.1 ≤ 601024 ∧ c.2 ≤ 7293034) ∧ 1 ≤ f ∧ 60 ≤ w), z_cpk .int 0 (N 40) (N 40) (A 40) ((z_fn 0 (A 39) ((V 38 3) + 2).toNatClampNeg) + 1) (y0 + 1) (z_fn 0 (A 15) (z_fn 0 (A 40) (z_fn 0 (A 39) ((V 38 3) + 2).toNatClampNeg).toNatClampNeg).toNatClampNeg) [], ((c.1 ≤ 601024 ∧ c.2 ≤ 7293034) ∧ 1 ≤ f ∧ 60 ≤ w), z_cpk .int 0 (N 39) (N 40) (A 39) ((V 38 3) + 4) ((y0 + 1) + (z_fn 0 (A 15) (z_fn 0 (A 40) (z_fn 0 (A 39) ((V 38 3) + 2).toNatClampNeg).toNatClampNeg).toNatClampNeg)) (x1 - (z_fn 0 (A 15) (z_fn 0 (A 40) (z_fn 0 (A 39) ((V 38 3) + 2).toNatClampNeg).toNatClampNeg).toNatClampNeg)) []]) 14 48 rfl ⟨h1, h2, h3, hR0, h5, hR0, h6⟩ (z_Ln.ret rfl z_retI)
def p130_24 (l : Nat) (A : Nat → List (Nat × Int32)) (E : List (Nat × Option Nat)) (N : Nat → Nat) (V : Nat → Nat → Int32) (W : Nat) (c : Nat × Nat) (x1 : Int32) (y0 : Int32) (Q : z_V → z_CS → Prop) : Prop := z_in ((V 38 3) + 2) (N 39) = true ∧ z_in (z_fn 0 (A 39) ((V 38 3) + 2).toNatClampNeg) (N 40) = true ∧ z_in (z_fn 0 (A 40) (z_fn 0 (A 39) ((V 38 3) + 2).toNatClampNeg).toNatClampNeg) (N 15) = true ∧ z_cpk .int 0 (N 40) (N 40) (A 40) ((z_fn 0 (A 39) ((V 38 3) + 2).toNatClampNeg) + 1) (y0 + 1) (z_fn 0 (A 15) (z_fn 0 (A 40) (z_fn 0 (A 39) ((V 38 3) + 2).toNatClampNeg).toNatClampNeg).toNatClampNeg) [] ∧ z_cpk .int 0 (N 39) (N 40) (A 39) ((V 38 3) + 4) ((y0 + 1) + (z_fn 0 (A 15) (z_fn 0 (A 40) (z_fn 0 (A 39) ((V 38 3) + 2).toNatClampNeg).toNatClampNeg).toNatClampNeg)) (x1 - (z_fn 0 (A 15) (z_fn 0 (A 40) (z_fn 0 (A 39) ((V 38 3) + 2).toNatClampNeg).toNatClampNeg).toNatClampNeg)) [] ∧ z_Rm ([], c) ∧ Q (.inl (some (.int y0))) ((z_u A 40 (z_cpl (A 39) (z_cpl (A 40) (A 40) ((z_fn 0 (A 39) ((V 38 3) + 2).toNatClampNeg) + 1).toNatClampNeg (y0 + 1).toNatClampNeg (z_fn 0 (A 15) (z_fn 0 (A 40) (z_fn 0 (A 39) ((V 38 3) + 2).toNatClampNeg).toNatClampNeg).toNatClampNeg).toNatClampNeg) ((V 38 3) + 4).toNatClampNeg ((y0 + 1) + (z_fn 0 (A 15) (z_fn 0 (A 40) (z_fn 0 (A 39) ((V 38 3) + 2).toNatClampNeg).toNatClampNeg).toNatClampNeg)).toNatClampNeg (x1 - (z_fn 0 (A 15) (z_fn 0 (A 40) (z_fn 0 (A 39) ((V 38 3) + 2).toNatClampNeg).toNatClampNeg).toNatClampNeg)).toNatClampNeg)), E, N, V, W, c)
set_option maxRecDepth 10000 in
theorem t130_24 {l : Nat} {A : Nat → List (Nat × Int32)} {E : List (Nat × Option Nat)} {N : Nat → Nat} {V : Nat → Nat → Int32} {W : Nat} {c : Nat × Nat} {x1 : Int32} {y0 : Int32} {Q : z_V → z_CS → Prop} (h : p130_24 l A E N V W c x1 y0 Q) : z_WC (l + 1) 130 24 [(0, .ref 145), (1, .int x1)] [.int y0] (A, E, N, V, W, c) Q := by
  unfold p130_24 at h
  obtain ⟨h1, h2, h3, h4, h5, hm, h⟩ := h
  exact ⟨(.inl (some (.int y0))), ((z_u A 40 (z_cpl (A 39) (z_cpl (A 40) (A 40) ((z_fn 0 (A 39) ((V 38 3) + 2).toNatClampNeg) + 1).toNatClampNeg (y0 + 1).toNatClampNeg (z_fn 0 (A 15) (z_fn 0 (A 40) (z_fn 0 (A 39) ((V 38 3) + 2).toNatClampNeg).toNatClampNeg).toNatClampNeg).toNatClampNeg) ((V 38 3) + 4).toNatClampNeg ((y0 + 1) + (z_fn 0 (A 15) (z_fn 0 (A 40) (z_fn 0 (A 39) ((V 38 3) + 2).toNatClampNeg).toNatClampNeg).toNatClampNeg)).toNatClampNeg (x1 - (z_fn 0 (A 15) (z_fn 0 (A 40) (z_fn 0 (A 39) ((V 38 3) + 2).toNatClampNeg).toNatClampNeg).toNatClampNeg)).toNatClampNeg)), E, N, V, W, c), fun _ _ _ _ _ _ hg hl => e130_24 h1 h2 h3 (hl.r0 hm) h4 h5, h⟩
def p130_0 (l : Nat) (A : Nat → List (Nat × Int32)) (E : List (Nat × Option Nat)) (N : Nat → Nat) (V : Nat → Nat → Int32) (W : Nat) (c : Nat × Nat)  (Q : z_V → z_CS → Prop) : Prop := z_in (V 38 6) (N 15) = true ∧ z_Rm ([], c) ∧ z_WC l 110 0 [(0, .ref 145), (1, .int (V 38 6)), (2, .int (1 + (z_fn 0 (A 15) (V 38 6).toNatClampNeg)))] [] (A, E, N, V, W, c) (z_cx Q (fun x S1 => ∃ v : Int32, x = some (.int v) ∧ p130_24 l S1.1 S1.2.1 S1.2.2.1 S1.2.2.2.1 S1.2.2.2.2.1 S1.2.2.2.2.2 (z_fn 0 (A 15) (V 38 6).toNatClampNeg) v Q))
set_option maxRecDepth 10000 in
theorem t130_0 {l : Nat} {A : Nat → List (Nat × Int32)} {E : List (Nat × Option Nat)} {N : Nat → Nat} {V : Nat → Nat → Int32} {W : Nat} {c : Nat × Nat}  {Q : z_V → z_CS → Prop} (h : p130_0 l A E N V W c  Q) : z_WC (l + 1) 130 0 [(0, .ref 145)] [] (A, E, N, V, W, c) Q := by
  unfold p130_0 at h
  obtain ⟨h1, hm, h⟩ := h
  obtain ⟨o, S1, hc, h⟩ := h
  cases o with
  | inl x =>
    obtain ⟨v, rfl, h⟩ := h
    obtain ⟨o2, S2, hk, hQ⟩ := t130_24 h
    exact ⟨o2, S2, fun L xs fv f w g hg hl => e130_0 h1  hm hl.f1 (hl.w1 110 (by decide)) (hc L xs fv _ _ g hg (hl.dn 110 (by decide))) (hk L xs fv f w g hg hl), hQ⟩
  | inr e =>
    obtain ⟨rfl, h⟩ := h
    exact ⟨_, S1, fun L xs fv f w g hg hl => e130_0x h1 hm hl.f1 (hl.w1 110 (by decide)) (hc L xs fv _ _ g hg (hl.dn 110 (by decide))), h⟩
set_option maxRecDepth 10000 in
theorem e129_0t {L : Nat} {xs : Nat → Int32} {fv : Value} {f w : Nat} {c : Nat × Nat} {o : z_V} {T' : z_Y} {A : Nat → List (Nat × Int32)} {E : List (Nat × Option Nat)} {N : Nat → Nat} {V : Nat → Nat → Int32} {W : Nat} {g : List z_E}  (hb : ¬ (V 38 11) = 1000) (kk : z_Ln L xs fv f w 129 16 [(0, .ref 145)] [] (hC A E N V W ++ g, c) o T') : z_Ln L xs fv f w 129 0 [(0, .ref 145)] [] (hC A E N V W ++ g, c) o T' := z_Ln.blk (pc' := (if decide (¬ (V 38 11) = 1000) = true then 16 else 10)) (lv' := [(0, .ref 145)]) (st' := []) (H' := hC A E N V W ++ g) (C := []) 0 4 rfl trivial (z_Ln.brT (decide_eq_true hb) (kk))
set_option maxRecDepth 10000 in
theorem e129_0f {L : Nat} {xs : Nat → Int32} {fv : Value} {f w : Nat} {c : Nat × Nat} {o : z_V} {T' : z_Y} {A : Nat → List (Nat × Int32)} {E : List (Nat × Option Nat)} {N : Nat → Nat} {V : Nat → Nat → Int32} {W : Nat} {g : List z_E}  (hb : ¬ (¬ (V 38 11) = 1000)) (kk : z_Ln L xs fv f w 129 10 [(0, .ref 145)] [] (hC A E N V W ++ g, c) o T') : z_Ln L xs fv f w 129 0 [(0, .ref 145)] [] (hC A E N V W ++ g, c) o T' := z_Ln.blk (pc' := (if decide (¬ (V 38 11) = 1000) = true then 16 else 10)) (lv' := [(0, .ref 145)]) (st' := []) (H' := hC A E N V W ++ g) (C := []) 0 4 rfl trivial (z_Ln.brF (decide_eq_false hb) (kk))
set_option maxRecDepth 10000 in
theorem e129_10 {L : Nat} {xs : Nat → Int32} {fv : Value} {f w : Nat} {c : Nat × Nat} {A : Nat → List (Nat × Int32)} {E : List (Nat × Option Nat)} {N : Nat → Nat} {V : Nat → Nat → Int32} {W : Nat} {g : List z_E}  : z_Ln L xs fv f w 129 10 [(0, .ref 145)] [] (hC A E N V W ++ g, c) (.inl none) (hC A E N (z_v V 38 7 (5)) W ++ g, c) := z_Ln.blk (pc' := 15) (lv' := [(0, .ref 145)]) (st' := []) (H' := hC A E N (z_v V 38 7 (5)) W ++ g) (C := [z_fit (z_fty 8 7) (.int 5) = true]) 4 3 rfl z_fitI (z_Ln.ret rfl rfl)
set_option maxRecDepth 10000 in
theorem e129_16 {L : Nat} {xs : Nat → Int32} {fv : Value} {f w : Nat} {c : Nat × Nat} {o : z_V} {T' : z_Y} {A : Nat → List (Nat × Int32)} {E : List (Nat × Option Nat)} {N : Nat → Nat} {V : Nat → Nat → Int32} {W : Nat} {g : List z_E} {A1 : Nat → List (Nat × Int32)} {E1 : List (Nat × Option Nat)} {N1 : Nat → Nat} {V1 : Nat → Nat → Int32} {W1 : Nat} {g1 : List z_E} {c1 : Nat × Nat} {v : Int32}   (hRm : z_Rm (hC A E N (z_v V 38 11 ((V 38 11) + 1)) W ++ g, c)) (hf : 1 ≤ f) (hw : 19 + z_pg.2.1 130 ≤ w) (hc : z_Ln L xs fv (f - 1) (w - (19 + z_pg.2.1 130)) 130 0 [(0, .ref 145)] [] (hC A E N (z_v V 38 11 ((V 38 11) + 1)) W ++ g, c) (.inl (some (.int v))) (hC A1 E1 N1 V1 W1 ++ g1, c1)) (kk : z_Ln L xs fv f w 129 31 [(0, .ref 145)] [.int v, .ref 145] (hC A1 E1 N1 V1 W1 ++ g1, c1) o T') : z_Ln L xs fv f w 129 16 [(0, .ref 145)] [] (hC A E N V W ++ g, c) o T' := z_Ln.blk (pc' := 28) (lv' := [(0, .ref 145)]) (st' := [.ref 145, .ref 145]) (H' := hC A E N (z_v V 38 11 ((V 38 11) + 1)) W ++ g) (C := [z_fit (z_fty 8 11) (.int ((V 38 11) + 1)) = true]) 8 8 rfl z_fitI (z_Ln.call (s := 0) (mj := 130) (as := [.ref 145]) (rr := [.ref 145]) (v := some (.int v)) (T1 := (hC A1 E1 N1 V1 W1 ++ g1, c1)) rfl rfl ⟨⟨hf, hw⟩, (by decide : (1 : Nat) ≤ 8), (by decide +kernel : (1 : Nat) ≤ z_pg.2.1 130)⟩ hRm hc ⟨⟨(z_sm0C 0 (by decide) rfl rfl), trivial⟩, ⟨(z_sm0C 0 (by decide) rfl rfl), trivial⟩⟩ (kk))
set_option maxRecDepth 10000 in
theorem e129_16x {L : Nat} {xs : Nat → Int32} {fv : Value} {f w : Nat} {c : Nat × Nat} {T' : z_Y} {A : Nat → List (Nat × Int32)} {E : List (Nat × Option Nat)} {N : Nat → Nat} {V : Nat → Nat → Int32} {W : Nat} {g : List z_E}  (hRm : z_Rm (hC A E N (z_v V 38 11 ((V 38 11) + 1)) W ++ g, c)) (hf : 1 ≤ f) (hw : 19 + z_pg.2.1 130 ≤ w) (hc : z_Ln L xs fv (f - 1) (w - (19 + z_pg.2.1 130)) 130 0 [(0, .ref 145)] [] (hC A E N (z_v V 38 11 ((V 38 11) + 1)) W ++ g, c) (.inr 10) T') : z_Ln L xs fv f w 129 16 [(0, .ref 145)] [] (hC A E N V W ++ g, c) (.inr 10) T' := z_Ln.blk (pc' := 28) (lv' := [(0, .ref 145)]) (st' := [.ref 145, .ref 145]) (H' := hC A E N (z_v V 38 11 ((V 38 11) + 1)) W ++ g) (C := [z_fit (z_fty 8 11) (.int ((V 38 11) + 1)) = true]) 8 8 rfl z_fitI (z_Ln.past (s := 0) (mj := 130) (as := [.ref 145]) (rr := [.ref 145]) rfl rfl ⟨⟨hf, hw⟩, (by decide : (1 : Nat) ≤ 8), (by decide +kernel : (1 : Nat) ≤ z_pg.2.1 130)⟩ hRm hc rfl)
set_option maxRecDepth 10000 in
theorem e129_31 {L : Nat} {xs : Nat → Int32} {fv : Value} {f w : Nat} {c : Nat × Nat} {o : z_V} {T' : z_Y} {A : Nat → List (Nat × Int32)} {E : List (Nat × Option Nat)} {N : Nat → Nat} {V : Nat → Nat → Int32} {W : Nat} {g : List z_E} {y0 : Int32} {A1 : Nat → List (Nat × Int32)} {E1 : List (Nat × Option Nat)} {N1 : Nat → Nat} {V1 : Nat → Nat → Int32} {W1 : Nat} {g1 : List z_E} {c1 : Nat × Nat}   (hRm : z_Rm (hC A E N V W ++ g, c)) (hf : 1 ≤ f) (hw : 19 + z_pg.2.1 117 ≤ w) (hc : z_Ln L xs fv (f - 1) (w - (19 + z_pg.2.1 117)) 117 0 [(0, .ref 145), (1, .int y0)] [] (hC A E N V W ++ g, c) (.inl (none)) (hC A1 E1 N1 V1 W1 ++ g1, c1)) (kk : z_Ln L xs fv f w 129 34 [(0, .ref 145)] [] (hC A1 E1 N1 V1 W1 ++ g1, c1) o T') : z_Ln L xs fv f w 129 31 [(0, .ref 145)] [.int y0, .ref 145] (hC A E N V W ++ g, c) o T' := z_Ln.call (s := 0) (mj := 117) (as := [.ref 145, .int y0]) (rr := []) (v := none) (T1 := (hC A1 E1 N1 V1 W1 ++ g1, c1)) rfl rfl ⟨⟨hf, hw⟩, (by decide : (0 : Nat) ≤ 8), (by decide +kernel : (2 : Nat) ≤ z_pg.2.1 117)⟩ hRm hc ⟨trivial, ⟨(z_sm0C 0 (by decide) rfl rfl), trivial⟩⟩ (kk)
set_option maxRecDepth 10000 in
theorem e129_31x {L : Nat} {xs : Nat → Int32} {fv : Value} {f w : Nat} {c : Nat × Nat} {T' : z_Y} {A : Nat → List (Nat × Int32)} {E : List (Nat × Option Nat)} {N : Nat → Nat} {V : Nat → Nat → Int32} {W : Nat} {g : List z_E} {y0 : Int32}  (hRm : z_Rm (hC A E N V W ++ g, c)) (hf : 1 ≤ f) (hw : 19 + z_pg.2.1 117 ≤ w) (hc : z_Ln L xs fv (f - 1) (w - (19 + z_pg.2.1 117)) 117 0 [(0, .ref 145), (1, .int y0)] [] (hC A E N V W ++ g, c) (.inr 10) T') : z_Ln L xs fv f w 129 31 [(0, .ref 145)] [.int y0, .ref 145] (hC A E N V W ++ g, c) (.inr 10) T' := z_Ln.past (s := 0) (mj := 117) (as := [.ref 145, .int y0]) (rr := []) rfl rfl ⟨⟨hf, hw⟩, (by decide : (0 : Nat) ≤ 8), (by decide +kernel : (2 : Nat) ≤ z_pg.2.1 117)⟩ hRm hc rfl
set_option maxRecDepth 10000 in
theorem e129_34 {L : Nat} {xs : Nat → Int32} {fv : Value} {f w : Nat} {c : Nat × Nat} {A : Nat → List (Nat × Int32)} {E : List (Nat × Option Nat)} {N : Nat → Nat} {V : Nat → Nat → Int32} {W : Nat} {g : List z_E} (h1 : z_in (V 38 6) (N 17) = true) : z_Ln L xs fv f w 129 34 [(0, .ref 145)] [] (hC A E N V W ++ g, c) (.inl none) (hC A E N (z_v V 38 6 ((z_fn 0 (A 17) (V 38 6).toNatClampNeg) + 1)) W ++ g, c) := z_Ln.blk (pc' := 52) (lv' := [(0, .ref 145)]) (st' := []) (H' := hC A E N (z_v V 38 6 ((z_fn 0 (A 17) (V 38 6).toNatClampNeg) + 1)) W ++ g) (C := [z_in (V 38 6) (N 17) = true, z_fit (z_fty 8 6) (.int ((z_fn 0 (A 17) (V 38 6).toNatClampNeg) + 1)) = true]) 18 10 rfl ⟨h1, z_fitI⟩ (z_Ln.ret rfl rfl)
def p129_34 (l : Nat) (A : Nat → List (Nat × Int32)) (E : List (Nat × Option Nat)) (N : Nat → Nat) (V : Nat → Nat → Int32) (W : Nat) (c : Nat × Nat)  (Q : z_V → z_CS → Prop) : Prop := z_in (V 38 6) (N 17) = true ∧ Q (.inl (none)) (A, E, N, (z_v V 38 6 ((z_fn 0 (A 17) (V 38 6).toNatClampNeg) + 1)), W, c)
set_option maxRecDepth 10000 in
theorem t129_34 {l : Nat} {A : Nat → List (Nat × Int32)} {E : List (Nat × Option Nat)} {N : Nat → Nat} {V : Nat → Nat → Int32} {W : Nat} {c : Nat × Nat}  {Q : z_V → z_CS → Prop} (h : p129_34 l A E N V W c  Q) : z_WC (l + 1) 129 34 [(0, .ref 145)] [] (A, E, N, V, W, c) Q := by
  unfold p129_34 at h
  obtain ⟨h1, h⟩ := h
  exact ⟨(.inl (none)), (A, E, N, (z_v V 38 6 ((z_fn 0 (A 17) (V 38 6).toNatClampNeg) + 1)), W, c), fun _ _ _ _ _ _ hg hl => e129_34 h1, h⟩
def p129_31 (l : Nat) (A : Nat → List (Nat × Int32)) (E : List (Nat × Option Nat)) (N : Nat → Nat) (V : Nat → Nat → Int32) (W : Nat) (c : Nat × Nat) (y0 : Int32) (Q : z_V → z_CS → Prop) : Prop := z_Rm ([], c) ∧ z_WC l 117 0 [(0, .ref 145), (1, .int y0)] [] (A, E, N, V, W, c) (z_cx Q (fun x S1 => x = none ∧ p129_34 l S1.1 S1.2.1 S1.2.2.1 S1.2.2.2.1 S1.2.2.2.2.1 S1.2.2.2.2.2  Q))
set_option maxRecDepth 10000 in
theorem t129_31 {l : Nat} {A : Nat → List (Nat × Int32)} {E : List (Nat × Option Nat)} {N : Nat → Nat} {V : Nat → Nat → Int32} {W : Nat} {c : Nat × Nat} {y0 : Int32} {Q : z_V → z_CS → Prop} (h : p129_31 l A E N V W c y0 Q) : z_WC (l + 1) 129 31 [(0, .ref 145)] [.int y0, .ref 145] (A, E, N, V, W, c) Q := by
  unfold p129_31 at h
  obtain ⟨hm, h⟩ := h
  obtain ⟨o, S1, hc, h⟩ := h
  cases o with
  | inl x =>
    obtain ⟨rfl, h⟩ := h
    obtain ⟨o2, S2, hk, hQ⟩ := t129_34 h
    exact ⟨o2, S2, fun L xs fv f w g hg hl => e129_31   hm hl.f1 (hl.w1 117 (by decide)) (hc L xs fv _ _ g hg (hl.dn 117 (by decide))) (hk L xs fv f w g hg hl), hQ⟩
  | inr e =>
    obtain ⟨rfl, h⟩ := h
    exact ⟨_, S1, fun L xs fv f w g hg hl => e129_31x  hm hl.f1 (hl.w1 117 (by decide)) (hc L xs fv _ _ g hg (hl.dn 117 (by decide))), h⟩
def p129_16 (l : Nat) (A : Nat → List (Nat × Int32)) (E : List (Nat × Option Nat)) (N : Nat → Nat) (V : Nat → Nat → Int32) (W : Nat) (c : Nat × Nat)  (Q : z_V → z_CS → Prop) : Prop := z_Rm ([], c) ∧ z_WC l 130 0 [(0, .ref 145)] [] (A, E, N, (z_v V 38 11 ((V 38 11) + 1)), W, c) (z_cx Q (fun x S1 => ∃ v : Int32, x = some (.int v) ∧ p129_31 l S1.1 S1.2.1 S1.2.2.1 S1.2.2.2.1 S1.2.2.2.2.1 S1.2.2.2.2.2 v Q))
set_option maxRecDepth 10000 in
theorem t129_16 {l : Nat} {A : Nat → List (Nat × Int32)} {E : List (Nat × Option Nat)} {N : Nat → Nat} {V : Nat → Nat → Int32} {W : Nat} {c : Nat × Nat}  {Q : z_V → z_CS → Prop} (h : p129_16 l A E N V W c  Q) : z_WC (l + 1) 129 16 [(0, .ref 145)] [] (A, E, N, V, W, c) Q := by
  unfold p129_16 at h
  obtain ⟨hm, h⟩ := h
  obtain ⟨o, S1, hc, h⟩ := h
  cases o with
  | inl x =>
    obtain ⟨v, rfl, h⟩ := h
    obtain ⟨o2, S2, hk, hQ⟩ := t129_31 h
    exact ⟨o2, S2, fun L xs fv f w g hg hl => e129_16   hm hl.f1 (hl.w1 130 (by decide)) (hc L xs fv _ _ g hg (hl.dn 130 (by decide))) (hk L xs fv f w g hg hl), hQ⟩
  | inr e =>
    obtain ⟨rfl, h⟩ := h
    exact ⟨_, S1, fun L xs fv f w g hg hl => e129_16x  hm hl.f1 (hl.w1 130 (by decide)) (hc L xs fv _ _ g hg (hl.dn 130 (by decide))), h⟩
def p129_10 (l : Nat) (A : Nat → List (Nat × Int32)) (E : List (Nat × Option Nat)) (N : Nat → Nat) (V : Nat → Nat → Int32) (W : Nat) (c : Nat × Nat)  (Q : z_V → z_CS → Prop) : Prop := Q (.inl (none)) (A, E, N, (z_v V 38 7 (5)), W, c)
set_option maxRecDepth 10000 in
theorem t129_10 {l : Nat} {A : Nat → List (Nat × Int32)} {E : List (Nat × Option Nat)} {N : Nat → Nat} {V : Nat → Nat → Int32} {W : Nat} {c : Nat × Nat}  {Q : z_V → z_CS → Prop} (h : p129_10 l A E N V W c  Q) : z_WC (l + 1) 129 10 [(0, .ref 145)] [] (A, E, N, V, W, c) Q := by
  unfold p129_10 at h
  exact ⟨(.inl (none)), (A, E, N, (z_v V 38 7 (5)), W, c), fun _ _ _ _ _ _ hg hl => e129_10 , h⟩
def p129_0 (l : Nat) (A : Nat → List (Nat × Int32)) (E : List (Nat × Option Nat)) (N : Nat → Nat) (V : Nat → Nat → Int32) (W : Nat) (c : Nat × Nat)  (Q : z_V → z_CS → Prop) : Prop := (if (V 38 11) = 1000 then p129_10 l A E N V W c  Q else p129_16 l A E N V W c  Q)
set_option maxRecDepth 10000 in
theorem t129_0 {l : Nat} {A : Nat → List (Nat × Int32)} {E : List (Nat × Option Nat)} {N : Nat → Nat} {V : Nat → Nat → Int32} {W : Nat} {c : Nat × Nat}  {Q : z_V → z_CS → Prop} (h : p129_0 l A E N V W c  Q) : z_WC (l + 1) 129 0 [(0, .ref 145)] [] (A, E, N, V, W, c) Q := by
  unfold p129_0 at h
  by_cases hb : (V 38 11) = 1000
  · rw [if_pos hb] at h
    exact z_WC.blk (t129_10 h) (fun _ _ _ _ _ _ _ _ hg hl k => e129_0f  (fun q => q hb) k)
  · rw [if_neg hb] at h
    exact z_WC.blk (t129_16 h) (fun _ _ _ _ _ _ _ _ hg hl k => e129_0t  hb k)
set_option maxRecDepth 10000 in
theorem e131_0t {L : Nat} {xs : Nat → Int32} {fv : Value} {f w : Nat} {c : Nat × Nat} {o : z_V} {T' : z_Y} {A : Nat → List (Nat × Int32)} {E : List (Nat × Option Nat)} {N : Nat → Nat} {V : Nat → Nat → Int32} {W : Nat} {g : List z_E}  (hb : ¬ (V 38 11) = 1000) (kk : z_Ln L xs fv f w 131 18 [(0, .ref 145)] [] (hC A E N V W ++ g, c) o T') : z_Ln L xs fv f w 131 0 [(0, .ref 145)] [] (hC A E N V W ++ g, c) o T' := z_Ln.blk (pc' := (if decide (¬ (V 38 11) = 1000) = true then 18 else 10)) (lv' := [(0, .ref 145)]) (st' := []) (H' := hC A E N V W ++ g) (C := []) 0 4 rfl trivial (z_Ln.brT (decide_eq_true hb) (kk))
set_option maxRecDepth 10000 in
theorem e131_0f {L : Nat} {xs : Nat → Int32} {fv : Value} {f w : Nat} {c : Nat × Nat} {o : z_V} {T' : z_Y} {A : Nat → List (Nat × Int32)} {E : List (Nat × Option Nat)} {N : Nat → Nat} {V : Nat → Nat → Int32} {W : Nat} {g : List z_E}  (hb : ¬ (¬ (V 38 11) = 1000)) (kk : z_Ln L xs fv f w 131 10 [(0, .ref 145)] [] (hC A E N V W ++ g, c) o T') : z_Ln L xs fv f w 131 0 [(0, .ref 145)] [] (hC A E N V W ++ g, c) o T' := z_Ln.blk (pc' := (if decide (¬ (V 38 11) = 1000) = true then 18 else 10)) (lv' := [(0, .ref 145)]) (st' := []) (H' := hC A E N V W ++ g) (C := []) 0 4 rfl trivial (z_Ln.brF (decide_eq_false hb) (kk))
set_option maxRecDepth 10000 in
theorem e131_10 {L : Nat} {xs : Nat → Int32} {fv : Value} {f w : Nat} {c : Nat × Nat} {o : z_V} {T' : z_Y} {A : Nat → List (Nat × Int32)} {E : List (Nat × Option Nat)} {N : Nat → Nat} {V : Nat → Nat → Int32} {W : Nat} {g : List z_E}  (kk : z_Ln L xs fv f w 131 103 [(0, .ref 145)] [] (hC A E N (z_v V 38 7 (5)) W ++ g, c) o T') : z_Ln L xs fv f w 131 10 [(0, .ref 145)] [] (hC A E N V W ++ g, c) o T' := z_Ln.blk (pc' := 103) (lv' := [(0, .ref 145)]) (st' := []) (H' := hC A E N (z_v V 38 7 (5)) W ++ g) (C := [z_fit (z_fty 8 7) (.int 5) = true]) 4 4 rfl z_fitI (kk)
set_option maxRecDepth 10000 in
theorem e131_18t {L : Nat} {xs : Nat → Int32} {fv : Value} {f w : Nat} {c : Nat × Nat} {o : z_V} {T' : z_Y} {A : Nat → List (Nat × Int32)} {E : List (Nat × Option Nat)} {N : Nat → Nat} {V : Nat → Nat → Int32} {W : Nat} {g : List z_E}  (hb : ¬ (V 38 12) = 400) (kk : z_Ln L xs fv f w 131 37 [(0, .ref 145)] [] (hC A E N V W ++ g, c) o T') : z_Ln L xs fv f w 131 18 [(0, .ref 145)] [] (hC A E N V W ++ g, c) o T' := z_Ln.blk (pc' := (if decide (¬ (V 38 12) = 400) = true then 37 else 28)) (lv' := [(0, .ref 145)]) (st' := []) (H' := hC A E N V W ++ g) (C := []) 8 4 rfl trivial (z_Ln.brT (decide_eq_true hb) (kk))
set_option maxRecDepth 10000 in
theorem e131_18f {L : Nat} {xs : Nat → Int32} {fv : Value} {f w : Nat} {c : Nat × Nat} {o : z_V} {T' : z_Y} {A : Nat → List (Nat × Int32)} {E : List (Nat × Option Nat)} {N : Nat → Nat} {V : Nat → Nat → Int32} {W : Nat} {g : List z_E}  (hb : ¬ (¬ (V 38 12) = 400)) (kk : z_Ln L xs fv f w 131 28 [(0, .ref 145)] [] (hC A E N V W ++ g, c) o T') : z_Ln L xs fv f w 131 18 [(0, .ref 145)] [] (hC A E N V W ++ g, c) o T' := z_Ln.blk (pc' := (if decide (¬ (V 38 12) = 400) = true then 37 else 28)) (lv' := [(0, .ref 145)]) (st' := []) (H' := hC A E N V W ++ g) (C := []) 8 4 rfl trivial (z_Ln.brF (decide_eq_false hb) (kk))
set_option maxRecDepth 10000 in
theorem e131_28 {L : Nat} {xs : Nat → Int32} {fv : Value} {f w : Nat} {c : Nat × Nat} {o : z_V} {T' : z_Y} {A : Nat → List (Nat × Int32)} {E : List (Nat × Option Nat)} {N : Nat → Nat} {V : Nat → Nat → Int32} {W : Nat} {g : List z_E}  (kk : z_Ln L xs fv f w 131 103 [(0, .ref 145)] [] (hC A E N (z_v V 38 7 (6)) W ++ g, c) o T') : z_Ln L xs fv f w 131 28 [(0, .ref 145)] [] (hC A E N V W ++ g, c) o T' := z_Ln.blk (pc' := 103) (lv' := [(0, .ref 145)]) (st' := []) (H' := hC A E N (z_v V 38 7 (6)) W ++ g) (C := [z_fit (z_fty 8 7) (.int 6) = true]) 12 4 rfl z_fitI (kk)
set_option maxRecDepth 10000 in
theorem e131_37 {L : Nat} {xs : Nat → Int32} {fv : Value} {f w : Nat} {c : Nat × Nat} {o : z_V} {T' : z_Y} {A : Nat → List (Nat × Int32)} {E : List (Nat × Option Nat)} {N : Nat → Nat} {V : Nat → Nat → Int32} {W : Nat} {g : List z_E} {A1 : Nat → List (Nat × Int32)} {E1 : List (Nat × Option Nat)} {N1 : Nat → Nat} {V1 : Nat → Nat → Int32} {W1 : Nat} {g1 : List z_E} {c1 : Nat × Nat} {v : Int32} (h1 : z_in (V 38 6) (N 17) = true)  (hRm : z_Rm (hC A E N (z_v (z_v V 38 11 ((V 38 11) + 1)) 38 12 ((V 38 12) + 1)) W ++ g, c)) (hf : 1 ≤ f) (hw : 19 + z_pg.2.1 130 ≤ w) (hc : z_Ln L xs fv (f - 1) (w - (19 + z_pg.2.1 130)) 130 0 [(0, .ref 145)] [] (hC A E N (z_v (z_v V 38 11 ((V 38 11) + 1)) 38 12 ((V 38 12) + 1)) W ++ g, c) (.inl (some (.int v))) (hC A1 E1 N1 V1 W1 ++ g1, c1)) (kk : z_Ln L xs fv f w 131 74 [(0, .ref 145)] [.int v, .int (z_fn 0 (A 17) (V 38 6).toNatClampNeg), .ref 145] (hC A1 E1 N1 V1 W1 ++ g1, c1) o T') : z_Ln L xs fv f w 131 37 [(0, .ref 145)] [] (hC A E N V W ++ g, c) o T' := z_Ln.blk (pc' := 71) (lv' := [(0, .ref 145)]) (st' := [.ref 145, .int (z_fn 0 (A 17) (V 38 6).toNatClampNeg), .ref 145]) (H' := hC A E N (z_v (z_v V 38 11 ((V 38 11) + 1)) 38 12 ((V 38 12) + 1)) W ++ g) (C := [z_fit (z_fty 8 11) (.int ((V 38 11) + 1)) = true, z_fit (z_fty 8 12) (.int ((V 38 12) + 1)) = true, z_in (V 38 6) (N 17) = true]) 16 20 rfl ⟨z_fitI, z_fitI, h1⟩ (z_Ln.call (s := 0) (mj := 130) (as := [.ref 145]) (rr := [.int (z_fn 0 (A 17) (V 38 6).toNatClampNeg), .ref 145]) (v := some (.int v)) (T1 := (hC A1 E1 N1 V1 W1 ++ g1, c1)) rfl rfl ⟨⟨hf, hw⟩, (by decide : (2 : Nat) ≤ 8), (by decide +kernel : (1 : Nat) ≤ z_pg.2.1 130)⟩ hRm hc ⟨⟨trivial, (z_sm0C 0 (by decide) rfl rfl), trivial⟩, ⟨(z_sm0C 0 (by decide) rfl rfl), trivial⟩⟩ (kk))
set_option maxRecDepth 10000 in
theorem e131_37x {L : Nat} {xs : Nat → Int32} {fv : Value} {f w : Nat} {c : Nat × Nat} {T' : z_Y} {A : Nat → List (Nat × Int32)} {E : List (Nat × Option Nat)} {N : Nat → Nat} {V : Nat → Nat → Int32} {W : Nat} {g : List z_E} (h1 : z_in (V 38 6) (N 17) = true) (hRm : z_Rm (hC A E N (z_v (z_v V 38 11 ((V 38 11) + 1)) 38 12 ((V 38 12) + 1)) W ++ g, c)) (hf : 1 ≤ f) (hw : 19 + z_pg.2.1 130 ≤ w) (hc : z_Ln L xs fv (f - 1) (w - (19 + z_pg.2.1 130)) 130 0 [(0, .ref 145)] [] (hC A E N (z_v (z_v V 38 11 ((V 38 11) + 1)) 38 12 ((V 38 12) + 1)) W ++ g, c) (.inr 10) T') : z_Ln L xs fv f w 131 37 [(0, .ref 145)] [] (hC A E N V W ++ g, c) (.inr 10) T' := z_Ln.blk (pc' := 71) (lv' := [(0, .ref 145)]) (st' := [.ref 145, .int (z_fn 0 (A 17) (V 38 6).toNatClampNeg), .ref 145]) (H' := hC A E N (z_v (z_v V 38 11 ((V 38 11) + 1)) 38 12 ((V 38 12) + 1)) W ++ g) (C := [z_fit (z_fty 8 11) (.int ((V 38 11) + 1)) = true, z_fit (z_fty 8 12) (.int ((V 38 12) + 1)) = true, z_in (V 38 6) (N 17) = true]) 16 20 rfl ⟨z_fitI, z_fitI, h1⟩ (z_Ln.past (s := 0) (mj := 130) (as := [.ref 145]) (rr := [.int (z_fn 0 (A 17) (V 38 6).toNatClampNeg), .ref 145]) rfl rfl ⟨⟨hf, hw⟩, (by decide : (2 : Nat) ≤ 8), (by decide +kernel : (1 : Nat) ≤ z_pg.2.1 130)⟩ hRm hc rfl)
set_option maxRecDepth 10000 in
theorem e131_74 {L : Nat} {xs : Nat → Int32} {fv : Value} {f w : Nat} {c : Nat × Nat} {o : z_V} {T' : z_Y} {A : Nat → List (Nat × Int32)} {E : List (Nat × Option Nat)} {N : Nat → Nat} {V : Nat → Nat → Int32} {W : Nat} {g : List z_E} {y0 : Int32} {y1 : Int32} {A1 : Nat → List (Nat × Int32)} {E1 : List (Nat × Option Nat)} {N1 : Nat → Nat} {V1 : Nat → Nat → Int32} {W1 : Nat} {g1 : List z_E} {c1 : Nat × Nat} (h1 : z_in (V 38 6) (N 18) = true)  (hRm : z_Rm (hC A E N V W ++ g, c)) (hf : 1 ≤ f) (hw : 19 + z_pg.2.1 111 ≤ w) (hc : z_Ln L xs fv (f - 1) (w - (19 + z_pg.2.1 111)) 111 0 [(0, .ref 145), (1, .int y1), (2, .int y0), (3, .int (V 38 6)), (4, .int (z_fn 0 (A 18) (V 38 6).toNatClampNeg))] [] (hC A E N V W ++ g, c) (.inl (none)) (hC A1 E1 N1 V1 W1 ++ g1, c1)) (kk : z_Ln L xs fv f w 131 93 [(0, .ref 145)] [] (hC A1 E1 N1 V1 W1 ++ g1, c1) o T') : z_Ln L xs fv f w 131 74 [(0, .ref 145)] [.int y0, .int y1, .ref 145] (hC A E N V W ++ g, c) o T' := z_Ln.blk (pc' := 90) (lv' := [(0, .ref 145)]) (st' := [.int (z_fn 0 (A 18) (V 38 6).toNatClampNeg), .int (V 38 6), .int y0, .int y1, .ref 145]) (H' := hC A E N V W ++ g) (C := [z_in (V 38 6) (N 18) = true]) 37 8 rfl h1 (z_Ln.call (s := 0) (mj := 111) (as := [.ref 145, .int y1, .int y0, .int (V 38 6), .int (z_fn 0 (A 18) (V 38 6).toNatClampNeg)]) (rr := []) (v := none) (T1 := (hC A1 E1 N1 V1 W1 ++ g1, c1)) rfl rfl ⟨⟨hf, hw⟩, (by decide : (0 : Nat) ≤ 8), (by decide +kernel : (5 : Nat) ≤ z_pg.2.1 111)⟩ hRm hc ⟨trivial, ⟨(z_sm0C 0 (by decide) rfl rfl), trivial⟩⟩ (kk))
set_option maxRecDepth 10000 in
theorem e131_74x {L : Nat} {xs : Nat → Int32} {fv : Value} {f w : Nat} {c : Nat × Nat} {T' : z_Y} {A : Nat → List (Nat × Int32)} {E : List (Nat × Option Nat)} {N : Nat → Nat} {V : Nat → Nat → Int32} {W : Nat} {g : List z_E} {y0 : Int32} {y1 : Int32} (h1 : z_in (V 38 6) (N 18) = true) (hRm : z_Rm (hC A E N V W ++ g, c)) (hf : 1 ≤ f) (hw : 19 + z_pg.2.1 111 ≤ w) (hc : z_Ln L xs fv (f - 1) (w - (19 + z_pg.2.1 111)) 111 0 [(0, .ref 145), (1, .int y1), (2, .int y0), (3, .int (V 38 6)), (4, .int (z_fn 0 (A 18) (V 38 6).toNatClampNeg))] [] (hC A E N V W ++ g, c) (.inr 10) T') : z_Ln L xs fv f w 131 74 [(0, .ref 145)] [.int y0, .int y1, .ref 145] (hC A E N V W ++ g, c) (.inr 10) T' := z_Ln.blk (pc' := 90) (lv' := [(0, .ref 145)]) (st' := [.int (z_fn 0 (A 18) (V 38 6).toNatClampNeg), .int (V 38 6), .int y0, .int y1, .ref 145]) (H' := hC A E N V W ++ g) (C := [z_in (V 38 6) (N 18) = true]) 37 8 rfl h1 (z_Ln.past (s := 0) (mj := 111) (as := [.ref 145, .int y1, .int y0, .int (V 38 6), .int (z_fn 0 (A 18) (V 38 6).toNatClampNeg)]) (rr := []) rfl rfl ⟨⟨hf, hw⟩, (by decide : (0 : Nat) ≤ 8), (by decide +kernel : (5 : Nat) ≤ z_pg.2.1 111)⟩ hRm hc rfl)
set_option maxRecDepth 10000 in
theorem e131_93 {L : Nat} {xs : Nat → Int32} {fv : Value} {f w : Nat} {c : Nat × Nat} {o : z_V} {T' : z_Y} {A : Nat → List (Nat × Int32)} {E : List (Nat × Option Nat)} {N : Nat → Nat} {V : Nat → Nat → Int32} {W : Nat} {g : List z_E}  (kk : z_Ln L xs fv f w 131 103 [(0, .ref 145)] [] (hC A E N (z_v V 38 6 ((V 38 6) + 1)) W ++ g, c) o T') : z_Ln L xs fv f w 131 93 [(0, .ref 145)] [] (hC A E N V W ++ g, c) o T' := z_Ln.blk (pc' := 103) (lv' := [(0, .ref 145)]) (st' := []) (H' := hC A E N (z_v V 38 6 ((V 38 6) + 1)) W ++ g) (C := [z_fit (z_fty 8 6) (.int ((V 38 6) + 1)) = true]) 46 6 rfl z_fitI (kk)
set_option maxRecDepth 10000 in
theorem e131_103 {L : Nat} {xs : Nat → Int32} {fv : Value} {f w : Nat} {c : Nat × Nat} {A : Nat → List (Nat × Int32)} {E : List (Nat × Option Nat)} {N : Nat → Nat} {V : Nat → Nat → Int32} {W : Nat} {g : List z_E}  : z_Ln L xs fv f w 131 103 [(0, .ref 145)] [] (hC A E N V W ++ g, c) (.inl none) (hC A E N V W ++ g, c) := z_Ln.ret rfl rfl
def p131_103 (l : Nat) (A : Nat → List (Nat × Int32)) (E : List (Nat × Option Nat)) (N : Nat → Nat) (V : Nat → Nat → Int32) (W : Nat) (c : Nat × Nat)  (Q : z_V → z_CS → Prop) : Prop := Q (.inl (none)) (A, E, N, V, W, c)
set_option maxRecDepth 10000 in
theorem t131_103 {l : Nat} {A : Nat → List (Nat × Int32)} {E : List (Nat × Option Nat)} {N : Nat → Nat} {V : Nat → Nat → Int32} {W : Nat} {c : Nat × Nat}  {Q : z_V → z_CS → Prop} (h : p131_103 l A E N V W c  Q) : z_WC (l + 1) 131 103 [(0, .ref 145)] [] (A, E, N, V, W, c) Q := by
  unfold p131_103 at h
  exact ⟨(.inl (none)), (A, E, N, V, W, c), fun _ _ _ _ _ _ hg hl => e131_103 , h⟩
def p131_93 (l : Nat) (A : Nat → List (Nat × Int32)) (E : List (Nat × Option Nat)) (N : Nat → Nat) (V : Nat → Nat → Int32) (W : Nat) (c : Nat × Nat)  (Q : z_V → z_CS → Prop) : Prop := p131_103 l A E N (z_v V 38 6 ((V 38 6) + 1)) W c  Q
set_option maxRecDepth 10000 in
theorem t131_93 {l : Nat} {A : Nat → List (Nat × Int32)} {E : List (Nat × Option Nat)} {N : Nat → Nat} {V : Nat → Nat → Int32} {W : Nat} {c : Nat × Nat}  {Q : z_V → z_CS → Prop} (h : p131_93 l A E N V W c  Q) : z_WC (l + 1) 131 93 [(0, .ref 145)] [] (A, E, N, V, W, c) Q := by
  unfold p131_93 at h
  exact z_WC.blk (t131_103 h) (fun _ _ _ _ _ _ _ _ hg hl k => e131_93  k)
def p131_74 (l : Nat) (A : Nat → List (Nat × Int32)) (E : List (Nat × Option Nat)) (N : Nat → Nat) (V : Nat → Nat → Int32) (W : Nat) (c : Nat × Nat) (y0 : Int32) (y1 : Int32) (Q : z_V → z_CS → Prop) : Prop := z_in (V 38 6) (N 18) = true ∧ z_Rm ([], c) ∧ z_WC l 111 0 [(0, .ref 145), (1, .int y1), (2, .int y0), (3, .int (V 38 6)), (4, .int (z_fn 0 (A 18) (V 38 6).toNatClampNeg))] [] (A, E, N, V, W, c) (z_cx Q (fun x S1 => x = none ∧ p131_93 l S1.1 S1.2.1 S1.2.2.1 S1.2.2.2.1 S1.2.2.2.2.1 S1.2.2.2.2.2  Q))
set_option maxRecDepth 10000 in
theorem t131_74 {l : Nat} {A : Nat → List (Nat × Int32)} {E : List (Nat × Option Nat)} {N : Nat → Nat} {V : Nat → Nat → Int32} {W : Nat} {c : Nat × Nat} {y0 : Int32} {y1 : Int32} {Q : z_V → z_CS → Prop} (h : p131_74 l A E N V W c y0 y1 Q) : z_WC (l + 1) 131 74 [(0, .ref 145)] [.int y0, .int y1, .ref 145] (A, E, N, V, W, c) Q := by
  unfold p131_74 at h
  obtain ⟨h1, hm, h⟩ := h
  obtain ⟨o, S1, hc, h⟩ := h
  cases o with
  | inl x =>
    obtain ⟨rfl, h⟩ := h
    obtain ⟨o2, S2, hk, hQ⟩ := t131_93 h
    exact ⟨o2, S2, fun L xs fv f w g hg hl => e131_74 h1  hm hl.f1 (hl.w1 111 (by decide)) (hc L xs fv _ _ g hg (hl.dn 111 (by decide))) (hk L xs fv f w g hg hl), hQ⟩
  | inr e =>
    obtain ⟨rfl, h⟩ := h
    exact ⟨_, S1, fun L xs fv f w g hg hl => e131_74x h1 hm hl.f1 (hl.w1 111 (by decide)) (hc L xs fv _ _ g hg (hl.dn 111 (by decide))), h⟩
def p131_37 (l : Nat) (A : Nat → List (Nat × Int32)) (E : List (Nat × Option Nat)) (N : Nat → Nat) (V : Nat → Nat → Int32) (W : Nat) (c : Nat × Nat)  (Q : z_V → z_CS → Prop) : Prop := z_in (V 38 6) (N 17) = true ∧ z_Rm ([], c) ∧ z_WC l 130 0 [(0, .ref 145)] [] (A, E, N, (z_v (z_v V 38 11 ((V 38 11) + 1)) 38 12 ((V 38 12) + 1)), W, c) (z_cx Q (fun x S1 => ∃ v : Int32, x = some (.int v) ∧ p131_74 l S1.1 S1.2.1 S1.2.2.1 S1.2.2.2.1 S1.2.2.2.2.1 S1.2.2.2.2.2 v (z_fn 0 (A 17) (V 38 6).toNatClampNeg) Q))
set_option maxRecDepth 10000 in
theorem t131_37 {l : Nat} {A : Nat → List (Nat × Int32)} {E : List (Nat × Option Nat)} {N : Nat → Nat} {V : Nat → Nat → Int32} {W : Nat} {c : Nat × Nat}  {Q : z_V → z_CS → Prop} (h : p131_37 l A E N V W c  Q) : z_WC (l + 1) 131 37 [(0, .ref 145)] [] (A, E, N, V, W, c) Q := by
  unfold p131_37 at h
  obtain ⟨h1, hm, h⟩ := h
  obtain ⟨o, S1, hc, h⟩ := h
  cases o with
  | inl x =>
    obtain ⟨v, rfl, h⟩ := h
    obtain ⟨o2, S2, hk, hQ⟩ := t131_74 h
    exact ⟨o2, S2, fun L xs fv f w g hg hl => e131_37 h1  hm hl.f1 (hl.w1 130 (by decide)) (hc L xs fv _ _ g hg (hl.dn 130 (by decide))) (hk L xs fv f w g hg hl), hQ⟩
  | inr e =>
    obtain ⟨rfl, h⟩ := h
    exact ⟨_, S1, fun L xs fv f w g hg hl => e131_37x h1 hm hl.f1 (hl.w1 130 (by decide)) (hc L xs fv _ _ g hg (hl.dn 130 (by decide))), h⟩
def p131_28 (l : Nat) (A : Nat → List (Nat × Int32)) (E : List (Nat × Option Nat)) (N : Nat → Nat) (V : Nat → Nat → Int32) (W : Nat) (c : Nat × Nat)  (Q : z_V → z_CS → Prop) : Prop := p131_103 l A E N (z_v V 38 7 (6)) W c  Q
set_option maxRecDepth 10000 in
theorem t131_28 {l : Nat} {A : Nat → List (Nat × Int32)} {E : List (Nat × Option Nat)} {N : Nat → Nat} {V : Nat → Nat → Int32} {W : Nat} {c : Nat × Nat}  {Q : z_V → z_CS → Prop} (h : p131_28 l A E N V W c  Q) : z_WC (l + 1) 131 28 [(0, .ref 145)] [] (A, E, N, V, W, c) Q := by
  unfold p131_28 at h
  exact z_WC.blk (t131_103 h) (fun _ _ _ _ _ _ _ _ hg hl k => e131_28  k)
def p131_18 (l : Nat) (A : Nat → List (Nat × Int32)) (E : List (Nat × Option Nat)) (N : Nat → Nat) (V : Nat → Nat → Int32) (W : Nat) (c : Nat × Nat)  (Q : z_V → z_CS → Prop) : Prop := (if (V 38 12) = 400 then p131_28 l A E N V W c  Q else p131_37 l A E N V W c  Q)
set_option maxRecDepth 10000 in
theorem t131_18 {l : Nat} {A : Nat → List (Nat × Int32)} {E : List (Nat × Option Nat)} {N : Nat → Nat} {V : Nat → Nat → Int32} {W : Nat} {c : Nat × Nat}  {Q : z_V → z_CS → Prop} (h : p131_18 l A E N V W c  Q) : z_WC (l + 1) 131 18 [(0, .ref 145)] [] (A, E, N, V, W, c) Q := by
  unfold p131_18 at h
  by_cases hb : (V 38 12) = 400
  · rw [if_pos hb] at h
    exact z_WC.blk (t131_28 h) (fun _ _ _ _ _ _ _ _ hg hl k => e131_18f  (fun q => q hb) k)
  · rw [if_neg hb] at h
    exact z_WC.blk (t131_37 h) (fun _ _ _ _ _ _ _ _ hg hl k => e131_18t  hb k)
def p131_10 (l : Nat) (A : Nat → List (Nat × Int32)) (E : List (Nat × Option Nat)) (N : Nat → Nat) (V : Nat → Nat → Int32) (W : Nat) (c : Nat × Nat)  (Q : z_V → z_CS → Prop) : Prop := p131_103 l A E N (z_v V 38 7 (5)) W c  Q
set_option maxRecDepth 10000 in
theorem t131_10 {l : Nat} {A : Nat → List (Nat × Int32)} {E : List (Nat × Option Nat)} {N : Nat → Nat} {V : Nat → Nat → Int32} {W : Nat} {c : Nat × Nat}  {Q : z_V → z_CS → Prop} (h : p131_10 l A E N V W c  Q) : z_WC (l + 1) 131 10 [(0, .ref 145)] [] (A, E, N, V, W, c) Q := by
  unfold p131_10 at h
  exact z_WC.blk (t131_103 h) (fun _ _ _ _ _ _ _ _ hg hl k => e131_10  k)
def p131_0 (l : Nat) (A : Nat → List (Nat × Int32)) (E : List (Nat × Option Nat)) (N : Nat → Nat) (V : Nat → Nat → Int32) (W : Nat) (c : Nat × Nat)  (Q : z_V → z_CS → Prop) : Prop := (if (V 38 11) = 1000 then p131_10 l A E N V W c  Q else p131_18 l A E N V W c  Q)
set_option maxRecDepth 10000 in
theorem t131_0 {l : Nat} {A : Nat → List (Nat × Int32)} {E : List (Nat × Option Nat)} {N : Nat → Nat} {V : Nat → Nat → Int32} {W : Nat} {c : Nat × Nat}  {Q : z_V → z_CS → Prop} (h : p131_0 l A E N V W c  Q) : z_WC (l + 1) 131 0 [(0, .ref 145)] [] (A, E, N, V, W, c) Q := by
  unfold p131_0 at h
  by_cases hb : (V 38 11) = 1000
  · rw [if_pos hb] at h
    exact z_WC.blk (t131_10 h) (fun _ _ _ _ _ _ _ _ hg hl k => e131_0f  (fun q => q hb) k)
  · rw [if_neg hb] at h
    exact z_WC.blk (t131_18 h) (fun _ _ _ _ _ _ _ _ hg hl k => e131_0t  hb k)
set_option maxRecDepth 10000 in
theorem e132_0 {L : Nat} {xs : Nat → Int32} {fv : Value} {f w : Nat} {c : Nat × Nat} {o : z_V} {T' : z_Y} {A : Nat → List (Nat × Int32)} {E : List (Nat × Option Nat)} {N : Nat → Nat} {V : Nat → Nat → Int32} {W : Nat} {g : List z_E} {A1 : Nat → List (Nat × Int32)} {E1 : List (Nat × Option Nat)} {N1 : Nat → Nat} {V1 : Nat → Nat → Int32} {W1 : Nat} {g1 : List z_E} {c1 : Nat × Nat} {v : Int32}   (hRm : z_Rm (hC A E N V W ++ g, c)) (hf : 1 ≤ f) (hw : 19 + z_pg.2.1 118 ≤ w) (hc : z_Ln L xs fv (f - 1) (w - (19 + z_pg.2.1 118)) 118 0 [(0, .ref 145)] [] (hC A E N V W ++ g, c) (.inl (some (.int v))) (hC A1 E1 N1 V1 W1 ++ g1, c1)) (kk : z_Ln L xs fv f w 132 4 [(0, .ref 145)] [.int v] (hC A1 E1 N1 V1 W1 ++ g1, c1) o T') : z_Ln L xs fv f w 132 0 [(0, .ref 145)] [] (hC A E N V W ++ g, c) o T' := z_Ln.blk (pc' := 1) (lv' := [(0, .ref 145)]) (st' := [.ref 145]) (H' := hC A E N V W ++ g) (C := []) 0 1 rfl trivial (z_Ln.call (s := 0) (mj := 118) (as := [.ref 145]) (rr := []) (v := some (.int v)) (T1 := (hC A1 E1 N1 V1 W1 ++ g1, c1)) rfl rfl ⟨⟨hf, hw⟩, (by decide : (0 : Nat) ≤ 8), (by decide +kernel : (1 : Nat) ≤ z_pg.2.1 118)⟩ hRm hc ⟨trivial, ⟨(z_sm0C 0 (by decide) rfl rfl), trivial⟩⟩ (kk))
set_option maxRecDepth 10000 in
theorem e132_0x {L : Nat} {xs : Nat → Int32} {fv : Value} {f w : Nat} {c : Nat × Nat} {T' : z_Y} {A : Nat → List (Nat × Int32)} {E : List (Nat × Option Nat)} {N : Nat → Nat} {V : Nat → Nat → Int32} {W : Nat} {g : List z_E}  (hRm : z_Rm (hC A E N V W ++ g, c)) (hf : 1 ≤ f) (hw : 19 + z_pg.2.1 118 ≤ w) (hc : z_Ln L xs fv (f - 1) (w - (19 + z_pg.2.1 118)) 118 0 [(0, .ref 145)] [] (hC A E N V W ++ g, c) (.inr 10) T') : z_Ln L xs fv f w 132 0 [(0, .ref 145)] [] (hC A E N V W ++ g, c) (.inr 10) T' := z_Ln.blk (pc' := 1) (lv' := [(0, .ref 145)]) (st' := [.ref 145]) (H' := hC A E N V W ++ g) (C := []) 0 1 rfl trivial (z_Ln.past (s := 0) (mj := 118) (as := [.ref 145]) (rr := []) rfl rfl ⟨⟨hf, hw⟩, (by decide : (0 : Nat) ≤ 8), (by decide +kernel : (1 : Nat) ≤ z_pg.2.1 118)⟩ hRm hc rfl)
set_option maxRecDepth 10000 in
theorem e132_4 {L : Nat} {xs : Nat → Int32} {fv : Value} {f w : Nat} {c : Nat × Nat} {o : z_V} {T' : z_Y} {A : Nat → List (Nat × Int32)} {E : List (Nat × Option Nat)} {N : Nat → Nat} {V : Nat → Nat → Int32} {W : Nat} {g : List z_E} {y0 : Int32} {A1 : Nat → List (Nat × Int32)} {E1 : List (Nat × Option Nat)} {N1 : Nat → Nat} {V1 : Nat → Nat → Int32} {W1 : Nat} {g1 : List z_E} {c1 : Nat × Nat} (h1 : z_in ((V 38 3) + 0) (N 39) = true) (h2 : z_in ((V 38 3) + 1) (N 39) = true)  (hRm : z_Rm (hC A E N (z_v (z_v (z_v (z_v V 38 12 ((V 38 12) - 1)) 38 6 (z_fn 0 (A 39) ((V 38 3) + 0).toNatClampNeg)) 38 2 (V 38 3)) 38 3 ((V 38 3) - (z_fn 0 (A 39) ((V 38 3) + 1).toNatClampNeg))) W ++ g, c)) (hf : 1 ≤ f) (hw : 19 + z_pg.2.1 117 ≤ w) (hc : z_Ln L xs fv (f - 1) (w - (19 + z_pg.2.1 117)) 117 0 [(0, .ref 145), (1, .int y0)] [] (hC A E N (z_v (z_v (z_v (z_v V 38 12 ((V 38 12) - 1)) 38 6 (z_fn 0 (A 39) ((V 38 3) + 0).toNatClampNeg)) 38 2 (V 38 3)) 38 3 ((V 38 3) - (z_fn 0 (A 39) ((V 38 3) + 1).toNatClampNeg))) W ++ g, c) (.inl (none)) (hC A1 E1 N1 V1 W1 ++ g1, c1)) (kk : z_Ln L xs fv f w 132 63 [(0, .ref 145), (1, .int y0)] [] (hC A1 E1 N1 V1 W1 ++ g1, c1) o T') : z_Ln L xs fv f w 132 4 [(0, .ref 145)] [.int y0] (hC A E N V W ++ g, c) o T' := z_Ln.blk (pc' := 60) (lv' := [(1, .int y0), (0, .ref 145)]) (st' := [.int y0, .ref 145]) (H' := hC A E N (z_v (z_v (z_v (z_v V 38 12 ((V 38 12) - 1)) 38 6 (z_fn 0 (A 39) ((V 38 3) + 0).toNatClampNeg)) 38 2 (V 38 3)) 38 3 ((V 38 3) - (z_fn 0 (A 39) ((V 38 3) + 1).toNatClampNeg))) W ++ g) (C := [z_fit (z_fty 8 12) (.int ((V 38 12) - 1)) = true, z_in ((V 38 3) + 0) (N 39) = true, z_fit (z_fty 8 6) (.int (z_fn 0 (A 39) ((V 38 3) + 0).toNatClampNeg)) = true, z_fit (z_fty 8 2) (.int (V 38 3)) = true, z_in ((V 38 3) + 1) (N 39) = true, z_fit (z_fty 8 3) (.int ((V 38 3) - (z_fn 0 (A 39) ((V 38 3) + 1).toNatClampNeg))) = true]) 2 34 rfl ⟨z_fitI, h1, z_fitI, z_fitI, h2, z_fitI⟩ (z_Ln.call (s := 0) (mj := 117) (as := [.ref 145, .int y0]) (rr := []) (v := none) (T1 := (hC A1 E1 N1 V1 W1 ++ g1, c1)) rfl rfl ⟨⟨hf, hw⟩, (by decide : (0 : Nat) ≤ 8), (by decide +kernel : (2 : Nat) ≤ z_pg.2.1 117)⟩ hRm hc ⟨trivial, ⟨trivial, (z_sm0C 0 (by decide) rfl rfl), trivial⟩⟩ (z_Ln.lv (z_le.cons rfl rfl (z_le.cons rfl rfl z_le.nil)) kk))
set_option maxRecDepth 10000 in
theorem e132_4x {L : Nat} {xs : Nat → Int32} {fv : Value} {f w : Nat} {c : Nat × Nat} {T' : z_Y} {A : Nat → List (Nat × Int32)} {E : List (Nat × Option Nat)} {N : Nat → Nat} {V : Nat → Nat → Int32} {W : Nat} {g : List z_E} {y0 : Int32} (h1 : z_in ((V 38 3) + 0) (N 39) = true) (h2 : z_in ((V 38 3) + 1) (N 39) = true) (hRm : z_Rm (hC A E N (z_v (z_v (z_v (z_v V 38 12 ((V 38 12) - 1)) 38 6 (z_fn 0 (A 39) ((V 38 3) + 0).toNatClampNeg)) 38 2 (V 38 3)) 38 3 ((V 38 3) - (z_fn 0 (A 39) ((V 38 3) + 1).toNatClampNeg))) W ++ g, c)) (hf : 1 ≤ f) (hw : 19 + z_pg.2.1 117 ≤ w) (hc : z_Ln L xs fv (f - 1) (w - (19 + z_pg.2.1 117)) 117 0 [(0, .ref 145), (1, .int y0)] [] (hC A E N (z_v (z_v (z_v (z_v V 38 12 ((V 38 12) - 1)) 38 6 (z_fn 0 (A 39) ((V 38 3) + 0).toNatClampNeg)) 38 2 (V 38 3)) 38 3 ((V 38 3) - (z_fn 0 (A 39) ((V 38 3) + 1).toNatClampNeg))) W ++ g, c) (.inr 10) T') : z_Ln L xs fv f w 132 4 [(0, .ref 145)] [.int y0] (hC A E N V W ++ g, c) (.inr 10) T' := z_Ln.blk (pc' := 60) (lv' := [(1, .int y0), (0, .ref 145)]) (st' := [.int y0, .ref 145]) (H' := hC A E N (z_v (z_v (z_v (z_v V 38 12 ((V 38 12) - 1)) 38 6 (z_fn 0 (A 39) ((V 38 3) + 0).toNatClampNeg)) 38 2 (V 38 3)) 38 3 ((V 38 3) - (z_fn 0 (A 39) ((V 38 3) + 1).toNatClampNeg))) W ++ g) (C := [z_fit (z_fty 8 12) (.int ((V 38 12) - 1)) = true, z_in ((V 38 3) + 0) (N 39) = true, z_fit (z_fty 8 6) (.int (z_fn 0 (A 39) ((V 38 3) + 0).toNatClampNeg)) = true, z_fit (z_fty 8 2) (.int (V 38 3)) = true, z_in ((V 38 3) + 1) (N 39) = true, z_fit (z_fty 8 3) (.int ((V 38 3) - (z_fn 0 (A 39) ((V 38 3) + 1).toNatClampNeg))) = true]) 2 34 rfl ⟨z_fitI, h1, z_fitI, z_fitI, h2, z_fitI⟩ (z_Ln.past (s := 0) (mj := 117) (as := [.ref 145, .int y0]) (rr := []) rfl rfl ⟨⟨hf, hw⟩, (by decide : (0 : Nat) ≤ 8), (by decide +kernel : (2 : Nat) ≤ z_pg.2.1 117)⟩ hRm hc rfl)
set_option maxRecDepth 10000 in
theorem e132_63 {L : Nat} {xs : Nat → Int32} {fv : Value} {f w : Nat} {c : Nat × Nat} {A : Nat → List (Nat × Int32)} {E : List (Nat × Option Nat)} {N : Nat → Nat} {V : Nat → Nat → Int32} {W : Nat} {g : List z_E} {x1 : Int32}  : z_Ln L xs fv f w 132 63 [(0, .ref 145), (1, .int x1)] [] (hC A E N V W ++ g, c) (.inl none) (hC A E N V W ++ g, c) := z_Ln.ret rfl rfl
def p132_63 (l : Nat) (A : Nat → List (Nat × Int32)) (E : List (Nat × Option Nat)) (N : Nat → Nat) (V : Nat → Nat → Int32) (W : Nat) (c : Nat × Nat) (x1 : Int32) (Q : z_V → z_CS → Prop) : Prop := Q (.inl (none)) (A, E, N, V, W, c)
set_option maxRecDepth 10000 in
theorem t132_63 {l : Nat} {A : Nat → List (Nat × Int32)} {E : List (Nat × Option Nat)} {N : Nat → Nat} {V : Nat → Nat → Int32} {W : Nat} {c : Nat × Nat} {x1 : Int32} {Q : z_V → z_CS → Prop} (h : p132_63 l A E N V W c x1 Q) : z_WC (l + 1) 132 63 [(0, .ref 145), (1, .int x1)] [] (A, E, N, V, W, c) Q := by
  unfold p132_63 at h
  exact ⟨(.inl (none)), (A, E, N, V, W, c), fun _ _ _ _ _ _ hg hl => e132_63 , h⟩
def p132_4 (l : Nat) (A : Nat → List (Nat × Int32)) (E : List (Nat × Option Nat)) (N : Nat → Nat) (V : Nat → Nat → Int32) (W : Nat) (c : Nat × Nat) (y0 : Int32) (Q : z_V → z_CS → Prop) : Prop := z_in ((V 38 3) + 0) (N 39) = true ∧ z_in ((V 38 3) + 1) (N 39) = true ∧ z_Rm ([], c) ∧ z_WC l 117 0 [(0, .ref 145), (1, .int y0)] [] (A, E, N, (z_v (z_v (z_v (z_v V 38 12 ((V 38 12) - 1)) 38 6 (z_fn 0 (A 39) ((V 38 3) + 0).toNatClampNeg)) 38 2 (V 38 3)) 38 3 ((V 38 3) - (z_fn 0 (A 39) ((V 38 3) + 1).toNatClampNeg))), W, c) (z_cx Q (fun x S1 => x = none ∧ p132_63 l S1.1 S1.2.1 S1.2.2.1 S1.2.2.2.1 S1.2.2.2.2.1 S1.2.2.2.2.2 y0 Q))
set_option maxRecDepth 10000 in
theorem t132_4 {l : Nat} {A : Nat → List (Nat × Int32)} {E : List (Nat × Option Nat)} {N : Nat → Nat} {V : Nat → Nat → Int32} {W : Nat} {c : Nat × Nat} {y0 : Int32} {Q : z_V → z_CS → Prop} (h : p132_4 l A E N V W c y0 Q) : z_WC (l + 1) 132 4 [(0, .ref 145)] [.int y0] (A, E, N, V, W, c) Q := by
  unfold p132_4 at h
  obtain ⟨h1, h2, hm, h⟩ := h
  obtain ⟨o, S1, hc, h⟩ := h
  cases o with
  | inl x =>
    obtain ⟨rfl, h⟩ := h
    obtain ⟨o2, S2, hk, hQ⟩ := t132_63 h
    exact ⟨o2, S2, fun L xs fv f w g hg hl => e132_4 h1 h2  hm hl.f1 (hl.w1 117 (by decide)) (hc L xs fv _ _ g hg (hl.dn 117 (by decide))) (hk L xs fv f w g hg hl), hQ⟩
  | inr e =>
    obtain ⟨rfl, h⟩ := h
    exact ⟨_, S1, fun L xs fv f w g hg hl => e132_4x h1 h2 hm hl.f1 (hl.w1 117 (by decide)) (hc L xs fv _ _ g hg (hl.dn 117 (by decide))), h⟩
def p132_0 (l : Nat) (A : Nat → List (Nat × Int32)) (E : List (Nat × Option Nat)) (N : Nat → Nat) (V : Nat → Nat → Int32) (W : Nat) (c : Nat × Nat)  (Q : z_V → z_CS → Prop) : Prop := z_Rm ([], c) ∧ z_WC l 118 0 [(0, .ref 145)] [] (A, E, N, V, W, c) (z_cx Q (fun x S1 => ∃ v : Int32, x = some (.int v) ∧ p132_4 l S1.1 S1.2.1 S1.2.2.1 S1.2.2.2.1 S1.2.2.2.2.1 S1.2.2.2.2.2 v Q))
set_option maxRecDepth 10000 in
theorem t132_0 {l : Nat} {A : Nat → List (Nat × Int32)} {E : List (Nat × Option Nat)} {N : Nat → Nat} {V : Nat → Nat → Int32} {W : Nat} {c : Nat × Nat}  {Q : z_V → z_CS → Prop} (h : p132_0 l A E N V W c  Q) : z_WC (l + 1) 132 0 [(0, .ref 145)] [] (A, E, N, V, W, c) Q := by
  unfold p132_0 at h
  obtain ⟨hm, h⟩ := h
  obtain ⟨o, S1, hc, h⟩ := h
  cases o with
  | inl x =>
    obtain ⟨v, rfl, h⟩ := h
    obtain ⟨o2, S2, hk, hQ⟩ := t132_4 h
    exact ⟨o2, S2, fun L xs fv f w g hg hl => e132_0   hm hl.f1 (hl.w1 118 (by decide)) (hc L xs fv _ _ g hg (hl.dn 118 (by decide))) (hk L xs fv f w g hg hl), hQ⟩
  | inr e =>
    obtain ⟨rfl, h⟩ := h
    exact ⟨_, S1, fun L xs fv f w g hg hl => e132_0x  hm hl.f1 (hl.w1 118 (by decide)) (hc L xs fv _ _ g hg (hl.dn 118 (by decide))), h⟩
set_option maxRecDepth 10000 in
theorem e133_0t {L : Nat} {xs : Nat → Int32} {fv : Value} {f w : Nat} {c : Nat × Nat} {o : z_V} {T' : z_Y} {A : Nat → List (Nat × Int32)} {E : List (Nat × Option Nat)} {N : Nat → Nat} {V : Nat → Nat → Int32} {W : Nat} {g : List z_E}  (hb : (V 13 8) = 0) (kk : z_Ln L xs fv f w 133 27 [(0, .ref 145)] [.ref 145] (hC A E N (z_v V 38 7 (2)) W ++ g, c) o T') : z_Ln L xs fv f w 133 0 [(0, .ref 145)] [] (hC A E N V W ++ g, c) o T' := z_Ln.blk (pc' := (if decide ((V 13 8) = 0) = true then 27 else 16)) (lv' := [(0, .ref 145)]) (st' := [.ref 145]) (H' := hC A E N (z_v V 38 7 (2)) W ++ g) (C := [z_fit (z_fty 8 7) (.int 2) = true]) 0 8 rfl z_fitI (z_Ln.brT (decide_eq_true hb) (kk))
set_option maxRecDepth 10000 in
theorem e133_0f {L : Nat} {xs : Nat → Int32} {fv : Value} {f w : Nat} {c : Nat × Nat} {o : z_V} {T' : z_Y} {A : Nat → List (Nat × Int32)} {E : List (Nat × Option Nat)} {N : Nat → Nat} {V : Nat → Nat → Int32} {W : Nat} {g : List z_E}  (hb : ¬ ((V 13 8) = 0)) (kk : z_Ln L xs fv f w 133 16 [(0, .ref 145)] [.ref 145] (hC A E N (z_v V 38 7 (2)) W ++ g, c) o T') : z_Ln L xs fv f w 133 0 [(0, .ref 145)] [] (hC A E N V W ++ g, c) o T' := z_Ln.blk (pc' := (if decide ((V 13 8) = 0) = true then 27 else 16)) (lv' := [(0, .ref 145)]) (st' := [.ref 145]) (H' := hC A E N (z_v V 38 7 (2)) W ++ g) (C := [z_fit (z_fty 8 7) (.int 2) = true]) 0 8 rfl z_fitI (z_Ln.brF (decide_eq_false hb) (kk))
set_option maxRecDepth 10000 in
theorem e133_16t {L : Nat} {xs : Nat → Int32} {fv : Value} {f w : Nat} {c : Nat × Nat} {o : z_V} {T' : z_Y} {A : Nat → List (Nat × Int32)} {E : List (Nat × Option Nat)} {N : Nat → Nat} {V : Nat → Nat → Int32} {W : Nat} {g : List z_E}  (hb : ¬ (V 13 8) = 1) (kk : z_Ln L xs fv f w 133 34 [(0, .ref 145)] [.ref 145] (hC A E N V W ++ g, c) o T') : z_Ln L xs fv f w 133 16 [(0, .ref 145)] [.ref 145] (hC A E N V W ++ g, c) o T' := z_Ln.blk (pc' := (if decide (¬ (V 13 8) = 1) = true then 34 else 27)) (lv' := [(0, .ref 145)]) (st' := [.ref 145]) (H' := hC A E N V W ++ g) (C := []) 8 5 rfl trivial (z_Ln.brT (decide_eq_true hb) (kk))
set_option maxRecDepth 10000 in
theorem e133_16f {L : Nat} {xs : Nat → Int32} {fv : Value} {f w : Nat} {c : Nat × Nat} {o : z_V} {T' : z_Y} {A : Nat → List (Nat × Int32)} {E : List (Nat × Option Nat)} {N : Nat → Nat} {V : Nat → Nat → Int32} {W : Nat} {g : List z_E}  (hb : ¬ (¬ (V 13 8) = 1)) (kk : z_Ln L xs fv f w 133 27 [(0, .ref 145)] [.ref 145] (hC A E N V W ++ g, c) o T') : z_Ln L xs fv f w 133 16 [(0, .ref 145)] [.ref 145] (hC A E N V W ++ g, c) o T' := z_Ln.blk (pc' := (if decide (¬ (V 13 8) = 1) = true then 34 else 27)) (lv' := [(0, .ref 145)]) (st' := [.ref 145]) (H' := hC A E N V W ++ g) (C := []) 8 5 rfl trivial (z_Ln.brF (decide_eq_false hb) (kk))
set_option maxRecDepth 10000 in
theorem e133_27 {L : Nat} {xs : Nat → Int32} {fv : Value} {f w : Nat} {c : Nat × Nat} {o : z_V} {T' : z_Y} {A : Nat → List (Nat × Int32)} {E : List (Nat × Option Nat)} {N : Nat → Nat} {V : Nat → Nat → Int32} {W : Nat} {g : List z_E} {A1 : Nat → List (Nat × Int32)} {E1 : List (Nat × Option Nat)} {N1 : Nat → Nat} {V1 : Nat → Nat → Int32} {W1 : Nat} {g1 : List z_E} {c1 : Nat × Nat} {v : Int32}   (hRm : z_Rm (hC A E N V W ++ g, c)) (hf : 1 ≤ f) (hw : 19 + z_pg.2.1 118 ≤ w) (hc : z_Ln L xs fv (f - 1) (w - (19 + z_pg.2.1 118)) 118 0 [(0, .ref 145)] [] (hC A E N V W ++ g, c) (.inl (some (.int v))) (hC A1 E1 N1 V1 W1 ++ g1, c1)) (kk : z_Ln L xs fv f w 133 31 [(0, .ref 145)] [.int v, .ref 145] (hC A1 E1 N1 V1 W1 ++ g1, c1) o T') : z_Ln L xs fv f w 133 27 [(0, .ref 145)] [.ref 145] (hC A E N V W ++ g, c) o T' := z_Ln.blk (pc' := 28) (lv' := [(0, .ref 145)]) (st' := [.ref 145, .ref 145]) (H' := hC A E N V W ++ g) (C := []) 13 1 rfl trivial (z_Ln.call (s := 0) (mj := 118) (as := [.ref 145]) (rr := [.ref 145]) (v := some (.int v)) (T1 := (hC A1 E1 N1 V1 W1 ++ g1, c1)) rfl rfl ⟨⟨hf, hw⟩, (by decide : (1 : Nat) ≤ 8), (by decide +kernel : (1 : Nat) ≤ z_pg.2.1 118)⟩ hRm hc ⟨⟨(z_sm0C 0 (by decide) rfl rfl), trivial⟩, ⟨(z_sm0C 0 (by decide) rfl rfl), trivial⟩⟩ (kk))
set_option maxRecDepth 10000 in
theorem e133_27x {L : Nat} {xs : Nat → Int32} {fv : Value} {f w : Nat} {c : Nat × Nat} {T' : z_Y} {A : Nat → List (Nat × Int32)} {E : List (Nat × Option Nat)} {N : Nat → Nat} {V : Nat → Nat → Int32} {W : Nat} {g : List z_E}  (hRm : z_Rm (hC A E N V W ++ g, c)) (hf : 1 ≤ f) (hw : 19 + z_pg.2.1 118 ≤ w) (hc : z_Ln L xs fv (f - 1) (w - (19 + z_pg.2.1 118)) 118 0 [(0, .ref 145)] [] (hC A E N V W ++ g, c) (.inr 10) T') : z_Ln L xs fv f w 133 27 [(0, .ref 145)] [.ref 145] (hC A E N V W ++ g, c) (.inr 10) T' := z_Ln.blk (pc' := 28) (lv' := [(0, .ref 145)]) (st' := [.ref 145, .ref 145]) (H' := hC A E N V W ++ g) (C := []) 13 1 rfl trivial (z_Ln.past (s := 0) (mj := 118) (as := [.ref 145]) (rr := [.ref 145]) rfl rfl ⟨⟨hf, hw⟩, (by decide : (1 : Nat) ≤ 8), (by decide +kernel : (1 : Nat) ≤ z_pg.2.1 118)⟩ hRm hc rfl)
set_option maxRecDepth 10000 in
theorem e133_31 {L : Nat} {xs : Nat → Int32} {fv : Value} {f w : Nat} {c : Nat × Nat} {o : z_V} {T' : z_Y} {A : Nat → List (Nat × Int32)} {E : List (Nat × Option Nat)} {N : Nat → Nat} {V : Nat → Nat → Int32} {W : Nat} {g : List z_E} {y0 : Int32}  (kk : z_Ln L xs fv f w 133 35 [(0, .ref 145)] [.int y0, .ref 145] (hC A E N V W ++ g, c) o T') : z_Ln L xs fv f w 133 31 [(0, .ref 145)] [.int y0, .ref 145] (hC A E N V W ++ g, c) o T' := z_Ln.blk (pc' := 35) (lv' := [(0, .ref 145)]) (st' := [.int y0, .ref 145]) (H' := hC A E N V W ++ g) (C := []) 15 1 rfl trivial (kk)
set_option maxRecDepth 10000 in
theorem e133_34 {L : Nat} {xs : Nat → Int32} {fv : Value} {f w : Nat} {c : Nat × Nat} {o : z_V} {T' : z_Y} {A : Nat → List (Nat × Int32)} {E : List (Nat × Option Nat)} {N : Nat → Nat} {V : Nat → Nat → Int32} {W : Nat} {g : List z_E}  (kk : z_Ln L xs fv f w 133 35 [(0, .ref 145)] [.int 0, .ref 145] (hC A E N V W ++ g, c) o T') : z_Ln L xs fv f w 133 34 [(0, .ref 145)] [.ref 145] (hC A E N V W ++ g, c) o T' := z_Ln.blk (pc' := 35) (lv' := [(0, .ref 145)]) (st' := [.int 0, .ref 145]) (H' := hC A E N V W ++ g) (C := []) 16 1 rfl trivial (kk)
set_option maxRecDepth 10000 in
theorem e133_35 {L : Nat} {xs : Nat → Int32} {fv : Value} {f w : Nat} {c : Nat × Nat} {A : Nat → List (Nat × Int32)} {E : List (Nat × Option Nat)} {N : Nat → Nat} {V : Nat → Nat → Int32} {W : Nat} {g : List z_E} {y0 : Int32}  : z_Ln L xs fv f w 133 35 [(0, .ref 145)] [.int y0, .ref 145] (hC A E N V W ++ g, c) (.inl none) (hC A E N (z_v V 38 8 (y0)) W ++ g, c) := z_Ln.blk (pc' := 38) (lv' := [(0, .ref 145)]) (st' := []) (H' := hC A E N (z_v V 38 8 (y0)) W ++ g) (C := [z_fit (z_fty 8 8) (.int y0) = true]) 17 1 rfl z_fitI (z_Ln.ret rfl rfl)
def p133_35 (l : Nat) (A : Nat → List (Nat × Int32)) (E : List (Nat × Option Nat)) (N : Nat → Nat) (V : Nat → Nat → Int32) (W : Nat) (c : Nat × Nat) (y0 : Int32) (Q : z_V → z_CS → Prop) : Prop := Q (.inl (none)) (A, E, N, (z_v V 38 8 (y0)), W, c)
set_option maxRecDepth 10000 in
theorem t133_35 {l : Nat} {A : Nat → List (Nat × Int32)} {E : List (Nat × Option Nat)} {N : Nat → Nat} {V : Nat → Nat → Int32} {W : Nat} {c : Nat × Nat} {y0 : Int32} {Q : z_V → z_CS → Prop} (h : p133_35 l A E N V W c y0 Q) : z_WC (l + 1) 133 35 [(0, .ref 145)] [.int y0, .ref 145] (A, E, N, V, W, c) Q := by
  unfold p133_35 at h
  exact ⟨(.inl (none)), (A, E, N, (z_v V 38 8 (y0)), W, c), fun _ _ _ _ _ _ hg hl => e133_35 , h⟩
def p133_31 (l : Nat) (A : Nat → List (Nat × Int32)) (E : List (Nat × Option Nat)) (N : Nat → Nat) (V : Nat → Nat → Int32) (W : Nat) (c : Nat × Nat) (y0 : Int32) (Q : z_V → z_CS → Prop) : Prop := p133_35 l A E N V W c y0 Q
set_option maxRecDepth 10000 in
theorem t133_31 {l : Nat} {A : Nat → List (Nat × Int32)} {E : List (Nat × Option Nat)} {N : Nat → Nat} {V : Nat → Nat → Int32} {W : Nat} {c : Nat × Nat} {y0 : Int32} {Q : z_V → z_CS → Prop} (h : p133_31 l A E N V W c y0 Q) : z_WC (l + 1) 133 31 [(0, .ref 145)] [.int y0, .ref 145] (A, E, N, V, W, c) Q := by
  unfold p133_31 at h
  exact z_WC.blk (t133_35 h) (fun _ _ _ _ _ _ _ _ hg hl k => e133_31  k)
def p133_27 (l : Nat) (A : Nat → List (Nat × Int32)) (E : List (Nat × Option Nat)) (N : Nat → Nat) (V : Nat → Nat → Int32) (W : Nat) (c : Nat × Nat)  (Q : z_V → z_CS → Prop) : Prop := z_Rm ([], c) ∧ z_WC l 118 0 [(0, .ref 145)] [] (A, E, N, V, W, c) (z_cx Q (fun x S1 => ∃ v : Int32, x = some (.int v) ∧ p133_31 l S1.1 S1.2.1 S1.2.2.1 S1.2.2.2.1 S1.2.2.2.2.1 S1.2.2.2.2.2 v Q))
set_option maxRecDepth 10000 in
theorem t133_27 {l : Nat} {A : Nat → List (Nat × Int32)} {E : List (Nat × Option Nat)} {N : Nat → Nat} {V : Nat → Nat → Int32} {W : Nat} {c : Nat × Nat}  {Q : z_V → z_CS → Prop} (h : p133_27 l A E N V W c  Q) : z_WC (l + 1) 133 27 [(0, .ref 145)] [.ref 145] (A, E, N, V, W, c) Q := by
  unfold p133_27 at h
  obtain ⟨hm, h⟩ := h
  obtain ⟨o, S1, hc, h⟩ := h
  cases o with
  | inl x =>
    obtain ⟨v, rfl, h⟩ := h
    obtain ⟨o2, S2, hk, hQ⟩ := t133_31 h
    exact ⟨o2, S2, fun L xs fv f w g hg hl => e133_27   hm hl.f1 (hl.w1 118 (by decide)) (hc L xs fv _ _ g hg (hl.dn 118 (by decide))) (hk L xs fv f w g hg hl), hQ⟩
  | inr e =>
    obtain ⟨rfl, h⟩ := h
    exact ⟨_, S1, fun L xs fv f w g hg hl => e133_27x  hm hl.f1 (hl.w1 118 (by decide)) (hc L xs fv _ _ g hg (hl.dn 118 (by decide))), h⟩
def p133_34 (l : Nat) (A : Nat → List (Nat × Int32)) (E : List (Nat × Option Nat)) (N : Nat → Nat) (V : Nat → Nat → Int32) (W : Nat) (c : Nat × Nat)  (Q : z_V → z_CS → Prop) : Prop := p133_35 l A E N V W c 0 Q
set_option maxRecDepth 10000 in
theorem t133_34 {l : Nat} {A : Nat → List (Nat × Int32)} {E : List (Nat × Option Nat)} {N : Nat → Nat} {V : Nat → Nat → Int32} {W : Nat} {c : Nat × Nat}  {Q : z_V → z_CS → Prop} (h : p133_34 l A E N V W c  Q) : z_WC (l + 1) 133 34 [(0, .ref 145)] [.ref 145] (A, E, N, V, W, c) Q := by
  unfold p133_34 at h
  exact z_WC.blk (t133_35 h) (fun _ _ _ _ _ _ _ _ hg hl k => e133_34  k)
def p133_16 (l : Nat) (A : Nat → List (Nat × Int32)) (E : List (Nat × Option Nat)) (N : Nat → Nat) (V : Nat → Nat → Int32) (W : Nat) (c : Nat × Nat)  (Q : z_V → z_CS → Prop) : Prop := (if (V 13 8) = 1 then p133_27 l A E N V W c  Q else p133_34 l A E N V W c  Q)
set_option maxRecDepth 10000 in
theorem t133_16 {l : Nat} {A : Nat → List (Nat × Int32)} {E : List (Nat × Option Nat)} {N : Nat → Nat} {V : Nat → Nat → Int32} {W : Nat} {c : Nat × Nat}  {Q : z_V → z_CS → Prop} (h : p133_16 l A E N V W c  Q) : z_WC (l + 1) 133 16 [(0, .ref 145)] [.ref 145] (A, E, N, V, W, c) Q := by
  unfold p133_16 at h
  by_cases hb : (V 13 8) = 1
  · rw [if_pos hb] at h
    exact z_WC.blk (t133_27 h) (fun _ _ _ _ _ _ _ _ hg hl k => e133_16f  (fun q => q hb) k)
  · rw [if_neg hb] at h
    exact z_WC.blk (t133_34 h) (fun _ _ _ _ _ _ _ _ hg hl k => e133_16t  hb k)
def p133_0 (l : Nat) (A : Nat → List (Nat × Int32)) (E : List (Nat × Option Nat)) (N : Nat → Nat) (V : Nat → Nat → Int32) (W : Nat) (c : Nat × Nat)  (Q : z_V → z_CS → Prop) : Prop := (if (V 13 8) = 0 then p133_27 l A E N (z_v V 38 7 (2)) W c  Q else p133_16 l A E N (z_v V 38 7 (2)) W c  Q)
set_option maxRecDepth 10000 in
theorem t133_0 {l : Nat} {A : Nat → List (Nat × Int32)} {E : List (Nat × Option Nat)} {N : Nat → Nat} {V : Nat → Nat → Int32} {W : Nat} {c : Nat × Nat}  {Q : z_V → z_CS → Prop} (h : p133_0 l A E N V W c  Q) : z_WC (l + 1) 133 0 [(0, .ref 145)] [] (A, E, N, V, W, c) Q := by
  unfold p133_0 at h
  by_cases hb : (V 13 8) = 0
  · rw [if_pos hb] at h
    exact z_WC.blk (t133_27 h) (fun _ _ _ _ _ _ _ _ hg hl k => e133_0t  hb k)
  · rw [if_neg hb] at h
    exact z_WC.blk (t133_16 h) (fun _ _ _ _ _ _ _ _ hg hl k => e133_0f  hb k)
set_option maxRecDepth 10000 in
theorem e120_0 {L : Nat} {xs : Nat → Int32} {fv : Value} {f w : Nat} {c : Nat × Nat} {o : z_V} {T' : z_Y} {A : Nat → List (Nat × Int32)} {E : List (Nat × Option Nat)} {N : Nat → Nat} {V : Nat → Nat → Int32} {W : Nat} {g : List z_E}  (h1 : z_in (V 38 6) (N 14) = true) (kk : z_Ln L xs fv f w 120 12 [(0, .ref 145)] [.int (z_fn 0 (A 14) (V 38 6).toNatClampNeg)] (hC A E N V W ++ g, c) o T') : z_Ln L xs fv f w 120 0 [(0, .ref 145)] [] (hC A E N V W ++ g, c) o T' := z_Ln.blk (pc' := 12) (lv' := [(0, .ref 145)]) (st' := [.int (z_fn 0 (A 14) (V 38 6).toNatClampNeg)]) (H' := hC A E N V W ++ g) (C := [z_in (V 38 6) (N 14) = true]) 0 6 rfl h1 kk
set_option maxRecDepth 10000 in
theorem e120_80 {L : Nat} {xs : Nat → Int32} {fv : Value} {f w : Nat} {c : Nat × Nat} {o : z_V} {T' : z_Y} {A : Nat → List (Nat × Int32)} {E : List (Nat × Option Nat)} {N : Nat → Nat} {V : Nat → Nat → Int32} {W : Nat} {g : List z_E} {A1 : Nat → List (Nat × Int32)} {E1 : List (Nat × Option Nat)} {N1 : Nat → Nat} {V1 : Nat → Nat → Int32} {W1 : Nat} {g1 : List z_E} {c1 : Nat × Nat}   (hRm : z_Rm (hC A E N (z_v V 38 10 ((V 38 10) + 1)) W ++ g, c)) (hf : 1 ≤ f) (hw : 19 + z_pg.2.1 121 ≤ w) (hc : z_Ln L xs fv (f - 1) (w - (19 + z_pg.2.1 121)) 121 0 [(0, .ref 145)] [] (hC A E N (z_v V 38 10 ((V 38 10) + 1)) W ++ g, c) (.inl (none)) (hC A1 E1 N1 V1 W1 ++ g1, c1)) (kk : z_Ln L xs fv f w 120 94 [(0, .ref 145)] [] (hC A1 E1 N1 V1 W1 ++ g1, c1) o T') : z_Ln L xs fv f w 120 80 [(0, .ref 145)] [] (hC A E N V W ++ g, c) o T' := z_Ln.blk (pc' := 91) (lv' := [(0, .ref 145)]) (st' := [.ref 145]) (H' := hC A E N (z_v V 38 10 ((V 38 10) + 1)) W ++ g) (C := [z_fit (z_fty 8 10) (.int ((V 38 10) + 1)) = true]) 7 7 rfl z_fitI (z_Ln.call (s := 0) (mj := 121) (as := [.ref 145]) (rr := []) (v := none) (T1 := (hC A1 E1 N1 V1 W1 ++ g1, c1)) rfl rfl ⟨⟨hf, hw⟩, (by decide : (0 : Nat) ≤ 8), (by decide +kernel : (1 : Nat) ≤ z_pg.2.1 121)⟩ hRm hc ⟨trivial, ⟨(z_sm0C 0 (by decide) rfl rfl), trivial⟩⟩ (kk))
set_option maxRecDepth 10000 in
theorem e120_80x {L : Nat} {xs : Nat → Int32} {fv : Value} {f w : Nat} {c : Nat × Nat} {T' : z_Y} {A : Nat → List (Nat × Int32)} {E : List (Nat × Option Nat)} {N : Nat → Nat} {V : Nat → Nat → Int32} {W : Nat} {g : List z_E}  (hRm : z_Rm (hC A E N (z_v V 38 10 ((V 38 10) + 1)) W ++ g, c)) (hf : 1 ≤ f) (hw : 19 + z_pg.2.1 121 ≤ w) (hc : z_Ln L xs fv (f - 1) (w - (19 + z_pg.2.1 121)) 121 0 [(0, .ref 145)] [] (hC A E N (z_v V 38 10 ((V 38 10) + 1)) W ++ g, c) (.inr 10) T') : z_Ln L xs fv f w 120 80 [(0, .ref 145)] [] (hC A E N V W ++ g, c) (.inr 10) T' := z_Ln.blk (pc' := 91) (lv' := [(0, .ref 145)]) (st' := [.ref 145]) (H' := hC A E N (z_v V 38 10 ((V 38 10) + 1)) W ++ g) (C := [z_fit (z_fty 8 10) (.int ((V 38 10) + 1)) = true]) 7 7 rfl z_fitI (z_Ln.past (s := 0) (mj := 121) (as := [.ref 145]) (rr := []) rfl rfl ⟨⟨hf, hw⟩, (by decide : (0 : Nat) ≤ 8), (by decide +kernel : (1 : Nat) ≤ z_pg.2.1 121)⟩ hRm hc rfl)
set_option maxRecDepth 10000 in
theorem e120_94 {L : Nat} {xs : Nat → Int32} {fv : Value} {f w : Nat} {c : Nat × Nat} {o : z_V} {T' : z_Y} {A : Nat → List (Nat × Int32)} {E : List (Nat × Option Nat)} {N : Nat → Nat} {V : Nat → Nat → Int32} {W : Nat} {g : List z_E}  (kk : z_Ln L xs fv f w 120 204 [(0, .ref 145)] [] (hC A E N V W ++ g, c) o T') : z_Ln L xs fv f w 120 94 [(0, .ref 145)] [] (hC A E N V W ++ g, c) o T' := z_Ln.blk (pc' := 204) (lv' := [(0, .ref 145)]) (st' := []) (H' := hC A E N V W ++ g) (C := []) 15 1 rfl trivial (kk)
set_option maxRecDepth 10000 in
theorem e120_97 {L : Nat} {xs : Nat → Int32} {fv : Value} {f w : Nat} {c : Nat × Nat} {o : z_V} {T' : z_Y} {A : Nat → List (Nat × Int32)} {E : List (Nat × Option Nat)} {N : Nat → Nat} {V : Nat → Nat → Int32} {W : Nat} {g : List z_E} {A1 : Nat → List (Nat × Int32)} {E1 : List (Nat × Option Nat)} {N1 : Nat → Nat} {V1 : Nat → Nat → Int32} {W1 : Nat} {g1 : List z_E} {c1 : Nat × Nat} (h1 : z_in (V 38 6) (N 15) = true)  (hRm : z_Rm (hC A E N (z_v V 38 10 ((V 38 10) + 1)) W ++ g, c)) (hf : 1 ≤ f) (hw : 19 + z_pg.2.1 124 ≤ w) (hc : z_Ln L xs fv (f - 1) (w - (19 + z_pg.2.1 124)) 124 0 [(0, .ref 145), (1, .int (z_fn 0 (A 15) (V 38 6).toNatClampNeg))] [] (hC A E N (z_v V 38 10 ((V 38 10) + 1)) W ++ g, c) (.inl (none)) (hC A1 E1 N1 V1 W1 ++ g1, c1)) (kk : z_Ln L xs fv f w 120 123 [(0, .ref 145)] [] (hC A1 E1 N1 V1 W1 ++ g1, c1) o T') : z_Ln L xs fv f w 120 97 [(0, .ref 145)] [] (hC A E N V W ++ g, c) o T' := z_Ln.blk (pc' := 120) (lv' := [(0, .ref 145)]) (st' := [.int (z_fn 0 (A 15) (V 38 6).toNatClampNeg), .ref 145]) (H' := hC A E N (z_v V 38 10 ((V 38 10) + 1)) W ++ g) (C := [z_fit (z_fty 8 10) (.int ((V 38 10) + 1)) = true, z_in (V 38 6) (N 15) = true]) 16 13 rfl ⟨z_fitI, h1⟩ (z_Ln.call (s := 0) (mj := 124) (as := [.ref 145, .int (z_fn 0 (A 15) (V 38 6).toNatClampNeg)]) (rr := []) (v := none) (T1 := (hC A1 E1 N1 V1 W1 ++ g1, c1)) rfl rfl ⟨⟨hf, hw⟩, (by decide : (0 : Nat) ≤ 8), (by decide +kernel : (2 : Nat) ≤ z_pg.2.1 124)⟩ hRm hc ⟨trivial, ⟨(z_sm0C 0 (by decide) rfl rfl), trivial⟩⟩ (kk))
set_option maxRecDepth 10000 in
theorem e120_97x {L : Nat} {xs : Nat → Int32} {fv : Value} {f w : Nat} {c : Nat × Nat} {T' : z_Y} {A : Nat → List (Nat × Int32)} {E : List (Nat × Option Nat)} {N : Nat → Nat} {V : Nat → Nat → Int32} {W : Nat} {g : List z_E} (h1 : z_in (V 38 6) (N 15) = true) (hRm : z_Rm (hC A E N (z_v V 38 10 ((V 38 10) + 1)) W ++ g, c)) (hf : 1 ≤ f) (hw : 19 + z_pg.2.1 124 ≤ w) (hc : z_Ln L xs fv (f - 1) (w - (19 + z_pg.2.1 124)) 124 0 [(0, .ref 145), (1, .int (z_fn 0 (A 15) (V 38 6).toNatClampNeg))] [] (hC A E N (z_v V 38 10 ((V 38 10) + 1)) W ++ g, c) (.inr 10) T') : z_Ln L xs fv f w 120 97 [(0, .ref 145)] [] (hC A E N V W ++ g, c) (.inr 10) T' := z_Ln.blk (pc' := 120) (lv' := [(0, .ref 145)]) (st' := [.int (z_fn 0 (A 15) (V 38 6).toNatClampNeg), .ref 145]) (H' := hC A E N (z_v V 38 10 ((V 38 10) + 1)) W ++ g) (C := [z_fit (z_fty 8 10) (.int ((V 38 10) + 1)) = true, z_in (V 38 6) (N 15) = true]) 16 13 rfl ⟨z_fitI, h1⟩ (z_Ln.past (s := 0) (mj := 124) (as := [.ref 145, .int (z_fn 0 (A 15) (V 38 6).toNatClampNeg)]) (rr := []) rfl rfl ⟨⟨hf, hw⟩, (by decide : (0 : Nat) ≤ 8), (by decide +kernel : (2 : Nat) ≤ z_pg.2.1 124)⟩ hRm hc rfl)
set_option maxRecDepth 10000 in
theorem e120_123 {L : Nat} {xs : Nat → Int32} {fv : Value} {f w : Nat} {c : Nat × Nat} {o : z_V} {T' : z_Y} {A : Nat → List (Nat × Int32)} {E : List (Nat × Option Nat)} {N : Nat → Nat} {V : Nat → Nat → Int32} {W : Nat} {g : List z_E}  (kk : z_Ln L xs fv f w 120 204 [(0, .ref 145)] [] (hC A E N V W ++ g, c) o T') : z_Ln L xs fv f w 120 123 [(0, .ref 145)] [] (hC A E N V W ++ g, c) o T' := z_Ln.blk (pc' := 204) (lv' := [(0, .ref 145)]) (st' := []) (H' := hC A E N V W ++ g) (C := []) 30 1 rfl trivial (kk)
set_option maxRecDepth 10000 in
theorem e120_126 {L : Nat} {xs : Nat → Int32} {fv : Value} {f w : Nat} {c : Nat × Nat} {o : z_V} {T' : z_Y} {A : Nat → List (Nat × Int32)} {E : List (Nat × Option Nat)} {N : Nat → Nat} {V : Nat → Nat → Int32} {W : Nat} {g : List z_E} {A1 : Nat → List (Nat × Int32)} {E1 : List (Nat × Option Nat)} {N1 : Nat → Nat} {V1 : Nat → Nat → Int32} {W1 : Nat} {g1 : List z_E} {c1 : Nat × Nat}   (hRm : z_Rm (hC A E N V W ++ g, c)) (hf : 1 ≤ f) (hw : 19 + z_pg.2.1 129 ≤ w) (hc : z_Ln L xs fv (f - 1) (w - (19 + z_pg.2.1 129)) 129 0 [(0, .ref 145)] [] (hC A E N V W ++ g, c) (.inl (none)) (hC A1 E1 N1 V1 W1 ++ g1, c1)) (kk : z_Ln L xs fv f w 120 130 [(0, .ref 145)] [] (hC A1 E1 N1 V1 W1 ++ g1, c1) o T') : z_Ln L xs fv f w 120 126 [(0, .ref 145)] [] (hC A E N V W ++ g, c) o T' := z_Ln.blk (pc' := 127) (lv' := [(0, .ref 145)]) (st' := [.ref 145]) (H' := hC A E N V W ++ g) (C := []) 31 1 rfl trivial (z_Ln.call (s := 0) (mj := 129) (as := [.ref 145]) (rr := []) (v := none) (T1 := (hC A1 E1 N1 V1 W1 ++ g1, c1)) rfl rfl ⟨⟨hf, hw⟩, (by decide : (0 : Nat) ≤ 8), (by decide +kernel : (1 : Nat) ≤ z_pg.2.1 129)⟩ hRm hc ⟨trivial, ⟨(z_sm0C 0 (by decide) rfl rfl), trivial⟩⟩ (kk))
set_option maxRecDepth 10000 in
theorem e120_126x {L : Nat} {xs : Nat → Int32} {fv : Value} {f w : Nat} {c : Nat × Nat} {T' : z_Y} {A : Nat → List (Nat × Int32)} {E : List (Nat × Option Nat)} {N : Nat → Nat} {V : Nat → Nat → Int32} {W : Nat} {g : List z_E}  (hRm : z_Rm (hC A E N V W ++ g, c)) (hf : 1 ≤ f) (hw : 19 + z_pg.2.1 129 ≤ w) (hc : z_Ln L xs fv (f - 1) (w - (19 + z_pg.2.1 129)) 129 0 [(0, .ref 145)] [] (hC A E N V W ++ g, c) (.inr 10) T') : z_Ln L xs fv f w 120 126 [(0, .ref 145)] [] (hC A E N V W ++ g, c) (.inr 10) T' := z_Ln.blk (pc' := 127) (lv' := [(0, .ref 145)]) (st' := [.ref 145]) (H' := hC A E N V W ++ g) (C := []) 31 1 rfl trivial (z_Ln.past (s := 0) (mj := 129) (as := [.ref 145]) (rr := []) rfl rfl ⟨⟨hf, hw⟩, (by decide : (0 : Nat) ≤ 8), (by decide +kernel : (1 : Nat) ≤ z_pg.2.1 129)⟩ hRm hc rfl)
set_option maxRecDepth 10000 in
theorem e120_130 {L : Nat} {xs : Nat → Int32} {fv : Value} {f w : Nat} {c : Nat × Nat} {o : z_V} {T' : z_Y} {A : Nat → List (Nat × Int32)} {E : List (Nat × Option Nat)} {N : Nat → Nat} {V : Nat → Nat → Int32} {W : Nat} {g : List z_E}  (kk : z_Ln L xs fv f w 120 204 [(0, .ref 145)] [] (hC A E N V W ++ g, c) o T') : z_Ln L xs fv f w 120 130 [(0, .ref 145)] [] (hC A E N V W ++ g, c) o T' := z_Ln.blk (pc' := 204) (lv' := [(0, .ref 145)]) (st' := []) (H' := hC A E N V W ++ g) (C := []) 33 1 rfl trivial (kk)
set_option maxRecDepth 10000 in
theorem e120_133 {L : Nat} {xs : Nat → Int32} {fv : Value} {f w : Nat} {c : Nat × Nat} {o : z_V} {T' : z_Y} {A : Nat → List (Nat × Int32)} {E : List (Nat × Option Nat)} {N : Nat → Nat} {V : Nat → Nat → Int32} {W : Nat} {g : List z_E} {A1 : Nat → List (Nat × Int32)} {E1 : List (Nat × Option Nat)} {N1 : Nat → Nat} {V1 : Nat → Nat → Int32} {W1 : Nat} {g1 : List z_E} {c1 : Nat × Nat}   (hRm : z_Rm (hC A E N V W ++ g, c)) (hf : 1 ≤ f) (hw : 19 + z_pg.2.1 131 ≤ w) (hc : z_Ln L xs fv (f - 1) (w - (19 + z_pg.2.1 131)) 131 0 [(0, .ref 145)] [] (hC A E N V W ++ g, c) (.inl (none)) (hC A1 E1 N1 V1 W1 ++ g1, c1)) (kk : z_Ln L xs fv f w 120 137 [(0, .ref 145)] [] (hC A1 E1 N1 V1 W1 ++ g1, c1) o T') : z_Ln L xs fv f w 120 133 [(0, .ref 145)] [] (hC A E N V W ++ g, c) o T' := z_Ln.blk (pc' := 134) (lv' := [(0, .ref 145)]) (st' := [.ref 145]) (H' := hC A E N V W ++ g) (C := []) 34 1 rfl trivial (z_Ln.call (s := 0) (mj := 131) (as := [.ref 145]) (rr := []) (v := none) (T1 := (hC A1 E1 N1 V1 W1 ++ g1, c1)) rfl rfl ⟨⟨hf, hw⟩, (by decide : (0 : Nat) ≤ 8), (by decide +kernel : (1 : Nat) ≤ z_pg.2.1 131)⟩ hRm hc ⟨trivial, ⟨(z_sm0C 0 (by decide) rfl rfl), trivial⟩⟩ (kk))
set_option maxRecDepth 10000 in
theorem e120_133x {L : Nat} {xs : Nat → Int32} {fv : Value} {f w : Nat} {c : Nat × Nat} {T' : z_Y} {A : Nat → List (Nat × Int32)} {E : List (Nat × Option Nat)} {N : Nat → Nat} {V : Nat → Nat → Int32} {W : Nat} {g : List z_E}  (hRm : z_Rm (hC A E N V W ++ g, c)) (hf : 1 ≤ f) (hw : 19 + z_pg.2.1 131 ≤ w) (hc : z_Ln L xs fv (f - 1) (w - (19 + z_pg.2.1 131)) 131 0 [(0, .ref 145)] [] (hC A E N V W ++ g, c) (.inr 10) T') : z_Ln L xs fv f w 120 133 [(0, .ref 145)] [] (hC A E N V W ++ g, c) (.inr 10) T' := z_Ln.blk (pc' := 134) (lv' := [(0, .ref 145)]) (st' := [.ref 145]) (H' := hC A E N V W ++ g) (C := []) 34 1 rfl trivial (z_Ln.past (s := 0) (mj := 131) (as := [.ref 145]) (rr := []) rfl rfl ⟨⟨hf, hw⟩, (by decide : (0 : Nat) ≤ 8), (by decide +kernel : (1 : Nat) ≤ z_pg.2.1 131)⟩ hRm hc rfl)
set_option maxRecDepth 10000 in
theorem e120_137 {L : Nat} {xs : Nat → Int32} {fv : Value} {f w : Nat} {c : Nat × Nat} {o : z_V} {T' : z_Y} {A : Nat → List (Nat × Int32)} {E : List (Nat × Option Nat)} {N : Nat → Nat} {V : Nat → Nat → Int32} {W : Nat} {g : List z_E}  (kk : z_Ln L xs fv f w 120 204 [(0, .ref 145)] [] (hC A E N V W ++ g, c) o T') : z_Ln L xs fv f w 120 137 [(0, .ref 145)] [] (hC A E N V W ++ g, c) o T' := z_Ln.blk (pc' := 204) (lv' := [(0, .ref 145)]) (st' := []) (H' := hC A E N V W ++ g) (C := []) 36 1 rfl trivial (kk)
set_option maxRecDepth 10000 in
theorem e120_140 {L : Nat} {xs : Nat → Int32} {fv : Value} {f w : Nat} {c : Nat × Nat} {o : z_V} {T' : z_Y} {A : Nat → List (Nat × Int32)} {E : List (Nat × Option Nat)} {N : Nat → Nat} {V : Nat → Nat → Int32} {W : Nat} {g : List z_E} {A1 : Nat → List (Nat × Int32)} {E1 : List (Nat × Option Nat)} {N1 : Nat → Nat} {V1 : Nat → Nat → Int32} {W1 : Nat} {g1 : List z_E} {c1 : Nat × Nat} {v : Int32}  (hN39 : N1 39 = N 39) (hRm : z_Rm (hC A E N V W ++ g, c)) (hf : 1 ≤ f) (hw : 19 + z_pg.2.1 118 ≤ w) (hc : z_Ln L xs fv (f - 1) (w - (19 + z_pg.2.1 118)) 118 0 [(0, .ref 145)] [] (hC A E N V W ++ g, c) (.inl (some (.int v))) (hC A1 E1 N1 V1 W1 ++ g1, c1)) (kk : z_Ln L xs fv f w 120 154 [(0, .ref 145)] [.int v, .int ((V 38 3) + 4), .ref 146] (hC A1 E1 N1 V1 W1 ++ g1, c1) o T') : z_Ln L xs fv f w 120 140 [(0, .ref 145)] [] (hC A E N V W ++ g, c) o T' := z_Ln.blk (pc' := 151) (lv' := [(0, .ref 145)]) (st' := [.ref 145, .int ((V 38 3) + 4), .ref 146]) (H' := hC A E N V W ++ g) (C := []) 37 7 rfl trivial (z_Ln.call (s := 0) (mj := 118) (as := [.ref 145]) (rr := [.int ((V 38 3) + 4), .ref 146]) (v := some (.int v)) (T1 := (hC A1 E1 N1 V1 W1 ++ g1, c1)) rfl rfl ⟨⟨hf, hw⟩, (by decide : (2 : Nat) ≤ 8), (by decide +kernel : (1 : Nat) ≤ z_pg.2.1 118)⟩ hRm hc ⟨⟨trivial, (z_sm0C (N 39) (by decide) rfl hN39), trivial⟩, ⟨(z_sm0C 0 (by decide) rfl rfl), trivial⟩⟩ (kk))
set_option maxRecDepth 10000 in
theorem e120_140x {L : Nat} {xs : Nat → Int32} {fv : Value} {f w : Nat} {c : Nat × Nat} {T' : z_Y} {A : Nat → List (Nat × Int32)} {E : List (Nat × Option Nat)} {N : Nat → Nat} {V : Nat → Nat → Int32} {W : Nat} {g : List z_E}  (hRm : z_Rm (hC A E N V W ++ g, c)) (hf : 1 ≤ f) (hw : 19 + z_pg.2.1 118 ≤ w) (hc : z_Ln L xs fv (f - 1) (w - (19 + z_pg.2.1 118)) 118 0 [(0, .ref 145)] [] (hC A E N V W ++ g, c) (.inr 10) T') : z_Ln L xs fv f w 120 140 [(0, .ref 145)] [] (hC A E N V W ++ g, c) (.inr 10) T' := z_Ln.blk (pc' := 151) (lv' := [(0, .ref 145)]) (st' := [.ref 145, .int ((V 38 3) + 4), .ref 146]) (H' := hC A E N V W ++ g) (C := []) 37 7 rfl trivial (z_Ln.past (s := 0) (mj := 118) (as := [.ref 145]) (rr := [.int ((V 38 3) + 4), .ref 146]) rfl rfl ⟨⟨hf, hw⟩, (by decide : (2 : Nat) ≤ 8), (by decide +kernel : (1 : Nat) ≤ z_pg.2.1 118)⟩ hRm hc rfl)
set_option maxRecDepth 10000 in
theorem e120_154 {L : Nat} {xs : Nat → Int32} {fv : Value} {f w : Nat} {c : Nat × Nat} {o : z_V} {T' : z_Y} {A : Nat → List (Nat × Int32)} {E : List (Nat × Option Nat)} {N : Nat → Nat} {V : Nat → Nat → Int32} {W : Nat} {g : List z_E} {y0 : Int32} {y1 : Int32} (h1 : z_in y1 (N 39) = true) (h2 : z_in ((V 38 3) + 3) (N 39) = true) (kk : z_Ln L xs fv f w 120 204 [(0, .ref 145)] [] (hC (z_u A 39 ((((V 38 3) + 3).toNatClampNeg, ((-1))) :: (y1.toNatClampNeg, y0) :: A 39)) E N (z_v V 38 6 ((V 38 6) + 1)) W ++ g, c) o T') : z_Ln L xs fv f w 120 154 [(0, .ref 145)] [.int y0, .int y1, .ref 146] (hC A E N V W ++ g, c) o T' := z_Ln.blk (pc' := 204) (lv' := [(0, .ref 145)]) (st' := []) (H' := hC (z_u A 39 ((((V 38 3) + 3).toNatClampNeg, ((-1))) :: (y1.toNatClampNeg, y0) :: A 39)) E N (z_v V 38 6 ((V 38 6) + 1)) W ++ g) (C := [z_in y1 (N 39) = true, z_in ((V 38 3) + 3) (N 39) = true, z_fit (z_fty 8 6) (.int ((V 38 6) + 1)) = true]) 45 16 rfl ⟨h1, h2, z_fitI⟩ (kk)
set_option maxRecDepth 10000 in
theorem e120_180 {L : Nat} {xs : Nat → Int32} {fv : Value} {f w : Nat} {c : Nat × Nat} {o : z_V} {T' : z_Y} {A : Nat → List (Nat × Int32)} {E : List (Nat × Option Nat)} {N : Nat → Nat} {V : Nat → Nat → Int32} {W : Nat} {g : List z_E} {A1 : Nat → List (Nat × Int32)} {E1 : List (Nat × Option Nat)} {N1 : Nat → Nat} {V1 : Nat → Nat → Int32} {W1 : Nat} {g1 : List z_E} {c1 : Nat × Nat}   (hRm : z_Rm (hC A E N V W ++ g, c)) (hf : 1 ≤ f) (hw : 19 + z_pg.2.1 132 ≤ w) (hc : z_Ln L xs fv (f - 1) (w - (19 + z_pg.2.1 132)) 132 0 [(0, .ref 145)] [] (hC A E N V W ++ g, c) (.inl (none)) (hC A1 E1 N1 V1 W1 ++ g1, c1)) (kk : z_Ln L xs fv f w 120 184 [(0, .ref 145)] [] (hC A1 E1 N1 V1 W1 ++ g1, c1) o T') : z_Ln L xs fv f w 120 180 [(0, .ref 145)] [] (hC A E N V W ++ g, c) o T' := z_Ln.blk (pc' := 181) (lv' := [(0, .ref 145)]) (st' := [.ref 145]) (H' := hC A E N V W ++ g) (C := []) 61 1 rfl trivial (z_Ln.call (s := 0) (mj := 132) (as := [.ref 145]) (rr := []) (v := none) (T1 := (hC A1 E1 N1 V1 W1 ++ g1, c1)) rfl rfl ⟨⟨hf, hw⟩, (by decide : (0 : Nat) ≤ 8), (by decide +kernel : (1 : Nat) ≤ z_pg.2.1 132)⟩ hRm hc ⟨trivial, ⟨(z_sm0C 0 (by decide) rfl rfl), trivial⟩⟩ (kk))
set_option maxRecDepth 10000 in
theorem e120_180x {L : Nat} {xs : Nat → Int32} {fv : Value} {f w : Nat} {c : Nat × Nat} {T' : z_Y} {A : Nat → List (Nat × Int32)} {E : List (Nat × Option Nat)} {N : Nat → Nat} {V : Nat → Nat → Int32} {W : Nat} {g : List z_E}  (hRm : z_Rm (hC A E N V W ++ g, c)) (hf : 1 ≤ f) (hw : 19 + z_pg.2.1 132 ≤ w) (hc : z_Ln L xs fv (f - 1) (w - (19 + z_pg.2.1 132)) 132 0 [(0, .ref 145)] [] (hC A E N V W ++ g, c) (.inr 10) T') : z_Ln L xs fv f w 120 180 [(0, .ref 145)] [] (hC A E N V W ++ g, c) (.inr 10) T' := z_Ln.blk (pc' := 181) (lv' := [(0, .ref 145)]) (st' := [.ref 145]) (H' := hC A E N V W ++ g) (C := []) 61 1 rfl trivial (z_Ln.past (s := 0) (mj := 132) (as := [.ref 145]) (rr := []) rfl rfl ⟨⟨hf, hw⟩, (by decide : (0 : Nat) ≤ 8), (by decide +kernel : (1 : Nat) ≤ z_pg.2.1 132)⟩ hRm hc rfl)
set_option maxRecDepth 10000 in
theorem e120_184 {L : Nat} {xs : Nat → Int32} {fv : Value} {f w : Nat} {c : Nat × Nat} {o : z_V} {T' : z_Y} {A : Nat → List (Nat × Int32)} {E : List (Nat × Option Nat)} {N : Nat → Nat} {V : Nat → Nat → Int32} {W : Nat} {g : List z_E}  (kk : z_Ln L xs fv f w 120 204 [(0, .ref 145)] [] (hC A E N V W ++ g, c) o T') : z_Ln L xs fv f w 120 184 [(0, .ref 145)] [] (hC A E N V W ++ g, c) o T' := z_Ln.blk (pc' := 204) (lv' := [(0, .ref 145)]) (st' := []) (H' := hC A E N V W ++ g) (C := []) 63 1 rfl trivial (kk)
set_option maxRecDepth 10000 in
theorem e120_187 {L : Nat} {xs : Nat → Int32} {fv : Value} {f w : Nat} {c : Nat × Nat} {o : z_V} {T' : z_Y} {A : Nat → List (Nat × Int32)} {E : List (Nat × Option Nat)} {N : Nat → Nat} {V : Nat → Nat → Int32} {W : Nat} {g : List z_E} {A1 : Nat → List (Nat × Int32)} {E1 : List (Nat × Option Nat)} {N1 : Nat → Nat} {V1 : Nat → Nat → Int32} {W1 : Nat} {g1 : List z_E} {c1 : Nat × Nat}   (hRm : z_Rm (hC A E N V W ++ g, c)) (hf : 1 ≤ f) (hw : 19 + z_pg.2.1 133 ≤ w) (hc : z_Ln L xs fv (f - 1) (w - (19 + z_pg.2.1 133)) 133 0 [(0, .ref 145)] [] (hC A E N V W ++ g, c) (.inl (none)) (hC A1 E1 N1 V1 W1 ++ g1, c1)) (kk : z_Ln L xs fv f w 120 191 [(0, .ref 145)] [] (hC A1 E1 N1 V1 W1 ++ g1, c1) o T') : z_Ln L xs fv f w 120 187 [(0, .ref 145)] [] (hC A E N V W ++ g, c) o T' := z_Ln.blk (pc' := 188) (lv' := [(0, .ref 145)]) (st' := [.ref 145]) (H' := hC A E N V W ++ g) (C := []) 64 1 rfl trivial (z_Ln.call (s := 0) (mj := 133) (as := [.ref 145]) (rr := []) (v := none) (T1 := (hC A1 E1 N1 V1 W1 ++ g1, c1)) rfl rfl ⟨⟨hf, hw⟩, (by decide : (0 : Nat) ≤ 8), (by decide +kernel : (1 : Nat) ≤ z_pg.2.1 133)⟩ hRm hc ⟨trivial, ⟨(z_sm0C 0 (by decide) rfl rfl), trivial⟩⟩ (kk))
set_option maxRecDepth 10000 in
theorem e120_187x {L : Nat} {xs : Nat → Int32} {fv : Value} {f w : Nat} {c : Nat × Nat} {T' : z_Y} {A : Nat → List (Nat × Int32)} {E : List (Nat × Option Nat)} {N : Nat → Nat} {V : Nat → Nat → Int32} {W : Nat} {g : List z_E}  (hRm : z_Rm (hC A E N V W ++ g, c)) (hf : 1 ≤ f) (hw : 19 + z_pg.2.1 133 ≤ w) (hc : z_Ln L xs fv (f - 1) (w - (19 + z_pg.2.1 133)) 133 0 [(0, .ref 145)] [] (hC A E N V W ++ g, c) (.inr 10) T') : z_Ln L xs fv f w 120 187 [(0, .ref 145)] [] (hC A E N V W ++ g, c) (.inr 10) T' := z_Ln.blk (pc' := 188) (lv' := [(0, .ref 145)]) (st' := [.ref 145]) (H' := hC A E N V W ++ g) (C := []) 64 1 rfl trivial (z_Ln.past (s := 0) (mj := 133) (as := [.ref 145]) (rr := []) rfl rfl ⟨⟨hf, hw⟩, (by decide : (0 : Nat) ≤ 8), (by decide +kernel : (1 : Nat) ≤ z_pg.2.1 133)⟩ hRm hc rfl)
set_option maxRecDepth 10000 in
theorem e120_191 {L : Nat} {xs : Nat → Int32} {fv : Value} {f w : Nat} {c : Nat × Nat} {o : z_V} {T' : z_Y} {A : Nat → List (Nat × Int32)} {E : List (Nat × Option Nat)} {N : Nat → Nat} {V : Nat → Nat → Int32} {W : Nat} {g : List z_E}  (kk : z_Ln L xs fv f w 120 204 [(0, .ref 145)] [] (hC A E N V W ++ g, c) o T') : z_Ln L xs fv f w 120 191 [(0, .ref 145)] [] (hC A E N V W ++ g, c) o T' := z_Ln.blk (pc' := 204) (lv' := [(0, .ref 145)]) (st' := []) (H' := hC A E N V W ++ g) (C := []) 66 1 rfl trivial (kk)
set_option maxRecDepth 10000 in
theorem e120_194 {L : Nat} {xs : Nat → Int32} {fv : Value} {f w : Nat} {c : Nat × Nat} {o : z_V} {T' : z_Y} {A : Nat → List (Nat × Int32)} {E : List (Nat × Option Nat)} {N : Nat → Nat} {V : Nat → Nat → Int32} {W : Nat} {g : List z_E}  (kk : z_Ln L xs fv f w 120 204 [(0, .ref 145)] [] (hC A E N (z_v V 38 6 ((V 38 6) + 1)) W ++ g, c) o T') : z_Ln L xs fv f w 120 194 [(0, .ref 145)] [] (hC A E N V W ++ g, c) o T' := z_Ln.blk (pc' := 204) (lv' := [(0, .ref 145)]) (st' := []) (H' := hC A E N (z_v V 38 6 ((V 38 6) + 1)) W ++ g) (C := [z_fit (z_fty 8 6) (.int ((V 38 6) + 1)) = true]) 67 6 rfl z_fitI (kk)
set_option maxRecDepth 10000 in
theorem e120_204 {L : Nat} {xs : Nat → Int32} {fv : Value} {f w : Nat} {c : Nat × Nat} {A : Nat → List (Nat × Int32)} {E : List (Nat × Option Nat)} {N : Nat → Nat} {V : Nat → Nat → Int32} {W : Nat} {g : List z_E}  : z_Ln L xs fv f w 120 204 [(0, .ref 145)] [] (hC A E N V W ++ g, c) (.inl none) (hC A E N V W ++ g, c) := z_Ln.ret rfl rfl
def p120_204 (l : Nat) (A : Nat → List (Nat × Int32)) (E : List (Nat × Option Nat)) (N : Nat → Nat) (V : Nat → Nat → Int32) (W : Nat) (c : Nat × Nat)  (Q : z_V → z_CS → Prop) : Prop := Q (.inl (none)) (A, E, N, V, W, c)
set_option maxRecDepth 10000 in
theorem t120_204 {l : Nat} {A : Nat → List (Nat × Int32)} {E : List (Nat × Option Nat)} {N : Nat → Nat} {V : Nat → Nat → Int32} {W : Nat} {c : Nat × Nat}  {Q : z_V → z_CS → Prop} (h : p120_204 l A E N V W c  Q) : z_WC (l + 1) 120 204 [(0, .ref 145)] [] (A, E, N, V, W, c) Q := by
  unfold p120_204 at h
  exact ⟨(.inl (none)), (A, E, N, V, W, c), fun _ _ _ _ _ _ hg hl => e120_204 , h⟩
def p120_194 (l : Nat) (A : Nat → List (Nat × Int32)) (E : List (Nat × Option Nat)) (N : Nat → Nat) (V : Nat → Nat → Int32) (W : Nat) (c : Nat × Nat)  (Q : z_V → z_CS → Prop) : Prop := p120_204 l A E N (z_v V 38 6 ((V 38 6) + 1)) W c  Q
set_option maxRecDepth 10000 in
theorem t120_194 {l : Nat} {A : Nat → List (Nat × Int32)} {E : List (Nat × Option Nat)} {N : Nat → Nat} {V : Nat → Nat → Int32} {W : Nat} {c : Nat × Nat}  {Q : z_V → z_CS → Prop} (h : p120_194 l A E N V W c  Q) : z_WC (l + 1) 120 194 [(0, .ref 145)] [] (A, E, N, V, W, c) Q := by
  unfold p120_194 at h
  exact z_WC.blk (t120_204 h) (fun _ _ _ _ _ _ _ _ hg hl k => e120_194  k)
def p120_94 (l : Nat) (A : Nat → List (Nat × Int32)) (E : List (Nat × Option Nat)) (N : Nat → Nat) (V : Nat → Nat → Int32) (W : Nat) (c : Nat × Nat)  (Q : z_V → z_CS → Prop) : Prop := p120_204 l A E N V W c  Q
set_option maxRecDepth 10000 in
theorem t120_94 {l : Nat} {A : Nat → List (Nat × Int32)} {E : List (Nat × Option Nat)} {N : Nat → Nat} {V : Nat → Nat → Int32} {W : Nat} {c : Nat × Nat}  {Q : z_V → z_CS → Prop} (h : p120_94 l A E N V W c  Q) : z_WC (l + 1) 120 94 [(0, .ref 145)] [] (A, E, N, V, W, c) Q := by
  unfold p120_94 at h
  exact z_WC.blk (t120_204 h) (fun _ _ _ _ _ _ _ _ hg hl k => e120_94  k)
def p120_80 (l : Nat) (A : Nat → List (Nat × Int32)) (E : List (Nat × Option Nat)) (N : Nat → Nat) (V : Nat → Nat → Int32) (W : Nat) (c : Nat × Nat)  (Q : z_V → z_CS → Prop) : Prop := z_Rm ([], c) ∧ z_WC l 121 0 [(0, .ref 145)] [] (A, E, N, (z_v V 38 10 ((V 38 10) + 1)), W, c) (z_cx Q (fun x S1 => x = none ∧ p120_94 l S1.1 S1.2.1 S1.2.2.1 S1.2.2.2.1 S1.2.2.2.2.1 S1.2.2.2.2.2  Q))
set_option maxRecDepth 10000 in
theorem t120_80 {l : Nat} {A : Nat → List (Nat × Int32)} {E : List (Nat × Option Nat)} {N : Nat → Nat} {V : Nat → Nat → Int32} {W : Nat} {c : Nat × Nat}  {Q : z_V → z_CS → Prop} (h : p120_80 l A E N V W c  Q) : z_WC (l + 1) 120 80 [(0, .ref 145)] [] (A, E, N, V, W, c) Q := by
  unfold p120_80 at h
  obtain ⟨hm, h⟩ := h
  obtain ⟨o, S1, hc, h⟩ := h
  cases o with
  | inl x =>
    obtain ⟨rfl, h⟩ := h
    obtain ⟨o2, S2, hk, hQ⟩ := t120_94 h
    exact ⟨o2, S2, fun L xs fv f w g hg hl => e120_80   hm hl.f1 (hl.w1 121 (by decide)) (hc L xs fv _ _ g hg (hl.dn 121 (by decide))) (hk L xs fv f w g hg hl), hQ⟩
  | inr e =>
    obtain ⟨rfl, h⟩ := h
    exact ⟨_, S1, fun L xs fv f w g hg hl => e120_80x  hm hl.f1 (hl.w1 121 (by decide)) (hc L xs fv _ _ g hg (hl.dn 121 (by decide))), h⟩
def p120_123 (l : Nat) (A : Nat → List (Nat × Int32)) (E : List (Nat × Option Nat)) (N : Nat → Nat) (V : Nat → Nat → Int32) (W : Nat) (c : Nat × Nat)  (Q : z_V → z_CS → Prop) : Prop := p120_204 l A E N V W c  Q
set_option maxRecDepth 10000 in
theorem t120_123 {l : Nat} {A : Nat → List (Nat × Int32)} {E : List (Nat × Option Nat)} {N : Nat → Nat} {V : Nat → Nat → Int32} {W : Nat} {c : Nat × Nat}  {Q : z_V → z_CS → Prop} (h : p120_123 l A E N V W c  Q) : z_WC (l + 1) 120 123 [(0, .ref 145)] [] (A, E, N, V, W, c) Q := by
  unfold p120_123 at h
  exact z_WC.blk (t120_204 h) (fun _ _ _ _ _ _ _ _ hg hl k => e120_123  k)
def p120_97 (l : Nat) (A : Nat → List (Nat × Int32)) (E : List (Nat × Option Nat)) (N : Nat → Nat) (V : Nat → Nat → Int32) (W : Nat) (c : Nat × Nat)  (Q : z_V → z_CS → Prop) : Prop := z_in (V 38 6) (N 15) = true ∧ z_Rm ([], c) ∧ z_WC l 124 0 [(0, .ref 145), (1, .int (z_fn 0 (A 15) (V 38 6).toNatClampNeg))] [] (A, E, N, (z_v V 38 10 ((V 38 10) + 1)), W, c) (z_cx Q (fun x S1 => x = none ∧ p120_123 l S1.1 S1.2.1 S1.2.2.1 S1.2.2.2.1 S1.2.2.2.2.1 S1.2.2.2.2.2  Q))
set_option maxRecDepth 10000 in
theorem t120_97 {l : Nat} {A : Nat → List (Nat × Int32)} {E : List (Nat × Option Nat)} {N : Nat → Nat} {V : Nat → Nat → Int32} {W : Nat} {c : Nat × Nat}  {Q : z_V → z_CS → Prop} (h : p120_97 l A E N V W c  Q) : z_WC (l + 1) 120 97 [(0, .ref 145)] [] (A, E, N, V, W, c) Q := by
  unfold p120_97 at h
  obtain ⟨h1, hm, h⟩ := h
  obtain ⟨o, S1, hc, h⟩ := h
  cases o with
  | inl x =>
    obtain ⟨rfl, h⟩ := h
    obtain ⟨o2, S2, hk, hQ⟩ := t120_123 h
    exact ⟨o2, S2, fun L xs fv f w g hg hl => e120_97 h1  hm hl.f1 (hl.w1 124 (by decide)) (hc L xs fv _ _ g hg (hl.dn 124 (by decide))) (hk L xs fv f w g hg hl), hQ⟩
  | inr e =>
    obtain ⟨rfl, h⟩ := h
    exact ⟨_, S1, fun L xs fv f w g hg hl => e120_97x h1 hm hl.f1 (hl.w1 124 (by decide)) (hc L xs fv _ _ g hg (hl.dn 124 (by decide))), h⟩
def p120_130 (l : Nat) (A : Nat → List (Nat × Int32)) (E : List (Nat × Option Nat)) (N : Nat → Nat) (V : Nat → Nat → Int32) (W : Nat) (c : Nat × Nat)  (Q : z_V → z_CS → Prop) : Prop := p120_204 l A E N V W c  Q
set_option maxRecDepth 10000 in
theorem t120_130 {l : Nat} {A : Nat → List (Nat × Int32)} {E : List (Nat × Option Nat)} {N : Nat → Nat} {V : Nat → Nat → Int32} {W : Nat} {c : Nat × Nat}  {Q : z_V → z_CS → Prop} (h : p120_130 l A E N V W c  Q) : z_WC (l + 1) 120 130 [(0, .ref 145)] [] (A, E, N, V, W, c) Q := by
  unfold p120_130 at h
  exact z_WC.blk (t120_204 h) (fun _ _ _ _ _ _ _ _ hg hl k => e120_130  k)
def p120_126 (l : Nat) (A : Nat → List (Nat × Int32)) (E : List (Nat × Option Nat)) (N : Nat → Nat) (V : Nat → Nat → Int32) (W : Nat) (c : Nat × Nat)  (Q : z_V → z_CS → Prop) : Prop := z_Rm ([], c) ∧ z_WC l 129 0 [(0, .ref 145)] [] (A, E, N, V, W, c) (z_cx Q (fun x S1 => x = none ∧ p120_130 l S1.1 S1.2.1 S1.2.2.1 S1.2.2.2.1 S1.2.2.2.2.1 S1.2.2.2.2.2  Q))
set_option maxRecDepth 10000 in
theorem t120_126 {l : Nat} {A : Nat → List (Nat × Int32)} {E : List (Nat × Option Nat)} {N : Nat → Nat} {V : Nat → Nat → Int32} {W : Nat} {c : Nat × Nat}  {Q : z_V → z_CS → Prop} (h : p120_126 l A E N V W c  Q) : z_WC (l + 1) 120 126 [(0, .ref 145)] [] (A, E, N, V, W, c) Q := by
  unfold p120_126 at h
  obtain ⟨hm, h⟩ := h
  obtain ⟨o, S1, hc, h⟩ := h
  cases o with
  | inl x =>
    obtain ⟨rfl, h⟩ := h
    obtain ⟨o2, S2, hk, hQ⟩ := t120_130 h
    exact ⟨o2, S2, fun L xs fv f w g hg hl => e120_126   hm hl.f1 (hl.w1 129 (by decide)) (hc L xs fv _ _ g hg (hl.dn 129 (by decide))) (hk L xs fv f w g hg hl), hQ⟩
  | inr e =>
    obtain ⟨rfl, h⟩ := h
    exact ⟨_, S1, fun L xs fv f w g hg hl => e120_126x  hm hl.f1 (hl.w1 129 (by decide)) (hc L xs fv _ _ g hg (hl.dn 129 (by decide))), h⟩
def p120_184 (l : Nat) (A : Nat → List (Nat × Int32)) (E : List (Nat × Option Nat)) (N : Nat → Nat) (V : Nat → Nat → Int32) (W : Nat) (c : Nat × Nat)  (Q : z_V → z_CS → Prop) : Prop := p120_204 l A E N V W c  Q
set_option maxRecDepth 10000 in
theorem t120_184 {l : Nat} {A : Nat → List (Nat × Int32)} {E : List (Nat × Option Nat)} {N : Nat → Nat} {V : Nat → Nat → Int32} {W : Nat} {c : Nat × Nat}  {Q : z_V → z_CS → Prop} (h : p120_184 l A E N V W c  Q) : z_WC (l + 1) 120 184 [(0, .ref 145)] [] (A, E, N, V, W, c) Q := by
  unfold p120_184 at h
  exact z_WC.blk (t120_204 h) (fun _ _ _ _ _ _ _ _ hg hl k => e120_184  k)
def p120_180 (l : Nat) (A : Nat → List (Nat × Int32)) (E : List (Nat × Option Nat)) (N : Nat → Nat) (V : Nat → Nat → Int32) (W : Nat) (c : Nat × Nat)  (Q : z_V → z_CS → Prop) : Prop := z_Rm ([], c) ∧ z_WC l 132 0 [(0, .ref 145)] [] (A, E, N, V, W, c) (z_cx Q (fun x S1 => x = none ∧ p120_184 l S1.1 S1.2.1 S1.2.2.1 S1.2.2.2.1 S1.2.2.2.2.1 S1.2.2.2.2.2  Q))
set_option maxRecDepth 10000 in
theorem t120_180 {l : Nat} {A : Nat → List (Nat × Int32)} {E : List (Nat × Option Nat)} {N : Nat → Nat} {V : Nat → Nat → Int32} {W : Nat} {c : Nat × Nat}  {Q : z_V → z_CS → Prop} (h : p120_180 l A E N V W c  Q) : z_WC (l + 1) 120 180 [(0, .ref 145)] [] (A, E, N, V, W, c) Q := by
  unfold p120_180 at h
  obtain ⟨hm, h⟩ := h
  obtain ⟨o, S1, hc, h⟩ := h
  cases o with
  | inl x =>
    obtain ⟨rfl, h⟩ := h
    obtain ⟨o2, S2, hk, hQ⟩ := t120_184 h
    exact ⟨o2, S2, fun L xs fv f w g hg hl => e120_180   hm hl.f1 (hl.w1 132 (by decide)) (hc L xs fv _ _ g hg (hl.dn 132 (by decide))) (hk L xs fv f w g hg hl), hQ⟩
  | inr e =>
    obtain ⟨rfl, h⟩ := h
    exact ⟨_, S1, fun L xs fv f w g hg hl => e120_180x  hm hl.f1 (hl.w1 132 (by decide)) (hc L xs fv _ _ g hg (hl.dn 132 (by decide))), h⟩
def p120_137 (l : Nat) (A : Nat → List (Nat × Int32)) (E : List (Nat × Option Nat)) (N : Nat → Nat) (V : Nat → Nat → Int32) (W : Nat) (c : Nat × Nat)  (Q : z_V → z_CS → Prop) : Prop := p120_204 l A E N V W c  Q
set_option maxRecDepth 10000 in
theorem t120_137 {l : Nat} {A : Nat → List (Nat × Int32)} {E : List (Nat × Option Nat)} {N : Nat → Nat} {V : Nat → Nat → Int32} {W : Nat} {c : Nat × Nat}  {Q : z_V → z_CS → Prop} (h : p120_137 l A E N V W c  Q) : z_WC (l + 1) 120 137 [(0, .ref 145)] [] (A, E, N, V, W, c) Q := by
  unfold p120_137 at h
  exact z_WC.blk (t120_204 h) (fun _ _ _ _ _ _ _ _ hg hl k => e120_137  k)
def p120_133 (l : Nat) (A : Nat → List (Nat × Int32)) (E : List (Nat × Option Nat)) (N : Nat → Nat) (V : Nat → Nat → Int32) (W : Nat) (c : Nat × Nat)  (Q : z_V → z_CS → Prop) : Prop := z_Rm ([], c) ∧ z_WC l 131 0 [(0, .ref 145)] [] (A, E, N, V, W, c) (z_cx Q (fun x S1 => x = none ∧ p120_137 l S1.1 S1.2.1 S1.2.2.1 S1.2.2.2.1 S1.2.2.2.2.1 S1.2.2.2.2.2  Q))
set_option maxRecDepth 10000 in
theorem t120_133 {l : Nat} {A : Nat → List (Nat × Int32)} {E : List (Nat × Option Nat)} {N : Nat → Nat} {V : Nat → Nat → Int32} {W : Nat} {c : Nat × Nat}  {Q : z_V → z_CS → Prop} (h : p120_133 l A E N V W c  Q) : z_WC (l + 1) 120 133 [(0, .ref 145)] [] (A, E, N, V, W, c) Q := by
  unfold p120_133 at h
  obtain ⟨hm, h⟩ := h
  obtain ⟨o, S1, hc, h⟩ := h
  cases o with
  | inl x =>
    obtain ⟨rfl, h⟩ := h
    obtain ⟨o2, S2, hk, hQ⟩ := t120_137 h
    exact ⟨o2, S2, fun L xs fv f w g hg hl => e120_133   hm hl.f1 (hl.w1 131 (by decide)) (hc L xs fv _ _ g hg (hl.dn 131 (by decide))) (hk L xs fv f w g hg hl), hQ⟩
  | inr e =>
    obtain ⟨rfl, h⟩ := h
    exact ⟨_, S1, fun L xs fv f w g hg hl => e120_133x  hm hl.f1 (hl.w1 131 (by decide)) (hc L xs fv _ _ g hg (hl.dn 131 (by decide))), h⟩
def p120_154 (l : Nat) (A : Nat → List (Nat × Int32)) (E : List (Nat × Option Nat)) (N : Nat → Nat) (V : Nat → Nat → Int32) (W : Nat) (c : Nat × Nat) (y0 : Int32) (y1 : Int32) (Q : z_V → z_CS → Prop) : Prop := z_in y1 (N 39) = true ∧ z_in ((V 38 3) + 3) (N 39) = true ∧ p120_204 l (z_u A 39 ((((V 38 3) + 3).toNatClampNeg, ((-1))) :: (y1.toNatClampNeg, y0) :: A 39)) E N (z_v V 38 6 ((V 38 6) + 1)) W c  Q
set_option maxRecDepth 10000 in
theorem t120_154 {l : Nat} {A : Nat → List (Nat × Int32)} {E : List (Nat × Option Nat)} {N : Nat → Nat} {V : Nat → Nat → Int32} {W : Nat} {c : Nat × Nat} {y0 : Int32} {y1 : Int32} {Q : z_V → z_CS → Prop} (h : p120_154 l A E N V W c y0 y1 Q) : z_WC (l + 1) 120 154 [(0, .ref 145)] [.int y0, .int y1, .ref 146] (A, E, N, V, W, c) Q := by
  unfold p120_154 at h
  obtain ⟨h1, h2, h⟩ := h
  exact z_WC.blk (t120_204 h) (fun _ _ _ _ _ _ _ _ hg hl k => e120_154 h1 h2 k)
def p120_140 (l : Nat) (A : Nat → List (Nat × Int32)) (E : List (Nat × Option Nat)) (N : Nat → Nat) (V : Nat → Nat → Int32) (W : Nat) (c : Nat × Nat)  (Q : z_V → z_CS → Prop) : Prop := z_Rm ([], c) ∧ z_WC l 118 0 [(0, .ref 145)] [] (A, E, N, V, W, c) (z_cx Q (fun x S1 => ∃ v : Int32, x = some (.int v) ∧ S1.2.2.1 39 = N 39 ∧ p120_154 l S1.1 S1.2.1 S1.2.2.1 S1.2.2.2.1 S1.2.2.2.2.1 S1.2.2.2.2.2 v ((V 38 3) + 4) Q))
set_option maxRecDepth 10000 in
theorem t120_140 {l : Nat} {A : Nat → List (Nat × Int32)} {E : List (Nat × Option Nat)} {N : Nat → Nat} {V : Nat → Nat → Int32} {W : Nat} {c : Nat × Nat}  {Q : z_V → z_CS → Prop} (h : p120_140 l A E N V W c  Q) : z_WC (l + 1) 120 140 [(0, .ref 145)] [] (A, E, N, V, W, c) Q := by
  unfold p120_140 at h
  obtain ⟨hm, h⟩ := h
  obtain ⟨o, S1, hc, h⟩ := h
  cases o with
  | inl x =>
    obtain ⟨v, rfl, hN39, h⟩ := h
    obtain ⟨o2, S2, hk, hQ⟩ := t120_154 h
    exact ⟨o2, S2, fun L xs fv f w g hg hl => e120_140  hN39 hm hl.f1 (hl.w1 118 (by decide)) (hc L xs fv _ _ g hg (hl.dn 118 (by decide))) (hk L xs fv f w g hg hl), hQ⟩
  | inr e =>
    obtain ⟨rfl, h⟩ := h
    exact ⟨_, S1, fun L xs fv f w g hg hl => e120_140x  hm hl.f1 (hl.w1 118 (by decide)) (hc L xs fv _ _ g hg (hl.dn 118 (by decide))), h⟩
def p120_191 (l : Nat) (A : Nat → List (Nat × Int32)) (E : List (Nat × Option Nat)) (N : Nat → Nat) (V : Nat → Nat → Int32) (W : Nat) (c : Nat × Nat)  (Q : z_V → z_CS → Prop) : Prop := p120_204 l A E N V W c  Q
set_option maxRecDepth 10000 in
theorem t120_191 {l : Nat} {A : Nat → List (Nat × Int32)} {E : List (Nat × Option Nat)} {N : Nat → Nat} {V : Nat → Nat → Int32} {W : Nat} {c : Nat × Nat}  {Q : z_V → z_CS → Prop} (h : p120_191 l A E N V W c  Q) : z_WC (l + 1) 120 191 [(0, .ref 145)] [] (A, E, N, V, W, c) Q := by
  unfold p120_191 at h
  exact z_WC.blk (t120_204 h) (fun _ _ _ _ _ _ _ _ hg hl k => e120_191  k)
def p120_187 (l : Nat) (A : Nat → List (Nat × Int32)) (E : List (Nat × Option Nat)) (N : Nat → Nat) (V : Nat → Nat → Int32) (W : Nat) (c : Nat × Nat)  (Q : z_V → z_CS → Prop) : Prop := z_Rm ([], c) ∧ z_WC l 133 0 [(0, .ref 145)] [] (A, E, N, V, W, c) (z_cx Q (fun x S1 => x = none ∧ p120_191 l S1.1 S1.2.1 S1.2.2.1 S1.2.2.2.1 S1.2.2.2.2.1 S1.2.2.2.2.2  Q))
set_option maxRecDepth 10000 in
theorem t120_187 {l : Nat} {A : Nat → List (Nat × Int32)} {E : List (Nat × Option Nat)} {N : Nat → Nat} {V : Nat → Nat → Int32} {W : Nat} {c : Nat × Nat}  {Q : z_V → z_CS → Prop} (h : p120_187 l A E N V W c  Q) : z_WC (l + 1) 120 187 [(0, .ref 145)] [] (A, E, N, V, W, c) Q := by
  unfold p120_187 at h
  obtain ⟨hm, h⟩ := h
  obtain ⟨o, S1, hc, h⟩ := h
  cases o with
  | inl x =>
    obtain ⟨rfl, h⟩ := h
    obtain ⟨o2, S2, hk, hQ⟩ := t120_191 h
    exact ⟨o2, S2, fun L xs fv f w g hg hl => e120_187   hm hl.f1 (hl.w1 133 (by decide)) (hc L xs fv _ _ g hg (hl.dn 133 (by decide))) (hk L xs fv f w g hg hl), hQ⟩
  | inr e =>
    obtain ⟨rfl, h⟩ := h
    exact ⟨_, S1, fun L xs fv f w g hg hl => e120_187x  hm hl.f1 (hl.w1 133 (by decide)) (hc L xs fv _ _ g hg (hl.dn 133 (by decide))), h⟩
def p120_0 (l : Nat) (A : Nat → List (Nat × Int32)) (E : List (Nat × Option Nat)) (N : Nat → Nat) (V : Nat → Nat → Int32) (W : Nat) (c : Nat × Nat)  (Q : z_V → z_CS → Prop) : Prop := z_in (V 38 6) (N 14) = true ∧ (if z_fn 0 (A 14) (V 38 6).toNatClampNeg = 15 then p120_80 l A E N V W c  Q else if z_fn 0 (A 14) (V 38 6).toNatClampNeg = 16 then p120_97 l A E N V W c  Q else if z_fn 0 (A 14) (V 38 6).toNatClampNeg = 17 then p120_126 l A E N V W c  Q else if z_fn 0 (A 14) (V 38 6).toNatClampNeg = 18 then p120_180 l A E N V W c  Q else if z_fn 0 (A 14) (V 38 6).toNatClampNeg = 19 then p120_126 l A E N V W c  Q else if z_fn 0 (A 14) (V 38 6).toNatClampNeg = 20 then p120_180 l A E N V W c  Q else if z_fn 0 (A 14) (V 38 6).toNatClampNeg = 21 then p120_133 l A E N V W c  Q else if z_fn 0 (A 14) (V 38 6).toNatClampNeg = 22 then p120_140 l A E N V W c  Q else if z_fn 0 (A 14) (V 38 6).toNatClampNeg = 23 then p120_180 l A E N V W c  Q else if z_fn 0 (A 14) (V 38 6).toNatClampNeg = 25 then p120_180 l A E N V W c  Q else if z_fn 0 (A 14) (V 38 6).toNatClampNeg = 27 then p120_187 l A E N V W c  Q else p120_194 l A E N V W c  Q)
set_option maxRecDepth 10000 in
theorem t120_0 {l : Nat} {A : Nat → List (Nat × Int32)} {E : List (Nat × Option Nat)} {N : Nat → Nat} {V : Nat → Nat → Int32} {W : Nat} {c : Nat × Nat}  {Q : z_V → z_CS → Prop} (h : p120_0 l A E N V W c  Q) : z_WC (l + 1) 120 0 [(0, .ref 145)] [] (A, E, N, V, W, c) Q := by
  unfold p120_0 at h
  obtain ⟨h1, h⟩ := h
  by_cases e15 : z_fn 0 (A 14) (V 38 6).toNatClampNeg = 15
  · rw [if_pos e15] at h
    have hk : z_tg 15 27 [194, 80, 97, 126, 180, 126, 180, 133, 140, 180, 194, 180, 194, 187] (z_fn 0 (A 14) (V 38 6).toNatClampNeg) = some 80 := by
      rw [e15]
      rfl
    exact z_WC.blk (t120_80 h) (fun _ _ _ _ _ _ _ _ hg hl k => e120_0 h1 (z_Ln.tab (t := 80) rfl hk (z_Ln.lv (z_le.cons rfl rfl z_le.nil) k)))
  rw [if_neg e15] at h
  by_cases e16 : z_fn 0 (A 14) (V 38 6).toNatClampNeg = 16
  · rw [if_pos e16] at h
    have hk : z_tg 15 27 [194, 80, 97, 126, 180, 126, 180, 133, 140, 180, 194, 180, 194, 187] (z_fn 0 (A 14) (V 38 6).toNatClampNeg) = some 97 := by
      rw [e16]
      rfl
    exact z_WC.blk (t120_97 h) (fun _ _ _ _ _ _ _ _ hg hl k => e120_0 h1 (z_Ln.tab (t := 97) rfl hk (z_Ln.lv (z_le.cons rfl rfl z_le.nil) k)))
  rw [if_neg e16] at h
  by_cases e17 : z_fn 0 (A 14) (V 38 6).toNatClampNeg = 17
  · rw [if_pos e17] at h
    have hk : z_tg 15 27 [194, 80, 97, 126, 180, 126, 180, 133, 140, 180, 194, 180, 194, 187] (z_fn 0 (A 14) (V 38 6).toNatClampNeg) = some 126 := by
      rw [e17]
      rfl
    exact z_WC.blk (t120_126 h) (fun _ _ _ _ _ _ _ _ hg hl k => e120_0 h1 (z_Ln.tab (t := 126) rfl hk (z_Ln.lv (z_le.cons rfl rfl z_le.nil) k)))
  rw [if_neg e17] at h
  by_cases e18 : z_fn 0 (A 14) (V 38 6).toNatClampNeg = 18
  · rw [if_pos e18] at h
    have hk : z_tg 15 27 [194, 80, 97, 126, 180, 126, 180, 133, 140, 180, 194, 180, 194, 187] (z_fn 0 (A 14) (V 38 6).toNatClampNeg) = some 180 := by
      rw [e18]
      rfl
    exact z_WC.blk (t120_180 h) (fun _ _ _ _ _ _ _ _ hg hl k => e120_0 h1 (z_Ln.tab (t := 180) rfl hk (z_Ln.lv (z_le.cons rfl rfl z_le.nil) k)))
  rw [if_neg e18] at h
  by_cases e19 : z_fn 0 (A 14) (V 38 6).toNatClampNeg = 19
  · rw [if_pos e19] at h
    have hk : z_tg 15 27 [194, 80, 97, 126, 180, 126, 180, 133, 140, 180, 194, 180, 194, 187] (z_fn 0 (A 14) (V 38 6).toNatClampNeg) = some 126 := by
      rw [e19]
      rfl
    exact z_WC.blk (t120_126 h) (fun _ _ _ _ _ _ _ _ hg hl k => e120_0 h1 (z_Ln.tab (t := 126) rfl hk (z_Ln.lv (z_le.cons rfl rfl z_le.nil) k)))
  rw [if_neg e19] at h
  by_cases e20 : z_fn 0 (A 14) (V 38 6).toNatClampNeg = 20
  · rw [if_pos e20] at h
    have hk : z_tg 15 27 [194, 80, 97, 126, 180, 126, 180, 133, 140, 180, 194, 180, 194, 187] (z_fn 0 (A 14) (V 38 6).toNatClampNeg) = some 180 := by
      rw [e20]
      rfl
    exact z_WC.blk (t120_180 h) (fun _ _ _ _ _ _ _ _ hg hl k => e120_0 h1 (z_Ln.tab (t := 180) rfl hk (z_Ln.lv (z_le.cons rfl rfl z_le.nil) k)))
  rw [if_neg e20] at h
  by_cases e21 : z_fn 0 (A 14) (V 38 6).toNatClampNeg = 21
  · rw [if_pos e21] at h
    have hk : z_tg 15 27 [194, 80, 97, 126, 180, 126, 180, 133, 140, 180, 194, 180, 194, 187] (z_fn 0 (A 14) (V 38 6).toNatClampNeg) = some 133 := by
      rw [e21]
      rfl
    exact z_WC.blk (t120_133 h) (fun _ _ _ _ _ _ _ _ hg hl k => e120_0 h1 (z_Ln.tab (t := 133) rfl hk (z_Ln.lv (z_le.cons rfl rfl z_le.nil) k)))
  rw [if_neg e21] at h
  by_cases e22 : z_fn 0 (A 14) (V 38 6).toNatClampNeg = 22
  · rw [if_pos e22] at h
    have hk : z_tg 15 27 [194, 80, 97, 126, 180, 126, 180, 133, 140, 180, 194, 180, 194, 187] (z_fn 0 (A 14) (V 38 6).toNatClampNeg) = some 140 := by
      rw [e22]
      rfl
    exact z_WC.blk (t120_140 h) (fun _ _ _ _ _ _ _ _ hg hl k => e120_0 h1 (z_Ln.tab (t := 140) rfl hk (z_Ln.lv (z_le.cons rfl rfl z_le.nil) k)))
  rw [if_neg e22] at h
  by_cases e23 : z_fn 0 (A 14) (V 38 6).toNatClampNeg = 23
  · rw [if_pos e23] at h
    have hk : z_tg 15 27 [194, 80, 97, 126, 180, 126, 180, 133, 140, 180, 194, 180, 194, 187] (z_fn 0 (A 14) (V 38 6).toNatClampNeg) = some 180 := by
      rw [e23]
      rfl
    exact z_WC.blk (t120_180 h) (fun _ _ _ _ _ _ _ _ hg hl k => e120_0 h1 (z_Ln.tab (t := 180) rfl hk (z_Ln.lv (z_le.cons rfl rfl z_le.nil) k)))
  rw [if_neg e23] at h
  by_cases e25 : z_fn 0 (A 14) (V 38 6).toNatClampNeg = 25
  · rw [if_pos e25] at h
    have hk : z_tg 15 27 [194, 80, 97, 126, 180, 126, 180, 133, 140, 180, 194, 180, 194, 187] (z_fn 0 (A 14) (V 38 6).toNatClampNeg) = some 180 := by
      rw [e25]
      rfl
    exact z_WC.blk (t120_180 h) (fun _ _ _ _ _ _ _ _ hg hl k => e120_0 h1 (z_Ln.tab (t := 180) rfl hk (z_Ln.lv (z_le.cons rfl rfl z_le.nil) k)))
  rw [if_neg e25] at h
  by_cases e27 : z_fn 0 (A 14) (V 38 6).toNatClampNeg = 27
  · rw [if_pos e27] at h
    have hk : z_tg 15 27 [194, 80, 97, 126, 180, 126, 180, 133, 140, 180, 194, 180, 194, 187] (z_fn 0 (A 14) (V 38 6).toNatClampNeg) = some 187 := by
      rw [e27]
      rfl
    exact z_WC.blk (t120_187 h) (fun _ _ _ _ _ _ _ _ hg hl k => e120_0 h1 (z_Ln.tab (t := 187) rfl hk (z_Ln.lv (z_le.cons rfl rfl z_le.nil) k)))
  rw [if_neg e27] at h
  have hd : z_tg 15 27 [194, 80, 97, 126, 180, 126, 180, 133, 140, 180, 194, 180, 194, 187] (z_fn 0 (A 14) (V 38 6).toNatClampNeg) = some 194 := by
    by_cases hr : (z_fn 0 (A 14) (V 38 6).toNatClampNeg).toInt < 15 ∨ 27 < (z_fn 0 (A 14) (V 38 6).toNatClampNeg).toInt
    · exact if_pos hr
    · have : (z_fn 0 (A 14) (V 38 6).toNatClampNeg).toInt = 15 ∨ (z_fn 0 (A 14) (V 38 6).toNatClampNeg).toInt = 16 ∨ (z_fn 0 (A 14) (V 38 6).toNatClampNeg).toInt = 17 ∨ (z_fn 0 (A 14) (V 38 6).toNatClampNeg).toInt = 18 ∨ (z_fn 0 (A 14) (V 38 6).toNatClampNeg).toInt = 19 ∨ (z_fn 0 (A 14) (V 38 6).toNatClampNeg).toInt = 20 ∨ (z_fn 0 (A 14) (V 38 6).toNatClampNeg).toInt = 21 ∨ (z_fn 0 (A 14) (V 38 6).toNatClampNeg).toInt = 22 ∨ (z_fn 0 (A 14) (V 38 6).toNatClampNeg).toInt = 23 ∨ (z_fn 0 (A 14) (V 38 6).toNatClampNeg).toInt = 24 ∨ (z_fn 0 (A 14) (V 38 6).toNatClampNeg).toInt = 25 ∨ (z_fn 0 (A 14) (V 38 6).toNatClampNeg).toInt = 26 ∨ (z_fn 0 (A 14) (V 38 6).toNatClampNeg).toInt = 27 := by omega
      rcases this with e | e | e | e | e | e | e | e | e | e | e | e | e
      · have q : z_fn 0 (A 14) (V 38 6).toNatClampNeg = 15 := Int32.toInt_inj.mp (by rw [e]; rfl)
        exact absurd q e15
      · have q : z_fn 0 (A 14) (V 38 6).toNatClampNeg = 16 := Int32.toInt_inj.mp (by rw [e]; rfl)
        exact absurd q e16
      · have q : z_fn 0 (A 14) (V 38 6).toNatClampNeg = 17 := Int32.toInt_inj.mp (by rw [e]; rfl)
        exact absurd q e17
      · have q : z_fn 0 (A 14) (V 38 6).toNatClampNeg = 18 := Int32.toInt_inj.mp (by rw [e]; rfl)
        exact absurd q e18
      · have q : z_fn 0 (A 14) (V 38 6).toNatClampNeg = 19 := Int32.toInt_inj.mp (by rw [e]; rfl)
        exact absurd q e19
      · have q : z_fn 0 (A 14) (V 38 6).toNatClampNeg = 20 := Int32.toInt_inj.mp (by rw [e]; rfl)
        exact absurd q e20
      · have q : z_fn 0 (A 14) (V 38 6).toNatClampNeg = 21 := Int32.toInt_inj.mp (by rw [e]; rfl)
        exact absurd q e21
      · have q : z_fn 0 (A 14) (V 38 6).toNatClampNeg = 22 := Int32.toInt_inj.mp (by rw [e]; rfl)
        exact absurd q e22
      · have q : z_fn 0 (A 14) (V 38 6).toNatClampNeg = 23 := Int32.toInt_inj.mp (by rw [e]; rfl)
        exact absurd q e23
      · have q : z_fn 0 (A 14) (V 38 6).toNatClampNeg = 24 := Int32.toInt_inj.mp (by rw [e]; rfl)
        rw [q]
        rfl
      · have q : z_fn 0 (A 14) (V 38 6).toNatClampNeg = 25 := Int32.toInt_inj.mp (by rw [e]; rfl)
        exact absurd q e25
      · have q : z_fn 0 (A 14) (V 38 6).toNatClampNeg = 26 := Int32.toInt_inj.mp (by rw [e]; rfl)
        rw [q]
        rfl
      · have q : z_fn 0 (A 14) (V 38 6).toNatClampNeg = 27 := Int32.toInt_inj.mp (by rw [e]; rfl)
        exact absurd q e27
  exact z_WC.blk (t120_194 h) (fun _ _ _ _ _ _ _ _ hg hl k => e120_0 h1 (z_Ln.tab (t := 194) rfl hd (z_Ln.lv (z_le.cons rfl rfl z_le.nil) k)))
set_option maxRecDepth 10000 in
theorem e114_0 {L : Nat} {xs : Nat → Int32} {fv : Value} {f w : Nat} {c : Nat × Nat} {o : z_V} {T' : z_Y} {A : Nat → List (Nat × Int32)} {E : List (Nat × Option Nat)} {N : Nat → Nat} {V : Nat → Nat → Int32} {W : Nat} {g : List z_E} {x1 : Int32}  (kk : z_Ln L xs fv f w 114 7 [(0, .ref 145), (1, .int x1), (2, .int (V 38 10)), (3, .int 0)] [] (hC A E N V W ++ g, c) o T') : z_Ln L xs fv f w 114 0 [(0, .ref 145), (1, .int x1)] [] (hC A E N V W ++ g, c) o T' := z_Ln.blk (pc' := 7) (lv' := [(3, .int 0), (2, .int (V 38 10)), (0, .ref 145), (1, .int x1)]) (st' := []) (H' := hC A E N V W ++ g) (C := []) 0 5 rfl trivial (z_Ln.lv (z_le.cons rfl rfl (z_le.cons rfl rfl (z_le.cons rfl rfl (z_le.cons rfl rfl z_le.nil)))) kk)
set_option maxRecDepth 10000 in
theorem e114_7t {L : Nat} {xs : Nat → Int32} {fv : Value} {f w : Nat} {c : Nat × Nat} {o : z_V} {T' : z_Y} {A : Nat → List (Nat × Int32)} {E : List (Nat × Option Nat)} {N : Nat → Nat} {V : Nat → Nat → Int32} {W : Nat} {g : List z_E} {x1 : Int32} {x2 : Int32} {x3 : Int32}  (hb : 100000000 ≤ x3) (kk : z_Ln L xs fv f w 114 75 [(0, .ref 145), (1, .int x1), (2, .int x2), (3, .int x3)] [] (hC A E N V W ++ g, c) o T') : z_Ln L xs fv f w 114 7 [(0, .ref 145), (1, .int x1), (2, .int x2), (3, .int x3)] [] (hC A E N V W ++ g, c) o T' := z_Ln.blk (pc' := (if decide (100000000 ≤ x3) = true then 75 else 13)) (lv' := [(0, .ref 145), (1, .int x1), (2, .int x2), (3, .int x3)]) (st' := []) (H' := hC A E N V W ++ g) (C := []) 5 3 rfl trivial (z_Ln.brT (decide_eq_true hb) (kk))
set_option maxRecDepth 10000 in
theorem e114_7f {L : Nat} {xs : Nat → Int32} {fv : Value} {f w : Nat} {c : Nat × Nat} {o : z_V} {T' : z_Y} {A : Nat → List (Nat × Int32)} {E : List (Nat × Option Nat)} {N : Nat → Nat} {V : Nat → Nat → Int32} {W : Nat} {g : List z_E} {x1 : Int32} {x2 : Int32} {x3 : Int32}  (hb : ¬ (100000000 ≤ x3)) (kk : z_Ln L xs fv f w 114 13 [(0, .ref 145), (1, .int x1), (2, .int x2), (3, .int x3)] [] (hC A E N V W ++ g, c) o T') : z_Ln L xs fv f w 114 7 [(0, .ref 145), (1, .int x1), (2, .int x2), (3, .int x3)] [] (hC A E N V W ++ g, c) o T' := z_Ln.blk (pc' := (if decide (100000000 ≤ x3) = true then 75 else 13)) (lv' := [(0, .ref 145), (1, .int x1), (2, .int x2), (3, .int x3)]) (st' := []) (H' := hC A E N V W ++ g) (C := []) 5 3 rfl trivial (z_Ln.brF (decide_eq_false hb) (kk))
set_option maxRecDepth 10000 in
theorem e114_13t {L : Nat} {xs : Nat → Int32} {fv : Value} {f w : Nat} {c : Nat × Nat} {o : z_V} {T' : z_Y} {A : Nat → List (Nat × Int32)} {E : List (Nat × Option Nat)} {N : Nat → Nat} {V : Nat → Nat → Int32} {W : Nat} {g : List z_E} {x1 : Int32} {x2 : Int32} {x3 : Int32}  (hb : ¬ (V 38 7) = 1) (kk : z_Ln L xs fv f w 114 75 [(0, .ref 145), (1, .int x1), (2, .int x2), (3, .int x3)] [] (hC A E N V W ++ g, c) o T') : z_Ln L xs fv f w 114 13 [(0, .ref 145), (1, .int x1), (2, .int x2), (3, .int x3)] [] (hC A E N V W ++ g, c) o T' := z_Ln.blk (pc' := (if decide (¬ (V 38 7) = 1) = true then 75 else 21)) (lv' := [(0, .ref 145), (1, .int x1), (2, .int x2), (3, .int x3)]) (st' := []) (H' := hC A E N V W ++ g) (C := []) 8 4 rfl trivial (z_Ln.brT (decide_eq_true hb) (kk))
set_option maxRecDepth 10000 in
theorem e114_13f {L : Nat} {xs : Nat → Int32} {fv : Value} {f w : Nat} {c : Nat × Nat} {o : z_V} {T' : z_Y} {A : Nat → List (Nat × Int32)} {E : List (Nat × Option Nat)} {N : Nat → Nat} {V : Nat → Nat → Int32} {W : Nat} {g : List z_E} {x1 : Int32} {x2 : Int32} {x3 : Int32}  (hb : ¬ (¬ (V 38 7) = 1)) (kk : z_Ln L xs fv f w 114 21 [(0, .ref 145), (1, .int x1), (2, .int x2), (3, .int x3)] [] (hC A E N V W ++ g, c) o T') : z_Ln L xs fv f w 114 13 [(0, .ref 145), (1, .int x1), (2, .int x2), (3, .int x3)] [] (hC A E N V W ++ g, c) o T' := z_Ln.blk (pc' := (if decide (¬ (V 38 7) = 1) = true then 75 else 21)) (lv' := [(0, .ref 145), (1, .int x1), (2, .int x2), (3, .int x3)]) (st' := []) (H' := hC A E N V W ++ g) (C := []) 8 4 rfl trivial (z_Ln.brF (decide_eq_false hb) (kk))
set_option maxRecDepth 10000 in
theorem e114_21t {L : Nat} {xs : Nat → Int32} {fv : Value} {f w : Nat} {c : Nat × Nat} {o : z_V} {T' : z_Y} {A : Nat → List (Nat × Int32)} {E : List (Nat × Option Nat)} {N : Nat → Nat} {V : Nat → Nat → Int32} {W : Nat} {g : List z_E} {x1 : Int32} {x2 : Int32} {x3 : Int32}  (hb : ¬ ((V 38 10) - x2) = x1) (kk : z_Ln L xs fv f w 114 41 [(0, .ref 145), (1, .int x1), (2, .int x2), (3, .int x3)] [] (hC A E N V W ++ g, c) o T') : z_Ln L xs fv f w 114 21 [(0, .ref 145), (1, .int x1), (2, .int x2), (3, .int x3)] [] (hC A E N V W ++ g, c) o T' := z_Ln.blk (pc' := (if decide (¬ ((V 38 10) - x2) = x1) = true then 41 else 31)) (lv' := [(0, .ref 145), (1, .int x1), (2, .int x2), (3, .int x3)]) (st' := []) (H' := hC A E N V W ++ g) (C := []) 12 6 rfl trivial (z_Ln.brT (decide_eq_true hb) (kk))
set_option maxRecDepth 10000 in
theorem e114_21f {L : Nat} {xs : Nat → Int32} {fv : Value} {f w : Nat} {c : Nat × Nat} {o : z_V} {T' : z_Y} {A : Nat → List (Nat × Int32)} {E : List (Nat × Option Nat)} {N : Nat → Nat} {V : Nat → Nat → Int32} {W : Nat} {g : List z_E} {x1 : Int32} {x2 : Int32} {x3 : Int32}  (hb : ¬ (¬ ((V 38 10) - x2) = x1)) (kk : z_Ln L xs fv f w 114 31 [(0, .ref 145), (1, .int x1), (2, .int x2), (3, .int x3)] [] (hC A E N V W ++ g, c) o T') : z_Ln L xs fv f w 114 21 [(0, .ref 145), (1, .int x1), (2, .int x2), (3, .int x3)] [] (hC A E N V W ++ g, c) o T' := z_Ln.blk (pc' := (if decide (¬ ((V 38 10) - x2) = x1) = true then 41 else 31)) (lv' := [(0, .ref 145), (1, .int x1), (2, .int x2), (3, .int x3)]) (st' := []) (H' := hC A E N V W ++ g) (C := []) 12 6 rfl trivial (z_Ln.brF (decide_eq_false hb) (kk))
set_option maxRecDepth 10000 in
theorem e114_31 {L : Nat} {xs : Nat → Int32} {fv : Value} {f w : Nat} {c : Nat × Nat} {o : z_V} {T' : z_Y} {A : Nat → List (Nat × Int32)} {E : List (Nat × Option Nat)} {N : Nat → Nat} {V : Nat → Nat → Int32} {W : Nat} {g : List z_E} {x1 : Int32} {x2 : Int32} {x3 : Int32} {A1 : Nat → List (Nat × Int32)} {E1 : List (Nat × Option Nat)} {N1 : Nat → Nat} {V1 : Nat → Nat → Int32} {W1 : Nat} {g1 : List z_E} {c1 : Nat × Nat} {v : Int32}   (hRm : z_Rm (hC A E N V W ++ g, c)) (hf : 1 ≤ f) (hw : 19 + z_pg.2.1 115 ≤ w) (hc : z_Ln L xs fv (f - 1) (w - (19 + z_pg.2.1 115)) 115 0 [(0, .ref 145)] [] (hC A E N V W ++ g, c) (.inl (some (.int v))) (hC A1 E1 N1 V1 W1 ++ g1, c1)) (kk : z_Ln L xs fv f w 114 35 [(0, .ref 145), (1, .int x1), (2, .int x2), (3, .int x3)] [.int v] (hC A1 E1 N1 V1 W1 ++ g1, c1) o T') : z_Ln L xs fv f w 114 31 [(0, .ref 145), (1, .int x1), (2, .int x2), (3, .int x3)] [] (hC A E N V W ++ g, c) o T' := z_Ln.blk (pc' := 32) (lv' := [(0, .ref 145), (1, .int x1), (2, .int x2), (3, .int x3)]) (st' := [.ref 145]) (H' := hC A E N V W ++ g) (C := []) 18 1 rfl trivial (z_Ln.call (s := 0) (mj := 115) (as := [.ref 145]) (rr := []) (v := some (.int v)) (T1 := (hC A1 E1 N1 V1 W1 ++ g1, c1)) rfl rfl ⟨⟨hf, hw⟩, (by decide : (0 : Nat) ≤ 8), (by decide +kernel : (1 : Nat) ≤ z_pg.2.1 115)⟩ hRm hc ⟨trivial, ⟨(z_sm0C 0 (by decide) rfl rfl), trivial, trivial, trivial, trivial⟩⟩ (kk))
set_option maxRecDepth 10000 in
theorem e114_31x {L : Nat} {xs : Nat → Int32} {fv : Value} {f w : Nat} {c : Nat × Nat} {T' : z_Y} {A : Nat → List (Nat × Int32)} {E : List (Nat × Option Nat)} {N : Nat → Nat} {V : Nat → Nat → Int32} {W : Nat} {g : List z_E} {x1 : Int32} {x2 : Int32} {x3 : Int32}  (hRm : z_Rm (hC A E N V W ++ g, c)) (hf : 1 ≤ f) (hw : 19 + z_pg.2.1 115 ≤ w) (hc : z_Ln L xs fv (f - 1) (w - (19 + z_pg.2.1 115)) 115 0 [(0, .ref 145)] [] (hC A E N V W ++ g, c) (.inr 10) T') : z_Ln L xs fv f w 114 31 [(0, .ref 145), (1, .int x1), (2, .int x2), (3, .int x3)] [] (hC A E N V W ++ g, c) (.inr 10) T' := z_Ln.blk (pc' := 32) (lv' := [(0, .ref 145), (1, .int x1), (2, .int x2), (3, .int x3)]) (st' := [.ref 145]) (H' := hC A E N V W ++ g) (C := []) 18 1 rfl trivial (z_Ln.past (s := 0) (mj := 115) (as := [.ref 145]) (rr := []) rfl rfl ⟨⟨hf, hw⟩, (by decide : (0 : Nat) ≤ 8), (by decide +kernel : (1 : Nat) ≤ z_pg.2.1 115)⟩ hRm hc rfl)
set_option maxRecDepth 10000 in
theorem e114_35t {L : Nat} {xs : Nat → Int32} {fv : Value} {f w : Nat} {c : Nat × Nat} {o : z_V} {T' : z_Y} {A : Nat → List (Nat × Int32)} {E : List (Nat × Option Nat)} {N : Nat → Nat} {V : Nat → Nat → Int32} {W : Nat} {g : List z_E} {x1 : Int32} {x2 : Int32} {x3 : Int32} {y0 : Int32}  (hb : y0 = 0) (kk : z_Ln L xs fv f w 114 41 [(0, .ref 145), (1, .int x1), (2, .int x2), (3, .int x3)] [] (hC A E N V W ++ g, c) o T') : z_Ln L xs fv f w 114 35 [(0, .ref 145), (1, .int x1), (2, .int x2), (3, .int x3)] [.int y0] (hC A E N V W ++ g, c) o T' := z_Ln.blk (pc' := (if decide (y0 = 0) = true then 41 else 38)) (lv' := [(0, .ref 145), (1, .int x1), (2, .int x2), (3, .int x3)]) (st' := []) (H' := hC A E N V W ++ g) (C := []) 20 1 rfl trivial (z_Ln.brT (decide_eq_true hb) (kk))
set_option maxRecDepth 10000 in
theorem e114_35f {L : Nat} {xs : Nat → Int32} {fv : Value} {f w : Nat} {c : Nat × Nat} {o : z_V} {T' : z_Y} {A : Nat → List (Nat × Int32)} {E : List (Nat × Option Nat)} {N : Nat → Nat} {V : Nat → Nat → Int32} {W : Nat} {g : List z_E} {x1 : Int32} {x2 : Int32} {x3 : Int32} {y0 : Int32}  (hb : ¬ (y0 = 0)) (kk : z_Ln L xs fv f w 114 38 [(0, .ref 145), (1, .int x1), (2, .int x2), (3, .int x3)] [] (hC A E N V W ++ g, c) o T') : z_Ln L xs fv f w 114 35 [(0, .ref 145), (1, .int x1), (2, .int x2), (3, .int x3)] [.int y0] (hC A E N V W ++ g, c) o T' := z_Ln.blk (pc' := (if decide (y0 = 0) = true then 41 else 38)) (lv' := [(0, .ref 145), (1, .int x1), (2, .int x2), (3, .int x3)]) (st' := []) (H' := hC A E N V W ++ g) (C := []) 20 1 rfl trivial (z_Ln.brF (decide_eq_false hb) (kk))
set_option maxRecDepth 10000 in
theorem e114_38 {L : Nat} {xs : Nat → Int32} {fv : Value} {f w : Nat} {c : Nat × Nat} {o : z_V} {T' : z_Y} {A : Nat → List (Nat × Int32)} {E : List (Nat × Option Nat)} {N : Nat → Nat} {V : Nat → Nat → Int32} {W : Nat} {g : List z_E} {x1 : Int32} {x2 : Int32} {x3 : Int32}  (kk : z_Ln L xs fv f w 114 75 [(0, .ref 145), (1, .int x1), (2, .int x2), (3, .int x3)] [] (hC A E N V W ++ g, c) o T') : z_Ln L xs fv f w 114 38 [(0, .ref 145), (1, .int x1), (2, .int x2), (3, .int x3)] [] (hC A E N V W ++ g, c) o T' := z_Ln.blk (pc' := 75) (lv' := [(0, .ref 145), (1, .int x1), (2, .int x2), (3, .int x3)]) (st' := []) (H' := hC A E N V W ++ g) (C := []) 21 1 rfl trivial (kk)
set_option maxRecDepth 10000 in
theorem e114_41t {L : Nat} {xs : Nat → Int32} {fv : Value} {f w : Nat} {c : Nat × Nat} {o : z_V} {T' : z_Y} {A : Nat → List (Nat × Int32)} {E : List (Nat × Option Nat)} {N : Nat → Nat} {V : Nat → Nat → Int32} {W : Nat} {g : List z_E} {x1 : Int32} {x2 : Int32} {x3 : Int32} (h1 : z_in (V 38 6) (N 14) = true) (hb : 14 ≤ (z_fn 0 (A 14) (V 38 6).toNatClampNeg)) (kk : z_Ln L xs fv f w 114 65 [(0, .ref 145), (1, .int x1), (2, .int x2), (3, .int x3)] [] (hC A E N V W ++ g, c) o T') : z_Ln L xs fv f w 114 41 [(0, .ref 145), (1, .int x1), (2, .int x2), (3, .int x3)] [] (hC A E N V W ++ g, c) o T' := z_Ln.blk (pc' := (if decide (14 ≤ (z_fn 0 (A 14) (V 38 6).toNatClampNeg)) = true then 65 else 58)) (lv' := [(0, .ref 145), (1, .int x1), (2, .int x2), (3, .int x3)]) (st' := []) (H' := hC A E N V W ++ g) (C := [z_in (V 38 6) (N 14) = true]) 22 8 rfl h1 (z_Ln.brT (decide_eq_true hb) (kk))
set_option maxRecDepth 10000 in
theorem e114_41f {L : Nat} {xs : Nat → Int32} {fv : Value} {f w : Nat} {c : Nat × Nat} {o : z_V} {T' : z_Y} {A : Nat → List (Nat × Int32)} {E : List (Nat × Option Nat)} {N : Nat → Nat} {V : Nat → Nat → Int32} {W : Nat} {g : List z_E} {x1 : Int32} {x2 : Int32} {x3 : Int32} (h1 : z_in (V 38 6) (N 14) = true) (hb : ¬ (14 ≤ (z_fn 0 (A 14) (V 38 6).toNatClampNeg))) (kk : z_Ln L xs fv f w 114 58 [(0, .ref 145), (1, .int x1), (2, .int x2), (3, .int x3)] [] (hC A E N V W ++ g, c) o T') : z_Ln L xs fv f w 114 41 [(0, .ref 145), (1, .int x1), (2, .int x2), (3, .int x3)] [] (hC A E N V W ++ g, c) o T' := z_Ln.blk (pc' := (if decide (14 ≤ (z_fn 0 (A 14) (V 38 6).toNatClampNeg)) = true then 65 else 58)) (lv' := [(0, .ref 145), (1, .int x1), (2, .int x2), (3, .int x3)]) (st' := []) (H' := hC A E N V W ++ g) (C := [z_in (V 38 6) (N 14) = true]) 22 8 rfl h1 (z_Ln.brF (decide_eq_false hb) (kk))
set_option maxRecDepth 10000 in
theorem e114_58 {L : Nat} {xs : Nat → Int32} {fv : Value} {f w : Nat} {c : Nat × Nat} {o : z_V} {T' : z_Y} {A : Nat → List (Nat × Int32)} {E : List (Nat × Option Nat)} {N : Nat → Nat} {V : Nat → Nat → Int32} {W : Nat} {g : List z_E} {x1 : Int32} {x2 : Int32} {x3 : Int32} {A1 : Nat → List (Nat × Int32)} {E1 : List (Nat × Option Nat)} {N1 : Nat → Nat} {V1 : Nat → Nat → Int32} {W1 : Nat} {g1 : List z_E} {c1 : Nat × Nat}   (hRm : z_Rm (hC A E N V W ++ g, c)) (hf : 1 ≤ f) (hw : 19 + z_pg.2.1 116 ≤ w) (hc : z_Ln L xs fv (f - 1) (w - (19 + z_pg.2.1 116)) 116 0 [(0, .ref 145)] [] (hC A E N V W ++ g, c) (.inl (none)) (hC A1 E1 N1 V1 W1 ++ g1, c1)) (kk : z_Ln L xs fv f w 114 62 [(0, .ref 145), (1, .int x1), (2, .int x2), (3, .int x3)] [] (hC A1 E1 N1 V1 W1 ++ g1, c1) o T') : z_Ln L xs fv f w 114 58 [(0, .ref 145), (1, .int x1), (2, .int x2), (3, .int x3)] [] (hC A E N V W ++ g, c) o T' := z_Ln.blk (pc' := 59) (lv' := [(0, .ref 145), (1, .int x1), (2, .int x2), (3, .int x3)]) (st' := [.ref 145]) (H' := hC A E N V W ++ g) (C := []) 30 1 rfl trivial (z_Ln.call (s := 0) (mj := 116) (as := [.ref 145]) (rr := []) (v := none) (T1 := (hC A1 E1 N1 V1 W1 ++ g1, c1)) rfl rfl ⟨⟨hf, hw⟩, (by decide : (0 : Nat) ≤ 8), (by decide +kernel : (1 : Nat) ≤ z_pg.2.1 116)⟩ hRm hc ⟨trivial, ⟨(z_sm0C 0 (by decide) rfl rfl), trivial, trivial, trivial, trivial⟩⟩ (kk))
set_option maxRecDepth 10000 in
theorem e114_58x {L : Nat} {xs : Nat → Int32} {fv : Value} {f w : Nat} {c : Nat × Nat} {T' : z_Y} {A : Nat → List (Nat × Int32)} {E : List (Nat × Option Nat)} {N : Nat → Nat} {V : Nat → Nat → Int32} {W : Nat} {g : List z_E} {x1 : Int32} {x2 : Int32} {x3 : Int32}  (hRm : z_Rm (hC A E N V W ++ g, c)) (hf : 1 ≤ f) (hw : 19 + z_pg.2.1 116 ≤ w) (hc : z_Ln L xs fv (f - 1) (w - (19 + z_pg.2.1 116)) 116 0 [(0, .ref 145)] [] (hC A E N V W ++ g, c) (.inr 10) T') : z_Ln L xs fv f w 114 58 [(0, .ref 145), (1, .int x1), (2, .int x2), (3, .int x3)] [] (hC A E N V W ++ g, c) (.inr 10) T' := z_Ln.blk (pc' := 59) (lv' := [(0, .ref 145), (1, .int x1), (2, .int x2), (3, .int x3)]) (st' := [.ref 145]) (H' := hC A E N V W ++ g) (C := []) 30 1 rfl trivial (z_Ln.past (s := 0) (mj := 116) (as := [.ref 145]) (rr := []) rfl rfl ⟨⟨hf, hw⟩, (by decide : (0 : Nat) ≤ 8), (by decide +kernel : (1 : Nat) ≤ z_pg.2.1 116)⟩ hRm hc rfl)
set_option maxRecDepth 10000 in
theorem e114_62 {L : Nat} {xs : Nat → Int32} {fv : Value} {f w : Nat} {c : Nat × Nat} {o : z_V} {T' : z_Y} {A : Nat → List (Nat × Int32)} {E : List (Nat × Option Nat)} {N : Nat → Nat} {V : Nat → Nat → Int32} {W : Nat} {g : List z_E} {x1 : Int32} {x2 : Int32} {x3 : Int32}  (kk : z_Ln L xs fv f w 114 69 [(0, .ref 145), (1, .int x1), (2, .int x2), (3, .int x3)] [] (hC A E N V W ++ g, c) o T') : z_Ln L xs fv f w 114 62 [(0, .ref 145), (1, .int x1), (2, .int x2), (3, .int x3)] [] (hC A E N V W ++ g, c) o T' := z_Ln.blk (pc' := 69) (lv' := [(0, .ref 145), (1, .int x1), (2, .int x2), (3, .int x3)]) (st' := []) (H' := hC A E N V W ++ g) (C := []) 32 1 rfl trivial (kk)
set_option maxRecDepth 10000 in
theorem e114_65 {L : Nat} {xs : Nat → Int32} {fv : Value} {f w : Nat} {c : Nat × Nat} {o : z_V} {T' : z_Y} {A : Nat → List (Nat × Int32)} {E : List (Nat × Option Nat)} {N : Nat → Nat} {V : Nat → Nat → Int32} {W : Nat} {g : List z_E} {x1 : Int32} {x2 : Int32} {x3 : Int32} {A1 : Nat → List (Nat × Int32)} {E1 : List (Nat × Option Nat)} {N1 : Nat → Nat} {V1 : Nat → Nat → Int32} {W1 : Nat} {g1 : List z_E} {c1 : Nat × Nat}   (hRm : z_Rm (hC A E N V W ++ g, c)) (hf : 1 ≤ f) (hw : 19 + z_pg.2.1 120 ≤ w) (hc : z_Ln L xs fv (f - 1) (w - (19 + z_pg.2.1 120)) 120 0 [(0, .ref 145)] [] (hC A E N V W ++ g, c) (.inl (none)) (hC A1 E1 N1 V1 W1 ++ g1, c1)) (kk : z_Ln L xs fv f w 114 69 [(0, .ref 145), (1, .int x1), (2, .int x2), (3, .int x3)] [] (hC A1 E1 N1 V1 W1 ++ g1, c1) o T') : z_Ln L xs fv f w 114 65 [(0, .ref 145), (1, .int x1), (2, .int x2), (3, .int x3)] [] (hC A E N V W ++ g, c) o T' := z_Ln.blk (pc' := 66) (lv' := [(0, .ref 145), (1, .int x1), (2, .int x2), (3, .int x3)]) (st' := [.ref 145]) (H' := hC A E N V W ++ g) (C := []) 33 1 rfl trivial (z_Ln.call (s := 0) (mj := 120) (as := [.ref 145]) (rr := []) (v := none) (T1 := (hC A1 E1 N1 V1 W1 ++ g1, c1)) rfl rfl ⟨⟨hf, hw⟩, (by decide : (0 : Nat) ≤ 8), (by decide +kernel : (1 : Nat) ≤ z_pg.2.1 120)⟩ hRm hc ⟨trivial, ⟨(z_sm0C 0 (by decide) rfl rfl), trivial, trivial, trivial, trivial⟩⟩ (kk))
set_option maxRecDepth 10000 in
theorem e114_65x {L : Nat} {xs : Nat → Int32} {fv : Value} {f w : Nat} {c : Nat × Nat} {T' : z_Y} {A : Nat → List (Nat × Int32)} {E : List (Nat × Option Nat)} {N : Nat → Nat} {V : Nat → Nat → Int32} {W : Nat} {g : List z_E} {x1 : Int32} {x2 : Int32} {x3 : Int32}  (hRm : z_Rm (hC A E N V W ++ g, c)) (hf : 1 ≤ f) (hw : 19 + z_pg.2.1 120 ≤ w) (hc : z_Ln L xs fv (f - 1) (w - (19 + z_pg.2.1 120)) 120 0 [(0, .ref 145)] [] (hC A E N V W ++ g, c) (.inr 10) T') : z_Ln L xs fv f w 114 65 [(0, .ref 145), (1, .int x1), (2, .int x2), (3, .int x3)] [] (hC A E N V W ++ g, c) (.inr 10) T' := z_Ln.blk (pc' := 66) (lv' := [(0, .ref 145), (1, .int x1), (2, .int x2), (3, .int x3)]) (st' := [.ref 145]) (H' := hC A E N V W ++ g) (C := []) 33 1 rfl trivial (z_Ln.past (s := 0) (mj := 120) (as := [.ref 145]) (rr := []) rfl rfl ⟨⟨hf, hw⟩, (by decide : (0 : Nat) ≤ 8), (by decide +kernel : (1 : Nat) ≤ z_pg.2.1 120)⟩ hRm hc rfl)
set_option maxRecDepth 10000 in
theorem e114_69 {L : Nat} {xs : Nat → Int32} {fv : Value} {f w : Nat} {c : Nat × Nat} {o : z_V} {T' : z_Y} {A : Nat → List (Nat × Int32)} {E : List (Nat × Option Nat)} {N : Nat → Nat} {V : Nat → Nat → Int32} {W : Nat} {g : List z_E} {x1 : Int32} {x2 : Int32} {x3 : Int32}  (kk : z_Ln L xs fv f w 114 7 [(0, .ref 145), (1, .int x1), (2, .int x2), (3, .int (x3 + 1))] [] (hC A E N V W ++ g, c) o T') : z_Ln L xs fv f w 114 69 [(0, .ref 145), (1, .int x1), (2, .int x2), (3, .int x3)] [] (hC A E N V W ++ g, c) o T' := z_Ln.blk (pc' := 7) (lv' := [(3, .int (x3 + 1)), (0, .ref 145), (1, .int x1), (2, .int x2)]) (st' := []) (H' := hC A E N V W ++ g) (C := []) 35 2 rfl trivial (z_Ln.lv (z_le.cons rfl rfl (z_le.cons rfl rfl (z_le.cons rfl rfl (z_le.cons rfl rfl z_le.nil)))) kk)
set_option maxRecDepth 10000 in
theorem e114_75 {L : Nat} {xs : Nat → Int32} {fv : Value} {f w : Nat} {c : Nat × Nat} {A : Nat → List (Nat × Int32)} {E : List (Nat × Option Nat)} {N : Nat → Nat} {V : Nat → Nat → Int32} {W : Nat} {g : List z_E} {x1 : Int32} {x2 : Int32} {x3 : Int32}  : z_Ln L xs fv f w 114 75 [(0, .ref 145), (1, .int x1), (2, .int x2), (3, .int x3)] [] (hC A E N V W ++ g, c) (.inl (some (.int ((V 38 10) - x2)))) (hC A E N V W ++ g, c) := z_Ln.blk (pc' := 81) (lv' := [(0, .ref 145), (1, .int x1), (2, .int x2), (3, .int x3)]) (st' := [.int ((V 38 10) - x2)]) (H' := hC A E N V W ++ g) (C := []) 37 4 rfl trivial (z_Ln.ret rfl z_retI)
def p114_0 (l : Nat) (A : Nat → List (Nat × Int32)) (E : List (Nat × Option Nat)) (N : Nat → Nat) (V : Nat → Nat → Int32) (W : Nat) (c : Nat × Nat) (x1 : Int32) (Q : z_V → z_CS → Prop) : Prop := z_WC (l + 1) 114 7 [(0, .ref 145), (1, .int x1), (2, .int (V 38 10)), (3, .int 0)] [] (A, E, N, V, W, c) Q
set_option maxRecDepth 10000 in
theorem t114_0 {l : Nat} {A : Nat → List (Nat × Int32)} {E : List (Nat × Option Nat)} {N : Nat → Nat} {V : Nat → Nat → Int32} {W : Nat} {c : Nat × Nat} {x1 : Int32} {Q : z_V → z_CS → Prop} (h : p114_0 l A E N V W c x1 Q) : z_WC (l + 1) 114 0 [(0, .ref 145), (1, .int x1)] [] (A, E, N, V, W, c) Q := by
  unfold p114_0 at h
  exact z_WC.blk (h) (fun _ _ _ _ _ _ _ _ hg hl k => e114_0  k)
def p114_75 (l : Nat) (A : Nat → List (Nat × Int32)) (E : List (Nat × Option Nat)) (N : Nat → Nat) (V : Nat → Nat → Int32) (W : Nat) (c : Nat × Nat) (x1 : Int32) (x2 : Int32) (x3 : Int32) (Q : z_V → z_CS → Prop) : Prop := Q (.inl (some (.int ((V 38 10) - x2)))) (A, E, N, V, W, c)
set_option maxRecDepth 10000 in
theorem t114_75 {l : Nat} {A : Nat → List (Nat × Int32)} {E : List (Nat × Option Nat)} {N : Nat → Nat} {V : Nat → Nat → Int32} {W : Nat} {c : Nat × Nat} {x1 : Int32} {x2 : Int32} {x3 : Int32} {Q : z_V → z_CS → Prop} (h : p114_75 l A E N V W c x1 x2 x3 Q) : z_WC (l + 1) 114 75 [(0, .ref 145), (1, .int x1), (2, .int x2), (3, .int x3)] [] (A, E, N, V, W, c) Q := by
  unfold p114_75 at h
  exact ⟨(.inl (some (.int ((V 38 10) - x2)))), (A, E, N, V, W, c), fun _ _ _ _ _ _ hg hl => e114_75 , h⟩
def p114_69 (l : Nat) (A : Nat → List (Nat × Int32)) (E : List (Nat × Option Nat)) (N : Nat → Nat) (V : Nat → Nat → Int32) (W : Nat) (c : Nat × Nat) (x1 : Int32) (x2 : Int32) (x3 : Int32) (Q : z_V → z_CS → Prop) : Prop := z_WC (l + 1) 114 7 [(0, .ref 145), (1, .int x1), (2, .int x2), (3, .int (x3 + 1))] [] (A, E, N, V, W, c) Q
set_option maxRecDepth 10000 in
theorem t114_69 {l : Nat} {A : Nat → List (Nat × Int32)} {E : List (Nat × Option Nat)} {N : Nat → Nat} {V : Nat → Nat → Int32} {W : Nat} {c : Nat × Nat} {x1 : Int32} {x2 : Int32} {x3 : Int32} {Q : z_V → z_CS → Prop} (h : p114_69 l A E N V W c x1 x2 x3 Q) : z_WC (l + 1) 114 69 [(0, .ref 145), (1, .int x1), (2, .int x2), (3, .int x3)] [] (A, E, N, V, W, c) Q := by
  unfold p114_69 at h
  exact z_WC.blk (h) (fun _ _ _ _ _ _ _ _ hg hl k => e114_69  k)
def p114_65 (l : Nat) (A : Nat → List (Nat × Int32)) (E : List (Nat × Option Nat)) (N : Nat → Nat) (V : Nat → Nat → Int32) (W : Nat) (c : Nat × Nat) (x1 : Int32) (x2 : Int32) (x3 : Int32) (Q : z_V → z_CS → Prop) : Prop := z_Rm ([], c) ∧ z_WC l 120 0 [(0, .ref 145)] [] (A, E, N, V, W, c) (z_cx Q (fun x S1 => x = none ∧ p114_69 l S1.1 S1.2.1 S1.2.2.1 S1.2.2.2.1 S1.2.2.2.2.1 S1.2.2.2.2.2 x1 x2 x3 Q))
set_option maxRecDepth 10000 in
theorem t114_65 {l : Nat} {A : Nat → List (Nat × Int32)} {E : List (Nat × Option Nat)} {N : Nat → Nat} {V : Nat → Nat → Int32} {W : Nat} {c : Nat × Nat} {x1 : Int32} {x2 : Int32} {x3 : Int32} {Q : z_V → z_CS → Prop} (h : p114_65 l A E N V W c x1 x2 x3 Q) : z_WC (l + 1) 114 65 [(0, .ref 145), (1, .int x1), (2, .int x2), (3, .int x3)] [] (A, E, N, V, W, c) Q := by
  unfold p114_65 at h
  obtain ⟨hm, h⟩ := h
  obtain ⟨o, S1, hc, h⟩ := h
  cases o with
  | inl x =>
    obtain ⟨rfl, h⟩ := h
    obtain ⟨o2, S2, hk, hQ⟩ := t114_69 h
    exact ⟨o2, S2, fun L xs fv f w g hg hl => e114_65   hm hl.f1 (hl.w1 120 (by decide)) (hc L xs fv _ _ g hg (hl.dn 120 (by decide))) (hk L xs fv f w g hg hl), hQ⟩
  | inr e =>
    obtain ⟨rfl, h⟩ := h
    exact ⟨_, S1, fun L xs fv f w g hg hl => e114_65x  hm hl.f1 (hl.w1 120 (by decide)) (hc L xs fv _ _ g hg (hl.dn 120 (by decide))), h⟩
def p114_62 (l : Nat) (A : Nat → List (Nat × Int32)) (E : List (Nat × Option Nat)) (N : Nat → Nat) (V : Nat → Nat → Int32) (W : Nat) (c : Nat × Nat) (x1 : Int32) (x2 : Int32) (x3 : Int32) (Q : z_V → z_CS → Prop) : Prop := p114_69 l A E N V W c x1 x2 x3 Q
set_option maxRecDepth 10000 in
theorem t114_62 {l : Nat} {A : Nat → List (Nat × Int32)} {E : List (Nat × Option Nat)} {N : Nat → Nat} {V : Nat → Nat → Int32} {W : Nat} {c : Nat × Nat} {x1 : Int32} {x2 : Int32} {x3 : Int32} {Q : z_V → z_CS → Prop} (h : p114_62 l A E N V W c x1 x2 x3 Q) : z_WC (l + 1) 114 62 [(0, .ref 145), (1, .int x1), (2, .int x2), (3, .int x3)] [] (A, E, N, V, W, c) Q := by
  unfold p114_62 at h
  exact z_WC.blk (t114_69 h) (fun _ _ _ _ _ _ _ _ hg hl k => e114_62  k)
def p114_58 (l : Nat) (A : Nat → List (Nat × Int32)) (E : List (Nat × Option Nat)) (N : Nat → Nat) (V : Nat → Nat → Int32) (W : Nat) (c : Nat × Nat) (x1 : Int32) (x2 : Int32) (x3 : Int32) (Q : z_V → z_CS → Prop) : Prop := z_Rm ([], c) ∧ z_WC l 116 0 [(0, .ref 145)] [] (A, E, N, V, W, c) (z_cx Q (fun x S1 => x = none ∧ p114_62 l S1.1 S1.2.1 S1.2.2.1 S1.2.2.2.1 S1.2.2.2.2.1 S1.2.2.2.2.2 x1 x2 x3 Q))
set_option maxRecDepth 10000 in
theorem t114_58 {l : Nat} {A : Nat → List (Nat × Int32)} {E : List (Nat × Option Nat)} {N : Nat → Nat} {V : Nat → Nat → Int32} {W : Nat} {c : Nat × Nat} {x1 : Int32} {x2 : Int32} {x3 : Int32} {Q : z_V → z_CS → Prop} (h : p114_58 l A E N V W c x1 x2 x3 Q) : z_WC (l + 1) 114 58 [(0, .ref 145), (1, .int x1), (2, .int x2), (3, .int x3)] [] (A, E, N, V, W, c) Q := by
  unfold p114_58 at h
  obtain ⟨hm, h⟩ := h
  obtain ⟨o, S1, hc, h⟩ := h
  cases o with
  | inl x =>
    obtain ⟨rfl, h⟩ := h
    obtain ⟨o2, S2, hk, hQ⟩ := t114_62 h
    exact ⟨o2, S2, fun L xs fv f w g hg hl => e114_58   hm hl.f1 (hl.w1 116 (by decide)) (hc L xs fv _ _ g hg (hl.dn 116 (by decide))) (hk L xs fv f w g hg hl), hQ⟩
  | inr e =>
    obtain ⟨rfl, h⟩ := h
    exact ⟨_, S1, fun L xs fv f w g hg hl => e114_58x  hm hl.f1 (hl.w1 116 (by decide)) (hc L xs fv _ _ g hg (hl.dn 116 (by decide))), h⟩
def p114_41 (l : Nat) (A : Nat → List (Nat × Int32)) (E : List (Nat × Option Nat)) (N : Nat → Nat) (V : Nat → Nat → Int32) (W : Nat) (c : Nat × Nat) (x1 : Int32) (x2 : Int32) (x3 : Int32) (Q : z_V → z_CS → Prop) : Prop := z_in (V 38 6) (N 14) = true ∧ (if 14 ≤ (z_fn 0 (A 14) (V 38 6).toNatClampNeg) then p114_65 l A E N V W c x1 x2 x3 Q else p114_58 l A E N V W c x1 x2 x3 Q)
set_option maxRecDepth 10000 in
theorem t114_41 {l : Nat} {A : Nat → List (Nat × Int32)} {E : List (Nat × Option Nat)} {N : Nat → Nat} {V : Nat → Nat → Int32} {W : Nat} {c : Nat × Nat} {x1 : Int32} {x2 : Int32} {x3 : Int32} {Q : z_V → z_CS → Prop} (h : p114_41 l A E N V W c x1 x2 x3 Q) : z_WC (l + 1) 114 41 [(0, .ref 145), (1, .int x1), (2, .int x2), (3, .int x3)] [] (A, E, N, V, W, c) Q := by
  unfold p114_41 at h
  obtain ⟨h1, h⟩ := h
  by_cases hb : 14 ≤ (z_fn 0 (A 14) (V 38 6).toNatClampNeg)
  · rw [if_pos hb] at h
    exact z_WC.blk (t114_65 h) (fun _ _ _ _ _ _ _ _ hg hl k => e114_41t h1 hb k)
  · rw [if_neg hb] at h
    exact z_WC.blk (t114_58 h) (fun _ _ _ _ _ _ _ _ hg hl k => e114_41f h1 hb k)
def p114_38 (l : Nat) (A : Nat → List (Nat × Int32)) (E : List (Nat × Option Nat)) (N : Nat → Nat) (V : Nat → Nat → Int32) (W : Nat) (c : Nat × Nat) (x1 : Int32) (x2 : Int32) (x3 : Int32) (Q : z_V → z_CS → Prop) : Prop := p114_75 l A E N V W c x1 x2 x3 Q
set_option maxRecDepth 10000 in
theorem t114_38 {l : Nat} {A : Nat → List (Nat × Int32)} {E : List (Nat × Option Nat)} {N : Nat → Nat} {V : Nat → Nat → Int32} {W : Nat} {c : Nat × Nat} {x1 : Int32} {x2 : Int32} {x3 : Int32} {Q : z_V → z_CS → Prop} (h : p114_38 l A E N V W c x1 x2 x3 Q) : z_WC (l + 1) 114 38 [(0, .ref 145), (1, .int x1), (2, .int x2), (3, .int x3)] [] (A, E, N, V, W, c) Q := by
  unfold p114_38 at h
  exact z_WC.blk (t114_75 h) (fun _ _ _ _ _ _ _ _ hg hl k => e114_38  k)
def p114_35 (l : Nat) (A : Nat → List (Nat × Int32)) (E : List (Nat × Option Nat)) (N : Nat → Nat) (V : Nat → Nat → Int32) (W : Nat) (c : Nat × Nat) (x1 : Int32) (x2 : Int32) (x3 : Int32) (y0 : Int32) (Q : z_V → z_CS → Prop) : Prop := (if y0 = 0 then p114_41 l A E N V W c x1 x2 x3 Q else p114_38 l A E N V W c x1 x2 x3 Q)
set_option maxRecDepth 10000 in
theorem t114_35 {l : Nat} {A : Nat → List (Nat × Int32)} {E : List (Nat × Option Nat)} {N : Nat → Nat} {V : Nat → Nat → Int32} {W : Nat} {c : Nat × Nat} {x1 : Int32} {x2 : Int32} {x3 : Int32} {y0 : Int32} {Q : z_V → z_CS → Prop} (h : p114_35 l A E N V W c x1 x2 x3 y0 Q) : z_WC (l + 1) 114 35 [(0, .ref 145), (1, .int x1), (2, .int x2), (3, .int x3)] [.int y0] (A, E, N, V, W, c) Q := by
  unfold p114_35 at h
  by_cases hb : y0 = 0
  · rw [if_pos hb] at h
    exact z_WC.blk (t114_41 h) (fun _ _ _ _ _ _ _ _ hg hl k => e114_35t  hb k)
  · rw [if_neg hb] at h
    exact z_WC.blk (t114_38 h) (fun _ _ _ _ _ _ _ _ hg hl k => e114_35f  hb k)
def p114_31 (l : Nat) (A : Nat → List (Nat × Int32)) (E : List (Nat × Option Nat)) (N : Nat → Nat) (V : Nat → Nat → Int32) (W : Nat) (c : Nat × Nat) (x1 : Int32) (x2 : Int32) (x3 : Int32) (Q : z_V → z_CS → Prop) : Prop := z_Rm ([], c) ∧ z_WC l 115 0 [(0, .ref 145)] [] (A, E, N, V, W, c) (z_cx Q (fun x S1 => ∃ v : Int32, x = some (.int v) ∧ p114_35 l S1.1 S1.2.1 S1.2.2.1 S1.2.2.2.1 S1.2.2.2.2.1 S1.2.2.2.2.2 x1 x2 x3 v Q))
set_option maxRecDepth 10000 in
theorem t114_31 {l : Nat} {A : Nat → List (Nat × Int32)} {E : List (Nat × Option Nat)} {N : Nat → Nat} {V : Nat → Nat → Int32} {W : Nat} {c : Nat × Nat} {x1 : Int32} {x2 : Int32} {x3 : Int32} {Q : z_V → z_CS → Prop} (h : p114_31 l A E N V W c x1 x2 x3 Q) : z_WC (l + 1) 114 31 [(0, .ref 145), (1, .int x1), (2, .int x2), (3, .int x3)] [] (A, E, N, V, W, c) Q := by
  unfold p114_31 at h
  obtain ⟨hm, h⟩ := h
  obtain ⟨o, S1, hc, h⟩ := h
  cases o with
  | inl x =>
    obtain ⟨v, rfl, h⟩ := h
    obtain ⟨o2, S2, hk, hQ⟩ := t114_35 h
    exact ⟨o2, S2, fun L xs fv f w g hg hl => e114_31   hm hl.f1 (hl.w1 115 (by decide)) (hc L xs fv _ _ g hg (hl.dn 115 (by decide))) (hk L xs fv f w g hg hl), hQ⟩
  | inr e =>
    obtain ⟨rfl, h⟩ := h
    exact ⟨_, S1, fun L xs fv f w g hg hl => e114_31x  hm hl.f1 (hl.w1 115 (by decide)) (hc L xs fv _ _ g hg (hl.dn 115 (by decide))), h⟩
def p114_21 (l : Nat) (A : Nat → List (Nat × Int32)) (E : List (Nat × Option Nat)) (N : Nat → Nat) (V : Nat → Nat → Int32) (W : Nat) (c : Nat × Nat) (x1 : Int32) (x2 : Int32) (x3 : Int32) (Q : z_V → z_CS → Prop) : Prop := (if ((V 38 10) - x2) = x1 then p114_31 l A E N V W c x1 x2 x3 Q else p114_41 l A E N V W c x1 x2 x3 Q)
set_option maxRecDepth 10000 in
theorem t114_21 {l : Nat} {A : Nat → List (Nat × Int32)} {E : List (Nat × Option Nat)} {N : Nat → Nat} {V : Nat → Nat → Int32} {W : Nat} {c : Nat × Nat} {x1 : Int32} {x2 : Int32} {x3 : Int32} {Q : z_V → z_CS → Prop} (h : p114_21 l A E N V W c x1 x2 x3 Q) : z_WC (l + 1) 114 21 [(0, .ref 145), (1, .int x1), (2, .int x2), (3, .int x3)] [] (A, E, N, V, W, c) Q := by
  unfold p114_21 at h
  by_cases hb : ((V 38 10) - x2) = x1
  · rw [if_pos hb] at h
    exact z_WC.blk (t114_31 h) (fun _ _ _ _ _ _ _ _ hg hl k => e114_21f  (fun q => q hb) k)
  · rw [if_neg hb] at h
    exact z_WC.blk (t114_41 h) (fun _ _ _ _ _ _ _ _ hg hl k => e114_21t  hb k)
def p114_13 (l : Nat) (A : Nat → List (Nat × Int32)) (E : List (Nat × Option Nat)) (N : Nat → Nat) (V : Nat → Nat → Int32) (W : Nat) (c : Nat × Nat) (x1 : Int32) (x2 : Int32) (x3 : Int32) (Q : z_V → z_CS → Prop) : Prop := (if (V 38 7) = 1 then p114_21 l A E N V W c x1 x2 x3 Q else p114_75 l A E N V W c x1 x2 x3 Q)
set_option maxRecDepth 10000 in
theorem t114_13 {l : Nat} {A : Nat → List (Nat × Int32)} {E : List (Nat × Option Nat)} {N : Nat → Nat} {V : Nat → Nat → Int32} {W : Nat} {c : Nat × Nat} {x1 : Int32} {x2 : Int32} {x3 : Int32} {Q : z_V → z_CS → Prop} (h : p114_13 l A E N V W c x1 x2 x3 Q) : z_WC (l + 1) 114 13 [(0, .ref 145), (1, .int x1), (2, .int x2), (3, .int x3)] [] (A, E, N, V, W, c) Q := by
  unfold p114_13 at h
  by_cases hb : (V 38 7) = 1
  · rw [if_pos hb] at h
    exact z_WC.blk (t114_21 h) (fun _ _ _ _ _ _ _ _ hg hl k => e114_13f  (fun q => q hb) k)
  · rw [if_neg hb] at h
    exact z_WC.blk (t114_75 h) (fun _ _ _ _ _ _ _ _ hg hl k => e114_13t  hb k)
def p114_7 (l : Nat) (A : Nat → List (Nat × Int32)) (E : List (Nat × Option Nat)) (N : Nat → Nat) (V : Nat → Nat → Int32) (W : Nat) (c : Nat × Nat) (x1 : Int32) (x2 : Int32) (x3 : Int32) (Q : z_V → z_CS → Prop) : Prop := (if 100000000 ≤ x3 then p114_75 l A E N V W c x1 x2 x3 Q else p114_13 l A E N V W c x1 x2 x3 Q)
set_option maxRecDepth 10000 in
theorem t114_7 {l : Nat} {A : Nat → List (Nat × Int32)} {E : List (Nat × Option Nat)} {N : Nat → Nat} {V : Nat → Nat → Int32} {W : Nat} {c : Nat × Nat} {x1 : Int32} {x2 : Int32} {x3 : Int32} {Q : z_V → z_CS → Prop} (h : p114_7 l A E N V W c x1 x2 x3 Q) : z_WC (l + 1) 114 7 [(0, .ref 145), (1, .int x1), (2, .int x2), (3, .int x3)] [] (A, E, N, V, W, c) Q := by
  unfold p114_7 at h
  by_cases hb : 100000000 ≤ x3
  · rw [if_pos hb] at h
    exact z_WC.blk (t114_75 h) (fun _ _ _ _ _ _ _ _ hg hl k => e114_7t  hb k)
  · rw [if_neg hb] at h
    exact z_WC.blk (t114_13 h) (fun _ _ _ _ _ _ _ _ hg hl k => e114_7f  hb k)
set_option maxRecDepth 10000 in
theorem e106_0 {L : Nat} {xs : Nat → Int32} {fv : Value} {f w : Nat} {c : Nat × Nat} {A : Nat → List (Nat × Int32)} {E : List (Nat × Option Nat)} {N : Nat → Nat} {V : Nat → Nat → Int32} {W : Nat} {g : List z_E}  : z_Ln L xs fv f w 106 0 [(0, .ref 110)] [] (hC A E N V W ++ g, c) (.inl none) (hC A E N (z_v V 3 2 (0)) W ++ g, c) := z_Ln.blk (pc' := 5) (lv' := [(0, .ref 110)]) (st' := []) (H' := hC A E N (z_v V 3 2 (0)) W ++ g) (C := [z_fit (z_fty 2 2) (.int 0) = true]) 0 3 rfl z_fitI (z_Ln.ret rfl rfl)
def p106_0 (l : Nat) (A : Nat → List (Nat × Int32)) (E : List (Nat × Option Nat)) (N : Nat → Nat) (V : Nat → Nat → Int32) (W : Nat) (c : Nat × Nat)  (Q : z_V → z_CS → Prop) : Prop := Q (.inl (none)) (A, E, N, (z_v V 3 2 (0)), W, c)
set_option maxRecDepth 10000 in
theorem t106_0 {l : Nat} {A : Nat → List (Nat × Int32)} {E : List (Nat × Option Nat)} {N : Nat → Nat} {V : Nat → Nat → Int32} {W : Nat} {c : Nat × Nat}  {Q : z_V → z_CS → Prop} (h : p106_0 l A E N V W c  Q) : z_WC (l + 1) 106 0 [(0, .ref 110)] [] (A, E, N, V, W, c) Q := by
  unfold p106_0 at h
  exact ⟨(.inl (none)), (A, E, N, (z_v V 3 2 (0)), W, c), fun _ _ _ _ _ _ hg hl => e106_0 , h⟩
set_option maxRecDepth 10000 in
theorem e3_0 {L : Nat} {xs : Nat → Int32} {fv : Value} {f w : Nat} {c : Nat × Nat} {A : Nat → List (Nat × Int32)} {E : List (Nat × Option Nat)} {N : Nat → Nat} {V : Nat → Nat → Int32} {W : Nat} {g : List z_E}  : z_Ln L xs fv f w 3 0 [(0, .ref 109)] [] (hC A E N V W ++ g, c) (.inl none) (hC A E N (z_v (z_v V 2 0 (0)) 2 1 ((-1))) W ++ g, c) := z_Ln.blk (pc' := 10) (lv' := [(0, .ref 109)]) (st' := []) (H' := hC A E N (z_v (z_v V 2 0 (0)) 2 1 ((-1))) W ++ g) (C := [z_fit (z_fty 1 0) (.int 0) = true, z_fit (z_fty 1 1) (.int ((-1))) = true]) 0 6 rfl ⟨z_fitI, z_fitI⟩ (z_Ln.ret rfl rfl)
def p3_0 (l : Nat) (A : Nat → List (Nat × Int32)) (E : List (Nat × Option Nat)) (N : Nat → Nat) (V : Nat → Nat → Int32) (W : Nat) (c : Nat × Nat)  (Q : z_V → z_CS → Prop) : Prop := Q (.inl (none)) (A, E, N, (z_v (z_v V 2 0 (0)) 2 1 ((-1))), W, c)
set_option maxRecDepth 10000 in
theorem t3_0 {l : Nat} {A : Nat → List (Nat × Int32)} {E : List (Nat × Option Nat)} {N : Nat → Nat} {V : Nat → Nat → Int32} {W : Nat} {c : Nat × Nat}  {Q : z_V → z_CS → Prop} (h : p3_0 l A E N V W c  Q) : z_WC (l + 1) 3 0 [(0, .ref 109)] [] (A, E, N, V, W, c) Q := by
  unfold p3_0 at h
  exact ⟨(.inl (none)), (A, E, N, (z_v (z_v V 2 0 (0)) 2 1 ((-1))), W, c), fun _ _ _ _ _ _ hg hl => e3_0 , h⟩
