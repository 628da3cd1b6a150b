/-! Reading as the law calls it: read, and the law's read. -/
/-- what is told of a run before it begins -/
def z_V13 (V : Nat → Nat → Int32) : Nat → Nat → Int32 := z_v (z_v (z_v (z_v (z_v (z_v V 38 7 (0)) 38 8 (0)) 38 9 ((-1))) 38 10 (0)) 38 11 (0)) 38 12 (0)
def z_V3 (V : Nat → Nat → Int32) : Nat → Nat → Int32 := z_v (z_v V 2 0 (0)) 2 1 ((-1))
section ZAH
variable {L : Nat} {xs : Nat → Int32} {fv : Value} {f w : Nat} {c : Nat × Nat} {A : Nat → List (Nat × Int32)} {E : List (Nat × Option Nat)} {N : Nat → Nat} {V : Nat → Nat → Int32} {W : Nat} {g : List z_E} {B : Nat → List (Nat × Int32)} {M : Nat → List (Nat × Int64)} {U : Nat → Nat → Int32} {A3 : Nat → List (Nat × Int32)} {E3 : List (Nat × Option Nat)} {V3 : Nat → Nat → Int32} {A4 : Nat → List (Nat × Int32)} {E4 : List (Nat × Option Nat)} {N4 : Nat → Nat} {V4 : Nat → Nat → Int32} {W4 : Nat} {g4 : List z_E} {c4 : Nat × Nat} {o : z_V} {T' : z_Y} {v : Int32}
theorem c13 (hl : z_Lv 2 f w) (hg : z_Gok g) : z_Ln L xs fv f w 13 0 [(0, .ref 145)] [] (hC A E N V W ++ g, c) (.inl none) (hC A E N (z_V13 V) W ++ g, c) := by
  obtain ⟨o, S', h1, rfl, rfl⟩ := t13_0 (l := 1) (A := A) (E := E) (N := N) (V := V) (W := W) (c := c) (Q := fun o S' => o = .inl none ∧ S' = (A, E, N, z_V13 V, W, c)) ⟨rfl, rfl⟩
  exact h1 L xs fv f w g hg hl
theorem c3 (hl : z_Lv 2 f w) (hg : z_Gok g) : z_Ln L xs fv f w 3 0 [(0, .ref 109)] [] (hC A E N V W ++ g, c) (.inl none) (hC A E N (z_V3 V) W ++ g, c) := by
  obtain ⟨o, S', h1, rfl, rfl⟩ := t3_0 (l := 1) (A := A) (E := E) (N := N) (V := V) (W := W) (c := c) (Q := fun o S' => o = .inl none ∧ S' = (A, E, N, z_V3 V, W, c)) ⟨rfl, rfl⟩
  exact h1 L xs fv f w g hg hl
theorem c106 (hl : z_Lv 2 f w) (hg : z_Gok g) : z_Ln L xs fv f w 106 0 [(0, .ref 110)] [] (hC A E N V W ++ g, c) (.inl none) (hC A E N (z_v V 3 2 0) W ++ g, c) := by
  obtain ⟨o, S', h1, rfl, rfl⟩ := t106_0 (l := 1) (A := A) (E := E) (N := N) (V := V) (W := W) (c := c) (Q := fun o S' => o = .inl none ∧ S' = (A, E, N, z_v V 3 2 0, W, c)) ⟨rfl, rfl⟩
  exact h1 L xs fv f w g hg hl
theorem z_cq {mj : Nat} {as rr : List Value} (hl : z_Lv 3 f w) (hj : mj < 221) (h1 : z_wt rr ≤ 8) (h2 : z_wt as ≤ z_pg.2.1 mj) : z_Cq f w mj as rr := ⟨⟨hl.f1, hl.w1 mj hj⟩, h1, h2⟩
set_option maxRecDepth 10000 in
theorem e28_0 (hl : z_Lv 3 f w) (hg : z_Gok g) (hg4 : z_Gok g4) (hRm : z_Rm ([], c)) (hRm4 : z_Rm ([], c4)) (hv : v = 0 ∨ v = 1)
    (h29 : z_Ln L xs fv (f - 1) (w - (19 + z_pg.2.1 29)) 29 0 [(0, .ref 110)] [] (hC A E N (z_V3 (z_V13 V)) W ++ g, c) (.inl none) (hC A3 E3 N V3 W ++ g, c))
    (h46 : z_Ln L xs fv (f - 1) (w - (19 + z_pg.2.1 46)) 46 0 [(0, .ref 107)] [] (hC A3 E3 N V3 W ++ g, c) (.inl (some (.int v))) (hC A4 E4 N4 V4 W4 ++ g4, c4))
    (kk : z_Ln L xs fv f w 28 36 [(0, .ref 107)] [] (hC A4 E4 N4 (z_v (z_v V4 0 8 v) 3 2 0) W4 ++ g4, c4) o T') : z_Ln L xs fv f w 28 0 [(0, .ref 107)] [] (hC A E N V W ++ g, c) o T' := by
  refine b28_0 (z_Ln.call (s := 0) (mj := 13) (as := [.ref 145]) (rr := []) (v := none) (T1 := (hC A E N (z_V13 V) W ++ g, c)) rfl rfl (z_cq hl (by decide) (by decide : (0 : Nat) ≤ 8) (by decide +kernel : (1 : Nat) ≤ z_pg.2.1 13)) hRm (c13 (hl.dn 13 (by decide)) hg) ⟨trivial, (z_sm0C 0 (by decide) rfl rfl), trivial⟩ ?_)
  refine b28_7 (z_Ln.call (s := 0) (mj := 3) (as := [.ref 109]) (rr := []) (v := none) (T1 := (hC A E N (z_V3 (z_V13 V)) W ++ g, c)) rfl rfl (z_cq hl (by decide) (by decide : (0 : Nat) ≤ 8) (by decide +kernel : (1 : Nat) ≤ z_pg.2.1 3)) hRm (c3 (hl.dn 3 (by decide)) hg) ⟨trivial, (z_sm0C 0 (by decide) rfl rfl), trivial⟩ ?_)
  refine b28_14 (z_Ln.call (s := 0) (mj := 29) (as := [.ref 110]) (rr := []) (v := none) (T1 := (hC A3 E3 N V3 W ++ g, c)) rfl rfl (z_cq hl (by decide) (by decide : (0 : Nat) ≤ 8) (by decide +kernel : (1 : Nat) ≤ z_pg.2.1 29)) hRm h29 ⟨trivial, (z_sm0C 0 (by decide) rfl rfl), trivial⟩ ?_)
  refine b28_21 (z_Ln.call (s := 0) (mj := 46) (as := [.ref 107]) (rr := [.ref 107]) (v := some (.int v)) (T1 := (hC A4 E4 N4 V4 W4 ++ g4, c4)) rfl rfl (z_cq hl (by decide) (by decide : (1 : Nat) ≤ 8) (by decide +kernel : (1 : Nat) ≤ z_pg.2.1 46)) hRm h46 ⟨⟨(z_sm0C 0 (by decide) rfl rfl), trivial⟩, (z_sm0C 0 (by decide) rfl rfl), trivial⟩ ?_)
  refine b28_26 (by rcases hv with rfl | rfl <;> rfl) (z_Ln.call (s := 0) (mj := 106) (as := [.ref 110]) (rr := []) (v := none) (T1 := (hC A4 E4 N4 (z_v (z_v V4 0 8 v) 3 2 0) W4 ++ g4, c4)) rfl rfl (z_cq hl (by decide) (by decide : (0 : Nat) ≤ 8) (by decide +kernel : (1 : Nat) ≤ z_pg.2.1 106)) hRm4 (c106 (hl.dn 106 (by decide)) hg4) ⟨trivial, (z_sm0C 0 (by decide) rfl rfl), trivial⟩ ?_)
  exact kk
set_option maxRecDepth 10000 in
theorem e28_ok (h8 : V 0 8 = 1) : z_Ln L xs fv f w 28 36 [(0, .ref 107)] [] (hC A E N V W ++ g, c) (.inl (some (.int (V 13 7)))) (hC A E N V W ++ g, c) := b28_36t (by rw [h8]; decide) (b28_53 (z_Ln.ret rfl z_retI))
set_option maxRecDepth 10000 in
theorem e28_no (hl : z_Lv 3 f w) (hr : c.1 + 1 ≤ 601024 ∧ c.2 + 6 ≤ 7293034) (h8 : V 0 8 = 0) : z_Ln L xs fv f w 28 36 [(0, .ref 107)] [] (hC A E N V W ++ g, c) (.inr 10) (hC A E N V W ++ g, c.1 + 1, c.2 + 6) := b28_36f (by rw [h8]; decide) (z_Ln.thr rfl ⟨⟨hl.f6, by have := hl.2; omega, by decide⟩, hr.1, hr.2⟩ rfl)
set_option maxRecDepth 10000 in
theorem e27_ok {A1 : Nat → List (Nat × Int32)} {E1 : List (Nat × Option Nat)} {N1 : Nat → Nat} {V1 : Nat → Nat → Int32} {W1 : Nat} {c1 : Nat × Nat} (hl : z_Lv 3 f w) (hRm : z_Rm ([], c)) (hc : z_Ln L xs fv (f - 1) (w - (19 + z_pg.2.1 28)) 28 0 [(0, .ref 107)] [] (hC A E N V W ++ (hR B M U ++ g), c) (.inl (some (.int v))) (hC A1 E1 N1 V1 W1 ++ (hR B M U ++ g), c1)) : z_Ln L xs fv f w 27 0 [(0, .ref 107), (1, .ref 233)] [] (hC A E N V W ++ (hR B M U ++ g), c) (.inl (some (.int 0))) (hC A1 E1 N1 V1 W1 ++ (hR B (z_u M 126 ((0, v.toInt64) :: M 126)) U ++ g), c1) :=
  b27_0 (z_Ln.call (s := 0) (mj := 28) (as := [.ref 107]) (rr := [.int 0, .ref 233]) (v := some (.int v)) (T1 := (hC A1 E1 N1 V1 W1 ++ (hR B M U ++ g), c1)) rfl rfl (z_cq hl (by decide) (by decide : (2 : Nat) ≤ 8) (by decide +kernel : (1 : Nat) ≤ z_pg.2.1 28)) hRm hc ⟨⟨trivial, z_smO, trivial⟩, z_smX, z_smO, trivial⟩ (b27_6 (b27_14 (z_Ln.ret rfl rfl))))
set_option maxRecDepth 10000 in
theorem e27_no {A1 : Nat → List (Nat × Int32)} {E1 : List (Nat × Option Nat)} {N1 : Nat → Nat} {V1 : Nat → Nat → Int32} {W1 : Nat} {g1 : List z_E} {c1 : Nat × Nat} (hl : z_Lv 3 f w) (hRm : z_Rm ([], c)) (hcd : z_cd (hC A1 E1 N1 V1 W1 ++ (hR B M U ++ g1))) (hc : z_Ln L xs fv (f - 1) (w - (19 + z_pg.2.1 28)) 28 0 [(0, .ref 107)] [] (hC A E N V W ++ (hR B M U ++ g), c) (.inr 10) (hC A1 E1 N1 V1 W1 ++ (hR B M U ++ g1), c1)) : z_Ln L xs fv f w 27 0 [(0, .ref 107), (1, .ref 233)] [] (hC A E N V W ++ (hR B M U ++ g), c) (.inl (some (.int 1))) (hC A1 E1 N1 V1 W1 ++ (hR B M U ++ (g1 ++ [.inr (10, [])])), c1) := by
  refine b27_0 (z_Ln.caught (s := 0) (mj := 28) (as := [.ref 107]) (rr := [.int 0, .ref 233]) (ci := 10) (hp := 11) (T1 := (hC A1 E1 N1 V1 W1 ++ (hR B M U ++ g1), c1)) rfl rfl (z_cq hl (by decide) (by decide : (2 : Nat) ≤ 8) (by decide +kernel : (1 : Nat) ≤ z_pg.2.1 28)) hRm hc rfl ⟨z_smX, z_smO, trivial⟩ hcd ?_)
  show z_Ln L xs fv f w 27 11 [(0, .ref 107), (1, .ref 233)] [.ref (107 + (hC A1 E1 N1 V1 W1 ++ (hR B M U ++ g1)).length)] ((hC A1 E1 N1 V1 W1 ++ (hR B M U ++ g1)) ++ [.inr (10, [])], c1) _ _
  rw [List.append_assoc, List.append_assoc]
  exact b27_11 (z_Ln.ret rfl rfl)
end ZAH
