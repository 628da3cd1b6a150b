/-! A word out of the row of kinds. -/
theorem z_Ln.ldE {L : Nat} {xs : Nat → Int32} {fv : Value} {f w mi pc : Nat} {lv : List (Nat × Value)} {i : Int32} {r : List Value} {c : Nat × Nat} {A : Nat → List (Nat × Int32)} {E : List (Nat × Option Nat)} {N : Nat → Nat} {V : Nat → Nat → Int32} {W : Nat} {g : List z_E} {o : z_V} {T' : z_Y} {u : Nat} (hrow : z_pg.1 mi pc = some (.aaload, 1, [])) (hi : z_in i 1501 = true) (he : z_fn none E i.toNatClampNeg = some u) (hu : u < 107) (kk : z_Ln L xs fv f w mi (pc + 1) lv (.ref u :: r) (hC A E N V W ++ g, c) o T') : z_Ln L xs fv f w mi pc lv (.int i :: .ref 112 :: r) (hC A E N V W ++ g, c) o T' := by
  refine z_Ln.step (s := 0) (s' := 0) (pc' := pc + 1) (lv' := lv) (st' := .ref u :: r) (H' := hC A E N V W ++ g) hrow rfl rfl hu ?_ kk
  show z_aal 107 z_tyl 1 pc lv (.int i :: .ref 112 :: r) (hC A E N V W ++ g, 0) = _
  unfold z_aal
  dsimp only
  have h1 : z_ar 107 (hC A E N V W ++ g, 0) 112 = some (4, 1501, .inr (.inr E)) := rfl
  rw [h1]
  show (if 1 = 1 ∧ z_in i 1501 = true then some (pc + 1, lv, z_oV (z_fn none E i.toNatClampNeg) :: r, ((hC A E N V W ++ g, 0) : z_S)) else none) = _
  rw [if_pos ⟨rfl, hi⟩, he]
  rfl
section ZBRN
variable {L : Nat} {xs : Nat → Int32} {fv : Value} {f w mi : Nat} {lv : List (Nat × Value)} {st : List Value} {T T' : z_Y} {o : z_V}
theorem z_Ln.brNT {b : Bool} (h : b = false) {t e : Nat} (k : z_Ln L xs fv f w mi t lv st T o T') : z_Ln L xs fv f w mi (if b = false then t else e) lv st T o T' := by
  rw [if_pos h]
  exact k
theorem z_Ln.brNF {b : Bool} (h : b = true) {t e : Nat} (k : z_Ln L xs fv f w mi e lv st T o T') : z_Ln L xs fv f w mi (if b = false then t else e) lv st T o T' := by
  rw [if_neg (by rw [h]; decide)]
  exact k
end ZBRN
