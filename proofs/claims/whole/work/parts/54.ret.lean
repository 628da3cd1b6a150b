/-! Answers that are ints, or true and false. -/
theorem z_retI {v : Int32} : z_ret (some .int) .ireturn 1 [.int v] = some (some (.int v)) := by
  show (if _ then _ else _) = _
  rw [if_pos ⟨rfl, rfl⟩]
theorem z_retB {v : Int32} (h : v = 0 ∨ v = 1) : z_ret (some .boolean) .ireturn 1 [.int v] = some (some (.int v)) := by
  rcases h with rfl | rfl <;> decide
section ZSM2
variable {A A' : Nat → List (Nat × Int32)} {E E' : List (Nat × Option Nat)} {N N' : Nat → Nat} {V V' : Nat → Nat → Int32} {W W' : Nat} {B B' : Nat → List (Nat × Int32)} {M M' : Nat → List (Nat × Int64)} {U U' : Nat → Nat → Int32} {g g' : List z_E} {a : Nat}
theorem z_sm0C (n : Nat) (ha : a - 107 < 41) (h : z_szE (hC A E N V W ++ g)[a - 107]? = n) (h' : z_szE (hC A' E' N' V' W' ++ g')[a - 107]? = n) : z_sm (hC A E N V W ++ g) (hC A' E' N' V' W' ++ g') (.ref a) := z_smC ha (h.trans h'.symm)
theorem z_sm0R (n : Nat) (ha : a - 107 < 127) (h : z_szE (hC A E N V W ++ (hR B M U ++ g))[a - 107]? = n) (h' : z_szE (hC A' E' N' V' W' ++ (hR B' M' U' ++ g'))[a - 107]? = n) : z_sm (hC A E N V W ++ (hR B M U ++ g)) (hC A' E' N' V' W' ++ (hR B' M' U' ++ g')) (.ref a) := z_smR ha (h.trans h'.symm)
/-- the refs that the law keeps -/
theorem z_smX : z_sm (hC A E N V W ++ (hR B M U ++ g)) (hC A' E' N' V' W' ++ (hR B' M' U' ++ g')) (.ref 107) := z_sm0R 0 (by decide) rfl rfl
theorem z_smM : z_sm (hC A E N V W ++ (hR B M U ++ g)) (hC A' E' N' V' W' ++ (hR B' M' U' ++ g')) (.ref 148) := z_sm0R 0 (by decide) rfl rfl
theorem z_smO : z_sm (hC A E N V W ++ (hR B M U ++ g)) (hC A' E' N' V' W' ++ (hR B' M' U' ++ g')) (.ref 233) := z_sm0R 1 (by decide) rfl rfl
theorem z_smS {H H' : List z_E} : z_sm H H' (.ref 39) := Or.inl (by decide)
end ZSM2
