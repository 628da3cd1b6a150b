/-! Answers that are ints, or true and false. -/
theorem z_retI {v : Int32} : z_ret (some .int) .ireturn 1 [.int v] = some (some (.int v)) := by
  show (if _ then _ else _) = _
  rw [if_pos ⟨rfl, rfl⟩]
theorem z_retB {v : Int32} (h : v = 0 ∨ v = 1) : z_ret (some .boolean) .ireturn 1 [.int v] = some (some (.int v)) := by
  rcases h with rfl | rfl <;> decide
