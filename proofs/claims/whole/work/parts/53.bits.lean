/-! Bytes of an int, as the class and as the reference take them. -/
theorem z_sg8 (v : BitVec 32) (k : Nat) (hk : k ≤ 24) : (v >>> k).signExtend 8 = ((v.sshiftRight k) &&& 255#32).signExtend 8 := by
  apply BitVec.eq_of_getLsbD_eq
  intro i hi
  have h255 : (255#32).getLsbD i = true := by
    have : i = 0 ∨ i = 1 ∨ i = 2 ∨ i = 3 ∨ i = 4 ∨ i = 5 ∨ i = 6 ∨ i = 7 := by omega
    rcases this with rfl | rfl | rfl | rfl | rfl | rfl | rfl | rfl <;> decide
  have h1 : i < 32 := by omega
  have h2 : k + i < 32 := by omega
  rw [BitVec.getLsbD_signExtend, BitVec.getLsbD_signExtend, BitVec.getLsbD_and, BitVec.getLsbD_ushiftRight, BitVec.getLsbD_sshiftRight, h255]
  simp only [hi, h1, h2, if_true, Bool.and_true, decide_true, Bool.true_and]
  simp [h1]
theorem z_nb (x : Int32) : z_nar .byte x.toInt8.toInt32 = x.toInt8.toInt32 := by
  show x.toInt8.toInt32.toInt8.toInt32 = _
  rw [Int8.toInt8_toInt32]
theorem z_by24 (x : Int32) : z_nar .byte (((x.toUInt32 >>> ((24 : Int32).toUInt32 &&& Int32.toUInt32 31)).toInt32).toInt8.toInt32) = ((x >>> (24 &&& 31)) &&& 255).toInt8.toInt32 := by
  rw [z_nb]
  congr 1
  exact Int8.toBitVec.inj (z_sg8 x.toBitVec 24 (by decide))
theorem z_by16 (x : Int32) : z_nar .byte (((x.toUInt32 >>> ((16 : Int32).toUInt32 &&& Int32.toUInt32 31)).toInt32).toInt8.toInt32) = ((x >>> (16 &&& 31)) &&& 255).toInt8.toInt32 := by
  rw [z_nb]
  congr 1
  exact Int8.toBitVec.inj (z_sg8 x.toBitVec 16 (by decide))
theorem z_by8 (x : Int32) : z_nar .byte (((x.toUInt32 >>> ((8 : Int32).toUInt32 &&& Int32.toUInt32 31)).toInt32).toInt8.toInt32) = ((x >>> (8 &&& 31)) &&& 255).toInt8.toInt32 := by
  rw [z_nb]
  congr 1
  exact Int8.toBitVec.inj (z_sg8 x.toBitVec 8 (by decide))
theorem z_by0 (x : Int32) : z_nar .byte (((x.toUInt32 >>> ((0 : Int32).toUInt32 &&& Int32.toUInt32 31)).toInt32).toInt8.toInt32) = ((x >>> (0 &&& 31)) &&& 255).toInt8.toInt32 := by
  rw [z_nb]
  congr 1
  exact Int8.toBitVec.inj (z_sg8 x.toBitVec 0 (by decide))
/-- a byte of the class, and the same of the reference -/
def z_bp (a b : Int32) : Prop := a = b.toInt8.toInt32 ∧ ∃ n : Nat, n ≤ 255 ∧ b = Int32.ofNat n
theorem z_and255 (y : Int32) : ∃ n : Nat, n ≤ 255 ∧ y &&& 255 = Int32.ofNat n := by
  refine ⟨(y.toBitVec &&& 255#32).toNat, ?_, ?_⟩
  · rw [BitVec.toNat_and]
    exact Nat.and_le_right
  · apply Int32.toBitVec.inj
    show y.toBitVec &&& 255#32 = BitVec.ofNat 32 (y.toBitVec &&& 255#32).toNat
    rw [BitVec.ofNat_toNat, BitVec.setWidth_eq]
theorem z_bp0 : z_bp 0 0 := ⟨by decide, 0, by decide, by decide⟩
theorem z_bp_of {a b y : Int32} (h1 : a = b.toInt8.toInt32) (h2 : b = y &&& 255) : z_bp a b := by
  obtain ⟨n, h3, h4⟩ := z_and255 y
  exact ⟨h1, n, h3, h2.trans h4⟩
