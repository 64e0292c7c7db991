theorem bv_by (x : BitVec 64) (s : Nat) (hs : s ≤ 56) : (x >>> s).setWidth 32 &&& 255#32 = (x.sshiftRight s).setWidth 32 &&& 255#32 := by
  apply BitVec.eq_of_getLsbD_eq
  intro i hi
  simp only [BitVec.getLsbD_and, BitVec.getLsbD_setWidth, BitVec.getLsbD_ushiftRight, BitVec.getLsbD_sshiftRight]
  by_cases h8 : i < 8
  · have h1 : s + i < 64 := by omega
    have h2 : ¬ 64 ≤ i := by omega
    simp [h1, h2]
  · have h3 : (255#32).getLsbD i = false := by
      rw [BitVec.getLsbD_ofNat]
      rw [Nat.testBit_lt_two_pow (Nat.lt_of_lt_of_le (by decide : 255 < 2 ^ 8) (Nat.pow_le_pow_right (by decide) (by omega)))]
      simp
    simp [h3]
theorem by_s : ∀ z, z < 8 → ((nI (8 * z)).toInt64.toUInt64 &&& Int64.toUInt64 63) = UInt64.ofNat (8 * z) ∧ ((nI (8 * z)).toInt64 &&& 63) = Int64.ofNat (8 * z) := by decide +kernel
theorem by_eq (v : Int64) {z : Nat} (hz : z < 8) : ((v.toUInt64 >>> ((nI (8 * z)).toInt64.toUInt64 &&& Int64.toUInt64 63)).toInt64.toInt32 &&& 255) = md_byte v z := by
  unfold md_byte
  rw [(by_s z hz).1, (by_s z hz).2]
  apply Int32.toBitVec_inj.mp
  have h := bv_by v.toBitVec (8 * z) (by omega)
  have e1 : ((v.toUInt64 >>> UInt64.ofNat (8 * z)).toInt64.toInt32 &&& 255).toBitVec = (v.toBitVec >>> (8 * z)).setWidth 32 &&& 255#32 := by
    rw [Int32.toBitVec_and]
    congr 1
    rw [Int64.toBitVec_toInt32, BitVec.signExtend_eq_setWidth_of_le _ (by decide)]
    congr 1
    show (v.toUInt64 >>> UInt64.ofNat (8 * z)).toBitVec = _
    rw [UInt64.toBitVec_shiftRight]
    show v.toBitVec >>> _ = _
    rw [BitVec.ushiftRight_eq']
    congr 1
    rcases (show z = 0 ∨ z = 1 ∨ z = 2 ∨ z = 3 ∨ z = 4 ∨ z = 5 ∨ z = 6 ∨ z = 7 by omega) with rfl | rfl | rfl | rfl | rfl | rfl | rfl | rfl <;> decide
  have e2 : ((v >>> Int64.ofNat (8 * z)).toInt32 &&& 255).toBitVec = (v.toBitVec.sshiftRight (8 * z)).setWidth 32 &&& 255#32 := by
    rw [Int32.toBitVec_and]
    congr 1
    rw [Int64.toBitVec_toInt32, BitVec.signExtend_eq_setWidth_of_le _ (by decide)]
    congr 1
    rw [Int64.toBitVec_shiftRight]
    show v.toBitVec.sshiftRight _ = _
    congr 1
    rcases (show z = 0 ∨ z = 1 ∨ z = 2 ∨ z = 3 ∨ z = 4 ∨ z = 5 ∨ z = 6 ∨ z = 7 by omega) with rfl | rfl | rfl | rfl | rfl | rfl | rfl | rfl <;> decide
  rw [e1, e2]
  exact h
