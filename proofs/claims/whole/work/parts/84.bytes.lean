/-! a byte of a word, told twice -/
theorem by_s1 : ∀ k, k < 8 → (((BitVec.signExtend 64 (8#32 * (nI k).toBitVec)).toNat &&& 63) % 64) = 8 * k := by decide +kernel
theorem by_s2 : ∀ k, k < 8 → ((BitVec.signExtend 64 (8#32 * (nI k).toBitVec) &&& 63#64).smod 64#64).toNat = 8 * k := by decide +kernel
theorem by_255 : ∀ i, i < 32 → 8 ≤ i → (255#32).getLsbD i = false := by decide +kernel
theorem by_bit (v : Int64) (k : Nat) (hk : k < 8) : byC v k = byM v k := by
  unfold byC byM
  apply Int32.toBitVec_inj.mp
  apply BitVec.eq_of_getLsbD_eq
  intro i hi
  simp
  rw [by_s1 k hk, by_s2 k hk]
  by_cases h8 : i < 8
  · rw [BitVec.signExtend_eq_setWidth_of_le _ (by decide), BitVec.signExtend_eq_setWidth_of_le _ (by decide), BitVec.getLsbD_setWidth, BitVec.getLsbD_setWidth, BitVec.getLsbD_ushiftRight, BitVec.getLsbD_sshiftRight]
    rw [if_pos (show 8 * k + i < 64 by omega), decide_eq_false (show ¬ 64 ≤ i by omega)]
    simp
  · rw [by_255 i hi (by omega), Bool.and_false, Bool.and_false]
theorem by_lt (v : Int64) (k : Nat) : (byC v k).toBitVec.toNat < 256 := by
  unfold byC
  rw [Int32.toBitVec_and, BitVec.toNat_and]
  exact Nat.lt_of_le_of_lt Nat.and_le_right (by decide)

