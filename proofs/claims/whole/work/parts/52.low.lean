/-! the lowest bit that is set -/
theorem low_ex : ∀ (n : Nat), n ≠ 0 → ∃ k m, n = 2 ^ k * (2 * m + 1) := by
  intro n
  induction n using Nat.strongRecOn with
  | ind n ih =>
    intro hn
    by_cases h : n % 2 = 1
    · exact ⟨0, n / 2, by omega⟩
    · obtain ⟨k, m, e⟩ := ih (n / 2) (by omega) (by omega)
      refine ⟨k + 1, m, ?_⟩
      rw [Nat.pow_succ, Nat.mul_comm (2 ^ k) 2, Nat.mul_assoc, ← e]
      omega
theorem low_bit {k m i : Nat} : (2 ^ k * (2 * m + 1)).testBit i = if i < k then false else if i = k then true else m.testBit (i - (k + 1)) := by
  have e : 2 ^ k * (2 * m + 1) = 2 ^ (k + 1) * m + 2 ^ k := by
    rw [Nat.pow_succ, Nat.mul_add, Nat.mul_one, Nat.mul_assoc]
  rw [e, Nat.testBit_two_pow_mul_add m (Nat.pow_lt_pow_right (by decide) (by omega)), Nat.testBit_two_pow]
  by_cases h1 : i < k
  · rw [if_pos (by omega), if_pos h1, decide_eq_false (by omega)]
  · rw [if_neg h1]
    by_cases h2 : i = k
    · rw [if_pos (by omega), if_pos h2, decide_eq_true h2.symm]
    · rw [if_neg h2, if_neg (by omega)]
theorem low_pred {k m i : Nat} : (2 ^ k * (2 * m + 1) - 1).testBit i = if i < k then true else if i = k then false else m.testBit (i - (k + 1)) := by
  have e : 2 ^ k * (2 * m + 1) = 2 ^ (k + 1) * m + 2 ^ k := by
    rw [Nat.pow_succ, Nat.mul_add, Nat.mul_one, Nat.mul_assoc]
  have hp : 0 < 2 ^ k := Nat.two_pow_pos k
  have e2 : 2 ^ (k + 1) * m + 2 ^ k - 1 = 2 ^ (k + 1) * m + (2 ^ k - 1) := by omega
  have hlt : 2 ^ k - 1 < 2 ^ (k + 1) := by rw [Nat.pow_succ]; omega
  rw [e, e2, Nat.testBit_two_pow_mul_add m hlt, Nat.testBit_two_pow_sub_one]
  by_cases h1 : i < k
  · rw [if_pos (by omega), if_pos h1, decide_eq_true h1]
  · rw [if_neg h1]
    by_cases h2 : i = k
    · rw [if_pos (by omega), if_pos h2, decide_eq_false h1]
    · rw [if_neg h2, if_neg (by omega)]
def b32 (x : Int32) (i : Nat) : Bool := x.toBitVec.getLsbD i
theorem low_32 {x : Int32} (h : x ≠ 0) : ∃ k, k < 32 ∧ (x ^^^ (-1 : Int32)) &&& (x - (1 : Int32)) = nI (2 ^ k - 1) ∧ b32 x k = true ∧ ∀ i, i < k → b32 x i = false := by
  have hn : x.toBitVec.toNat ≠ 0 := by
    intro z
    apply h
    apply Int32.toBitVec_inj.1
    apply BitVec.eq_of_toNat_eq
    rw [z]; rfl
  obtain ⟨k, m, e⟩ := low_ex _ hn
  have hlt : x.toBitVec.toNat < 2 ^ 32 := x.toBitVec.isLt
  have hk : k < 32 := by
    refine Decidable.byContradiction fun z => ?_
    have h1 : 2 ^ 32 ≤ 2 ^ k := Nat.pow_le_pow_right (by decide) (by omega)
    have h2 : 2 ^ k ≤ 2 ^ k * (2 * m + 1) := Nat.le_mul_of_pos_right _ (by omega)
    omega
  have hb : ∀ i, b32 x i = if i < k then false else if i = k then true else m.testBit (i - (k + 1)) := fun i => by
    unfold b32
    rw [← BitVec.testBit_toNat, e, low_bit]
  refine ⟨k, hk, ?_, by rw [hb, if_neg (by omega), if_pos rfl], fun i hi => by rw [hb, if_pos hi]⟩
  apply Int32.toBitVec_inj.1
  apply BitVec.eq_of_getLsbD_eq
  intro i hi
  rw [Int32.toBitVec_and, Int32.toBitVec_xor, BitVec.getLsbD_and, BitVec.getLsbD_xor]
  have e1 : (-1 : Int32).toBitVec.getLsbD i = true := by
    have : ∀ i, i < 32 → (-1 : Int32).toBitVec.getLsbD i = true := by decide
    exact this i hi
  have e2 : (x - 1).toBitVec.getLsbD i = if i < k then true else if i = k then false else m.testBit (i - (k + 1)) := by
    rw [← low_pred, ← e, ← BitVec.testBit_toNat]
    congr 1
    show (x.toBitVec - (1 : Int32).toBitVec).toNat = _
    rw [BitVec.toNat_sub]
    have : (1 : Int32).toBitVec.toNat = 1 := rfl
    rw [this]
    omega
  have e3 : (nI (2 ^ k - 1)).toBitVec.getLsbD i = decide (i < k) := by
    show (BitVec.ofNat 32 (2 ^ k - 1)).getLsbD i = _
    rw [BitVec.getLsbD_ofNat, Nat.testBit_two_pow_sub_one]
    simp [hi]
  have e4 := hb i
  unfold b32 at e4
  rw [e1, e2, e3, e4]
  by_cases h1 : i < k
  · simp [h1]
  · by_cases h2 : i = k
    · simp [h2]
    · simp [h1, h2]
theorem tz_tab : ∀ k, k < 32 → ∀ x : Int32, (x ^^^ (-1 : Int32)) &&& (x - (1 : Int32)) = nI (2 ^ k - 1) → fJ6_numberOfTrailingZeros_0f7a4 x = nI k := by
  intro k hk x h
  unfold fJ6_numberOfTrailingZeros_0f7a4
  rw [h]
  clear h
  revert k
  decide +kernel
theorem tz_32 {x : Int32} (h : x ≠ 0) : ∃ k, k < 32 ∧ fJ6_numberOfTrailingZeros_0f7a4 x = nI k ∧ b32 x k = true ∧ ∀ i, i < k → b32 x i = false := by
  obtain ⟨k, h1, h2, h3, h4⟩ := low_32 h
  exact ⟨k, h1, tz_tab k h1 x h2, h3, h4⟩
theorem b32_lo {x : Int64} {i : Nat} (hi : i < 32) : b32 x.toInt32 i = bt x i := by
  unfold b32 bt
  have e : x.toInt32.toBitVec = x.toBitVec.setWidth 32 := by
    rw [Int64.toBitVec_toInt32, BitVec.signExtend_eq_setWidth_of_le _ (by decide)]
  rw [e, BitVec.getLsbD_setWidth]
  simp [hi]
theorem b32_hi {x : Int64} {i : Nat} (hi : i < 32) : b32 ((x.toUInt64 >>> (((32 : Int32)).toInt64.toUInt64 &&& Int64.toUInt64 63)).toInt64).toInt32 i = bt x (32 + i) := by
  rw [b32_lo hi]
  unfold bt
  rw [lN_of x, lN_shr x.toBitVec.isLt _ 32 (by decide) (by decide)]
  show (BitVec.ofNat 64 (x.toBitVec.toNat / 2 ^ 32)).getLsbD i = (BitVec.ofNat 64 x.toBitVec.toNat).getLsbD (32 + i)
  rw [BitVec.getLsbD_ofNat, BitVec.getLsbD_ofNat, Nat.testBit_div_two_pow, Nat.add_comm]
  have h1 : i < 64 := by omega
  have h2 : 32 + i < 64 := by omega
  simp [h1, h2]
theorem b32_0 {x : Int32} (h : ∀ i, i < 32 → b32 x i = false) : x = 0 := by
  apply Int32.toBitVec_inj.1
  apply BitVec.eq_of_getLsbD_eq
  intro i hi
  have := h i hi
  unfold b32 at this
  rw [this]
  show false = (BitVec.ofNat 32 0).getLsbD i
  simp
theorem bt_z {x : Int64} (h : ∀ i, i < 64 → bt x i = false) : x = 0 := by
  apply Int64.toBitVec_inj.1
  apply BitVec.eq_of_getLsbD_eq
  intro i hi
  have := h i hi
  unfold bt at this
  rw [this]
  show false = (BitVec.ofNat 64 0).getLsbD i
  simp
theorem tz_64 {x : Int64} (h : x ≠ 0) : ∃ k, k < 64 ∧ fJ13_numberOfTrailingZeros_95d88 x = nI k ∧ bt x k = true ∧ ∀ i, i < k → bt x i = false := by
  unfold fJ13_numberOfTrailingZeros_95d88
  by_cases h0 : x.toInt32 = 0
  · have hz : ((x.toUInt64 >>> (((32 : Int32)).toInt64.toUInt64 &&& Int64.toUInt64 63)).toInt64).toInt32 ≠ 0 := by
      intro z
      apply h
      apply bt_z
      intro i hi
      by_cases hi2 : i < 32
      · rw [← b32_lo hi2, h0]; unfold b32; show (BitVec.ofNat 32 0).getLsbD i = false; simp
      · rw [show i = 32 + (i - 32) by omega, ← b32_hi (by omega), z]; unfold b32; show (BitVec.ofNat 32 0).getLsbD (i - 32) = false; simp
    obtain ⟨k, h1, h2, h3, h4⟩ := tz_32 hz
    rw [if_pos h0, h2]
    refine ⟨32 + k, by omega, by rw [nl 32, nI_add], by rw [← b32_hi h1]; exact h3, fun i hi => ?_⟩
    by_cases hi2 : i < 32
    · rw [← b32_lo hi2, h0]; unfold b32; show (BitVec.ofNat 32 0).getLsbD i = false; simp
    · rw [show i = 32 + (i - 32) by omega, ← b32_hi (by omega)]; exact h4 _ (by omega)
  · obtain ⟨k, h1, h2, h3, h4⟩ := tz_32 h0
    rw [if_neg h0, h2]
    exact ⟨k, by omega, rfl, by rw [← b32_lo h1]; exact h3, fun i hi => by rw [← b32_lo (by omega)]; exact h4 i hi⟩
theorem bt_nat (x : Int64) (t : Nat) : bt x t = x.toBitVec.toNat.testBit t := by
  unfold bt
  rw [BitVec.testBit_toNat]
theorem bc_bt (x : Int64) : fJ13_bitCount_95d88 x = nI (fb_sm (fun t => if bt x t = true then 1 else 0) 64) := by
  have h := bc64 x.toBitVec.isLt
  rw [← lN_of] at h
  rw [h]
  unfold pcn
  rw [fb_sm_cong (f := fun t => if bt x t = true then 1 else 0) (fun t _ => by rw [bt_nat])]

