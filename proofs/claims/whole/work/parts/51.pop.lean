/-! how many bits are set, and the lowest -/
def cm (c : Nat) : Nat → Nat
  | 0 => 0
  | k + 1 => 256 * cm c k + c
def mp (f : Nat → Nat) : Nat → Nat → Nat
  | 0, _ => 0
  | k + 1, n => 256 * mp f k (n / 256) + f (n % 256)
theorem and8 {h b m c : Nat} (hb : b < 256) (hc : c < 256) : (256 * h + b) &&& (256 * m + c) = 256 * (h &&& m) + (b &&& c) := by
  refine Nat.eq_of_testBit_eq (fun i => ?_)
  have hbc : b &&& c < 2 ^ 8 := Nat.lt_of_le_of_lt Nat.and_le_left hb
  rw [show 256 * h + b = 2 ^ 8 * h + b by omega, show 256 * m + c = 2 ^ 8 * m + c by omega, show 256 * (h &&& m) + (b &&& c) = 2 ^ 8 * (h &&& m) + (b &&& c) by omega, Nat.testBit_and, Nat.testBit_two_pow_mul_add h hb, Nat.testBit_two_pow_mul_add m hc, Nat.testBit_two_pow_mul_add _ hbc]
  by_cases hi : i < 8
  · rw [if_pos hi, if_pos hi, if_pos hi, Nat.testBit_and]
  · rw [if_neg hi, if_neg hi, if_neg hi, Nat.testBit_and]
theorem mp_lt {f : Nat → Nat} (hf : ∀ b, b < 256 → f b < 256) : ∀ k n, mp f k n < 256 ^ k
  | 0, n => by simp [mp]
  | k + 1, n => by
    have h1 := mp_lt hf k (n / 256)
    have h2 := hf (n % 256) (by omega)
    rw [mp, Nat.pow_succ]
    omega
theorem mp_mp {f g : Nat → Nat} (hf : ∀ b, b < 256 → f b < 256) : ∀ k n, mp g k (mp f k n) = mp (fun b => g (f b)) k n
  | 0, n => rfl
  | k + 1, n => by
    have h2 := hf (n % 256) (by omega)
    show 256 * mp g k ((256 * mp f k (n / 256) + f (n % 256)) / 256) + g ((256 * mp f k (n / 256) + f (n % 256)) % 256) = _
    rw [show (256 * mp f k (n / 256) + f (n % 256)) / 256 = mp f k (n / 256) by omega, show (256 * mp f k (n / 256) + f (n % 256)) % 256 = f (n % 256) by omega, mp_mp hf k (n / 256)]
    rfl
theorem mp_cong {f g : Nat → Nat} (h : ∀ b, b < 256 → f b = g b) : ∀ k n, mp f k n = mp g k n
  | 0, n => rfl
  | k + 1, n => by rw [mp, mp, mp_cong h k, h _ (by omega)]
theorem p1_t : ∀ q, q < 2 → ∀ b, b < 256 → (128 * q + b / 2) &&& 85 = b / 2 &&& 85 := by decide +kernel
theorem p1_le : ∀ b, b < 256 → b / 2 &&& 85 ≤ b := by decide +kernel
theorem pop1 : ∀ k n, n < 256 ^ k → (n / 2 &&& cm 85 k) ≤ n ∧ n - (n / 2 &&& cm 85 k) = mp (fun b => b - (b / 2 &&& 85)) k n
  | 0, n, h => by
    have : n = 0 := by simp at h; exact h
    subst this
    decide
  | k + 1, n, h => by
    rw [Nat.pow_succ] at h
    obtain ⟨i1, i2⟩ := pop1 k (n / 256) (by omega)
    have e1 : n / 2 = 256 * (n / 256 / 2) + (128 * (n / 256 % 2) + n % 256 / 2) := by omega
    have e2 : n / 2 &&& cm 85 (k + 1) = 256 * (n / 256 / 2 &&& cm 85 k) + (n % 256 / 2 &&& 85) := by
      rw [e1, cm, and8 (by omega) (by decide), p1_t _ (by omega) _ (by omega)]
    have h3 := p1_le (n % 256) (by omega)
    rw [e2, mp, ← i2]
    omega
theorem p2_t : ∀ q, q < 4 → ∀ b, b < 256 → (64 * q + b / 4) &&& 51 = b / 4 &&& 51 := by decide +kernel
theorem pop2 : ∀ k n, n < 256 ^ k → (n &&& cm 51 k) + (n / 4 &&& cm 51 k) = mp (fun b => (b &&& 51) + (b / 4 &&& 51)) k n
  | 0, n, h => by
    have : n = 0 := by simp at h; exact h
    subst this
    decide
  | k + 1, n, h => by
    rw [Nat.pow_succ] at h
    have i2 := pop2 k (n / 256) (by omega)
    have e0 : n &&& cm 51 (k + 1) = 256 * (n / 256 &&& cm 51 k) + (n % 256 &&& 51) := by
      rw [cm, ← and8 (by omega) (by decide)]; congr 1; omega
    have e1 : n / 4 = 256 * (n / 256 / 4) + (64 * (n / 256 % 4) + n % 256 / 4) := by omega
    have e2 : n / 4 &&& cm 51 (k + 1) = 256 * (n / 256 / 4 &&& cm 51 k) + (n % 256 / 4 &&& 51) := by
      rw [e1, cm, and8 (by omega) (by decide), p2_t _ (by omega) _ (by omega)]
    rw [e2, e0, mp, ← i2]
    omega
theorem p3_t : ∀ q, q < 5 → ∀ b, b < 256 → b % 16 ≤ 4 → b / 16 ≤ 4 → (b + 16 * q + b / 16) &&& 15 = (b + b / 16) &&& 15 := by decide +kernel
theorem pop3 {f : Nat → Nat} (hf : ∀ b, b < 256 → f b < 256 ∧ f b % 16 ≤ 4 ∧ f b / 16 ≤ 4) : ∀ k n, (mp f k n + mp f k n / 16) &&& cm 15 k = mp (fun b => (f b + f b / 16) &&& 15) k n ∧ mp f k n % 16 ≤ 4
  | 0, n => ⟨by show (0 + 0 / 16) &&& 0 = 0; decide, Nat.zero_le _⟩
  | k + 1, n => by
    obtain ⟨i1, i2⟩ := pop3 hf k (n / 256)
    obtain ⟨f1, f2, f3⟩ := hf (n % 256) (by omega)
    have e : mp f (k + 1) n = 256 * mp f k (n / 256) + f (n % 256) := rfl
    refine ⟨?_, by rw [e]; omega⟩
    rw [e, cm, mp, ← i1]
    generalize mp f k (n / 256) = h at i2 ⊢
    generalize hb : f (n % 256) = b at f1 f2 f3 ⊢
    have e1 : 256 * h + b + (256 * h + b) / 16 = 256 * (h + h / 16) + (b + 16 * (h % 16) + b / 16) := by omega
    rw [e1, and8 (by omega) (by decide), p3_t _ (by omega) _ (by omega) f2 f3]
def pcb (b : Nat) : Nat := fb_sm (fun t => if b.testBit t = true then 1 else 0) 8
theorem p4_t : ∀ b, b < 256 → (fun b => (b + b / 16) &&& 15) ((fun b => (b &&& 51) + (b / 4 &&& 51)) (b - (b / 2 &&& 85))) = pcb b ∧ pcb b ≤ 8 := by decide +kernel
theorem p5_t : ∀ b, b < 256 → b - (b / 2 &&& 85) < 256 ∧ ((b - (b / 2 &&& 85)) &&& 51) + ((b - (b / 2 &&& 85)) / 4 &&& 51) < 256 ∧ (((b - (b / 2 &&& 85)) &&& 51) + ((b - (b / 2 &&& 85)) / 4 &&& 51)) % 16 ≤ 4 ∧ (((b - (b / 2 &&& 85)) &&& 51) + ((b - (b / 2 &&& 85)) / 4 &&& 51)) / 16 ≤ 4 := by decide +kernel
theorem fb_sm_cat (f : Nat → Nat) (a : Nat) : ∀ b, fb_sm f (a + b) = fb_sm f a + fb_sm (fun i => f (a + i)) b
  | 0 => rfl
  | b + 1 => by rw [← Nat.add_assoc, fb_sm_succ, fb_sm_cat f a b, fb_sm_succ]; omega
def pcn (n m : Nat) : Nat := fb_sm (fun t => if n.testBit t = true then 1 else 0) m
theorem pcn_8 (k n : Nat) : pcn n (8 * (k + 1)) = pcb (n % 256) + pcn (n / 256) (8 * k) := by
  unfold pcn
  rw [show 8 * (k + 1) = 8 + 8 * k by omega, fb_sm_cat]
  congr 1
  · unfold pcb
    refine fb_sm_cong (fun t ht => ?_)
    rw [show 256 = 2 ^ 8 by rfl, Nat.testBit_mod_two_pow]
    simp [ht]
  · refine fb_sm_cong (fun t ht => ?_)
    rw [show 256 = 2 ^ 8 by rfl, Nat.testBit_div_two_pow, Nat.add_comm]
theorem pop_fin {A A1 A2 A3 A4 A5 A6 A7 p0 p1 p2 p3 p4 p5 p6 p7 : Nat} (h0 : A = 256 * A1 + p0) (h1 : A1 = 256 * A2 + p1) (h2 : A2 = 256 * A3 + p2) (h3 : A3 = 256 * A4 + p3) (h4 : A4 = 256 * A5 + p4) (h5 : A5 = 256 * A6 + p5) (h6 : A6 = 256 * A7 + p6) (h7 : A7 = 256 * 0 + p7) (b0 : p0 ≤ 8) (b1 : p1 ≤ 8) (b2 : p2 ≤ 8) (b3 : p3 ≤ 8) (b4 : p4 ≤ 8) (b5 : p5 ≤ 8) (b6 : p6 ≤ 8) (b7 : p7 ≤ 8) : (A + A / 256 + (A + A / 256) / 65536 + (A + A / 256 + (A + A / 256) / 65536) / 4294967296) % 128 = p0 + (p1 + (p2 + (p3 + (p4 + (p5 + (p6 + (p7 + 0))))))) := by
  have e1 : A / 256 = A1 := by
    clear h1 h2 h3 h4 h5 h6 h7
    omega
  rw [e1]
  have r2 : A + A1 = 65536 * (A2 + A3) + (p0 + p1 + 256 * (p1 + p2)) := by
    clear h4 h5 h6 h7 b0 b1 b2 b3 b4 b5 b6 b7
    omega
  have s2 : p0 + p1 + 256 * (p1 + p2) < 65536 := by
    clear h0 h1 h2 h3 h4 h5 h6 h7 r2 e1
    omega
  have e2 : (A + A1) / 65536 = A2 + A3 := by
    rw [r2]
    generalize p0 + p1 + 256 * (p1 + p2) = R at s2
    generalize A2 + A3 = Q
    clear h0 h1 h2 h3 h4 h5 h6 h7 b0 b1 b2 b3 b4 b5 b6 b7
    omega
  rw [e2]
  have r3 : A + A1 + (A2 + A3) = 4294967296 * (A4 + A5 + A6 + A7) + (p0 + p1 + p2 + p3 + 256 * (p1 + p2 + p3 + p4) + 65536 * (p2 + p3 + p4 + p5) + 16777216 * (p3 + p4 + p5 + p6)) := by
    clear b0 b1 b2 b3 b4 b5 b6 b7 e1 e2 r2 s2
    omega
  have s3 : p0 + p1 + p2 + p3 + 256 * (p1 + p2 + p3 + p4) + 65536 * (p2 + p3 + p4 + p5) + 16777216 * (p3 + p4 + p5 + p6) < 4294967296 := by
    clear h0 h1 h2 h3 h4 h5 h6 h7 r2 e1 e2 r3
    omega
  have e3 : (A + A1 + (A2 + A3)) / 4294967296 = A4 + A5 + A6 + A7 := by
    rw [r3]
    generalize p0 + p1 + p2 + p3 + 256 * (p1 + p2 + p3 + p4) + 65536 * (p2 + p3 + p4 + p5) + 16777216 * (p3 + p4 + p5 + p6) = R at s3
    generalize A4 + A5 + A6 + A7 = Q
    clear h0 h1 h2 h3 h4 h5 h6 h7 b0 b1 b2 b3 b4 b5 b6 b7
    omega
  rw [e3]
  have r4 : A + A1 + (A2 + A3) + (A4 + A5 + A6 + A7) = 256 * (A1 + A2 + A3 + A4 + A5 + A6 + A7) + (p0 + (p1 + (p2 + (p3 + (p4 + (p5 + (p6 + (p7 + 0)))))))) := by
    clear b0 b1 b2 b3 b4 b5 b6 b7 e1 e2 r2 s2 e3 r3 s3
    omega
  have s4 : p0 + (p1 + (p2 + (p3 + (p4 + (p5 + (p6 + (p7 + 0))))))) ≤ 64 := by
    clear h0 h1 h2 h3 h4 h5 h6 h7 r2 e1 e2 r3 e3 r4
    omega
  rw [r4]
  generalize p0 + (p1 + (p2 + (p3 + (p4 + (p5 + (p6 + (p7 + 0))))))) = R at s4 ⊢
  generalize A1 + A2 + A3 + A4 + A5 + A6 + A7 = Q
  clear h0 h1 h2 h3 h4 h5 h6 h7 b0 b1 b2 b3 b4 b5 b6 b7 r2 e1 e2 r3 e3 r4 s2 s3
  omega
theorem mp_8 : ∀ k n, 255 * mp pcb k n + 8 ≤ 8 * 256 ^ k
  | 0, n => by show 255 * 0 + 8 ≤ 8 * 256 ^ 0; decide
  | k + 1, n => by
    have h1 := mp_8 k (n / 256)
    have h2 := (p4_t (n % 256) (by omega)).2
    rw [mp, Nat.pow_succ]
    omega
theorem mp_s (f : Nat → Nat) (k n : Nat) : mp f (k + 1) n = 256 * mp f k (n / 256) + f (n % 256) := rfl
theorem pop_nat {n : Nat} : (mp pcb 8 n + mp pcb 8 n / 256 + (mp pcb 8 n + mp pcb 8 n / 256) / 65536 + (mp pcb 8 n + mp pcb 8 n / 256 + (mp pcb 8 n + mp pcb 8 n / 256) / 65536) / 4294967296) % 128 = pcn n 64 := by
  have hb : ∀ m, pcb (m % 256) ≤ 8 := fun m => (p4_t (m % 256) (by omega)).2
  have e0 : pcn n 64 = _ := pcn_8 7 n
  have e1 := pcn_8 6 (n / 256)
  have e2 := pcn_8 5 (n / 256 / 256)
  have e3 := pcn_8 4 (n / 256 / 256 / 256)
  have e4 := pcn_8 3 (n / 256 / 256 / 256 / 256)
  have e5 := pcn_8 2 (n / 256 / 256 / 256 / 256 / 256)
  have e6 := pcn_8 1 (n / 256 / 256 / 256 / 256 / 256 / 256)
  have e7 := pcn_8 0 (n / 256 / 256 / 256 / 256 / 256 / 256 / 256)
  have e8 : pcn (n / 256 / 256 / 256 / 256 / 256 / 256 / 256 / 256) (8 * 0) = 0 := rfl
  rw [e0, e1, e2, e3, e4, e5, e6, e7, e8]
  exact pop_fin (mp_s pcb 7 _) (mp_s pcb 6 _) (mp_s pcb 5 _) (mp_s pcb 4 _) (mp_s pcb 3 _) (mp_s pcb 2 _) (mp_s pcb 1 _) (mp_s pcb 0 _) (hb _) (hb _) (hb _) (hb _) (hb _) (hb _) (hb _) (hb _)
theorem lN_plus (a b : Nat) : lN a + lN b = lN (a + b) := by
  apply Int64.toBitVec_inj.1
  show BitVec.ofNat 64 a + BitVec.ofNat 64 b = BitVec.ofNat 64 (a + b)
  rw [BitVec.ofNat_add]
theorem lN_and (a b : Nat) : lN a &&& lN b = lN (a &&& b) := by
  apply Int64.toBitVec_inj.1
  show BitVec.ofNat 64 a &&& BitVec.ofNat 64 b = BitVec.ofNat 64 (a &&& b)
  rw [BitVec.ofNat_and]
theorem lN_shr {a : Nat} (h : a < 2 ^ 64) (k : UInt64) (j : Nat) (hk : k.toNat = j) (hj : j < 64) : ((lN a).toUInt64 >>> k).toInt64 = lN (a / 2 ^ j) := by
  apply Int64.toBitVec_inj.1
  apply BitVec.eq_of_toNat_eq
  show ((lN a).toUInt64 >>> k).toNat = (BitVec.ofNat 64 (a / 2 ^ j)).toNat
  rw [UInt64.toNat_shiftRight, hk, Nat.mod_eq_of_lt (show j < 64 from hj), Nat.shiftRight_eq_div_pow, BitVec.toNat_ofNat]
  have e : (lN a).toUInt64.toNat = a % 2 ^ 64 := rfl
  rw [e, Nat.mod_eq_of_lt h, Nat.mod_eq_of_lt (Nat.lt_of_le_of_lt (Nat.div_le_self _ _) h)]
theorem lN_of (x : Int64) : x = lN x.toBitVec.toNat := by
  apply Int64.toBitVec_inj.1
  show x.toBitVec = BitVec.ofNat 64 x.toBitVec.toNat
  rw [BitVec.ofNat_toNat, BitVec.setWidth_eq]
theorem bc64 {n : Nat} (hn : n < 2 ^ 64) : fJ13_bitCount_95d88 (lN n) = nI (pcn n 64) := by
  have hn8 : n < 256 ^ 8 := by omega
  obtain ⟨a1, a2⟩ := pop1 8 n hn8
  have c5 : cm 85 8 = 6148914691236517205 := by decide
  have c3 : cm 51 8 = 3689348814741910323 := by decide
  have cF : cm 15 8 = 1085102592571150095 := by decide
  rw [c5] at a1 a2
  have l1 : mp (fun b => b - (b / 2 &&& 85)) 8 n < 256 ^ 8 := mp_lt (fun b hb => (p5_t b hb).1) 8 n
  have a3 := pop2 8 _ l1
  rw [c3, mp_mp (fun b hb => (p5_t b hb).1)] at a3
  have l2 : mp (fun b => (fun b => (b &&& 51) + (b / 4 &&& 51)) (b - (b / 2 &&& 85))) 8 n < 256 ^ 8 := mp_lt (fun b hb => (p5_t b hb).2.1) 8 n
  have a4 := (pop3 (f := fun b => (fun b => (b &&& 51) + (b / 4 &&& 51)) (b - (b / 2 &&& 85))) (fun b hb => (p5_t b hb).2) 8 n).1
  rw [cF, mp_cong (g := pcb) (fun b hb => (p4_t b hb).1)] at a4
  have l3 : mp pcb 8 n < 2 ^ 61 := by
    have := mp_8 8 n
    omega
  have hp := pop_nat (n := n)
  unfold fJ13_bitCount_95d88
  have k1 : (((1 : Int32)).toInt64.toUInt64 &&& Int64.toUInt64 63).toNat = 1 := by decide
  have k2 : (((2 : Int32)).toInt64.toUInt64 &&& Int64.toUInt64 63).toNat = 2 := by decide
  have k4 : (((4 : Int32)).toInt64.toUInt64 &&& Int64.toUInt64 63).toNat = 4 := by decide
  have k8 : (((8 : Int32)).toInt64.toUInt64 &&& Int64.toUInt64 63).toNat = 8 := by decide
  have k16 : (((16 : Int32)).toInt64.toUInt64 &&& Int64.toUInt64 63).toNat = 16 := by decide
  have k32 : (((32 : Int32)).toInt64.toUInt64 &&& Int64.toUInt64 63).toNat = 32 := by decide
  rw [fa_litL 6148914691236517205, fa_litL 3689348814741910323, fa_litL 1085102592571150095]
  rw [lN_shr hn _ 1 k1 (by decide), lN_and, show n / 2 ^ 1 = n / 2 by rfl, lN_sub a1, a2]
  generalize hA : mp (fun b => b - (b / 2 &&& 85)) 8 n = A at l1 a3
  rw [lN_shr (by omega) _ 2 k2 (by decide), lN_and, lN_and, lN_plus, show A / 2 ^ 2 = A / 4 by rfl, a3]
  generalize hB : mp (fun b => (fun b => (b &&& 51) + (b / 4 &&& 51)) (b - (b / 2 &&& 85))) 8 n = B at l2 a4
  rw [lN_shr (by omega) _ 4 k4 (by decide), lN_plus, lN_and, show B / 2 ^ 4 = B / 16 by rfl, a4]
  generalize hC : mp pcb 8 n = C at l3 hp
  rw [lN_shr (by omega) _ 8 k8 (by decide), lN_plus, show C / 2 ^ 8 = C / 256 by rfl]
  rw [lN_shr (by omega) _ 16 k16 (by decide), lN_plus, show (C + C / 256) / 2 ^ 16 = (C + C / 256) / 65536 by rfl]
  rw [lN_shr (by omega) _ 32 k32 (by decide), lN_plus, show (C + C / 256 + (C + C / 256) / 65536) / 2 ^ 32 = (C + C / 256 + (C + C / 256) / 65536) / 4294967296 by rfl, lN_i]
  have hm : (127 : Int32) = nI (2 ^ 7 - 1) := by decide
  rw [hm, fa_mask]
  congr 1

