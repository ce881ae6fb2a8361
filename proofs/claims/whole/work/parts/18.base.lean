/-! frames, numbers, bits -/
def fr {α : Type} (S : List Nat) (I I' : Nat → α) : Prop := ∀ j, j ∉ S → I' j = I j
theorem fr_rf {α : Type} {S : List Nat} {I : Nat → α} : fr S I I := fun _ _ => rfl
theorem fr_trans {α : Type} {S : List Nat} {I I' I'' : Nat → α} (h : fr S I I') (h2 : fr S I' I'') : fr S I I'' := fun j hj => (h2 j hj).trans (h j hj)
theorem fr_sub {α : Type} {S T : List Nat} {I I' : Nat → α} (h : fr S I I') (hs : ∀ x ∈ S, x ∈ T) : fr T I I' := fun j hj => h j (fun z => hj (hs j z))
theorem fr_zi {S : List Nat} {I : Nat → Nat → Int32} {k i : Nat} {v : Int32} (h : k ∈ S) : fr S I (zi I k i v) := fun j hj => zi_ne (fun z => hj (z ▸ h))
theorem fr_zl {S : List Nat} {L : Nat → Nat → Int64} {k i : Nat} {v : Int64} (h : k ∈ S) : fr S L (zl L k i v) := fun j hj => zl_ne (fun z => hj (z ▸ h))
theorem zi_at {I : Nat → Nat → Int32} {k i : Nat} {v : Int32} (j a : Nat) : zi I k i v j a = if j = k ∧ a = i then v else I j a := by
  unfold zi upd
  by_cases h : j = k
  · subst h
    by_cases h2 : a = i <;> simp [h2]
  · simp [h]
theorem zl_at {L : Nat → Nat → Int64} {k i : Nat} {v : Int64} (j a : Nat) : zl L k i v j a = if j = k ∧ a = i then v else L j a := by
  unfold zl vp_updL
  by_cases h : j = k
  · subst h
    by_cases h2 : a = i <;> simp [h2]
  · simp [h]
theorem nl (n : Nat) : (OfNat.ofNat n : Int32) = nI n := rfl
theorem nl0 : (0 : Int32) = nI 0 := rfl
theorem nl1 : (1 : Int32) = nI 1 := rfl
theorem nI_sm {j : Nat} (h : j < 32) : ((nI j &&& 31).toBitVec.smod 32).toNat = j := by
  have : ∀ j, j < 32 → ((nI j &&& 31).toBitVec.smod 32).toNat = j := by decide +kernel
  exact this j h
theorem nI_shr {n j : Nat} (hn : n < 2 ^ 31) (hj : j < 32) : nI n >>> (nI j &&& 31) = nI (n / 2 ^ j) := pk_shrN hn _ j (nI_sm hj)
theorem nI_shl {n j : Nat} (hj : j < 32) (h : n * 2 ^ j < 2 ^ 32) : nI n <<< (nI j &&& 31) = nI (n * 2 ^ j) := pk_shlN _ j (nI_sm hj) h
theorem nI_shl1 {j : Nat} (hj : j < 31) : (1 : Int32) <<< (nI j &&& 31) = nI (2 ^ j) := by
  rw [nl1, nI_shl (by omega) (by rw [Nat.one_mul]; exact Nat.pow_lt_pow_right (by decide) (by omega)), Nat.one_mul]
theorem nI_and1 {n : Nat} (h : n < 2 ^ 32) : nI n &&& 1 = nI (n % 2) := pk_andN h 1 (by decide)
theorem nI_bit {n j : Nat} (hn : n < 2 ^ 31) (hj : j < 32) : (nI n >>> (nI j &&& 31)) &&& 1 = nI (n / 2 ^ j % 2) := by
  rw [nI_shr hn hj, nI_and1]
  exact Nat.lt_of_le_of_lt (Nat.div_le_self _ _) (by omega)
/-- hasBit of a small number -/
theorem nI_has {n j : Nat} (hn : n < 2 ^ 31) (hj : j < 32) : (¬ (nI n >>> (nI j &&& 31)) &&& 1 = 0) ↔ n.testBit j = true := by
  rw [nI_bit hn hj, nl0, nI_eq (by omega) (by omega), Nat.testBit_eq_decide_div_mod_eq]
  simp
theorem nI_inj {a b : Nat} (ha : a < 2 ^ 31) (hb : b < 2 ^ 31) (h : nI a = nI b) : a = b := (nI_eq ha hb).mp h
/-- the bits of a set of numbers below n -/
def bm (p : Nat → Bool) : Nat → Nat
  | 0 => 0
  | n + 1 => bm p n + if p n then 2 ^ n else 0
theorem bm_lt (p : Nat → Bool) : ∀ n, bm p n < 2 ^ n
  | 0 => by simp [bm]
  | n + 1 => by
    have := bm_lt p n
    rw [bm, Nat.pow_succ]
    split <;> omega
theorem bm_test (p : Nat → Bool) : ∀ (n i : Nat), (bm p n).testBit i = (decide (i < n) && p i)
  | 0, i => by simp [bm]
  | n + 1, i => by
    have hlt := bm_lt p n
    have ih := bm_test p n i
    rw [bm]
    by_cases hp : p n = true
    · rw [if_pos hp, Nat.add_comm, show 2 ^ n + bm p n = 2 ^ n * 1 + bm p n by omega, Nat.testBit_two_pow_mul_add 1 hlt]
      by_cases h : i < n
      · rw [if_pos h, ih]
        have h2 : i < n + 1 := by omega
        simp [h, h2]
      · rw [if_neg h]
        by_cases h2 : i = n
        · subst h2; simp [hp]
        · have h3 : ¬ i < n + 1 := by omega
          have h4 : i - n ≠ 0 := by omega
          rw [Nat.testBit_eq_decide_div_mod_eq, Nat.div_eq_of_lt (Nat.one_lt_two_pow h4)]
          simp [h3]
    · rw [if_neg hp, Nat.add_zero, ih]
      by_cases h : i = n
      · subst h; simp [hp]
      · have : decide (i < n + 1) = decide (i < n) := by
          apply decide_eq_decide.mpr; omega
        rw [this]
theorem bm_cong {p q : Nat → Bool} : ∀ {n : Nat}, (∀ i, i < n → p i = q i) → bm p n = bm q n
  | 0, _ => rfl
  | n + 1, h => by rw [bm, bm, bm_cong (fun i hi => h i (by omega)), h n (by omega)]
/-- a number is the bits of its own tests -/
theorem bm_self {x n : Nat} (h : x < 2 ^ n) : bm (fun i => x.testBit i) n = x := by
  refine Nat.eq_of_testBit_eq (fun i => ?_)
  rw [bm_test]
  by_cases hi : i < n
  · simp [hi]
  · rw [Nat.testBit_lt_two_pow (Nat.lt_of_lt_of_le h (Nat.pow_le_pow_right (by decide) (by omega)))]
    simp [hi]
theorem bm_eq {x n : Nat} {p : Nat → Bool} (h : x < 2 ^ n) (hp : ∀ i, i < n → x.testBit i = p i) : x = bm p n := by
  rw [← bm_self h]
  exact bm_cong hp
theorem bm_or {p q : Nat → Bool} {n : Nat} : bm p n ||| bm q n = bm (fun i => p i || q i) n := by
  refine bm_eq (Nat.or_lt_two_pow (bm_lt p n) (bm_lt q n)) (fun i hi => ?_)
  rw [Nat.testBit_or, bm_test, bm_test]
  simp [hi]
theorem bm_pow {k n : Nat} (h : k < n) : 2 ^ k = bm (fun i => decide (i = k)) n := by
  refine bm_eq (Nat.pow_lt_pow_right (by decide) h) (fun i hi => ?_)
  rw [Nat.testBit_two_pow]
  by_cases h2 : k = i
  · subst h2; simp
  · have h3 : ¬ i = k := fun z => h2 z.symm
    simp [h2, h3]
/-- an int that is a number up to m -/
def zs (x : Int32) (m : Nat) : Prop := ∃ j, j ≤ m ∧ x = nI j
def tn (x : Int32) : Nat := x.toNatClampNeg
theorem tn_nI {j : Nat} (h : j < 2 ^ 31) : tn (nI j) = j := nI_clamp h
theorem vin_nI {j n : Nat} (h : j < n) (hn : n < 2 ^ 31) : vp_in (nI j) n := vp_in_nI h hn
theorem nI_sub1 {j : Nat} : nI (j + 1) + (-1 : Int32) = nI j := pk_m1 j
theorem nI_neg1 : nI 0 + (-1 : Int32) = -1 := by decide
theorem zmg_t {α : Type} {c : Prop} [Decidable c] {a b : α} (Q : α → Prop) (h : c) (q : Q (if c then a else b)) : Q a := by rwa [if_pos h] at q
theorem zmg_f {α : Type} {c : Prop} [Decidable c] {a b : α} (Q : α → Prop) (h : ¬ c) (q : Q (if c then a else b)) : Q b := by rwa [if_neg h] at q

