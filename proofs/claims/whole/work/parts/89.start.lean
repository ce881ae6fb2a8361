/-! what both constructors leave holds -/
def V00 : zVw := fun _ => none
def zcs : List Nat := [7, 8, 9, 10, 12, 13, 14, 15, 16, 17, 18, 19, 20, 21, 22, 23, 24, 25, 35, 67, 68, 69, 70, 72, 73, 74, 75, 116, 117, 118, 119, 121, 122, 123, 125, 132, 139, 140, 143, 144]
theorem cVw_0 {I : Nat → Nat → Int32} {k : Nat} (h : ∀ j, j < 7 → ∀ s, I (k + j) s = 0) : cVw I k V00 [] := by
  refine ⟨⟨fun n ks hv => (by cases hv), by decide, fun n ks hv => (by cases hv), ?_, ⟨fun _ => 0, fun n _ => ⟨by rw [h 4 (by decide)]; rfl, (show 0 < 2 ^ 19 by decide)⟩, fun n _ _ => ⟨fun m hm => ?_, fun u _ _ hu => ?_, fun S _ _ m hm => ?_⟩⟩, fun n hn => ?_⟩, ⟨fun n => ⟨fun z => (by cases z), fun z => (by cases z)⟩, List.nodup_nil, fun i o ks w ho => (by cases ho)⟩, ?_, by decide, fun i o ho => (by cases ho)⟩
  · have := h 0 (by decide) 6
    rw [Nat.add_zero] at this
    rw [this]; decide
  · have e : dV V00 n = 0 := by
      show bm (fun m => inO none m) 19 = 0
      decide
    rw [e, Nat.zero_testBit] at hm
    exact absurd hm (by decide)
  · rw [Nat.zero_testBit] at hu; exact absurd hu (by decide)
  · rw [Nat.zero_testBit] at hm; exact absurd hm (by decide)
  · rw [h 5 (by decide)]
    have e : cntU V00 n = 0 := by
      show fb_sm (fun _ => 0) 19 = 0
      decide
    rw [e]; rfl
  · have := h 0 (by decide) 7
    rw [Nat.add_zero] at this
    rw [this]; rfl
theorem rVw_0 {I : Nat → Nat → Int32} {u : Nat} (h1 : ∀ n, n < 19 → I 120 (19 * u + n) = -4) (h2 : I 121 u = 0) (h3 : I 123 u = 0) : rVw I u V00 [] :=
  ⟨⟨fun n ks hv => (by cases hv), fun n hn => h1 n hn, by rw [h2]; decide⟩, ⟨fun n => ⟨fun z => (by cases z), fun z => (by cases z.2.2)⟩, List.nodup_nil, fun i o ks w ho => (by cases ho)⟩, by rw [h3]; rfl, by decide, fun i o ho => (by cases ho)⟩
theorem Inv_0 {I : Nat → Nat → Int32} {L : Nat → Nat → Int64} (hz : ∀ c, c ∈ zcs → ∀ s, I c s = 0) (h5 : I 5 13 = 0 ∧ I 5 14 = 0 ∧ I 5 15 = 524224) (h34 : I 34 2 = 170 ∧ I 34 3 = 0) (h56 : ∃ p, prOk I 56 p ∧ prOk I 127 p) (h57 : ∀ i, i < 7 → I 57 i = I 128 i) (h58 : ∀ i, i < 5 → I 58 i = I 129 i) (h115 : ∀ s, s ≠ 18 → I 115 s = 0) (m4 : I 115 18 = -4) (h120 : ∀ n, n < 38 → I 120 n = -4) (h124 : ∀ r, r < 4 → I 124 r = 2) (h126 : I 126 0 = 524224) (hc : iCn I) (hl : iLn L) : Inv I L := by
  refine ⟨⟨fun _ _ => 0, fun _ => 0, fun w hw => ⟨⟨?_, Nat.zero_le _, fun i hi => absurd hi (Nat.not_lt_zero i)⟩, ?_, Nat.zero_le _, fun i hi => absurd hi (Nat.not_lt_zero i)⟩⟩, ⟨⟨V00, [], [], cVw_0 (fun j hj s => hz _ ?_ s), rVw_0 (fun n hn => h120 _ (by omega)) (hz 121 (by decide) 0) (hz 123 (by decide) 0)⟩, ⟨V00, [], [], cVw_0 (fun j hj s => hz _ ?_ s), rVw_0 (fun n hn => h120 _ (by omega)) (hz 121 (by decide) 1) (hz 123 (by decide) 1)⟩⟩, ⟨0, by decide, by rw [h5.1]; rfl, by rw [h115 11 (by decide)]; rfl, fun j hj => absurd hj (by omega)⟩, ⟨⟨fun _ => 2, fun r hr => ⟨Nat.le_refl _, by rw [Nat.mul_zero, Nat.zero_add]; exact h124 r hr⟩, by rw [h34.1]; rfl⟩, ⟨0, by decide, by rw [h5.2.1]; rfl, by rw [hz 125 (by decide)]; rfl⟩, 524224, by decide, by rw [h5.2.2]; rfl, by rw [h126]; rfl⟩, ⟨by rw [h34.2, h115 12 (by decide)], fun n _ => by rw [hz 35 (by decide), hz 132 (by decide)]⟩, ⟨h56, h57, h58⟩, hc, ⟨0, 0, fun _ => 0, fun _ => 0, ⟨⟨by rw [hz 67 (by decide)]; rfl, by decide⟩, ⟨by rw [h115 27 (by decide)]; rfl, by decide⟩, ⟨by rw [hz 67 (by decide)]; rfl, by decide⟩, ⟨by rw [h115 29 (by decide)]; rfl, by decide⟩, fun q hq => absurd hq (by omega), fun q hq => absurd hq (by omega)⟩, ⟨Or.inl (hz 67 (by decide) 6), fun q => hz 72 (by decide) q⟩, fun q hq => absurd hq (by omega), fun q hq => absurd hq (by omega), fun x y hx => absurd hx (by omega)⟩, ⟨0, fun _ => 0, fun _ => 0, ⟨by rw [hz 73 (by decide)]; rfl, by decide⟩, ⟨by rw [h115 33 (by decide)]; rfl, by decide⟩, fun q hq => absurd hq (by omega), fun q hq => absurd hq (by omega), fun q hq => absurd hq (by omega), fun q hq => absurd hq (by omega)⟩, hl, m4⟩
  · rw [hz (7 + 2 * w) (by rcases (show w = 0 ∨ w = 1 by omega) with rfl | rfl <;> decide)]; rfl
  · rw [hz 117 (by decide)]; rfl
  · have : ∀ j, j < 7 → 12 + j ∈ zcs := by decide
    exact this j hj
  · have : ∀ j, j < 7 → 19 + j ∈ zcs := by decide
    exact this j hj

