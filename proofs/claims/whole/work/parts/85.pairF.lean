/-! WRITE, CLEAR -/
theorem tx_cell {w w0 : Nat} (h : w ≠ w0) : 7 + 2 * w ≠ 7 + 2 * w0 ∧ 7 + 2 * w + 1 ≠ 7 + 2 * w0 ∧ 7 + 2 * w ≠ 7 + 2 * w0 + 1 ∧ 7 + 2 * w + 1 ≠ 7 + 2 * w0 + 1 := by omega
theorem lw273 : lwC 273 := by
  intro zn d post x3 I L hv hI k
  obtain ⟨T, l, ht⟩ := hI.1
  have l0 := (ht 0 (by decide)).1
  have l1 := (ht 1 (by decide)).1
  refine gL_law_273 x3 I L ⟨hv.1, ⟨l 0, l0.2.1, l0.1⟩, ⟨l 1, l1.2.1, l1.1⟩, fun J v hJ J2 v2 hJ2 => ?_⟩
  generalize (x3 + (1 : Int32)).toNatClampNeg = i at hJ hJ2 ⊢
  by_cases h : I 0 i = 0 ∨ I 0 i = 1
  · rw [if_pos h] at hJ
    have hw0 := tn_2 h
    have hk : kT (I 0 i) = 7 + 2 * tn (I 0 i) := rfl
    generalize tn (I 0 i) = w0 at hw0 hk
    rw [hk] at hJ
    have e0 : J 0 = I 0 := by rw [hJ.2, zi_ne (by omega)]
    have hw1 : tn (I 0 i) = w0 := by unfold kT at hk; omega
    rw [e0, if_pos h, hw1] at hJ2
    have hd : df ([7 + 2 * w0] ++ [117]) ([] ++ []) I J2 := df_t (hJ.2 ▸ df_zi (by omega)) (hJ2.2 ▸ df_zi (by decide))
    have c1 : ∀ c, c ≠ 117 → J2 c = J c := fun c hc => by rw [hJ2.2, zi_ne hc]
    have c2 : ∀ c, c ≠ 7 + 2 * w0 → J c = I c := fun c hc => by rw [hJ.2, zi_ne hc]
    have ev : v = v2 := by rw [hJ.1, hJ2.1, c2 117 (by omega), (ht w0 hw0).1.1, (ht w0 hw0).2.1]
    refine ⟨fun _ => k J2 L (Inv_tx1 hI hd (fun c hc => by simp only [List.mem_append, List.mem_cons, List.not_mem_nil, or_false] at hc ⊢; omega) (by decide) ⟨T, fun w => if w = w0 then 0 else l w, fun w hw => ?_⟩), fun hne => absurd ev hne⟩
    dsimp only
    by_cases hww : w = w0
    · rw [if_pos hww, hww]
      refine ⟨⟨?_, by omega, fun j hj => absurd hj (by omega)⟩, ?_, by omega, fun j hj => absurd hj (by omega)⟩
      · rw [c1 _ (by omega), hJ.2, zi_at, if_pos ⟨rfl, rfl⟩]; rfl
      · rw [hJ2.2, zi_at, if_pos ⟨rfl, rfl⟩]; rfl
    · rw [if_neg hww]
      have tc := tx_cell hww
      refine ⟨?_, ?_⟩
      · unfold txC
        rw [c1 _ (by omega), c2 _ tc.1, c1 _ (by omega), c2 _ tc.2.1]
        exact (ht w hw).1
      · have e := (ht w hw).2
        unfold txR at e ⊢
        rw [c1 116 (by decide), c2 116 (by omega), hJ2.2, zi_at, if_neg (fun z => hww z.2), c2 117 (by omega)]
        exact e
  · rw [if_neg h] at hJ
    have e0 : J 0 = I 0 := by rw [hJ.2]
    rw [e0, if_neg h] at hJ2
    exact ⟨fun _ => k J2 L (by rw [hJ2.2, hJ.2]; exact hI), fun hne => absurd (by rw [hJ.1, hJ2.1]) hne⟩
theorem lw200 : lwC 200 := by
  intro zn d post x3 I L hv hI k
  obtain ⟨T, l, ht⟩ := hI.1
  have l0 := ht 0 (by decide)
  have l1 := ht 1 (by decide)
  refine gL_law_200 x3 I L ⟨hv.1, hv.2.1, hv.2.2.1, hv.2.2.2, ⟨l 0, l0.1.2.1, l0.1.1⟩, ⟨l 1, l1.1.2.1, l1.1.1⟩, fun J v hJ => ?_⟩
  generalize (x3 + (1 : Int32)).toNatClampNeg = i at hJ ⊢
  generalize (x3 + (2 : Int32)).toNatClampNeg = i2 at hJ ⊢
  generalize (x3 + (3 : Int32)).toNatClampNeg = i3 at hJ ⊢
  generalize (x3 + (4 : Int32)).toNatClampNeg = i4 at hJ ⊢
  by_cases h : (I 0 i = 0 ∨ I 0 i = 1) ∧ 1 ≤ I 0 i2 ∧ I 0 i2 ≤ 8
  · rw [if_pos h] at hJ
    have hw0 := tn_2 h.1
    have hk : kT (I 0 i) = 7 + 2 * tn (I 0 i) := rfl
    rw [hk] at hJ
    generalize hw1 : tn (I 0 i) = w0 at hw0 hJ
    obtain ⟨n, en, -, hn, tn2, -⟩ := nm_of (a := 0) (b := 9) (by decide) (by decide) ((le256 (b := 8) (by decide)).mp ⟨Int32.le_trans (by decide) h.2.1, h.2.2⟩)
    have hl : l w0 ≤ 200 := (ht w0 hw0).1.2.1
    have etn : tn (I (7 + 2 * w0) 1) = l w0 := by rw [(ht w0 hw0).1.1]; exact nI_clamp (by omega)
    rw [etn, tn2] at hJ
    by_cases hf : l w0 + n ≤ 200
    · rw [if_pos hf] at hJ
      obtain ⟨a0, a1, a2, a3, a4, a5⟩ := hJ
      have c2 : ∀ c, c ≠ 7 + 2 * w0 → c ≠ 7 + 2 * w0 + 1 → J c = I c := fun c h1 h2 => a1 c (by simp only [List.mem_cons, List.not_mem_nil, or_false]; omega)
      have e0 : J 0 = I 0 := c2 0 (by omega) (by omega)
      have e117 : J 117 = I 117 := c2 117 (by omega) (by omega)
      have e116 : J 116 = I 116 := c2 116 (by omega) (by omega)
      refine ⟨⟨l 0, l0.2.2.1, by rw [e117]; exact l0.2.1⟩, ⟨l 1, l1.2.2.1, by rw [e117]; exact l1.2.1⟩, fun J2 v2 hJ2 => ?_⟩
      rw [e0, if_pos h, hw1, e117, tn2, (ht w0 hw0).2.1, show tn (nI (l w0)) = l w0 from nI_clamp (by omega), if_pos hf] at hJ2
      obtain ⟨b0, b1, b2, b3, b4, b5⟩ := hJ2
      rw [hw1] at b2 b3 b4 b5
      generalize ((I 0 i3).toInt64 <<< (((32 : Int32)).toInt64 &&& 63)) ||| ((I 0 i4).toInt64 &&& (4294967295 : Int64)) = X at a5 b5
      have c1 : ∀ c, c ≠ 116 → c ≠ 117 → J2 c = J c := fun c h1 h2 => b1 c (by simp only [List.mem_cons, List.not_mem_nil, or_false]; omega)
      have hd : df ([7 + 2 * w0, 7 + 2 * w0 + 1] ++ [116, 117]) ([] ++ []) I J2 := df_t (df_fr a1 (by simp only [List.mem_cons, List.not_mem_nil, or_false]; omega)) (df_fr b1 (by decide))
      refine ⟨fun _ => k J2 L (Inv_tx1 hI hd (fun c hc => by simp only [List.cons_append, List.nil_append, List.mem_cons, List.not_mem_nil, or_false] at hc ⊢; omega) (by decide) ⟨fun w j => if w = w0 ∧ ¬ j < l w0 then (byC X (n - 1 - (j - l w0))).toBitVec.toNat else T w j, fun w => if w = w0 then l w0 + n else l w, fun w hw => ?_⟩), fun hne => absurd (by rw [a0, b0]) hne⟩
      dsimp only
      by_cases hww : w = w0
      · rw [if_pos hww, hww]
        refine ⟨⟨?_, hf, fun j hj => ?_⟩, b3, hf, fun j hj => ?_⟩
        · rw [c1 _ (by omega) (by omega)]; exact a3
        · rw [c1 _ (by omega) (by omega)]
          dsimp only
          by_cases hjl : j < l w0
          · rw [if_neg (fun z => z.2 hjl), a4 j hjl]; exact (ht w0 hw0).1.2.2 j hjl
          · rw [if_pos ⟨rfl, hjl⟩]
            refine ⟨by_lt _ _, ?_⟩
            have := a5 (j - l w0) (by omega)
            rw [show l w0 + (j - l w0) = j by omega] at this
            rw [this]; exact nI_any _
        · dsimp only
          by_cases hjl : j < l w0
          · rw [if_neg (fun z => z.2 hjl), b4 _ (by omega), e116]; exact (ht w0 hw0).2.2.2 j hjl
          · rw [if_pos ⟨rfl, hjl⟩]
            refine ⟨by_lt _ _, ?_⟩
            have := b5 (j - l w0) (by omega)
            rw [show 200 * w0 + l w0 + (j - l w0) = 200 * w0 + j by omega, ← by_bit _ _ (by omega)] at this
            rw [this]; exact nI_any _
      · rw [if_neg hww]
        have tc := tx_cell hww
        have eT : (fun j => if w = w0 ∧ ¬ j < l w0 then (byC X (n - 1 - (j - l w0))).toBitVec.toNat else T w j) = T w := by
          funext j
          rw [if_neg (fun z => hww z.1)]
        rw [eT]
        refine ⟨?_, ?_⟩
        · unfold txC
          rw [c1 _ (by omega) (by omega), c2 _ tc.1 tc.2.2.1, c1 _ (by omega) (by omega), c2 _ tc.2.1 tc.2.2.2]
          exact (ht w hw).1
        · have e := (ht w hw).2
          refine ⟨by rw [b2 w hww, e117]; exact e.1, e.2.1, fun j hj => ?_⟩
          have hj2 := e.2.1
          rw [b4 _ (by omega), e116]; exact e.2.2 j hj
    · rw [if_neg hf] at hJ
      have e0 : J 0 = I 0 := by rw [hJ.2]
      refine ⟨⟨l 0, l0.2.2.1, by rw [hJ.2]; exact l0.2.1⟩, ⟨l 1, l1.2.2.1, by rw [hJ.2]; exact l1.2.1⟩, fun J2 v2 hJ2 => ?_⟩
      rw [e0, if_pos h, hw1, hJ.2, tn2, (ht w0 hw0).2.1, show tn (nI (l w0)) = l w0 from nI_clamp (by omega), if_neg hf] at hJ2
      exact ⟨fun _ => k J2 L (by rw [hJ2.2]; exact hI), fun hne => absurd (by rw [hJ.1, hJ2.1]) hne⟩
  · rw [if_neg h] at hJ
    have e0 : J 0 = I 0 := by rw [hJ.2]
    refine ⟨⟨l 0, l0.2.2.1, by rw [hJ.2]; exact l0.2.1⟩, ⟨l 1, l1.2.2.1, by rw [hJ.2]; exact l1.2.1⟩, fun J2 v2 hJ2 => ?_⟩
    rw [e0, if_neg h] at hJ2
    exact ⟨fun _ => k J2 L (by rw [hJ2.2, hJ.2]; exact hI), fun hne => absurd (by rw [hJ.1, hJ2.1]) hne⟩

