/-! BLOCK, NET, PLACE, LEAST, SWAP -/
theorem nfr_ok {p : Nat → Nat} {B : Nat} (hB : B ≤ 7) (hp : ∀ b, b < B → p b < 8) : nfr p B < 8 ∧ ∀ b, b < B → p b ≠ nfr p B := by
  have h := lf_t _ (pm_lt (X := 2 ^ B - 1) hp) (pm_full hB hp)
  refine ⟨h.2.1, fun b hb e => ?_⟩
  have h2 : (pm p (2 ^ B - 1) B).testBit (lf (pm p (2 ^ B - 1) B)) = true := pm_bit.mpr ⟨b, hb, by rw [Nat.testBit_two_pow_sub_one]; exact decide_eq_true hb, e⟩
  rw [h.2.2.1] at h2
  exact absurd h2 (by decide)
theorem lw840 : lwC 840 := by
  intro zn d post x3 I L hv hI k
  obtain ⟨B, M, nb, p, a, b, c⟩ := hI.2.2.2.2.2.2.2.1
  refine gL_law_840 x3 I L ⟨B, p, a.1, c.1, fun J hJ => ?_⟩
  have hJd : df [67, 68] [] I J := by
    by_cases h : B = 7
    · rw [if_pos h] at hJ; exact df_sub (df_e hJ) (by decide) (by decide)
    · rw [if_neg h] at hJ; exact df_fr hJ.1 (by decide)
  refine ⟨B, p, by rw [hJd.2 27 (by decide)]; exact a.2.1, fun j hj => by rw [hJd.1 139 (by decide) (by decide)]; exact c.2.1 j hj, fun J2 hJ2 => ⟨fun _ => k J2 L ?_, fun hne => absurd rfl hne⟩⟩
  by_cases h : B = 7
  · rw [if_pos h] at hJ hJ2
    rw [hJ2, hJ]; exact hI
  · rw [if_neg h] at hJ hJ2
    obtain ⟨a1, a2, a3, a4, a5, a6⟩ := hJ
    obtain ⟨b1, b2, b3, b4, b5⟩ := hJ2
    have hd : df ([67, 68] ++ [139]) ([] ++ [27]) I J2 := df_t hJd (df_x b1 (fun s hs => b2 s (fun z => hs (by rw [z]; decide))))
    have c67 : J2 67 = J 67 := b1 67 (by decide)
    have c68 : J2 68 = J 68 := b1 68 (by decide)
    have hB : B ≤ 7 := a.1.2
    obtain ⟨f1, f2⟩ := nfr_ok hB (fun j hj => (c.1 j hj).2)
    obtain ⟨-, -, m1, m2, n1, n2⟩ := a
    have lt2 : ∀ x, x < 2 ^ B → x < 2 ^ (B + 1) := fun x hx => by rw [Nat.pow_succ]; omega
    refine Inv_fl1 hI hd (by decide) (by decide) ⟨B + 1, M, nb, fun j => if j = B then nfr p B else p j, ⟨⟨by rw [c67]; exact a3, by omega⟩, ⟨b3, by omega⟩, ⟨by rw [c67, a2 3 (by decide) (by decide)]; exact m1.1, m1.2⟩, ⟨by rw [b2 29 (by decide), a1 115 (by decide)]; exact m2.1, m2.2⟩, fun q hq => ?_, fun q hq => ?_⟩, ⟨Or.inl (by rw [c67]; exact a4), fun q => by rw [hd.1 72 (by decide) (by decide)]; exact b.2 q⟩, fun j hj => ?_, fun j hj => ?_, fun i j hi hj e => ?_⟩
    · rw [hd.1 69 (by decide) (by decide)]; exact ⟨(n1 q hq).1, lt2 _ (n1 q hq).2.1, (n1 q hq).2.2⟩
    · rw [hd.1 140 (by decide) (by decide)]; exact ⟨(n2 q hq).1, lt2 _ (n2 q hq).2.1, (n2 q hq).2.2⟩
    · dsimp only
      by_cases hjB : j = B
      · rw [if_pos hjB, c68, hjB, a6]; exact ⟨rfl, f1⟩
      · rw [if_neg hjB, c68, a5 j hjB]; exact c.1 j (by omega)
    · dsimp only
      by_cases hjB : j = B
      · rw [if_pos hjB, hjB, b5]; exact ⟨rfl, f1⟩
      · rw [if_neg hjB, b4 j hjB, a1 139 (by decide)]; exact c.2.1 j (by omega)
    · dsimp only at e
      by_cases hiB : i = B
      · by_cases hjB : j = B
        · rw [hiB, hjB]
        · rw [if_pos hiB, if_neg hjB] at e
          exact absurd e.symm (f2 j (by omega))
      · by_cases hjB : j = B
        · rw [if_neg hiB, if_pos hjB] at e
          exact absurd e (f2 i (by omega))
        · rw [if_neg hiB, if_neg hjB] at e
          exact c.2.2 i j (by omega) (by omega) e
theorem lw853 : lwC 853 := by
  intro zn d post x3 I L hv hI k
  obtain ⟨B, M, nb, p, a, b, c⟩ := hI.2.2.2.2.2.2.2.1
  refine gL_law_853 x3 I L ⟨hv.1, B, M, a.1, a.2.2.1, fun J v hJ => ?_⟩
  generalize (x3 + (1 : Int32)).toNatClampNeg = i at hJ ⊢
  unfold netU at hJ
  have hJd : df [67, 69] [] I J := by
    by_cases h : netOk B (I 0 i)
    · rw [if_pos h] at hJ
      by_cases hM : M = 8
      · rw [if_pos hM] at hJ; exact df_sub (df_e hJ.2) (by decide) (by decide)
      · rw [if_neg hM] at hJ; exact df_fr hJ.2.1 (by decide)
    · rw [if_neg h] at hJ; exact df_sub (df_e hJ.2) (by decide) (by decide)
  have e0 := df_0 hJd (by decide)
  refine ⟨B, M, by rw [hJd.2 27 (by decide)]; exact a.2.1, by rw [hJd.2 29 (by decide)]; exact a.2.2.2.1, fun J2 v2 hJ2 => ?_⟩
  unfold netU at hJ2
  rw [e0] at hJ2
  by_cases h : netOk B (I 0 i)
  · rw [if_pos h] at hJ hJ2
    by_cases hM : M = 8
    · rw [if_pos hM] at hJ hJ2
      exact ⟨fun _ => k J2 L (by rw [hJ2.2, hJ.2]; exact hI), fun hne => absurd (by rw [hJ.1, hJ2.1]) hne⟩
    · rw [if_neg hM] at hJ hJ2
      obtain ⟨a1, a2, a3, a4, a5, a6, a7⟩ := hJ
      obtain ⟨b1, b2, b3, b4, b5, b6, b7⟩ := hJ2
      have hd : df ([67, 69] ++ [140]) ([] ++ [29]) I J2 := df_t hJd (df_x b2 (fun s hs => b3 s (fun z => hs (by rw [z]; decide)) (fun z => hs (by rw [z]; decide))))
      have c67 : J2 67 = J 67 := b2 67 (by decide)
      have c69 : J2 69 = J 69 := b2 69 (by decide)
      obtain ⟨u1, u2, m1, m2, n1, n2⟩ := a
      have hB := u1.2
      have p7 : (2 : Nat) ^ B ≤ 2 ^ 7 := Nat.pow_le_pow_right (by decide) hB
      obtain ⟨n, en, -, hn, tn1, -⟩ := nm_of (a := 0) (b := 2 ^ B) (by omega) (by decide) h.1
      have hn0 : n ≠ 0 := by
        intro z
        have h2 := h.2
        rw [tn1, z] at h2
        exact absurd h2 (by decide)
      refine ⟨fun _ => k J2 L (Inv_fl1 hI hd (by decide) (by decide) ⟨B, M + 1, fun q => if q = M then n else nb q, p, ⟨⟨by rw [c67, a3 2 (by decide) (by decide)]; exact u1.1, u1.2⟩, ⟨by rw [b3 27 (by decide) (by decide), a2 115 (by decide)]; exact u2.1, u2.2⟩, ⟨by rw [c67]; exact a4, by omega⟩, ⟨b4, by omega⟩, fun q hq => ?_, fun q hq => ?_⟩, ⟨Or.inl (by rw [c67]; exact a5 (by decide)), fun q => by rw [hd.1 72 (by decide) (by decide)]; exact b.2 q⟩, flP_d hd (by decide) c⟩), fun hne => absurd (by rw [a1, b1]) hne⟩
      · dsimp only
        by_cases hqM : q = M
        · rw [if_pos hqM, c69, hqM, a7]; exact ⟨en, hn, hn0⟩
        · rw [if_neg hqM, c69, a6 q hqM]; exact n1 q (by omega)
      · dsimp only
        by_cases hqM : q = M
        · rw [if_pos hqM, hqM, b7]; exact ⟨en, hn, hn0⟩
        · rw [if_neg hqM, b6 q hqM, a2 140 (by decide)]; exact n2 q (by omega)
  · rw [if_neg h] at hJ hJ2
    exact ⟨fun _ => k J2 L (by rw [hJ2.2, hJ.2]; exact hI), fun hne => absurd (by rw [hJ.1, hJ2.1]) hne⟩
theorem lw876 : lwC 876 := by
  intro zn d post x3 I L hv hI k
  obtain ⟨B, M, nb, p, a, b, c⟩ := hI.2.2.2.2.2.2.2.1
  refine gL_law_876 x3 I L ⟨hv.1, hv.2.1, B, p, a.1, c.1, c.2.2, fun J v hJ => ?_⟩
  generalize (x3 + (1 : Int32)).toNatClampNeg = i at hJ ⊢
  generalize (x3 + (2 : Int32)).toNatClampNeg = i2 at hJ ⊢
  have hB := a.1.2
  by_cases h : (0 ≤ I 0 i ∧ I 0 i < nI B) ∧ 0 ≤ I 0 i2 ∧ I 0 i2 < 8
  · obtain ⟨n, en, -, hn, tn1, -⟩ := nm_of (a := 0) (b := B) (by omega) (by decide) h.1
    obtain ⟨m, em, -, hm, tn2, -⟩ := nm_of (a := 0) (b := 8) (by decide) (by decide) h.2
    have hJ := hJ.2 h
    by_cases ho : occ p B (tn (I 0 i)) (tn (I 0 i2))
    · have hJ := hJ.1 ho
      have e0 : J 0 = I 0 := by rw [hJ.2]
      refine ⟨B, p, by rw [hJ.2]; exact a.2.1, by rw [hJ.2]; exact c.2.1, c.2.2, fun J2 v2 hJ2 => ?_⟩
      rw [e0] at hJ2
      have hJ2 := (hJ2.2 h).1 ho
      exact ⟨fun _ => k J2 L (by rw [hJ2.2, hJ.2]; exact hI), fun hne => absurd (by rw [hJ.1, hJ2.1]) hne⟩
    · have hJ := hJ.2 ho
      have e0 : J 0 = I 0 := by rw [hJ.2, zi_ne (by decide)]
      refine ⟨B, p, by rw [hJ.2, zi_ne (by decide)]; exact a.2.1, fun j hj => by rw [hJ.2, zi_ne (by decide)]; exact c.2.1 j hj, c.2.2, fun J2 v2 hJ2 => ?_⟩
      rw [e0] at hJ2
      have hJ2 := (hJ2.2 h).2 ho
      have t := two_zi (by decide) hJ.2 hJ2.2
      have hd : df ([68] ++ [139]) ([] ++ []) I J2 := df_t (hJ.2 ▸ df_zi (by decide)) (hJ2.2 ▸ df_zi (by decide))
      rw [tn1] at t
      rw [tn1, tn2] at ho
      have e67 := hd.1 67 (by decide) (by decide)
      refine ⟨fun _ => k J2 L (Inv_fl1 hI hd (by decide) (by decide) ⟨B, M, nb, fun j => if j = n then m else p j, flN_d hd (by decide) (by rw [e67]) (by rw [e67]) (by decide) a, flL_d hd (by decide) b, fun j hj => ?_, fun j hj => ?_, fun x y hx hy e => ?_⟩), fun hne => absurd (by rw [hJ.1, hJ2.1]) hne⟩
      · dsimp only
        rw [t.1]
        by_cases hjn : j = n
        · rw [if_pos hjn, if_pos hjn]; exact ⟨em, hm⟩
        · rw [if_neg hjn, if_neg hjn]; exact c.1 j hj
      · dsimp only
        rw [t.2]
        by_cases hjn : j = n
        · rw [if_pos hjn, if_pos hjn]; exact ⟨em, hm⟩
        · rw [if_neg hjn, if_neg hjn]; exact c.2.1 j hj
      · dsimp only at e
        by_cases hxn : x = n
        · by_cases hyn : y = n
          · rw [hxn, hyn]
          · rw [if_pos hxn, if_neg hyn] at e
            exact absurd ⟨y, hy, hyn, e.symm⟩ ho
        · by_cases hyn : y = n
          · rw [if_neg hxn, if_pos hyn] at e
            exact absurd ⟨x, hx, hxn, e⟩ ho
          · rw [if_neg hxn, if_neg hyn] at e
            exact c.2.2 x y hx hy e
  · have hJ := hJ.1 h
    have e0 : J 0 = I 0 := by rw [hJ.2]
    refine ⟨B, p, by rw [hJ.2]; exact a.2.1, by rw [hJ.2]; exact c.2.1, c.2.2, fun J2 v2 hJ2 => ?_⟩
    rw [e0] at hJ2
    have hJ2 := hJ2.1 h
    exact ⟨fun _ => k J2 L (by rw [hJ2.2, hJ.2]; exact hI), fun hne => absurd (by rw [hJ.1, hJ2.1]) hne⟩
theorem lw932 : lwC 932 := by
  intro zn d post x3 I L hv hI k
  obtain ⟨B, M, nb, p, a, b, c⟩ := hI.2.2.2.2.2.2.2.1
  have hls := hI.2.2.2.2.2.2.1.2
  refine gL_law_932 x3 I L ⟨hv.1, B, M, nb, ⟨a.1, a.2.2.1, fun q hq => ⟨(a.2.2.2.2.1 q hq).1, (a.2.2.2.2.1 q hq).2.1⟩, hls⟩, b.1, b.2, fun J y hJ => ?_⟩
  obtain ⟨a1, a2, a3, a4, a5⟩ := hJ
  refine ⟨B, M, nb, by rw [a1 115 (by decide)]; exact a.2.1, by rw [a1 115 (by decide)]; exact a.2.2.2.1, fun q hq => by rw [a1 140 (by decide)]; exact a.2.2.2.2.2 q hq, fun J2 y2 hJ2 => ?_⟩
  rw [a1 0 (by decide)] at hJ2
  have hd1 : df [67, 70, 71, 72] [] I J := df_fr a1 (by decide)
  have hd2 : df [141, 142] [] J J2 := df_fr hJ2.1 (by decide)
  have e67 : J2 67 = J 67 := hJ2.1 67 (by decide)
  refine ⟨fun _ => k J2 L (Inv_fl1 hI (df_t hd1 hd2) (by decide) (by decide) ⟨B, M, nb, p, flN_d (df_t hd1 hd2) (by decide) (by rw [e67, a2 2 (by decide) (by decide)]) (by rw [e67, a2 3 (by decide) (by decide)]) (by decide) a, flL_d hd2 (by decide) ⟨a3, a4⟩, flP_d (df_t hd1 hd2) (by decide) c⟩), fun hne => absurd (lstR_one a.1.2 a5 hJ2.2) hne⟩
theorem swF_inj {B M : Nat} {nb : Nat → Nat} : ∀ (f : Nat) (p : Nat → Nat), inj p B → inj (swF B M nb f p).2 B
  | 0, p, h => h
  | f + 1, p, h => by
    cases hb : bst B M nb p with
    | none => rw [swF_n hb]; exact h
    | some ab => rw [swF_s hb]; exact swF_inj f _ (sw_inj h)
theorem lw955 : lwC 955 := by
  intro zn d post x3 I L hv hI k
  obtain ⟨B, M, nb, p, a, b, c⟩ := hI.2.2.2.2.2.2.2.1
  refine gL_law_955 x3 I L ⟨B, M, p, nb, a.1, a.2.2.1, c.1, flN_nt a, fun J hJ => ⟨B, M, p, nb, by rw [hJ.1 115 (by decide)]; exact a.2.1, by rw [hJ.1 115 (by decide)]; exact a.2.2.2.1, fun j hj => by rw [hJ.1 139 (by decide)]; exact c.2.1 j hj, fun j hj => by rw [hJ.1 140 (by decide)]; exact a.2.2.2.2.2 j hj, fun J2 hJ2 => ⟨fun _ => k J2 L ?_, fun hne => absurd rfl hne⟩⟩⟩
  have hd : df ([68] ++ [139, 141]) ([] ++ []) I J2 := df_t (df_fr hJ.1 (by decide)) (df_fr hJ2.1 (by decide))
  have e67 := hd.1 67 (by decide) (by decide)
  exact Inv_fl1 hI hd (by decide) (by decide) ⟨B, M, nb, (swF B M nb 40 p).2, flN_d hd (by decide) (by rw [e67]) (by rw [e67]) (by decide) a, flL_d hd (by decide) b, fun j hj => by rw [hJ2.1 68 (by decide)]; exact hJ.2 j hj, hJ2.2, swF_inj _ _ c.2.2⟩

