/-! BUILD -/
theorem lw352 : lwC 352 := by
  intro zn d post x3 I L hv hI k
  obtain ⟨T, l, ht⟩ := hI.1
  obtain ⟨v0, v1⟩ := hI.2.1
  have kp := hI.2.2.1
  have st := hI.2.2.2.1
  have ls := hI.2.2.2.2.1
  refine gL_law_352 x3 I L ⟨hv.1, T, l, fun w hw => (ht w hw).1, fun J v hJ => ?_⟩
  generalize (x3 + (1 : Int32)).toNatClampNeg = i at hJ ⊢
  unfold bldC at hJ
  by_cases h : I 0 i = 0 ∨ I 0 i = 1
  · rw [if_pos h] at hJ
    have hw0 := tn_2 h
    by_cases hs : sdT (T (tn (I 0 i))) (l (tn (I 0 i)))
    · rw [if_pos hs] at hJ
      obtain ⟨a0, a1, ⟨os, a2⟩, a3⟩ := hJ
      have hi : ∀ c, 115 ≤ c → J c = I c := fun c hc => a1 c (by omega) (by omega)
      have e0 : J 0 = I 0 := a1 0 (by omega) (by omega)
      refine ⟨T, l, fun w hw => ?_, fun J2 v2 hJ2 => ?_⟩
      · have e := (ht w hw).2
        unfold txR at e ⊢
        rw [hi 116 (by decide), hi 117 (by decide)]
        exact e
      unfold bldR at hJ2
      rw [e0, if_pos h, if_pos hs] at hJ2
      obtain ⟨b0, b1, b2, b3, ⟨ps, b4⟩, b5, b6⟩ := hJ2
      have lo : ∀ c, c < 115 → J2 c = J c := fun c hc => b1 c (by simp only [List.mem_cons, List.not_mem_nil, or_false]; omega)
      have hd : df kpS [11, 12] I J2 := by
        refine ⟨fun c hc h5 => ?_, fun s hs => ?_⟩
        · rw [b1 c (fun z => hc (kpS_in (by simp only [List.mem_cons, List.not_mem_nil, or_false] at z; omega))), a1 c (fun z => hc (kpS_in (by omega))) (fun z => hc (kpS_in (by omega)))]
        · rw [b2 s (fun z => hs (by rw [z]; decide)), hi 115 (by decide)]
      have rv : ∀ u, u ≤ 6 → u ≠ 2 → u ≠ tn (I 0 i) → rvM I J2 u u := fun u h1 h2 h3 => rvM_t (rvM_o hi u) (b3 u h1 h2 h3)
      have ec : ∀ c, c < 115 → ¬ (26 ≤ c ∧ c ≤ 34) → ¬ (12 + 7 * tn (I 0 i) ≤ c ∧ c ≤ 18 + 7 * tn (I 0 i)) → J2 c = I c := fun c h1 h2 h3 => by rw [lo c h1, a1 c h2 h3]
      have e5 : J2 5 = I 5 := ec 5 (by decide) (by omega) (by omega)
      have e124 : ∀ s, 4 ≤ s → J2 124 s = I 124 s := fun s hs => by rw [b5 s hs, hi 124 (by decide)]
      have e125 : J2 125 = I 125 := by rw [b1 125 (by decide), hi 125 (by decide)]
      have e126 : J2 126 = I 126 := by rw [b1 126 (by decide), hi 126 (by decide)]
      have l35 : ∀ n, n < 19 → J2 35 n = J2 132 n := fun n hn => by rw [ec 35 (by decide) (by omega) (by omega), b1 132 (by decide), hi 132 (by decide)]; exact ls.2 n hn
      have kp2 : iKp J2 := by
        obtain ⟨q, q2, k1, k2, kp⟩ := kp
        exact ⟨q, q2, by rw [e5]; exact k1, by rw [b2 11 (by decide), hi 115 (by decide)]; exact k2, fun j hj => kp1_k (kp j hj) (fun i hi => ec _ (by omega) (by omega) (by omega)) (rv _ (by omega) (by omega) (by omega)) (rv _ (by omega) (by omega) (by omega)) ⟨fun r hr => e124 _ (by omega), by rw [e125], by rw [e126]⟩⟩
      have ev : v = v2 := by rw [a0, b0]
      refine ⟨fun _ => k J2 L ?_, fun hne => absurd ev hne⟩
      have vnew : vp J2 (12 + 7 * tn (I 0 i)) (tn (I 0 i)) := ⟨_, os, ps, cVw_fr a2 (fun j hj => lo _ (by omega)), b4⟩
      rcases h with h | h
      · have t0 : tn (I 0 i) = 0 := by rw [h]; rfl
        rw [t0] at vnew rv ec
        rw [if_pos h] at a3 b6
        refine Inv_v1 hI hd vnew (vp_k v1 (fun j hj => ec _ (by omega) (by omega) (by omega)) (rv 1 (by omega) (by omega) (by omega))) kp2 ⟨⟨fun _ => 2, fun r hr => ⟨Nat.le_refl _, by rw [Nat.mul_zero, Nat.zero_add]; exact b6.2 r hr⟩, by rw [lo 34 (by decide), a3.2.1]; rfl⟩, ?_, ?_⟩ ⟨by rw [lo 34 (by decide), a3.2.2, b6.1], l35⟩
        · rw [e5, e125]; exact st.2.1
        · rw [e5, e126]; exact st.2.2
      · have t0 : tn (I 0 i) = 1 := by rw [h]; rfl
        have hne : ¬ I 0 i = 0 := by rw [h]; decide
        rw [t0] at vnew rv ec
        rw [if_neg hne] at a3 b6
        refine Inv_v1 hI hd (vp_k v0 (fun j hj => ec _ (by omega) (by omega) (by omega)) (rv 0 (by omega) (by omega) (by omega))) vnew kp2 ⟨?_, ?_, ?_⟩ ⟨by rw [lo 34 (by decide), a3, b6.1, hi 115 (by decide)]; exact ls.1, l35⟩
        · rw [lo 34 (by decide), a3, b6.2, hi 124 (by decide)]; exact st.1
        · rw [e5, e125]; exact st.2.1
        · rw [e5, e126]; exact st.2.2
    · rw [if_neg hs] at hJ
      have e0 : J 0 = I 0 := hJ.2 0 (by decide)
      refine ⟨T, l, fun w hw => txR_f hJ.2 (by decide) (ht w hw).2, fun J2 v2 hJ2 => ?_⟩
      unfold bldR at hJ2
      rw [e0, if_pos h, if_neg hs] at hJ2
      exact ⟨fun _ => k J2 L (Inv_k hI (kpI_t (kpI_f hJ.2 (by decide)) (kpI_O hJ2.2)) (Inv_ln hI)), fun hne => absurd (by rw [hJ.1, hJ2.1]) hne⟩
  · rw [if_neg h] at hJ
    have e0 : J 0 = I 0 := by rw [hJ.2]
    refine ⟨T, l, fun w hw => by rw [hJ.2]; exact (ht w hw).2, fun J2 v2 hJ2 => ?_⟩
    unfold bldR at hJ2
    rw [e0, if_neg h] at hJ2
    exact ⟨fun _ => k J2 L (by rw [hJ2.2, hJ.2]; exact hI), fun hne => absurd (by rw [hJ.1, hJ2.1]) hne⟩

