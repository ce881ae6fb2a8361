/-! KEEP, BACK -/
def kpS : List Nat := [5, 12, 13, 14, 15, 16, 17, 18, 19, 20, 21, 22, 23, 24, 25, 26, 27, 28, 29, 30, 31, 32, 33, 34, 85, 86, 87, 88, 89, 90, 91, 92, 93, 94, 95, 96, 97, 98, 99, 100, 101, 102, 103, 104, 105, 106, 107, 108, 109, 110, 111, 112, 113, 114, 118, 119, 120, 121, 122, 123, 124, 125, 126]
theorem Inv_v1 {I J : Nat → Nat → Int32} {L : Nat → Nat → Int64} (hI : Inv I L) (hd : df kpS [11, 12] I J) (h0 : vp J 12 0) (h1 : vp J 19 1) (hk : iKp J) (hs : iSt J) (hl : iLs J) : Inv J L := by
  obtain ⟨tx, -, kp, st, ls, gt, cn, fl, tr, ln, m4⟩ := hI
  exact ⟨iTx_d hd (by decide) tx, ⟨h0, h1⟩, hk, hs, hl, iGt_d hd (by decide) gt, iCn_d hd (by decide) cn, iFl_d hd (by decide) (by decide) fl, iTr_d hd (by decide) (by decide) tr, ln, by rw [hd.2 18 (by decide)]; exact m4⟩
theorem kpS_in {c : Nat} (h : c = 5 ∨ (12 ≤ c ∧ c ≤ 34) ∨ (85 ≤ c ∧ c ≤ 114) ∨ (118 ≤ c ∧ c ≤ 126)) : c ∈ kpS := by
  have : ∀ c, c < 127 → (c = 5 ∨ (12 ≤ c ∧ c ≤ 34) ∨ (85 ≤ c ∧ c ≤ 114) ∨ (118 ≤ c ∧ c ≤ 126)) → c ∈ kpS := by decide +kernel
  exact this c (by omega) h
theorem rvM_o {I J : Nat → Nat → Int32} (h : ∀ c, 115 ≤ c → J c = I c) (u : Nat) : rvM I J u u := rvM_fr (h _ (by decide)) (h _ (by decide)) (h _ (by decide)) (h _ (by decide)) (h _ (by decide)) (h _ (by decide))
theorem rsM_o {I J : Nat → Nat → Int32} (h : ∀ c, 115 ≤ c → J c = I c) (u : Nat) : rsM I J u u := rsM_fr (h _ (by decide)) (h _ (by decide)) (h _ (by decide))
theorem lw1175 : lwC 1175 := by
  intro zn d post x3 I L hv hI k
  obtain ⟨q, q2, k1, k2, kp⟩ := hI.2.2.1
  obtain ⟨v0, v1⟩ := hI.2.1
  have st := hI.2.2.2.1
  have ls := hI.2.2.2.2.1
  refine gL_law_1175 x3 I L ⟨q, ⟨k1, q2⟩, fun J v hJ => ?_⟩
  unfold kepC at hJ
  by_cases hq : q = 2
  · rw [if_pos hq] at hJ
    refine ⟨q, by rw [hJ.2]; exact ⟨k2, q2⟩, fun J2 v2 hJ2 => ?_⟩
    unfold kepR at hJ2
    rw [if_pos hq] at hJ2
    exact ⟨fun _ => k J2 L (by rw [hJ2.2, hJ.2]; exact hI), fun hne => absurd (by rw [hJ.1, hJ2.1]) hne⟩
  · rw [if_neg hq] at hJ
    obtain ⟨a0, a1, a2, a3, a4, a5, a6, a7, a8⟩ := hJ
    have hi : ∀ c, 115 ≤ c → J c = I c := fun c hc => a1 c (by omega) (by omega)
    refine ⟨q, by rw [hi 115 (by decide)]; exact ⟨k2, q2⟩, fun J2 v2 hJ2 => ?_⟩
    unfold kepR at hJ2
    rw [if_neg hq] at hJ2
    obtain ⟨b0, b1, b2, b3, b4, b5, b6, b7, b8⟩ := hJ2
    have lo : ∀ c, c < 115 → J2 c = J c := fun c hc => b1 c (by simp only [List.mem_cons, List.not_mem_nil, or_false]; omega)
    have hd : df kpS [11, 12] I J2 := by
      refine ⟨fun c hc h5 => ?_, fun s hs => ?_⟩
      · rw [b1 c (fun z => hc (kpS_in (by simp only [List.mem_cons, List.not_mem_nil, or_false] at z; omega))), a1 c (fun z => hc (kpS_in (Or.inl z))) (fun z => hc (kpS_in (by omega)))]
      · rw [b2 s (fun z => hs (by rw [z]; decide)), hi 115 (by decide)]
    have rv : ∀ u, u ≤ 6 → u ≠ 3 + 2 * q → u ≠ 4 + 2 * q → rvM I J2 u u := fun u h1 h2 h3 => rvM_t (rvM_o hi u) (b6 u h1 h2 h3)
    have rs : ∀ u, u ≠ 1 + q → rsM I J2 u u := fun u h1 => rsM_t (rsM_o hi u) (b8 u h1)
    have e34 : J2 34 = I 34 := by rw [lo 34 (by decide), a1 34 (by decide) (by omega)]
    have e5 : ∀ s, s ≠ 13 → J2 5 s = I 5 s := fun s hs => by rw [lo 5 (by decide)]; exact a2 s hs
    have ec : ∀ c, c < 115 → c ≠ 5 → ¬ (85 + 15 * q ≤ c ∧ c ≤ 99 + 15 * q) → J2 c = I c := fun c h1 h2 h3 => by rw [lo c h1, a1 c h2 h3]
    have hq1 : q ≤ 1 := by omega
    refine ⟨fun _ => k J2 L (Inv_v1 hI hd (vp_k v0 (fun j hj => ec _ (by omega) (by omega) (by omega)) (rv 0 (by omega) (by omega) (by omega))) (vp_k v1 (fun j hj => ec _ (by omega) (by omega) (by omega)) (rv 1 (by omega) (by omega) (by omega))) ⟨q + 1, by omega, by rw [lo 5 (by decide)]; exact a3, b3, fun j hj => ?_⟩ (iSt_d (by rw [e34]) (e5 14 (by decide)) (e5 15 (by decide)) (rs 0 (by omega)) st) ⟨?_, fun n hn => ?_⟩), fun hne => absurd (by rw [a0, b0]) hne⟩
    · by_cases hjq : j = q
      · rw [hjq]
        refine ⟨?_, ?_, ?_⟩
        · obtain ⟨V, os, ps, c1, c2⟩ := v0
          exact ⟨V, os, ps, cVw_fr (a4 V os c1) (fun i hi => lo _ (by omega)), rvM_vw b4 (rvM_vw (rvM_o hi 0) c2)⟩
        · obtain ⟨V, os, ps, c1, c2⟩ := v1
          exact ⟨V, os, ps, cVw_fr (a5 V os c1) (fun i hi => lo _ (by omega)), rvM_vw b5 (rvM_vw (rvM_o hi 1) c2)⟩
        · rw [lo _ (by omega), a6, a7, a8]
          exact rst_m st (rsM_t (rsM_o hi 0) b7)
      · exact kp1_k (kp j (by omega)) (fun i hi => ec _ (by omega) (by omega) (by omega)) (rv _ (by omega) (by omega) (by omega)) (rv _ (by omega) (by omega) (by omega)) (rs _ (by omega))
    · rw [e34, b2 12 (by decide), hi 115 (by decide)]; exact ls.1
    · rw [ec 35 (by decide) (by decide) (by omega), b1 132 (by decide), hi 132 (by decide)]; exact ls.2 n hn
theorem lw1188 : lwC 1188 := by
  intro zn d post x3 I L hv hI k
  obtain ⟨q, q2, k1, k2, kp⟩ := hI.2.2.1
  have ls := hI.2.2.2.2.1
  refine gL_law_1188 x3 I L ⟨q, ⟨k1, q2⟩, fun J v hJ => ?_⟩
  unfold bakC at hJ
  by_cases hq : q = 0
  · rw [if_pos hq] at hJ
    refine ⟨q, by rw [hJ.2]; exact ⟨k2, q2⟩, fun J2 v2 hJ2 => ?_⟩
    unfold bakR at hJ2
    rw [if_pos hq] at hJ2
    exact ⟨fun _ => k J2 L (by rw [hJ2.2, hJ.2]; exact hI), fun hne => absurd (by rw [hJ.1, hJ2.1]) hne⟩
  · rw [if_neg hq] at hJ
    obtain ⟨a0, a1, a2, a3, a4, a5, a6, a7, a8, a9⟩ := hJ
    have hi : ∀ c, 115 ≤ c → J c = I c := fun c hc => a1 c (by omega) (by omega) (by omega)
    refine ⟨q, by rw [hi 115 (by decide)]; exact ⟨k2, q2⟩, fun J2 v2 hJ2 => ?_⟩
    unfold bakR at hJ2
    rw [if_neg hq] at hJ2
    obtain ⟨b0, b1, b2, b3, b4, b5, b6, b7, b8⟩ := hJ2
    obtain ⟨p, rfl⟩ : ∃ p, q = p + 1 := ⟨q - 1, by omega⟩
    rw [show p + 1 - 1 = p by omega] at a0 a3 b0 b3
    rw [show 71 + 15 * (p + 1) = 86 + 15 * p by omega] at a4
    rw [show 78 + 15 * (p + 1) = 93 + 15 * p by omega] at a5
    rw [show 70 + 15 * (p + 1) = 85 + 15 * p by omega] at a7 a8 a9
    rw [show 1 + 2 * (p + 1) = 3 + 2 * p by omega] at b4
    rw [show 2 + 2 * (p + 1) = 4 + 2 * p by omega] at b5
    rw [show p + 1 = 1 + p by omega] at b7
    have lo : ∀ c, c < 115 → J2 c = J c := fun c hc => b1 c (by simp only [List.mem_cons, List.not_mem_nil, or_false]; omega)
    have hd : df kpS [11, 12] I J2 := by
      refine ⟨fun c hc h5 => ?_, fun s hs => ?_⟩
      · rw [b1 c (fun z => hc (kpS_in (by simp only [List.mem_cons, List.not_mem_nil, or_false] at z; omega))), a1 c (fun z => hc (kpS_in (Or.inl z))) (fun z => hc (kpS_in (by omega))) (fun z => hc (kpS_in (by omega)))]
      · rw [b2 s (fun z => hs (by rw [z]; decide)), hi 115 (by decide)]
    have rv : ∀ u, u ≤ 6 → u ≠ 0 → u ≠ 1 → rvM I J2 u u := fun u h1 h2 h3 => rvM_t (rvM_o hi u) (b6 u h1 h2 h3)
    have rs : ∀ u, u ≠ 0 → rsM I J2 u u := fun u h1 => rsM_t (rsM_o hi u) (b8 u h1)
    obtain ⟨v0, v1, st⟩ := kp p (by omega)
    have ec : ∀ c, c < 115 → c ≠ 5 → c ≠ 34 → ¬ (12 ≤ c ∧ c ≤ 25) → J2 c = I c := fun c h1 h2 h3 h4 => by rw [lo c h1, a1 c h2 h3 h4]
    refine ⟨fun _ => k J2 L (Inv_v1 hI hd ?_ ?_ ⟨p, by omega, by rw [lo 5 (by decide)]; exact a3, b3, fun j hj => ?_⟩ ?_ ⟨?_, fun n hn => ?_⟩), fun hne => absurd (by rw [a0, b0]) hne⟩
    · obtain ⟨V, os, ps, c1, c2⟩ := v0
      exact ⟨V, os, ps, cVw_fr (a4 V os c1) (fun i hi => lo _ (by omega)), rvM_vw b4 (rvM_vw (rvM_o hi _) c2)⟩
    · obtain ⟨V, os, ps, c1, c2⟩ := v1
      exact ⟨V, os, ps, cVw_fr (a5 V os c1) (fun i hi => lo _ (by omega)), rvM_vw b5 (rvM_vw (rvM_o hi _) c2)⟩
    · exact kp1_k (kp j (by omega)) (fun i hi => ec _ (by omega) (by omega) (by omega) (by omega)) (rv _ (by omega) (by omega) (by omega)) (rv _ (by omega) (by omega) (by omega)) (rs _ (by omega))
    · unfold iSt
      rw [lo 34 (by decide), lo 5 (by decide), a7, a8, a9]
      exact rst_m st (rsM_t (rsM_o hi _) b7)
    · rw [lo 34 (by decide), a6 3 (by decide), b2 12 (by decide), hi 115 (by decide)]; exact ls.1
    · rw [ec 35 (by decide) (by decide) (by decide) (by omega), b1 132 (by decide), hi 132 (by decide)]; exact ls.2 n hn

