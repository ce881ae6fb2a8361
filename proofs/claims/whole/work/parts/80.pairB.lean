/-! WIRE, FAILS, FINDS, FEWEST, COULD, PARTS, COUNT -/
theorem flN_nt {I : Nat → Nat → Int32} {B M : Nat} {nb : Nat → Nat} (h : flN I B M nb) : ntC I 69 M nb := fun k hk => ⟨(h.2.2.2.2.1 k hk).1, B128 h.1.2 (h.2.2.2.2.1 k hk).2.1⟩
theorem lw909 : lwC 909 := by
  intro zn d post x3 I L hv hI k
  obtain ⟨B, M, nb, p, a, b, c⟩ := hI.2.2.2.2.2.2.2.1
  exact gL_law_909 x3 I L ⟨hv.1, B, M, p, nb, a.1, a.2.2.1, c.1, flN_nt a, B, M, p, nb, a.2.1, a.2.2.2.1, c.2.1, a.2.2.2.2.2, fun J hJ => ⟨fun _ => k J L (Inv_k hI (kpI_f hJ (by decide)) (Inv_ln hI)), fun hne => absurd rfl hne⟩⟩
theorem lw991 : lwC 991 := by
  intro zn d post x3 I L hv hI k
  obtain ⟨V, os, ps, hV⟩ := Inv_V hI
  obtain ⟨e, e1, e2, e3⟩ := Inv_e hI
  have ln := Inv_ln hI
  exact gL_law_991 x3 I L ⟨hv.1, hv.2.1, V 1, os 1, e, (hV 1 (by decide)).1, ⟨e2, e1⟩, ln.2.2.1, fun K hK => ⟨V 1, ps 1, e, rVw_ev (hV 1 (by decide)).2, ⟨e3, e1⟩, Inv_m4 hI, fun J hJ => ⟨fun _ => k J K (Inv_k hI (kpI_19 hJ) (iLn_f hK (by decide) ln)), fun hne => absurd rfl hne⟩⟩⟩
theorem lw1024 : lwC 1024 := by
  intro zn d post x3 I L hv hI k
  obtain ⟨V, os, ps, hV⟩ := Inv_V hI
  obtain ⟨e, e1, e2, e3⟩ := Inv_e hI
  have ln := Inv_ln hI
  exact gL_law_1024 x3 I L ⟨hv.1, V 1, os 1, e, (hV 1 (by decide)).1, ⟨e2, e1⟩, ln.1, ln.2.2.2, fun K hK => ⟨V 1, ps 1, e, rVw_ev (hV 1 (by decide)).2, ⟨e3, e1⟩, Inv_m4 hI, fun J hJ => ⟨fun _ => k J K (Inv_k hI (kpI_19 hJ) (iLn_f hK (by decide) ln)), fun hne => absurd rfl hne⟩⟩⟩
theorem Inv_tr {I : Nat → Nat → Int32} {L : Nat → Nat → Int64} (h : Inv I L) : iTr I := h.2.2.2.2.2.2.2.2.1
theorem lw1083 : lwC 1083 := by
  intro zn d post x3 I L hv hI k
  obtain ⟨V, os, ps, hV⟩ := Inv_V hI
  obtain ⟨e, e1, e2, e3⟩ := Inv_e hI
  obtain ⟨N, ro, sn, n1, n2, t1, t2, s1, s2⟩ := Inv_tr hI
  have ln := Inv_ln hI
  exact gL_law_1083 x3 I L ⟨hv.1, V 1, os 1, e, N, ro, (hV 1 (by decide)).1, ⟨e2, e1⟩, n1, t1, ln.2.2.1, fun K y hK => ⟨V 1, ps 1, e, N, ro, rVw_ev (hV 1 (by decide)).2, ⟨e3, e1⟩, n2, t2, Inv_m4 hI, fun J K2 z hJ => ⟨fun _ => k J K2 (Inv_k hI (kpI_19 hJ.1) (iLn_f hJ.2.1 (by decide) (iLn_f hK.1 (by decide) ln))), fun hne => absurd (fewR_one hK.2 hJ.2.2) hne⟩⟩⟩
theorem lw1139 : lwC 1139 := by
  intro zn d post x3 I L hv hI k
  obtain ⟨V, os, ps, hV⟩ := Inv_V hI
  obtain ⟨e, e1, e2, e3⟩ := Inv_e hI
  obtain ⟨N, ro, sn, n1, n2, t1, t2, s1, s2⟩ := Inv_tr hI
  have ln := Inv_ln hI
  exact gL_law_1139 x3 I L ⟨hv.1, V 1, os 1, e, N, ro, sn, (hV 1 (by decide)).1, ⟨e2, e1⟩, n1, t1, s1, ln.2.2.1, fun K y hK => ⟨V 1, ps 1, e, N, ro, sn, rVw_ev (hV 1 (by decide)).2, ⟨e3, e1⟩, Inv_m4 hI, n2, t2, s2, fun J z hJ => ⟨fun _ => k J K (Inv_k hI (kpI_19 hJ.1) (iLn_f hK.1 (by decide) ln)), fun hne => absurd (couR_one hK.2 hJ.2) hne⟩⟩⟩
theorem lw1162 : lwC 1162 := by
  intro zn d post x3 I L hv hI k
  obtain ⟨V, os, ps, hV⟩ := Inv_V hI
  obtain ⟨e, e1, e2, e3⟩ := Inv_e hI
  obtain ⟨N, ro, sn, n1, n2, t1, t2, s1, s2⟩ := Inv_tr hI
  have ln := Inv_ln hI
  exact gL_law_1162 x3 I L ⟨V 1, os 1, e, N, ro, sn, (hV 1 (by decide)).1, ⟨e2, e1⟩, n1, t1, s1, ln.2.2.1, fun K hK => ⟨V 1, ps 1, e, N, ro, sn, rVw_ev (hV 1 (by decide)).2, ⟨e3, e1⟩, Inv_m4 hI, n2, t2, s2, fun J hJ => ⟨fun _ => k J K (Inv_k hI (kpI_P hJ) (iLn_f hK (by decide) ln)), fun hne => absurd rfl hne⟩⟩⟩
theorem cnt_c {I : Nat → Nat → Int32} {L : Nat → Nat → Int64} (hI : Inv I L) (x : Int32) : cntC I x = cntR I x := by
  obtain ⟨T, l, ht⟩ := hI.1
  obtain ⟨V, os, ps, hV⟩ := Inv_V hI
  obtain ⟨B, M, nb, p, a, -, -⟩ := hI.2.2.2.2.2.2.2.1
  obtain ⟨N, ro, sn, n1, n2, -⟩ := Inv_tr hI
  obtain ⟨kk, -, k1, k2, -⟩ := hI.2.2.1
  have w0 := hV 0 (by decide)
  have w1 := hV 1 (by decide)
  have e0 : I 7 1 = I 117 0 := (ht 0 (by decide)).1.1.trans (ht 0 (by decide)).2.1.symm
  have e1 : I 9 1 = I 117 1 := (ht 1 (by decide)).1.1.trans (ht 1 (by decide)).2.1.symm
  have e2 : I 12 7 = I 121 0 := by
    have h1 : I 12 7 = nI (os 0).length := w0.1.2.2.1
    rw [h1, w0.2.1.2.2, topc_cnt w0.1.2.1 w0.1.1.1]
  have e3 : I 19 7 = I 121 1 := by
    have h1 : I 19 7 = nI (os 1).length := w1.1.2.2.1
    rw [h1, w1.2.1.2.2, topc_cnt w1.1.2.1 w1.1.1.1]
  unfold cntC cntR
  rw [e0, e1, e2, e3, a.1.1, a.2.1.1, a.2.2.1.1, a.2.2.2.1.1, n1.1, n2.1, k1, k2, hI.2.2.2.2.1.1]
theorem lw1201 : lwC 1201 := by
  intro zn d post x3 I L hv hI k
  exact gL_law_1201 x3 I L ⟨hv.1, fun _ => k I L hI, fun hne => absurd (cnt_c hI _) hne⟩
/-! START, ENDS, STATE, NOTRIALS -/
theorem lw573 : lwC 573 := by
  intro zn d post x3 I L hv hI k
  obtain ⟨a, a1, a2, a3⟩ := Inv_a hI
  obtain ⟨tx, ⟨v0, v1⟩, kp, st, ls, gt, cn, fl, tr, ln, m4⟩ := hI
  refine gL_law_573 x3 I L ⟨hv.1, fun J v hJ J2 v2 hJ2 => ?_⟩
  generalize (x3 + (1 : Int32)).toNatClampNeg = i at hJ hJ2
  by_cases h : 0 ≤ I 0 i ∧ I 0 i < 16
  · rw [if_pos h] at hJ
    have e0 : J 0 = I 0 := by rw [hJ.2, zi_ne (by decide)]
    rw [e0, if_pos h] at hJ2
    have ev : v = v2 := by rw [hJ.1, hJ2.1, hJ.2, zi_ne (by decide), a2, a3]
    refine ⟨fun _ => k J2 L ?_, fun hne => absurd ev hne⟩
    have hd : df ([5] ++ [125]) ([] ++ []) I J2 := df_t (hJ.2 ▸ df_zi (by decide)) (hJ2.2 ▸ df_zi (by decide))
    have e5 : ∀ s, s ≠ 14 → J2 5 s = I 5 s := fun s hs => by rw [hJ2.2, zi_ne (by decide), hJ.2, zi_at, if_neg (fun z => hs z.2)]
    have e54 : J2 5 14 = I 0 i := by rw [hJ2.2, zi_ne (by decide), hJ.2, zi_at, if_pos ⟨rfl, rfl⟩]
    have e34 := hd.1 34 (by decide) (by decide)
    have e124 := hd.1 124 (by decide) (by decide)
    have e126 := hd.1 126 (by decide) (by decide)
    have e125 : ∀ s, s ≠ 0 → J2 125 s = I 125 s := fun s hs => by rw [hJ2.2, zi_at, if_neg (fun z => hs z.2), hJ.2, zi_ne (by decide)]
    have e1250 : J2 125 0 = I 0 i := by rw [hJ2.2, zi_at, if_pos ⟨rfl, rfl⟩]
    obtain ⟨n, en, -, hn, -⟩ := nm_of (a := 0) (b := 16) (by decide) (by decide) h
    refine ⟨iTx_d hd (by decide) tx, ⟨vp_d hd (by decide) (by decide) (rvM_d hd (by decide) 0) v0, vp_d hd (by decide) (by decide) (rvM_d hd (by decide) 1) v1⟩, iKp_d hd (by decide) (e5 13 (by decide)) (by decide) (fun u _ _ => rvM_d hd (by decide) u) (fun u h1 _ => ⟨fun _ _ => by rw [e124], e125 u (by omega), by rw [e126]⟩) kp, ?_, iLs_d hd (by decide) (by rw [e34]) (by decide) ls, iGt_d hd (by decide) gt, iCn_d hd (by decide) cn, iFl_d hd (by decide) (by decide) fl, iTr_d hd (by decide) (by decide) tr, ln, by rw [hd.2 18 (by decide)]; exact m4⟩
    obtain ⟨s1, -, s3⟩ := st
    refine ⟨?_, ⟨n, hn, by rw [e54, en], by rw [e1250, en]⟩, ?_⟩
    · rw [e34, e124]; exact s1
    · rw [e5 15 (by decide), e126]; exact s3
  · rw [if_neg h] at hJ
    have e0 : J 0 = I 0 := by rw [hJ.2]
    rw [e0, if_neg h] at hJ2
    refine ⟨fun _ => k J2 L ?_, fun hne => absurd (by rw [hJ.1, hJ2.1]) hne⟩
    rw [hJ2.2, hJ.2]
    exact ⟨tx, ⟨v0, v1⟩, kp, st, ls, gt, cn, fl, tr, ln, m4⟩
theorem lw968 : lwC 968 := by
  intro zn d post x3 I L hv hI k
  obtain ⟨a, a1, a2, a3⟩ := Inv_e hI
  obtain ⟨tx, ⟨v0, v1⟩, kp, st, ls, gt, cn, fl, tr, ln, m4⟩ := hI
  refine gL_law_968 x3 I L ⟨hv.1, fun J v hJ J2 v2 hJ2 => ?_⟩
  generalize (x3 + (1 : Int32)).toNatClampNeg = i at hJ hJ2
  by_cases h : I 0 i &&& (-524225) = 0
  · rw [if_pos h] at hJ
    have e0 : J 0 = I 0 := by rw [hJ.2, zi_ne (by decide)]
    rw [e0, if_pos h] at hJ2
    have ev : v = v2 := by rw [hJ.1, hJ2.1, hJ.2, zi_ne (by decide), a2, a3]
    refine ⟨fun _ => k J2 L ?_, fun hne => absurd ev hne⟩
    have hd : df ([5] ++ [126]) ([] ++ []) I J2 := df_t (hJ.2 ▸ df_zi (by decide)) (hJ2.2 ▸ df_zi (by decide))
    have e5 : ∀ s, s ≠ 15 → J2 5 s = I 5 s := fun s hs => by rw [hJ2.2, zi_ne (by decide), hJ.2, zi_at, if_neg (fun z => hs z.2)]
    have e55 : J2 5 15 = I 0 i := by rw [hJ2.2, zi_ne (by decide), hJ.2, zi_at, if_pos ⟨rfl, rfl⟩]
    have e34 := hd.1 34 (by decide) (by decide)
    have e124 := hd.1 124 (by decide) (by decide)
    have e125 := hd.1 125 (by decide) (by decide)
    have e126 : ∀ s, s ≠ 0 → J2 126 s = I 126 s := fun s hs => by rw [hJ2.2, zi_at, if_neg (fun z => hs z.2), hJ.2, zi_ne (by decide)]
    have e1260 : J2 126 0 = I 0 i := by rw [hJ2.2, zi_at, if_pos ⟨rfl, rfl⟩]
    obtain ⟨n, en, hn, -⟩ := end_nI.mp h
    refine ⟨iTx_d hd (by decide) tx, ⟨vp_d hd (by decide) (by decide) (rvM_d hd (by decide) 0) v0, vp_d hd (by decide) (by decide) (rvM_d hd (by decide) 1) v1⟩, iKp_d hd (by decide) (e5 13 (by decide)) (by decide) (fun u _ _ => rvM_d hd (by decide) u) (fun u h1 _ => ⟨fun _ _ => by rw [e124], by rw [e125], e126 u (by omega)⟩) kp, ?_, iLs_d hd (by decide) (by rw [e34]) (by decide) ls, iGt_d hd (by decide) gt, iCn_d hd (by decide) cn, iFl_d hd (by decide) (by decide) fl, iTr_d hd (by decide) (by decide) tr, ln, by rw [hd.2 18 (by decide)]; exact m4⟩
    obtain ⟨s1, s2, -⟩ := st
    refine ⟨?_, ?_, n, hn, by rw [e55, en], by rw [e1260, en]⟩
    · rw [e34, e124]; exact s1
    · rw [e5 14 (by decide), e125]; exact s2
  · rw [if_neg h] at hJ
    have e0 : J 0 = I 0 := by rw [hJ.2]
    rw [e0, if_neg h] at hJ2
    refine ⟨fun _ => k J2 L ?_, fun hne => absurd (by rw [hJ.1, hJ2.1]) hne⟩
    rw [hJ2.2, hJ.2]
    exact ⟨tx, ⟨v0, v1⟩, kp, st, ls, gt, cn, fl, tr, ln, m4⟩

