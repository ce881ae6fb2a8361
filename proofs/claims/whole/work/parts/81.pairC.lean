/-! a call that changes one piece -/
theorem Inv_fl1 {S Z : List Nat} {I J : Nat → Nat → Int32} {L : Nat → Nat → Int64} (hI : Inv I L) (hd : df S Z I J) (hs : ∀ c ∈ S, c ∈ [67, 68, 69, 70, 71, 72, 139, 140, 141, 142]) (hz : ∀ c ∈ Z, c ∈ ([27, 29] : List Nat)) (h : iFl J) : Inv J L := by
  obtain ⟨tx, ⟨v0, v1⟩, kp, st, ls, gt, cn, fl, tr, ln, m4⟩ := hI
  replace hd := df_sub (S' := [67, 68, 69, 70, 71, 72, 139, 140, 141, 142]) (Z' := [27, 29]) hd hs hz
  have e5 := hd.1 5 (by decide) (by decide)
  have e34 := hd.1 34 (by decide) (by decide)
  exact ⟨iTx_d hd (by decide) tx, ⟨vp_d hd (by decide) (by decide) (rvM_d hd (by decide) 0) v0, vp_d hd (by decide) (by decide) (rvM_d hd (by decide) 1) v1⟩, iKp_d hd (by decide) (by rw [e5]) (by decide) (fun u _ _ => rvM_d hd (by decide) u) (fun u _ _ => rsM_d hd (by decide) u) kp, iSt_d (by rw [e34]) (by rw [e5]) (by rw [e5]) (rsM_d hd (by decide) 0) st, iLs_d hd (by decide) (by rw [e34]) (by decide) ls, iGt_d hd (by decide) gt, iCn_d hd (by decide) cn, h, iTr_d hd (by decide) (by decide) tr, ln, by rw [hd.2 18 (by decide)]; exact m4⟩
theorem Inv_tr1 {S Z : List Nat} {I J : Nat → Nat → Int32} {L : Nat → Nat → Int64} (hI : Inv I L) (hd : df S Z I J) (hs : ∀ c ∈ S, c ∈ [73, 74, 75, 143, 144]) (hz : ∀ c ∈ Z, c ∈ ([33] : List Nat)) (h : iTr J) : Inv J L := by
  obtain ⟨tx, ⟨v0, v1⟩, kp, st, ls, gt, cn, fl, tr, ln, m4⟩ := hI
  replace hd := df_sub (S' := [73, 74, 75, 143, 144]) (Z' := [33]) hd hs hz
  have e5 := hd.1 5 (by decide) (by decide)
  have e34 := hd.1 34 (by decide) (by decide)
  exact ⟨iTx_d hd (by decide) tx, ⟨vp_d hd (by decide) (by decide) (rvM_d hd (by decide) 0) v0, vp_d hd (by decide) (by decide) (rvM_d hd (by decide) 1) v1⟩, iKp_d hd (by decide) (by rw [e5]) (by decide) (fun u _ _ => rvM_d hd (by decide) u) (fun u _ _ => rsM_d hd (by decide) u) kp, iSt_d (by rw [e34]) (by rw [e5]) (by rw [e5]) (rsM_d hd (by decide) 0) st, iLs_d hd (by decide) (by rw [e34]) (by decide) ls, iGt_d hd (by decide) gt, iCn_d hd (by decide) cn, iFl_d hd (by decide) (by decide) fl, h, ln, by rw [hd.2 18 (by decide)]; exact m4⟩
theorem Inv_gt1 {S Z : List Nat} {I J : Nat → Nat → Int32} {L : Nat → Nat → Int64} (hI : Inv I L) (hd : df S Z I J) (hs : ∀ c ∈ S, c ∈ [56, 57, 58, 127, 128, 129]) (hz : ∀ c ∈ Z, c ∈ ([] : List Nat)) (h : iGt J) : Inv J L := by
  obtain ⟨tx, ⟨v0, v1⟩, kp, st, ls, gt, cn, fl, tr, ln, m4⟩ := hI
  replace hd := df_sub (S' := [56, 57, 58, 127, 128, 129]) (Z' := []) hd hs hz
  have e5 := hd.1 5 (by decide) (by decide)
  have e34 := hd.1 34 (by decide) (by decide)
  exact ⟨iTx_d hd (by decide) tx, ⟨vp_d hd (by decide) (by decide) (rvM_d hd (by decide) 0) v0, vp_d hd (by decide) (by decide) (rvM_d hd (by decide) 1) v1⟩, iKp_d hd (by decide) (by rw [e5]) (by decide) (fun u _ _ => rvM_d hd (by decide) u) (fun u _ _ => rsM_d hd (by decide) u) kp, iSt_d (by rw [e34]) (by rw [e5]) (by rw [e5]) (rsM_d hd (by decide) 0) st, iLs_d hd (by decide) (by rw [e34]) (by decide) ls, h, iCn_d hd (by decide) cn, iFl_d hd (by decide) (by decide) fl, iTr_d hd (by decide) (by decide) tr, ln, by rw [hd.2 18 (by decide)]; exact m4⟩
theorem Inv_tx1 {S Z : List Nat} {I J : Nat → Nat → Int32} {L : Nat → Nat → Int64} (hI : Inv I L) (hd : df S Z I J) (hs : ∀ c ∈ S, c ∈ [7, 8, 9, 10, 116, 117]) (hz : ∀ c ∈ Z, c ∈ ([] : List Nat)) (h : iTx J) : Inv J L := by
  obtain ⟨tx, ⟨v0, v1⟩, kp, st, ls, gt, cn, fl, tr, ln, m4⟩ := hI
  replace hd := df_sub (S' := [7, 8, 9, 10, 116, 117]) (Z' := []) hd hs hz
  have e5 := hd.1 5 (by decide) (by decide)
  have e34 := hd.1 34 (by decide) (by decide)
  exact ⟨h, ⟨vp_d hd (by decide) (by decide) (rvM_d hd (by decide) 0) v0, vp_d hd (by decide) (by decide) (rvM_d hd (by decide) 1) v1⟩, iKp_d hd (by decide) (by rw [e5]) (by decide) (fun u _ _ => rvM_d hd (by decide) u) (fun u _ _ => rsM_d hd (by decide) u) kp, iSt_d (by rw [e34]) (by rw [e5]) (by rw [e5]) (rsM_d hd (by decide) 0) st, iLs_d hd (by decide) (by rw [e34]) (by decide) ls, iGt_d hd (by decide) gt, iCn_d hd (by decide) cn, iFl_d hd (by decide) (by decide) fl, iTr_d hd (by decide) (by decide) tr, ln, by rw [hd.2 18 (by decide)]; exact m4⟩
theorem df_x {S Z : List Nat} {I J : Nat → Nat → Int32} (h : fr (115 :: S) I J) (h2 : ∀ s, s ∉ Z → J 115 s = I 115 s) : df S Z I J := ⟨fun c hc h5 => h c (fun z => (List.mem_cons.mp z).elim h5 hc), h2⟩
theorem df_z15 {I : Nat → Nat → Int32} {i : Nat} {v : Int32} : df [] [i] I (zi I 115 i v) := ⟨fun c _ h5 => zi_ne h5, fun s hs => by rw [zi_at, if_neg (fun z => hs (by rw [z.2]; exact List.mem_singleton.mpr rfl))]⟩
theorem df_0 {S Z : List Nat} {I J : Nat → Nat → Int32} (h : df S Z I J) (hs : 0 ∉ S) : J 0 = I 0 := h.1 0 hs (by decide)
/-! NOTRIALS, TRIAL, SEE -/
theorem lw1070 : lwC 1070 := by
  intro zn d post x3 I L hv hI k
  obtain ⟨N, ro, sn, n1, n2, -⟩ := Inv_tr hI
  refine gL_law_1070 x3 I L ⟨fun _ => k _ L (Inv_tr1 hI (df_t (df_zi (k := 73) (by decide)) df_z15) (by decide) (by decide) ⟨0, ro, sn, ⟨?_, by omega⟩, ⟨?_, by omega⟩, fun i hi => absurd hi (by omega), fun i hi => absurd hi (by omega), fun i hi => absurd hi (by omega), fun i hi => absurd hi (by omega)⟩), fun hne => absurd ?_ hne⟩
  · rw [zi_ne (by decide), zi_at, if_pos ⟨rfl, rfl⟩]; rfl
  · rw [zi_at, if_pos ⟨rfl, rfl⟩]; rfl
  · rw [zi_ne (by decide), n1.1, n2.1]
theorem lw1047 : lwC 1047 := by
  intro zn d post x3 I L hv hI k
  obtain ⟨N, ro, sn, n1, n2, t1, t2, s1, s2⟩ := Inv_tr hI
  refine gL_law_1047 x3 I L ⟨hv.1, N, n1, fun J v hJ => ?_⟩
  generalize (x3 + (1 : Int32)).toNatClampNeg = i at hJ ⊢
  unfold triU at hJ
  have hJd : df [73, 74, 75] [] I J := by
    by_cases h : 0 ≤ I 0 i ∧ I 0 i < 1024
    · rw [if_pos h] at hJ
      by_cases hN : N = 10
      · rw [if_pos hN] at hJ; exact df_sub (df_e hJ.2) (by decide) (by decide)
      · rw [if_neg hN] at hJ; exact df_fr hJ.2.1 (by decide)
    · rw [if_neg h] at hJ; exact df_sub (df_e hJ.2) (by decide) (by decide)
  have e0 := df_0 hJd (by decide)
  refine ⟨N, by rw [hJd.2 33 (by decide)]; exact n2, fun J2 v2 hJ2 => ?_⟩
  unfold triU at hJ2
  rw [e0] at hJ2
  by_cases h : 0 ≤ I 0 i ∧ I 0 i < 1024
  · rw [if_pos h] at hJ hJ2
    by_cases hN : N = 10
    · rw [if_pos hN] at hJ hJ2
      exact ⟨fun _ => k J2 L (by rw [hJ2.2, hJ.2]; exact hI), fun hne => absurd (by rw [hJ.1, hJ2.1]) hne⟩
    · rw [if_neg hN] at hJ hJ2
      obtain ⟨a1, a2, a3, a4, a5, a6, a7⟩ := hJ
      obtain ⟨b1, b2, b3, b4, b5, b6, b7⟩ := hJ2
      have hd : df ([73, 74, 75] ++ [143, 144]) ([] ++ [33]) I J2 := df_t hJd (df_x b2 (fun s hs => b3 s (fun z => hs (by rw [z]; decide))))
      obtain ⟨n, en, -, hn, -⟩ := nm_of (a := 0) (b := 1024) (by decide) (by decide) h
      have c73 : J2 73 = J 73 := b2 73 (by decide)
      have c74 : J2 74 = J 74 := b2 74 (by decide)
      have c75 : J2 75 = J 75 := b2 75 (by decide)
      have c143 : J 143 = I 143 := a2 143 (by decide)
      have c144 : J 144 = I 144 := a2 144 (by decide)
      refine ⟨fun _ => k J2 L (Inv_tr1 hI hd (by decide) (by decide) ⟨N + 1, fun j => if j = N then n else ro j, fun j => if j = N then -1 else sn j, ⟨by rw [c73]; exact a4, by omega⟩, ⟨b4, by omega⟩, fun j hj => ?_, fun j hj => ?_, fun j hj => ?_, fun j hj => ?_⟩), fun hne => absurd (by rw [a1, b1]) hne⟩
      all_goals dsimp only
      all_goals by_cases hjN : j = N
      · rw [if_pos hjN, c74, hjN, a6]; exact ⟨en, hn⟩
      · rw [if_neg hjN, c74, (a5 j hjN).1]; exact t1 j (by omega)
      · rw [if_pos hjN, hjN, b6]; exact ⟨en, hn⟩
      · rw [if_neg hjN, (b5 j hjN).1, c143]; exact t2 j (by omega)
      · rw [if_pos hjN, c75, hjN, a7]; exact ⟨rfl, Or.inl rfl⟩
      · rw [if_neg hjN, c75, (a5 j hjN).2]; exact s1 j (by omega)
      · rw [if_pos hjN, hjN, b7]; exact ⟨rfl, Or.inl rfl⟩
      · rw [if_neg hjN, (b5 j hjN).2, c144]; exact s2 j (by omega)
  · rw [if_neg h] at hJ hJ2
    exact ⟨fun _ => k J2 L (by rw [hJ2.2, hJ.2]; exact hI), fun hne => absurd (by rw [hJ.1, hJ2.1]) hne⟩
theorem lw1106 : lwC 1106 := by
  intro zn d post x3 I L hv hI k
  obtain ⟨N, ro, sn, n1, n2, t1, t2, s1, s2⟩ := Inv_tr hI
  refine gL_law_1106 x3 I L ⟨hv.1, hv.2.1, N, n1, fun J v hJ => ?_⟩
  generalize (x3 + (1 : Int32)).toNatClampNeg = i at hJ ⊢
  generalize (x3 + (2 : Int32)).toNatClampNeg = i2 at hJ ⊢
  unfold seeU at hJ
  have hJd : df [75] [] I J := by
    by_cases h : (0 ≤ I 0 i ∧ I 0 i < nI N) ∧ (I 0 i2 = -1 ∨ I 0 i2 &&& (-524225) = 0)
    · rw [if_pos h] at hJ; exact hJ.2 ▸ df_zi (by decide)
    · rw [if_neg h] at hJ; exact df_sub (df_e hJ.2) (by decide) (by decide)
  have e0 := df_0 hJd (by decide)
  refine ⟨N, by rw [hJd.2 33 (by decide)]; exact n2, fun J2 v2 hJ2 => ?_⟩
  unfold seeU at hJ2
  rw [e0] at hJ2
  by_cases h : (0 ≤ I 0 i ∧ I 0 i < nI N) ∧ (I 0 i2 = -1 ∨ I 0 i2 &&& (-524225) = 0)
  · rw [if_pos h] at hJ hJ2
    have hd : df ([75] ++ [144]) ([] ++ []) I J2 := df_t hJd (hJ2.2 ▸ df_zi (by decide))
    obtain ⟨n, en, -, hn, tn1, -⟩ := nm_of (a := 0) (b := N) (by omega) (by decide) h.1
    rw [tn1] at hJ hJ2
    have ok : I 0 i2 = -1 ∨ ∃ F, I 0 i2 = nI F ∧ okF F := h.2.elim Or.inl (fun z => by
      obtain ⟨e, e1, e2, e3⟩ := end_nI.mp z
      exact Or.inr ⟨e, e1, e2, e3⟩)
    have c75 : ∀ j, J2 75 j = if j = n then I 0 i2 else I 75 j := fun j => by
      rw [hJ2.2, zi_ne (by decide), hJ.2, zi_at]
      by_cases hj : j = n
      · rw [if_pos ⟨rfl, hj⟩, if_pos hj]
      · rw [if_neg (fun z => hj z.2), if_neg hj]
    have c144 : ∀ j, J2 144 j = if j = n then I 0 i2 else I 144 j := fun j => by
      rw [hJ2.2, zi_at]
      by_cases hj : j = n
      · rw [if_pos ⟨rfl, hj⟩, if_pos hj]
      · rw [if_neg (fun z => hj z.2), if_neg hj, hJ.2, zi_ne (by decide)]
    have ev : v = v2 := by rw [hJ.1, hJ2.1, hJ.2, zi_ne (by decide), (s1 n hn).1, (s2 n hn).1]
    refine ⟨fun _ => k J2 L (Inv_tr1 hI hd (by decide) (by decide) ⟨N, ro, fun j => if j = n then I 0 i2 else sn j, by rw [hd.1 73 (by decide) (by decide)]; exact n1, by rw [hd.2 33 (by decide)]; exact n2, fun j hj => by rw [hd.1 74 (by decide) (by decide)]; exact t1 j hj, fun j hj => by rw [hd.1 143 (by decide) (by decide)]; exact t2 j hj, fun j hj => ?_, fun j hj => ?_⟩), fun hne => absurd ev hne⟩
    all_goals dsimp only
    · rw [c75]
      by_cases hjn : j = n
      · rw [if_pos hjn, if_pos hjn]; exact ⟨rfl, ok⟩
      · rw [if_neg hjn, if_neg hjn]; exact s1 j hj
    · rw [c144]
      by_cases hjn : j = n
      · rw [if_pos hjn, if_pos hjn]; exact ⟨rfl, ok⟩
      · rw [if_neg hjn, if_neg hjn]; exact s2 j hj
  · rw [if_neg h] at hJ hJ2
    exact ⟨fun _ => k J2 L (by rw [hJ2.2, hJ.2]; exact hI), fun hne => absurd (by rw [hJ.1, hJ2.1]) hne⟩

