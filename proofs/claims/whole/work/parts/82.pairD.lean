/-! GATE, RULE, STATE -/
theorem two_zi {I J J2 : Nat → Nat → Int32} {c e i : Nat} {z : Int32} (hce : c ≠ e) (h1 : J = zi I c i z) (h2 : J2 = zi J e i z) : (∀ j, J2 c j = if j = i then z else I c j) ∧ ∀ j, J2 e j = if j = i then z else I e j := by
  refine ⟨fun j => ?_, fun j => ?_⟩
  · rw [h2, zi_ne hce, h1, zi_at]
    by_cases hj : j = i
    · rw [if_pos ⟨rfl, hj⟩, if_pos hj]
    · rw [if_neg (fun y => hj y.2), if_neg hj]
  · rw [h2, zi_at]
    by_cases hj : j = i
    · rw [if_pos ⟨rfl, hj⟩, if_pos hj]
    · rw [if_neg (fun y => hj y.2), if_neg hj, h1, zi_ne (Ne.symm hce)]
theorem lw645 : lwC 645 := by
  intro zn d post x3 I L hv hI k
  obtain ⟨⟨p, p1, p2⟩, g2, g3⟩ := hI.2.2.2.2.2.1
  refine gL_law_645 x3 I L ⟨hv.1, hv.2.1, hv.2.2.1, fun J v hJ J2 v2 hJ2 => ?_⟩
  generalize (x3 + (1 : Int32)).toNatClampNeg = i at hJ hJ2 ⊢
  generalize (x3 + (2 : Int32)).toNatClampNeg = i2 at hJ hJ2 ⊢
  generalize (x3 + (3 : Int32)).toNatClampNeg = i3 at hJ hJ2 ⊢
  by_cases h : gatOk (I 0 i) (I 0 i2) (I 0 i3)
  · have hJ := hJ.1 h
    have hn : tn (I 0 i) < 7 := tn_lt (b := 7) (by decide) h.1
    by_cases hy : I 0 i2 = 0
    · rw [if_pos hy] at hJ
      have e0 : J 0 = I 0 := by rw [hJ.2, zi_ne (by decide)]
      have hJ2 := hJ2.1 (by rw [e0]; exact h)
      rw [e0, if_pos hy] at hJ2
      have t := two_zi (by decide) hJ.2 hJ2.2
      have hd : df ([56] ++ [127]) ([] ++ []) I J2 := df_t (hJ.2 ▸ df_zi (by decide)) (hJ2.2 ▸ df_zi (by decide))
      obtain ⟨h1, h2⟩ := h.2.2
      rw [if_pos hy] at h2
      obtain ⟨n, en, -, hn2, -⟩ := nm_of (a := 0) (b := 101) (by decide) (by decide) ((le256 (b := 100) (by decide)).mp ⟨Int32.le_trans (by decide) h1, h2⟩)
      have ev : v = v2 := by rw [hJ.1, hJ2.1, hJ.2, zi_ne (by decide), (p1 _ hn).1, (p2 _ hn).1]
      refine ⟨fun _ => k J2 L (Inv_gt1 hI hd (by decide) (by decide) ⟨⟨fun j => if j = tn (I 0 i) then n else p j, fun j hj => ?_, fun j hj => ?_⟩, by rw [hd.1 57 (by decide) (by decide), hd.1 128 (by decide) (by decide)]; exact g2, by rw [hd.1 58 (by decide) (by decide), hd.1 129 (by decide) (by decide)]; exact g3⟩), fun hne => absurd ev hne⟩
      · dsimp only
        rw [t.1]
        by_cases hjn : j = tn (I 0 i)
        · rw [if_pos hjn, if_pos hjn]; exact ⟨en, by omega⟩
        · rw [if_neg hjn, if_neg hjn]; exact p1 j hj
      · dsimp only
        rw [t.2]
        by_cases hjn : j = tn (I 0 i)
        · rw [if_pos hjn, if_pos hjn]; exact ⟨en, by omega⟩
        · rw [if_neg hjn, if_neg hjn]; exact p2 j hj
    · rw [if_neg hy] at hJ
      have e0 : J 0 = I 0 := by rw [hJ.2, zi_ne (by decide)]
      have hJ2 := hJ2.1 (by rw [e0]; exact h)
      rw [e0, if_neg hy] at hJ2
      have t := two_zi (by decide) hJ.2 hJ2.2
      have hd : df ([57] ++ [128]) ([] ++ []) I J2 := df_t (hJ.2 ▸ df_zi (by decide)) (hJ2.2 ▸ df_zi (by decide))
      have ev : v = v2 := by rw [hJ.1, hJ2.1, hJ.2, zi_ne (by decide), g2 _ hn]
      refine ⟨fun _ => k J2 L (Inv_gt1 hI hd (by decide) (by decide) ⟨⟨p, fun j hj => by rw [hd.1 56 (by decide) (by decide)]; exact p1 j hj, fun j hj => by rw [hd.1 127 (by decide) (by decide)]; exact p2 j hj⟩, fun j hj => ?_, by rw [hd.1 58 (by decide) (by decide), hd.1 129 (by decide) (by decide)]; exact g3⟩), fun hne => absurd ev hne⟩
      rw [t.1, t.2, g2 j hj]
  · have hJ := hJ.2 h
    have e0 : J 0 = I 0 := by rw [hJ.2]
    have hJ2 := hJ2.2 (by rw [e0]; exact h)
    exact ⟨fun _ => k J2 L (by rw [hJ2.2, hJ.2]; exact hI), fun hne => absurd (by rw [hJ.1, hJ2.1]) hne⟩
theorem lw688 : lwC 688 := by
  intro zn d post x3 I L hv hI k
  obtain ⟨⟨p, p1, p2⟩, g2, g3⟩ := hI.2.2.2.2.2.1
  refine gL_law_688 x3 I L ⟨hv.1, hv.2.1, hI.2.2.2.2.2.2.1.1, fun J v hJ J2 v2 hJ2 => ?_⟩
  generalize (x3 + (1 : Int32)).toNatClampNeg = i at hJ hJ2 ⊢
  generalize (x3 + (2 : Int32)).toNatClampNeg = i2 at hJ hJ2 ⊢
  unfold rulU at hJ hJ2
  by_cases h : rulOk (I 0 i) (I 0 i2)
  · rw [if_pos h] at hJ
    have e0 : J 0 = I 0 := by rw [hJ.2, zi_ne (by decide)]
    rw [e0, if_pos h] at hJ2
    have hn : tn (I 0 i) < 5 := tn_lt (b := 5) (by decide) h.1
    have t := two_zi (by decide) hJ.2 hJ2.2
    have hd : df ([58] ++ [129]) ([] ++ []) I J2 := df_t (hJ.2 ▸ df_zi (by decide)) (hJ2.2 ▸ df_zi (by decide))
    have ev : v = v2 := by rw [hJ.1, hJ2.1, hJ.2, zi_ne (by decide), g3 _ hn]
    refine ⟨fun _ => k J2 L (Inv_gt1 hI hd (by decide) (by decide) ⟨⟨p, fun j hj => by rw [hd.1 56 (by decide) (by decide)]; exact p1 j hj, fun j hj => by rw [hd.1 127 (by decide) (by decide)]; exact p2 j hj⟩, by rw [hd.1 57 (by decide) (by decide), hd.1 128 (by decide) (by decide)]; exact g2, fun j hj => ?_⟩), fun hne => absurd ev hne⟩
    rw [t.1, t.2, g3 j hj]
  · rw [if_neg h] at hJ
    have e0 : J 0 = I 0 := by rw [hJ.2]
    rw [e0, if_neg h] at hJ2
    exact ⟨fun _ => k J2 L (by rw [hJ2.2, hJ.2]; exact hI), fun hne => absurd (by rw [hJ.1, hJ2.1]) hne⟩
theorem Inv_f {I : Nat → Nat → Int32} {L : Nat → Nat → Int64} (h : Inv I L) : ∃ f : Nat → Nat, (∀ r, r < 4 → f r ≤ 2 ∧ I 124 r = nI (f r)) ∧ I 34 2 = nI (pkf f) := by
  obtain ⟨f, f1, f2⟩ := h.2.2.2.1.1
  refine ⟨f, fun r hr => ⟨(f1 r hr).1, ?_⟩, f2⟩
  have := (f1 r hr).2
  rwa [Nat.mul_zero, Nat.zero_add] at this
theorem Inv_st1 {S Z : List Nat} {I J : Nat → Nat → Int32} {L : Nat → Nat → Int64} (hI : Inv I L) (hd : df S Z I J) (hs : ∀ c ∈ S, c ∈ [34, 35, 36, 124, 130, 131, 132]) (hz : ∀ c ∈ Z, c ∈ [12]) (h4 : ∀ s, 4 ≤ s → J 124 s = I 124 s) (hf : ∃ f : Nat → Nat, (∀ r, r < 4 → f r ≤ 2 ∧ J 124 r = nI (f r)) ∧ J 34 2 = nI (pkf f)) (hl : iLs J) : Inv J L := by
  obtain ⟨tx, ⟨v0, v1⟩, kp, st, ls, gt, cn, fl, tr, ln, m4⟩ := hI
  replace hd := df_sub (S' := [34, 35, 36, 124, 130, 131, 132]) (Z' := [12]) hd hs hz
  have e5 := hd.1 5 (by decide) (by decide)
  refine ⟨iTx_d hd (by decide) tx, ⟨vp_d hd (by decide) (by decide) (rvM_d hd (by decide) 0) v0, vp_d hd (by decide) (by decide) (rvM_d hd (by decide) 1) v1⟩, iKp_d hd (by decide) (by rw [e5]) (by decide) (fun u _ _ => rvM_d hd (by decide) u) (fun u h1 _ => ⟨fun r _ => h4 _ (by omega), by rw [hd.1 125 (by decide) (by decide)], by rw [hd.1 126 (by decide) (by decide)]⟩) kp, ?_, hl, iGt_d hd (by decide) gt, iCn_d hd (by decide) cn, iFl_d hd (by decide) (by decide) fl, iTr_d hd (by decide) (by decide) tr, ln, by rw [hd.2 18 (by decide)]; exact m4⟩
  obtain ⟨f, f1, f2⟩ := hf
  refine ⟨⟨f, fun r hr => ?_, f2⟩, ?_, ?_⟩
  · rw [Nat.mul_zero, Nat.zero_add]; exact f1 r hr
  · rw [e5, hd.1 125 (by decide) (by decide)]; exact st.2.1
  · rw [e5, hd.1 126 (by decide) (by decide)]; exact st.2.2
theorem lw418 : lwC 418 := by
  intro zn d post x3 I L hv hI k
  obtain ⟨f, f1, f2⟩ := Inv_f hI
  have ls := hI.2.2.2.2.1
  refine gL_law_418 x3 I L ⟨hv.1, fun J v hJ => ?_⟩
  generalize (x3 + (1 : Int32)).toNatClampNeg = i at hJ ⊢
  have hJd : df [34] [] I J := by
    by_cases h : okSt (I 0 i)
    · rw [if_pos h] at hJ; exact hJ.2 ▸ df_zi (by decide)
    · rw [if_neg h] at hJ; exact df_sub (df_e hJ.2) (by decide) (by decide)
  have e0 := df_0 hJd (by decide)
  refine ⟨f, fun r hr => by rw [hJd.1 124 (by decide) (by decide)]; exact f1 r hr, fun J2 v2 hJ2 => ?_⟩
  rw [e0] at hJ2
  by_cases h : okSt (I 0 i)
  · rw [if_pos h] at hJ hJ2
    obtain ⟨b1, b2, b3, b4⟩ := hJ2
    have hd : df ([34] ++ [124]) ([] ++ []) I J2 := df_t hJd (df_fr b2 (by decide))
    obtain ⟨n, en, -, hn, tn1, -⟩ := nm_of (a := 0) (b := 256) (by decide) (by decide) h.1
    rw [tn1] at b4
    have h2 := h.2
    rw [tn1] at h2
    refine ⟨fun _ => k J2 L (Inv_st1 hI hd (by decide) (by decide) (fun s hs => by rw [b3 s hs, hJd.1 124 (by decide) (by decide)]) ⟨vr n, fun r hr => ⟨okT_le h2 r hr, b4 r hr⟩, ?_⟩ (iLs_d hd (by decide) ?_ (by decide) ls)), fun hne => absurd ?_ hne⟩
    · rw [b2 34 (by decide), hJ.2, zi_at, if_pos ⟨rfl, rfl⟩, vr_pk n hn, en]
    · rw [b2 34 (by decide), hJ.2, zi_at, if_neg (by decide)]
    · rw [hJ.1, b1, f2]
  · rw [if_neg h] at hJ hJ2
    exact ⟨fun _ => k J2 L (by rw [hJ2.2, hJ.2]; exact hI), fun hne => absurd (by rw [hJ.1, hJ2.1]) hne⟩
/-! STEP -/
theorem lw441 : lwC 441 := by
  intro zn d post x3 I L hv hI k
  obtain ⟨f, f1, f2⟩ := Inv_f hI
  obtain ⟨V, os, ps, hV⟩ := Inv_V hI
  have ls := hI.2.2.2.2.1
  have w0 := hV 0 (by decide)
  refine gL_law_441 x3 I L ⟨hv.1, hv.2.1, V 0, os 0, f, cVw_ev w0.1, f2, fun r hr => (f1 r hr).1, fun J v hJ => ?_⟩
  generalize (x3 + (1 : Int32)).toNatClampNeg = i at hJ ⊢
  generalize (x3 + (2 : Int32)).toNatClampNeg = i2 at hJ ⊢
  have hJd : fr [34, 35, 36] I J := by
    by_cases h : (0 ≤ I 0 i ∧ I 0 i ≤ 63) ∧ 0 ≤ I 0 i2 ∧ I 0 i2 ≤ 63
    · rw [if_pos h] at hJ
      obtain ⟨g, -, hg⟩ := hJ
      exact hg.1
    · rw [if_neg h] at hJ; rw [hJ.2]; exact fr_rf
  have e0 := hJd 0 (by decide)
  refine ⟨V 0, ps 0, f, rVw_ev (rVw_f hJd (by decide) w0.2), fun r hr => by rw [hJd 124 (by decide)]; exact f1 r hr, by rw [hJd 115 (by decide)]; exact Inv_m4 hI, fun J2 v2 hJ2 => ?_⟩
  rw [e0] at hJ2
  by_cases h : (0 ≤ I 0 i ∧ I 0 i ≤ 63) ∧ 0 ≤ I 0 i2 ∧ I 0 i2 ≤ 63
  · rw [if_pos h] at hJ hJ2
    obtain ⟨g, gv, a1, a2, a3, a4, a5, a6, a7, a8, a9⟩ := hJ
    obtain ⟨g', gv', b1, b2, b3, b4, b5, b6, b7, b8, b9⟩ := hJ2
    have hd : df ([34, 35, 36] ++ [124, 130, 131, 132]) ([] ++ [12]) I J2 := df_t (df_fr a1 (by decide)) (df_x b1 (fun s hs => b2 s (fun z => hs (by rw [z]; decide))))
    have hV0 := w0.1.1.1
    have rel : ∀ n, n < 19 → RS (J 35 n) (J2 132 n) := by
      refine sol_rel RS_op hV0 (topc_w w0.1.2.1) a8 b8 (fun w a b _ _ hab => hab) ⟨rfl, 2, by decide, rfl⟩ (fun n hn hnn => ?_)
      refine ⟨?_, a5 n hn⟩
      by_cases h6 : n < 6
      · rw [a6 n h6, b6 n h6]
      · obtain ⟨r, rfl⟩ : ∃ r, n = 15 + r := ⟨n - 15, by omega⟩
        rw [a7 r (by omega), b7 r (by omega)]
    have eg : ∀ r, r < 4 → nI (g r) = nI (g' r) := fun r hr => by
      rw [(a9 r hr).2, (b9 r hr).2]
      cases hv : V 0 (15 + r) with
      | none => rfl
      | some ks => exact (ev_rel RS_op (hV0 _ _ hv).2.2 (fun k _ hk => rel k hk) 0 0).1
    have eg2 : ∀ r, r < 4 → g r = g' r := fun r hr => nI_inj (by have := (a9 r hr).1; omega) (by have := (b9 r hr).1; omega) (eg r hr)
    have epk : pkf g = pkf g' := by unfold pkf; rw [eg2 0 (by decide), eg2 1 (by decide), eg2 2 (by decide), eg2 3 (by decide)]
    refine ⟨fun _ => k J2 L (Inv_st1 hI hd (by decide) (by decide) (fun s hs => by rw [b4 s hs, a1 124 (by decide)]) ⟨g', fun r hr => ⟨(b9 r hr).1, b5 r hr⟩, ?_⟩ ⟨?_, fun n hn => ?_⟩), fun hne => absurd (by rw [gv, gv', epk]) hne⟩
    · rw [b1 34 (by decide), a4, epk]
    · rw [b1 34 (by decide), a3, b3, a1 115 (by decide), ls.1]
    · rw [b1 35 (by decide)]; exact (rel n hn).1
  · rw [if_neg h] at hJ hJ2
    exact ⟨fun _ => k J2 L (by rw [hJ2.2, hJ.2]; exact hI), fun hne => absurd (by rw [hJ.1, hJ2.1]) hne⟩

