/-! the constructors, by program -/
theorem nw7 {d n : Nat} {X : List zE} {I : Nat → Nat → Int32} {L : Nat → Nat → Int64} (hn : X.length = n) (h5 : 5 ≤ n) (hI : ∀ k, n ≤ k → I k = fun _ => 0) (hL : ∀ k, n ≤ k → L k = fun _ => 0) : zcal zty zcd true (d + 1) 60 [.ref n] (X ++ [(3, 7, List.replicate 2 none)], I, L) 1 200 (zpe (X ++ [(3, 7, [some (n + 1), none]), (0, 200, [])]) I L) := by
  refine zct_of (d := d + 0) zmt60 zmc60 rfl (Nat.le_of_ble_eq_true rfl) ?_
  intro P hw hc
  have hc : ∀ (pc : Nat) (t : zT), (pc, t) ∈ kX7_init → ∀ (ls : zL) (st : List Value) (u : zU), t _ _ _ P ls st u → P pc ls st u := fun pc t h => hc (pc, t) h
  show P 0 [some (.ref n)] [] (X ++ [(3, 7, [none, none])], I, L)
  refine hc _ _ tX7_init_0 _ _ _ (hc _ _ tX7_init_1 _ _ _ ⟨Nat.zero_le _, hc _ _ tX7_init_4 _ _ _ (hc _ _ tX7_init_5 _ _ _ ((hc _ _ tX7_init_8 _ _ _ (sn_I (b := 1) (m := 200) hn rfl (by decide) (by decide) rfl (ap_le1 (b := 1) rfl rfl) (ap_le2 (w := [2]) (w0 := 2) rfl rfl rfl) (hz_w (o := 0) (b := 1) hI rfl) ?_))))⟩)
  show P 10 [some (.ref n)] [.ref (n + 1), .ref n] (X ++ [(3, 7, [none, none]), (0, 200, [])], I, L)
  refine (hc _ _ tX7_init_10 _ _ _ (sp_R (i := 0) hn h5 rfl rfl ?_))
  show P 13 [some (.ref n)] [] (X ++ [(3, 7, [some (n + 1), none]), (0, 200, [])], I, L)
  refine hc _ _ tX7_init_13 _ _ _ (hc _ _ tX7_init_14 _ _ _ ((hc _ _ tX7_init_15 _ _ _ (sp_0 (i := 0) hn h5 rfl (congrFun (hI (n + 0) (Nat.le_add_right _ _)) 1) ?_))))
  show P 18 [some (.ref n)] [] (X ++ [(3, 7, [some (n + 1), none]), (0, 200, [])], I, L)
  exact (hc _ _ tX7_init_18 _ _ _ (sr_E (sr_l (b := 2) rfl rfl) (sr_c (w := [2, 200]) (w0 := 2) rfl rfl rfl)))
theorem nw10 {d n : Nat} {X : List zE} {I : Nat → Nat → Int32} {L : Nat → Nat → Int64} (hn : X.length = n) (h5 : 5 ≤ n) (hI : ∀ k, n ≤ k → I k = fun _ => 0) (hL : ∀ k, n ≤ k → L k = fun _ => 0) : zcal zty zcd true (d + 1) 80 [.ref n] (X ++ [(3, 10, List.replicate 8 none)], I, L) 6 289 (zpe (X ++ [(3, 10, [some (n + 1), some (n + 2), some (n + 3), some (n + 4), some (n + 5), some (n + 6), none, none]), (0, 200, []), (0, 19, []), (0, 19, []), (0, 19, []), (0, 19, []), (0, 13, [])]) I L) := by
  refine zct_of (d := d + 0) zmt80 zmc80 rfl (Nat.le_of_ble_eq_true rfl) ?_
  intro P hw hc
  have hc : ∀ (pc : Nat) (t : zT), (pc, t) ∈ kX10_init → ∀ (ls : zL) (st : List Value) (u : zU), t _ _ _ P ls st u → P pc ls st u := fun pc t h => hc (pc, t) h
  show P 0 [some (.ref n)] [] (X ++ [(3, 10, [none, none, none, none, none, none, none, none])], I, L)
  refine hc _ _ tX10_init_0 _ _ _ (hc _ _ tX10_init_1 _ _ _ ⟨Nat.zero_le _, hc _ _ tX10_init_4 _ _ _ (hc _ _ tX10_init_5 _ _ _ ((hc _ _ tX10_init_8 _ _ _ (sn_I (b := 1) (m := 200) hn rfl (by decide) (by decide) rfl (ap_le1 (b := 1) rfl rfl) (ap_le2 (w := [8]) (w0 := 8) rfl rfl rfl) (hz_w (o := 0) (b := 1) hI rfl) ?_))))⟩)
  show P 10 [some (.ref n)] [.ref (n + 1), .ref n] (X ++ [(3, 10, [none, none, none, none, none, none, none, none]), (0, 200, [])], I, L)
  refine (hc _ _ tX10_init_10 _ _ _ (sp_R (i := 0) hn h5 rfl rfl ?_))
  show P 13 [some (.ref n)] [] (X ++ [(3, 10, [some (n + 1), none, none, none, none, none, none, none]), (0, 200, [])], I, L)
  refine hc _ _ tX10_init_13 _ _ _ (hc _ _ tX10_init_14 _ _ _ ((hc _ _ tX10_init_16 _ _ _ (sn_I (b := 2) (m := 19) hn rfl (by decide) (by decide) rfl (ap_le1 (b := 2) rfl rfl) (ap_le2 (w := [8, 200]) (w0 := 8) rfl rfl rfl) (hz_w (o := 0) (b := 2) hI rfl) ?_))))
  show P 18 [some (.ref n)] [.ref (n + 2), .ref n] (X ++ [(3, 10, [some (n + 1), none, none, none, none, none, none, none]), (0, 200, []), (0, 19, [])], I, L)
  refine (hc _ _ tX10_init_18 _ _ _ (sp_R (i := 0) hn h5 rfl rfl ?_))
  show P 21 [some (.ref n)] [] (X ++ [(3, 10, [some (n + 1), some (n + 2), none, none, none, none, none, none]), (0, 200, []), (0, 19, [])], I, L)
  refine hc _ _ tX10_init_21 _ _ _ (hc _ _ tX10_init_22 _ _ _ ((hc _ _ tX10_init_24 _ _ _ (sn_I (b := 3) (m := 19) hn rfl (by decide) (by decide) rfl (ap_le1 (b := 3) rfl rfl) (ap_le2 (w := [8, 200, 19]) (w0 := 8) rfl rfl rfl) (hz_w (o := 0) (b := 3) hI rfl) ?_))))
  show P 26 [some (.ref n)] [.ref (n + 3), .ref n] (X ++ [(3, 10, [some (n + 1), some (n + 2), none, none, none, none, none, none]), (0, 200, []), (0, 19, []), (0, 19, [])], I, L)
  refine (hc _ _ tX10_init_26 _ _ _ (sp_R (i := 0) hn h5 rfl rfl ?_))
  show P 29 [some (.ref n)] [] (X ++ [(3, 10, [some (n + 1), some (n + 2), some (n + 3), none, none, none, none, none]), (0, 200, []), (0, 19, []), (0, 19, [])], I, L)
  refine hc _ _ tX10_init_29 _ _ _ (hc _ _ tX10_init_30 _ _ _ ((hc _ _ tX10_init_32 _ _ _ (sn_I (b := 4) (m := 19) hn rfl (by decide) (by decide) rfl (ap_le1 (b := 4) rfl rfl) (ap_le2 (w := [8, 200, 19, 19]) (w0 := 8) rfl rfl rfl) (hz_w (o := 0) (b := 4) hI rfl) ?_))))
  show P 34 [some (.ref n)] [.ref (n + 4), .ref n] (X ++ [(3, 10, [some (n + 1), some (n + 2), some (n + 3), none, none, none, none, none]), (0, 200, []), (0, 19, []), (0, 19, []), (0, 19, [])], I, L)
  refine (hc _ _ tX10_init_34 _ _ _ (sp_R (i := 0) hn h5 rfl rfl ?_))
  show P 37 [some (.ref n)] [] (X ++ [(3, 10, [some (n + 1), some (n + 2), some (n + 3), some (n + 4), none, none, none, none]), (0, 200, []), (0, 19, []), (0, 19, []), (0, 19, [])], I, L)
  refine hc _ _ tX10_init_37 _ _ _ (hc _ _ tX10_init_38 _ _ _ ((hc _ _ tX10_init_40 _ _ _ (sn_I (b := 5) (m := 19) hn rfl (by decide) (by decide) rfl (ap_le1 (b := 5) rfl rfl) (ap_le2 (w := [8, 200, 19, 19, 19]) (w0 := 8) rfl rfl rfl) (hz_w (o := 0) (b := 5) hI rfl) ?_))))
  show P 42 [some (.ref n)] [.ref (n + 5), .ref n] (X ++ [(3, 10, [some (n + 1), some (n + 2), some (n + 3), some (n + 4), none, none, none, none]), (0, 200, []), (0, 19, []), (0, 19, []), (0, 19, []), (0, 19, [])], I, L)
  refine (hc _ _ tX10_init_42 _ _ _ (sp_R (i := 0) hn h5 rfl rfl ?_))
  show P 45 [some (.ref n)] [] (X ++ [(3, 10, [some (n + 1), some (n + 2), some (n + 3), some (n + 4), some (n + 5), none, none, none]), (0, 200, []), (0, 19, []), (0, 19, []), (0, 19, []), (0, 19, [])], I, L)
  refine hc _ _ tX10_init_45 _ _ _ (hc _ _ tX10_init_46 _ _ _ ((hc _ _ tX10_init_48 _ _ _ (sn_I (b := 6) (m := 13) hn rfl (by decide) (by decide) rfl (ap_le1 (b := 6) rfl rfl) (ap_le2 (w := [8, 200, 19, 19, 19, 19]) (w0 := 8) rfl rfl rfl) (hz_w (o := 0) (b := 6) hI rfl) ?_))))
  show P 50 [some (.ref n)] [.ref (n + 6), .ref n] (X ++ [(3, 10, [some (n + 1), some (n + 2), some (n + 3), some (n + 4), some (n + 5), none, none, none]), (0, 200, []), (0, 19, []), (0, 19, []), (0, 19, []), (0, 19, []), (0, 13, [])], I, L)
  refine (hc _ _ tX10_init_50 _ _ _ (sp_R (i := 0) hn h5 rfl rfl ?_))
  show P 53 [some (.ref n)] [] (X ++ [(3, 10, [some (n + 1), some (n + 2), some (n + 3), some (n + 4), some (n + 5), some (n + 6), none, none]), (0, 200, []), (0, 19, []), (0, 19, []), (0, 19, []), (0, 19, []), (0, 13, [])], I, L)
  refine hc _ _ tX10_init_53 _ _ _ (hc _ _ tX10_init_54 _ _ _ ((hc _ _ tX10_init_55 _ _ _ (sp_0 (i := 0) hn h5 rfl (congrFun (hI (n + 0) (Nat.le_add_right _ _)) 6) ?_))))
  show P 58 [some (.ref n)] [] (X ++ [(3, 10, [some (n + 1), some (n + 2), some (n + 3), some (n + 4), some (n + 5), some (n + 6), none, none]), (0, 200, []), (0, 19, []), (0, 19, []), (0, 19, []), (0, 19, []), (0, 13, [])], I, L)
  refine hc _ _ tX10_init_58 _ _ _ (hc _ _ tX10_init_59 _ _ _ ((hc _ _ tX10_init_60 _ _ _ (sp_0 (i := 0) hn h5 rfl (congrFun (hI (n + 0) (Nat.le_add_right _ _)) 7) ?_))))
  show P 63 [some (.ref n)] [] (X ++ [(3, 10, [some (n + 1), some (n + 2), some (n + 3), some (n + 4), some (n + 5), some (n + 6), none, none]), (0, 200, []), (0, 19, []), (0, 19, []), (0, 19, []), (0, 19, []), (0, 13, [])], I, L)
  exact (hc _ _ tX10_init_63 _ _ _ (sr_E (sr_l (b := 7) rfl rfl) (sr_c (w := [8, 200, 19, 19, 19, 19, 13]) (w0 := 8) rfl rfl rfl)))
theorem nw4 {d n : Nat} {X : List zE} {I : Nat → Nat → Int32} {L : Nat → Nat → Int64} (hn : X.length = n) (h5 : 5 ≤ n) (hI : ∀ k, n ≤ k → I k = fun _ => 0) (hL : ∀ k, n ≤ k → L k = fun _ => 0) : zcal zty zcd true (d + 1) 29 [.ref n] (X ++ [(3, 4, List.replicate 5 none)], I, L) 5 94 (zpe (X ++ [(3, 4, [some (n + 1), some (n + 2), some (n + 3), some (n + 4), some (n + 5)]), (1, 19, []), (1, 19, []), (1, 19, []), (1, 19, []), (1, 18, [])]) I L) := by
  refine zct_of (d := d + 0) zmt29 zmc29 rfl (Nat.le_of_ble_eq_true rfl) ?_
  intro P hw hc
  have hc : ∀ (pc : Nat) (t : zT), (pc, t) ∈ kX4_init → ∀ (ls : zL) (st : List Value) (u : zU), t _ _ _ P ls st u → P pc ls st u := fun pc t h => hc (pc, t) h
  show P 0 [some (.ref n)] [] (X ++ [(3, 4, [none, none, none, none, none])], I, L)
  refine hc _ _ tX4_init_0 _ _ _ (hc _ _ tX4_init_1 _ _ _ ⟨Nat.zero_le _, hc _ _ tX4_init_4 _ _ _ (hc _ _ tX4_init_5 _ _ _ ((hc _ _ tX4_init_7 _ _ _ (sn_J (b := 1) (m := 19) hn rfl (by decide) (by decide) rfl (ap_le1 (b := 1) rfl rfl) (ap_le2 (w := [5]) (w0 := 5) rfl rfl rfl) (hz_w (o := 0) (b := 1) hL rfl) ?_))))⟩)
  show P 9 [some (.ref n)] [.ref (n + 1), .ref n] (X ++ [(3, 4, [none, none, none, none, none]), (1, 19, [])], I, L)
  refine (hc _ _ tX4_init_9 _ _ _ (sp_R (i := 0) hn h5 rfl rfl ?_))
  show P 12 [some (.ref n)] [] (X ++ [(3, 4, [some (n + 1), none, none, none, none]), (1, 19, [])], I, L)
  refine hc _ _ tX4_init_12 _ _ _ (hc _ _ tX4_init_13 _ _ _ ((hc _ _ tX4_init_15 _ _ _ (sn_J (b := 2) (m := 19) hn rfl (by decide) (by decide) rfl (ap_le1 (b := 2) rfl rfl) (ap_le2 (w := [5, 19]) (w0 := 5) rfl rfl rfl) (hz_w (o := 0) (b := 2) hL rfl) ?_))))
  show P 17 [some (.ref n)] [.ref (n + 2), .ref n] (X ++ [(3, 4, [some (n + 1), none, none, none, none]), (1, 19, []), (1, 19, [])], I, L)
  refine (hc _ _ tX4_init_17 _ _ _ (sp_R (i := 0) hn h5 rfl rfl ?_))
  show P 20 [some (.ref n)] [] (X ++ [(3, 4, [some (n + 1), some (n + 2), none, none, none]), (1, 19, []), (1, 19, [])], I, L)
  refine hc _ _ tX4_init_20 _ _ _ (hc _ _ tX4_init_21 _ _ _ ((hc _ _ tX4_init_23 _ _ _ (sn_J (b := 3) (m := 19) hn rfl (by decide) (by decide) rfl (ap_le1 (b := 3) rfl rfl) (ap_le2 (w := [5, 19, 19]) (w0 := 5) rfl rfl rfl) (hz_w (o := 0) (b := 3) hL rfl) ?_))))
  show P 25 [some (.ref n)] [.ref (n + 3), .ref n] (X ++ [(3, 4, [some (n + 1), some (n + 2), none, none, none]), (1, 19, []), (1, 19, []), (1, 19, [])], I, L)
  refine (hc _ _ tX4_init_25 _ _ _ (sp_R (i := 0) hn h5 rfl rfl ?_))
  show P 28 [some (.ref n)] [] (X ++ [(3, 4, [some (n + 1), some (n + 2), some (n + 3), none, none]), (1, 19, []), (1, 19, []), (1, 19, [])], I, L)
  refine hc _ _ tX4_init_28 _ _ _ (hc _ _ tX4_init_29 _ _ _ ((hc _ _ tX4_init_31 _ _ _ (sn_J (b := 4) (m := 19) hn rfl (by decide) (by decide) rfl (ap_le1 (b := 4) rfl rfl) (ap_le2 (w := [5, 19, 19, 19]) (w0 := 5) rfl rfl rfl) (hz_w (o := 0) (b := 4) hL rfl) ?_))))
  show P 33 [some (.ref n)] [.ref (n + 4), .ref n] (X ++ [(3, 4, [some (n + 1), some (n + 2), some (n + 3), none, none]), (1, 19, []), (1, 19, []), (1, 19, []), (1, 19, [])], I, L)
  refine (hc _ _ tX4_init_33 _ _ _ (sp_R (i := 0) hn h5 rfl rfl ?_))
  show P 36 [some (.ref n)] [] (X ++ [(3, 4, [some (n + 1), some (n + 2), some (n + 3), some (n + 4), none]), (1, 19, []), (1, 19, []), (1, 19, []), (1, 19, [])], I, L)
  refine hc _ _ tX4_init_36 _ _ _ (hc _ _ tX4_init_37 _ _ _ ((hc _ _ tX4_init_39 _ _ _ (sn_J (b := 5) (m := 18) hn rfl (by decide) (by decide) rfl (ap_le1 (b := 5) rfl rfl) (ap_le2 (w := [5, 19, 19, 19, 19]) (w0 := 5) rfl rfl rfl) (hz_w (o := 0) (b := 5) hL rfl) ?_))))
  show P 41 [some (.ref n)] [.ref (n + 5), .ref n] (X ++ [(3, 4, [some (n + 1), some (n + 2), some (n + 3), some (n + 4), none]), (1, 19, []), (1, 19, []), (1, 19, []), (1, 19, []), (1, 18, [])], I, L)
  refine (hc _ _ tX4_init_41 _ _ _ (sp_R (i := 0) hn h5 rfl rfl ?_))
  show P 44 [some (.ref n)] [] (X ++ [(3, 4, [some (n + 1), some (n + 2), some (n + 3), some (n + 4), some (n + 5)]), (1, 19, []), (1, 19, []), (1, 19, []), (1, 19, []), (1, 18, [])], I, L)
  exact (hc _ _ tX4_init_44 _ _ _ (sr_E (sr_l (b := 6) rfl rfl) (sr_c (w := [5, 19, 19, 19, 19, 18]) (w0 := 5) rfl rfl rfl)))
theorem nw8 {d n : Nat} {X : List zE} {I : Nat → Nat → Int32} {L : Nat → Nat → Int64} (hn : X.length = n) (h5 : 5 ≤ n) (hI : ∀ k, n ≤ k → I k = fun _ => 0) (hL : ∀ k, n ≤ k → L k = fun _ => 0) : zcal zty zcd true (d + 1) 62 [.ref n] (X ++ [(3, 8, List.replicate 4 none)], I, L) 4 74 (zpe (X ++ [(3, 8, [some (n + 1), some (n + 2), some (n + 3), some (n + 4)]), (0, 19, []), (0, 19, []), (0, 18, []), (0, 18, [])]) I L) := by
  refine zct_of (d := d + 0) zmt62 zmc62 rfl (Nat.le_of_ble_eq_true rfl) ?_
  intro P hw hc
  have hc : ∀ (pc : Nat) (t : zT), (pc, t) ∈ kX8_init → ∀ (ls : zL) (st : List Value) (u : zU), t _ _ _ P ls st u → P pc ls st u := fun pc t h => hc (pc, t) h
  show P 0 [some (.ref n)] [] (X ++ [(3, 8, [none, none, none, none])], I, L)
  refine hc _ _ tX8_init_0 _ _ _ (hc _ _ tX8_init_1 _ _ _ ⟨Nat.zero_le _, hc _ _ tX8_init_4 _ _ _ (hc _ _ tX8_init_5 _ _ _ ((hc _ _ tX8_init_7 _ _ _ (sn_I (b := 1) (m := 19) hn rfl (by decide) (by decide) rfl (ap_le1 (b := 1) rfl rfl) (ap_le2 (w := [4]) (w0 := 4) rfl rfl rfl) (hz_w (o := 0) (b := 1) hI rfl) ?_))))⟩)
  show P 9 [some (.ref n)] [.ref (n + 1), .ref n] (X ++ [(3, 8, [none, none, none, none]), (0, 19, [])], I, L)
  refine (hc _ _ tX8_init_9 _ _ _ (sp_R (i := 0) hn h5 rfl rfl ?_))
  show P 12 [some (.ref n)] [] (X ++ [(3, 8, [some (n + 1), none, none, none]), (0, 19, [])], I, L)
  refine hc _ _ tX8_init_12 _ _ _ (hc _ _ tX8_init_13 _ _ _ ((hc _ _ tX8_init_15 _ _ _ (sn_I (b := 2) (m := 19) hn rfl (by decide) (by decide) rfl (ap_le1 (b := 2) rfl rfl) (ap_le2 (w := [4, 19]) (w0 := 4) rfl rfl rfl) (hz_w (o := 0) (b := 2) hI rfl) ?_))))
  show P 17 [some (.ref n)] [.ref (n + 2), .ref n] (X ++ [(3, 8, [some (n + 1), none, none, none]), (0, 19, []), (0, 19, [])], I, L)
  refine (hc _ _ tX8_init_17 _ _ _ (sp_R (i := 0) hn h5 rfl rfl ?_))
  show P 20 [some (.ref n)] [] (X ++ [(3, 8, [some (n + 1), some (n + 2), none, none]), (0, 19, []), (0, 19, [])], I, L)
  refine hc _ _ tX8_init_20 _ _ _ (hc _ _ tX8_init_21 _ _ _ ((hc _ _ tX8_init_23 _ _ _ (sn_I (b := 3) (m := 18) hn rfl (by decide) (by decide) rfl (ap_le1 (b := 3) rfl rfl) (ap_le2 (w := [4, 19, 19]) (w0 := 4) rfl rfl rfl) (hz_w (o := 0) (b := 3) hI rfl) ?_))))
  show P 25 [some (.ref n)] [.ref (n + 3), .ref n] (X ++ [(3, 8, [some (n + 1), some (n + 2), none, none]), (0, 19, []), (0, 19, []), (0, 18, [])], I, L)
  refine (hc _ _ tX8_init_25 _ _ _ (sp_R (i := 0) hn h5 rfl rfl ?_))
  show P 28 [some (.ref n)] [] (X ++ [(3, 8, [some (n + 1), some (n + 2), some (n + 3), none]), (0, 19, []), (0, 19, []), (0, 18, [])], I, L)
  refine hc _ _ tX8_init_28 _ _ _ (hc _ _ tX8_init_29 _ _ _ ((hc _ _ tX8_init_31 _ _ _ (sn_I (b := 4) (m := 18) hn rfl (by decide) (by decide) rfl (ap_le1 (b := 4) rfl rfl) (ap_le2 (w := [4, 19, 19, 18]) (w0 := 4) rfl rfl rfl) (hz_w (o := 0) (b := 4) hI rfl) ?_))))
  show P 33 [some (.ref n)] [.ref (n + 4), .ref n] (X ++ [(3, 8, [some (n + 1), some (n + 2), some (n + 3), none]), (0, 19, []), (0, 19, []), (0, 18, []), (0, 18, [])], I, L)
  refine (hc _ _ tX8_init_33 _ _ _ (sp_R (i := 0) hn h5 rfl rfl ?_))
  show P 36 [some (.ref n)] [] (X ++ [(3, 8, [some (n + 1), some (n + 2), some (n + 3), some (n + 4)]), (0, 19, []), (0, 19, []), (0, 18, []), (0, 18, [])], I, L)
  exact (hc _ _ tX8_init_36 _ _ _ (sr_E (sr_l (b := 5) rfl rfl) (sr_c (w := [4, 19, 19, 18, 18]) (w0 := 4) rfl rfl rfl)))
theorem nw0 {d n : Nat} {X : List zE} {I : Nat → Nat → Int32} {L : Nat → Nat → Int64} (hn : X.length = n) (h5 : 5 ≤ n) (hI : ∀ k, n ≤ k → I k = fun _ => 0) (hL : ∀ k, n ≤ k → L k = fun _ => 0) : zcal zty zcd true (d + 1) 0 [.ref n] (X ++ [(3, 0, List.replicate 2 none)], I, L) 2 36 (zpe (X ++ [(3, 0, [some (n + 1), some (n + 2)]), (0, 18, []), (0, 18, [])]) I L) := by
  refine zct_of (d := d + 0) zmt0 zmc0 rfl (Nat.le_of_ble_eq_true rfl) ?_
  intro P hw hc
  have hc : ∀ (pc : Nat) (t : zT), (pc, t) ∈ kX0_init → ∀ (ls : zL) (st : List Value) (u : zU), t _ _ _ P ls st u → P pc ls st u := fun pc t h => hc (pc, t) h
  show P 0 [some (.ref n)] [] (X ++ [(3, 0, [none, none])], I, L)
  refine hc _ _ tX0_init_0 _ _ _ (hc _ _ tX0_init_1 _ _ _ ⟨Nat.zero_le _, hc _ _ tX0_init_4 _ _ _ (hc _ _ tX0_init_5 _ _ _ ((hc _ _ tX0_init_7 _ _ _ (sn_I (b := 1) (m := 18) hn rfl (by decide) (by decide) rfl (ap_le1 (b := 1) rfl rfl) (ap_le2 (w := [2]) (w0 := 2) rfl rfl rfl) (hz_w (o := 0) (b := 1) hI rfl) ?_))))⟩)
  show P 9 [some (.ref n)] [.ref (n + 1), .ref n] (X ++ [(3, 0, [none, none]), (0, 18, [])], I, L)
  refine (hc _ _ tX0_init_9 _ _ _ (sp_R (i := 0) hn h5 rfl rfl ?_))
  show P 12 [some (.ref n)] [] (X ++ [(3, 0, [some (n + 1), none]), (0, 18, [])], I, L)
  refine hc _ _ tX0_init_12 _ _ _ (hc _ _ tX0_init_13 _ _ _ ((hc _ _ tX0_init_15 _ _ _ (sn_I (b := 2) (m := 18) hn rfl (by decide) (by decide) rfl (ap_le1 (b := 2) rfl rfl) (ap_le2 (w := [2, 18]) (w0 := 2) rfl rfl rfl) (hz_w (o := 0) (b := 2) hI rfl) ?_))))
  show P 17 [some (.ref n)] [.ref (n + 2), .ref n] (X ++ [(3, 0, [some (n + 1), none]), (0, 18, []), (0, 18, [])], I, L)
  refine (hc _ _ tX0_init_17 _ _ _ (sp_R (i := 0) hn h5 rfl rfl ?_))
  show P 20 [some (.ref n)] [] (X ++ [(3, 0, [some (n + 1), some (n + 2)]), (0, 18, []), (0, 18, [])], I, L)
  exact (hc _ _ tX0_init_20 _ _ _ (sr_E (sr_l (b := 3) rfl rfl) (sr_c (w := [2, 18, 18]) (w0 := 2) rfl rfl rfl)))
theorem nw1 {d n : Nat} {X : List zE} {I : Nat → Nat → Int32} {L : Nat → Nat → Int64} (hn : X.length = n) (h5 : 5 ≤ n) (hI : ∀ k, n ≤ k → I k = fun _ => 0) (hL : ∀ k, n ≤ k → L k = fun _ => 0) : zcal zty zcd true (d + 1) 5 [.ref n] (X ++ [(3, 1, List.replicate 9 none)], I, L) 5 37 (zpe (X ++ [(3, 1, [some (n + 1), some (n + 2), none, none, some (n + 3), none, none, some (n + 4), some (n + 5)]), (0, 7, []), (0, 8, []), (0, 7, []), (0, 7, []), (0, 8, [])]) I L) := by
  refine zct_of (d := d + 0) zmt5 zmc5 rfl (Nat.le_of_ble_eq_true rfl) ?_
  intro P hw hc
  have hc : ∀ (pc : Nat) (t : zT), (pc, t) ∈ kX1_init → ∀ (ls : zL) (st : List Value) (u : zU), t _ _ _ P ls st u → P pc ls st u := fun pc t h => hc (pc, t) h
  show P 0 [some (.ref n)] [] (X ++ [(3, 1, [none, none, none, none, none, none, none, none, none])], I, L)
  refine hc _ _ tX1_init_0 _ _ _ (hc _ _ tX1_init_1 _ _ _ ⟨Nat.zero_le _, hc _ _ tX1_init_4 _ _ _ (hc _ _ tX1_init_5 _ _ _ ((hc _ _ tX1_init_7 _ _ _ (sn_I (b := 1) (m := 7) hn rfl (by decide) (by decide) rfl (ap_le1 (b := 1) rfl rfl) (ap_le2 (w := [9]) (w0 := 9) rfl rfl rfl) (hz_w (o := 0) (b := 1) hI rfl) ?_))))⟩)
  show P 9 [some (.ref n)] [.ref (n + 1), .ref n] (X ++ [(3, 1, [none, none, none, none, none, none, none, none, none]), (0, 7, [])], I, L)
  refine (hc _ _ tX1_init_9 _ _ _ (sp_R (i := 0) hn h5 rfl rfl ?_))
  show P 12 [some (.ref n)] [] (X ++ [(3, 1, [some (n + 1), none, none, none, none, none, none, none, none]), (0, 7, [])], I, L)
  refine hc _ _ tX1_init_12 _ _ _ (hc _ _ tX1_init_13 _ _ _ ((hc _ _ tX1_init_15 _ _ _ (sn_I (b := 2) (m := 8) hn rfl (by decide) (by decide) rfl (ap_le1 (b := 2) rfl rfl) (ap_le2 (w := [9, 7]) (w0 := 9) rfl rfl rfl) (hz_w (o := 0) (b := 2) hI rfl) ?_))))
  show P 17 [some (.ref n)] [.ref (n + 2), .ref n] (X ++ [(3, 1, [some (n + 1), none, none, none, none, none, none, none, none]), (0, 7, []), (0, 8, [])], I, L)
  refine (hc _ _ tX1_init_17 _ _ _ (sp_R (i := 0) hn h5 rfl rfl ?_))
  show P 20 [some (.ref n)] [] (X ++ [(3, 1, [some (n + 1), some (n + 2), none, none, none, none, none, none, none]), (0, 7, []), (0, 8, [])], I, L)
  refine hc _ _ tX1_init_20 _ _ _ (hc _ _ tX1_init_21 _ _ _ ((hc _ _ tX1_init_22 _ _ _ (sp_0 (i := 0) hn h5 rfl (congrFun (hI (n + 0) (Nat.le_add_right _ _)) 2) ?_))))
  show P 25 [some (.ref n)] [] (X ++ [(3, 1, [some (n + 1), some (n + 2), none, none, none, none, none, none, none]), (0, 7, []), (0, 8, [])], I, L)
  refine hc _ _ tX1_init_25 _ _ _ (hc _ _ tX1_init_26 _ _ _ ((hc _ _ tX1_init_27 _ _ _ (sp_0 (i := 0) hn h5 rfl (congrFun (hI (n + 0) (Nat.le_add_right _ _)) 3) ?_))))
  show P 30 [some (.ref n)] [] (X ++ [(3, 1, [some (n + 1), some (n + 2), none, none, none, none, none, none, none]), (0, 7, []), (0, 8, [])], I, L)
  refine hc _ _ tX1_init_30 _ _ _ (hc _ _ tX1_init_31 _ _ _ ((hc _ _ tX1_init_33 _ _ _ (sn_I (b := 3) (m := 7) hn rfl (by decide) (by decide) rfl (ap_le1 (b := 3) rfl rfl) (ap_le2 (w := [9, 7, 8]) (w0 := 9) rfl rfl rfl) (hz_w (o := 0) (b := 3) hI rfl) ?_))))
  show P 35 [some (.ref n)] [.ref (n + 3), .ref n] (X ++ [(3, 1, [some (n + 1), some (n + 2), none, none, none, none, none, none, none]), (0, 7, []), (0, 8, []), (0, 7, [])], I, L)
  refine (hc _ _ tX1_init_35 _ _ _ (sp_R (i := 0) hn h5 rfl rfl ?_))
  show P 38 [some (.ref n)] [] (X ++ [(3, 1, [some (n + 1), some (n + 2), none, none, some (n + 3), none, none, none, none]), (0, 7, []), (0, 8, []), (0, 7, [])], I, L)
  refine hc _ _ tX1_init_38 _ _ _ (hc _ _ tX1_init_39 _ _ _ ((hc _ _ tX1_init_40 _ _ _ (sp_0 (i := 0) hn h5 rfl (congrFun (hI (n + 0) (Nat.le_add_right _ _)) 5) ?_))))
  show P 43 [some (.ref n)] [] (X ++ [(3, 1, [some (n + 1), some (n + 2), none, none, some (n + 3), none, none, none, none]), (0, 7, []), (0, 8, []), (0, 7, [])], I, L)
  refine hc _ _ tX1_init_43 _ _ _ (hc _ _ tX1_init_44 _ _ _ ((hc _ _ tX1_init_45 _ _ _ (sp_0 (i := 0) hn h5 rfl (congrFun (hI (n + 0) (Nat.le_add_right _ _)) 6) ?_))))
  show P 48 [some (.ref n)] [] (X ++ [(3, 1, [some (n + 1), some (n + 2), none, none, some (n + 3), none, none, none, none]), (0, 7, []), (0, 8, []), (0, 7, [])], I, L)
  refine hc _ _ tX1_init_48 _ _ _ (hc _ _ tX1_init_49 _ _ _ ((hc _ _ tX1_init_51 _ _ _ (sn_I (b := 4) (m := 7) hn rfl (by decide) (by decide) rfl (ap_le1 (b := 4) rfl rfl) (ap_le2 (w := [9, 7, 8, 7]) (w0 := 9) rfl rfl rfl) (hz_w (o := 0) (b := 4) hI rfl) ?_))))
  show P 53 [some (.ref n)] [.ref (n + 4), .ref n] (X ++ [(3, 1, [some (n + 1), some (n + 2), none, none, some (n + 3), none, none, none, none]), (0, 7, []), (0, 8, []), (0, 7, []), (0, 7, [])], I, L)
  refine (hc _ _ tX1_init_53 _ _ _ (sp_R (i := 0) hn h5 rfl rfl ?_))
  show P 56 [some (.ref n)] [] (X ++ [(3, 1, [some (n + 1), some (n + 2), none, none, some (n + 3), none, none, some (n + 4), none]), (0, 7, []), (0, 8, []), (0, 7, []), (0, 7, [])], I, L)
  refine hc _ _ tX1_init_56 _ _ _ (hc _ _ tX1_init_57 _ _ _ ((hc _ _ tX1_init_59 _ _ _ (sn_I (b := 5) (m := 8) hn rfl (by decide) (by decide) rfl (ap_le1 (b := 5) rfl rfl) (ap_le2 (w := [9, 7, 8, 7, 7]) (w0 := 9) rfl rfl rfl) (hz_w (o := 0) (b := 5) hI rfl) ?_))))
  show P 61 [some (.ref n)] [.ref (n + 5), .ref n] (X ++ [(3, 1, [some (n + 1), some (n + 2), none, none, some (n + 3), none, none, some (n + 4), none]), (0, 7, []), (0, 8, []), (0, 7, []), (0, 7, []), (0, 8, [])], I, L)
  refine (hc _ _ tX1_init_61 _ _ _ (sp_R (i := 0) hn h5 rfl rfl ?_))
  show P 64 [some (.ref n)] [] (X ++ [(3, 1, [some (n + 1), some (n + 2), none, none, some (n + 3), none, none, some (n + 4), some (n + 5)]), (0, 7, []), (0, 8, []), (0, 7, []), (0, 7, []), (0, 8, [])], I, L)
  exact (hc _ _ tX1_init_64 _ _ _ (sr_E (sr_l (b := 6) rfl rfl) (sr_c (w := [9, 7, 8, 7, 7, 8]) (w0 := 9) rfl rfl rfl)))
theorem nw6 {d n : Nat} {X : List zE} {I : Nat → Nat → Int32} {L : Nat → Nat → Int64} (hn : X.length = n) (h5 : 5 ≤ n) (hI : ∀ k, n ≤ k → I k = fun _ => 0) (hL : ∀ k, n ≤ k → L k = fun _ => 0) : zcal zty zcd true (d + 1) 51 [.ref n] (X ++ [(3, 6, List.replicate 4 none)], I, L) 2 37 (zpe (X ++ [(3, 6, [some (n + 1), some (n + 2), none, none]), (0, 19, []), (0, 18, [])]) (zi I n 2 170) L) := by
  refine zct_of (d := d + 0) zmt51 zmc51 rfl (Nat.le_of_ble_eq_true rfl) ?_
  intro P hw hc
  have hc : ∀ (pc : Nat) (t : zT), (pc, t) ∈ kX6_init → ∀ (ls : zL) (st : List Value) (u : zU), t _ _ _ P ls st u → P pc ls st u := fun pc t h => hc (pc, t) h
  show P 0 [some (.ref n)] [] (X ++ [(3, 6, [none, none, none, none])], I, L)
  refine hc _ _ tX6_init_0 _ _ _ (hc _ _ tX6_init_1 _ _ _ ⟨Nat.zero_le _, hc _ _ tX6_init_4 _ _ _ (hc _ _ tX6_init_5 _ _ _ ((hc _ _ tX6_init_7 _ _ _ (sn_I (b := 1) (m := 19) hn rfl (by decide) (by decide) rfl (ap_le1 (b := 1) rfl rfl) (ap_le2 (w := [4]) (w0 := 4) rfl rfl rfl) (hz_w (o := 0) (b := 1) hI rfl) ?_))))⟩)
  show P 9 [some (.ref n)] [.ref (n + 1), .ref n] (X ++ [(3, 6, [none, none, none, none]), (0, 19, [])], I, L)
  refine (hc _ _ tX6_init_9 _ _ _ (sp_R (i := 0) hn h5 rfl rfl ?_))
  show P 12 [some (.ref n)] [] (X ++ [(3, 6, [some (n + 1), none, none, none]), (0, 19, [])], I, L)
  refine hc _ _ tX6_init_12 _ _ _ (hc _ _ tX6_init_13 _ _ _ ((hc _ _ tX6_init_15 _ _ _ (sn_I (b := 2) (m := 18) hn rfl (by decide) (by decide) rfl (ap_le1 (b := 2) rfl rfl) (ap_le2 (w := [4, 19]) (w0 := 4) rfl rfl rfl) (hz_w (o := 0) (b := 2) hI rfl) ?_))))
  show P 17 [some (.ref n)] [.ref (n + 2), .ref n] (X ++ [(3, 6, [some (n + 1), none, none, none]), (0, 19, []), (0, 18, [])], I, L)
  refine (hc _ _ tX6_init_17 _ _ _ (sp_R (i := 0) hn h5 rfl rfl ?_))
  show P 20 [some (.ref n)] [] (X ++ [(3, 6, [some (n + 1), some (n + 2), none, none]), (0, 19, []), (0, 18, [])], I, L)
  refine hc _ _ tX6_init_20 _ _ _ (hc _ _ tX6_init_21 _ _ _ ((hc _ _ tX6_init_24 _ _ _ (sp_I (i := 0) hn h5 rfl (fun h => by cases h) ?_))))
  show P 27 [some (.ref n)] [] (X ++ [(3, 6, [some (n + 1), some (n + 2), none, none]), (0, 19, []), (0, 18, [])], zi I n 2 170, L)
  have hI1 : ∀ k, n + 1 ≤ k → (zi I n 2 170) k = fun _ => 0 := hz_zi (o := 0) (b := 1) (c := 0) hI rfl rfl
  refine hc _ _ tX6_init_27 _ _ _ (hc _ _ tX6_init_28 _ _ _ ((hc _ _ tX6_init_29 _ _ _ (sp_0 (i := 0) hn h5 rfl (by simp [zi_at, hI n (Nat.le_refl n)]) ?_))))
  show P 32 [some (.ref n)] [] (X ++ [(3, 6, [some (n + 1), some (n + 2), none, none]), (0, 19, []), (0, 18, [])], zi I n 2 170, L)
  exact (hc _ _ tX6_init_32 _ _ _ (sr_E (sr_l (b := 3) rfl rfl) (sr_c (w := [4, 19, 18]) (w0 := 4) rfl rfl rfl)))
def gtI (I : Nat → Nat → Int32) (n : Nat) : Nat → Nat → Int32 := zi (zi (zi (zi (zi (zi (zi (zi (zi (zi (zi (zi (zi (zi (zi (zi (zi (zi (zi I (n + 1) 0 1) (n + 1) 1 3) (n + 1) 2 3) (n + 1) 3 2) (n + 1) 4 2) (n + 1) 5 5) (n + 1) 6 6) (n + 2) 0 1) (n + 2) 1 2) (n + 2) 2 2) (n + 2) 3 1) (n + 2) 4 1) (n + 2) 5 3) (n + 2) 6 3) (n + 3) 0 100) (n + 3) 1 80) (n + 3) 2 130) (n + 3) 3 1) (n + 3) 4 20
theorem nw2 {d n : Nat} {X : List zE} {I : Nat → Nat → Int32} {L : Nat → Nat → Int64} (hn : X.length = n) (h5 : 5 ≤ n) (hI : ∀ k, n ≤ k → I k = fun _ => 0) (hL : ∀ k, n ≤ k → L k = fun _ => 0) : zcal zty zcd true (d + 1) 21 [.ref n] (X ++ [(3, 2, List.replicate 3 none)], I, L) 3 19 (zpe (X ++ [(3, 2, [some (n + 1), some (n + 2), some (n + 3)]), (0, 7, []), (0, 7, []), (0, 5, [])]) (gtI I n) L) := by
  refine zct_of (d := d + 0) zmt21 zmc21 rfl (Nat.le_of_ble_eq_true rfl) ?_
  intro P hw hc
  have hc : ∀ (pc : Nat) (t : zT), (pc, t) ∈ kX2_init → ∀ (ls : zL) (st : List Value) (u : zU), t _ _ _ P ls st u → P pc ls st u := fun pc t h => hc (pc, t) h
  show P 0 [some (.ref n)] [] (X ++ [(3, 2, [none, none, none])], I, L)
  refine hc _ _ tX2_init_0 _ _ _ (hc _ _ tX2_init_1 _ _ _ ⟨Nat.zero_le _, hc _ _ tX2_init_4 _ _ _ (hc _ _ tX2_init_5 _ _ _ ((hc _ _ tX2_init_7 _ _ _ (sn_I (b := 1) (m := 7) hn rfl (by decide) (by decide) rfl (ap_le1 (b := 1) rfl rfl) (ap_le2 (w := [3]) (w0 := 3) rfl rfl rfl) (hz_w (o := 0) (b := 1) hI rfl) ?_))))⟩)
  show P 9 [some (.ref n)] [.ref (n + 1), .ref n] (X ++ [(3, 2, [none, none, none]), (0, 7, [])], I, L)
  refine hc _ _ tX2_init_9 _ _ _ ⟨rfl, hc _ _ tX2_init_10 _ _ _ (hc _ _ tX2_init_11 _ _ _ ((hc _ _ tX2_init_12 _ _ _ (sa_I (i := 0) (k := 1) hn h5 rfl (zvin rfl) (by decide) ?_))))⟩
  show P 13 [some (.ref n)] [.ref (n + 1), .ref n] (X ++ [(3, 2, [none, none, none]), (0, 7, [])], zi I (n + 1) 0 1, L)
  have hI1 : ∀ k, n + 2 ≤ k → (zi I (n + 1) 0 1) k = fun _ => 0 := hz_zi (o := 0) (b := 2) (c := 1) hI rfl rfl
  refine hc _ _ tX2_init_13 _ _ _ ⟨rfl, hc _ _ tX2_init_14 _ _ _ (hc _ _ tX2_init_15 _ _ _ ((hc _ _ tX2_init_16 _ _ _ (sa_I (i := 1) (k := 1) hn h5 rfl (zvin rfl) (by decide) ?_))))⟩
  show P 17 [some (.ref n)] [.ref (n + 1), .ref n] (X ++ [(3, 2, [none, none, none]), (0, 7, [])], zi (zi I (n + 1) 0 1) (n + 1) 1 3, L)
  have hI2 : ∀ k, n + 2 ≤ k → (zi (zi I (n + 1) 0 1) (n + 1) 1 3) k = fun _ => 0 := hz_zi (o := 2) (b := 2) (c := 1) hI1 rfl rfl
  refine hc _ _ tX2_init_17 _ _ _ ⟨rfl, hc _ _ tX2_init_18 _ _ _ (hc _ _ tX2_init_19 _ _ _ ((hc _ _ tX2_init_20 _ _ _ (sa_I (i := 2) (k := 1) hn h5 rfl (zvin rfl) (by decide) ?_))))⟩
  show P 21 [some (.ref n)] [.ref (n + 1), .ref n] (X ++ [(3, 2, [none, none, none]), (0, 7, [])], zi (zi (zi I (n + 1) 0 1) (n + 1) 1 3) (n + 1) 2 3, L)
  have hI3 : ∀ k, n + 2 ≤ k → (zi (zi (zi I (n + 1) 0 1) (n + 1) 1 3) (n + 1) 2 3) k = fun _ => 0 := hz_zi (o := 2) (b := 2) (c := 1) hI2 rfl rfl
  refine hc _ _ tX2_init_21 _ _ _ ⟨rfl, hc _ _ tX2_init_22 _ _ _ (hc _ _ tX2_init_23 _ _ _ ((hc _ _ tX2_init_24 _ _ _ (sa_I (i := 3) (k := 1) hn h5 rfl (zvin rfl) (by decide) ?_))))⟩
  show P 25 [some (.ref n)] [.ref (n + 1), .ref n] (X ++ [(3, 2, [none, none, none]), (0, 7, [])], zi (zi (zi (zi I (n + 1) 0 1) (n + 1) 1 3) (n + 1) 2 3) (n + 1) 3 2, L)
  have hI4 : ∀ k, n + 2 ≤ k → (zi (zi (zi (zi I (n + 1) 0 1) (n + 1) 1 3) (n + 1) 2 3) (n + 1) 3 2) k = fun _ => 0 := hz_zi (o := 2) (b := 2) (c := 1) hI3 rfl rfl
  refine hc _ _ tX2_init_25 _ _ _ ⟨rfl, hc _ _ tX2_init_26 _ _ _ (hc _ _ tX2_init_27 _ _ _ ((hc _ _ tX2_init_28 _ _ _ (sa_I (i := 4) (k := 1) hn h5 rfl (zvin rfl) (by decide) ?_))))⟩
  show P 29 [some (.ref n)] [.ref (n + 1), .ref n] (X ++ [(3, 2, [none, none, none]), (0, 7, [])], zi (zi (zi (zi (zi I (n + 1) 0 1) (n + 1) 1 3) (n + 1) 2 3) (n + 1) 3 2) (n + 1) 4 2, L)
  have hI5 : ∀ k, n + 2 ≤ k → (zi (zi (zi (zi (zi I (n + 1) 0 1) (n + 1) 1 3) (n + 1) 2 3) (n + 1) 3 2) (n + 1) 4 2) k = fun _ => 0 := hz_zi (o := 2) (b := 2) (c := 1) hI4 rfl rfl
  refine hc _ _ tX2_init_29 _ _ _ ⟨rfl, hc _ _ tX2_init_30 _ _ _ (hc _ _ tX2_init_31 _ _ _ ((hc _ _ tX2_init_32 _ _ _ (sa_I (i := 5) (k := 1) hn h5 rfl (zvin rfl) (by decide) ?_))))⟩
  show P 33 [some (.ref n)] [.ref (n + 1), .ref n] (X ++ [(3, 2, [none, none, none]), (0, 7, [])], zi (zi (zi (zi (zi (zi I (n + 1) 0 1) (n + 1) 1 3) (n + 1) 2 3) (n + 1) 3 2) (n + 1) 4 2) (n + 1) 5 5, L)
  have hI6 : ∀ k, n + 2 ≤ k → (zi (zi (zi (zi (zi (zi I (n + 1) 0 1) (n + 1) 1 3) (n + 1) 2 3) (n + 1) 3 2) (n + 1) 4 2) (n + 1) 5 5) k = fun _ => 0 := hz_zi (o := 2) (b := 2) (c := 1) hI5 rfl rfl
  refine hc _ _ tX2_init_33 _ _ _ ⟨rfl, hc _ _ tX2_init_34 _ _ _ (hc _ _ tX2_init_36 _ _ _ ((hc _ _ tX2_init_38 _ _ _ (sa_I (i := 6) (k := 1) hn h5 rfl (zvin rfl) (by decide) ?_))))⟩
  show P 39 [some (.ref n)] [.ref (n + 1), .ref n] (X ++ [(3, 2, [none, none, none]), (0, 7, [])], zi (zi (zi (zi (zi (zi (zi I (n + 1) 0 1) (n + 1) 1 3) (n + 1) 2 3) (n + 1) 3 2) (n + 1) 4 2) (n + 1) 5 5) (n + 1) 6 6, L)
  have hI7 : ∀ k, n + 2 ≤ k → (zi (zi (zi (zi (zi (zi (zi I (n + 1) 0 1) (n + 1) 1 3) (n + 1) 2 3) (n + 1) 3 2) (n + 1) 4 2) (n + 1) 5 5) (n + 1) 6 6) k = fun _ => 0 := hz_zi (o := 2) (b := 2) (c := 1) hI6 rfl rfl
  refine (hc _ _ tX2_init_39 _ _ _ (sp_R (i := 0) hn h5 rfl rfl ?_))
  show P 42 [some (.ref n)] [] (X ++ [(3, 2, [some (n + 1), none, none]), (0, 7, [])], zi (zi (zi (zi (zi (zi (zi I (n + 1) 0 1) (n + 1) 1 3) (n + 1) 2 3) (n + 1) 3 2) (n + 1) 4 2) (n + 1) 5 5) (n + 1) 6 6, L)
  refine hc _ _ tX2_init_42 _ _ _ (hc _ _ tX2_init_43 _ _ _ ((hc _ _ tX2_init_45 _ _ _ (sn_I (b := 2) (m := 7) hn rfl (by decide) (by decide) rfl (ap_le1 (b := 2) rfl rfl) (ap_le2 (w := [3, 7]) (w0 := 3) rfl rfl rfl) (hz_w (o := 2) (b := 2) hI7 rfl) ?_))))
  show P 47 [some (.ref n)] [.ref (n + 2), .ref n] (X ++ [(3, 2, [some (n + 1), none, none]), (0, 7, []), (0, 7, [])], zi (zi (zi (zi (zi (zi (zi I (n + 1) 0 1) (n + 1) 1 3) (n + 1) 2 3) (n + 1) 3 2) (n + 1) 4 2) (n + 1) 5 5) (n + 1) 6 6, L)
  refine hc _ _ tX2_init_47 _ _ _ ⟨rfl, hc _ _ tX2_init_48 _ _ _ (hc _ _ tX2_init_49 _ _ _ ((hc _ _ tX2_init_50 _ _ _ (sa_I (i := 0) (k := 2) hn h5 rfl (zvin rfl) (by decide) ?_))))⟩
  show P 51 [some (.ref n)] [.ref (n + 2), .ref n] (X ++ [(3, 2, [some (n + 1), none, none]), (0, 7, []), (0, 7, [])], zi (zi (zi (zi (zi (zi (zi (zi I (n + 1) 0 1) (n + 1) 1 3) (n + 1) 2 3) (n + 1) 3 2) (n + 1) 4 2) (n + 1) 5 5) (n + 1) 6 6) (n + 2) 0 1, L)
  have hI8 : ∀ k, n + 3 ≤ k → (zi (zi (zi (zi (zi (zi (zi (zi I (n + 1) 0 1) (n + 1) 1 3) (n + 1) 2 3) (n + 1) 3 2) (n + 1) 4 2) (n + 1) 5 5) (n + 1) 6 6) (n + 2) 0 1) k = fun _ => 0 := hz_zi (o := 2) (b := 3) (c := 2) hI7 rfl rfl
  refine hc _ _ tX2_init_51 _ _ _ ⟨rfl, hc _ _ tX2_init_52 _ _ _ (hc _ _ tX2_init_53 _ _ _ ((hc _ _ tX2_init_54 _ _ _ (sa_I (i := 1) (k := 2) hn h5 rfl (zvin rfl) (by decide) ?_))))⟩
  show P 55 [some (.ref n)] [.ref (n + 2), .ref n] (X ++ [(3, 2, [some (n + 1), none, none]), (0, 7, []), (0, 7, [])], zi (zi (zi (zi (zi (zi (zi (zi (zi I (n + 1) 0 1) (n + 1) 1 3) (n + 1) 2 3) (n + 1) 3 2) (n + 1) 4 2) (n + 1) 5 5) (n + 1) 6 6) (n + 2) 0 1) (n + 2) 1 2, L)
  have hI9 : ∀ k, n + 3 ≤ k → (zi (zi (zi (zi (zi (zi (zi (zi (zi I (n + 1) 0 1) (n + 1) 1 3) (n + 1) 2 3) (n + 1) 3 2) (n + 1) 4 2) (n + 1) 5 5) (n + 1) 6 6) (n + 2) 0 1) (n + 2) 1 2) k = fun _ => 0 := hz_zi (o := 3) (b := 3) (c := 2) hI8 rfl rfl
  refine hc _ _ tX2_init_55 _ _ _ ⟨rfl, hc _ _ tX2_init_56 _ _ _ (hc _ _ tX2_init_57 _ _ _ ((hc _ _ tX2_init_58 _ _ _ (sa_I (i := 2) (k := 2) hn h5 rfl (zvin rfl) (by decide) ?_))))⟩
  show P 59 [some (.ref n)] [.ref (n + 2), .ref n] (X ++ [(3, 2, [some (n + 1), none, none]), (0, 7, []), (0, 7, [])], zi (zi (zi (zi (zi (zi (zi (zi (zi (zi I (n + 1) 0 1) (n + 1) 1 3) (n + 1) 2 3) (n + 1) 3 2) (n + 1) 4 2) (n + 1) 5 5) (n + 1) 6 6) (n + 2) 0 1) (n + 2) 1 2) (n + 2) 2 2, L)
  have hI10 : ∀ k, n + 3 ≤ k → (zi (zi (zi (zi (zi (zi (zi (zi (zi (zi I (n + 1) 0 1) (n + 1) 1 3) (n + 1) 2 3) (n + 1) 3 2) (n + 1) 4 2) (n + 1) 5 5) (n + 1) 6 6) (n + 2) 0 1) (n + 2) 1 2) (n + 2) 2 2) k = fun _ => 0 := hz_zi (o := 3) (b := 3) (c := 2) hI9 rfl rfl
  refine hc _ _ tX2_init_59 _ _ _ ⟨rfl, hc _ _ tX2_init_60 _ _ _ (hc _ _ tX2_init_61 _ _ _ ((hc _ _ tX2_init_62 _ _ _ (sa_I (i := 3) (k := 2) hn h5 rfl (zvin rfl) (by decide) ?_))))⟩
  show P 63 [some (.ref n)] [.ref (n + 2), .ref n] (X ++ [(3, 2, [some (n + 1), none, none]), (0, 7, []), (0, 7, [])], zi (zi (zi (zi (zi (zi (zi (zi (zi (zi (zi I (n + 1) 0 1) (n + 1) 1 3) (n + 1) 2 3) (n + 1) 3 2) (n + 1) 4 2) (n + 1) 5 5) (n + 1) 6 6) (n + 2) 0 1) (n + 2) 1 2) (n + 2) 2 2) (n + 2) 3 1, L)
  have hI11 : ∀ k, n + 3 ≤ k → (zi (zi (zi (zi (zi (zi (zi (zi (zi (zi (zi I (n + 1) 0 1) (n + 1) 1 3) (n + 1) 2 3) (n + 1) 3 2) (n + 1) 4 2) (n + 1) 5 5) (n + 1) 6 6) (n + 2) 0 1) (n + 2) 1 2) (n + 2) 2 2) (n + 2) 3 1) k = fun _ => 0 := hz_zi (o := 3) (b := 3) (c := 2) hI10 rfl rfl
  refine hc _ _ tX2_init_63 _ _ _ ⟨rfl, hc _ _ tX2_init_64 _ _ _ (hc _ _ tX2_init_65 _ _ _ ((hc _ _ tX2_init_66 _ _ _ (sa_I (i := 4) (k := 2) hn h5 rfl (zvin rfl) (by decide) ?_))))⟩
  show P 67 [some (.ref n)] [.ref (n + 2), .ref n] (X ++ [(3, 2, [some (n + 1), none, none]), (0, 7, []), (0, 7, [])], zi (zi (zi (zi (zi (zi (zi (zi (zi (zi (zi (zi I (n + 1) 0 1) (n + 1) 1 3) (n + 1) 2 3) (n + 1) 3 2) (n + 1) 4 2) (n + 1) 5 5) (n + 1) 6 6) (n + 2) 0 1) (n + 2) 1 2) (n + 2) 2 2) (n + 2) 3 1) (n + 2) 4 1, L)
  have hI12 : ∀ k, n + 3 ≤ k → (zi (zi (zi (zi (zi (zi (zi (zi (zi (zi (zi (zi I (n + 1) 0 1) (n + 1) 1 3) (n + 1) 2 3) (n + 1) 3 2) (n + 1) 4 2) (n + 1) 5 5) (n + 1) 6 6) (n + 2) 0 1) (n + 2) 1 2) (n + 2) 2 2) (n + 2) 3 1) (n + 2) 4 1) k = fun _ => 0 := hz_zi (o := 3) (b := 3) (c := 2) hI11 rfl rfl
  refine hc _ _ tX2_init_67 _ _ _ ⟨rfl, hc _ _ tX2_init_68 _ _ _ (hc _ _ tX2_init_69 _ _ _ ((hc _ _ tX2_init_70 _ _ _ (sa_I (i := 5) (k := 2) hn h5 rfl (zvin rfl) (by decide) ?_))))⟩
  show P 71 [some (.ref n)] [.ref (n + 2), .ref n] (X ++ [(3, 2, [some (n + 1), none, none]), (0, 7, []), (0, 7, [])], zi (zi (zi (zi (zi (zi (zi (zi (zi (zi (zi (zi (zi I (n + 1) 0 1) (n + 1) 1 3) (n + 1) 2 3) (n + 1) 3 2) (n + 1) 4 2) (n + 1) 5 5) (n + 1) 6 6) (n + 2) 0 1) (n + 2) 1 2) (n + 2) 2 2) (n + 2) 3 1) (n + 2) 4 1) (n + 2) 5 3, L)
  have hI13 : ∀ k, n + 3 ≤ k → (zi (zi (zi (zi (zi (zi (zi (zi (zi (zi (zi (zi (zi I (n + 1) 0 1) (n + 1) 1 3) (n + 1) 2 3) (n + 1) 3 2) (n + 1) 4 2) (n + 1) 5 5) (n + 1) 6 6) (n + 2) 0 1) (n + 2) 1 2) (n + 2) 2 2) (n + 2) 3 1) (n + 2) 4 1) (n + 2) 5 3) k = fun _ => 0 := hz_zi (o := 3) (b := 3) (c := 2) hI12 rfl rfl
  refine hc _ _ tX2_init_71 _ _ _ ⟨rfl, hc _ _ tX2_init_72 _ _ _ (hc _ _ tX2_init_74 _ _ _ ((hc _ _ tX2_init_75 _ _ _ (sa_I (i := 6) (k := 2) hn h5 rfl (zvin rfl) (by decide) ?_))))⟩
  show P 76 [some (.ref n)] [.ref (n + 2), .ref n] (X ++ [(3, 2, [some (n + 1), none, none]), (0, 7, []), (0, 7, [])], zi (zi (zi (zi (zi (zi (zi (zi (zi (zi (zi (zi (zi (zi I (n + 1) 0 1) (n + 1) 1 3) (n + 1) 2 3) (n + 1) 3 2) (n + 1) 4 2) (n + 1) 5 5) (n + 1) 6 6) (n + 2) 0 1) (n + 2) 1 2) (n + 2) 2 2) (n + 2) 3 1) (n + 2) 4 1) (n + 2) 5 3) (n + 2) 6 3, L)
  have hI14 : ∀ k, n + 3 ≤ k → (zi (zi (zi (zi (zi (zi (zi (zi (zi (zi (zi (zi (zi (zi I (n + 1) 0 1) (n + 1) 1 3) (n + 1) 2 3) (n + 1) 3 2) (n + 1) 4 2) (n + 1) 5 5) (n + 1) 6 6) (n + 2) 0 1) (n + 2) 1 2) (n + 2) 2 2) (n + 2) 3 1) (n + 2) 4 1) (n + 2) 5 3) (n + 2) 6 3) k = fun _ => 0 := hz_zi (o := 3) (b := 3) (c := 2) hI13 rfl rfl
  refine (hc _ _ tX2_init_76 _ _ _ (sp_R (i := 0) hn h5 rfl rfl ?_))
  show P 79 [some (.ref n)] [] (X ++ [(3, 2, [some (n + 1), some (n + 2), none]), (0, 7, []), (0, 7, [])], zi (zi (zi (zi (zi (zi (zi (zi (zi (zi (zi (zi (zi (zi I (n + 1) 0 1) (n + 1) 1 3) (n + 1) 2 3) (n + 1) 3 2) (n + 1) 4 2) (n + 1) 5 5) (n + 1) 6 6) (n + 2) 0 1) (n + 2) 1 2) (n + 2) 2 2) (n + 2) 3 1) (n + 2) 4 1) (n + 2) 5 3) (n + 2) 6 3, L)
  refine hc _ _ tX2_init_79 _ _ _ (hc _ _ tX2_init_80 _ _ _ ((hc _ _ tX2_init_81 _ _ _ (sn_I (b := 3) (m := 5) hn rfl (by decide) (by decide) rfl (ap_le1 (b := 3) rfl rfl) (ap_le2 (w := [3, 7, 7]) (w0 := 3) rfl rfl rfl) (hz_w (o := 3) (b := 3) hI14 rfl) ?_))))
  show P 83 [some (.ref n)] [.ref (n + 3), .ref n] (X ++ [(3, 2, [some (n + 1), some (n + 2), none]), (0, 7, []), (0, 7, []), (0, 5, [])], zi (zi (zi (zi (zi (zi (zi (zi (zi (zi (zi (zi (zi (zi I (n + 1) 0 1) (n + 1) 1 3) (n + 1) 2 3) (n + 1) 3 2) (n + 1) 4 2) (n + 1) 5 5) (n + 1) 6 6) (n + 2) 0 1) (n + 2) 1 2) (n + 2) 2 2) (n + 2) 3 1) (n + 2) 4 1) (n + 2) 5 3) (n + 2) 6 3, L)
  refine hc _ _ tX2_init_83 _ _ _ ⟨rfl, hc _ _ tX2_init_84 _ _ _ (hc _ _ tX2_init_85 _ _ _ ((hc _ _ tX2_init_87 _ _ _ (sa_I (i := 0) (k := 3) hn h5 rfl (zvin rfl) (by decide) ?_))))⟩
  show P 88 [some (.ref n)] [.ref (n + 3), .ref n] (X ++ [(3, 2, [some (n + 1), some (n + 2), none]), (0, 7, []), (0, 7, []), (0, 5, [])], zi (zi (zi (zi (zi (zi (zi (zi (zi (zi (zi (zi (zi (zi (zi I (n + 1) 0 1) (n + 1) 1 3) (n + 1) 2 3) (n + 1) 3 2) (n + 1) 4 2) (n + 1) 5 5) (n + 1) 6 6) (n + 2) 0 1) (n + 2) 1 2) (n + 2) 2 2) (n + 2) 3 1) (n + 2) 4 1) (n + 2) 5 3) (n + 2) 6 3) (n + 3) 0 100, L)
  have hI15 : ∀ k, n + 4 ≤ k → (zi (zi (zi (zi (zi (zi (zi (zi (zi (zi (zi (zi (zi (zi (zi I (n + 1) 0 1) (n + 1) 1 3) (n + 1) 2 3) (n + 1) 3 2) (n + 1) 4 2) (n + 1) 5 5) (n + 1) 6 6) (n + 2) 0 1) (n + 2) 1 2) (n + 2) 2 2) (n + 2) 3 1) (n + 2) 4 1) (n + 2) 5 3) (n + 2) 6 3) (n + 3) 0 100) k = fun _ => 0 := hz_zi (o := 3) (b := 4) (c := 3) hI14 rfl rfl
  refine hc _ _ tX2_init_88 _ _ _ ⟨rfl, hc _ _ tX2_init_89 _ _ _ (hc _ _ tX2_init_90 _ _ _ ((hc _ _ tX2_init_92 _ _ _ (sa_I (i := 1) (k := 3) hn h5 rfl (zvin rfl) (by decide) ?_))))⟩
  show P 93 [some (.ref n)] [.ref (n + 3), .ref n] (X ++ [(3, 2, [some (n + 1), some (n + 2), none]), (0, 7, []), (0, 7, []), (0, 5, [])], zi (zi (zi (zi (zi (zi (zi (zi (zi (zi (zi (zi (zi (zi (zi (zi I (n + 1) 0 1) (n + 1) 1 3) (n + 1) 2 3) (n + 1) 3 2) (n + 1) 4 2) (n + 1) 5 5) (n + 1) 6 6) (n + 2) 0 1) (n + 2) 1 2) (n + 2) 2 2) (n + 2) 3 1) (n + 2) 4 1) (n + 2) 5 3) (n + 2) 6 3) (n + 3) 0 100) (n + 3) 1 80, L)
  have hI16 : ∀ k, n + 4 ≤ k → (zi (zi (zi (zi (zi (zi (zi (zi (zi (zi (zi (zi (zi (zi (zi (zi I (n + 1) 0 1) (n + 1) 1 3) (n + 1) 2 3) (n + 1) 3 2) (n + 1) 4 2) (n + 1) 5 5) (n + 1) 6 6) (n + 2) 0 1) (n + 2) 1 2) (n + 2) 2 2) (n + 2) 3 1) (n + 2) 4 1) (n + 2) 5 3) (n + 2) 6 3) (n + 3) 0 100) (n + 3) 1 80) k = fun _ => 0 := hz_zi (o := 4) (b := 4) (c := 3) hI15 rfl rfl
  refine hc _ _ tX2_init_93 _ _ _ ⟨rfl, hc _ _ tX2_init_94 _ _ _ (hc _ _ tX2_init_95 _ _ _ ((hc _ _ tX2_init_98 _ _ _ (sa_I (i := 2) (k := 3) hn h5 rfl (zvin rfl) (by decide) ?_))))⟩
  show P 99 [some (.ref n)] [.ref (n + 3), .ref n] (X ++ [(3, 2, [some (n + 1), some (n + 2), none]), (0, 7, []), (0, 7, []), (0, 5, [])], zi (zi (zi (zi (zi (zi (zi (zi (zi (zi (zi (zi (zi (zi (zi (zi (zi I (n + 1) 0 1) (n + 1) 1 3) (n + 1) 2 3) (n + 1) 3 2) (n + 1) 4 2) (n + 1) 5 5) (n + 1) 6 6) (n + 2) 0 1) (n + 2) 1 2) (n + 2) 2 2) (n + 2) 3 1) (n + 2) 4 1) (n + 2) 5 3) (n + 2) 6 3) (n + 3) 0 100) (n + 3) 1 80) (n + 3) 2 130, L)
  have hI17 : ∀ k, n + 4 ≤ k → (zi (zi (zi (zi (zi (zi (zi (zi (zi (zi (zi (zi (zi (zi (zi (zi (zi I (n + 1) 0 1) (n + 1) 1 3) (n + 1) 2 3) (n + 1) 3 2) (n + 1) 4 2) (n + 1) 5 5) (n + 1) 6 6) (n + 2) 0 1) (n + 2) 1 2) (n + 2) 2 2) (n + 2) 3 1) (n + 2) 4 1) (n + 2) 5 3) (n + 2) 6 3) (n + 3) 0 100) (n + 3) 1 80) (n + 3) 2 130) k = fun _ => 0 := hz_zi (o := 4) (b := 4) (c := 3) hI16 rfl rfl
  refine hc _ _ tX2_init_99 _ _ _ ⟨rfl, hc _ _ tX2_init_100 _ _ _ (hc _ _ tX2_init_101 _ _ _ ((hc _ _ tX2_init_102 _ _ _ (sa_I (i := 3) (k := 3) hn h5 rfl (zvin rfl) (by decide) ?_))))⟩
  show P 103 [some (.ref n)] [.ref (n + 3), .ref n] (X ++ [(3, 2, [some (n + 1), some (n + 2), none]), (0, 7, []), (0, 7, []), (0, 5, [])], zi (zi (zi (zi (zi (zi (zi (zi (zi (zi (zi (zi (zi (zi (zi (zi (zi (zi I (n + 1) 0 1) (n + 1) 1 3) (n + 1) 2 3) (n + 1) 3 2) (n + 1) 4 2) (n + 1) 5 5) (n + 1) 6 6) (n + 2) 0 1) (n + 2) 1 2) (n + 2) 2 2) (n + 2) 3 1) (n + 2) 4 1) (n + 2) 5 3) (n + 2) 6 3) (n + 3) 0 100) (n + 3) 1 80) (n + 3) 2 130) (n + 3) 3 1, L)
  have hI18 : ∀ k, n + 4 ≤ k → (zi (zi (zi (zi (zi (zi (zi (zi (zi (zi (zi (zi (zi (zi (zi (zi (zi (zi I (n + 1) 0 1) (n + 1) 1 3) (n + 1) 2 3) (n + 1) 3 2) (n + 1) 4 2) (n + 1) 5 5) (n + 1) 6 6) (n + 2) 0 1) (n + 2) 1 2) (n + 2) 2 2) (n + 2) 3 1) (n + 2) 4 1) (n + 2) 5 3) (n + 2) 6 3) (n + 3) 0 100) (n + 3) 1 80) (n + 3) 2 130) (n + 3) 3 1) k = fun _ => 0 := hz_zi (o := 4) (b := 4) (c := 3) hI17 rfl rfl
  refine hc _ _ tX2_init_103 _ _ _ ⟨rfl, hc _ _ tX2_init_104 _ _ _ (hc _ _ tX2_init_105 _ _ _ ((hc _ _ tX2_init_107 _ _ _ (sa_I (i := 4) (k := 3) hn h5 rfl (zvin rfl) (by decide) ?_))))⟩
  show P 108 [some (.ref n)] [.ref (n + 3), .ref n] (X ++ [(3, 2, [some (n + 1), some (n + 2), none]), (0, 7, []), (0, 7, []), (0, 5, [])], zi (zi (zi (zi (zi (zi (zi (zi (zi (zi (zi (zi (zi (zi (zi (zi (zi (zi (zi I (n + 1) 0 1) (n + 1) 1 3) (n + 1) 2 3) (n + 1) 3 2) (n + 1) 4 2) (n + 1) 5 5) (n + 1) 6 6) (n + 2) 0 1) (n + 2) 1 2) (n + 2) 2 2) (n + 2) 3 1) (n + 2) 4 1) (n + 2) 5 3) (n + 2) 6 3) (n + 3) 0 100) (n + 3) 1 80) (n + 3) 2 130) (n + 3) 3 1) (n + 3) 4 20, L)
  have hI19 : ∀ k, n + 4 ≤ k → (zi (zi (zi (zi (zi (zi (zi (zi (zi (zi (zi (zi (zi (zi (zi (zi (zi (zi (zi I (n + 1) 0 1) (n + 1) 1 3) (n + 1) 2 3) (n + 1) 3 2) (n + 1) 4 2) (n + 1) 5 5) (n + 1) 6 6) (n + 2) 0 1) (n + 2) 1 2) (n + 2) 2 2) (n + 2) 3 1) (n + 2) 4 1) (n + 2) 5 3) (n + 2) 6 3) (n + 3) 0 100) (n + 3) 1 80) (n + 3) 2 130) (n + 3) 3 1) (n + 3) 4 20) k = fun _ => 0 := hz_zi (o := 4) (b := 4) (c := 3) hI18 rfl rfl
  refine (hc _ _ tX2_init_108 _ _ _ (sp_R (i := 0) hn h5 rfl rfl ?_))
  show P 111 [some (.ref n)] [] (X ++ [(3, 2, [some (n + 1), some (n + 2), some (n + 3)]), (0, 7, []), (0, 7, []), (0, 5, [])], zi (zi (zi (zi (zi (zi (zi (zi (zi (zi (zi (zi (zi (zi (zi (zi (zi (zi (zi I (n + 1) 0 1) (n + 1) 1 3) (n + 1) 2 3) (n + 1) 3 2) (n + 1) 4 2) (n + 1) 5 5) (n + 1) 6 6) (n + 2) 0 1) (n + 2) 1 2) (n + 2) 2 2) (n + 2) 3 1) (n + 2) 4 1) (n + 2) 5 3) (n + 2) 6 3) (n + 3) 0 100) (n + 3) 1 80) (n + 3) 2 130) (n + 3) 3 1) (n + 3) 4 20, L)
  exact (hc _ _ tX2_init_111 _ _ _ (sr_E (sr_l (b := 4) rfl rfl) (sr_c (w := [3, 7, 7, 5]) (w0 := 3) rfl rfl rfl)))
theorem hz_gt {I : Nat → Nat → Int32} {n o b c : Nat} (h : ∀ k, n + o ≤ k → I k = fun _ => 0) (hob : Nat.ble o b = true) (hcb : Nat.ble (c + 4) b = true) : ∀ k, n + b ≤ k → gtI I (n + c) k = fun _ => 0 := fun k hk => by
  have h1 := Nat.le_of_ble_eq_true hob
  have h2 := Nat.le_of_ble_eq_true hcb
  unfold gtI
  rw [zi_ne (by omega), zi_ne (by omega), zi_ne (by omega), zi_ne (by omega), zi_ne (by omega), zi_ne (by omega), zi_ne (by omega), zi_ne (by omega), zi_ne (by omega), zi_ne (by omega), zi_ne (by omega), zi_ne (by omega), zi_ne (by omega), zi_ne (by omega), zi_ne (by omega), zi_ne (by omega), zi_ne (by omega), zi_ne (by omega), zi_ne (by omega)]
  exact h k (by omega)
theorem nw3 {d n : Nat} {X : List zE} {I : Nat → Nat → Int32} {L : Nat → Nat → Int64} (hn : X.length = n) (h5 : 5 ≤ n) (hI : ∀ k, n ≤ k → I k = fun _ => 0) (hL : ∀ k, n ≤ k → L k = fun _ => 0) : zcal zty zcd true (d + 2) 28 [.ref n] (X ++ [(3, 3, List.replicate 5 none)], I, L) 14 594 (zpe (X ++ [(3, 3, [some (n + 1), some (n + 8), none, none, none]), (3, 10, [some (n + 2), some (n + 3), some (n + 4), some (n + 5), some (n + 6), some (n + 7), none, none]), (0, 200, []), (0, 19, []), (0, 19, []), (0, 19, []), (0, 19, []), (0, 13, []), (3, 10, [some (n + 9), some (n + 10), some (n + 11), some (n + 12), some (n + 13), some (n + 14), none, none]), (0, 200, []), (0, 19, []), (0, 19, []), (0, 19, []), (0, 19, []), (0, 13, [])]) I L) := by
  refine zct_of (d := d + 1) zmt28 zmc28 rfl (Nat.le_of_ble_eq_true rfl) ?_
  intro P hw hc
  have hc : ∀ (pc : Nat) (t : zT), (pc, t) ∈ kX3_init → ∀ (ls : zL) (st : List Value) (u : zU), t _ _ _ P ls st u → P pc ls st u := fun pc t h => hc (pc, t) h
  show P 0 [some (.ref n)] [] (X ++ [(3, 3, [none, none, none, none, none])], I, L)
  refine hc _ _ tX3_init_0 _ _ _ (hc _ _ tX3_init_1 _ _ _ ⟨Nat.zero_le _, hc _ _ tX3_init_4 _ _ _ ((hc _ _ tX3_init_5 _ _ _ (sn_O (b := 1) hn rfl (ap_le1 (b := 1) rfl rfl) (ap_le2 (w := [5]) (w0 := 5) rfl rfl rfl) (hz_w (o := 0) (b := 1) hI rfl) (hc _ _ tX3_init_8 _ _ _ ⟨rfl, hc _ _ tX3_init_9 _ _ _ (sc_E (b := 1) (b1 := 7) (w0 := 8) (w1 := [8, 200, 19, 19, 19, 19, 13]) hn h5 rfl (nw10 (d := d) (n := n + 1) (ap_len hn rfl) (Nat.le_trans h5 (Nat.le_add_right _ _)) (hz_w (o := 0) (b := 1) hI rfl) (hz_w (o := 0) (b := 1) hL rfl)) rfl (Nat.le_of_ble_eq_true rfl) (ap_le1 (b := 2) rfl rfl) (ap_le2 (w := [5, 8]) (w0 := 5) rfl rfl rfl) rfl rfl rfl rfl rfl ?_)⟩))))⟩)
  show P 12 [some (.ref n)] [.ref (n + 1), .ref n] (X ++ [(3, 3, [none, none, none, none, none]), (3, 10, [some (n + 2), some (n + 3), some (n + 4), some (n + 5), some (n + 6), some (n + 7), none, none]), (0, 200, []), (0, 19, []), (0, 19, []), (0, 19, []), (0, 19, []), (0, 13, [])], I, L)
  refine (hc _ _ tX3_init_12 _ _ _ (sp_R (i := 0) hn h5 rfl rfl ?_))
  show P 15 [some (.ref n)] [] (X ++ [(3, 3, [some (n + 1), none, none, none, none]), (3, 10, [some (n + 2), some (n + 3), some (n + 4), some (n + 5), some (n + 6), some (n + 7), none, none]), (0, 200, []), (0, 19, []), (0, 19, []), (0, 19, []), (0, 19, []), (0, 13, [])], I, L)
  refine hc _ _ tX3_init_15 _ _ _ ((hc _ _ tX3_init_16 _ _ _ (sn_O (b := 8) hn rfl (ap_le1 (b := 8) rfl rfl) (ap_le2 (w := [5, 8, 200, 19, 19, 19, 19, 13]) (w0 := 5) rfl rfl rfl) (hz_w (o := 0) (b := 8) hI rfl) (hc _ _ tX3_init_19 _ _ _ ⟨rfl, hc _ _ tX3_init_20 _ _ _ (sc_E (b := 8) (b1 := 7) (w0 := 8) (w1 := [8, 200, 19, 19, 19, 19, 13]) hn h5 rfl (nw10 (d := d) (n := n + 8) (ap_len hn rfl) (Nat.le_trans h5 (Nat.le_add_right _ _)) (hz_w (o := 0) (b := 8) hI rfl) (hz_w (o := 0) (b := 8) hL rfl)) rfl (Nat.le_of_ble_eq_true rfl) (ap_le1 (b := 9) rfl rfl) (ap_le2 (w := [5, 8, 200, 19, 19, 19, 19, 13, 8]) (w0 := 5) rfl rfl rfl) rfl rfl rfl rfl rfl ?_)⟩))))
  show P 23 [some (.ref n)] [.ref (n + 8), .ref n] (X ++ [(3, 3, [some (n + 1), none, none, none, none]), (3, 10, [some (n + 2), some (n + 3), some (n + 4), some (n + 5), some (n + 6), some (n + 7), none, none]), (0, 200, []), (0, 19, []), (0, 19, []), (0, 19, []), (0, 19, []), (0, 13, []), (3, 10, [some (n + 9), some (n + 10), some (n + 11), some (n + 12), some (n + 13), some (n + 14), none, none]), (0, 200, []), (0, 19, []), (0, 19, []), (0, 19, []), (0, 19, []), (0, 13, [])], I, L)
  refine (hc _ _ tX3_init_23 _ _ _ (sp_R (i := 0) hn h5 rfl rfl ?_))
  show P 26 [some (.ref n)] [] (X ++ [(3, 3, [some (n + 1), some (n + 8), none, none, none]), (3, 10, [some (n + 2), some (n + 3), some (n + 4), some (n + 5), some (n + 6), some (n + 7), none, none]), (0, 200, []), (0, 19, []), (0, 19, []), (0, 19, []), (0, 19, []), (0, 13, []), (3, 10, [some (n + 9), some (n + 10), some (n + 11), some (n + 12), some (n + 13), some (n + 14), none, none]), (0, 200, []), (0, 19, []), (0, 19, []), (0, 19, []), (0, 19, []), (0, 13, [])], I, L)
  refine hc _ _ tX3_init_26 _ _ _ (hc _ _ tX3_init_27 _ _ _ ((hc _ _ tX3_init_28 _ _ _ (sp_0 (i := 0) hn h5 rfl (congrFun (hI (n + 0) (Nat.le_add_right _ _)) 2) ?_))))
  show P 31 [some (.ref n)] [] (X ++ [(3, 3, [some (n + 1), some (n + 8), none, none, none]), (3, 10, [some (n + 2), some (n + 3), some (n + 4), some (n + 5), some (n + 6), some (n + 7), none, none]), (0, 200, []), (0, 19, []), (0, 19, []), (0, 19, []), (0, 19, []), (0, 13, []), (3, 10, [some (n + 9), some (n + 10), some (n + 11), some (n + 12), some (n + 13), some (n + 14), none, none]), (0, 200, []), (0, 19, []), (0, 19, []), (0, 19, []), (0, 19, []), (0, 13, [])], I, L)
  refine hc _ _ tX3_init_31 _ _ _ (hc _ _ tX3_init_32 _ _ _ ((hc _ _ tX3_init_33 _ _ _ (sp_0 (i := 0) hn h5 rfl (congrFun (hI (n + 0) (Nat.le_add_right _ _)) 3) ?_))))
  show P 36 [some (.ref n)] [] (X ++ [(3, 3, [some (n + 1), some (n + 8), none, none, none]), (3, 10, [some (n + 2), some (n + 3), some (n + 4), some (n + 5), some (n + 6), some (n + 7), none, none]), (0, 200, []), (0, 19, []), (0, 19, []), (0, 19, []), (0, 19, []), (0, 13, []), (3, 10, [some (n + 9), some (n + 10), some (n + 11), some (n + 12), some (n + 13), some (n + 14), none, none]), (0, 200, []), (0, 19, []), (0, 19, []), (0, 19, []), (0, 19, []), (0, 13, [])], I, L)
  refine hc _ _ tX3_init_36 _ _ _ (hc _ _ tX3_init_37 _ _ _ ((hc _ _ tX3_init_38 _ _ _ (sp_0 (i := 0) hn h5 rfl (congrFun (hI (n + 0) (Nat.le_add_right _ _)) 4) ?_))))
  show P 41 [some (.ref n)] [] (X ++ [(3, 3, [some (n + 1), some (n + 8), none, none, none]), (3, 10, [some (n + 2), some (n + 3), some (n + 4), some (n + 5), some (n + 6), some (n + 7), none, none]), (0, 200, []), (0, 19, []), (0, 19, []), (0, 19, []), (0, 19, []), (0, 13, []), (3, 10, [some (n + 9), some (n + 10), some (n + 11), some (n + 12), some (n + 13), some (n + 14), none, none]), (0, 200, []), (0, 19, []), (0, 19, []), (0, 19, []), (0, 19, []), (0, 13, [])], I, L)
  exact (hc _ _ tX3_init_41 _ _ _ (sr_E (sr_l (b := 15) rfl rfl) (sr_c (w := [5, 8, 200, 19, 19, 19, 19, 13, 8, 200, 19, 19, 19, 19, 13]) (w0 := 5) rfl rfl rfl)))
theorem nw5 {d n : Nat} {X : List zE} {I : Nat → Nat → Int32} {L : Nat → Nat → Int64} (hn : X.length = n) (h5 : 5 ≤ n) (hI : ∀ k, n ≤ k → I k = fun _ => 0) (hL : ∀ k, n ≤ k → L k = fun _ => 0) : zcal zty zcd true (d + 2) 42 [.ref n] (X ++ [(3, 5, List.replicate 5 none)], I, L) 7 297 (zpe (X ++ [(3, 5, [some (n + 1), none, none, none, none]), (3, 10, [some (n + 2), some (n + 3), some (n + 4), some (n + 5), some (n + 6), some (n + 7), none, none]), (0, 200, []), (0, 19, []), (0, 19, []), (0, 19, []), (0, 19, []), (0, 13, [])]) (zi I n 2 6) L) := by
  refine zct_of (d := d + 1) zmt42 zmc42 rfl (Nat.le_of_ble_eq_true rfl) ?_
  intro P hw hc
  have hc : ∀ (pc : Nat) (t : zT), (pc, t) ∈ kX5_init → ∀ (ls : zL) (st : List Value) (u : zU), t _ _ _ P ls st u → P pc ls st u := fun pc t h => hc (pc, t) h
  show P 0 [some (.ref n)] [] (X ++ [(3, 5, [none, none, none, none, none])], I, L)
  refine hc _ _ tX5_init_0 _ _ _ (hc _ _ tX5_init_1 _ _ _ ⟨Nat.zero_le _, hc _ _ tX5_init_4 _ _ _ ((hc _ _ tX5_init_5 _ _ _ (sn_O (b := 1) hn rfl (ap_le1 (b := 1) rfl rfl) (ap_le2 (w := [5]) (w0 := 5) rfl rfl rfl) (hz_w (o := 0) (b := 1) hI rfl) (hc _ _ tX5_init_8 _ _ _ ⟨rfl, hc _ _ tX5_init_9 _ _ _ (sc_E (b := 1) (b1 := 7) (w0 := 8) (w1 := [8, 200, 19, 19, 19, 19, 13]) hn h5 rfl (nw10 (d := d) (n := n + 1) (ap_len hn rfl) (Nat.le_trans h5 (Nat.le_add_right _ _)) (hz_w (o := 0) (b := 1) hI rfl) (hz_w (o := 0) (b := 1) hL rfl)) rfl (Nat.le_of_ble_eq_true rfl) (ap_le1 (b := 2) rfl rfl) (ap_le2 (w := [5, 8]) (w0 := 5) rfl rfl rfl) rfl rfl rfl rfl rfl ?_)⟩))))⟩)
  show P 12 [some (.ref n)] [.ref (n + 1), .ref n] (X ++ [(3, 5, [none, none, none, none, none]), (3, 10, [some (n + 2), some (n + 3), some (n + 4), some (n + 5), some (n + 6), some (n + 7), none, none]), (0, 200, []), (0, 19, []), (0, 19, []), (0, 19, []), (0, 19, []), (0, 13, [])], I, L)
  refine (hc _ _ tX5_init_12 _ _ _ (sp_R (i := 0) hn h5 rfl rfl ?_))
  show P 15 [some (.ref n)] [] (X ++ [(3, 5, [some (n + 1), none, none, none, none]), (3, 10, [some (n + 2), some (n + 3), some (n + 4), some (n + 5), some (n + 6), some (n + 7), none, none]), (0, 200, []), (0, 19, []), (0, 19, []), (0, 19, []), (0, 19, []), (0, 13, [])], I, L)
  refine hc _ _ tX5_init_15 _ _ _ (hc _ _ tX5_init_16 _ _ _ ((hc _ _ tX5_init_17 _ _ _ (sp_0 (i := 0) hn h5 rfl (congrFun (hI (n + 0) (Nat.le_add_right _ _)) 1) ?_))))
  show P 20 [some (.ref n)] [] (X ++ [(3, 5, [some (n + 1), none, none, none, none]), (3, 10, [some (n + 2), some (n + 3), some (n + 4), some (n + 5), some (n + 6), some (n + 7), none, none]), (0, 200, []), (0, 19, []), (0, 19, []), (0, 19, []), (0, 19, []), (0, 13, [])], I, L)
  refine hc _ _ tX5_init_20 _ _ _ (hc _ _ tX5_init_21 _ _ _ ((hc _ _ tX5_init_23 _ _ _ (sp_I (i := 0) hn h5 rfl (fun h => by cases h) ?_))))
  show P 26 [some (.ref n)] [] (X ++ [(3, 5, [some (n + 1), none, none, none, none]), (3, 10, [some (n + 2), some (n + 3), some (n + 4), some (n + 5), some (n + 6), some (n + 7), none, none]), (0, 200, []), (0, 19, []), (0, 19, []), (0, 19, []), (0, 19, []), (0, 13, [])], zi I n 2 6, L)
  have hI1 : ∀ k, n + 1 ≤ k → (zi I n 2 6) k = fun _ => 0 := hz_zi (o := 0) (b := 1) (c := 0) hI rfl rfl
  refine hc _ _ tX5_init_26 _ _ _ (hc _ _ tX5_init_27 _ _ _ ((hc _ _ tX5_init_28 _ _ _ (sp_0 (i := 0) hn h5 rfl (by simp [zi_at, hI n (Nat.le_refl n)]) ?_))))
  show P 31 [some (.ref n)] [] (X ++ [(3, 5, [some (n + 1), none, none, none, none]), (3, 10, [some (n + 2), some (n + 3), some (n + 4), some (n + 5), some (n + 6), some (n + 7), none, none]), (0, 200, []), (0, 19, []), (0, 19, []), (0, 19, []), (0, 19, []), (0, 13, [])], zi I n 2 6, L)
  refine hc _ _ tX5_init_31 _ _ _ (hc _ _ tX5_init_32 _ _ _ ((hc _ _ tX5_init_33 _ _ _ (sp_0 (i := 0) hn h5 rfl (by simp [zi_at, hI n (Nat.le_refl n)]) ?_))))
  show P 36 [some (.ref n)] [] (X ++ [(3, 5, [some (n + 1), none, none, none, none]), (3, 10, [some (n + 2), some (n + 3), some (n + 4), some (n + 5), some (n + 6), some (n + 7), none, none]), (0, 200, []), (0, 19, []), (0, 19, []), (0, 19, []), (0, 19, []), (0, 13, [])], zi I n 2 6, L)
  exact (hc _ _ tX5_init_36 _ _ _ (sr_E (sr_l (b := 8) rfl rfl) (sr_c (w := [5, 8, 200, 19, 19, 19, 19, 13]) (w0 := 5) rfl rfl rfl)))
theorem nw9 {d n : Nat} {X : List zE} {I : Nat → Nat → Int32} {L : Nat → Nat → Int64} (hn : X.length = n) (h5 : 5 ≤ n) (hI : ∀ k, n ≤ k → I k = fun _ => 0) (hL : ∀ k, n ≤ k → L k = fun _ => 0) : zcal zty zcd true (d + 2) 68 [.ref n] (X ++ [(3, 9, List.replicate 6 none)], I, L) 10 148 (zpo (X ++ [(3, 9, [some (n + 1), some (n + 2), none, some (n + 3), some (n + 4), some (n + 10)]), (0, 10, []), (0, 10, []), (1, 10, []), (3, 4, [some (n + 5), some (n + 6), some (n + 7), some (n + 8), some (n + 9)]), (1, 19, []), (1, 19, []), (1, 19, []), (1, 19, []), (1, 18, []), (1, 19, [])]) (fun J K => J = I ∧ fr [n + 7, n + 8] L K ∧ stkE K (n + 4))) := by
  refine zct_of (d := d + 1) zmt68 zmc68 rfl (Nat.le_of_ble_eq_true rfl) ?_
  intro P hw hc
  have hc : ∀ (pc : Nat) (t : zT), (pc, t) ∈ kX9_init → ∀ (ls : zL) (st : List Value) (u : zU), t _ _ _ P ls st u → P pc ls st u := fun pc t h => hc (pc, t) h
  show P 0 [some (.ref n)] [] (X ++ [(3, 9, [none, none, none, none, none, none])], I, L)
  refine hc _ _ tX9_init_0 _ _ _ (hc _ _ tX9_init_1 _ _ _ ⟨Nat.zero_le _, hc _ _ tX9_init_4 _ _ _ (hc _ _ tX9_init_5 _ _ _ ((hc _ _ tX9_init_7 _ _ _ (sn_I (b := 1) (m := 10) hn rfl (by decide) (by decide) rfl (ap_le1 (b := 1) rfl rfl) (ap_le2 (w := [6]) (w0 := 6) rfl rfl rfl) (hz_w (o := 0) (b := 1) hI rfl) ?_))))⟩)
  show P 9 [some (.ref n)] [.ref (n + 1), .ref n] (X ++ [(3, 9, [none, none, none, none, none, none]), (0, 10, [])], I, L)
  refine (hc _ _ tX9_init_9 _ _ _ (sp_R (i := 0) hn h5 rfl rfl ?_))
  show P 12 [some (.ref n)] [] (X ++ [(3, 9, [some (n + 1), none, none, none, none, none]), (0, 10, [])], I, L)
  refine hc _ _ tX9_init_12 _ _ _ (hc _ _ tX9_init_13 _ _ _ ((hc _ _ tX9_init_15 _ _ _ (sn_I (b := 2) (m := 10) hn rfl (by decide) (by decide) rfl (ap_le1 (b := 2) rfl rfl) (ap_le2 (w := [6, 10]) (w0 := 6) rfl rfl rfl) (hz_w (o := 0) (b := 2) hI rfl) ?_))))
  show P 17 [some (.ref n)] [.ref (n + 2), .ref n] (X ++ [(3, 9, [some (n + 1), none, none, none, none, none]), (0, 10, []), (0, 10, [])], I, L)
  refine (hc _ _ tX9_init_17 _ _ _ (sp_R (i := 0) hn h5 rfl rfl ?_))
  show P 20 [some (.ref n)] [] (X ++ [(3, 9, [some (n + 1), some (n + 2), none, none, none, none]), (0, 10, []), (0, 10, [])], I, L)
  refine hc _ _ tX9_init_20 _ _ _ (hc _ _ tX9_init_21 _ _ _ ((hc _ _ tX9_init_22 _ _ _ (sp_0 (i := 0) hn h5 rfl (congrFun (hI (n + 0) (Nat.le_add_right _ _)) 2) ?_))))
  show P 25 [some (.ref n)] [] (X ++ [(3, 9, [some (n + 1), some (n + 2), none, none, none, none]), (0, 10, []), (0, 10, [])], I, L)
  refine hc _ _ tX9_init_25 _ _ _ (hc _ _ tX9_init_26 _ _ _ ((hc _ _ tX9_init_28 _ _ _ (sn_J (b := 3) (m := 10) hn rfl (by decide) (by decide) rfl (ap_le1 (b := 3) rfl rfl) (ap_le2 (w := [6, 10, 10]) (w0 := 6) rfl rfl rfl) (hz_w (o := 0) (b := 3) hL rfl) ?_))))
  show P 30 [some (.ref n)] [.ref (n + 3), .ref n] (X ++ [(3, 9, [some (n + 1), some (n + 2), none, none, none, none]), (0, 10, []), (0, 10, []), (1, 10, [])], I, L)
  refine (hc _ _ tX9_init_30 _ _ _ (sp_R (i := 0) hn h5 rfl rfl ?_))
  show P 33 [some (.ref n)] [] (X ++ [(3, 9, [some (n + 1), some (n + 2), none, some (n + 3), none, none]), (0, 10, []), (0, 10, []), (1, 10, [])], I, L)
  refine hc _ _ tX9_init_33 _ _ _ ((hc _ _ tX9_init_34 _ _ _ (sn_O (b := 4) hn rfl (ap_le1 (b := 4) rfl rfl) (ap_le2 (w := [6, 10, 10, 10]) (w0 := 6) rfl rfl rfl) (hz_w (o := 0) (b := 4) hI rfl) (hc _ _ tX9_init_37 _ _ _ ⟨rfl, hc _ _ tX9_init_38 _ _ _ (sc_E (b := 4) (b1 := 6) (w0 := 5) (w1 := [5, 19, 19, 19, 19, 18]) hn h5 rfl (nw4 (d := d) (n := n + 4) (ap_len hn rfl) (Nat.le_trans h5 (Nat.le_add_right _ _)) (hz_w (o := 0) (b := 4) hI rfl) (hz_w (o := 0) (b := 4) hL rfl)) rfl (Nat.le_of_ble_eq_true rfl) (ap_le1 (b := 5) rfl rfl) (ap_le2 (w := [6, 10, 10, 10, 5]) (w0 := 6) rfl rfl rfl) rfl rfl rfl rfl rfl ?_)⟩))))
  show P 41 [some (.ref n)] [.ref (n + 4), .ref n] (X ++ [(3, 9, [some (n + 1), some (n + 2), none, some (n + 3), none, none]), (0, 10, []), (0, 10, []), (1, 10, []), (3, 4, [some (n + 5), some (n + 6), some (n + 7), some (n + 8), some (n + 9)]), (1, 19, []), (1, 19, []), (1, 19, []), (1, 19, []), (1, 18, [])], I, L)
  refine (hc _ _ tX9_init_41 _ _ _ (sp_R (i := 0) hn h5 rfl rfl ?_))
  show P 44 [some (.ref n)] [] (X ++ [(3, 9, [some (n + 1), some (n + 2), none, some (n + 3), some (n + 4), none]), (0, 10, []), (0, 10, []), (1, 10, []), (3, 4, [some (n + 5), some (n + 6), some (n + 7), some (n + 8), some (n + 9)]), (1, 19, []), (1, 19, []), (1, 19, []), (1, 19, []), (1, 18, [])], I, L)
  refine hc _ _ tX9_init_44 _ _ _ (hc _ _ tX9_init_45 _ _ _ ((hc _ _ tX9_init_47 _ _ _ (sn_J (b := 10) (m := 19) hn rfl (by decide) (by decide) rfl (ap_le1 (b := 10) rfl rfl) (ap_le2 (w := [6, 10, 10, 10, 5, 19, 19, 19, 19, 18]) (w0 := 6) rfl rfl rfl) (hz_w (o := 0) (b := 10) hL rfl) ?_))))
  show P 49 [some (.ref n)] [.ref (n + 10), .ref n] (X ++ [(3, 9, [some (n + 1), some (n + 2), none, some (n + 3), some (n + 4), none]), (0, 10, []), (0, 10, []), (1, 10, []), (3, 4, [some (n + 5), some (n + 6), some (n + 7), some (n + 8), some (n + 9)]), (1, 19, []), (1, 19, []), (1, 19, []), (1, 19, []), (1, 18, []), (1, 19, [])], I, L)
  refine (hc _ _ tX9_init_49 _ _ _ (sp_R (i := 0) hn h5 rfl rfl ?_))
  show P 52 [some (.ref n)] [] (X ++ [(3, 9, [some (n + 1), some (n + 2), none, some (n + 3), some (n + 4), some (n + 10)]), (0, 10, []), (0, 10, []), (1, 10, []), (3, 4, [some (n + 5), some (n + 6), some (n + 7), some (n + 8), some (n + 9)]), (1, 19, []), (1, 19, []), (1, 19, []), (1, 19, []), (1, 18, []), (1, 19, [])], I, L)
  refine hc _ _ tX9_init_52 _ _ _ (hc _ _ tX9_init_53 _ _ _ (sg_R (i := 0) hn h5 rfl rfl (hc _ _ tX9_init_56 _ _ _ ⟨⟨n + 4, [], _, rfl, (Nat.le_trans h5 (Nat.le_add_right _ _)), (ap_at hn 4).trans rfl⟩, Nat.le_of_ble_eq_true rfl, Nat.zero_le _, ap_le1 (b := 11) rfl rfl, ap_le2 (w := [6, 10, 10, 10, 5, 19, 19, 19, 19, 18, 19]) (w0 := 6) rfl rfl rfl, _, nwS (d := d) (a := n + 7) (b := n + 8) ((ap_at hn 4).trans rfl) ((ap_at hn 7).trans rfl) ((ap_at hn 8).trans rfl) (Nat.le_trans h5 (Nat.le_add_right _ _)) (Nat.le_trans h5 (Nat.le_add_right _ _)) (Nat.le_trans h5 (Nat.le_add_right _ _)) (by omega), ?_⟩)))
  intro r' u' hp
  obtain ⟨rfl, K, rfl, hf, hK⟩ := hp
  exact ⟨rfl, rfl, hc _ _ tX9_init_59 _ _ _ (sr_O (sr_l (b := 11) rfl rfl) (sr_c (w := [6, 10, 10, 10, 5, 19, 19, 19, 19, 18, 19]) (w0 := 6) rfl rfl rfl) ⟨rfl, hf, fun i hi => hK i hi⟩)⟩

