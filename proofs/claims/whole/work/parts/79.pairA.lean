/-! one call of the law: class and reference answer alike, and hold again what they held -/
abbrev zLs (x3 : Int32) : zL := [some (.ref 0), some (.ref 5), some (.ref 115), some (.int x3)]
def lwV (x3 : Int32) (zn : Nat) : Prop := vp_in (x3 + (1 : Int32)) zn ∧ vp_in (x3 + (2 : Int32)) zn ∧ vp_in (x3 + (3 : Int32)) zn ∧ vp_in (x3 + (4 : Int32)) zn
def lwC (pc : Nat) : Prop := ∀ (zn d : Nat) (post : zP) (x3 : Int32) (I : Nat → Nat → Int32) (L : Nat → Nat → Int64), lwV x3 zn → Inv I L → (∀ (J : Nat → Nat → Int32) (K : Nat → Nat → Int64), Inv J K → RL_law zn d post 1224 (zLs x3) [] (zSH zn, J, K)) → RL_law zn d post pc (zLs x3) [] (zSH zn, I, L)
theorem Inv_ln {I : Nat → Nat → Int32} {L : Nat → Nat → Int64} (h : Inv I L) : iLn L := h.2.2.2.2.2.2.2.2.2.1
theorem Inv_m4 {I : Nat → Nat → Int32} {L : Nat → Nat → Int64} (h : Inv I L) : I 115 18 = -4 := h.2.2.2.2.2.2.2.2.2.2
theorem Inv_V {I : Nat → Nat → Int32} {L : Nat → Nat → Int64} (h : Inv I L) : ∃ (V : Nat → zVw) (os ps : Nat → List Nat), ∀ w, w < 2 → cVw I (12 + 7 * w) (V w) (os w) ∧ rVw I w (V w) (ps w) := vp_f h.2.1.1 h.2.1.2
theorem txR_f {S : List Nat} {I J : Nat → Nat → Int32} {w : Nat} {T : Nat → Nat} {l : Nat} (h : fr S I J) (hs : 116 ∉ S ∧ 117 ∉ S) (ht : txR I w T l) : txR J w T l := by
  unfold txR at ht ⊢
  rw [h 116 hs.1, h 117 hs.2]
  exact ht
theorem rVw_f {S : List Nat} {I J : Nat → Nat → Int32} {v : Nat} {V : zVw} {ps : List Nat} (h : fr S I J) (hs : ∀ x ∈ S, x < 118 ∨ 123 < x) (hv : rVw I v V ps) : rVw J v V ps := rvM_vw (rvM_fr6 h hs v) hv
theorem prOk_f {S : List Nat} {I J : Nat → Nat → Int32} {c : Nat} {p : Nat → Nat} (h : fr S I J) (hs : c ∉ S) (hp : prOk I c p) : prOk J c p := by
  unfold prOk at hp ⊢
  rw [h c hs]
  exact hp
theorem tn_lt {x : Int32} {b : Nat} (hb : b < 2 ^ 31) (h : 0 ≤ x ∧ x < nI b) : tn x < b := by
  obtain ⟨n, -, -, h3, h4, -⟩ := nm_of (a := 0) hb (by decide) h
  rw [h4]; exact h3
theorem tn_lt19 {x : Int32} (h : 0 ≤ x ∧ x < 19) : tn x < 19 := tn_lt (b := 19) (by decide) h
theorem tn_lt5 {x : Int32} (h : 0 ≤ x ∧ x < 3) : tn x < 5 := Nat.lt_trans (tn_lt (b := 3) (by decide) h) (by decide)
theorem gk_lt7 (k : Nat) : gk k < 7 := by
  unfold gk
  repeat' split
  all_goals decide
/-! FAULT, RING, LINE, VALUE -/
theorem lw296 : lwC 296 := by
  intro zn d post x3 I L hv hI k
  obtain ⟨T, l, ht⟩ := hI.1
  exact gL_law_296 x3 I L ⟨hv.1, T, l, fun w hw => (ht w hw).1, fun J1 hJ => ⟨T, l, fun w hw => txR_f hJ (by decide) (ht w hw).2, fun J6 h6 => ⟨fun _ => k J6 L (Inv_k hI (kpI_t (kpI_f hJ (by decide)) (kpI_O h6)) (Inv_ln hI)), fun hne => absurd (by rw [hJ 0 (by decide)]) hne⟩⟩⟩
theorem lw319 : lwC 319 := by
  intro zn d post x3 I L hv hI k
  obtain ⟨T, l, ht⟩ := hI.1
  exact gL_law_319 x3 I L ⟨hv.1, hv.2.1, T, l, fun w hw => (ht w hw).1, fun J1 hJ => ⟨T, l, fun w hw => txR_f hJ (by decide) (ht w hw).2, fun J6 h6 => ⟨fun _ => k J6 L (Inv_k hI (kpI_t (kpI_f hJ (by decide)) (kpI_O h6)) (Inv_ln hI)), fun hne => absurd (by rw [hJ 0 (by decide)]) hne⟩⟩⟩
theorem lw375 : lwC 375 := by
  intro zn d post x3 I L hv hI k
  obtain ⟨V, os, ps, hV⟩ := Inv_V hI
  exact gL_law_375 x3 I L ⟨hv.1, hv.2.1, hv.2.2.1, V, os, fun w hw => (hV w hw).1, V, ps, fun w hw => (hV w hw).2, fun _ => k I L hI, fun hne => absurd rfl hne⟩
theorem valS_c {s : Int32} {l l' : Nat → Int32} (h : ∀ n, n < 19 → l n = l' n) (x : Int32) : valS s l x = valS s l' x := by
  unfold valS
  by_cases hx : 0 ≤ x ∧ x < 19
  · rw [if_pos hx, if_pos hx, h (tn x) (tn_lt19 hx)]
  · rw [if_neg hx, if_neg hx]
theorem lw474 : lwC 474 := by
  intro zn d post x3 I L hv hI k
  have ls := hI.2.2.2.2.1
  exact gL_law_474 x3 I L ⟨hv.1, fun _ => k I L hI, fun hne => absurd (by rw [ls.1]; exact valS_c ls.2 _) hne⟩
/-! TRUTH, ONES, STATES, DIFFER, TOUCHED -/
theorem lw497 : lwC 497 := by
  intro zn d post x3 I L hv hI k
  obtain ⟨V, os, ps, hV⟩ := Inv_V hI
  have ln := Inv_ln hI
  exact gL_law_497 x3 I L ⟨hv.1, hv.2.1, hv.2.2.1, V, os, fun w hw => cVw_ev (hV w hw).1, ln.1, fun K hK => ⟨V, ps, fun w hw => rVw_ev (hV w hw).2, Inv_m4 hI, fun J hJ => ⟨fun _ => k J K (Inv_k hI (kpI_f hJ (by decide)) (iLn_f hK (by decide) ln)), fun hne => absurd rfl hne⟩⟩⟩
theorem lw540 : lwC 540 := by
  intro zn d post x3 I L hv hI k
  obtain ⟨V, os, ps, hV⟩ := Inv_V hI
  have ln := Inv_ln hI
  exact gL_law_540 x3 I L ⟨hv.1, hv.2.1, V, os, fun w hw => cVw_ev (hV w hw).1, ln.1, ln.2.2.2, fun K hK => ⟨V, ps, fun w hw => rVw_ev (hV w hw).2, Inv_m4 hI, fun J hJ => ⟨fun _ => k J K (Inv_k hI (kpI_f hJ (by decide)) (iLn_f hK (by decide) ln)), fun hne => absurd rfl hne⟩⟩⟩
theorem Inv_a {I : Nat → Nat → Int32} {L : Nat → Nat → Int64} (h : Inv I L) : ∃ a, a < 16 ∧ I 5 14 = nI a ∧ I 125 0 = nI a := h.2.2.2.1.2.1
theorem Inv_e {I : Nat → Nat → Int32} {L : Nat → Nat → Int64} (h : Inv I L) : ∃ e, e < 2 ^ 19 ∧ I 5 15 = nI e ∧ I 126 0 = nI e := h.2.2.2.1.2.2
theorem lw596 : lwC 596 := by
  intro zn d post x3 I L hv hI k
  obtain ⟨V, os, ps, hV⟩ := Inv_V hI
  obtain ⟨a, a1, a2, a3⟩ := Inv_a hI
  have ln := Inv_ln hI
  exact gL_law_596 x3 I L ⟨V 0, os 0, a, cVw_ev (hV 0 (by decide)).1, ln.1, ln.2.2.2, a2, a1, fun K X hK => ⟨V 0, ps 0, a, rVw_ev (hV 0 (by decide)).2, Inv_m4 hI, a3, a1, fun J Y hJ => ⟨fun _ => k J K (Inv_k hI (kpI_f hJ.1 (by decide)) (iLn_f hK.1 (by decide) ln)), fun hne => absurd (by rw [isRch_one hK.2 hJ.2]) hne⟩⟩⟩
theorem difS_c {V : Nat → zVw} {X Y : Nat} {y : Int32} (h : 6 ≤ y ∧ y < 19 → X = Y) : difS V X y = difS V Y y := by
  unfold difS
  by_cases hy : 6 ≤ y ∧ y < 19
  · rw [if_pos hy, if_pos hy, h hy]
  · rw [if_neg hy, if_neg hy]
theorem lw609 : lwC 609 := by
  intro zn d post x3 I L hv hI k
  obtain ⟨V, os, ps, hV⟩ := Inv_V hI
  obtain ⟨a, a1, a2, a3⟩ := Inv_a hI
  have ln := Inv_ln hI
  exact gL_law_609 x3 I L ⟨hv.1, V, os, a, fun w hw => cVw_ev (hV w hw).1, ⟨ln.1, ln.2.1⟩, ln.2.2.2, a2, a1, fun K X hK => ⟨V, ps, a, fun w hw => rVw_ev (hV w hw).2, Inv_m4 hI, a3, a1, fun J Y hJ => ⟨fun _ => k J K (Inv_k hI (kpI_f hJ.1 (by decide)) (iLn_f hK.1 (by decide) ln)), fun hne => absurd (difS_c (fun hy => isRch_one (hK.2 hy) (hJ.2 hy))) hne⟩⟩⟩
theorem lw632 : lwC 632 := by
  intro zn d post x3 I L hv hI k
  obtain ⟨T, l, ht⟩ := hI.1
  obtain ⟨V, os, ps, hV⟩ := Inv_V hI
  have ln := Inv_ln hI
  exact gL_law_632 x3 I L ⟨T 0, l 0, V 0, os 0, (ht 0 (by decide)).1, cVw_ev (hV 0 (by decide)).1, ⟨ln.1, ln.2.1⟩, ln.2.2.2, fun J K hJ => ⟨T 0, l 0, V 0, ps 0, txR_f hJ.1 (by decide) (ht 0 (by decide)).2, rVw_f hJ.1 (by decide) (hV 0 (by decide)).2, by rw [hJ.1 115 (by decide)]; exact Inv_m4 hI, fun J6 h6 => ⟨fun _ => k J6 K (Inv_k hI (kpI_t (kpI_f hJ.1 (by decide)) (kpI_T h6)) (iLn_f hJ.2 (by decide) ln)), fun hne => absurd rfl hne⟩⟩⟩
/-! COVER, ARRIVAL, WORST -/
theorem lw721 : lwC 721 := by
  intro zn d post x3 I L hv hI k
  obtain ⟨V, os, ps, hV⟩ := Inv_V hI
  obtain ⟨p, p1, p2⟩ := hI.2.2.2.2.2.1.1
  exact gL_law_721 x3 I L ⟨hv.1, hv.2.1, V, os, p, fun w hw => (hV w hw).1, p1, fun J hJ => ⟨V, ps, p, fun w hw => rVw_ev (rVw_f hJ (by decide) (hV w hw).2), prOk_f hJ (by decide) p2, fun J6 h6 => ⟨fun _ => k J6 L (Inv_k hI (kpI_t (kpI_f hJ (by decide)) (kpI_f h6 (by decide))) (Inv_ln hI)), fun hne => absurd (by rw [hJ 0 (by decide)]) hne⟩⟩⟩
theorem dtm_c {a b : Nat → Int32} (h : ∀ i, i < 7 → a i = b i) (f : Int32) : dtm a f = dtm b f := by
  funext k
  unfold dtm
  rw [h (gk k) (gk_lt7 k)]
theorem arvS_c {A B : Nat → Int32} {x y z : Int32} (h : ((x = 0 ∨ x = 1) ∧ (0 ≤ y ∧ y < 19) ∧ 0 ≤ z ∧ z < 3) → A (tn y) = B (tn y)) : arvS A x y z = arvS B x y z := by
  unfold arvS
  by_cases hy : (x = 0 ∨ x = 1) ∧ (0 ≤ y ∧ y < 19) ∧ 0 ≤ z ∧ z < 3
  · rw [if_pos hy, if_pos hy, h hy]
  · rw [if_neg hy, if_neg hy]
theorem tn_2 {x : Int32} (h : x = 0 ∨ x = 1) : tn x < 2 := by rcases h with rfl | rfl <;> decide
theorem lw754 : lwC 754 := by
  intro zn d post x3 I L hv hI k
  obtain ⟨V, os, ps, hV⟩ := Inv_V hI
  obtain ⟨-, g2, g3⟩ := hI.2.2.2.2.2.1
  refine gL_law_754 x3 I L ⟨hv.1, hv.2.1, hv.2.2.1, V, os, fun w hw => (hV w hw).1, fun J hJ => ⟨V, ps, fun w hw => ⟨rVw_ev (rVw_f hJ.1 (by decide) (hV w hw).2), topc_nlk (hV w hw).1.2.1⟩, fun J6 h6 => ⟨fun _ => k J6 L (Inv_k hI (kpI_t (kpI_f hJ.1 (by decide)) (kpI_f h6.1 (by decide))) (Inv_ln hI)), fun hne => absurd ?_ hne⟩⟩⟩
  have h6 := h6.2
  rw [hJ.1 0 (by decide), hJ.1 128 (by decide), hJ.1 129 (by decide)] at h6
  rw [hJ.1 0 (by decide)]
  refine arvS_c (fun hy => ?_)
  have a := hJ.2 hy
  have b := h6 hy
  rw [← dtm_c g2, ← g3 _ (tn_lt5 ⟨hy.2.2.1, hy.2.2.2⟩), ← g3 3 (by decide)] at b
  have hw := hV _ (tn_2 hy.1)
  exact (arr_pair hw.1.1.1 (topc_w hw.1.2.1) a b).1 _ (tn_lt19 hy.2.1)
theorem way_c {V : zVw} (hV : okV V) (hn : nlk V) {c c' : Nat → Int32} (h : ∀ n ks, V n = some ks → (c n = -4 ∧ c' n = -4) ∨ ∃ u, u < 19 ∧ u ∈ ks ∧ c n = nI u ∧ c' n = nI u) {w : Nat} (hw : (V w).isSome = true) : ∀ i, way c (nI w) i = way c' (nI w) i ∧ (way c (nI w) i = -4 ∨ ∃ u, u < 19 ∧ way c (nI w) i = nI u ∧ ((i = 0 ∨ (6 ≤ u ∧ u < 15)) → (V u).isSome = true)) := by
  intro i
  induction i with
  | zero =>
    obtain ⟨ks, hk⟩ := Option.isSome_iff_exists.mp hw
    exact ⟨rfl, Or.inr ⟨w, (hV w ks hk).2.1, rfl, fun _ => hw⟩⟩
  | succ i ih =>
    obtain ⟨e, ih⟩ := ih
    rw [way, way, ← e]
    by_cases h4 : way c (nI w) i = -4
    · rw [if_pos h4, if_pos h4]; exact ⟨rfl, Or.inl rfl⟩
    · rw [if_neg h4, if_neg h4]
      obtain ⟨u, hu, eu, hs⟩ := ih.resolve_left h4
      rw [eu, show tn (nI u) = u from nI_clamp (by omega)]
      by_cases hc : i = 0 ∨ (6 ≤ nI u ∧ nI u < 15)
      · rw [if_pos hc, if_pos hc]
        have hc' : i = 0 ∨ (6 ≤ u ∧ u < 15) := by
          rcases hc with z | ⟨z1, z2⟩
          · exact Or.inl z
          · rw [nl 6, nI_leI (by omega) (by omega)] at z1
            rw [nl 15, nI_ltI (by omega) (by omega)] at z2
            exact Or.inr ⟨z1, z2⟩
        obtain ⟨ks, hk⟩ := Option.isSome_iff_exists.mp (hs hc')
        rcases h u ks hk with ⟨z1, z2⟩ | ⟨v, hv, hvk, z1, z2⟩
        · rw [z1, z2]; exact ⟨rfl, Or.inl rfl⟩
        · rw [z1, z2]; exact ⟨rfl, Or.inr ⟨v, hv, rfl, fun z => hn u ks v hk hvk (by omega) (by omega)⟩⟩
      · rw [if_neg hc, if_neg hc]; exact ⟨rfl, Or.inl rfl⟩
theorem wrsS_c {V : zVw} (hV : okV V) (hn : nlk V) {A B c c' : Nat → Int32} {clk x z i : Int32} (h : ((x = 0 ∨ x = 1) ∧ (0 ≤ z ∧ z < 3) ∧ ¬ i < -2) → (∀ n, n < 19 → A n = B n) ∧ ∀ n ks, V n = some ks → (c n = -4 ∧ c' n = -4) ∨ ∃ u, u < 19 ∧ u ∈ ks ∧ c n = nI u ∧ c' n = nI u) : wrsS V A c clk x z i = wrsS V B c' clk x z i := by
  unfold wrsS
  by_cases hy : (x = 0 ∨ x = 1) ∧ (0 ≤ z ∧ z < 3) ∧ ¬ i < -2
  · rw [if_pos hy, if_pos hy, ← latN_cong (h hy).1]
    cases hl : latN V A 19 with
    | none => rfl
    | some w =>
      have hw := latN_in hl
      dsimp only
      rw [(h hy).1 w hw.1, (way_c hV hn (h hy).2 hw.2 (tn i)).1]
  · rw [if_neg hy, if_neg hy]
theorem lw797 : lwC 797 := by
  intro zn d post x3 I L hv hI k
  obtain ⟨V, os, ps, hV⟩ := Inv_V hI
  obtain ⟨-, g2, g3⟩ := hI.2.2.2.2.2.1
  refine gL_law_797 x3 I L ⟨hv.1, hv.2.1, hv.2.2.1, V, os, fun w hw => (hV w hw).1, fun J hJ => ⟨V, ps, fun w hw => ⟨rVw_ev (rVw_f hJ.1 (by decide) (hV w hw).2), topc_nlk (hV w hw).1.2.1⟩, fun J6 h6 => ⟨fun _ => k J6 L (Inv_k hI (kpI_t (kpI_f hJ.1 (by decide)) (kpI_f h6.1 (by decide))) (Inv_ln hI)), fun hne => absurd ?_ hne⟩⟩⟩
  have h6 := h6.2
  rw [hJ.1 0 (by decide), hJ.1 128 (by decide), hJ.1 129 (by decide)] at h6
  rw [hJ.1 0 (by decide), hJ.1 129 (by decide), ← g3 4 (by decide)]
  by_cases hy : (I 0 ((x3 + (1 : Int32))).toNatClampNeg = 0 ∨ I 0 ((x3 + (1 : Int32))).toNatClampNeg = 1)
  · have hw := hV _ (tn_2 hy)
    refine wrsS_c hw.1.1.1 (topc_nlk hw.1.2.1) (fun hy => ?_)
    have a := hJ.2 hy
    have b := h6 hy
    rw [← dtm_c g2, ← g3 _ (tn_lt5 hy.2.1), ← g3 3 (by decide)] at b
    have ap := arr_pair hw.1.1.1 (topc_w hw.1.2.1) a b
    refine ⟨ap.1, fun n ks hk => ?_⟩
    rcases ap.2 n ks hk with ⟨z1, z2⟩ | ⟨u, hu, huk, z1, z2⟩
    · refine Or.inl ⟨?_, z1⟩
      unfold wC
      rcases z2 with z2 | z2 <;> rw [z2] <;> decide
    · refine Or.inr ⟨u, hu, huk, ?_, z2⟩
      unfold wC
      rw [z1, if_pos (show nI u < 19 by rw [nl 19, nI_ltI (by omega) (by omega)]; exact hu)]
  · unfold wrsS
    rw [if_neg (fun z => hy z.1), if_neg (fun z => hy z.1)]

