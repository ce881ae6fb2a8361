/-! copies of VIEWS, the reference's -/
def rvM (I J : Nat → Nat → Int32) (v w : Nat) : Prop := (∀ i, i < 200 → J 118 (200 * w + i) = I 118 (200 * v + i)) ∧ (∀ i, i < 19 → J 119 (19 * w + i) = I 119 (19 * v + i) ∧ J 120 (19 * w + i) = I 120 (19 * v + i)) ∧ (∀ i, i < 9 → J 122 (9 * w + i) = I 122 (9 * v + i)) ∧ J 121 w = I 121 v ∧ J 123 w = I 123 v
def rVw (I : Nat → Nat → Int32) (v : Nat) (V : zVw) (ps : List Nat) : Prop := rDr I v V ∧ rOrd I v V ps
theorem rVw_ev {I : Nat → Nat → Int32} {v : Nat} {V : zVw} {ps : List Nat} (h : rVw I v V ps) : rEv I v V ps := ⟨h.1.1, h.1.2.1, h.2⟩
theorem rvM_ln {I J : Nat → Nat → Int32} {v w : Nat} {V : zVw} (h : rvM I J v w) (hv : rLn I v V) : rLn J w V := by
  obtain ⟨m1, m2, m3, m4, m5⟩ := h
  intro n hn
  have := hv n hn
  cases hV : V n with
  | none => rw [hV] at this; simp only at this ⊢; rw [(m2 n hn).2]; exact this
  | some ks =>
    rw [hV] at this
    obtain ⟨f, g1, g2, g3, g4⟩ := this
    refine ⟨f, g1, (m2 n hn).1.trans g2, (m2 n hn).2.trans g3, fun i x hx => ?_⟩
    have hil := (List.getElem?_eq_some_iff.mp hx).1
    have := m1 (f + i) (by omega)
    rw [← Nat.add_assoc, ← Nat.add_assoc] at this
    exact this.trans (g4 i x hx)
theorem rvM_vw {I J : Nat → Nat → Int32} {v w : Nat} {V : zVw} {ps : List Nat} (h : rvM I J v w) (hv : rVw I v V ps) : rVw J w V ps := by
  obtain ⟨⟨d1, d2, d3⟩, o1, o2, o3, o4⟩ := hv
  refine ⟨⟨d1, rvM_ln h d2, h.2.2.2.1.trans d3⟩, o1, h.2.2.2.2.trans o2, o3, fun i o ho => ?_⟩
  have hil := (List.getElem?_eq_some_iff.mp ho).1
  exact (h.2.2.1 i (by omega)).trans (o4 i o ho)
theorem rvM_rf {I : Nat → Nat → Int32} {v : Nat} : rvM I I v v := ⟨fun _ _ => rfl, fun _ _ => ⟨rfl, rfl⟩, fun _ _ => rfl, rfl, rfl⟩
theorem rvM_t {I J K : Nat → Nat → Int32} {u v w : Nat} (h : rvM I J u v) (h2 : rvM J K v w) : rvM I K u w := ⟨fun i hi => (h2.1 i hi).trans (h.1 i hi), fun i hi => ⟨(h2.2.1 i hi).1.trans (h.2.1 i hi).1, (h2.2.1 i hi).2.trans (h.2.1 i hi).2⟩, fun i hi => (h2.2.2.1 i hi).trans (h.2.2.1 i hi), h2.2.2.2.1.trans h.2.2.2.1, h2.2.2.2.2.trans h.2.2.2.2⟩
theorem rvM_fr {I J : Nat → Nat → Int32} {v : Nat} (h1 : J 118 = I 118) (h2 : J 119 = I 119) (h3 : J 120 = I 120) (h4 : J 121 = I 121) (h5 : J 122 = I 122) (h6 : J 123 = I 123) : rvM I J v v := ⟨fun _ _ => by rw [h1], fun _ _ => ⟨by rw [h2], by rw [h3]⟩, fun _ _ => by rw [h5], by rw [h4], by rw [h6]⟩
theorem rvM_keep {I J : Nat → Nat → Int32} (h : rKeep I J) {u : Nat} (hu : u ≠ 2) : rvM I J u u := by
  obtain ⟨k1, k2, k3, k4⟩ := h
  exact ⟨fun i hi => k2 _ (by omega), fun i hi => k3 _ (by omega), fun i hi => by rw [k1 122 (by decide)], k4 u hu, by rw [k1 123 (by decide)]⟩
theorem rvM_ro {I J : Nat → Nat → Int32} {v : Nat} (h : roS I J v) {u : Nat} (hu : u ≠ v) : rvM I J u u := by
  obtain ⟨k1, k2, k3⟩ := h
  exact ⟨fun i hi => by rw [k1 118 (by decide)], fun i hi => ⟨by rw [k1 119 (by decide)], by rw [k1 120 (by decide)]⟩, fun i hi => k2 _ (by omega), by rw [k1 121 (by decide)], k3 u hu⟩
abbrev RX12_copyView (zn d : Nat) (post : zP) : zK := zRun (zcal zty zcd false (d + 0)) kX12_copyView (zLM zn) post
theorem eX12_copyView {zn d : Nat} {post : zP} (x1 : Int32) (x2 : Int32) (I : Nat → Nat → Int32) (L : Nat → Nat → Int64) (h : RX12_copyView zn d post 0 [some (.ref 115), some (.int x1), some (.int x2), none] [] (zSH zn, I, L)) : zcal zty zcd false (d + 1) 150 [.ref 115, .int x1, .int x2] (zSH zn, I, L) 0 0 post := zcal_of (d := d + 0) zmt150 zmc150 rfl (Nat.le_of_ble_eq_true rfl) h
theorem gX12_copyView_0 {zn d : Nat} {post : zP} (x1 : Int32) (x2 : Int32) (I : Nat → Nat → Int32) (L : Nat → Nat → Int64) (h : RX12_copyView zn d post 2 [some (.ref 115), some (.int x1), some (.int x2), some (.int (0 : Int32))] [] (zSH zn, I, L)) : RX12_copyView zn d post 0 [some (.ref 115), some (.int x1), some (.int x2), none] [] (zSH zn, I, L) := fun P hw hc => hc _ tX12_copyView_0 _ _ _ (hc _ tX12_copyView_1 _ _ _ (h P hw hc))
theorem gX12_copyView_2 {zn d : Nat} {post : zP} (x1 : Int32) (x2 : Int32) (x3 : Int32) (I : Nat → Nat → Int32) (L : Nat → Nat → Int64) (h : ((200 : Int32) ≤ x3 → RX12_copyView zn d post 41 [some (.ref 115), some (.int x1), some (.int x2), some (.int (0 : Int32))] [] (zSH zn, I, L)) ∧ (¬ (200 : Int32) ≤ x3 → vp_in (((200 : Int32) * x1) + x3) 1400 ∧ (vp_in (((200 : Int32) * x2) + x3) 1400 ∧ (RX12_copyView zn d post 2 [some (.ref 115), some (.int x1), some (.int x2), some (.int (x3 + (1 : Int32)))] [] (zSH zn, (zi I 118 ((((200 : Int32) * x2) + x3)).toNatClampNeg (I 118 ((((200 : Int32) * x1) + x3)).toNatClampNeg)), L))))) : RX12_copyView zn d post 2 [some (.ref 115), some (.int x1), some (.int x2), some (.int x3)] [] (zSH zn, I, L) := fun P hw hc => hc _ tX12_copyView_2 _ _ _ (hc _ tX12_copyView_3 _ _ _ (hc _ tX12_copyView_6 _ _ _ (⟨fun c1 => hc _ tX12_copyView_39 _ _ _ (hc _ tX12_copyView_40 _ _ _ ((h.1 c1) P hw hc)), fun c2 => hc _ tX12_copyView_9 _ _ _ (hc _ tX12_copyView_10 _ _ _ (⟨_, _, sh115, (by decide), rfl, hc _ tX12_copyView_13 _ _ _ (hc _ tX12_copyView_16 _ _ _ (hc _ tX12_copyView_17 _ _ _ (hc _ tX12_copyView_18 _ _ _ (hc _ tX12_copyView_19 _ _ _ (hc _ tX12_copyView_20 _ _ _ (hc _ tX12_copyView_21 _ _ _ (⟨_, _, sh115, (by decide), rfl, hc _ tX12_copyView_24 _ _ _ (hc _ tX12_copyView_27 _ _ _ (hc _ tX12_copyView_28 _ _ _ (hc _ tX12_copyView_29 _ _ _ (hc _ tX12_copyView_30 _ _ _ (hc _ tX12_copyView_31 _ _ _ (⟨_, _, _, sh118, Or.inl ⟨rfl, (by decide)⟩, (h.2 c2).1, hc _ tX12_copyView_32 _ _ _ (⟨_, _, sh118, (by decide), (h.2 c2).2.1, hc _ tX12_copyView_33 _ _ _ (hc _ tX12_copyView_36 _ _ _ ((h.2 c2).2.2 P hw hc))⟩)⟩))))))⟩)))))))⟩))⟩)))
theorem gX12_copyView_41 {zn d : Nat} {post : zP} (x1 : Int32) (x2 : Int32) (x3 : Int32) (I : Nat → Nat → Int32) (L : Nat → Nat → Int64) (h : ((19 : Int32) ≤ x3 → RX12_copyView zn d post 99 [some (.ref 115), some (.int x1), some (.int x2), some (.int (0 : Int32))] [] (zSH zn, I, L)) ∧ (¬ (19 : Int32) ≤ x3 → vp_in (((19 : Int32) * x1) + x3) 133 ∧ (vp_in (((19 : Int32) * x2) + x3) 133 ∧ (RX12_copyView zn d post 41 [some (.ref 115), some (.int x1), some (.int x2), some (.int (x3 + (1 : Int32)))] [] (zSH zn, (zi (zi I 119 ((((19 : Int32) * x2) + x3)).toNatClampNeg (I 119 ((((19 : Int32) * x1) + x3)).toNatClampNeg)) 120 ((((19 : Int32) * x2) + x3)).toNatClampNeg ((zi I 119 ((((19 : Int32) * x2) + x3)).toNatClampNeg (I 119 ((((19 : Int32) * x1) + x3)).toNatClampNeg)) 120 ((((19 : Int32) * x1) + x3)).toNatClampNeg)), L))))) : RX12_copyView zn d post 41 [some (.ref 115), some (.int x1), some (.int x2), some (.int x3)] [] (zSH zn, I, L) := fun P hw hc => hc _ tX12_copyView_41 _ _ _ (hc _ tX12_copyView_42 _ _ _ (hc _ tX12_copyView_44 _ _ _ (⟨fun c1 => hc _ tX12_copyView_97 _ _ _ (hc _ tX12_copyView_98 _ _ _ ((h.1 c1) P hw hc)), fun c2 => hc _ tX12_copyView_47 _ _ _ (hc _ tX12_copyView_48 _ _ _ (⟨_, _, sh115, (by decide), rfl, hc _ tX12_copyView_51 _ _ _ (hc _ tX12_copyView_53 _ _ _ (hc _ tX12_copyView_54 _ _ _ (hc _ tX12_copyView_55 _ _ _ (hc _ tX12_copyView_56 _ _ _ (hc _ tX12_copyView_57 _ _ _ (hc _ tX12_copyView_58 _ _ _ (⟨_, _, sh115, (by decide), rfl, hc _ tX12_copyView_61 _ _ _ (hc _ tX12_copyView_63 _ _ _ (hc _ tX12_copyView_64 _ _ _ (hc _ tX12_copyView_65 _ _ _ (hc _ tX12_copyView_66 _ _ _ (hc _ tX12_copyView_67 _ _ _ (⟨_, _, _, sh119, Or.inl ⟨rfl, (by decide)⟩, (h.2 c2).1, hc _ tX12_copyView_68 _ _ _ (⟨_, _, sh119, (by decide), (h.2 c2).2.1, hc _ tX12_copyView_69 _ _ _ (hc _ tX12_copyView_70 _ _ _ (⟨_, _, sh115, (by decide), rfl, hc _ tX12_copyView_73 _ _ _ (hc _ tX12_copyView_75 _ _ _ (hc _ tX12_copyView_76 _ _ _ (hc _ tX12_copyView_77 _ _ _ (hc _ tX12_copyView_78 _ _ _ (hc _ tX12_copyView_79 _ _ _ (hc _ tX12_copyView_80 _ _ _ (⟨_, _, sh115, (by decide), rfl, hc _ tX12_copyView_83 _ _ _ (hc _ tX12_copyView_85 _ _ _ (hc _ tX12_copyView_86 _ _ _ (hc _ tX12_copyView_87 _ _ _ (hc _ tX12_copyView_88 _ _ _ (hc _ tX12_copyView_89 _ _ _ (⟨_, _, _, sh120, Or.inl ⟨rfl, (by decide)⟩, (h.2 c2).1, hc _ tX12_copyView_90 _ _ _ (⟨_, _, sh120, (by decide), (h.2 c2).2.1, hc _ tX12_copyView_91 _ _ _ (hc _ tX12_copyView_94 _ _ _ ((h.2 c2).2.2 P hw hc))⟩)⟩))))))⟩)))))))⟩))⟩)⟩))))))⟩)))))))⟩))⟩)))
theorem gX12_copyView_99 {zn d : Nat} {post : zP} (x1 : Int32) (x2 : Int32) (x3 : Int32) (I : Nat → Nat → Int32) (L : Nat → Nat → Int64) (h : ((9 : Int32) ≤ x3 → vp_in x1 7 ∧ (vp_in x2 7 ∧ (post none (zSH zn, (zi (zi I 123 (x2).toNatClampNeg (I 123 (x1).toNatClampNeg)) 121 (x2).toNatClampNeg ((zi I 123 (x2).toNatClampNeg (I 123 (x1).toNatClampNeg)) 121 (x1).toNatClampNeg)), L)))) ∧ (¬ (9 : Int32) ≤ x3 → vp_in (((9 : Int32) * x1) + x3) 63 ∧ (vp_in (((9 : Int32) * x2) + x3) 63 ∧ (RX12_copyView zn d post 99 [some (.ref 115), some (.int x1), some (.int x2), some (.int (x3 + (1 : Int32)))] [] (zSH zn, (zi I 122 ((((9 : Int32) * x2) + x3)).toNatClampNeg (I 122 ((((9 : Int32) * x1) + x3)).toNatClampNeg)), L))))) : RX12_copyView zn d post 99 [some (.ref 115), some (.int x1), some (.int x2), some (.int x3)] [] (zSH zn, I, L) := fun P hw hc => hc _ tX12_copyView_99 _ _ _ (hc _ tX12_copyView_100 _ _ _ (hc _ tX12_copyView_102 _ _ _ (⟨fun c1 => hc _ tX12_copyView_133 _ _ _ (hc _ tX12_copyView_134 _ _ _ (⟨_, _, sh115, (by decide), rfl, hc _ tX12_copyView_137 _ _ _ (hc _ tX12_copyView_138 _ _ _ (hc _ tX12_copyView_139 _ _ _ (⟨_, _, sh115, (by decide), rfl, hc _ tX12_copyView_142 _ _ _ (hc _ tX12_copyView_143 _ _ _ (⟨_, _, _, sh123, Or.inl ⟨rfl, (by decide)⟩, (h.1 c1).1, hc _ tX12_copyView_144 _ _ _ (⟨_, _, sh123, (by decide), (h.1 c1).2.1, hc _ tX12_copyView_145 _ _ _ (hc _ tX12_copyView_146 _ _ _ (⟨_, _, sh115, (by decide), rfl, hc _ tX12_copyView_149 _ _ _ (hc _ tX12_copyView_150 _ _ _ (hc _ tX12_copyView_151 _ _ _ (⟨_, _, sh115, (by decide), rfl, hc _ tX12_copyView_154 _ _ _ (hc _ tX12_copyView_155 _ _ _ (⟨_, _, _, sh121, Or.inl ⟨rfl, (by decide)⟩, (h.1 c1).1, hc _ tX12_copyView_156 _ _ _ (⟨_, _, sh121, (by decide), (h.1 c1).2.1, hc _ tX12_copyView_157 _ _ _ (⟨rfl, rfl, (h.1 c1).2.2⟩)⟩)⟩))⟩)))⟩))⟩)⟩))⟩)))⟩)), fun c2 => hc _ tX12_copyView_105 _ _ _ (hc _ tX12_copyView_106 _ _ _ (⟨_, _, sh115, (by decide), rfl, hc _ tX12_copyView_109 _ _ _ (hc _ tX12_copyView_111 _ _ _ (hc _ tX12_copyView_112 _ _ _ (hc _ tX12_copyView_113 _ _ _ (hc _ tX12_copyView_114 _ _ _ (hc _ tX12_copyView_115 _ _ _ (hc _ tX12_copyView_116 _ _ _ (⟨_, _, sh115, (by decide), rfl, hc _ tX12_copyView_119 _ _ _ (hc _ tX12_copyView_121 _ _ _ (hc _ tX12_copyView_122 _ _ _ (hc _ tX12_copyView_123 _ _ _ (hc _ tX12_copyView_124 _ _ _ (hc _ tX12_copyView_125 _ _ _ (⟨_, _, _, sh122, Or.inl ⟨rfl, (by decide)⟩, (h.2 c2).1, hc _ tX12_copyView_126 _ _ _ (⟨_, _, sh122, (by decide), (h.2 c2).2.1, hc _ tX12_copyView_127 _ _ _ (hc _ tX12_copyView_130 _ _ _ ((h.2 c2).2.2 P hw hc))⟩)⟩))))))⟩)))))))⟩))⟩)))
theorem ctX12_copyView {zn d : Nat} (x1 : Int32) (x2 : Int32) (I : Nat → Nat → Int32) (L : Nat → Nat → Int64) (v : Nat) (w : Nat) (q0 : x1 = nI v ∧ v ≤ 6) (q1 : x2 = nI w ∧ w ≤ 6) (q2 : v ≠ w) : zcal zty zcd false (d + 1) 150 [.ref 115, .int x1, .int x2] (zSH zn, I, L) 0 0 (fun r u => ∃ (J : Nat → Nat → Int32), r = none ∧ u = (zSH zn, J, L) ∧ (fr [118, 119, 120, 121, 122, 123] I J ∧ rvM I J v w ∧ ∀ u, u ≤ 6 → u ≠ w → rvM I J u u)) := by
  obtain ⟨rfl, hv⟩ := q0
  obtain ⟨rfl, hw⟩ := q1
  have tv : (nI v).toNatClampNeg = v := nI_clamp (by omega)
  have tw : (nI w).toNatClampNeg = w := nI_clamp (by omega)
  have v7 : vp_in (nI v) 7 := vin_nI (by omega) (by omega)
  have w7 : vp_in (nI w) 7 := vin_nI (by omega) (by omega)
  have ea : ∀ (c x i : Nat), nI c * nI x + nI i = nI (c * x + i) := fun c x i => by rw [pk_mul, nI_add]
  have loop3 : ∀ i J, i ≤ 9 → (fr [118, 119, 120, 122] I J ∧ (∀ j, J 118 j = if 200 * w ≤ j ∧ j < 200 * w + 200 then I 118 (j - 200 * w + 200 * v) else I 118 j) ∧ (∀ j, J 119 j = if 19 * w ≤ j ∧ j < 19 * w + 19 then I 119 (j - 19 * w + 19 * v) else I 119 j) ∧ (∀ j, J 120 j = if 19 * w ≤ j ∧ j < 19 * w + 19 then I 120 (j - 19 * w + 19 * v) else I 120 j) ∧ ∀ j, J 122 j = if 9 * w ≤ j ∧ j < 9 * w + i then I 122 (j - 9 * w + 9 * v) else I 122 j) → RX12_copyView zn d (fun r u => ∃ (J : Nat → Nat → Int32), r = none ∧ u = (zSH zn, J, L) ∧ (fr [118, 119, 120, 121, 122, 123] I J ∧ rvM I J v w ∧ ∀ u, u ≤ 6 → u ≠ w → rvM I J u u)) 99 [some (.ref 115), some (.int (nI v)), some (.int (nI w)), some (.int (nI i))] [] (zSH zn, J, L) := by
    refine zup (fun J hJ => ?_) (fun i J hi hJ ih => ?_)
    · obtain ⟨f0, f1, f2, f3, f4⟩ := hJ
      refine gX12_copyView_99 _ _ _ J L ⟨fun _ => ⟨v7, w7, _, rfl, rfl, ?_, ?_, fun u hu huw => ?_⟩, fun h => absurd (by decide) h⟩
      · exact fr_trans (fr_sub f0 (by decide)) (fr_trans (fr_zi (by decide)) (fr_zi (by decide)))
      · rw [tv, tw]
        refine ⟨fun i hi => ?_, fun i hi => ⟨?_, ?_⟩, fun i hi => ?_, ?_, ?_⟩
        · rw [zi_ne (by decide), zi_ne (by decide), f1, if_pos (by omega)]; congr 1; omega
        · rw [zi_ne (by decide), zi_ne (by decide), f2, if_pos (by omega)]; congr 1; omega
        · rw [zi_ne (by decide), zi_ne (by decide), f3, if_pos (by omega)]; congr 1; omega
        · rw [zi_ne (by decide), zi_ne (by decide), f4, if_pos (by omega)]; congr 1; omega
        · rw [zi_at, if_pos ⟨rfl, rfl⟩, zi_ne (by decide), f0 121 (by decide)]
        · rw [zi_ne (by decide), zi_at, if_pos ⟨rfl, rfl⟩, f0 123 (by decide)]
      · rw [tv, tw]
        refine ⟨fun i hi => ?_, fun i hi => ⟨?_, ?_⟩, fun i hi => ?_, ?_, ?_⟩
        · rw [zi_ne (by decide), zi_ne (by decide), f1, if_neg (by omega)]
        · rw [zi_ne (by decide), zi_ne (by decide), f2, if_neg (by omega)]
        · rw [zi_ne (by decide), zi_ne (by decide), f3, if_neg (by omega)]
        · rw [zi_ne (by decide), zi_ne (by decide), f4, if_neg (by omega)]
        · rw [zi_at, if_neg (fun z => huw z.2), zi_ne (by decide), f0 121 (by decide)]
        · rw [zi_ne (by decide), zi_at, if_neg (fun z => huw z.2), f0 123 (by decide)]
    · obtain ⟨f0, f1, f2, f3, f4⟩ := hJ
      refine gX12_copyView_99 _ _ _ J L ⟨fun h => absurd h (by rw [nl 9, nI_leI (by decide) (by omega)]; omega), fun _ => ?_⟩
      rw [nl 9, ea, ea, nI_clamp (by omega), nI_clamp (by omega), nI_1]
      refine ⟨vin_nI (by omega) (by omega), vin_nI (by omega) (by omega), ih _ ⟨fr_trans f0 (fr_zi (by decide)), fun j => by rw [zi_ne (by decide)]; exact f1 j, fun j => by rw [zi_ne (by decide)]; exact f2 j, fun j => by rw [zi_ne (by decide)]; exact f3 j, fun j => ?_⟩⟩
      rw [zi_at]
      by_cases hj : j = 9 * w + i
      · subst hj
        rw [if_pos ⟨rfl, rfl⟩, if_pos (by omega), f4, if_neg (by omega)]; congr 1; omega
      · rw [if_neg (fun z => hj z.2), f4]
        by_cases h2 : 9 * w ≤ j ∧ j < 9 * w + i
        · rw [if_pos h2, if_pos (by omega)]
        · rw [if_neg h2, if_neg (by omega)]
  have loop2 : ∀ i J, i ≤ 19 → (fr [118, 119, 120] I J ∧ (∀ j, J 118 j = if 200 * w ≤ j ∧ j < 200 * w + 200 then I 118 (j - 200 * w + 200 * v) else I 118 j) ∧ (∀ j, J 119 j = if 19 * w ≤ j ∧ j < 19 * w + i then I 119 (j - 19 * w + 19 * v) else I 119 j) ∧ ∀ j, J 120 j = if 19 * w ≤ j ∧ j < 19 * w + i then I 120 (j - 19 * w + 19 * v) else I 120 j) → RX12_copyView zn d (fun r u => ∃ (J : Nat → Nat → Int32), r = none ∧ u = (zSH zn, J, L) ∧ (fr [118, 119, 120, 121, 122, 123] I J ∧ rvM I J v w ∧ ∀ u, u ≤ 6 → u ≠ w → rvM I J u u)) 41 [some (.ref 115), some (.int (nI v)), some (.int (nI w)), some (.int (nI i))] [] (zSH zn, J, L) := by
    refine zup (fun J hJ => ?_) (fun i J hi hJ ih => ?_)
    · obtain ⟨f0, f1, f2, f3⟩ := hJ
      refine gX12_copyView_41 _ _ _ J L ⟨fun _ => ?_, fun h => absurd (by decide) h⟩
      exact loop3 0 J (by decide) ⟨fr_sub f0 (by decide), f1, f2, f3, fun j => by rw [if_neg (by omega), f0 122 (by decide)]⟩
    · obtain ⟨f0, f1, f2, f3⟩ := hJ
      refine gX12_copyView_41 _ _ _ J L ⟨fun h => absurd h (by rw [nl 19, nI_leI (by decide) (by omega)]; omega), fun _ => ?_⟩
      rw [nl 19, ea, ea, nI_clamp (by omega), nI_clamp (by omega), nI_1]
      refine ⟨vin_nI (by omega) (by omega), vin_nI (by omega) (by omega), ih _ ⟨fr_trans f0 (fr_trans (fr_zi (by decide)) (fr_zi (by decide))), fun j => by rw [zi_ne (by decide), zi_ne (by decide)]; exact f1 j, fun j => ?_, fun j => ?_⟩⟩
      · rw [zi_ne (by decide), zi_at]
        by_cases hj : j = 19 * w + i
        · subst hj
          rw [if_pos ⟨rfl, rfl⟩, if_pos (by omega), f2, if_neg (by omega)]; congr 1; omega
        · rw [if_neg (fun z => hj z.2), f2]
          by_cases h2 : 19 * w ≤ j ∧ j < 19 * w + i
          · rw [if_pos h2, if_pos (by omega)]
          · rw [if_neg h2, if_neg (by omega)]
      · rw [zi_at]
        by_cases hj : j = 19 * w + i
        · subst hj
          rw [if_pos ⟨rfl, rfl⟩, if_pos (by omega), zi_ne (by decide), f3, if_neg (by omega)]; congr 1; omega
        · rw [if_neg (fun z => hj z.2), zi_ne (by decide), f3]
          by_cases h2 : 19 * w ≤ j ∧ j < 19 * w + i
          · rw [if_pos h2, if_pos (by omega)]
          · rw [if_neg h2, if_neg (by omega)]
  have loop1 : ∀ i J, i ≤ 200 → (fr [118] I J ∧ ∀ j, J 118 j = if 200 * w ≤ j ∧ j < 200 * w + i then I 118 (j - 200 * w + 200 * v) else I 118 j) → RX12_copyView zn d (fun r u => ∃ (J : Nat → Nat → Int32), r = none ∧ u = (zSH zn, J, L) ∧ (fr [118, 119, 120, 121, 122, 123] I J ∧ rvM I J v w ∧ ∀ u, u ≤ 6 → u ≠ w → rvM I J u u)) 2 [some (.ref 115), some (.int (nI v)), some (.int (nI w)), some (.int (nI i))] [] (zSH zn, J, L) := by
    refine zup (fun J hJ => ?_) (fun i J hi hJ ih => ?_)
    · obtain ⟨f0, f1⟩ := hJ
      refine gX12_copyView_2 _ _ _ J L ⟨fun _ => ?_, fun h => absurd (by decide) h⟩
      exact loop2 0 J (by decide) ⟨fr_sub f0 (by decide), f1, fun j => by rw [if_neg (by omega), f0 119 (by decide)], fun j => by rw [if_neg (by omega), f0 120 (by decide)]⟩
    · obtain ⟨f0, f1⟩ := hJ
      refine gX12_copyView_2 _ _ _ J L ⟨fun h => absurd h (by rw [nl 200, nI_leI (by decide) (by omega)]; omega), fun _ => ?_⟩
      rw [nl 200, ea, ea, nI_clamp (by omega), nI_clamp (by omega), nI_1]
      refine ⟨vin_nI (by omega) (by omega), vin_nI (by omega) (by omega), ih _ ⟨fr_trans f0 (fr_zi (by decide)), fun j => ?_⟩⟩
      rw [zi_at]
      by_cases hj : j = 200 * w + i
      · subst hj
        rw [if_pos ⟨rfl, rfl⟩, if_pos (by omega), f1, if_neg (by omega)]; congr 1; omega
      · rw [if_neg (fun z => hj z.2), f1]
        by_cases h2 : 200 * w ≤ j ∧ j < 200 * w + i
        · rw [if_pos h2, if_pos (by omega)]
        · rw [if_neg h2, if_neg (by omega)]
  exact eX12_copyView _ _ I L (gX12_copyView_0 _ _ I L (loop1 0 I (by decide) ⟨fr_rf, fun j => by rw [if_neg (by omega)]⟩))
def rvO (I J : Nat → Nat → Int32) : Prop := fr [118, 119, 120, 121, 122, 123] I J ∧ ∀ u, u ≠ 2 → rvM I J u u
abbrev RX12_reads (zn d : Nat) (post : zP) : zK := zRun (zcal zty zcd false (d + 4)) kX12_reads (zLM zn) post
theorem eX12_reads {zn d : Nat} {post : zP} (x1 : Int32) (I : Nat → Nat → Int32) (L : Nat → Nat → Int64) (h : RX12_reads zn d post 0 [some (.ref 115), some (.int x1)] [] (zSH zn, I, L)) : zcal zty zcd false (d + 5) 151 [.ref 115, .int x1] (zSH zn, I, L) 0 0 post := zcal_of (d := d + 4) zmt151 zmc151 rfl (Nat.le_of_ble_eq_true rfl) h
theorem gX12_reads_0 {zn d : Nat} {post : zP} (x1 : Int32) (I : Nat → Nat → Int32) (L : Nat → Nat → Int64) (h : (∃ (T2 : Nat → Nat) (l3 : Nat), (zs x1 1) ∧ (I 117 (tn x1) = nI l3) ∧ (l3 ≤ 200) ∧ (∀ i, i < l3 → T2 i < 256 ∧ I 116 (200 * tn x1 + i) = nI (T2 i)) ∧ (∀ (J1 : Nat → Nat → Int32), (rKeep I J1 ∧ ((rdf T2 l3 0 zr0).1 = -4 → rDr J1 2 (rdf T2 l3 0 zr0).2)) → (¬ (rdf T2 l3 0 zr0).1 = (-4 : Int32) → post (some (.int (0 : Int32))) (zSH zn, J1, L)) ∧ ((rdf T2 l3 0 zr0).1 = (-4 : Int32) → (∃ (V8 : zVw), (okV V8) ∧ (rLn J1 (tn (2 : Int32)) V8) ∧ (zs (2 : Int32) 6) ∧ ((¬ (ringV V8) = (-4 : Int32) → post (some (.int (0 : Int32))) (zSH zn, J1, L)) ∧ ((ringV V8) = (-4 : Int32) → (∃ (V12 : zVw), (okV V12) ∧ (rLn J1 (tn (2 : Int32)) V12) ∧ (zs (2 : Int32) 6) ∧ (((lackV V12) = (-4 : Int32) → (∃ (V18 : zVw), (okV V18) ∧ (rLn J1 (tn (2 : Int32)) V18) ∧ (zs (2 : Int32) 6) ∧ (snV V18 (lea V18)) ∧ (∀ (J16 : Nat → Nat → Int32) (os17 : List Nat), (roS J1 J16 (tn (2 : Int32)) ∧ rOrd J16 (tn (2 : Int32)) V18 os17) → post (some (.int (1 : Int32))) (zSH zn, J16, L)))) ∧ (¬ (lackV V12) = (-4 : Int32) → post (some (.int (0 : Int32))) (zSH zn, J1, L))))))))))) : RX12_reads zn d post 0 [some (.ref 115), some (.int x1)] [] (zSH zn, I, L) := fun P hw hc => hc _ tX12_reads_0 _ _ _ (hc _ tX12_reads_1 _ _ _ ((by obtain ⟨T2, l3, hg4⟩ := h; exact hc _ tX12_reads_2 _ _ _ (⟨⟨_, _, _, rfl, (by decide), sh115⟩, ⟨Nat.le_of_ble_eq_true rfl, Nat.le_of_ble_eq_true rfl, zl1, zl2, _, ctX12_read x1 I L T2 l3 hg4.1 hg4.2.1 hg4.2.2.1 hg4.2.2.2.1, fun r u k24 => by obtain ⟨J1, rfl, rfl, p5⟩ := k24; exact ⟨zl3, zl4, hc _ tX12_reads_5 _ _ _ (hc _ tX12_reads_7 _ _ _ (⟨fun c6 => hc _ tX12_reads_30 _ _ _ (hc _ tX12_reads_31 _ _ _ (⟨fun _ => by decide, rfl, rfl, ((hg4.2.2.2.2 J1 p5).1 c6)⟩)), fun c7 => hc _ tX12_reads_10 _ _ _ (hc _ tX12_reads_11 _ _ _ ((by obtain ⟨V8, hg9⟩ := ((hg4.2.2.2.2 J1 p5).2 c7); exact hc _ tX12_reads_12 _ _ _ (⟨⟨_, _, _, rfl, (by decide), sh115⟩, ⟨Nat.le_of_ble_eq_true rfl, Nat.le_of_ble_eq_true rfl, zl1, zl2, _, ctX12_ringOf (2 : Int32) J1 L V8 hg9.1 hg9.2.1 hg9.2.2.1, fun r u k23 => by obtain ⟨rfl, rfl⟩ := k23; exact ⟨zl3, zl4, hc _ tX12_reads_15 _ _ _ (hc _ tX12_reads_17 _ _ _ (⟨fun c10 => hc _ tX12_reads_30 _ _ _ (hc _ tX12_reads_31 _ _ _ (⟨fun _ => by decide, rfl, rfl, (hg9.2.2.2.1 c10)⟩)), fun c11 => hc _ tX12_reads_20 _ _ _ (hc _ tX12_reads_21 _ _ _ ((by obtain ⟨V12, hg13⟩ := (hg9.2.2.2.2 c11); exact hc _ tX12_reads_22 _ _ _ (⟨⟨_, _, _, rfl, (by decide), sh115⟩, ⟨Nat.le_of_ble_eq_true rfl, Nat.le_of_ble_eq_true rfl, zl1, zl2, _, ctX12_lackOf (2 : Int32) J1 L V12 hg13.1 hg13.2.1 hg13.2.2.1, fun r u k22 => by obtain ⟨rfl, rfl⟩ := k22; exact ⟨zl3, zl4, hc _ tX12_reads_25 _ _ _ (hc _ tX12_reads_27 _ _ _ (⟨fun c14 => hc _ tX12_reads_32 _ _ _ (hc _ tX12_reads_33 _ _ _ ((by obtain ⟨V18, hg19⟩ := (hg13.2.2.2.1 c14); exact hc _ tX12_reads_34 _ _ _ (⟨⟨_, _, _, rfl, (by decide), sh115⟩, ⟨Nat.le_of_ble_eq_true rfl, Nat.le_of_ble_eq_true rfl, zl1, zl2, _, ctX12_layOrder (2 : Int32) J1 L V18 hg19.1 hg19.2.1 hg19.2.2.1 hg19.2.2.2.1, fun r u k21 => by obtain ⟨J16, os17, rfl, rfl, p20⟩ := k21; exact ⟨zl3, zl4, hc _ tX12_reads_37 _ _ _ (hc _ tX12_reads_38 _ _ _ (⟨fun _ => by decide, rfl, rfl, (hg19.2.2.2.2 J16 os17 p20)⟩))⟩⟩⟩)))), fun c15 => hc _ tX12_reads_30 _ _ _ (hc _ tX12_reads_31 _ _ _ (⟨fun _ => by decide, rfl, rfl, (hg13.2.2.2.2 c15)⟩))⟩))⟩⟩⟩))))⟩))⟩⟩⟩))))⟩))⟩⟩⟩))))
theorem ctX12_reads {zn d : Nat} (x1 : Int32) (I : Nat → Nat → Int32) (L : Nat → Nat → Int64) (T : Nat → Nat) (l : Nat) (q0 : zs x1 1) (q1 : I 117 (tn x1) = nI l) (q2 : l ≤ 200) (q3 : ∀ i, i < l → T i < 256 ∧ I 116 (200 * tn x1 + i) = nI (T i)) : zcal zty zcd false (d + 5) 151 [.ref 115, .int x1] (zSH zn, I, L) 0 0 (fun r u => ∃ (J : Nat → Nat → Int32), r = some (.int (if sdT T l then 1 else 0)) ∧ u = (zSH zn, J, L) ∧ (rvO I J ∧ (sdT T l → ∃ ps, rVw J 2 (rdf T l 0 zr0).2 ps))) := by
  have t2 : tn (2 : Int32) = 2 := by decide
  have z2 : zs (2 : Int32) 6 := ⟨2, by decide, by decide⟩
  refine eX12_reads _ I L (gX12_reads_0 _ I L ⟨T, l, q0, q1, q2, q3, fun J1 ⟨f1, f2⟩ => ⟨fun h => ?_, fun h => ?_⟩⟩)
  · have hn : ¬ sdT T l := fun z => h z.1
    exact ⟨J1, by rw [if_neg hn], rfl, ⟨fr_sub f1.1 (by decide), fun u hu => rvM_keep f1 hu⟩, fun z => absurd z hn⟩
  · obtain ⟨d1, d2, d3⟩ := f2 h
    rw [t2]
    refine ⟨_, d1, d2, z2, fun h2 => ?_, fun h2 => ⟨_, d1, d2, z2, fun h3 => ⟨_, d1, d2, z2, snV_of d1 (wAll_I 9 (by decide)) h2 h3, fun J2 ps ⟨p1, p2⟩ => ?_⟩, fun h3 => ?_⟩⟩
    · have hn : ¬ sdT T l := fun z => h2 z.2.1
      exact ⟨J1, by rw [if_neg hn], rfl, ⟨fr_sub f1.1 (by decide), fun u hu => rvM_keep f1 hu⟩, fun z => absurd z hn⟩
    · have hs : sdT T l := ⟨h, h2, h3⟩
      refine ⟨J2, by rw [if_pos hs], rfl, ⟨fr_trans (fr_sub f1.1 (by decide)) (fr_sub p1.1 (by decide)), fun u hu => rvM_t (rvM_keep f1 hu) (rvM_ro p1 hu)⟩, fun _ => ⟨ps, ⟨d1, ?_, ?_⟩, p2⟩⟩
      · exact rLn_fr d2 (p1.1 118 (by decide)) (p1.1 119 (by decide)) (p1.1 120 (by decide))
      · rw [p1.1 121 (by decide)]; exact d3
    · have hn : ¬ sdT T l := fun z => h3 z.2.2
      exact ⟨J1, by rw [if_neg hn], rfl, ⟨fr_sub f1.1 (by decide), fun u hu => rvM_keep f1 hu⟩, fun z => absurd z hn⟩

