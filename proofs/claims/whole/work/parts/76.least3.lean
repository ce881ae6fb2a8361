/-! LEAST, the reference's -/
def frB (q : Nat → Nat) (b y : Nat) : Bool := (List.range b).all (fun o => q o != y)
theorem frB_s (q : Nat → Nat) (b y : Nat) : frB q (b + 1) y = (frB q b y && q b != y) := by
  unfold frB
  rw [List.range_succ, List.all_append]
  simp
theorem frB_i {q : Nat → Nat} {b y : Nat} : frB q b y = true ↔ ∀ o, o < b → q o ≠ y := by
  unfold frB
  rw [List.all_eq_true]
  constructor
  · intro h o ho
    have := h o (List.mem_range.mpr ho)
    simpa using this
  · intro h o ho
    have := h o (List.mem_range.mp ho)
    simpa using this
abbrev RX12_isFree (zn d : Nat) (post : zP) : zK := zRun (zcal zty zcd false (d + 0)) kX12_isFree (zLM zn) post
theorem eX12_isFree {zn d : Nat} {post : zP} (x1 : Int32) (x2 : Int32) (I : Nat → Nat → Int32) (L : Nat → Nat → Int64) (h : RX12_isFree zn d post 0 [some (.ref 115), some (.int x1), some (.int x2), none, none] [] (zSH zn, I, L)) : zcal zty zcd false (d + 1) 192 [.ref 115, .int x1, .int x2] (zSH zn, I, L) 0 0 post := zcal_of (d := d + 0) zmt192 zmc192 rfl (Nat.le_of_ble_eq_true rfl) h
theorem gX12_isFree_0 {zn d : Nat} {post : zP} (x1 : Int32) (x2 : Int32) (I : Nat → Nat → Int32) (L : Nat → Nat → Int64) (h : RX12_isFree zn d post 5 [some (.ref 115), some (.int x1), some (.int x2), some (.int (1 : Int32)), some (.int (0 : Int32))] [] (zSH zn, I, L)) : RX12_isFree zn d post 0 [some (.ref 115), some (.int x1), some (.int x2), none, none] [] (zSH zn, I, L) := fun P hw hc => hc _ tX12_isFree_0 _ _ _ (hc _ tX12_isFree_1 _ _ _ (hc _ tX12_isFree_2 _ _ _ (hc _ tX12_isFree_3 _ _ _ (h P hw hc))))
theorem gX12_isFree_5 {zn d : Nat} {post : zP} (x1 : Int32) (x2 : Int32) (x3 : Int32) (x4 : Int32) (I : Nat → Nat → Int32) (L : Nat → Nat → Int64) (h : (x1 ≤ x4 → (x3 = 0 ∨ x3 = 1) ∧ post (some (.int x3)) (zSH zn, I, L)) ∧ (¬ x1 ≤ x4 → (x3 = 0 → RX12_isFree zn d post 5 [some (.ref 115), some (.int x1), some (.int x2), some (.int (0 : Int32)), some (.int (x4 + (1 : Int32)))] [] (zSH zn, I, L)) ∧ (¬ x3 = 0 → vp_in x4 7 ∧ (((I 141 (x4).toNatClampNeg) = x2 → RX12_isFree zn d post 5 [some (.ref 115), some (.int x1), some (.int x2), some (.int (0 : Int32)), some (.int (x4 + (1 : Int32)))] [] (zSH zn, I, L)) ∧ (¬ (I 141 (x4).toNatClampNeg) = x2 → RX12_isFree zn d post 5 [some (.ref 115), some (.int x1), some (.int x2), some (.int (1 : Int32)), some (.int (x4 + (1 : Int32)))] [] (zSH zn, I, L)))))) : RX12_isFree zn d post 5 [some (.ref 115), some (.int x1), some (.int x2), some (.int x3), some (.int x4)] [] (zSH zn, I, L) := fun P hw hc => hc _ tX12_isFree_5 _ _ _ (hc _ tX12_isFree_7 _ _ _ (hc _ tX12_isFree_8 _ _ _ (⟨fun c1 => hc _ tX12_isFree_38 _ _ _ (hc _ tX12_isFree_39 _ _ _ (⟨fun _ => (h.1 c1).1, rfl, rfl, (h.1 c1).2⟩)), fun c2 => hc _ tX12_isFree_11 _ _ _ (hc _ tX12_isFree_12 _ _ _ (⟨fun c3 => hc _ tX12_isFree_30 _ _ _ (hc _ tX12_isFree_31 _ _ _ (hc _ tX12_isFree_32 _ _ _ (hc _ tX12_isFree_35 _ _ _ (((h.2 c2).1 c3) P hw hc)))), fun c4 => hc _ tX12_isFree_15 _ _ _ (hc _ tX12_isFree_16 _ _ _ (⟨_, _, sh115, (by decide), rfl, hc _ tX12_isFree_19 _ _ _ (hc _ tX12_isFree_21 _ _ _ (⟨_, _, _, sh141, Or.inl ⟨rfl, (by decide)⟩, ((h.2 c2).2 c4).1, hc _ tX12_isFree_22 _ _ _ (hc _ tX12_isFree_23 _ _ _ (⟨fun c5 => hc _ tX12_isFree_30 _ _ _ (hc _ tX12_isFree_31 _ _ _ (hc _ tX12_isFree_32 _ _ _ (hc _ tX12_isFree_35 _ _ _ ((((h.2 c2).2 c4).2.1 c5) P hw hc)))), fun c6 => hc _ tX12_isFree_26 _ _ _ (hc _ tX12_isFree_27 _ _ _ (hc _ tX12_isFree_31 _ _ _ (hc _ tX12_isFree_32 _ _ _ (hc _ tX12_isFree_35 _ _ _ ((((h.2 c2).2 c4).2.2 c6) P hw hc)))))⟩))⟩))⟩))⟩))⟩)))
theorem ctX12_isFree {zn d : Nat} (x1 : Int32) (x2 : Int32) (I : Nat → Nat → Int32) (L : Nat → Nat → Int64) (q : Nat → Nat) (b : Nat) (y : Nat) (q0 : x1 = nI b ∧ b ≤ 7) (q1 : x2 = nI y ∧ y < 9) (q2 : ∀ j, j < b → I 141 j = nI (q j) ∧ q j < 8) : zcal zty zcd false (d + 1) 192 [.ref 115, .int x1, .int x2] (zSH zn, I, L) 0 0 (fun r u => r = some (.int (if frB q b y = true then 1 else 0)) ∧ u = (zSH zn, I, L)) := by
  obtain ⟨rfl, hb⟩ := q0
  obtain ⟨rfl, hy⟩ := q1
  have loop : ∀ n (u : Unit), n ≤ b → True → RX12_isFree zn d (fun r u => r = some (.int (if frB q b y = true then 1 else 0)) ∧ u = (zSH zn, I, L)) 5 [some (.ref 115), some (.int (nI b)), some (.int (nI y)), some (.int (if frB q n y = true then 1 else 0)), some (.int (nI n))] [] (zSH zn, I, L) := by
    refine zup (fun u _ => ?_) (fun n u hn _ ih => ?_)
    · exact gX12_isFree_5 _ _ _ _ I L ⟨fun _ => ⟨zb_01, rfl, rfl⟩, fun hc => absurd (by rw [nI_leI (by omega) (by omega)]; exact Nat.le_refl _) hc⟩
    · refine gX12_isFree_5 _ _ _ _ I L ⟨fun hc => absurd hc (by rw [nI_leI (by omega) (by omega)]; omega), fun _ => ⟨fun h => ?_, fun h => ⟨vin_nI (by omega) (by omega), ?_⟩⟩⟩
      · have h1 := zb_e h
        have hih := ih u trivial
        rw [if_neg (show ¬ frB q (n + 1) y = true by rw [frB_s, Bool.and_eq_true]; exact fun z => h1 z.1)] at hih
        rw [nI_1]; exact hih
      · have h1 := zb_n h
        have hih := ih u trivial
        have hq := q2 n hn
        rw [nI_clamp (by omega), hq.1, nI_eq (by omega) (by omega), nI_1]
        refine ⟨fun h2 => ?_, fun h2 => ?_⟩
        · rw [if_neg (show ¬ frB q (n + 1) y = true by rw [frB_s, Bool.and_eq_true, h2]; simp)] at hih; exact hih
        · rw [if_pos (show frB q (n + 1) y = true by rw [frB_s, Bool.and_eq_true]; exact ⟨h1, by simpa using h2⟩)] at hih; exact hih
  have h0 := loop 0 () (Nat.zero_le _) trivial
  exact eX12_isFree _ _ I L (gX12_isFree_0 _ _ I L h0)
abbrev RX12_layLeast (zn d : Nat) (post : zP) : zK := zRun (zcal zty zcd false (d + 2)) kX12_layLeast (zLM zn) post
theorem eX12_layLeast {zn d : Nat} {post : zP} (I : Nat → Nat → Int32) (L : Nat → Nat → Int64) (h : RX12_layLeast zn d post 0 [some (.ref 115), none, none, none, none] [] (zSH zn, I, L)) : zcal zty zcd false (d + 3) 193 [.ref 115] (zSH zn, I, L) 0 0 post := zcal_of (d := d + 2) zmt193 zmc193 rfl (Nat.le_of_ble_eq_true rfl) h
theorem gX12_layLeast_0 {zn d : Nat} {post : zP} (I : Nat → Nat → Int32) (L : Nat → Nat → Int64) (h : RX12_layLeast zn d post 12 [some (.ref 115), some (.int (1000000 : Int32)), some (.int (0 : Int32)), none, none] [] (zSH zn, (zi I 141 0 (-1 : Int32)), L)) : RX12_layLeast zn d post 0 [some (.ref 115), none, none, none, none] [] (zSH zn, I, L) := fun P hw hc => hc _ tX12_layLeast_0 _ _ _ (hc _ tX12_layLeast_2 _ _ _ (hc _ tX12_layLeast_3 _ _ _ (hc _ tX12_layLeast_4 _ _ _ (hc _ tX12_layLeast_5 _ _ _ (hc _ tX12_layLeast_6 _ _ _ (⟨_, _, sh115, (by decide), rfl, hc _ tX12_layLeast_9 _ _ _ (hc _ tX12_layLeast_10 _ _ _ (hc _ tX12_layLeast_11 _ _ _ (⟨_, _, sh141, (by decide), zvin (by decide), h P hw hc⟩)))⟩))))))
theorem gX12_layLeast_12 {zn d : Nat} {post : zP} (x1 : Int32) (x2 : Int32) (I : Nat → Nat → Int32) (L : Nat → Nat → Int64) (h : (x2 < 0 → post (some (.int x1)) (zSH zn, I, L)) ∧ (¬ x2 < 0 → (¬ x2 = (I 115 27) → vp_in x2 7 ∧ (RX12_layLeast zn d post 83 [some (.ref 115), some (.int x1), some (.int x2), some (.int ((I 141 (x2).toNatClampNeg) + (1 : Int32))), none] [] (zSH zn, I, L))) ∧ (x2 = (I 115 27) → (∃ (B5 : Nat) (M6 : Nat) (p7 : Nat → Nat) (nb8 : Nat → Nat), (I 115 27 = nI B5 ∧ B5 ≤ 7) ∧ (I 115 29 = nI M6 ∧ M6 ≤ 8) ∧ (plC I 141 B5 p7) ∧ (ntR I 140 B5 M6 nb8) ∧ ((x1 ≤ (nI (wa B5 M6 nb8 p7)) → RX12_layLeast zn d post 12 [some (.ref 115), some (.int x1), some (.int (x2 + (-1 : Int32))), none, none] [] (zSH zn, I, L)) ∧ (¬ x1 ≤ (nI (wa B5 M6 nb8 p7)) → RX12_layLeast zn d post 39 [some (.ref 115), some (.int (nI (wa B5 M6 nb8 p7))), some (.int x2), some (.int (nI (wa B5 M6 nb8 p7))), some (.int (0 : Int32))] [] (zSH zn, I, L))))))) : RX12_layLeast zn d post 12 [some (.ref 115), some (.int x1), some (.int x2), none, none] [] (zSH zn, I, L) := fun P hw hc => hc _ tX12_layLeast_12 _ _ _ (hc _ tX12_layLeast_13 _ _ _ (⟨fun c1 => hc _ tX12_layLeast_144 _ _ _ (hc _ tX12_layLeast_145 _ _ _ (⟨nofun, rfl, rfl, (h.1 c1)⟩)), fun c2 => hc _ tX12_layLeast_16 _ _ _ (hc _ tX12_layLeast_17 _ _ _ (hc _ tX12_layLeast_18 _ _ _ (⟨_, sh115, (by decide), hc _ tX12_layLeast_21 _ _ _ (⟨fun c3 => hc _ tX12_layLeast_74 _ _ _ (hc _ tX12_layLeast_75 _ _ _ (⟨_, _, sh115, (by decide), rfl, hc _ tX12_layLeast_78 _ _ _ (hc _ tX12_layLeast_79 _ _ _ (⟨_, _, _, sh141, Or.inl ⟨rfl, (by decide)⟩, ((h.2 c2).1 c3).1, hc _ tX12_layLeast_80 _ _ _ (hc _ tX12_layLeast_81 _ _ _ (hc _ tX12_layLeast_82 _ _ _ (((h.2 c2).1 c3).2 P hw hc)))⟩))⟩)), fun c4 => hc _ tX12_layLeast_24 _ _ _ ((by obtain ⟨B5, M6, p7, nb8, hg9⟩ := ((h.2 c2).2 c4); exact hc _ tX12_layLeast_25 _ _ _ (⟨⟨_, _, _, rfl, (by decide), sh115⟩, ⟨Nat.le_of_ble_eq_true rfl, Nat.le_of_ble_eq_true rfl, zl1, zl2, _, ctX12_allWire I L B5 M6 p7 nb8 hg9.1 hg9.2.1 hg9.2.2.1 hg9.2.2.2.1, fun r u k12 => by obtain ⟨rfl, rfl⟩ := k12; exact ⟨zl3, zl4, hc _ tX12_layLeast_28 _ _ _ (hc _ tX12_layLeast_29 _ _ _ (hc _ tX12_layLeast_30 _ _ _ (hc _ tX12_layLeast_31 _ _ _ (⟨fun c10 => hc _ tX12_layLeast_68 _ _ _ (hc _ tX12_layLeast_71 _ _ _ (hw _ _ _ _ _ (zwk_s (zwk_s (zwk_s (zwk_n (zwk_s zwk_nil))))) ((hg9.2.2.2.2.1 c10) P hw hc))), fun c11 => hc _ tX12_layLeast_34 _ _ _ (hc _ tX12_layLeast_35 _ _ _ (hc _ tX12_layLeast_36 _ _ _ (hc _ tX12_layLeast_37 _ _ _ ((hg9.2.2.2.2.2 c11) P hw hc))))⟩))))⟩⟩⟩)))⟩)⟩)))⟩))
theorem gX12_layLeast_39 {zn d : Nat} {post : zP} (x1 : Int32) (x2 : Int32) (x3 : Int32) (x4 : Int32) (I : Nat → Nat → Int32) (L : Nat → Nat → Int64) (h : ((I 115 27) ≤ x4 → RX12_layLeast zn d post 12 [some (.ref 115), some (.int x1), some (.int (x2 + (-1 : Int32))), none, none] [] (zSH zn, I, L)) ∧ (¬ (I 115 27) ≤ x4 → vp_in x4 7 ∧ (RX12_layLeast zn d post 39 [some (.ref 115), some (.int x1), some (.int x2), some (.int x3), some (.int (x4 + (1 : Int32)))] [] (zSH zn, (zi I 142 (x4).toNatClampNeg (I 141 (x4).toNatClampNeg)), L)))) : RX12_layLeast zn d post 39 [some (.ref 115), some (.int x1), some (.int x2), some (.int x3), some (.int x4)] [] (zSH zn, I, L) := fun P hw hc => hc _ tX12_layLeast_39 _ _ _ (hc _ tX12_layLeast_41 _ _ _ (hc _ tX12_layLeast_42 _ _ _ (⟨_, sh115, (by decide), hc _ tX12_layLeast_45 _ _ _ (⟨fun c1 => hc _ tX12_layLeast_68 _ _ _ (hc _ tX12_layLeast_71 _ _ _ (hw _ _ _ _ _ (zwk_s (zwk_s (zwk_s (zwk_n (zwk_n zwk_nil))))) ((h.1 c1) P hw hc))), fun c2 => hc _ tX12_layLeast_48 _ _ _ (hc _ tX12_layLeast_49 _ _ _ (⟨_, _, sh115, (by decide), rfl, hc _ tX12_layLeast_52 _ _ _ (hc _ tX12_layLeast_54 _ _ _ (hc _ tX12_layLeast_55 _ _ _ (⟨_, _, sh115, (by decide), rfl, hc _ tX12_layLeast_58 _ _ _ (hc _ tX12_layLeast_60 _ _ _ (⟨_, _, _, sh141, Or.inl ⟨rfl, (by decide)⟩, (h.2 c2).1, hc _ tX12_layLeast_61 _ _ _ (⟨_, _, sh142, (by decide), (h.2 c2).1, hc _ tX12_layLeast_62 _ _ _ (hc _ tX12_layLeast_65 _ _ _ ((h.2 c2).2 P hw hc))⟩)⟩))⟩)))⟩))⟩)⟩)))
theorem gX12_layLeast_83 {zn d : Nat} {post : zP} (x1 : Int32) (x2 : Int32) (x3 : Int32) (I : Nat → Nat → Int32) (L : Nat → Nat → Int64) (h : ((8 : Int32) ≤ x3 → vp_in x2 7 ∧ ((¬ x3 = (8 : Int32) → (((zi I 141 (x2).toNatClampNeg x3) 115 27) ≤ (x2 + (1 : Int32)) → RX12_layLeast zn d post 12 [some (.ref 115), some (.int x1), some (.int (x2 + (1 : Int32))), none, none] [] (zSH zn, (zi I 141 (x2).toNatClampNeg x3), L)) ∧ (¬ ((zi I 141 (x2).toNatClampNeg x3) 115 27) ≤ (x2 + (1 : Int32)) → vp_in (x2 + (1 : Int32)) 7 ∧ (RX12_layLeast zn d post 12 [some (.ref 115), some (.int x1), some (.int (x2 + (1 : Int32))), none, none] [] (zSH zn, (zi (zi I 141 (x2).toNatClampNeg x3) 141 ((x2 + (1 : Int32))).toNatClampNeg (-1 : Int32)), L)))) ∧ (x3 = (8 : Int32) → RX12_layLeast zn d post 12 [some (.ref 115), some (.int x1), some (.int (x2 + (-1 : Int32))), none, none] [] (zSH zn, (zi I 141 (x2).toNatClampNeg x3), L)))) ∧ (¬ (8 : Int32) ≤ x3 → (∃ (q7 : Nat → Nat) (b8 : Nat) (y9 : Nat), (x2 = nI b8 ∧ b8 ≤ 7) ∧ (x3 = nI y9 ∧ y9 < 9) ∧ (∀ j, j < b8 → I 141 j = nI (q7 j) ∧ q7 j < 8) ∧ (((frB q7 b8 y9 = true) → vp_in x2 7 ∧ ((¬ x3 = (8 : Int32) → (((zi I 141 (x2).toNatClampNeg x3) 115 27) ≤ (x2 + (1 : Int32)) → RX12_layLeast zn d post 12 [some (.ref 115), some (.int x1), some (.int (x2 + (1 : Int32))), none, none] [] (zSH zn, (zi I 141 (x2).toNatClampNeg x3), L)) ∧ (¬ ((zi I 141 (x2).toNatClampNeg x3) 115 27) ≤ (x2 + (1 : Int32)) → vp_in (x2 + (1 : Int32)) 7 ∧ (RX12_layLeast zn d post 12 [some (.ref 115), some (.int x1), some (.int (x2 + (1 : Int32))), none, none] [] (zSH zn, (zi (zi I 141 (x2).toNatClampNeg x3) 141 ((x2 + (1 : Int32))).toNatClampNeg (-1 : Int32)), L)))) ∧ (x3 = (8 : Int32) → RX12_layLeast zn d post 12 [some (.ref 115), some (.int x1), some (.int (x2 + (-1 : Int32))), none, none] [] (zSH zn, (zi I 141 (x2).toNatClampNeg x3), L)))) ∧ (¬ ((frB q7 b8 y9 = true)) → RX12_layLeast zn d post 83 [some (.ref 115), some (.int x1), some (.int x2), some (.int (x3 + (1 : Int32))), none] [] (zSH zn, I, L)))))) : RX12_layLeast zn d post 83 [some (.ref 115), some (.int x1), some (.int x2), some (.int x3), none] [] (zSH zn, I, L) := fun P hw hc => hc _ tX12_layLeast_83 _ _ _ (hc _ tX12_layLeast_84 _ _ _ (hc _ tX12_layLeast_86 _ _ _ (⟨fun c1 => hc _ tX12_layLeast_104 _ _ _ (hc _ tX12_layLeast_105 _ _ _ (⟨_, _, sh115, (by decide), rfl, hc _ tX12_layLeast_108 _ _ _ (hc _ tX12_layLeast_109 _ _ _ (hc _ tX12_layLeast_110 _ _ _ (⟨_, _, sh141, (by decide), (h.1 c1).1, hc _ tX12_layLeast_111 _ _ _ (hc _ tX12_layLeast_112 _ _ _ (hc _ tX12_layLeast_114 _ _ _ (⟨fun c3 => hc _ tX12_layLeast_123 _ _ _ (hc _ tX12_layLeast_126 _ _ _ (hc _ tX12_layLeast_127 _ _ _ (hc _ tX12_layLeast_128 _ _ _ (⟨_, sh115, (by decide), hc _ tX12_layLeast_131 _ _ _ (⟨fun c5 => hc _ tX12_layLeast_141 _ _ _ (hw _ _ _ _ _ (zwk_s (zwk_s (zwk_s (zwk_n (zwk_s zwk_nil))))) ((((h.1 c1).2.1 c3).1 c5) P hw hc)), fun c6 => hc _ tX12_layLeast_134 _ _ _ (hc _ tX12_layLeast_135 _ _ _ (⟨_, _, sh115, (by decide), rfl, hc _ tX12_layLeast_138 _ _ _ (hc _ tX12_layLeast_139 _ _ _ (hc _ tX12_layLeast_140 _ _ _ (⟨_, _, sh141, (by decide), (((h.1 c1).2.1 c3).2 c6).1, hc _ tX12_layLeast_141 _ _ _ (hw _ _ _ _ _ (zwk_s (zwk_s (zwk_s (zwk_n (zwk_s zwk_nil))))) ((((h.1 c1).2.1 c3).2 c6).2 P hw hc))⟩)))⟩))⟩)⟩)))), fun c4 => hc _ tX12_layLeast_117 _ _ _ (hc _ tX12_layLeast_120 _ _ _ (hc _ tX12_layLeast_141 _ _ _ (hw _ _ _ _ _ (zwk_s (zwk_s (zwk_s (zwk_n (zwk_s zwk_nil))))) (((h.1 c1).2.2 c4) P hw hc))))⟩)))⟩)))⟩)), fun c2 => hc _ tX12_layLeast_89 _ _ _ (hc _ tX12_layLeast_90 _ _ _ (hc _ tX12_layLeast_91 _ _ _ ((by obtain ⟨q7, b8, y9, hg10⟩ := (h.2 c2); exact hc _ tX12_layLeast_92 _ _ _ (⟨⟨_, _, _, rfl, (by decide), sh115⟩, ⟨Nat.le_of_ble_eq_true rfl, Nat.le_of_ble_eq_true rfl, zl1, zl2, _, ctX12_isFree x2 x3 I L q7 b8 y9 hg10.1 hg10.2.1 hg10.2.2.1, fun r u k17 => by obtain ⟨rfl, rfl⟩ := k17; exact ⟨zl3, zl4, hc _ tX12_layLeast_95 _ _ _ (⟨fun c11 => hc _ tX12_layLeast_104 _ _ _ (hc _ tX12_layLeast_105 _ _ _ (⟨_, _, sh115, (by decide), rfl, hc _ tX12_layLeast_108 _ _ _ (hc _ tX12_layLeast_109 _ _ _ (hc _ tX12_layLeast_110 _ _ _ (⟨_, _, sh141, (by decide), (hg10.2.2.2.1 (zb_n c11)).1, hc _ tX12_layLeast_111 _ _ _ (hc _ tX12_layLeast_112 _ _ _ (hc _ tX12_layLeast_114 _ _ _ (⟨fun c13 => hc _ tX12_layLeast_123 _ _ _ (hc _ tX12_layLeast_126 _ _ _ (hc _ tX12_layLeast_127 _ _ _ (hc _ tX12_layLeast_128 _ _ _ (⟨_, sh115, (by decide), hc _ tX12_layLeast_131 _ _ _ (⟨fun c15 => hc _ tX12_layLeast_141 _ _ _ (hw _ _ _ _ _ (zwk_s (zwk_s (zwk_s (zwk_n (zwk_s zwk_nil))))) ((((hg10.2.2.2.1 (zb_n c11)).2.1 c13).1 c15) P hw hc)), fun c16 => hc _ tX12_layLeast_134 _ _ _ (hc _ tX12_layLeast_135 _ _ _ (⟨_, _, sh115, (by decide), rfl, hc _ tX12_layLeast_138 _ _ _ (hc _ tX12_layLeast_139 _ _ _ (hc _ tX12_layLeast_140 _ _ _ (⟨_, _, sh141, (by decide), (((hg10.2.2.2.1 (zb_n c11)).2.1 c13).2 c16).1, hc _ tX12_layLeast_141 _ _ _ (hw _ _ _ _ _ (zwk_s (zwk_s (zwk_s (zwk_n (zwk_s zwk_nil))))) ((((hg10.2.2.2.1 (zb_n c11)).2.1 c13).2 c16).2 P hw hc))⟩)))⟩))⟩)⟩)))), fun c14 => hc _ tX12_layLeast_117 _ _ _ (hc _ tX12_layLeast_120 _ _ _ (hc _ tX12_layLeast_141 _ _ _ (hw _ _ _ _ _ (zwk_s (zwk_s (zwk_s (zwk_n (zwk_s zwk_nil))))) (((hg10.2.2.2.1 (zb_n c11)).2.2 c14) P hw hc))))⟩)))⟩)))⟩)), fun c12 => hc _ tX12_layLeast_98 _ _ _ (hc _ tX12_layLeast_101 _ _ _ ((hg10.2.2.2.2 (zb_e c12)) P hw hc))⟩)⟩⟩⟩)))))⟩)))
def lvI (I J : Nat → Nat → Int32) (B M : Nat) (nb : Nat → Nat) (S : (Nat → Nat) → Prop) (W : Nat) (lp : Nat → Nat) : Prop := fr [141, 142] I J ∧ W ≤ 1000000 ∧ Bst B M nb 1000000 S W lp ∧ ∀ j, j < B → J 142 j = nI (lp j)
theorem ctX12_layLeast {zn d : Nat} (I : Nat → Nat → Int32) (L : Nat → Nat → Int64) (B : Nat) (M : Nat) (nb : Nat → Nat) (q0 : I 115 27 = nI B ∧ B ≤ 7 ∧ 0 < B) (q1 : I 115 29 = nI M ∧ M ≤ 8) (q2 : ntR I 140 B M nb) : zcal zty zcd false (d + 3) 193 [.ref 115] (zSH zn, I, L) 0 0 (fun r u => ∃ (J : Nat → Nat → Int32), ∃ (W : Nat), ∃ (lp : Nat → Nat), r = some (.int (nI W)) ∧ u = (zSH zn, J, L) ∧ (fr [141, 142] I J ∧ Bov B M nb W lp ∧ ∀ j, j < B → J 142 j = nI (lp j))) := by
  obtain ⟨eB, hB, hB0⟩ := q0
  obtain ⟨eM, hM⟩ := q1
  have env : ∀ J, fr [141, 142] I J → (J 115 27 = nI B ∧ B ≤ 7) ∧ (J 115 29 = nI M ∧ M ≤ 8) ∧ ntR J 140 B M nb := fun J hJ => ⟨⟨by rw [hJ 115 (by decide)]; exact eB, hB⟩, ⟨by rw [hJ 115 (by decide)]; exact eM, hM⟩, fun k hk => by rw [hJ 140 (by decide)]; exact q2 k hk⟩
  have lev : ∀ (m b : Nat), b + m = B → ∀ (tr : Nat → Nat) (W : Nat) (lp : Nat → Nat) (J : Nat → Nat → Int32), okA b tr → (∀ j, j < b → J 141 j = nI (tr j)) → (b < B → J 141 b = -1) → lvI I J B M nb (bef b tr) W lp → (∀ (W' : Nat) (lp' : Nat → Nat) (J' : Nat → Nat → Int32), (∀ j, j < b → J' 141 j = nI (tr j)) → lvI I J' B M nb (fun q => bef b tr q ∨ ext b tr q) W' lp' → RX12_layLeast zn d (fun r u => ∃ (J : Nat → Nat → Int32), ∃ (W : Nat), ∃ (lp : Nat → Nat), r = some (.int (nI W)) ∧ u = (zSH zn, J, L) ∧ (fr [141, 142] I J ∧ Bov B M nb W lp ∧ ∀ j, j < B → J 142 j = nI (lp j))) 12 [some (.ref 115), some (.int (nI W')), some (.int (nI b + (-1))), none, none] [] (zSH zn, J', L)) → RX12_layLeast zn d (fun r u => ∃ (J : Nat → Nat → Int32), ∃ (W : Nat), ∃ (lp : Nat → Nat), r = some (.int (nI W)) ∧ u = (zSH zn, J, L) ∧ (fr [141, 142] I J ∧ Bov B M nb W lp ∧ ∀ j, j < B → J 142 j = nI (lp j))) 12 [some (.ref 115), some (.int (nI W)), some (.int (nI b)), none, none] [] (zSH zn, J, L) := by
    intro m
    induction m with
    | zero =>
      intro b hb tr W lp J a1 a2 a3 a4 k
      have hbB : b = B := by omega
      subst hbB
      obtain ⟨f1, f2, f3, f4⟩ := a4
      obtain ⟨e1, e2, e3⟩ := env J f1
      have hw := wa_le (B := b) (M := M) (nb := nb) (p := tr) a1.1
      refine gX12_layLeast_12 _ _ J L ⟨fun h => absurd h (by rw [nl0, nI_ltI (by omega) (by decide)]; omega), fun _ => ⟨fun h => absurd e1.1.symm h, fun _ => ⟨b, M, tr, nb, e1, e2, fun j hj => ⟨a2 j hj, a1.1 j hj⟩, e3, ?_⟩⟩⟩
      rw [nI_leI (by omega) (by omega)]
      refine ⟨fun h => k W lp J a2 ⟨f1, f2, Bst_more f3 (fun q z => Or.inl z) (fun z => by omega) (fun q hq z1 z2 => ?_) (fun q q' hq z1 z2 z3 => ?_), f4⟩, fun h => ?_⟩
      · have hx : ext b tr q := z1.resolve_left z2
        rw [wa_cong (q := tr) (fun j hj => hx j hj)]; exact h
      · exact bef_lex (Nat.le_refl _) z1 (z2.resolve_left z3)
      · have cp : ∀ n K, n ≤ b → (fr [142] J K ∧ ∀ j, j < n → K 142 j = nI (tr j)) → RX12_layLeast zn d (fun r u => ∃ (J : Nat → Nat → Int32), ∃ (W : Nat), ∃ (lp : Nat → Nat), r = some (.int (nI W)) ∧ u = (zSH zn, J, L) ∧ (fr [141, 142] I J ∧ Bov b M nb W lp ∧ ∀ j, j < b → J 142 j = nI (lp j))) 39 [some (.ref 115), some (.int (nI (wa b M nb tr))), some (.int (nI b)), some (.int (nI (wa b M nb tr))), some (.int (nI n))] [] (zSH zn, K, L) := by
          refine zup (fun K hK => ?_) (fun n K hn hK ih => ?_)
          · have fK : fr [141, 142] I K := fr_trans f1 (fr_sub hK.1 (by decide))
            refine gX12_layLeast_39 _ _ _ _ K L ⟨fun _ => ?_, fun hc => absurd (by rw [(env K fK).1.1, nI_leI (by omega) (by omega)]; exact Nat.le_refl _) hc⟩
            refine k _ tr K (fun j hj => by rw [hK.1 141 (by decide)]; exact a2 j hj) ⟨fK, by omega, Bst_new f3 a1 (by omega) (fun q' _ => ?_), hK.2⟩
            constructor
            · rintro (z | z)
              · exact Or.inl z
              · exact Or.inr (fun j hj => (z j hj).symm)
            · rintro (z | z)
              · exact Or.inl z
              · exact Or.inr (fun j hj => (z j hj).symm)
          · have fK : fr [141, 142] I K := fr_trans f1 (fr_sub hK.1 (by decide))
            refine gX12_layLeast_39 _ _ _ _ K L ⟨fun hc => absurd hc (by rw [(env K fK).1.1, nI_leI (by omega) (by omega)]; omega), fun _ => ⟨vin_nI (by omega) (by omega), ?_⟩⟩
            rw [nI_clamp (by omega), nI_1]
            refine ih _ ⟨fr_trans hK.1 (fr_zi (by decide)), fun j hj => ?_⟩
            rw [zi_at]
            by_cases hjn : j = n
            · rw [if_pos ⟨rfl, hjn⟩, hK.1 141 (by decide), a2 n hn, hjn]
            · rw [if_neg (fun z => hjn z.2)]; exact hK.2 j (by omega)
        exact cp 0 J (Nat.zero_le _) ⟨fr_rf, fun j hj => absurd hj (by omega)⟩
    | succ m ihm =>
      intro b hb tr W lp J a1 a2 a3 a4 k
      have hbB : b < B := by omega
      have tb : (nI b).toNatClampNeg = b := nI_clamp (by omega)
      have tb1 : (nI b + 1).toNatClampNeg = b + 1 := by rw [nI_1]; exact nI_clamp (by omega)
      have head : ∀ (y : Nat) (W : Nat) (J : Nat → Nat → Int32), fr [141, 142] I J → J 141 b + 1 = nI y → RX12_layLeast zn d (fun r u => ∃ (J : Nat → Nat → Int32), ∃ (W : Nat), ∃ (lp : Nat → Nat), r = some (.int (nI W)) ∧ u = (zSH zn, J, L) ∧ (fr [141, 142] I J ∧ Bov B M nb W lp ∧ ∀ j, j < B → J 142 j = nI (lp j))) 83 [some (.ref 115), some (.int (nI W)), some (.int (nI b)), some (.int (nI y)), none] [] (zSH zn, J, L) → RX12_layLeast zn d (fun r u => ∃ (J : Nat → Nat → Int32), ∃ (W : Nat), ∃ (lp : Nat → Nat), r = some (.int (nI W)) ∧ u = (zSH zn, J, L) ∧ (fr [141, 142] I J ∧ Bov B M nb W lp ∧ ∀ j, j < B → J 142 j = nI (lp j))) 12 [some (.ref 115), some (.int (nI W)), some (.int (nI b)), none, none] [] (zSH zn, J, L) := fun y W J fJ ey hR => by
        refine gX12_layLeast_12 _ _ J L ⟨fun h => absurd h (by rw [nl0, nI_ltI (by omega) (by decide)]; omega), fun _ => ⟨fun _ => ⟨vin_nI (by omega) (by omega), ?_⟩, fun h => ?_⟩⟩
        · rw [tb, ey]; exact hR
        · rw [(env J fJ).1.1, nI_eq (by omega) (by omega)] at h; omega
      have Q : ∀ (n y : Nat), y + n = 8 → ∀ (W : Nat) (lp : Nat → Nat) (J : Nat → Nat → Int32), (∀ j, j < b → J 141 j = nI (tr j)) → lvI I J B M nb (bef (b + 1) (qy b y tr)) W lp → RX12_layLeast zn d (fun r u => ∃ (J : Nat → Nat → Int32), ∃ (W : Nat), ∃ (lp : Nat → Nat), r = some (.int (nI W)) ∧ u = (zSH zn, J, L) ∧ (fr [141, 142] I J ∧ Bov B M nb W lp ∧ ∀ j, j < B → J 142 j = nI (lp j))) 83 [some (.ref 115), some (.int (nI W)), some (.int (nI b)), some (.int (nI y)), none] [] (zSH zn, J, L) := by
        intro n
        induction n with
        | zero =>
          intro y hy W lp J c1 c2
          have hy8 : y = 8 := by omega
          subst hy8
          obtain ⟨f1, f2, f3, f4⟩ := c2
          refine gX12_layLeast_83 _ _ _ J L ⟨fun _ => ⟨vin_nI (by omega) (by omega), fun h => absurd rfl h, fun _ => ?_⟩, fun hc => absurd (by decide) hc⟩
          rw [tb]
          refine k W lp _ (fun j hj => by rw [zi_at, if_neg (by omega)]; exact c1 j hj) ⟨fr_trans f1 (fr_zi (by decide)), f2, Bst_set f3 (fun q hq => ?_), fun j hj => by rw [zi_ne (by decide)]; exact f4 j hj⟩
          rw [bef_s]
          constructor
          · rintro (z | z)
            · exact Or.inl z
            · exact Or.inr z.1
          · rintro (z | z)
            · exact Or.inl z
            · exact Or.inr ⟨z, hq.1 b hbB⟩
        | succ n ihn =>
          intro y hy W lp J c1 c2
          obtain ⟨f1, f2, f3, f4⟩ := id c2
          refine gX12_layLeast_83 _ _ _ J L ⟨fun hc => absurd hc (by rw [nl 8, nI_leI (by decide) (by omega)]; omega), fun _ => ⟨tr, b, y, ⟨rfl, by omega⟩, ⟨rfl, by omega⟩, fun j hj => ⟨c1 j hj, a1.1 j hj⟩, fun hf => ⟨vin_nI (by omega) (by omega), fun _ => ?_, fun h => ?_⟩, fun hf => ?_⟩⟩
          · have hfree := frB_i.mp hf
            have hok := okA_qy a1 (by omega : y < 8) hfree
            rw [tb, tb1]
            generalize hJ1 : zi J 141 b (nI y) = J1
            have g1 : fr [141] J J1 := by rw [← hJ1]; exact fr_zi (by decide)
            have gI : fr [141, 142] I J1 := fr_trans f1 (fr_sub g1 (by decide))
            have gb : J1 141 b = nI y := by rw [← hJ1, zi_at, if_pos ⟨rfl, rfl⟩]
            have go : ∀ j, j ≠ b → J1 141 j = J 141 j := fun j hj => by rw [← hJ1, zi_at, if_neg (fun z => hj z.2)]
            rw [(env J1 gI).1.1, nI_1, nI_leI (by omega) (by omega)]
            have cont : ∀ (W' : Nat) (lp' : Nat → Nat) (J' : Nat → Nat → Int32), (∀ j, j < b + 1 → J' 141 j = nI (qy b y tr j)) → lvI I J' B M nb (fun q => bef (b + 1) (qy b y tr) q ∨ ext (b + 1) (qy b y tr) q) W' lp' → RX12_layLeast zn d (fun r u => ∃ (J : Nat → Nat → Int32), ∃ (W : Nat), ∃ (lp : Nat → Nat), r = some (.int (nI W)) ∧ u = (zSH zn, J, L) ∧ (fr [141, 142] I J ∧ Bov B M nb W lp ∧ ∀ j, j < B → J 142 j = nI (lp j))) 12 [some (.ref 115), some (.int (nI W')), some (.int (nI (b + 1) + (-1))), none, none] [] (zSH zn, J', L) := fun W' lp' J' h1 h2 => by
              rw [nI_sub1]
              refine head (y + 1) W' J' h2.1 (by rw [h1 b (by omega), qy_b, nI_1]) (ihn (y + 1) (by omega) W' lp' J' (fun j hj => by rw [h1 j (by omega), qy_n (by omega)]) ⟨h2.1, h2.2.1, Bst_set h2.2.2.1 (fun q hq => ?_), h2.2.2.2⟩)
              rw [bef_s, bef_s, ext_s]
              constructor
              · rintro ((z | ⟨z1, z2⟩) | ⟨z1, z2⟩)
                · exact Or.inl z
                · exact Or.inr ⟨z1, by omega⟩
                · exact Or.inr ⟨z1, by omega⟩
              · rintro (z | ⟨z1, z2⟩)
                · exact Or.inl (Or.inl z)
                · by_cases hqy : q b = y
                  · exact Or.inr ⟨z1, hqy⟩
                  · exact Or.inl (Or.inr ⟨z1, by omega⟩)
            have hpl : ∀ j, j < b + 1 → J1 141 j = nI (qy b y tr j) := fun j hj => by
              by_cases hjb : j = b
              · rw [hjb, gb, qy_b]
              · rw [go j hjb, qy_n hjb]; exact c1 j (by omega)
            refine ⟨fun hge => ?_, fun hlt => ⟨vin_nI (by omega) (by omega), ?_⟩⟩
            · exact ihm (b + 1) (by omega) (qy b y tr) W lp J1 hok hpl (fun z => absurd z (by omega)) ⟨gI, f2, f3, fun j hj => by rw [g1 142 (by decide)]; exact f4 j hj⟩ cont
            · refine ihm (b + 1) (by omega) (qy b y tr) W lp _ hok (fun j hj => by rw [zi_at, if_neg (by omega)]; exact hpl j hj) (fun _ => by rw [zi_at, if_pos ⟨rfl, rfl⟩]) ⟨fr_trans gI (fr_zi (by decide)), f2, f3, fun j hj => by rw [zi_ne (by decide), g1 142 (by decide)]; exact f4 j hj⟩ cont
          · rw [nl 8, nI_eq (by omega) (by decide)] at h; omega
          · rw [nI_1]
            refine ihn (y + 1) (by omega) W lp J c1 ⟨f1, f2, Bst_set f3 (fun q hq => ?_), f4⟩
            rw [bef_s, bef_s]
            have hnf : ∃ j, j < b ∧ tr j = y := Classical.byContradiction fun z => hf (frB_i.mpr (fun o ho e => z ⟨o, ho, e⟩))
            obtain ⟨j, hj, ej⟩ := hnf
            constructor
            · rintro (z | ⟨z1, z2⟩)
              · exact Or.inl z
              · exact Or.inr ⟨z1, by omega⟩
            · rintro (z | ⟨z1, z2⟩)
              · exact Or.inl z
              · refine Or.inr ⟨z1, ?_⟩
                have : q b ≠ y := fun z => by
                  have := hq.2 j b (by omega) hbB (by rw [z1 j hj, ej, z])
                  omega
                omega
      refine head 0 W J a4.1 (by rw [a3 hbB]; decide) (Q 8 0 (by decide) W lp J a2 ⟨a4.1, a4.2.1, Bst_set a4.2.2.1 (fun q _ => ?_), a4.2.2.2⟩)
      rw [bef_s]
      exact ⟨fun z => Or.inl z, fun z => z.elim id (fun y => absurd y.2 (by omega))⟩
  refine eX12_layLeast I L (gX12_layLeast_0 I L ?_)
  refine lev B 0 (by omega) (fun _ => 0) 1000000 (fun j => (I 142 j).toBitVec.toNat) _ ⟨fun b hb => absurd hb (by omega), fun a b ha => absurd ha (by omega)⟩ (fun j hj => absurd hj (by omega)) (fun _ => by rw [zi_at, if_pos ⟨rfl, rfl⟩]) ⟨fr_zi (by decide), Nat.le_refl _, Or.inl ⟨rfl, fun q _ ⟨i, hi, _⟩ => absurd hi (by omega)⟩, fun j _ => by rw [zi_ne (by decide)]; exact nI_any _⟩ (fun W' lp' J' _ h => ?_)
  obtain ⟨f1, f2, f3, f4⟩ := h
  refine gX12_layLeast_12 _ _ J' L ⟨fun _ => ⟨J', W', lp', rfl, rfl, f1, ?_, f4⟩, fun hc => absurd (by decide) hc⟩
  have hall : ∀ q, bef 0 (fun _ => 0) q ∨ ext 0 (fun _ => 0) q := fun q => Or.inr (fun j hj => absurd hj (by omega))
  rcases f3 with ⟨-, z⟩ | ⟨a, b, c, d⟩
  · exact absurd (hall _) (z (fun i => i) (okA_id hB))
  · exact ⟨a, c, fun q hq => d q hq (hall q)⟩
abbrev RX12_least (zn d : Nat) (post : zP) : zK := zRun (zcal zty zcd false (d + 3)) kX12_least (zLM zn) post
theorem eX12_least {zn d : Nat} {post : zP} (x1 : Int32) (I : Nat → Nat → Int32) (L : Nat → Nat → Int64) (h : RX12_least zn d post 0 [some (.ref 115), some (.int x1), none] [] (zSH zn, I, L)) : zcal zty zcd false (d + 4) 194 [.ref 115, .int x1] (zSH zn, I, L) 0 0 post := zcal_of (d := d + 3) zmt194 zmc194 rfl (Nat.le_of_ble_eq_true rfl) h
theorem gX12_least_0 {zn d : Nat} {post : zP} (x1 : Int32) (I : Nat → Nat → Int32) (L : Nat → Nat → Int64) (h : (x1 = (-1 : Int32) → (¬ (I 115 27) = 0 → (∃ (B8 : Nat) (M9 : Nat) (nb10 : Nat → Nat), (I 115 27 = nI B8 ∧ B8 ≤ 7 ∧ 0 < B8) ∧ (I 115 29 = nI M9 ∧ M9 ≤ 8) ∧ (ntR I 140 B8 M9 nb10) ∧ (∀ (J5 : Nat → Nat → Int32) (W6 : Nat) (lp7 : Nat → Nat), (fr [141, 142] I J5 ∧ Bov B8 M9 nb10 W6 lp7 ∧ ∀ j, j < B8 → J5 142 j = nI (lp7 j)) → (0 ≤ x1 → vp_in x1 7 ∧ (post (some (.int (J5 142 (x1).toNatClampNeg))) (zSH zn, J5, L))) ∧ (¬ 0 ≤ x1 → post (some (.int (nI W6))) (zSH zn, J5, L))))) ∧ ((I 115 27) = 0 → (0 ≤ x1 → vp_in x1 7 ∧ (post (some (.int (I 142 (x1).toNatClampNeg))) (zSH zn, I, L))) ∧ (¬ 0 ≤ x1 → post (some (.int (0 : Int32))) (zSH zn, I, L)))) ∧ (¬ x1 = (-1 : Int32) → ((0 : Int32) ≤ x1 ∧ x1 ≤ ((I 115 27) - (1 : Int32)) → (¬ (I 115 27) = 0 → (∃ (B25 : Nat) (M26 : Nat) (nb27 : Nat → Nat), (I 115 27 = nI B25 ∧ B25 ≤ 7 ∧ 0 < B25) ∧ (I 115 29 = nI M26 ∧ M26 ≤ 8) ∧ (ntR I 140 B25 M26 nb27) ∧ (∀ (J22 : Nat → Nat → Int32) (W23 : Nat) (lp24 : Nat → Nat), (fr [141, 142] I J22 ∧ Bov B25 M26 nb27 W23 lp24 ∧ ∀ j, j < B25 → J22 142 j = nI (lp24 j)) → (0 ≤ x1 → vp_in x1 7 ∧ (post (some (.int (J22 142 (x1).toNatClampNeg))) (zSH zn, J22, L))) ∧ (¬ 0 ≤ x1 → post (some (.int (nI W23))) (zSH zn, J22, L))))) ∧ ((I 115 27) = 0 → (0 ≤ x1 → vp_in x1 7 ∧ (post (some (.int (I 142 (x1).toNatClampNeg))) (zSH zn, I, L))) ∧ (¬ 0 ≤ x1 → post (some (.int (0 : Int32))) (zSH zn, I, L)))) ∧ (¬ ((0 : Int32) ≤ x1 ∧ x1 ≤ ((I 115 27) - (1 : Int32))) → post (some (.int (-1 : Int32))) (zSH zn, I, L)))) : RX12_least zn d post 0 [some (.ref 115), some (.int x1), none] [] (zSH zn, I, L) := fun P hw hc => hc _ tX12_least_0 _ _ _ (hc _ tX12_least_1 _ _ _ (hc _ tX12_least_2 _ _ _ (⟨fun c1 => hc _ tX12_least_21 _ _ _ (hc _ tX12_least_22 _ _ _ (⟨_, sh115, (by decide), hc _ tX12_least_25 _ _ _ (⟨fun c3 => hc _ tX12_least_32 _ _ _ ((by obtain ⟨B8, M9, nb10, hg11⟩ := ((h.1 c1).1 c3); exact hc _ tX12_least_33 _ _ _ (⟨⟨_, _, _, rfl, (by decide), sh115⟩, ⟨Nat.le_of_ble_eq_true rfl, Nat.le_of_ble_eq_true rfl, zl1, zl2, _, ctX12_layLeast I L B8 M9 nb10 hg11.1 hg11.2.1 hg11.2.2.1, fun r u k15 => by obtain ⟨J5, W6, lp7, rfl, rfl, p12⟩ := k15; exact ⟨zl3, zl4, hc _ tX12_least_36 _ _ _ (hc _ tX12_least_37 _ _ _ (hc _ tX12_least_38 _ _ _ (⟨fun c13 => hc _ tX12_least_45 _ _ _ (hc _ tX12_least_46 _ _ _ (⟨_, _, sh115, (by decide), rfl, hc _ tX12_least_49 _ _ _ (hc _ tX12_least_50 _ _ _ (⟨_, _, _, sh142, Or.inl ⟨rfl, (by decide)⟩, ((hg11.2.2.2 J5 W6 lp7 p12).1 c13).1, hc _ tX12_least_51 _ _ _ (⟨nofun, rfl, rfl, ((hg11.2.2.2 J5 W6 lp7 p12).1 c13).2⟩)⟩))⟩)), fun c14 => hc _ tX12_least_41 _ _ _ (hc _ tX12_least_42 _ _ _ (hc _ tX12_least_51 _ _ _ (⟨nofun, rfl, rfl, ((hg11.2.2.2 J5 W6 lp7 p12).2 c14)⟩)))⟩)))⟩⟩⟩))), fun c4 => hc _ tX12_least_28 _ _ _ (hc _ tX12_least_29 _ _ _ (hc _ tX12_least_36 _ _ _ (hc _ tX12_least_37 _ _ _ (hc _ tX12_least_38 _ _ _ (⟨fun c16 => hc _ tX12_least_45 _ _ _ (hc _ tX12_least_46 _ _ _ (⟨_, _, sh115, (by decide), rfl, hc _ tX12_least_49 _ _ _ (hc _ tX12_least_50 _ _ _ (⟨_, _, _, sh142, Or.inl ⟨rfl, (by decide)⟩, (((h.1 c1).2 c4).1 c16).1, hc _ tX12_least_51 _ _ _ (⟨nofun, rfl, rfl, (((h.1 c1).2 c4).1 c16).2⟩)⟩))⟩)), fun c17 => hc _ tX12_least_41 _ _ _ (hc _ tX12_least_42 _ _ _ (hc _ tX12_least_51 _ _ _ (⟨nofun, rfl, rfl, (((h.1 c1).2 c4).2 c17)⟩)))⟩)))))⟩)⟩)), fun c2 => hc _ tX12_least_5 _ _ _ (hc _ tX12_least_6 _ _ _ (hc _ tX12_least_7 _ _ _ (hc _ tX12_least_8 _ _ _ (⟨_, sh115, (by decide), hc _ tX12_least_11 _ _ _ (hc _ tX12_least_12 _ _ _ (hc _ tX12_least_13 _ _ _ (⟨Nat.le_of_ble_eq_true rfl, Nat.le_of_ble_eq_true rfl, zl1, zl2, _, ctX12_in x1 (0 : Int32) ((I 115 27) - (1 : Int32)) I L, fun r u k35 => by obtain ⟨rfl, rfl⟩ := k35; exact ⟨zl3, zl4, hc _ tX12_least_16 _ _ _ (⟨fun c18 => hc _ tX12_least_21 _ _ _ (hc _ tX12_least_22 _ _ _ (⟨_, sh115, (by decide), hc _ tX12_least_25 _ _ _ (⟨fun c20 => hc _ tX12_least_32 _ _ _ ((by obtain ⟨B25, M26, nb27, hg28⟩ := (((h.2 c2).1 (zb_n c18)).1 c20); exact hc _ tX12_least_33 _ _ _ (⟨⟨_, _, _, rfl, (by decide), sh115⟩, ⟨Nat.le_of_ble_eq_true rfl, Nat.le_of_ble_eq_true rfl, zl1, zl2, _, ctX12_layLeast I L B25 M26 nb27 hg28.1 hg28.2.1 hg28.2.2.1, fun r u k32 => by obtain ⟨J22, W23, lp24, rfl, rfl, p29⟩ := k32; exact ⟨zl3, zl4, hc _ tX12_least_36 _ _ _ (hc _ tX12_least_37 _ _ _ (hc _ tX12_least_38 _ _ _ (⟨fun c30 => hc _ tX12_least_45 _ _ _ (hc _ tX12_least_46 _ _ _ (⟨_, _, sh115, (by decide), rfl, hc _ tX12_least_49 _ _ _ (hc _ tX12_least_50 _ _ _ (⟨_, _, _, sh142, Or.inl ⟨rfl, (by decide)⟩, ((hg28.2.2.2 J22 W23 lp24 p29).1 c30).1, hc _ tX12_least_51 _ _ _ (⟨nofun, rfl, rfl, ((hg28.2.2.2 J22 W23 lp24 p29).1 c30).2⟩)⟩))⟩)), fun c31 => hc _ tX12_least_41 _ _ _ (hc _ tX12_least_42 _ _ _ (hc _ tX12_least_51 _ _ _ (⟨nofun, rfl, rfl, ((hg28.2.2.2 J22 W23 lp24 p29).2 c31)⟩)))⟩)))⟩⟩⟩))), fun c21 => hc _ tX12_least_28 _ _ _ (hc _ tX12_least_29 _ _ _ (hc _ tX12_least_36 _ _ _ (hc _ tX12_least_37 _ _ _ (hc _ tX12_least_38 _ _ _ (⟨fun c33 => hc _ tX12_least_45 _ _ _ (hc _ tX12_least_46 _ _ _ (⟨_, _, sh115, (by decide), rfl, hc _ tX12_least_49 _ _ _ (hc _ tX12_least_50 _ _ _ (⟨_, _, _, sh142, Or.inl ⟨rfl, (by decide)⟩, ((((h.2 c2).1 (zb_n c18)).2 c21).1 c33).1, hc _ tX12_least_51 _ _ _ (⟨nofun, rfl, rfl, ((((h.2 c2).1 (zb_n c18)).2 c21).1 c33).2⟩)⟩))⟩)), fun c34 => hc _ tX12_least_41 _ _ _ (hc _ tX12_least_42 _ _ _ (hc _ tX12_least_51 _ _ _ (⟨nofun, rfl, rfl, ((((h.2 c2).1 (zb_n c18)).2 c21).2 c34)⟩)))⟩)))))⟩)⟩)), fun c19 => hc _ tX12_least_19 _ _ _ (hc _ tX12_least_20 _ _ _ (⟨nofun, rfl, rfl, ((h.2 c2).2 (zb_e c19))⟩))⟩)⟩⟩)))⟩))))⟩)))
theorem Bov_0 {M : Nat} {nb : Nat → Nat} : Bov 0 M nb 0 (fun i => i) := by
  have hz : ∀ q, wa 0 M nb q = 0 := fun q => by
    unfold wa
    have e : ∀ k, spN (pm q (nb k) 0) = 0 := fun k => (by decide : spN 0 = 0)
    rw [fb_sm_cong (g := fun _ => 0) (fun k _ => e k)]
    induction M with
    | zero => rfl
    | succ M ih => rw [fb_sm_succ, ih]
  exact ⟨okA_id (by decide), hz _, fun q _ => Or.inr ⟨(hz q).symm, Or.inl (fun j hj => absurd hj (by omega))⟩⟩
theorem ctX12_least {zn d : Nat} (x1 : Int32) (I : Nat → Nat → Int32) (L : Nat → Nat → Int64) (B : Nat) (M : Nat) (nb : Nat → Nat) (q0 : I 115 27 = nI B ∧ B ≤ 7) (q1 : I 115 29 = nI M ∧ M ≤ 8) (q2 : ntR I 140 B M nb) : zcal zty zcd false (d + 4) 194 [.ref 115, .int x1] (zSH zn, I, L) 0 0 (fun r u => ∃ (J : Nat → Nat → Int32), ∃ (y : Int32), r = some (.int y) ∧ u = (zSH zn, J, L) ∧ (fr [141, 142] I J ∧ lstR B M nb x1 y)) := by
  obtain ⟨eB, hB⟩ := id q0
  have h0 : (I 115 27 = 0) ↔ B = 0 := by rw [eB, nl0, nI_eq (by omega) (by decide)]
  refine eX12_least _ I L (gX12_least_0 _ I L ?_)
  rw [h0, eB, leM (by omega)]
  have lay : ∀ (hb : ¬ B = 0), (nI B = nI B ∧ B ≤ 7 ∧ 0 < B) := fun hb => ⟨rfl, hB, by omega⟩
  refine ⟨fun h => ⟨fun hb => ⟨B, M, nb, lay hb, q1, q2, fun J W lp ⟨j1, j2, j3⟩ => ⟨fun z => absurd (by rw [h] at z; exact z : (0 : Int32) ≤ -1) (by decide), fun _ => ⟨J, _, rfl, rfl, j1, fun z => absurd (Or.inl h) z, fun _ => ⟨W, lp, j2, rfl⟩, fun z => absurd (by rw [h] at z; exact z.1 : (0 : Int32) ≤ -1) (by decide)⟩⟩⟩, fun hb => ⟨fun z => absurd (by rw [h] at z; exact z : (0 : Int32) ≤ -1) (by decide), fun _ => ⟨I, _, rfl, rfl, fr_rf, fun z => absurd (Or.inl h) z, fun _ => ?_, fun z => absurd (by rw [h] at z; exact z.1 : (0 : Int32) ≤ -1) (by decide)⟩⟩⟩, fun h => ⟨fun h2 => ⟨fun hb => ⟨B, M, nb, lay hb, q1, q2, fun J W lp ⟨j1, j2, j3⟩ => ⟨fun _ => ?_, fun z => absurd h2.1 z⟩⟩, fun hb => ?_⟩, fun h2 => ⟨I, _, rfl, rfl, fr_rf, fun _ => rfl, fun z => absurd z h, fun z => absurd z h2⟩⟩⟩
  · subst hb
    exact ⟨0, _, Bov_0, rfl⟩
  · obtain ⟨n, rfl, -, hn, tn', tn2⟩ := nm_of (a := 0) (b := B) (by omega) (by decide) h2
    refine ⟨vin_nI (by omega) (by decide), J, _, rfl, rfl, j1, fun z => absurd (Or.inr h2) z, fun z => absurd z h, fun _ => ⟨W, lp, j2, ?_⟩⟩
    rw [tn2, tn']; exact j3 n hn
  · subst hb
    exact absurd (Int32.lt_of_le_of_lt h2.1 h2.2) (by decide)

