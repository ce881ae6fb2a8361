/-! READING: the reference -/
theorem rdf_no {T : Nat → Nat} {m i : Nat} {s : zRs} (h : rdn s (T i) = none) : rdf T (m + 1) i s = (nI i, s.2.2.2) := by
  show (match rdn s (T i) with
    | none => (nI i, s.2.2.2)
    | some s' => rdf T m (i + 1) s') = _
  rw [h]
theorem rdf_so {T : Nat → Nat} {m i : Nat} {s s' : zRs} (h : rdn s (T i) = some s') : rdf T (m + 1) i s = rdf T m (i + 1) s' := by
  show (match rdn s (T i) with
    | none => (nI i, s.2.2.2)
    | some s' => rdf T m (i + 1) s') = _
  rw [h]
theorem rdf_0 {T : Nat → Nat} {i : Nat} {s : zRs} (h : s.1 ≠ 0) : rdf T 0 i s = (nI i, s.2.2.2) := by
  show (if s.1 = 0 then (-4 : Int32) else nI i, s.2.2.2) = _
  rw [if_neg h]
def cntL (V : zVw) : Nat := fb_sm (fun n => if (V n).isSome = true then 1 else 0) 19
theorem cntL_set {V : zVw} {n : Nat} {ks : List Nat} (hn : n < 19) (h : V n = none) : cntL (vset V n ks) = cntL V + 1 := by
  unfold cntL
  rw [fb_set (fun o => if o.isSome = true then 1 else 0) hn (by rw [h]; rfl) (fun j hj => vset_n hj), vset_s]; rfl
def rKeep (I J : Nat → Nat → Int32) : Prop := fr [118, 119, 120, 121] I J ∧ (∀ i, ¬ (400 ≤ i ∧ i < 600) → J 118 i = I 118 i) ∧ (∀ i, ¬ (38 ≤ i ∧ i < 57) → J 119 i = I 119 i ∧ J 120 i = I 120 i) ∧ ∀ i, i ≠ 2 → J 121 i = I 121 i
theorem rKeep_t {I J K : Nat → Nat → Int32} (h : rKeep I J) (h2 : rKeep J K) : rKeep I K := ⟨fr_trans h.1 h2.1, fun i hi => (h2.2.1 i hi).trans (h.2.1 i hi), fun i hi => ⟨((h2.2.2.1 i hi).1).trans (h.2.2.1 i hi).1, ((h2.2.2.1 i hi).2).trans (h.2.2.1 i hi).2⟩, fun i hi => (h2.2.2.2 i hi).trans (h.2.2.2 i hi)⟩
def rDr (I : Nat → Nat → Int32) (v : Nat) (V : zVw) : Prop := okV V ∧ rLn I v V ∧ I 121 v = nI (cntL V)
theorem let_in2 : ∀ t, t < 256 → ((6 ≤ nI t - 97 ∧ nI t - 97 ≤ 18) ↔ (103 ≤ t ∧ t < 116)) := by decide +kernel
def rdQ (zn : Nat) (I : Nat → Nat → Int32) (L : Nat → Nat → Int64) (T : Nat → Nat) (p : Int32 × zVw) : zP := fun r u => ∃ (J : Nat → Nat → Int32), r = some (.int p.1) ∧ u = (zSH zn, J, L) ∧ (rKeep I J ∧ (p.1 = -4 → rDr J 2 p.2))
def rS (I J : Nat → Nat → Int32) (T : Nat → Nat) (l : Nat) (V : zVw) : Prop := rKeep I J ∧ (∀ j, j < l → J 118 (400 + j) = nI (T j)) ∧ okV V ∧ rLn J 2 V ∧ J 121 2 = nI (cntL V)
theorem rS_no {zn : Nat} {I J : Nat → Nat → Int32} {L : Nat → Nat → Int64} {T : Nat → Nat} {l i : Nat} {V W : zVw} (h : rS I J T l V) (hi : i ≤ 200) : rdQ zn I L T (nI i, W) (some (.int (nI i))) (zSH zn, J, L) := ⟨J, rfl, rfl, h.1, fun z => absurd z (nI_n4 hi)⟩
theorem rLn_4 {J : Nat → Nat → Int32} {V : zVw} {n : Nat} (h : rLn J 2 V) (hn : n < 19) : J 120 (38 + n) = -4 ↔ V n = none := by
  have := h n hn
  cases hv : V n with
  | none => rw [hv] at this; exact ⟨fun _ => rfl, fun _ => this⟩
  | some ks =>
    rw [hv] at this
    obtain ⟨f, f1, f2, f3, f4⟩ := this
    refine ⟨fun z => ?_, fun z => absurd z (Option.some_ne_none _)⟩
    have f3' : J 120 (38 + n) = nI ks.length := f3
    rw [z] at f3'
    exact absurd f3'.symm (nI_n4 (by omega))
theorem rS_end {I J : Nat → Nat → Int32} {T : Nat → Nat} {l i nm f : Nat} {V : zVw} {cur : List Nat} (h : rS I J T l V) (hl : l ≤ 200) (hi : i < l) (n6 : 6 ≤ nm) (n19 : nm < 19) (hv : V nm = none) (hw : wfl cur) (hf : f + cur.length = i) (hT : ∀ (j x : Nat), cur[j]? = some x → T (f + j) = byt x) : rS I (zi (zi (zi J 119 (38 + nm) (nI f)) 120 (38 + nm) (nI cur.length)) 121 2 (nI (cntL V + 1))) T l (vset V nm cur) := by
  obtain ⟨a, b, c, e, g⟩ := h
  refine ⟨rKeep_t a ⟨?_, fun j hj => ?_, fun j hj => ⟨?_, ?_⟩, fun j hj => ?_⟩, fun j hj => ?_, fun n ks hn => ?_, fun n hn => ?_, ?_⟩
  · exact fr_trans (fr_trans (fr_zi (by decide)) (fr_zi (by decide))) (fr_zi (by decide))
  · rw [zi_ne (by decide), zi_ne (by decide), zi_ne (by decide)]
  · rw [zi_ne (by decide), zi_ne (by decide), zi_at, if_neg (fun z => hj (by omega))]
  · rw [zi_ne (by decide), zi_at, if_neg (fun z => hj (by omega)), zi_ne (by decide)]
  · rw [zi_at, if_neg (fun z => hj z.2), zi_ne (by decide), zi_ne (by decide)]
  · rw [zi_ne (by decide), zi_ne (by decide), zi_ne (by decide)]; exact b j hj
  · by_cases hnn : n = nm
    · subst hnn
      rw [vset_s] at hn
      cases hn
      exact ⟨n6, n19, hw⟩
    · rw [vset_n hnn] at hn
      exact c n ks hn
  · by_cases hnn : n = nm
    · subst hnn
      rw [vset_s]
      refine ⟨f, by omega, ?_, ?_, fun j x hx => ?_⟩
      · rw [zi_ne (by decide), zi_ne (by decide)]
        show zi J 119 (38 + n) (nI f) 119 (38 + n) = nI f
        rw [zi_at, if_pos ⟨rfl, rfl⟩]
      · rw [zi_ne (by decide)]
        show zi (zi J 119 (38 + n) (nI f)) 120 (38 + n) (nI cur.length) 120 (38 + n) = nI cur.length
        rw [zi_at, if_pos ⟨rfl, rfl⟩]
      · rw [zi_ne (by decide), zi_ne (by decide), zi_ne (by decide)]
        have hj : j < cur.length := by obtain ⟨hj, _⟩ := List.getElem?_eq_some_iff.mp hx; exact hj
        rw [show 200 * 2 + f + j = 400 + (f + j) by omega, b (f + j) (by omega), hT j x hx]
    · rw [vset_n hnn]
      have := e n hn
      cases hv2 : V n with
      | none =>
        rw [hv2] at this
        show zi _ 121 2 _ 120 (19 * 2 + n) = -4
        rw [zi_ne (by decide), zi_at, if_neg (fun z => hnn (by omega)), zi_ne (by decide)]
        exact this
      | some ks =>
        rw [hv2] at this
        obtain ⟨f', f1, f2, f3, f4⟩ := this
        refine ⟨f', f1, ?_, ?_, fun j x hx => ?_⟩
        · rw [zi_ne (by decide), zi_ne (by decide), zi_at, if_neg (fun z => hnn (by omega))]; exact f2
        · rw [zi_ne (by decide), zi_at, if_neg (fun z => hnn (by omega)), zi_ne (by decide)]; exact f3
        · rw [zi_ne (by decide), zi_ne (by decide), zi_ne (by decide)]; exact f4 j x hx
  · rw [zi_at, if_pos ⟨rfl, rfl⟩, cntL_set n19 hv]
abbrev RX12_read (zn d : Nat) (post : zP) : zK := zRun (zcal zty zcd false (d + 2)) kX12_read (zLM zn) post
theorem eX12_read {zn d : Nat} {post : zP} (x1 : Int32) (I : Nat → Nat → Int32) (L : Nat → Nat → Int64) (h : RX12_read zn d post 0 [some (.ref 115), some (.int x1), none, none, none, none, none, none] [] (zSH zn, I, L)) : zcal zty zcd false (d + 3) 142 [.ref 115, .int x1] (zSH zn, I, L) 0 0 post := zcal_of (d := d + 2) zmt142 zmc142 rfl (Nat.le_of_ble_eq_true rfl) h
theorem gX12_read_0 {zn d : Nat} {post : zP} (x1 : Int32) (I : Nat → Nat → Int32) (L : Nat → Nat → Int64) (h : vp_in x1 2 ∧ (RX12_read zn d post 9 [some (.ref 115), some (.int x1), some (.int (I 117 (x1).toNatClampNeg)), some (.int (0 : Int32)), none, none, none, none] [] (zSH zn, I, L))) : RX12_read zn d post 0 [some (.ref 115), some (.int x1), none, none, none, none, none, none] [] (zSH zn, I, L) := fun P hw hc => hc _ tX12_read_0 _ _ _ (hc _ tX12_read_1 _ _ _ (⟨_, _, sh115, (by decide), rfl, hc _ tX12_read_4 _ _ _ (hc _ tX12_read_5 _ _ _ (⟨_, _, _, sh117, Or.inl ⟨rfl, (by decide)⟩, h.1, hc _ tX12_read_6 _ _ _ (hc _ tX12_read_7 _ _ _ (hc _ tX12_read_8 _ _ _ (h.2 P hw hc)))⟩))⟩))
theorem gX12_read_9 {zn d : Nat} {post : zP} (x1 : Int32) (x2 : Int32) (x3 : Int32) (I : Nat → Nat → Int32) (L : Nat → Nat → Int64) (h : ((19 : Int32) ≤ x3 → RX12_read zn d post 34 [some (.ref 115), some (.int x1), some (.int x2), some (.int (0 : Int32)), none, none, none, none] [] (zSH zn, I, L)) ∧ (¬ (19 : Int32) ≤ x3 → vp_in ((38 : Int32) + x3) 133 ∧ (RX12_read zn d post 9 [some (.ref 115), some (.int x1), some (.int x2), some (.int (x3 + (1 : Int32))), none, none, none, none] [] (zSH zn, (zi I 120 (((38 : Int32) + x3)).toNatClampNeg (-4 : Int32)), L)))) : RX12_read zn d post 9 [some (.ref 115), some (.int x1), some (.int x2), some (.int x3), none, none, none, none] [] (zSH zn, I, L) := fun P hw hc => hc _ tX12_read_9 _ _ _ (hc _ tX12_read_10 _ _ _ (hc _ tX12_read_12 _ _ _ (⟨fun c1 => hc _ tX12_read_32 _ _ _ (hc _ tX12_read_33 _ _ _ ((h.1 c1) P hw hc)), fun c2 => hc _ tX12_read_15 _ _ _ (hc _ tX12_read_16 _ _ _ (⟨_, _, sh115, (by decide), rfl, hc _ tX12_read_19 _ _ _ (hc _ tX12_read_21 _ _ _ (hc _ tX12_read_22 _ _ _ (hc _ tX12_read_23 _ _ _ (hc _ tX12_read_25 _ _ _ (⟨_, _, sh120, (by decide), (h.2 c2).1, hc _ tX12_read_26 _ _ _ (hc _ tX12_read_29 _ _ _ ((h.2 c2).2 P hw hc))⟩)))))⟩))⟩)))
theorem gX12_read_34 {zn d : Nat} {post : zP} (x1 : Int32) (x2 : Int32) (x3 : Int32) (I : Nat → Nat → Int32) (L : Nat → Nat → Int64) (h : (x2 ≤ x3 → RX12_read zn d post 76 [some (.ref 115), some (.int x1), some (.int x2), some (.int (0 : Int32)), none, none, none, none] [] (zSH zn, (zi I 121 2 (0 : Int32)), L)) ∧ (¬ x2 ≤ x3 → vp_in (((200 : Int32) * x1) + x3) 400 ∧ (vp_in ((400 : Int32) + x3) 1400 ∧ (RX12_read zn d post 34 [some (.ref 115), some (.int x1), some (.int x2), some (.int (x3 + (1 : Int32))), none, none, none, none] [] (zSH zn, (zi I 118 (((400 : Int32) + x3)).toNatClampNeg (I 116 ((((200 : Int32) * x1) + x3)).toNatClampNeg)), L))))) : RX12_read zn d post 34 [some (.ref 115), some (.int x1), some (.int x2), some (.int x3), none, none, none, none] [] (zSH zn, I, L) := fun P hw hc => hc _ tX12_read_34 _ _ _ (hc _ tX12_read_35 _ _ _ (hc _ tX12_read_36 _ _ _ (⟨fun c1 => hc _ tX12_read_67 _ _ _ (hc _ tX12_read_68 _ _ _ (⟨_, _, sh115, (by decide), rfl, hc _ tX12_read_71 _ _ _ (hc _ tX12_read_72 _ _ _ (hc _ tX12_read_73 _ _ _ (⟨_, _, sh121, (by decide), zvin (by decide), hc _ tX12_read_74 _ _ _ (hc _ tX12_read_75 _ _ _ ((h.1 c1) P hw hc))⟩)))⟩)), fun c2 => hc _ tX12_read_39 _ _ _ (hc _ tX12_read_40 _ _ _ (⟨_, _, sh115, (by decide), rfl, hc _ tX12_read_43 _ _ _ (hc _ tX12_read_46 _ _ _ (hc _ tX12_read_47 _ _ _ (hc _ tX12_read_48 _ _ _ (hc _ tX12_read_49 _ _ _ (⟨_, _, sh115, (by decide), rfl, hc _ tX12_read_52 _ _ _ (hc _ tX12_read_55 _ _ _ (hc _ tX12_read_56 _ _ _ (hc _ tX12_read_57 _ _ _ (hc _ tX12_read_58 _ _ _ (hc _ tX12_read_59 _ _ _ (⟨_, _, _, sh116, Or.inl ⟨rfl, (by decide)⟩, (h.2 c2).1, hc _ tX12_read_60 _ _ _ (⟨_, _, sh118, (by decide), (h.2 c2).2.1, hc _ tX12_read_61 _ _ _ (hc _ tX12_read_64 _ _ _ ((h.2 c2).2.2 P hw hc))⟩)⟩))))))⟩)))))⟩))⟩)))
theorem gX12_read_76 {zn d : Nat} {post : zP} (x1 : Int32) (x2 : Int32) (x3 : Int32) (I : Nat → Nat → Int32) (L : Nat → Nat → Int64) (h : (x2 ≤ x3 → post (some (.int (-4 : Int32))) (zSH zn, I, L)) ∧ (¬ x2 ≤ x3 → vp_in ((400 : Int32) + x3) 1400 ∧ ((¬ ((6 : Int32) ≤ ((I 118 (((400 : Int32) + x3)).toNatClampNeg) - (97 : Int32)) ∧ ((I 118 (((400 : Int32) + x3)).toNatClampNeg) - (97 : Int32)) ≤ (18 : Int32)) → post (some (.int x3)) (zSH zn, I, L)) ∧ ((6 : Int32) ≤ ((I 118 (((400 : Int32) + x3)).toNatClampNeg) - (97 : Int32)) ∧ ((I 118 (((400 : Int32) + x3)).toNatClampNeg) - (97 : Int32)) ≤ (18 : Int32) → vp_in ((38 : Int32) + ((I 118 (((400 : Int32) + x3)).toNatClampNeg) - (97 : Int32))) 133 ∧ (((I 120 (((38 : Int32) + ((I 118 (((400 : Int32) + x3)).toNatClampNeg) - (97 : Int32)))).toNatClampNeg) = (-4 : Int32) → ((x3 + (1 : Int32)) = x2 → post (some (.int (x3 + (1 : Int32)))) (zSH zn, I, L)) ∧ (¬ (x3 + (1 : Int32)) = x2 → vp_in ((400 : Int32) + (x3 + (1 : Int32))) 1400 ∧ (((I 118 (((400 : Int32) + (x3 + (1 : Int32)))).toNatClampNeg) = (61 : Int32) → RX12_read zn d post 159 [some (.ref 115), some (.int x1), some (.int x2), some (.int ((x3 + (1 : Int32)) + (1 : Int32))), some (.int ((I 118 (((400 : Int32) + x3)).toNatClampNeg) - (97 : Int32))), some (.int ((x3 + (1 : Int32)) + (1 : Int32))), some (.int (0 : Int32)), none] [] (zSH zn, I, L)) ∧ (¬ (I 118 (((400 : Int32) + (x3 + (1 : Int32)))).toNatClampNeg) = (61 : Int32) → post (some (.int (x3 + (1 : Int32)))) (zSH zn, I, L))))) ∧ (¬ (I 120 (((38 : Int32) + ((I 118 (((400 : Int32) + x3)).toNatClampNeg) - (97 : Int32)))).toNatClampNeg) = (-4 : Int32) → post (some (.int x3)) (zSH zn, I, L))))))) : RX12_read zn d post 76 [some (.ref 115), some (.int x1), some (.int x2), some (.int x3), none, none, none, none] [] (zSH zn, I, L) := fun P hw hc => hc _ tX12_read_76 _ _ _ (hc _ tX12_read_77 _ _ _ (hc _ tX12_read_78 _ _ _ (⟨fun c1 => hc _ tX12_read_292 _ _ _ (hc _ tX12_read_294 _ _ _ (⟨nofun, rfl, rfl, (h.1 c1)⟩)), fun c2 => hc _ tX12_read_81 _ _ _ (hc _ tX12_read_82 _ _ _ (⟨_, _, sh115, (by decide), rfl, hc _ tX12_read_85 _ _ _ (hc _ tX12_read_88 _ _ _ (hc _ tX12_read_89 _ _ _ (hc _ tX12_read_90 _ _ _ (⟨_, _, _, sh118, Or.inl ⟨rfl, (by decide)⟩, (h.2 c2).1, hc _ tX12_read_91 _ _ _ (hc _ tX12_read_93 _ _ _ (hc _ tX12_read_94 _ _ _ (hc _ tX12_read_96 _ _ _ (hc _ tX12_read_98 _ _ _ (hc _ tX12_read_100 _ _ _ (hc _ tX12_read_102 _ _ _ (⟨Nat.le_of_ble_eq_true rfl, Nat.le_of_ble_eq_true rfl, zl1, zl2, _, ctX12_in ((I 118 (((400 : Int32) + x3)).toNatClampNeg) - (97 : Int32)) (6 : Int32) (18 : Int32) I L, fun r u k11 => by obtain ⟨rfl, rfl⟩ := k11; exact ⟨zl3, zl4, hc _ tX12_read_105 _ _ _ (⟨fun c3 => hc _ tX12_read_123 _ _ _ (hc _ tX12_read_124 _ _ _ (⟨nofun, rfl, rfl, ((h.2 c2).2.1 (zb_e c3))⟩)), fun c4 => hc _ tX12_read_108 _ _ _ (hc _ tX12_read_109 _ _ _ (⟨_, _, sh115, (by decide), rfl, hc _ tX12_read_112 _ _ _ (hc _ tX12_read_114 _ _ _ (hc _ tX12_read_116 _ _ _ (hc _ tX12_read_117 _ _ _ (⟨_, _, _, sh120, Or.inl ⟨rfl, (by decide)⟩, ((h.2 c2).2.2 (zb_n c4)).1, hc _ tX12_read_118 _ _ _ (hc _ tX12_read_120 _ _ _ (⟨fun c5 => hc _ tX12_read_125 _ _ _ (hc _ tX12_read_128 _ _ _ (hc _ tX12_read_129 _ _ _ (hc _ tX12_read_130 _ _ _ (⟨fun c7 => hc _ tX12_read_148 _ _ _ (hc _ tX12_read_149 _ _ _ (⟨nofun, rfl, rfl, ((((h.2 c2).2.2 (zb_n c4)).2.1 c5).1 c7)⟩)), fun c8 => hc _ tX12_read_133 _ _ _ (hc _ tX12_read_134 _ _ _ (⟨_, _, sh115, (by decide), rfl, hc _ tX12_read_137 _ _ _ (hc _ tX12_read_140 _ _ _ (hc _ tX12_read_141 _ _ _ (hc _ tX12_read_142 _ _ _ (⟨_, _, _, sh118, Or.inl ⟨rfl, (by decide)⟩, ((((h.2 c2).2.2 (zb_n c4)).2.1 c5).2 c8).1, hc _ tX12_read_143 _ _ _ (hc _ tX12_read_145 _ _ _ (⟨fun c9 => hc _ tX12_read_150 _ _ _ (hc _ tX12_read_153 _ _ _ (hc _ tX12_read_154 _ _ _ (hc _ tX12_read_156 _ _ _ (hc _ tX12_read_157 _ _ _ ((((((h.2 c2).2.2 (zb_n c4)).2.1 c5).2 c8).2.1 c9) P hw hc))))), fun c10 => hc _ tX12_read_148 _ _ _ (hc _ tX12_read_149 _ _ _ (⟨nofun, rfl, rfl, (((((h.2 c2).2.2 (zb_n c4)).2.1 c5).2 c8).2.2 c10)⟩))⟩))⟩))))⟩))⟩)))), fun c6 => hc _ tX12_read_123 _ _ _ (hc _ tX12_read_124 _ _ _ (⟨nofun, rfl, rfl, (((h.2 c2).2.2 (zb_n c4)).2.2 c6)⟩))⟩))⟩))))⟩))⟩)⟩⟩)))))))⟩))))⟩))⟩)))
theorem gX12_read_159 {zn d : Nat} {post : zP} (x1 : Int32) (x2 : Int32) (x3 : Int32) (x4 : Int32) (x5 : Int32) (x6 : Int32) (I : Nat → Nat → Int32) (L : Nat → Nat → Int64) (h : (x2 ≤ x3 → (x3 = x2 → post (some (.int x3)) (zSH zn, I, L)) ∧ (¬ x3 = x2 → (x6 = (1 : Int32) → vp_in ((38 : Int32) + x4) 133 ∧ (RX12_read zn d post 76 [some (.ref 115), some (.int x1), some (.int x2), some (.int (x3 + (1 : Int32))), none, none, none, none] [] (zSH zn, (zi (zi (zi I 119 (((38 : Int32) + x4)).toNatClampNeg x5) 120 (((38 : Int32) + x4)).toNatClampNeg (x3 - x5)) 121 2 (((zi (zi I 119 (((38 : Int32) + x4)).toNatClampNeg x5) 120 (((38 : Int32) + x4)).toNatClampNeg (x3 - x5)) 121 2) + (1 : Int32))), L))) ∧ (¬ x6 = (1 : Int32) → post (some (.int x3)) (zSH zn, I, L)))) ∧ (¬ x2 ≤ x3 → vp_in ((400 : Int32) + x3) 1400 ∧ (((I 118 (((400 : Int32) + x3)).toNatClampNeg) = (59 : Int32) → (x3 = x2 → post (some (.int x3)) (zSH zn, I, L)) ∧ (¬ x3 = x2 → (x6 = (1 : Int32) → vp_in ((38 : Int32) + x4) 133 ∧ (RX12_read zn d post 76 [some (.ref 115), some (.int x1), some (.int x2), some (.int (x3 + (1 : Int32))), none, none, none, none] [] (zSH zn, (zi (zi (zi I 119 (((38 : Int32) + x4)).toNatClampNeg x5) 120 (((38 : Int32) + x4)).toNatClampNeg (x3 - x5)) 121 2 (((zi (zi I 119 (((38 : Int32) + x4)).toNatClampNeg x5) 120 (((38 : Int32) + x4)).toNatClampNeg (x3 - x5)) 121 2) + (1 : Int32))), L))) ∧ (¬ x6 = (1 : Int32) → post (some (.int x3)) (zSH zn, I, L)))) ∧ (¬ (I 118 (((400 : Int32) + x3)).toNatClampNeg) = (59 : Int32) → ((fX12_takes (I 118 (((400 : Int32) + x3)).toNatClampNeg)) = (-4 : Int32) → post (some (.int x3)) (zSH zn, I, L)) ∧ (¬ (fX12_takes (I 118 (((400 : Int32) + x3)).toNatClampNeg)) = (-4 : Int32) → (x6 < (fX12_takes (I 118 (((400 : Int32) + x3)).toNatClampNeg)) → post (some (.int x3)) (zSH zn, I, L)) ∧ (¬ x6 < (fX12_takes (I 118 (((400 : Int32) + x3)).toNatClampNeg)) → (((x6 - (fX12_takes (I 118 (((400 : Int32) + x3)).toNatClampNeg))) + (1 : Int32)) ≤ (10 : Int32) → RX12_read zn d post 159 [some (.ref 115), some (.int x1), some (.int x2), some (.int (x3 + (1 : Int32))), some (.int x4), some (.int x5), some (.int (x6 + ((1 : Int32) - (fX12_takes (I 118 (((400 : Int32) + x3)).toNatClampNeg))))), none] [] (zSH zn, I, L)) ∧ (¬ ((x6 - (fX12_takes (I 118 (((400 : Int32) + x3)).toNatClampNeg))) + (1 : Int32)) ≤ (10 : Int32) → post (some (.int x3)) (zSH zn, I, L)))))))) : RX12_read zn d post 159 [some (.ref 115), some (.int x1), some (.int x2), some (.int x3), some (.int x4), some (.int x5), some (.int x6), none] [] (zSH zn, I, L) := fun P hw hc => hc _ tX12_read_159 _ _ _ (hc _ tX12_read_160 _ _ _ (hc _ tX12_read_161 _ _ _ (⟨fun c1 => hc _ tX12_read_237 _ _ _ (hc _ tX12_read_238 _ _ _ (hc _ tX12_read_239 _ _ _ (⟨fun c3 => hc _ tX12_read_248 _ _ _ (hc _ tX12_read_249 _ _ _ (⟨nofun, rfl, rfl, ((h.1 c1).1 c3)⟩)), fun c4 => hc _ tX12_read_242 _ _ _ (hc _ tX12_read_244 _ _ _ (hc _ tX12_read_245 _ _ _ (⟨fun c5 => hc _ tX12_read_250 _ _ _ (hc _ tX12_read_251 _ _ _ (⟨_, _, sh115, (by decide), rfl, hc _ tX12_read_254 _ _ _ (hc _ tX12_read_256 _ _ _ (hc _ tX12_read_258 _ _ _ (hc _ tX12_read_259 _ _ _ (hc _ tX12_read_261 _ _ _ (⟨_, _, sh119, (by decide), (((h.1 c1).2 c4).1 c5).1, hc _ tX12_read_262 _ _ _ (hc _ tX12_read_263 _ _ _ (⟨_, _, sh115, (by decide), rfl, hc _ tX12_read_266 _ _ _ (hc _ tX12_read_268 _ _ _ (hc _ tX12_read_270 _ _ _ (hc _ tX12_read_271 _ _ _ (hc _ tX12_read_272 _ _ _ (hc _ tX12_read_274 _ _ _ (hc _ tX12_read_275 _ _ _ (⟨_, _, sh120, (by decide), (((h.1 c1).2 c4).1 c5).1, hc _ tX12_read_276 _ _ _ (hc _ tX12_read_277 _ _ _ (⟨_, _, sh115, (by decide), rfl, hc _ tX12_read_280 _ _ _ (hc _ tX12_read_281 _ _ _ (⟨⟨rfl, rfl⟩, hc _ tX12_read_282 _ _ _ (⟨_, _, _, sh121, Or.inl ⟨rfl, (by decide)⟩, zvin (by decide), hc _ tX12_read_283 _ _ _ (hc _ tX12_read_284 _ _ _ (hc _ tX12_read_285 _ _ _ (⟨_, _, sh121, (by decide), zvin (by decide), hc _ tX12_read_286 _ _ _ (hc _ tX12_read_289 _ _ _ (hw _ _ _ _ _ (zwk_s (zwk_s (zwk_s (zwk_s (zwk_n (zwk_n (zwk_n (zwk_s zwk_nil)))))))) ((((h.1 c1).2 c4).1 c5).2 P hw hc)))⟩)))⟩)⟩))⟩))⟩)))))))⟩))⟩)))))⟩)), fun c6 => hc _ tX12_read_248 _ _ _ (hc _ tX12_read_249 _ _ _ (⟨nofun, rfl, rfl, (((h.1 c1).2 c4).2 c6)⟩))⟩)))⟩))), fun c2 => hc _ tX12_read_164 _ _ _ (hc _ tX12_read_165 _ _ _ (⟨_, _, sh115, (by decide), rfl, hc _ tX12_read_168 _ _ _ (hc _ tX12_read_171 _ _ _ (hc _ tX12_read_172 _ _ _ (hc _ tX12_read_173 _ _ _ (⟨_, _, _, sh118, Or.inl ⟨rfl, (by decide)⟩, (h.2 c2).1, hc _ tX12_read_174 _ _ _ (hc _ tX12_read_176 _ _ _ (⟨fun c7 => hc _ tX12_read_237 _ _ _ (hc _ tX12_read_238 _ _ _ (hc _ tX12_read_239 _ _ _ (⟨fun c9 => hc _ tX12_read_248 _ _ _ (hc _ tX12_read_249 _ _ _ (⟨nofun, rfl, rfl, (((h.2 c2).2.1 c7).1 c9)⟩)), fun c10 => hc _ tX12_read_242 _ _ _ (hc _ tX12_read_244 _ _ _ (hc _ tX12_read_245 _ _ _ (⟨fun c11 => hc _ tX12_read_250 _ _ _ (hc _ tX12_read_251 _ _ _ (⟨_, _, sh115, (by decide), rfl, hc _ tX12_read_254 _ _ _ (hc _ tX12_read_256 _ _ _ (hc _ tX12_read_258 _ _ _ (hc _ tX12_read_259 _ _ _ (hc _ tX12_read_261 _ _ _ (⟨_, _, sh119, (by decide), ((((h.2 c2).2.1 c7).2 c10).1 c11).1, hc _ tX12_read_262 _ _ _ (hc _ tX12_read_263 _ _ _ (⟨_, _, sh115, (by decide), rfl, hc _ tX12_read_266 _ _ _ (hc _ tX12_read_268 _ _ _ (hc _ tX12_read_270 _ _ _ (hc _ tX12_read_271 _ _ _ (hc _ tX12_read_272 _ _ _ (hc _ tX12_read_274 _ _ _ (hc _ tX12_read_275 _ _ _ (⟨_, _, sh120, (by decide), ((((h.2 c2).2.1 c7).2 c10).1 c11).1, hc _ tX12_read_276 _ _ _ (hc _ tX12_read_277 _ _ _ (⟨_, _, sh115, (by decide), rfl, hc _ tX12_read_280 _ _ _ (hc _ tX12_read_281 _ _ _ (⟨⟨rfl, rfl⟩, hc _ tX12_read_282 _ _ _ (⟨_, _, _, sh121, Or.inl ⟨rfl, (by decide)⟩, zvin (by decide), hc _ tX12_read_283 _ _ _ (hc _ tX12_read_284 _ _ _ (hc _ tX12_read_285 _ _ _ (⟨_, _, sh121, (by decide), zvin (by decide), hc _ tX12_read_286 _ _ _ (hc _ tX12_read_289 _ _ _ (hw _ _ _ _ _ (zwk_s (zwk_s (zwk_s (zwk_s (zwk_n (zwk_n (zwk_n (zwk_s zwk_nil)))))))) (((((h.2 c2).2.1 c7).2 c10).1 c11).2 P hw hc)))⟩)))⟩)⟩))⟩))⟩)))))))⟩))⟩)))))⟩)), fun c12 => hc _ tX12_read_248 _ _ _ (hc _ tX12_read_249 _ _ _ (⟨nofun, rfl, rfl, ((((h.2 c2).2.1 c7).2 c10).2 c12)⟩))⟩)))⟩))), fun c8 => hc _ tX12_read_179 _ _ _ (hc _ tX12_read_180 _ _ _ (⟨_, _, sh115, (by decide), rfl, hc _ tX12_read_183 _ _ _ (hc _ tX12_read_186 _ _ _ (hc _ tX12_read_187 _ _ _ (hc _ tX12_read_188 _ _ _ (⟨_, _, _, sh118, Or.inl ⟨rfl, (by decide)⟩, (h.2 c2).1, hc _ tX12_read_189 _ _ _ (⟨Nat.le_of_ble_eq_true rfl, Nat.le_of_ble_eq_true rfl, zl1, zl2, _, ctX12_takes (I 118 (((400 : Int32) + x3)).toNatClampNeg) I L, fun r u k19 => by obtain ⟨rfl, rfl⟩ := k19; exact ⟨zl3, zl4, hc _ tX12_read_192 _ _ _ (hc _ tX12_read_194 _ _ _ (hc _ tX12_read_196 _ _ _ (hc _ tX12_read_198 _ _ _ (⟨fun c13 => hc _ tX12_read_220 _ _ _ (hc _ tX12_read_221 _ _ _ (⟨nofun, rfl, rfl, (((h.2 c2).2.2 c8).1 c13)⟩)), fun c14 => hc _ tX12_read_201 _ _ _ (hc _ tX12_read_203 _ _ _ (hc _ tX12_read_205 _ _ _ (⟨fun c15 => hc _ tX12_read_220 _ _ _ (hc _ tX12_read_221 _ _ _ (⟨nofun, rfl, rfl, ((((h.2 c2).2.2 c8).2 c14).1 c15)⟩)), fun c16 => hc _ tX12_read_208 _ _ _ (hc _ tX12_read_210 _ _ _ (hc _ tX12_read_212 _ _ _ (hc _ tX12_read_213 _ _ _ (hc _ tX12_read_214 _ _ _ (hc _ tX12_read_215 _ _ _ (hc _ tX12_read_217 _ _ _ (⟨fun c17 => hc _ tX12_read_222 _ _ _ (hc _ tX12_read_224 _ _ _ (hc _ tX12_read_225 _ _ _ (hc _ tX12_read_227 _ _ _ (hc _ tX12_read_228 _ _ _ (hc _ tX12_read_229 _ _ _ (hc _ tX12_read_231 _ _ _ (hc _ tX12_read_234 _ _ _ (hw _ _ _ _ _ (zwk_s (zwk_s (zwk_s (zwk_s (zwk_s (zwk_s (zwk_s (zwk_n zwk_nil)))))))) ((((((h.2 c2).2.2 c8).2 c14).2 c16).1 c17) P hw hc))))))))), fun c18 => hc _ tX12_read_220 _ _ _ (hc _ tX12_read_221 _ _ _ (⟨nofun, rfl, rfl, (((((h.2 c2).2.2 c8).2 c14).2 c16).2 c18)⟩))⟩)))))))⟩)))⟩))))⟩⟩)⟩))))⟩))⟩))⟩))))⟩))⟩)))
theorem ctX12_read {zn d : Nat} (x1 : Int32) (I : Nat → Nat → Int32) (L : Nat → Nat → Int64) (T : Nat → Nat) (l : Nat) (q0 : zs x1 1) (q1 : I 117 (tn x1) = nI l) (q2 : l ≤ 200) (q3 : ∀ i, i < l → T i < 256 ∧ I 116 (200 * tn x1 + i) = nI (T i)) : zcal zty zcd false (d + 3) 142 [.ref 115, .int x1] (zSH zn, I, L) 0 0 (fun r u => ∃ (J : Nat → Nat → Int32), r = some (.int (rdf T l 0 zr0).1) ∧ u = (zSH zn, J, L) ∧ (rKeep I J ∧ ((rdf T l 0 zr0).1 = -4 → rDr J 2 (rdf T l 0 zr0).2))) := by
  obtain ⟨v, hv, rfl⟩ := q0
  have ev : tn (nI v) = v := tn_nI (by omega)
  have ev' : (nI v).toNatClampNeg = v := ev
  rw [ev] at q1 q3
  have add4 : ∀ i, i ≤ 200 → ((400 : Int32) + nI i).toNatClampNeg = 400 + i := fun i hi => by rw [nl 400, nI_add]; exact nI_clamp (by omega)
  have vin4 : ∀ i, i ≤ 200 → vp_in ((400 : Int32) + nI i) 1400 := fun i hi => by rw [nl 400, nI_add]; exact vin_nI (by omega) (by decide)
  have add3 : ∀ n, n < 19 → ((38 : Int32) + nI n).toNatClampNeg = 38 + n := fun i hi => by rw [nl 38, nI_add]; exact nI_clamp (by omega)
  have vin3 : ∀ n, n < 19 → vp_in ((38 : Int32) + nI n) 133 := fun i hi => by rw [nl 38, nI_add]; exact vin_nI (by omega) (by decide)
  have both : ∀ M m, m ≤ M → (∀ (i nm : Nat) (V : zVw) (J : Nat → Nat → Int32), i + m = l → rS I J T l V → RX12_read zn d (rdQ zn I L T (rdf T m i (0, nm, [], V))) 76 [some (.ref 115), some (.int (nI v)), some (.int (nI l)), some (.int (nI i)), none, none, none, none] [] (zSH zn, J, L)) ∧ (∀ (i nm f : Nat) (cur : List Nat) (V : zVw) (J : Nat → Nat → Int32), i + m = l → rS I J T l V → 6 ≤ nm → nm < 19 → V nm = none → okd 0 cur → f + cur.length = i → (∀ (j x : Nat), cur[j]? = some x → T (f + j) = byt x) → RX12_read zn d (rdQ zn I L T (rdf T m i (2, nm, cur, V))) 159 [some (.ref 115), some (.int (nI v)), some (.int (nI l)), some (.int (nI i)), some (.int (nI nm)), some (.int (nI f)), some (.int (nI (depd 0 cur))), none] [] (zSH zn, J, L)) := by
    intro M
    induction M with
    | zero =>
      intro m hm
      have : m = 0 := by omega
      subst this
      refine ⟨fun i nm V J hi hS => ?_, fun i nm f cur V J hi hS n6 n19 hv hk hf hT => ?_⟩
      · have : i = l := by omega
        subst this
        refine gX12_read_76 _ _ _ J L ⟨fun _ => ⟨J, rfl, rfl, hS.1, fun _ => ⟨hS.2.2.1, hS.2.2.2.1, hS.2.2.2.2⟩⟩, fun h => absurd (Int32.le_refl _) h⟩
      · have : i = l := by omega
        subst this
        rw [rdf_0 (show (2 : Nat) ≠ 0 by decide)]
        refine gX12_read_159 _ _ _ _ _ _ J L ⟨fun _ => ⟨fun _ => rS_no hS q2, fun h => absurd rfl h⟩, fun h => absurd (Int32.le_refl _) h⟩
    | succ M ih =>
      intro m hm
      cases m with
      | zero => exact ih 0 (by omega)
      | succ m =>
      refine ⟨fun i nm V J hi hS => ?_, fun i nm f cur V J hi hS n6 n19 hv hk hf hT => ?_⟩
      · obtain ⟨t1, _⟩ := q3 i (by omega)
        have hb := hS.2.1 i (by omega)
        refine gX12_read_76 _ _ _ J L ⟨fun h => absurd h ?_, fun _ => ⟨vin4 i (by omega), ?_⟩⟩
        · rw [nI_leI (by omega) (by omega)]; omega
        · rw [add4 i (by omega), hb, let_in2 _ t1]
          refine ⟨fun h => ?_, fun h => ?_⟩
          · have hr : rdn (0, nm, [], V) (T i) = none := by
              unfold rdn
              dsimp only
              rw [if_pos rfl, if_neg (fun z => h ⟨z.1, z.2.1⟩)]
            rw [rdf_no hr]
            exact rS_no hS (by omega)
          · obtain ⟨n, hn⟩ : ∃ n, T i = n + 97 := ⟨T i - 97, by omega⟩
            have e1 : nI (T i) - 97 = nI n := by rw [hn, nl 97, pk_sub (by omega)]; rfl
            have hn19 : n < 19 := by omega
            rw [e1, add3 n hn19, rLn_4 hS.2.2.2.1 hn19]
            refine ⟨vin3 n hn19, fun h2 => ?_, fun h2 => ?_⟩
            · have hr : rdn (0, nm, [], V) (T i) = some (1, n, [], V) := by
                unfold rdn
                dsimp only
                rw [hn, if_pos rfl, if_pos ⟨by omega, by omega, by rw [Nat.add_sub_cancel, h2]; rfl⟩, Nat.add_sub_cancel]
              rw [rdf_so hr, nI_1]
              refine ⟨fun h3 => ?_, fun h3 => ⟨vin4 (i + 1) (by omega), ?_⟩⟩
              · have : i + 1 = l := nI_inj (by omega) (by omega) h3
                have hm0 : m = 0 := by omega
                subst hm0
                rw [rdf_0 (show (1 : Nat) ≠ 0 by decide)]
                exact rS_no hS (by omega)
              · have hm1 : m ≠ 0 := fun z => h3 (by rw [show i + 1 = l by omega])
                obtain ⟨p, rfl⟩ : ∃ p, m = p + 1 := ⟨m - 1, by omega⟩
                obtain ⟨t2, _⟩ := q3 (i + 1) (by omega)
                rw [add4 (i + 1) (by omega), hS.2.1 (i + 1) (by omega), nI_1]
                refine ⟨fun h4 => ?_, fun h4 => ?_⟩
                · have h61 : T (i + 1) = 61 := nI_inj (by omega) (by decide) h4
                  have hr2 : rdn (1, n, [], V) (T (i + 1)) = some (2, n, [], V) := by
                    unfold rdn
                    dsimp only
                    rw [if_neg (by decide), if_pos rfl, if_pos h61]
                  rw [rdf_so hr2]
                  exact (ih p (by omega)).2 (i + 1 + 1) n (i + 1 + 1) [] V J (by omega) hS (by omega) hn19 h2 trivial rfl (fun j x hx => by simp at hx)
                · have hr2 : rdn (1, n, [], V) (T (i + 1)) = none := by
                    unfold rdn
                    dsimp only
                    rw [if_neg (by decide), if_pos rfl, if_neg (fun z => h4 (by rw [z]; rfl))]
                  rw [rdf_no hr2]
                  exact rS_no hS (by omega)
            · have hr : rdn (0, nm, [], V) (T i) = none := by
                unfold rdn
                dsimp only
                rw [hn, if_pos rfl, if_neg]
                intro z
                rw [Nat.add_sub_cancel] at z
                exact h2 (Option.not_isSome_iff_eq_none.mp (by rw [z.2.2]; decide))
              rw [rdf_no hr]
              exact rS_no hS (by omega)
      · obtain ⟨t1, _⟩ := q3 i (by omega)
        have hb := hS.2.1 i (by omega)
        have hd10 : depd 0 cur ≤ 10 := okd_le _ 0 (by decide) hk
        have hil : ¬ nI i = nI l := fun z => by have := nI_inj (by omega) (by omega) z; omega
        refine gX12_read_159 _ _ _ _ _ _ J L ⟨fun h => absurd h ?_, fun _ => ⟨vin4 i (by omega), ?_⟩⟩
        · rw [nI_leI (by omega) (by omega)]; omega
        · rw [add4 i (by omega), hb]
          refine ⟨fun h => ⟨fun h2 => absurd h2 hil, fun _ => ⟨fun h2 => ?_, fun h2 => ?_⟩⟩, fun h => ?_⟩
          · have h59 : T i = 59 := nI_inj (by omega) (by decide) h
            have h1 : depd 0 cur = 1 := nI_inj (by omega) (by decide) h2
            have hr : rdn (2, nm, cur, V) (T i) = some (0, nm, [], vset V nm cur) := by
              unfold rdn
              dsimp only
              rw [if_neg (by decide), if_neg (by decide), if_pos h59, if_pos h1]
            rw [rdf_so hr, add3 nm n19]
            refine ⟨vin3 nm n19, ?_⟩
            have e7 : (zi (zi J 119 (38 + nm) (nI f)) 120 (38 + nm) (nI i - nI f)) 121 2 = nI (cntL V) := by
              rw [zi_ne (by decide), zi_ne (by decide)]; exact hS.2.2.2.2
            have e8 : nI i - nI f = nI cur.length := by rw [pk_sub (by omega)]; congr 1; omega
            rw [e7, e8, nI_1, nI_1]
            exact (ih m (by omega)).1 (i + 1) nm _ _ (by omega) (rS_end hS q2 (by omega) n6 n19 hv ⟨hk, h1⟩ hf hT)
          · have h59 : T i = 59 := nI_inj (by omega) (by decide) h
            have hr : rdn (2, nm, cur, V) (T i) = none := by
              unfold rdn
              dsimp only
              rw [if_neg (by decide), if_neg (by decide), if_pos h59, if_neg (fun z => h2 (by rw [z]; rfl))]
            rw [rdf_no hr]
            exact rS_no hS (by omega)
          · have h59 : T i ≠ 59 := fun z => h (by rw [z]; rfl)
            cases hkb : kb (T i) with
            | none =>
              have hr : rdn (2, nm, cur, V) (T i) = none := by
                unfold rdn
                dsimp only
                rw [if_neg (by decide), if_neg (by decide), if_neg h59, hkb]
              rw [(kb_none t1 hkb).2, rdf_no hr]
              exact ⟨fun _ => rS_no hS (by omega), fun z => absurd rfl z⟩
            | some k =>
              obtain ⟨a1, a2, a3, a4, a5, a6⟩ := kb_some t1 hkb
              have hr : rdn (2, nm, cur, V) (T i) = if ar k ≤ depd 0 cur ∧ depd 0 cur - ar k < 10 then some (2, nm, cur ++ [k], V) else none := by
                unfold rdn
                dsimp only
                rw [if_neg (by decide), if_neg (by decide), if_neg h59, hkb]
              have har : ar k ≤ 3 := ar_le
              rw [a4]
              refine ⟨fun z => absurd z (nI_n4 (by omega)), fun _ => ⟨fun h2 => ?_, fun h2 => ?_⟩⟩
              · rw [nI_ltI (by omega) (by omega)] at h2
                rw [if_neg (by omega)] at hr
                rw [rdf_no hr]
                exact rS_no hS (by omega)
              · rw [nI_ltI (by omega) (by omega)] at h2
                rw [pk_sub (by omega), nI_1, nl 10, nI_leI (by omega) (by omega)]
                refine ⟨fun h3 => ?_, fun h3 => ?_⟩
                · rw [if_pos (by omega)] at hr
                  rw [rdf_so hr, nI_1]
                  have e9 : nI (depd 0 cur) + (1 - nI (ar k)) = nI (depd 0 (cur ++ [k])) := by
                    have : ∀ D, D ≤ 10 → ∀ a, a ≤ 3 → a ≤ D → nI D + (1 - nI a) = nI (D - a + 1) := by decide +kernel
                    rw [this _ hd10 _ har (by omega), depd_app]; rfl
                  rw [e9]
                  refine (ih m (by omega)).2 (i + 1) nm f (cur ++ [k]) V J (by omega) hS n6 n19 hv ?_ ?_ (fun j x hx => ?_)
                  · rw [okd_app]
                    exact ⟨hk, a1, by omega, by omega, trivial⟩
                  · rw [List.length_append, List.length_singleton]; omega
                  · by_cases hj : j < cur.length
                    · rw [List.getElem?_append_left hj] at hx
                      exact hT j x hx
                    · rw [List.getElem?_append_right (by omega)] at hx
                      have h0 : j - cur.length = 0 := by
                        cases hz : j - cur.length with
                        | zero => rfl
                        | succ p => rw [hz] at hx; simp at hx
                      rw [h0] at hx
                      cases hx
                      rw [show f + j = i by omega]
                      exact a2.symm
                · rw [if_neg (by omega)] at hr
                  rw [rdf_no hr]
                  exact rS_no hS (by omega)
  have copy : ∀ (m i : Nat) (J : Nat → Nat → Int32), i + m = l → rKeep I J → (∀ j, j < i → J 118 (400 + j) = nI (T j)) → (∀ n, n < 19 → J 120 (38 + n) = -4) → RX12_read zn d (rdQ zn I L T (rdf T l 0 zr0)) 34 [some (.ref 115), some (.int (nI v)), some (.int (nI l)), some (.int (nI i)), none, none, none, none] [] (zSH zn, J, L) := by
    intro m
    induction m with
    | zero =>
      intro i J hi hK hc hn
      have : i = l := by omega
      subst this
      refine gX12_read_34 _ _ _ J L ⟨fun _ => ?_, fun h => absurd (Int32.le_refl _) h⟩
      refine (both i i (Nat.le_refl _)).1 0 6 (fun _ => none) _ (by omega) ⟨rKeep_t hK ⟨fr_zi (by decide), fun j hj => ?_, fun j hj => ⟨?_, ?_⟩, fun j hj => ?_⟩, fun j hj => ?_, nofun, fun n hn2 => ?_, ?_⟩
      · rw [zi_ne (by decide)]
      · rw [zi_ne (by decide)]
      · rw [zi_ne (by decide)]
      · rw [zi_at, if_neg (fun z => hj z.2)]
      · rw [zi_ne (by decide)]; exact hc j hj
      · show zi J 121 2 0 120 (38 + n) = -4
        rw [zi_ne (by decide)]; exact hn n hn2
      · rw [zi_at, if_pos ⟨rfl, rfl⟩]; rfl
    | succ m ih =>
      intro i J hi hK hc hn
      obtain ⟨t1, t2⟩ := q3 i (by omega)
      have e5 : ((200 : Int32) * nI v + nI i) = nI (200 * v + i) := by rw [nl 200, pk_mul, nI_add]
      have e6 : (nI (200 * v + i)).toNatClampNeg = 200 * v + i := nI_clamp (by omega)
      refine gX12_read_34 _ _ _ J L ⟨fun h => absurd h ?_, fun _ => ⟨by rw [e5]; exact vin_nI (by omega) (by decide), vin4 i (by omega), ?_⟩⟩
      · rw [nI_leI (by omega) (by omega)]; omega
      · rw [e5, e6, add4 i (by omega), nI_1, hK.1 116 (by decide), t2]
        refine ih (i + 1) _ (by omega) (rKeep_t hK ⟨fr_zi (by decide), fun j hj => ?_, fun j hj => ⟨?_, ?_⟩, fun j hj => ?_⟩) (fun j hj => ?_) (fun n hn2 => ?_)
        · rw [zi_at, if_neg (fun z => hj (by omega))]
        · rw [zi_ne (by decide)]
        · rw [zi_ne (by decide)]
        · rw [zi_ne (by decide)]
        · rw [zi_at]
          by_cases hji : j = i
          · subst hji; rw [if_pos ⟨rfl, rfl⟩]
          · rw [if_neg (fun z => hji (by omega))]; exact hc j (by omega)
        · rw [zi_ne (by decide)]; exact hn n hn2
  have wipe : ∀ (m i : Nat) (J : Nat → Nat → Int32), i + m = 19 → rKeep I J → (∀ n, n < i → J 120 (38 + n) = -4) → RX12_read zn d (rdQ zn I L T (rdf T l 0 zr0)) 9 [some (.ref 115), some (.int (nI v)), some (.int (nI l)), some (.int (nI i)), none, none, none, none] [] (zSH zn, J, L) := by
    intro m
    induction m with
    | zero =>
      intro i J hi hK hn
      have : i = 19 := by omega
      subst this
      exact gX12_read_9 _ _ _ J L ⟨fun _ => copy l 0 J (by omega) hK (fun j hj => absurd hj (Nat.not_lt_zero _)) hn, fun h => absurd (by decide) h⟩
    | succ m ih =>
      intro i J hi hK hn
      refine gX12_read_9 _ _ _ J L ⟨fun h => absurd h ?_, fun _ => ⟨vin3 i (by omega), ?_⟩⟩
      · rw [nl 19, nI_leI (by decide) (by omega)]; omega
      · rw [add3 i (by omega), nI_1]
        refine ih (i + 1) _ (by omega) (rKeep_t hK ⟨fr_zi (by decide), fun j hj => ?_, fun j hj => ⟨?_, ?_⟩, fun j hj => ?_⟩) (fun n hn2 => ?_)
        · rw [zi_ne (by decide)]
        · rw [zi_ne (by decide)]
        · rw [zi_at, if_neg (fun z => hj (by omega))]
        · rw [zi_ne (by decide)]
        · rw [zi_at]
          by_cases hji : n = i
          · subst hji; rw [if_pos ⟨rfl, rfl⟩]
          · rw [if_neg (fun z => hji (by omega))]; exact hn n (by omega)
  refine eX12_read _ I L (gX12_read_0 _ I L ⟨vin_nI (by omega) (by decide), ?_⟩)
  rw [ev', q1]
  exact wipe 19 0 I (by decide) ⟨fr_rf, fun _ _ => rfl, fun _ _ => ⟨rfl, rfl⟩, fun _ _ => rfl⟩ (fun n hn => absurd hn (Nat.not_lt_zero _))

