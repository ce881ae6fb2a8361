/-! a LINE as the reference holds it, and its values 0, 1, x (2) -/
def byt (k : Nat) : Nat := if k < 19 then 97 + k else if k = 19 then 48 else if k = 20 then 49 else if k = 21 then 126 else if k = 22 then 38 else if k = 23 then 124 else if k = 24 then 94 else 63
def lnR (I : Nat → Nat → Int32) (v n : Nat) (ks : List Nat) (f : Nat) : Prop := f + ks.length ≤ 200 ∧ I 119 (19 * v + n) = nI f ∧ I 120 (19 * v + n) = nI ks.length ∧ ∀ (i x : Nat), ks[i]? = some x → I 118 (200 * v + f + i) = nI (byt x)
def opT (k : Nat) (a b c : Int32) : Int32 := if k = 19 then 0 else if k = 20 then 1 else if k = 21 then (if a = 2 then 2 else 1 - a) else if k = 25 then fX12_chosen a b c else fX12_joined (nI (byt k)) a b
theorem opT_eq : opRel Eq opT opT := opRel_eq (fun k a b c a' b' c' h1 h2 ha hb hc => by
  rcases (show k = 19 ∨ k = 20 ∨ k = 21 ∨ k = 22 ∨ k = 23 ∨ k = 24 ∨ k = 25 by omega) with rfl | rfl | rfl | rfl | rfl | rfl | rfl
  · rfl
  · rfl
  · rw [ha (by decide)]; rfl
  · rw [ha (by decide), hb (by decide)]; rfl
  · rw [ha (by decide), hb (by decide)]; rfl
  · rw [ha (by decide), hb (by decide)]; rfl
  · rw [ha (by decide), hb (by decide), hc (by decide)])
def usR (I : Nat → Nat → Int32) (n : Nat) : Int32 := if nI n = I 115 18 then I 115 19 else I 130 n
abbrev RX12_used (zn d : Nat) (post : zP) : zK := zRun (zcal zty zcd false (d + 0)) kX12_used (zLM zn) post
theorem eX12_used {zn d : Nat} {post : zP} (x1 : Int32) (I : Nat → Nat → Int32) (L : Nat → Nat → Int64) (h : RX12_used zn d post 0 [some (.ref 115), some (.int x1)] [] (zSH zn, I, L)) : zcal zty zcd false (d + 1) 158 [.ref 115, .int x1] (zSH zn, I, L) 0 0 post := zcal_of (d := d + 0) zmt158 zmc158 rfl (Nat.le_of_ble_eq_true rfl) h
theorem gX12_used_0 {zn d : Nat} {post : zP} (x1 : Int32) (I : Nat → Nat → Int32) (L : Nat → Nat → Int64) (h : (¬ x1 = (I 115 18) → vp_in x1 19 ∧ (post (some (.int (I 130 (x1).toNatClampNeg))) (zSH zn, I, L))) ∧ (x1 = (I 115 18) → post (some (.int (I 115 19))) (zSH zn, I, L))) : RX12_used zn d post 0 [some (.ref 115), some (.int x1)] [] (zSH zn, I, L) := fun P hw hc => hc _ tX12_used_0 _ _ _ (hc _ tX12_used_1 _ _ _ (hc _ tX12_used_2 _ _ _ (⟨_, sh115, (by decide), hc _ tX12_used_5 _ _ _ (⟨fun c1 => hc _ tX12_used_15 _ _ _ (hc _ tX12_used_16 _ _ _ (⟨_, _, sh115, (by decide), rfl, hc _ tX12_used_19 _ _ _ (hc _ tX12_used_20 _ _ _ (⟨_, _, _, sh130, Or.inl ⟨rfl, (by decide)⟩, (h.1 c1).1, hc _ tX12_used_21 _ _ _ (⟨nofun, rfl, rfl, (h.1 c1).2⟩)⟩))⟩)), fun c2 => hc _ tX12_used_8 _ _ _ (hc _ tX12_used_9 _ _ _ (⟨_, sh115, (by decide), hc _ tX12_used_12 _ _ _ (hc _ tX12_used_21 _ _ _ (⟨nofun, rfl, rfl, (h.2 c2)⟩))⟩))⟩)⟩)))
theorem ctX12_used {zn d : Nat} (x1 : Int32) (I : Nat → Nat → Int32) (L : Nat → Nat → Int64) (q0 : zs x1 18) : zcal zty zcd false (d + 1) 158 [.ref 115, .int x1] (zSH zn, I, L) 0 0 (fun r u => r = some (.int (usR I (tn x1))) ∧ u = (zSH zn, I, L)) := by
  obtain ⟨n, hn, rfl⟩ := q0
  have e : tn (nI n) = n := tn_nI (by omega)
  have e' : (nI n).toNatClampNeg = n := e
  refine eX12_used _ I L (gX12_used_0 _ I L ⟨fun h => ⟨vin_nI (by omega) (by omega), ?_, rfl⟩, fun h => ⟨?_, rfl⟩⟩)
  · rw [e, e', usR, if_neg h]
  · rw [e, usR, if_pos h]
theorem takes_b {x : Nat} (h : x < 26) : fX12_takes (nI (byt x)) = nI (ar x) := by
  have : ∀ x, x < 26 → fX12_takes (nI (byt x)) = nI (ar x) := by decide +kernel
  exact this x h
theorem zi_s131 {I : Nat → Nat → Int32} {M : Nat → Int32} {i : Nat} {v : Int32} : zi (zrI I 131 M) 131 i v = zrI I 131 (fun j => if j = i then v else M j) := zi_zrI
abbrev RX12_made (zn d : Nat) (post : zP) : zK := zRun (zcal zty zcd false (d + 2)) kX12_made (zLM zn) post
theorem eX12_made {zn d : Nat} {post : zP} (x1 : Int32) (x2 : Int32) (I : Nat → Nat → Int32) (L : Nat → Nat → Int64) (h : RX12_made zn d post 0 [some (.ref 115), some (.int x1), some (.int x2), none, none, none] [] (zSH zn, I, L)) : zcal zty zcd false (d + 3) 159 [.ref 115, .int x1, .int x2] (zSH zn, I, L) 0 0 post := zcal_of (d := d + 2) zmt159 zmc159 rfl (Nat.le_of_ble_eq_true rfl) h
theorem gX12_made_0 {zn d : Nat} {post : zP} (x1 : Int32) (x2 : Int32) (I : Nat → Nat → Int32) (L : Nat → Nat → Int64) (h : RX12_made zn d post 5 [some (.ref 115), some (.int x1), some (.int x2), some (.int (0 : Int32)), some (.int (0 : Int32)), none] [] (zSH zn, I, L)) : RX12_made zn d post 0 [some (.ref 115), some (.int x1), some (.int x2), none, none, none] [] (zSH zn, I, L) := fun P hw hc => hc _ tX12_made_0 _ _ _ (hc _ tX12_made_1 _ _ _ (hc _ tX12_made_2 _ _ _ (hc _ tX12_made_3 _ _ _ (h P hw hc))))
theorem gX12_made_5 {zn d : Nat} {post : zP} (x1 : Int32) (x2 : Int32) (x3 : Int32) (x4 : Int32) (I : Nat → Nat → Int32) (L : Nat → Nat → Int64) (h : vp_in (((19 : Int32) * x1) + x2) 133 ∧ (((I 120 ((((19 : Int32) * x1) + x2)).toNatClampNeg) ≤ x4 → post (some (.int (I 131 0))) (zSH zn, I, L)) ∧ (¬ (I 120 ((((19 : Int32) * x1) + x2)).toNatClampNeg) ≤ x4 → vp_in ((((200 : Int32) * x1) + (I 119 ((((19 : Int32) * x1) + x2)).toNatClampNeg)) + x4) 1400 ∧ (((fX12_takes (I 118 (((((200 : Int32) * x1) + (I 119 ((((19 : Int32) * x1) + x2)).toNatClampNeg)) + x4)).toNatClampNeg)) = 0 → ((50 : Int32) ≤ (I 118 (((((200 : Int32) * x1) + (I 119 ((((19 : Int32) * x1) + x2)).toNatClampNeg)) + x4)).toNatClampNeg) → (zs ((I 118 (((((200 : Int32) * x1) + (I 119 ((((19 : Int32) * x1) + x2)).toNatClampNeg)) + x4)).toNatClampNeg) - (97 : Int32)) 18) ∧ (vp_in x3 10 ∧ (RX12_made zn d post 5 [some (.ref 115), some (.int x1), some (.int x2), some (.int (x3 + (1 : Int32))), some (.int (x4 + (1 : Int32))), none] [] (zSH zn, (zi I 131 (x3).toNatClampNeg (usR I (tn ((I 118 (((((200 : Int32) * x1) + (I 119 ((((19 : Int32) * x1) + x2)).toNatClampNeg)) + x4)).toNatClampNeg) - (97 : Int32))))), L)))) ∧ (¬ (50 : Int32) ≤ (I 118 (((((200 : Int32) * x1) + (I 119 ((((19 : Int32) * x1) + x2)).toNatClampNeg)) + x4)).toNatClampNeg) → vp_in x3 10 ∧ (RX12_made zn d post 5 [some (.ref 115), some (.int x1), some (.int x2), some (.int (x3 + (1 : Int32))), some (.int (x4 + (1 : Int32))), none] [] (zSH zn, (zi I 131 (x3).toNatClampNeg ((I 118 (((((200 : Int32) * x1) + (I 119 ((((19 : Int32) * x1) + x2)).toNatClampNeg)) + x4)).toNatClampNeg) - (48 : Int32))), L)))) ∧ (¬ (fX12_takes (I 118 (((((200 : Int32) * x1) + (I 119 ((((19 : Int32) * x1) + x2)).toNatClampNeg)) + x4)).toNatClampNeg)) = 0 → ((fX12_takes (I 118 (((((200 : Int32) * x1) + (I 119 ((((19 : Int32) * x1) + x2)).toNatClampNeg)) + x4)).toNatClampNeg)) = 1 → vp_in (x3 - (1 : Int32)) 10 ∧ ((¬ (I 131 ((x3 - (1 : Int32))).toNatClampNeg) = (2 : Int32) → RX12_made zn d post 5 [some (.ref 115), some (.int x1), some (.int x2), some (.int x3), some (.int (x4 + (1 : Int32))), none] [] (zSH zn, (zi I 131 ((x3 - (1 : Int32))).toNatClampNeg ((1 : Int32) - (I 131 ((x3 - (1 : Int32))).toNatClampNeg))), L)) ∧ ((I 131 ((x3 - (1 : Int32))).toNatClampNeg) = (2 : Int32) → RX12_made zn d post 5 [some (.ref 115), some (.int x1), some (.int x2), some (.int x3), some (.int (x4 + (1 : Int32))), none] [] (zSH zn, (zi I 131 ((x3 - (1 : Int32))).toNatClampNeg (2 : Int32)), L)))) ∧ (¬ (fX12_takes (I 118 (((((200 : Int32) * x1) + (I 119 ((((19 : Int32) * x1) + x2)).toNatClampNeg)) + x4)).toNatClampNeg)) = 1 → ((fX12_takes (I 118 (((((200 : Int32) * x1) + (I 119 ((((19 : Int32) * x1) + x2)).toNatClampNeg)) + x4)).toNatClampNeg)) = 2 → vp_in ((x3 + (-1 : Int32)) - (1 : Int32)) 10 ∧ (vp_in (x3 + (-1 : Int32)) 10 ∧ (RX12_made zn d post 5 [some (.ref 115), some (.int x1), some (.int x2), some (.int (x3 + (-1 : Int32))), some (.int (x4 + (1 : Int32))), none] [] (zSH zn, (zi I 131 (((x3 + (-1 : Int32)) - (1 : Int32))).toNatClampNeg (fX12_joined (I 118 (((((200 : Int32) * x1) + (I 119 ((((19 : Int32) * x1) + x2)).toNatClampNeg)) + x4)).toNatClampNeg) (I 131 (((x3 + (-1 : Int32)) - (1 : Int32))).toNatClampNeg) (I 131 ((x3 + (-1 : Int32))).toNatClampNeg))), L)))) ∧ (¬ (fX12_takes (I 118 (((((200 : Int32) * x1) + (I 119 ((((19 : Int32) * x1) + x2)).toNatClampNeg)) + x4)).toNatClampNeg)) = 2 → vp_in ((x3 + (-2 : Int32)) - (1 : Int32)) 10 ∧ (vp_in (x3 + (-2 : Int32)) 10 ∧ (vp_in ((x3 + (-2 : Int32)) + (1 : Int32)) 10 ∧ (RX12_made zn d post 5 [some (.ref 115), some (.int x1), some (.int x2), some (.int (x3 + (-2 : Int32))), some (.int (x4 + (1 : Int32))), none] [] (zSH zn, (zi I 131 (((x3 + (-2 : Int32)) - (1 : Int32))).toNatClampNeg (fX12_chosen (I 131 (((x3 + (-2 : Int32)) - (1 : Int32))).toNatClampNeg) (I 131 ((x3 + (-2 : Int32))).toNatClampNeg) (I 131 (((x3 + (-2 : Int32)) + (1 : Int32))).toNatClampNeg))), L))))))))))) : RX12_made zn d post 5 [some (.ref 115), some (.int x1), some (.int x2), some (.int x3), some (.int x4), none] [] (zSH zn, I, L) := fun P hw hc => hc _ tX12_made_5 _ _ _ (hc _ tX12_made_7 _ _ _ (hc _ tX12_made_8 _ _ _ (⟨_, _, sh115, (by decide), rfl, hc _ tX12_made_11 _ _ _ (hc _ tX12_made_13 _ _ _ (hc _ tX12_made_14 _ _ _ (hc _ tX12_made_15 _ _ _ (hc _ tX12_made_16 _ _ _ (hc _ tX12_made_17 _ _ _ (⟨_, _, _, sh120, Or.inl ⟨rfl, (by decide)⟩, h.1, hc _ tX12_made_18 _ _ _ (⟨fun c1 => hc _ tX12_made_228 _ _ _ (hc _ tX12_made_229 _ _ _ (⟨_, _, sh115, (by decide), rfl, hc _ tX12_made_232 _ _ _ (hc _ tX12_made_233 _ _ _ (⟨_, _, _, sh131, Or.inl ⟨rfl, (by decide)⟩, zvin (by decide), hc _ tX12_made_234 _ _ _ (⟨nofun, rfl, rfl, (h.2.1 c1)⟩)⟩))⟩)), fun c2 => hc _ tX12_made_21 _ _ _ (hc _ tX12_made_22 _ _ _ (⟨_, _, sh115, (by decide), rfl, hc _ tX12_made_25 _ _ _ (hc _ tX12_made_28 _ _ _ (hc _ tX12_made_29 _ _ _ (hc _ tX12_made_30 _ _ _ (hc _ tX12_made_31 _ _ _ (⟨_, _, sh115, (by decide), rfl, hc _ tX12_made_34 _ _ _ (hc _ tX12_made_36 _ _ _ (hc _ tX12_made_37 _ _ _ (hc _ tX12_made_38 _ _ _ (hc _ tX12_made_39 _ _ _ (hc _ tX12_made_40 _ _ _ (⟨_, _, _, sh119, Or.inl ⟨rfl, (by decide)⟩, h.1, hc _ tX12_made_41 _ _ _ (hc _ tX12_made_42 _ _ _ (hc _ tX12_made_44 _ _ _ (hc _ tX12_made_45 _ _ _ (⟨_, _, _, sh118, Or.inl ⟨rfl, (by decide)⟩, (h.2.2 c2).1, hc _ tX12_made_46 _ _ _ (hc _ tX12_made_48 _ _ _ (hc _ tX12_made_50 _ _ _ (⟨Nat.le_of_ble_eq_true rfl, Nat.le_of_ble_eq_true rfl, zl1, zl2, _, ctX12_takes (I 118 (((((200 : Int32) * x1) + (I 119 ((((19 : Int32) * x1) + x2)).toNatClampNeg)) + x4)).toNatClampNeg) I L, fun r u k16 => by obtain ⟨rfl, rfl⟩ := k16; exact ⟨zl3, zl4, hc _ tX12_made_53 _ _ _ (⟨fun c3 => hc _ tX12_made_80 _ _ _ (hc _ tX12_made_81 _ _ _ (⟨_, _, sh115, (by decide), rfl, hc _ tX12_made_84 _ _ _ (hc _ tX12_made_85 _ _ _ (hc _ tX12_made_87 _ _ _ (hc _ tX12_made_89 _ _ _ (⟨fun c5 => hc _ tX12_made_100 _ _ _ (hc _ tX12_made_101 _ _ _ (hc _ tX12_made_103 _ _ _ (hc _ tX12_made_105 _ _ _ (hc _ tX12_made_106 _ _ _ (⟨⟨_, _, _, rfl, (by decide), sh115⟩, ⟨Nat.le_of_ble_eq_true rfl, Nat.le_of_ble_eq_true rfl, zl1, zl2, _, ctX12_used ((I 118 (((((200 : Int32) * x1) + (I 119 ((((19 : Int32) * x1) + x2)).toNatClampNeg)) + x4)).toNatClampNeg) - (97 : Int32)) I L ((((h.2.2 c2).2.1 c3).1 c5).1), fun r u k7 => by obtain ⟨rfl, rfl⟩ := k7; exact ⟨zl3, zl4, hc _ tX12_made_109 _ _ _ (⟨_, _, sh131, (by decide), (((h.2.2 c2).2.1 c3).1 c5).2.1, hc _ tX12_made_110 _ _ _ (hc _ tX12_made_113 _ _ _ (hc _ tX12_made_222 _ _ _ (hc _ tX12_made_225 _ _ _ (hw _ _ _ _ _ (zwk_s (zwk_s (zwk_s (zwk_s (zwk_s (zwk_n zwk_nil)))))) ((((h.2.2 c2).2.1 c3).1 c5).2.2 P hw hc)))))⟩)⟩⟩⟩))))), fun c6 => hc _ tX12_made_92 _ _ _ (hc _ tX12_made_94 _ _ _ (hc _ tX12_made_96 _ _ _ (hc _ tX12_made_97 _ _ _ (hc _ tX12_made_109 _ _ _ (⟨_, _, sh131, (by decide), (((h.2.2 c2).2.1 c3).2 c6).1, hc _ tX12_made_110 _ _ _ (hc _ tX12_made_113 _ _ _ (hc _ tX12_made_222 _ _ _ (hc _ tX12_made_225 _ _ _ (hw _ _ _ _ _ (zwk_s (zwk_s (zwk_s (zwk_s (zwk_s (zwk_n zwk_nil)))))) ((((h.2.2 c2).2.1 c3).2 c6).2 P hw hc)))))⟩)))))⟩))))⟩)), fun c4 => ⟨fun c8 => hc _ tX12_made_116 _ _ _ (hc _ tX12_made_117 _ _ _ (⟨_, _, sh115, (by decide), rfl, hc _ tX12_made_120 _ _ _ (hc _ tX12_made_121 _ _ _ (hc _ tX12_made_122 _ _ _ (hc _ tX12_made_123 _ _ _ (hc _ tX12_made_124 _ _ _ (⟨_, _, sh115, (by decide), rfl, hc _ tX12_made_127 _ _ _ (hc _ tX12_made_128 _ _ _ (hc _ tX12_made_129 _ _ _ (hc _ tX12_made_130 _ _ _ (⟨_, _, _, sh131, Or.inl ⟨rfl, (by decide)⟩, (((h.2.2 c2).2.2 c4).1 c8).1, hc _ tX12_made_131 _ _ _ (hc _ tX12_made_132 _ _ _ (⟨fun c10 => hc _ tX12_made_139 _ _ _ (hc _ tX12_made_140 _ _ _ (hc _ tX12_made_141 _ _ _ (⟨_, _, sh115, (by decide), rfl, hc _ tX12_made_144 _ _ _ (hc _ tX12_made_145 _ _ _ (hc _ tX12_made_146 _ _ _ (hc _ tX12_made_147 _ _ _ (⟨_, _, _, sh131, Or.inl ⟨rfl, (by decide)⟩, (((h.2.2 c2).2.2 c4).1 c8).1, hc _ tX12_made_148 _ _ _ (hc _ tX12_made_149 _ _ _ (⟨_, _, sh131, (by decide), (((h.2.2 c2).2.2 c4).1 c8).1, hc _ tX12_made_150 _ _ _ (hc _ tX12_made_222 _ _ _ (hc _ tX12_made_225 _ _ _ (hw _ _ _ _ _ (zwk_s (zwk_s (zwk_s (zwk_s (zwk_s (zwk_n zwk_nil)))))) (((((h.2.2 c2).2.2 c4).1 c8).2.1 c10) P hw hc))))⟩))⟩))))⟩))), fun c11 => hc _ tX12_made_135 _ _ _ (hc _ tX12_made_136 _ _ _ (hc _ tX12_made_149 _ _ _ (⟨_, _, sh131, (by decide), (((h.2.2 c2).2.2 c4).1 c8).1, hc _ tX12_made_150 _ _ _ (hc _ tX12_made_222 _ _ _ (hc _ tX12_made_225 _ _ _ (hw _ _ _ _ _ (zwk_s (zwk_s (zwk_s (zwk_s (zwk_s (zwk_n zwk_nil)))))) (((((h.2.2 c2).2.2 c4).1 c8).2.2 c11) P hw hc))))⟩)))⟩))⟩))))⟩)))))⟩)), fun c9 => ⟨fun c12 => hc _ tX12_made_153 _ _ _ (hc _ tX12_made_156 _ _ _ (hc _ tX12_made_157 _ _ _ (⟨_, _, sh115, (by decide), rfl, hc _ tX12_made_160 _ _ _ (hc _ tX12_made_161 _ _ _ (hc _ tX12_made_162 _ _ _ (hc _ tX12_made_163 _ _ _ (hc _ tX12_made_165 _ _ _ (hc _ tX12_made_166 _ _ _ (⟨_, _, sh115, (by decide), rfl, hc _ tX12_made_169 _ _ _ (hc _ tX12_made_170 _ _ _ (hc _ tX12_made_171 _ _ _ (hc _ tX12_made_172 _ _ _ (⟨_, _, _, sh131, Or.inl ⟨rfl, (by decide)⟩, ((((h.2.2 c2).2.2 c4).2 c9).1 c12).1, hc _ tX12_made_173 _ _ _ (hc _ tX12_made_174 _ _ _ (⟨_, _, sh115, (by decide), rfl, hc _ tX12_made_177 _ _ _ (hc _ tX12_made_178 _ _ _ (⟨_, _, _, sh131, Or.inl ⟨rfl, (by decide)⟩, ((((h.2.2 c2).2.2 c4).2 c9).1 c12).2.1, hc _ tX12_made_179 _ _ _ (⟨Nat.le_of_ble_eq_true rfl, Nat.le_of_ble_eq_true rfl, zl1, zl2, _, ctX12_joined (I 118 (((((200 : Int32) * x1) + (I 119 ((((19 : Int32) * x1) + x2)).toNatClampNeg)) + x4)).toNatClampNeg) (I 131 (((x3 + (-1 : Int32)) - (1 : Int32))).toNatClampNeg) (I 131 ((x3 + (-1 : Int32))).toNatClampNeg) I L, fun r u k14 => by obtain ⟨rfl, rfl⟩ := k14; exact ⟨zl3, zl4, hc _ tX12_made_182 _ _ _ (⟨_, _, sh131, (by decide), ((((h.2.2 c2).2.2 c4).2 c9).1 c12).1, hc _ tX12_made_183 _ _ _ (hc _ tX12_made_222 _ _ _ (hc _ tX12_made_225 _ _ _ (hw _ _ _ _ _ (zwk_s (zwk_s (zwk_s (zwk_s (zwk_s (zwk_n zwk_nil)))))) (((((h.2.2 c2).2.2 c4).2 c9).1 c12).2.2 P hw hc))))⟩)⟩⟩)⟩))⟩))⟩))))⟩))))))⟩))), fun c13 => hc _ tX12_made_186 _ _ _ (hc _ tX12_made_189 _ _ _ (hc _ tX12_made_190 _ _ _ (⟨_, _, sh115, (by decide), rfl, hc _ tX12_made_193 _ _ _ (hc _ tX12_made_194 _ _ _ (hc _ tX12_made_195 _ _ _ (hc _ tX12_made_196 _ _ _ (hc _ tX12_made_197 _ _ _ (⟨_, _, sh115, (by decide), rfl, hc _ tX12_made_200 _ _ _ (hc _ tX12_made_201 _ _ _ (hc _ tX12_made_202 _ _ _ (hc _ tX12_made_203 _ _ _ (⟨_, _, _, sh131, Or.inl ⟨rfl, (by decide)⟩, ((((h.2.2 c2).2.2 c4).2 c9).2 c13).1, hc _ tX12_made_204 _ _ _ (hc _ tX12_made_205 _ _ _ (⟨_, _, sh115, (by decide), rfl, hc _ tX12_made_208 _ _ _ (hc _ tX12_made_209 _ _ _ (⟨_, _, _, sh131, Or.inl ⟨rfl, (by decide)⟩, ((((h.2.2 c2).2.2 c4).2 c9).2 c13).2.1, hc _ tX12_made_210 _ _ _ (hc _ tX12_made_211 _ _ _ (⟨_, _, sh115, (by decide), rfl, hc _ tX12_made_214 _ _ _ (hc _ tX12_made_215 _ _ _ (hc _ tX12_made_216 _ _ _ (hc _ tX12_made_217 _ _ _ (⟨_, _, _, sh131, Or.inl ⟨rfl, (by decide)⟩, ((((h.2.2 c2).2.2 c4).2 c9).2 c13).2.2.1, hc _ tX12_made_218 _ _ _ (⟨Nat.le_of_ble_eq_true rfl, Nat.le_of_ble_eq_true rfl, zl1, zl2, _, ctX12_chosen (I 131 (((x3 + (-2 : Int32)) - (1 : Int32))).toNatClampNeg) (I 131 ((x3 + (-2 : Int32))).toNatClampNeg) (I 131 (((x3 + (-2 : Int32)) + (1 : Int32))).toNatClampNeg) I L, fun r u k15 => by obtain ⟨rfl, rfl⟩ := k15; exact ⟨zl3, zl4, hc _ tX12_made_221 _ _ _ (⟨_, _, sh131, (by decide), ((((h.2.2 c2).2.2 c4).2 c9).2 c13).1, hc _ tX12_made_222 _ _ _ (hc _ tX12_made_225 _ _ _ (hw _ _ _ _ _ (zwk_s (zwk_s (zwk_s (zwk_s (zwk_s (zwk_n zwk_nil)))))) (((((h.2.2 c2).2.2 c4).2 c9).2 c13).2.2.2 P hw hc)))⟩)⟩⟩)⟩))))⟩))⟩))⟩))⟩))))⟩)))))⟩)))⟩⟩⟩)⟩⟩)))⟩))))⟩))))))⟩)))))⟩))⟩)⟩))))))⟩)))
theorem ctX12_made {zn d : Nat} (x1 : Int32) (x2 : Int32) (I : Nat → Nat → Int32) (L : Nat → Nat → Int64) (ks : List Nat) (f : Nat) (q0 : lnR I (tn x1) (tn x2) ks f) (q1 : wfl ks) (q2 : zs x1 6) (q3 : zs x2 18) : zcal zty zcd false (d + 3) 159 [.ref 115, .int x1, .int x2] (zSH zn, I, L) 0 0 (fun r u => ∃ (M : Nat → Int32), r = some (.int (ev opT (usR I) 0 ks)) ∧ u = (zSH zn, (zrI I 131 M), L)) := by
  obtain ⟨v, hv, rfl⟩ := q2
  obtain ⟨n, hn, rfl⟩ := q3
  have tv : tn (nI v) = v := tn_nI (by omega)
  have tnn : tn (nI n) = n := tn_nI (by omega)
  rw [tv, tnn] at q0
  obtain ⟨l1, l2, l3, l4⟩ := q0
  have e0 : (19 : Int32) * nI v + nI n = nI (19 * v + n) := by rw [nl 19, pk_mul, nI_add]
  have e0' : (nI (19 * v + n)).toNatClampNeg = 19 * v + n := nI_clamp (by omega)
  have hv0 : vp_in ((19 : Int32) * nI v + nI n) 133 := by rw [e0]; exact vin_nI (by omega) (by omega)
  have ust : ∀ (M : Nat → Int32) (m : Nat), usR (zrI I 131 M) m = usR I m := fun M m => by unfold usR; rw [zrI_n (by decide), zrI_n (by decide)]
  refine eX12_made _ _ I L (gX12_made_0 _ _ I L ?_)
  have loop : ∀ (m i : Nat), i + m = ks.length → RX12_made zn d (fun r u => ∃ (M : Nat → Int32), r = some (.int (ev opT (usR I) 0 ks)) ∧ u = (zSH zn, zrI I 131 M, L)) 5 [some (.ref 115), some (.int (nI v)), some (.int (nI n)), some (.int (nI (depd 0 (ks.take i)))), some (.int (nI i)), none] [] (zSH zn, zrI I 131 (rpn opT (usR I) (0, I 131) (ks.take i)).2, L) := by
    intro m
    induction m with
    | zero =>
      intro i hi
      refine gX12_made_5 _ _ _ _ _ L ⟨hv0, fun _ => ⟨_, ?_, rfl⟩, fun hc => absurd ?_ hc⟩
      · rw [zrI_s, List.take_of_length_le (by omega), ev_any opT_eq q1 _ 0]
      · rw [e0, e0', zrI_n (by decide), l3, nI_leI (by omega) (by omega)]; omega
    | succ m ih =>
      intro i hi
      have hil : i < ks.length := by omega
      obtain ⟨x, hx⟩ : ∃ x, ks[i]? = some x := ⟨_, List.getElem?_eq_getElem hil⟩
      obtain ⟨x1, x2, x3⟩ := okd_at q1.1 hx
      have hih := ih (i + 1) (by omega)
      rw [rpn_succ hx, depd_succ hx] at hih
      have hd : (rpn opT (usR I) (0, I 131) (ks.take i)).1 = depd 0 (ks.take i) := rpn_dep _ _ _ _
      have hd10 : depd 0 (ks.take i) ≤ 10 := okd_le _ 0 (by decide) (okd_take q1.1 i)
      unfold stp at hih
      rw [hd] at hih
      dsimp only at hih
      generalize (rpn opT (usR I) (0, I 131) (ks.take i)).2 = N at hih ⊢
      generalize hdd : depd 0 (ks.take i) = D at hih x2 x3 hd10 ⊢
      have ei : (200 : Int32) * nI v + (zrI I 131 N) 119 ((19 : Int32) * nI v + nI n).toNatClampNeg + nI i = nI (200 * v + f + i) := by
        rw [e0, e0', zrI_n (by decide), l2, nl 200, pk_mul, nI_add, nI_add]
      have ei' : (nI (200 * v + f + i)).toNatClampNeg = 200 * v + f + i := nI_clamp (by omega)
      have eb : (zrI I 131 N) 118 (200 * v + f + i) = nI (byt x) := by rw [zrI_n (by decide)]; exact l4 i x hx
      have e8 : nI i + 1 = nI (i + 1) := nI_1 _
      refine gX12_made_5 _ _ _ _ _ L ⟨hv0, fun hc => absurd hc ?_, fun _ => ⟨by rw [ei]; exact vin_nI (by omega) (by omega), ?_⟩⟩
      · rw [e0, e0', zrI_n (by decide), l3, nI_leI (by omega) (by omega)]; omega
      · rw [ei, ei', eb, takes_b x1, e8]
        rcases (show x < 19 ∨ x = 19 ∨ x = 20 ∨ x = 21 ∨ (x = 22 ∨ x = 23 ∨ x = 24) ∨ x = 25 by omega) with hx | rfl | rfl | rfl | hx | rfl
        · have a0 : ar x = 0 := by unfold ar; simp (disch := omega) only [if_neg]
          rw [a0] at hih ⊢
          rw [if_pos hx] at hih
          have ebx : byt x = 97 + x := by unfold byt; rw [if_pos hx]
          have ex : nI (byt x) - 97 = nI x := by rw [ebx, nl 97, pk_sub (by omega)]; congr 1; omega
          have ex2 : tn (nI x) = x := tn_nI (by omega)
          have hDn : (nI D).toNatClampNeg = D := nI_clamp (by omega)
          refine ⟨fun _ => ⟨fun _ => ⟨by rw [ex]; exact ⟨x, by omega, rfl⟩, vin_nI (by omega) (by omega), ?_⟩, fun h => absurd ?_ h⟩, fun h => absurd rfl h⟩
          · rw [ex, hDn, ex2, ust, zi_s131, nI_1]
            exact hih
          · rw [ebx, nl 50, nI_leI (by decide) (by omega)]; omega
        · have hDn : (nI D).toNatClampNeg = D := nI_clamp (by omega)
          refine ⟨fun _ => ⟨fun h => absurd h (by decide), fun h => ⟨vin_nI (by have : ar 19 = 0 := rfl; omega) (by omega), ?_⟩⟩, fun h => absurd rfl h⟩
          rw [hDn, zi_s131, nI_1, show nI (byt 19) - 48 = 0 by decide]
          exact hih
        · have hDn : (nI D).toNatClampNeg = D := nI_clamp (by omega)
          refine ⟨fun _ => ⟨fun h => absurd h (by decide), fun h => ⟨vin_nI (by have : ar 20 = 0 := rfl; omega) (by omega), ?_⟩⟩, fun h => absurd rfl h⟩
          rw [hDn, zi_s131, nI_1, show nI (byt 20) - 48 = 1 by decide]
          exact hih
        · have a1 : ar 21 = 1 := rfl
          rw [a1] at hih x2 x3 ⊢
          have eD : nI D - 1 = nI (D - 1) := by rw [nl1, pk_sub (by omega)]
          have hDn : (nI (D - 1)).toNatClampNeg = D - 1 := nI_clamp (by omega)
          rw [show D - 1 + 1 = D by omega] at hih
          refine ⟨fun h => absurd h (by decide), fun _ => ⟨fun _ => ?_, fun h => absurd rfl h⟩⟩
          rw [eD, hDn]
          refine ⟨vin_nI (by omega) (by omega), fun h => ?_, fun h => ?_⟩
          · rw [zrI_s] at h ⊢
            rw [zi_s131]
            have ho : opT 21 (N (D - 1)) (N D) (N (D - 1 + 2)) = 1 - N (D - 1) := by
              show (if N (D - 1) = 2 then (2 : Int32) else 1 - N (D - 1)) = _
              rw [if_neg h]
            rw [if_neg (by decide), ho] at hih
            exact hih
          · rw [zrI_s] at h
            rw [zi_s131]
            have ho : opT 21 (N (D - 1)) (N D) (N (D - 1 + 2)) = 2 := by
              show (if N (D - 1) = 2 then (2 : Int32) else 1 - N (D - 1)) = _
              rw [if_pos h]
            rw [if_neg (by decide), ho] at hih
            exact hih
        · have a2 : ar x = 2 := by rcases hx with rfl | rfl | rfl <;> rfl
          rw [a2] at hih x2 x3 ⊢
          have eD1 : nI D + (-1) = nI (D - 1) := by rw [show D = D - 1 + 1 by omega, nI_sub1]; rfl
          have eD2 : nI (D - 1) - 1 = nI (D - 2) := by rw [nl1, pk_sub (by omega)]; congr 1
          have hD1 : (nI (D - 1)).toNatClampNeg = D - 1 := nI_clamp (by omega)
          have hD2 : (nI (D - 2)).toNatClampNeg = D - 2 := nI_clamp (by omega)
          rw [show D - 2 + 1 = D - 1 by omega] at hih
          refine ⟨fun h => absurd h (by decide), fun _ => ⟨fun h => absurd h (by decide), fun _ => ⟨fun _ => ?_, fun h => absurd rfl h⟩⟩⟩
          rw [eD1, eD2, hD1, hD2]
          refine ⟨vin_nI (by omega) (by omega), vin_nI (by omega) (by omega), ?_⟩
          rw [zrI_s, zi_s131]
          have ho : opT x (N (D - 2)) (N (D - 1)) (N (D - 2 + 2)) = fX12_joined (nI (byt x)) (N (D - 2)) (N (D - 1)) := by rcases hx with rfl | rfl | rfl <;> rfl
          rw [if_neg (by omega), ho] at hih
          exact hih
        · have a3 : ar 25 = 3 := rfl
          rw [a3] at hih x2 x3 ⊢
          have eD1 : nI D + (-2) = nI (D - 2) := by rw [show (-2 : Int32) = -1 + -1 by decide, ← Int32.add_assoc, show D = D - 2 + 1 + 1 by omega, nI_sub1, nI_sub1]; rfl
          have eD2 : nI (D - 2) - 1 = nI (D - 3) := by rw [nl1, pk_sub (by omega)]; congr 1
          have eD3 : nI (D - 2) + 1 = nI (D - 1) := by rw [nI_1]; congr 1; omega
          have hD1 : (nI (D - 1)).toNatClampNeg = D - 1 := nI_clamp (by omega)
          have hD2 : (nI (D - 2)).toNatClampNeg = D - 2 := nI_clamp (by omega)
          have hD3 : (nI (D - 3)).toNatClampNeg = D - 3 := nI_clamp (by omega)
          rw [show D - 3 + 1 = D - 2 by omega, show D - 3 + 2 = D - 1 by omega] at hih
          refine ⟨fun h => absurd h (by decide), fun _ => ⟨fun h => absurd h (by decide), fun _ => ⟨fun h => absurd h (by decide), fun _ => ?_⟩⟩⟩
          rw [eD1, eD2, eD3, hD1, hD2, hD3]
          refine ⟨vin_nI (by omega) (by omega), vin_nI (by omega) (by omega), vin_nI (by omega) (by omega), ?_⟩
          rw [zrI_s, zi_s131]
          rw [if_neg (by decide)] at hih
          exact hih
  have h00 := loop ks.length 0 (by omega)
  have e9 : (rpn opT (usR I) (0, I 131) (ks.take 0)).2 = I 131 := rfl
  rw [e9, zrI_self] at h00
  exact h00

