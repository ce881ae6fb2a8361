/-! STEPS with x (2) -/
def opS (k : Nat) (a b c : Int32) : Int32 := fX6_gateOf (nI k) a b c
theorem opS_eq : opRel Eq opS opS := opRel_eq (fun k a b c a' b' c' h1 h2 ha hb hc => by
  rcases (show k = 19 ∨ k = 20 ∨ k = 21 ∨ k = 22 ∨ k = 23 ∨ k = 24 ∨ k = 25 by omega) with rfl | rfl | rfl | rfl | rfl | rfl | rfl
  · rfl
  · rfl
  · rw [ha (by decide)]; rfl
  · rw [ha (by decide), hb (by decide)]; rfl
  · rw [ha (by decide), hb (by decide)]; rfl
  · rw [ha (by decide), hb (by decide)]; rfl
  · rw [ha (by decide), hb (by decide), hc (by decide)])
theorem zs2 {a : Int32} (h : zs a 2) : a = 0 ∨ a = 1 ∨ a = 2 := by
  obtain ⟨j, hj, rfl⟩ := h
  rcases (show j = 0 ∨ j = 1 ∨ j = 2 by omega) with rfl | rfl | rfl
  · exact Or.inl rfl
  · exact Or.inr (Or.inl rfl)
  · exact Or.inr (Or.inr rfl)
def zsd (a : Int32) : Bool := a == 0 || a == 1 || a == 2
theorem zsd_i {a : Int32} : zs a 2 ↔ zsd a = true := by
  constructor
  · intro h; rcases zs2 h with rfl | rfl | rfl <;> decide
  · intro h
    unfold zsd at h
    simp at h
    rcases h with (rfl | rfl) | rfl
    · exact ⟨0, by decide, rfl⟩
    · exact ⟨1, by decide, rfl⟩
    · exact ⟨2, by decide, rfl⟩
/-- the class's gates are the reference's, on 0, 1, x -/
def RS (a b : Int32) : Prop := a = b ∧ zs a 2
theorem RS_op : opRel RS opS opT := by
  intro k a b c a' b' c' h1 h2 ha hb hc
  unfold RS
  rw [zsd_i]
  rcases (show k = 19 ∨ k = 20 ∨ k = 21 ∨ k = 22 ∨ k = 23 ∨ k = 24 ∨ k = 25 by omega) with rfl | rfl | rfl | rfl | rfl | rfl | rfl
  · show (0 : Int32) = 0 ∧ zsd 0 = true; decide
  · show (1 : Int32) = 1 ∧ zsd 1 = true; decide
  · obtain ⟨rfl, za⟩ := ha (by decide)
    show fX6_turned a = (if a = 2 then 2 else 1 - a) ∧ zsd (fX6_turned a) = true
    rcases zs2 za with rfl | rfl | rfl <;> decide
  · obtain ⟨rfl, za⟩ := ha (by decide)
    obtain ⟨rfl, zb⟩ := hb (by decide)
    show fX6_both a b = fX12_joined (nI 38) a b ∧ zsd (fX6_both a b) = true
    rcases zs2 za with rfl | rfl | rfl <;> rcases zs2 zb with rfl | rfl | rfl <;> decide
  · obtain ⟨rfl, za⟩ := ha (by decide)
    obtain ⟨rfl, zb⟩ := hb (by decide)
    show fX6_turned (fX6_both (fX6_turned a) (fX6_turned b)) = fX12_joined (nI 124) a b ∧ zsd (fX6_turned (fX6_both (fX6_turned a) (fX6_turned b))) = true
    rcases zs2 za with rfl | rfl | rfl <;> rcases zs2 zb with rfl | rfl | rfl <;> decide
  · obtain ⟨rfl, za⟩ := ha (by decide)
    obtain ⟨rfl, zb⟩ := hb (by decide)
    show (if a = (2 : Int32) then (2 : Int32) else if b = (2 : Int32) then 2 else a ^^^ b) = fX12_joined (nI 94) a b ∧ zsd (if a = (2 : Int32) then (2 : Int32) else if b = (2 : Int32) then 2 else a ^^^ b) = true
    rcases zs2 za with rfl | rfl | rfl <;> rcases zs2 zb with rfl | rfl | rfl <;> decide
  · obtain ⟨rfl, za⟩ := ha (by decide)
    obtain ⟨rfl, zb⟩ := hb (by decide)
    obtain ⟨rfl, zc⟩ := hc (by decide)
    show fX6_chosen a b c = fX12_chosen a b c ∧ zsd (fX6_chosen a b c) = true
    rcases zs2 za with rfl | rfl | rfl <;> rcases zs2 zb with rfl | rfl | rfl <;> rcases zs2 zc with rfl | rfl | rfl <;> decide
theorem evS_ok {ks : List Nat} (hw : wfl ks) {env : Nat → Int32} (he : ∀ n, n < 19 → zs (env n) 2) : zs (ev opS env 0 ks) 2 := (ev_rel RS_op hw (ea := env) (eb := env) (fun k _ hk => ⟨rfl, he k hk⟩) 0 0).2
abbrev RX6_make (zn d : Nat) (post : zP) : zK := zRun (zcal zty zcd false (d + 2)) kX6_make (zLM zn) post
theorem eX6_make {zn d : Nat} {post : zP} (k1 : Nat) (x2 : Int32) (I : Nat → Nat → Int32) (L : Nat → Nat → Int64) (h1 : isX10 k1) (h : RX6_make zn d post 0 [some (.ref 34), some (.ref k1), some (.int x2), none, none, none] [] (zSH zn, I, L)) : zcal zty zcd false (d + 3) 55 [.ref 34, .ref k1, .int x2] (zSH zn, I, L) 0 0 post := zcal_of (d := d + 2) zmt55 zmc55 rfl (Nat.le_of_ble_eq_true rfl) h
theorem gX6_make_0 {zn d : Nat} {post : zP} (k1 : Nat) (x2 : Int32) (I : Nat → Nat → Int32) (L : Nat → Nat → Int64) (h1 : isX10 k1) (h : vp_in x2 19 ∧ (RX6_make zn d post 7 [some (.ref 34), some (.ref k1), some (.int x2), some (.int (I (k1 + 2) (x2).toNatClampNeg)), none, none] [] (zSH zn, I, L))) : RX6_make zn d post 0 [some (.ref 34), some (.ref k1), some (.int x2), none, none, none] [] (zSH zn, I, L) := fun P hw hc => hc _ tX6_make_0 _ _ _ (hc _ tX6_make_1 _ _ _ (⟨_, _, (shX10 h1), (geX10 h1), rfl, hc _ tX6_make_4 _ _ _ (hc _ tX6_make_5 _ _ _ (⟨_, _, _, (shX10_1 h1), Or.inl ⟨rfl, (geX10_1 h1)⟩, h.1, hc _ tX6_make_6 _ _ _ (h.2 P hw hc)⟩))⟩))
theorem gX6_make_7 {zn d : Nat} {post : zP} (k1 : Nat) (x2 : Int32) (x3 : Int32) (I : Nat → Nat → Int32) (L : Nat → Nat → Int64) (h1 : isX10 k1) (h : vp_in x2 19 ∧ (((I (k1 + 3) (x2).toNatClampNeg) ≤ x3 → post (some (.int (I 36 0))) (zSH zn, I, L)) ∧ (¬ (I (k1 + 3) (x2).toNatClampNeg) ≤ x3 → vp_in x3 200 ∧ (((19 : Int32) ≤ (fX11_kindOf (I (k1 + 1) (x3).toNatClampNeg)) → vp_in (fX11_slotOf (I (k1 + 1) (x3).toNatClampNeg)) 18 ∧ (vp_in ((fX11_slotOf (I (k1 + 1) (x3).toNatClampNeg)) + (1 : Int32)) 18 ∧ (vp_in ((fX11_slotOf (I (k1 + 1) (x3).toNatClampNeg)) + (2 : Int32)) 18 ∧ (RX6_make zn d post 7 [some (.ref 34), some (.ref k1), some (.int x2), some (.int (x3 + (1 : Int32))), none, none] [] (zSH zn, (zi I 36 ((fX11_slotOf (I (k1 + 1) (x3).toNatClampNeg))).toNatClampNeg (fX6_gateOf (fX11_kindOf (I (k1 + 1) (x3).toNatClampNeg)) (I 36 ((fX11_slotOf (I (k1 + 1) (x3).toNatClampNeg))).toNatClampNeg) (I 36 (((fX11_slotOf (I (k1 + 1) (x3).toNatClampNeg)) + (1 : Int32))).toNatClampNeg) (I 36 (((fX11_slotOf (I (k1 + 1) (x3).toNatClampNeg)) + (2 : Int32))).toNatClampNeg))), L))))) ∧ (¬ (19 : Int32) ≤ (fX11_kindOf (I (k1 + 1) (x3).toNatClampNeg)) → vp_in (fX11_kindOf (I (k1 + 1) (x3).toNatClampNeg)) 19 ∧ (vp_in (fX11_slotOf (I (k1 + 1) (x3).toNatClampNeg)) 18 ∧ (RX6_make zn d post 7 [some (.ref 34), some (.ref k1), some (.int x2), some (.int (x3 + (1 : Int32))), none, none] [] (zSH zn, (zi I 36 ((fX11_slotOf (I (k1 + 1) (x3).toNatClampNeg))).toNatClampNeg (I 35 ((fX11_kindOf (I (k1 + 1) (x3).toNatClampNeg))).toNatClampNeg)), L)))))))) : RX6_make zn d post 7 [some (.ref 34), some (.ref k1), some (.int x2), some (.int x3), none, none] [] (zSH zn, I, L) := fun P hw hc => hc _ tX6_make_7 _ _ _ (hc _ tX6_make_8 _ _ _ (hc _ tX6_make_9 _ _ _ (⟨_, _, (shX10 h1), (geX10 h1), rfl, hc _ tX6_make_12 _ _ _ (hc _ tX6_make_13 _ _ _ (⟨_, _, _, (shX10_2 h1), Or.inl ⟨rfl, (geX10_2 h1)⟩, h.1, hc _ tX6_make_14 _ _ _ (⟨fun c1 => hc _ tX6_make_99 _ _ _ (hc _ tX6_make_100 _ _ _ (⟨_, _, sh34, (by decide), rfl, hc _ tX6_make_103 _ _ _ (hc _ tX6_make_104 _ _ _ (⟨_, _, _, sh36, Or.inl ⟨rfl, (by decide)⟩, zvin (by decide), hc _ tX6_make_105 _ _ _ (⟨nofun, rfl, rfl, (h.2.1 c1)⟩)⟩))⟩)), fun c2 => hc _ tX6_make_17 _ _ _ (hc _ tX6_make_18 _ _ _ (⟨_, _, (shX10 h1), (geX10 h1), rfl, hc _ tX6_make_21 _ _ _ (hc _ tX6_make_22 _ _ _ (⟨_, _, _, (shX10_0 h1), Or.inl ⟨rfl, (geX10_0 h1)⟩, (h.2.2 c2).1, hc _ tX6_make_23 _ _ _ (⟨Nat.le_of_ble_eq_true rfl, Nat.le_of_ble_eq_true rfl, zl1, zl2, _, ctX11_kindOf (I (k1 + 1) (x3).toNatClampNeg) I L, fun r u k7 => by obtain ⟨rfl, rfl⟩ := k7; exact ⟨zl3, zl4, hc _ tX6_make_26 _ _ _ (hc _ tX6_make_28 _ _ _ (hc _ tX6_make_29 _ _ _ (⟨_, _, (shX10 h1), (geX10 h1), rfl, hc _ tX6_make_32 _ _ _ (hc _ tX6_make_33 _ _ _ (⟨_, _, _, (shX10_0 h1), Or.inl ⟨rfl, (geX10_0 h1)⟩, (h.2.2 c2).1, hc _ tX6_make_34 _ _ _ (⟨Nat.le_of_ble_eq_true rfl, Nat.le_of_ble_eq_true rfl, zl1, zl2, _, ctX11_slotOf (I (k1 + 1) (x3).toNatClampNeg) I L, fun r u k6 => by obtain ⟨rfl, rfl⟩ := k6; exact ⟨zl3, zl4, hc _ tX6_make_37 _ _ _ (hc _ tX6_make_39 _ _ _ (hc _ tX6_make_40 _ _ _ (⟨_, _, sh34, (by decide), rfl, hc _ tX6_make_43 _ _ _ (hc _ tX6_make_45 _ _ _ (hc _ tX6_make_47 _ _ _ (hc _ tX6_make_49 _ _ _ (⟨fun c3 => hc _ tX6_make_62 _ _ _ (hc _ tX6_make_64 _ _ _ (hc _ tX6_make_65 _ _ _ (⟨_, _, sh34, (by decide), rfl, hc _ tX6_make_68 _ _ _ (hc _ tX6_make_70 _ _ _ (⟨_, _, _, sh36, Or.inl ⟨rfl, (by decide)⟩, ((h.2.2 c2).2.1 c3).1, hc _ tX6_make_71 _ _ _ (hc _ tX6_make_72 _ _ _ (⟨_, _, sh34, (by decide), rfl, hc _ tX6_make_75 _ _ _ (hc _ tX6_make_77 _ _ _ (hc _ tX6_make_78 _ _ _ (hc _ tX6_make_79 _ _ _ (⟨_, _, _, sh36, Or.inl ⟨rfl, (by decide)⟩, ((h.2.2 c2).2.1 c3).2.1, hc _ tX6_make_80 _ _ _ (hc _ tX6_make_81 _ _ _ (⟨_, _, sh34, (by decide), rfl, hc _ tX6_make_84 _ _ _ (hc _ tX6_make_86 _ _ _ (hc _ tX6_make_87 _ _ _ (hc _ tX6_make_88 _ _ _ (⟨_, _, _, sh36, Or.inl ⟨rfl, (by decide)⟩, ((h.2.2 c2).2.1 c3).2.2.1, hc _ tX6_make_89 _ _ _ (⟨Nat.le_of_ble_eq_true rfl, Nat.le_of_ble_eq_true rfl, zl1, zl2, _, ctX6_gateOf (fX11_kindOf (I (k1 + 1) (x3).toNatClampNeg)) (I 36 ((fX11_slotOf (I (k1 + 1) (x3).toNatClampNeg))).toNatClampNeg) (I 36 (((fX11_slotOf (I (k1 + 1) (x3).toNatClampNeg)) + (1 : Int32))).toNatClampNeg) (I 36 (((fX11_slotOf (I (k1 + 1) (x3).toNatClampNeg)) + (2 : Int32))).toNatClampNeg) I L, fun r u k5 => by obtain ⟨rfl, rfl⟩ := k5; exact ⟨zl3, zl4, hc _ tX6_make_92 _ _ _ (⟨_, _, sh36, (by decide), ((h.2.2 c2).2.1 c3).1, hc _ tX6_make_93 _ _ _ (hc _ tX6_make_96 _ _ _ (hw _ _ _ _ _ (zwk_s (zwk_s (zwk_s (zwk_s (zwk_n (zwk_n zwk_nil)))))) (((h.2.2 c2).2.1 c3).2.2.2 P hw hc)))⟩)⟩⟩)⟩))))⟩))⟩))))⟩))⟩))⟩))), fun c4 => hc _ tX6_make_52 _ _ _ (hc _ tX6_make_53 _ _ _ (⟨_, _, sh34, (by decide), rfl, hc _ tX6_make_56 _ _ _ (hc _ tX6_make_58 _ _ _ (⟨_, _, _, sh35, Or.inl ⟨rfl, (by decide)⟩, ((h.2.2 c2).2.2 c4).1, hc _ tX6_make_59 _ _ _ (hc _ tX6_make_92 _ _ _ (⟨_, _, sh36, (by decide), ((h.2.2 c2).2.2 c4).2.1, hc _ tX6_make_93 _ _ _ (hc _ tX6_make_96 _ _ _ (hw _ _ _ _ _ (zwk_s (zwk_s (zwk_s (zwk_s (zwk_n (zwk_n zwk_nil)))))) (((h.2.2 c2).2.2 c4).2.2 P hw hc)))⟩))⟩))⟩))⟩))))⟩)))⟩⟩)⟩))⟩)))⟩⟩)⟩))⟩))⟩)⟩))⟩)))
theorem k10_ne {k j : Nat} (h : isX10 k) (hj : j ≤ 6) : k + j ≠ 34 ∧ k + j ≠ 35 ∧ k + j ≠ 36 := by
  rcases isX10_c h with rfl | rfl | rfl | rfl | rfl | rfl | rfl <;> omega
theorem ctX6_make {zn d : Nat} (k1 : Nat) (x2 : Int32) (I : Nat → Nat → Int32) (L : Nat → Nat → Int64) (ks : List Nat) (f : Nat) (h1 : isX10 k1) (q0 : lnC I k1 (tn x2) ks f) (q1 : wfl ks) (q2 : zs x2 18) : zcal zty zcd false (d + 3) 55 [.ref 34, .ref k1, .int x2] (zSH zn, I, L) 0 0 (fun r u => ∃ (M : Nat → Int32), r = some (.int (ev opS (I 35) 0 ks)) ∧ u = (zSH zn, (zrI I 36 M), L)) := by
  obtain ⟨n, hn, rfl⟩ := q2
  have tnn : tn (nI n) = n := tn_nI (by omega)
  have tnn2 : (nI n).toNatClampNeg = n := tnn
  rw [tnn] at q0
  obtain ⟨l1, l2, l3, l4⟩ := q0
  have hv : vp_in (nI n) 19 := vin_nI (by omega) (by omega)
  have hne : ∀ j, j ≤ 6 → k1 + j ≠ 36 := fun j hj => (k10_ne h1 hj).2.2
  refine eX6_make k1 _ I L h1 (gX6_make_0 k1 _ I L h1 ⟨hv, ?_⟩)
  rw [tnn2, l2]
  have loop : ∀ (m i : Nat), i + m = ks.length → RX6_make zn d (fun r u => ∃ (M : Nat → Int32), r = some (.int (ev opS (I 35) 0 ks)) ∧ u = (zSH zn, zrI I 36 M, L)) 7 [some (.ref 34), some (.ref k1), some (.int (nI n)), some (.int (nI (f + i))), none, none] [] (zSH zn, zrI I 36 (rpn opS (I 35) (0, I 36) (ks.take i)).2, L) := by
    intro m
    induction m with
    | zero =>
      intro i hi
      refine gX6_make_7 k1 _ _ _ L h1 ⟨hv, fun _ => ⟨_, ?_, rfl⟩, fun hc => absurd ?_ hc⟩
      · rw [zrI_s, List.take_of_length_le (by omega), ev_any opS_eq q1 _ 0]
      · rw [zrI_n (hne 3 (by omega)), tnn2, l3, nI_leI (by omega) (by omega)]; omega
    | succ m ih =>
      intro i hi
      have hil : i < ks.length := by omega
      obtain ⟨x, hx⟩ : ∃ x, ks[i]? = some x := ⟨_, List.getElem?_eq_getElem hil⟩
      obtain ⟨x1, x2, x3⟩ := okd_at q1.1 hx
      have e0 : (nI (f + i)).toNatClampNeg = f + i := nI_clamp (by omega)
      have e1 := l4 i x hx
      obtain ⟨e2, e3⟩ := tok_k q1.1 hx
      have e4 : (nI (depd 0 (ks.take i) - ar x)).toNatClampNeg = depd 0 (ks.take i) - ar x := nI_clamp (by omega)
      have hd : (rpn opS (I 35) (0, I 36) (ks.take i)).1 = depd 0 (ks.take i) := rpn_dep _ _ _ _
      refine gX6_make_7 k1 _ _ _ L h1 ⟨hv, fun hc => absurd hc ?_, fun _ => ⟨vin_nI (by omega) (by omega), ?_⟩⟩
      · rw [zrI_n (hne 3 (by omega)), tnn2, l3, nI_leI (by omega) (by omega)]; omega
      · have e8 : nI (f + i) + 1 = nI (f + (i + 1)) := nI_1 _
        rw [zrI_n (hne 1 (by omega)), e0, e1, e2, e3, e4, e8]
        have hih := ih (i + 1) (by omega)
        rw [rpn_succ hx] at hih
        have e5 : (nI (depd 0 (ks.take i) - ar x) + 1).toNatClampNeg = depd 0 (ks.take i) - ar x + 1 := by rw [nI_1]; exact nI_clamp (by omega)
        have e6 : (nI (depd 0 (ks.take i) - ar x) + 2).toNatClampNeg = depd 0 (ks.take i) - ar x + 2 := by rw [nl 2, nI_add]; exact nI_clamp (by omega)
        refine ⟨fun hc => ⟨vin_nI (by omega) (by omega), by rw [nI_1]; exact vin_nI (by omega) (by omega), by rw [nl 2, nI_add]; exact vin_nI (by omega) (by omega), ?_⟩, fun hc => ⟨?_, vin_nI (by omega) (by omega), ?_⟩⟩
        · rw [e5, e6, zi_zrI, zrI_s]
          have hx19 : ¬ x < 19 := by rw [nl 19, nI_leI (by decide) (by omega)] at hc; omega
          unfold stp at hih
          rw [hd, if_neg hx19] at hih
          exact hih
        · have hx19 : x < 19 := by rw [nl 19, nI_leI (by decide) (by omega)] at hc; omega
          exact vin_nI hx19 (by omega)
        · have hx19 : x < 19 := by rw [nl 19, nI_leI (by decide) (by omega)] at hc; omega
          have e7 : (nI x).toNatClampNeg = x := nI_clamp (by omega)
          rw [zi_zrI, e7, zrI_n (by decide)]
          unfold stp at hih
          rw [hd, if_pos hx19] at hih
          exact hih
  have h00 := loop ks.length 0 (by omega)
  rw [Nat.add_zero] at h00
  have e9 : (rpn opS (I 35) (0, I 36) (ks.take 0)).2 = I 36 := rfl
  rw [e9, zrI_self] at h00
  exact h00
/-! four registers in eight bits -/
def pkf (f : Nat → Nat) : Nat := f 0 + 4 * f 1 + 16 * f 2 + 64 * f 3
theorem pkr_get : ∀ a, a < 3 → ∀ b, b < 3 → ∀ c, c < 3 → ∀ e, e < 3 → ∀ r, r < 4 → (nI (a + 4 * b + 16 * c + 64 * e) >>> (((2 : Int32) * nI r) &&& 31)) &&& 3 = nI (([a, b, c, e] : List Nat).getD r 0) := by decide +kernel
theorem pkr_set0 : ∀ a, a < 3 → ∀ b, b < 3 → ∀ c, c < 3 → ∀ e, e < 3 → ∀ m, m < 3 → (nI (a + 4 * b + 16 * c + 64 * e) &&& (((3 : Int32) <<< (((2 : Int32) * nI 0) &&& 31)) ^^^ (-1))) ||| (nI m <<< (((2 : Int32) * nI 0) &&& 31)) = nI (m + 4 * b + 16 * c + 64 * e) := by decide +kernel
theorem pkr_set1 : ∀ a, a < 3 → ∀ b, b < 3 → ∀ c, c < 3 → ∀ e, e < 3 → ∀ m, m < 3 → (nI (a + 4 * b + 16 * c + 64 * e) &&& (((3 : Int32) <<< (((2 : Int32) * nI 1) &&& 31)) ^^^ (-1))) ||| (nI m <<< (((2 : Int32) * nI 1) &&& 31)) = nI (a + 4 * m + 16 * c + 64 * e) := by decide +kernel
theorem pkr_set2 : ∀ a, a < 3 → ∀ b, b < 3 → ∀ c, c < 3 → ∀ e, e < 3 → ∀ m, m < 3 → (nI (a + 4 * b + 16 * c + 64 * e) &&& (((3 : Int32) <<< (((2 : Int32) * nI 2) &&& 31)) ^^^ (-1))) ||| (nI m <<< (((2 : Int32) * nI 2) &&& 31)) = nI (a + 4 * b + 16 * m + 64 * e) := by decide +kernel
theorem pkr_set3 : ∀ a, a < 3 → ∀ b, b < 3 → ∀ c, c < 3 → ∀ e, e < 3 → ∀ m, m < 3 → (nI (a + 4 * b + 16 * c + 64 * e) &&& (((3 : Int32) <<< (((2 : Int32) * nI 3) &&& 31)) ^^^ (-1))) ||| (nI m <<< (((2 : Int32) * nI 3) &&& 31)) = nI (a + 4 * b + 16 * c + 64 * m) := by decide +kernel
theorem pkf_get {f : Nat → Nat} (hf : ∀ r, r < 4 → f r ≤ 2) {r : Nat} (hr : r < 4) : (nI (pkf f) >>> (((2 : Int32) * nI r) &&& 31)) &&& 3 = nI (f r) := by
  have := pkr_get (f 0) (by have := hf 0 (by omega); omega) (f 1) (by have := hf 1 (by omega); omega) (f 2) (by have := hf 2 (by omega); omega) (f 3) (by have := hf 3 (by omega); omega) r hr
  rw [pkf, this]
  rcases (show r = 0 ∨ r = 1 ∨ r = 2 ∨ r = 3 by omega) with rfl | rfl | rfl | rfl <;> rfl
theorem pkf_set {f : Nat → Nat} (hf : ∀ r, r < 4 → f r ≤ 2) {r m : Nat} (hr : r < 4) (hm : m ≤ 2) : (nI (pkf f) &&& (((3 : Int32) <<< (((2 : Int32) * nI r) &&& 31)) ^^^ (-1))) ||| (nI m <<< (((2 : Int32) * nI r) &&& 31)) = nI (pkf (fun j => if j = r then m else f j)) := by
  have h0 := hf 0 (by omega)
  have h1 := hf 1 (by omega)
  have h2 := hf 2 (by omega)
  have h3 := hf 3 (by omega)
  unfold pkf
  rcases (show r = 0 ∨ r = 1 ∨ r = 2 ∨ r = 3 by omega) with rfl | rfl | rfl | rfl
  · exact pkr_set0 (f 0) (by omega) (f 1) (by omega) (f 2) (by omega) (f 3) (by omega) m (by omega)
  · exact pkr_set1 (f 0) (by omega) (f 1) (by omega) (f 2) (by omega) (f 3) (by omega) m (by omega)
  · exact pkr_set2 (f 0) (by omega) (f 1) (by omega) (f 2) (by omega) (f 3) (by omega) m (by omega)
  · exact pkr_set3 (f 0) (by omega) (f 1) (by omega) (f 2) (by omega) (f 3) (by omega) m (by omega)
def inS (x y : Int32) (n : Nat) : Int32 := if ¬ (y >>> (nI n &&& 31)) &&& 1 = 0 then 2 else (x >>> (nI n &&& 31)) &&& 1
def idp (_ : Nat) (v : Int32) : Int32 := v
/-- behind a STEP of the class -/
def stpC (I J : Nat → Nat → Int32) (V : zVw) (f g : Nat → Nat) (x y : Int32) : Prop := fr [34, 35, 36] I J ∧ (∀ s, s < 2 → J 34 s = I 34 s) ∧ J 34 3 = I 34 3 + 1 ∧ J 34 2 = nI (pkf g) ∧ (∀ n, n < 19 → zs (J 35 n) 2) ∧ (∀ n, n < 6 → J 35 n = inS x y n) ∧ (∀ r, r < 4 → J 35 (15 + r) = nI (f r)) ∧ sol opS 0 V idp 2 (J 35) ∧ ∀ r, r < 4 → g r ≤ 2 ∧ nI (g r) = match V (15 + r) with
  | some ks => ev opS (J 35) 0 ks
  | none => nI (f r)
abbrev RX6_take (zn d : Nat) (post : zP) : zK := zRun (zcal zty zcd false (d + 3)) kX6_take (zLM zn) post
theorem eX6_take {zn d : Nat} {post : zP} (k1 : Nat) (x2 : Int32) (x3 : Int32) (I : Nat → Nat → Int32) (L : Nat → Nat → Int64) (h1 : isX10 k1) (h : RX6_take zn d post 0 [some (.ref 34), some (.ref k1), some (.int x2), some (.int x3), none, none, none, none] [] (zSH zn, I, L)) : zcal zty zcd false (d + 4) 54 [.ref 34, .ref k1, .int x2, .int x3] (zSH zn, I, L) 0 0 post := zcal_of (d := d + 3) zmt54 zmc54 rfl (Nat.le_of_ble_eq_true rfl) h
theorem gX6_take_0 {zn d : Nat} {post : zP} (k1 : Nat) (x2 : Int32) (x3 : Int32) (I : Nat → Nat → Int32) (L : Nat → Nat → Int64) (h1 : isX10 k1) (h : RX6_take zn d post 3 [some (.ref 34), some (.ref k1), some (.int x2), some (.int x3), some (.int (0 : Int32)), none, none, none] [] (zSH zn, I, L)) : RX6_take zn d post 0 [some (.ref 34), some (.ref k1), some (.int x2), some (.int x3), none, none, none, none] [] (zSH zn, I, L) := fun P hw hc => hc _ tX6_take_0 _ _ _ (hc _ tX6_take_1 _ _ _ (h P hw hc))
theorem gX6_take_3 {zn d : Nat} {post : zP} (k1 : Nat) (x2 : Int32) (x3 : Int32) (x4 : Int32) (I : Nat → Nat → Int32) (L : Nat → Nat → Int64) (h1 : isX10 k1) (h : ((6 : Int32) ≤ x4 → RX6_take zn d post 46 [some (.ref 34), some (.ref k1), some (.int x2), some (.int x3), some (.int (6 : Int32)), none, none, none] [] (zSH zn, I, L)) ∧ (¬ (6 : Int32) ≤ x4 → (¬ ((¬ (x3 >>> (x4 &&& 31)) &&& 1 = 0)) → vp_in x4 19 ∧ (RX6_take zn d post 3 [some (.ref 34), some (.ref k1), some (.int x2), some (.int x3), some (.int (x4 + (1 : Int32))), none, none, none] [] (zSH zn, (zi I 35 (x4).toNatClampNeg ((x2 >>> (x4 &&& 31)) &&& (1 : Int32))), L))) ∧ ((¬ (x3 >>> (x4 &&& 31)) &&& 1 = 0) → vp_in x4 19 ∧ (RX6_take zn d post 3 [some (.ref 34), some (.ref k1), some (.int x2), some (.int x3), some (.int (x4 + (1 : Int32))), none, none, none] [] (zSH zn, (zi I 35 (x4).toNatClampNeg (2 : Int32)), L))))) : RX6_take zn d post 3 [some (.ref 34), some (.ref k1), some (.int x2), some (.int x3), some (.int x4), none, none, none] [] (zSH zn, I, L) := fun P hw hc => hc _ tX6_take_3 _ _ _ (hc _ tX6_take_5 _ _ _ (hc _ tX6_take_7 _ _ _ (⟨fun c1 => hc _ tX6_take_42 _ _ _ (hc _ tX6_take_44 _ _ _ ((h.1 c1) P hw hc)), fun c2 => hc _ tX6_take_10 _ _ _ (hc _ tX6_take_11 _ _ _ (⟨_, _, sh34, (by decide), rfl, hc _ tX6_take_14 _ _ _ (hc _ tX6_take_16 _ _ _ (hc _ tX6_take_17 _ _ _ (hc _ tX6_take_19 _ _ _ (⟨Nat.le_of_ble_eq_true rfl, Nat.le_of_ble_eq_true rfl, zl1, zl2, _, ctX11_hasBit x3 x4 I L, fun r u k5 => by obtain ⟨rfl, rfl⟩ := k5; exact ⟨zl3, zl4, hc _ tX6_take_22 _ _ _ (⟨fun c3 => hc _ tX6_take_29 _ _ _ (hc _ tX6_take_30 _ _ _ (hc _ tX6_take_32 _ _ _ (hc _ tX6_take_33 _ _ _ (hc _ tX6_take_34 _ _ _ (hc _ tX6_take_35 _ _ _ (⟨_, _, sh35, (by decide), ((h.2 c2).1 (zb_e c3)).1, hc _ tX6_take_36 _ _ _ (hc _ tX6_take_39 _ _ _ (((h.2 c2).1 (zb_e c3)).2 P hw hc))⟩)))))), fun c4 => hc _ tX6_take_25 _ _ _ (hc _ tX6_take_26 _ _ _ (hc _ tX6_take_35 _ _ _ (⟨_, _, sh35, (by decide), ((h.2 c2).2 (zb_n c4)).1, hc _ tX6_take_36 _ _ _ (hc _ tX6_take_39 _ _ _ (((h.2 c2).2 (zb_n c4)).2 P hw hc))⟩)))⟩)⟩⟩))))⟩))⟩)))
theorem gX6_take_46 {zn d : Nat} {post : zP} (k1 : Nat) (x2 : Int32) (x3 : Int32) (x4 : Int32) (I : Nat → Nat → Int32) (L : Nat → Nat → Int64) (h1 : isX10 k1) (h : ((15 : Int32) ≤ x4 → RX6_take zn d post 70 [some (.ref 34), some (.ref k1), some (.int x2), some (.int x3), some (.int (0 : Int32)), none, none, none] [] (zSH zn, I, L)) ∧ (¬ (15 : Int32) ≤ x4 → vp_in x4 19 ∧ (RX6_take zn d post 46 [some (.ref 34), some (.ref k1), some (.int x2), some (.int x3), some (.int (x4 + (1 : Int32))), none, none, none] [] (zSH zn, (zi I 35 (x4).toNatClampNeg (2 : Int32)), L)))) : RX6_take zn d post 46 [some (.ref 34), some (.ref k1), some (.int x2), some (.int x3), some (.int x4), none, none, none] [] (zSH zn, I, L) := fun P hw hc => hc _ tX6_take_46 _ _ _ (hc _ tX6_take_48 _ _ _ (hc _ tX6_take_50 _ _ _ (⟨fun c1 => hc _ tX6_take_67 _ _ _ (hc _ tX6_take_68 _ _ _ ((h.1 c1) P hw hc)), fun c2 => hc _ tX6_take_53 _ _ _ (hc _ tX6_take_54 _ _ _ (⟨_, _, sh34, (by decide), rfl, hc _ tX6_take_57 _ _ _ (hc _ tX6_take_59 _ _ _ (hc _ tX6_take_60 _ _ _ (⟨_, _, sh35, (by decide), (h.2 c2).1, hc _ tX6_take_61 _ _ _ (hc _ tX6_take_64 _ _ _ ((h.2 c2).2 P hw hc))⟩)))⟩))⟩)))
theorem gX6_take_70 {zn d : Nat} {post : zP} (k1 : Nat) (x2 : Int32) (x3 : Int32) (x4 : Int32) (I : Nat → Nat → Int32) (L : Nat → Nat → Int64) (h1 : isX10 k1) (h : ((4 : Int32) ≤ x4 → RX6_take zn d post 106 [some (.ref 34), some (.ref k1), some (.int x2), some (.int x3), some (.int (0 : Int32)), none, none, none] [] (zSH zn, I, L)) ∧ (¬ (4 : Int32) ≤ x4 → vp_in ((15 : Int32) + x4) 19 ∧ (RX6_take zn d post 70 [some (.ref 34), some (.ref k1), some (.int x2), some (.int x3), some (.int (x4 + (1 : Int32))), none, none, none] [] (zSH zn, (zi I 35 (((15 : Int32) + x4)).toNatClampNeg (((I 34 2) >>> (((2 : Int32) * x4) &&& 31)) &&& (3 : Int32))), L)))) : RX6_take zn d post 70 [some (.ref 34), some (.ref k1), some (.int x2), some (.int x3), some (.int x4), none, none, none] [] (zSH zn, I, L) := fun P hw hc => hc _ tX6_take_70 _ _ _ (hc _ tX6_take_72 _ _ _ (hc _ tX6_take_73 _ _ _ (⟨fun c1 => hc _ tX6_take_103 _ _ _ (hc _ tX6_take_104 _ _ _ ((h.1 c1) P hw hc)), fun c2 => hc _ tX6_take_76 _ _ _ (hc _ tX6_take_77 _ _ _ (⟨_, _, sh34, (by decide), rfl, hc _ tX6_take_80 _ _ _ (hc _ tX6_take_82 _ _ _ (hc _ tX6_take_84 _ _ _ (hc _ tX6_take_85 _ _ _ (hc _ tX6_take_86 _ _ _ (⟨_, sh34, (by decide), hc _ tX6_take_89 _ _ _ (hc _ tX6_take_90 _ _ _ (hc _ tX6_take_92 _ _ _ (hc _ tX6_take_93 _ _ _ (hc _ tX6_take_94 _ _ _ (hc _ tX6_take_95 _ _ _ (hc _ tX6_take_96 _ _ _ (⟨_, _, sh35, (by decide), (h.2 c2).1, hc _ tX6_take_97 _ _ _ (hc _ tX6_take_100 _ _ _ ((h.2 c2).2 P hw hc))⟩)))))))⟩)))))⟩))⟩)))
theorem gX6_take_106 {zn d : Nat} {post : zP} (k1 : Nat) (x2 : Int32) (x3 : Int32) (x4 : Int32) (I : Nat → Nat → Int32) (L : Nat → Nat → Int64) (h1 : isX10 k1) (h : ((I k1 7) ≤ x4 → post (some (.int ((zi I 34 3 ((I 34 3) + (1 : Int32))) 34 2))) (zSH zn, (zi I 34 3 ((I 34 3) + (1 : Int32))), L)) ∧ (¬ (I k1 7) ≤ x4 → vp_in x4 13 ∧ ((∃ (ks4 : List Nat) (f5 : Nat), (lnC I k1 (tn (I (k1 + 6) (x4).toNatClampNeg)) ks4 f5) ∧ (wfl ks4) ∧ (zs (I (k1 + 6) (x4).toNatClampNeg) 18) ∧ (∀ (M3 : Nat → Int32), (¬ ((6 ≤ (I (k1 + 6) (x4).toNatClampNeg) ∧ (I (k1 + 6) (x4).toNatClampNeg) < 15)) → RX6_take zn d post 106 [some (.ref 34), some (.ref k1), some (.int x2), some (.int x3), some (.int (x4 + (1 : Int32))), none, none, none] [] (zSH zn, (zi (zrI I 36 M3) 34 2 ((((zrI I 36 M3) 34 2) &&& (((3 : Int32) <<< (((2 : Int32) * ((I (k1 + 6) (x4).toNatClampNeg) - (15 : Int32))) &&& 31)) ^^^ (-1 : Int32))) ||| ((ev opS (I 35) 0 ks4) <<< (((2 : Int32) * ((I (k1 + 6) (x4).toNatClampNeg) - (15 : Int32))) &&& 31)))), L)) ∧ ((6 ≤ (I (k1 + 6) (x4).toNatClampNeg) ∧ (I (k1 + 6) (x4).toNatClampNeg) < 15) → vp_in (I (k1 + 6) (x4).toNatClampNeg) 19 ∧ (RX6_take zn d post 106 [some (.ref 34), some (.ref k1), some (.int x2), some (.int x3), some (.int (x4 + (1 : Int32))), none, none, none] [] (zSH zn, (zi (zrI I 36 M3) 35 ((I (k1 + 6) (x4).toNatClampNeg)).toNatClampNeg (ev opS (I 35) 0 ks4)), L)))))))) : RX6_take zn d post 106 [some (.ref 34), some (.ref k1), some (.int x2), some (.int x3), some (.int x4), none, none, none] [] (zSH zn, I, L) := fun P hw hc => hc _ tX6_take_106 _ _ _ (hc _ tX6_take_108 _ _ _ (hc _ tX6_take_109 _ _ _ (⟨_, (shX10 h1), (geX10 h1), hc _ tX6_take_112 _ _ _ (⟨fun c1 => hc _ tX6_take_189 _ _ _ (hc _ tX6_take_190 _ _ _ (⟨rfl, hc _ tX6_take_191 _ _ _ (⟨_, sh34, (by decide), hc _ tX6_take_194 _ _ _ (hc _ tX6_take_195 _ _ _ (hc _ tX6_take_196 _ _ _ (⟨_, sh34, (by decide), nofun, hc _ tX6_take_199 _ _ _ (hc _ tX6_take_200 _ _ _ (⟨_, sh34, (by decide), hc _ tX6_take_203 _ _ _ (⟨nofun, rfl, rfl, (h.1 c1)⟩)⟩))⟩)))⟩)⟩)), fun c2 => hc _ tX6_take_115 _ _ _ (hc _ tX6_take_116 _ _ _ (⟨_, _, (shX10 h1), (geX10 h1), rfl, hc _ tX6_take_119 _ _ _ (hc _ tX6_take_121 _ _ _ (⟨_, _, _, (shX10_5 h1), Or.inl ⟨rfl, (geX10_5 h1)⟩, (h.2 c2).1, hc _ tX6_take_122 _ _ _ (hc _ tX6_take_124 _ _ _ (hc _ tX6_take_125 _ _ _ (hc _ tX6_take_126 _ _ _ ((by obtain ⟨ks4, f5, hg6⟩ := (h.2 c2).2; exact hc _ tX6_take_128 _ _ _ (⟨⟨_, _, _, rfl, (by decide), sh34⟩, ⟨Nat.le_of_ble_eq_true rfl, Nat.le_of_ble_eq_true rfl, zl1, zl2, _, ctX6_make k1 (I (k1 + 6) (x4).toNatClampNeg) I L ks4 f5 h1 hg6.1 hg6.2.1 hg6.2.2.1, fun r u k10 => by obtain ⟨M3, rfl, rfl⟩ := k10; exact ⟨zl3, zl4, hc _ tX6_take_131 _ _ _ (hc _ tX6_take_133 _ _ _ (hc _ tX6_take_135 _ _ _ (⟨Nat.le_of_ble_eq_true rfl, Nat.le_of_ble_eq_true rfl, zl1, zl2, _, ctX11_isWire (I (k1 + 6) (x4).toNatClampNeg) (zrI I 36 M3) L, fun r u k9 => by obtain ⟨rfl, rfl⟩ := k9; exact ⟨zl3, zl4, hc _ tX6_take_138 _ _ _ (⟨fun c7 => hc _ tX6_take_153 _ _ _ (hc _ tX6_take_154 _ _ _ (hc _ tX6_take_156 _ _ _ (hc _ tX6_take_158 _ _ _ (hc _ tX6_take_159 _ _ _ (hc _ tX6_take_160 _ _ _ (hc _ tX6_take_162 _ _ _ (hc _ tX6_take_163 _ _ _ (hc _ tX6_take_164 _ _ _ (⟨_, sh34, (by decide), hc _ tX6_take_167 _ _ _ (hc _ tX6_take_168 _ _ _ (hc _ tX6_take_170 _ _ _ (hc _ tX6_take_171 _ _ _ (hc _ tX6_take_172 _ _ _ (hc _ tX6_take_173 _ _ _ (hc _ tX6_take_174 _ _ _ (hc _ tX6_take_176 _ _ _ (hc _ tX6_take_178 _ _ _ (hc _ tX6_take_179 _ _ _ (hc _ tX6_take_180 _ _ _ (⟨_, sh34, (by decide), nofun, hc _ tX6_take_183 _ _ _ (hc _ tX6_take_186 _ _ _ (hw _ _ _ _ _ (zwk_s (zwk_s (zwk_s (zwk_s (zwk_s (zwk_n (zwk_n (zwk_n zwk_nil)))))))) (((hg6.2.2.2 M3).1 (zb_e c7)) P hw hc)))⟩)))))))))))⟩))))))))), fun c8 => hc _ tX6_take_141 _ _ _ (hc _ tX6_take_142 _ _ _ (⟨_, _, sh34, (by decide), rfl, hc _ tX6_take_145 _ _ _ (hc _ tX6_take_147 _ _ _ (hc _ tX6_take_149 _ _ _ (⟨_, _, sh35, (by decide), ((hg6.2.2.2 M3).2 (zb_n c8)).1, hc _ tX6_take_150 _ _ _ (hc _ tX6_take_183 _ _ _ (hc _ tX6_take_186 _ _ _ (hw _ _ _ _ _ (zwk_s (zwk_s (zwk_s (zwk_s (zwk_s (zwk_n (zwk_n (zwk_s zwk_nil)))))))) (((hg6.2.2.2 M3).2 (zb_n c8)).2 P hw hc))))⟩)))⟩))⟩)⟩⟩)))⟩⟩⟩))))))⟩))⟩))⟩)⟩)))
theorem zs_bit (x : Int32) : zs (x &&& 1) 2 := by
  obtain ⟨j, hj, e⟩ := pk_andE x (m := 1) 1 (by decide)
  exact ⟨j, by omega, e⟩
theorem zs_inS (x y : Int32) (n : Nat) : zs (inS x y n) 2 := by
  unfold inS
  split
  · exact ⟨2, by decide, rfl⟩
  · exact zs_bit _
theorem cEv_fr {I J : Nat → Nat → Int32} {k : Nat} {V : zVw} {os : List Nat} (h : cEv I k V os) (hf : ∀ j, j ≤ 6 → J (k + j) = I (k + j)) : cEv J k V os := by
  obtain ⟨h1, h2, h3, h4, h5, h6⟩ := h
  have hk : J k = I k := hf 0 (by omega)
  refine ⟨h1, fun n ks hk => ?_, h3, by rw [hk]; exact h4, h5, fun i o ho => by rw [hf 6 (by omega)]; exact h6 i o ho⟩
  obtain ⟨f, g1, g2, g3, g4⟩ := h2 n ks hk
  exact ⟨f, g1, by rw [hf 2 (by omega)]; exact g2, by rw [hf 3 (by omega)]; exact g3, fun i x hx => by rw [hf 1 (by omega)]; exact g4 i x hx⟩
theorem ctX6_take {zn d : Nat} (k1 : Nat) (x2 : Int32) (x3 : Int32) (I : Nat → Nat → Int32) (L : Nat → Nat → Int64) (V : zVw) (os : List Nat) (f : Nat → Nat) (h1 : isX10 k1) (q0 : cEv I k1 V os) (q1 : I 34 2 = nI (pkf f)) (q2 : ∀ r, r < 4 → f r ≤ 2) : zcal zty zcd false (d + 4) 54 [.ref 34, .ref k1, .int x2, .int x3] (zSH zn, I, L) 0 0 (fun r u => ∃ (J : Nat → Nat → Int32), ∃ (g : Nat → Nat), r = some (.int (nI (pkf g))) ∧ u = (zSH zn, J, L) ∧ (stpC I J V f g x2 x3)) := by
  obtain ⟨hV, hln, ⟨t1, t2, t3⟩, o2, o3, o4⟩ := id q0
  have hkf : ∀ {J : Nat → Nat → Int32}, fr [34, 35, 36] I J → ∀ j, j ≤ 6 → J (k1 + j) = I (k1 + j) := fun hJ j hj => hJ _ (by obtain ⟨a, b, c⟩ := k10_ne h1 hj; simp only [List.mem_cons, List.not_mem_nil, or_false, not_or]; exact ⟨a, b, c⟩)
  have loop4 : ∀ (m i : Nat) (J : Nat → Nat → Int32) (g : Nat → Nat), i + m = os.length → fr [34, 35, 36] I J → (∀ s, s < 2 → J 34 s = I 34 s) → J 34 3 = I 34 3 → J 34 2 = nI (pkf g) → (∀ n, n < 19 → zs (J 35 n) 2) → (∀ n, n < 6 → J 35 n = inS x2 x3 n) → (∀ r, r < 4 → J 35 (15 + r) = nI (f r)) → tInv opS 0 V idp 2 os i (J 35) → (∀ r, r < 4 → g r ≤ 2) → (∀ r, r < 4 → 15 + r ∈ os.take i → ∀ ks, V (15 + r) = some ks → nI (g r) = ev opS (J 35) 0 ks) → (∀ r, r < 4 → 15 + r ∉ os.take i → g r = f r) →
      RX6_take zn d (fun r u => ∃ (J : Nat → Nat → Int32), ∃ (g : Nat → Nat), r = some (.int (nI (pkf g))) ∧ u = (zSH zn, J, L) ∧ (stpC I J V f g x2 x3)) 106 [some (.ref 34), some (.ref k1), some (.int x2), some (.int x3), some (.int (nI i)), none, none, none] [] (zSH zn, J, L) := by
    intro m
    induction m with
    | zero =>
      intro i J g hi f1 f2 f3 f4 f5 f6 f7 f8 f9 f10 f11
      have e : os.take i = os := List.take_of_length_le (by omega)
      rw [e] at f10 f11
      have e7 : I k1 7 = J k1 7 := by have := hkf f1 0 (by omega); rw [Nat.add_zero] at this; rw [this]
      refine gX6_take_106 k1 _ _ _ J L h1 ⟨fun _ => ⟨_, g, ?_, rfl, fr_trans f1 (fr_zi (by simp)), fun s hs => ?_, ?_, ?_, ?_, ?_, ?_, ?_, fun r hr => ⟨f9 r hr, ?_⟩⟩, fun hc => absurd ?_ hc⟩
      · rw [zi_at, if_neg (by omega), f4]
      · rw [zi_at, if_neg (by omega)]; exact f2 s hs
      · rw [zi_at, if_pos ⟨rfl, rfl⟩, f3]
      · rw [zi_at, if_neg (by omega)]; exact f4
      · rw [zi_ne (by decide)]; exact f5
      · rw [zi_ne (by decide)]; exact f6
      · rw [zi_ne (by decide)]; exact f7
      · rw [zi_ne (by decide)]; exact tInv_sol f8 (by omega) (fun w _ _ => t1 w)
      · rw [zi_ne (by decide)]
        cases hv : V (15 + r) with
        | none => simp only; rw [f11 r hr (fun z => by have := (t1 (15 + r)).mp z; rw [hv] at this; cases this)]
        | some ks => exact f10 r hr ((t1 (15 + r)).mpr (by rw [hv]; rfl)) ks hv
      · rw [← e7, o2, nI_leI (by omega) (by omega)]; omega
    | succ m ih =>
      intro i J g hi f1 f2 f3 f4 f5 f6 f7 f8 f9 f10 f11
      have hil : i < os.length := by omega
      obtain ⟨o, ho⟩ : ∃ o, os[i]? = some o := ⟨_, List.getElem?_eq_getElem hil⟩
      have hos : (V o).isSome = true := (t1 o).mp (List.mem_of_getElem? ho)
      obtain ⟨ks, hk⟩ := Option.isSome_iff_exists.mp hos
      obtain ⟨hn6, hn19, hwf⟩ := hV o ks hk
      obtain ⟨fl, hf⟩ := (cEv_fr q0 (hkf f1)).2.1 o ks hk
      have e7 : J k1 7 = I k1 7 := by have := hkf f1 0 (by omega); rw [Nat.add_zero] at this; rw [this]
      have e0 : (nI i).toNatClampNeg = i := nI_clamp (by omega)
      have e1 : J (k1 + 6) i = nI o := by rw [hkf f1 6 (by omega)]; exact o4 i o ho
      have e2 : (nI o).toNatClampNeg = o := nI_clamp (by omega)
      have e3 : tn (nI o) = o := e2
      have hnt : o ∉ os.take i := nodup_take t2 ho
      obtain ⟨mv, hmv, emv⟩ := evS_ok hwf f5
      refine gX6_take_106 k1 _ _ _ J L h1 ⟨fun hc => absurd hc (by rw [e7, o2, nI_leI (by omega) (by omega)]; omega), fun _ => ⟨vin_nI (by omega) (by omega), ks, fl, ?_⟩⟩
      rw [e0, e1, e2, e3, nI_1]
      refine ⟨hf, hwf, ⟨o, by omega, rfl⟩, fun M => ⟨fun hc => ?_, fun hc => ⟨vin_nI (by omega) (by omega), ?_⟩⟩⟩
      · have how : ¬ (6 ≤ o ∧ o < 15) := fun z => hc ((wire_nI (by omega)).mpr z)
        obtain ⟨r, hr, rfl⟩ : ∃ r, r < 4 ∧ o = 15 + r := ⟨o - 15, by omega, by omega⟩
        have er : nI (15 + r) - 15 = nI r := by rw [nl 15, pk_sub (by omega)]; congr 1; omega
        rw [er, zrI_n (by decide), f4, emv, pkf_set f9 hr hmv]
        have e35 : ∀ v, (zi (zrI J 36 M) 34 2 v) 35 = J 35 := fun v => by rw [zi_ne (by decide), zrI_n (by decide)]
        refine ih (i + 1) _ (fun j => if j = r then mv else g j) (by omega) (fr_trans f1 (fr_trans (I' := zrI J 36 M) (fun j hj => zrI_n (fun z => hj (by simp [z]))) (fr_zi (by simp)))) (fun s hs => ?_) ?_ ?_ (by rw [e35]; exact f5) (by rw [e35]; exact f6) (by rw [e35]; exact f7) (by rw [e35]; exact tInv_skip f8 ho how) (fun r' hr' => ?_) (fun r' hr' hm ks' hk' => ?_) (fun r' hr' hm => ?_)
        · rw [zi_at, if_neg (by omega), zrI_n (by decide)]; exact f2 s hs
        · rw [zi_at, if_neg (by omega), zrI_n (by decide)]; exact f3
        · rw [zi_at, if_pos ⟨rfl, rfl⟩]
        · show (if r' = r then mv else g r') ≤ 2
          split
          · exact hmv
          · exact f9 r' hr'
        · rw [e35]
          show nI (if r' = r then mv else g r') = _
          by_cases hrr : r' = r
          · subst hrr
            rw [hk] at hk'; cases hk'
            rw [if_pos rfl, emv]
          · rw [if_neg hrr]
            rw [take_s ho] at hm
            rcases List.mem_append.mp hm with hm | hm
            · exact f10 r' hr' hm ks' hk'
            · simp at hm; omega
        · show (if r' = r then mv else g r') = _
          rw [take_s ho] at hm
          rw [if_neg (fun z => hm (by rw [z]; simp))]
          exact f11 r' hr' (fun z => hm (List.mem_append_left _ z))
      · have how : 6 ≤ o ∧ o < 15 := (wire_nI (by omega)).mp hc
        have e35 : (zi (zrI J 36 M) 35 o (ev opS (J 35) 0 ks)) 35 = fun n => if n = o then idp o (ev opS (J 35) 0 ks) else J 35 n := by
          funext n; rw [zi_at, zrI_n (by decide)]; simp [idp]
        refine ih (i + 1) _ g (by omega) (fr_trans f1 (fr_trans (I' := zrI J 36 M) (fun j hj => zrI_n (fun z => hj (by simp [z]))) (fr_zi (by simp)))) (fun s hs => ?_) ?_ ?_ (fun n hn => ?_) (fun n hn => ?_) (fun r hr => ?_) ?_ f9 (fun r hr hm ks' hk' => ?_) (fun r hr hm => ?_)
        · rw [zi_ne (by decide), zrI_n (by decide)]; exact f2 s hs
        · rw [zi_ne (by decide), zrI_n (by decide)]; exact f3
        · rw [zi_ne (by decide), zrI_n (by decide)]; exact f4
        · rw [e35]
          show zs (if n = o then idp o (ev opS (J 35) 0 ks) else J 35 n) 2
          split
          · exact evS_ok hwf f5
          · exact f5 n hn
        · rw [e35]
          show (if n = o then idp o (ev opS (J 35) 0 ks) else J 35 n) = _
          rw [if_neg (by omega)]; exact f6 n hn
        · rw [e35]
          show (if 15 + r = o then idp o (ev opS (J 35) 0 ks) else J 35 (15 + r)) = _
          rw [if_neg (by omega)]; exact f7 r hr
        · rw [e35]; exact tInv_step opS_eq hV t2 t3 f8 ho how hk
        · rw [e35, ev_stay opS_eq hV t2 t3 ho how hm hk']
          rw [take_s ho] at hm
          rcases List.mem_append.mp hm with hm | hm
          · exact f10 r hr hm ks' hk'
          · simp at hm; omega
        · rw [take_s ho] at hm
          exact f11 r hr (fun z => hm (List.mem_append_left _ z))
  have loop3 : ∀ (m i : Nat) (J : Nat → Nat → Int32), i + m = 4 → fr [34, 35, 36] I J → J 34 = I 34 → (∀ n, n < 6 → J 35 n = inS x2 x3 n) → (∀ n, 6 ≤ n → n < 15 → J 35 n = 2) → (∀ r, r < i → J 35 (15 + r) = nI (f r)) →
      RX6_take zn d (fun r u => ∃ (J : Nat → Nat → Int32), ∃ (g : Nat → Nat), r = some (.int (nI (pkf g))) ∧ u = (zSH zn, J, L) ∧ (stpC I J V f g x2 x3)) 70 [some (.ref 34), some (.ref k1), some (.int x2), some (.int x3), some (.int (nI i)), none, none, none] [] (zSH zn, J, L) := by
    intro m
    induction m with
    | zero =>
      intro i J hi f1 f2 f3 f4 f5
      have hi4 : i = 4 := by omega
      subst hi4
      refine gX6_take_70 k1 _ _ _ J L h1 ⟨fun _ => ?_, fun hc => absurd (by decide) hc⟩
      refine loop4 os.length 0 J f (by omega) f1 (fun s _ => by rw [f2]) (by rw [f2]) (by rw [f2]; exact q1) (fun n hn => ?_) f3 (fun r hr => f5 r hr) ⟨fun w _ _ hw => by simp at hw, fun w h6 h15 _ => f4 w h6 h15⟩ q2 (fun r _ hr => by simp at hr) (fun r _ _ => rfl)
      by_cases hn6 : n < 6
      · rw [f3 n hn6]; exact zs_inS _ _ _
      · by_cases hn15 : n < 15
        · rw [f4 n (by omega) hn15]; exact ⟨2, by decide, rfl⟩
        · have := f5 (n - 15) (by omega)
          rw [show 15 + (n - 15) = n by omega] at this
          rw [this]; exact ⟨_, q2 _ (by omega), rfl⟩
    | succ m ih =>
      intro i J hi f1 f2 f3 f4 f5
      have e0 : (15 : Int32) + nI i = nI (15 + i) := by rw [nl 15, nI_add]
      have e0' : (nI (15 + i)).toNatClampNeg = 15 + i := nI_clamp (by omega)
      refine gX6_take_70 k1 _ _ _ J L h1 ⟨fun hc => absurd hc (by rw [nl 4, nI_leI (by omega) (by omega)]; omega), fun _ => ⟨by rw [e0]; exact vin_nI (by omega) (by omega), ?_⟩⟩
      rw [e0, e0', nI_1, f2, q1, pkf_get q2 (by omega)]
      refine ih (i + 1) _ (by omega) (fr_trans f1 (fr_zi (by simp))) (by rw [zi_ne (by decide)]; exact f2) (fun n hn => ?_) (fun n h6 hn => ?_) (fun r hr => ?_)
      · rw [zi_at, if_neg (by omega)]; exact f3 n hn
      · rw [zi_at, if_neg (by omega)]; exact f4 n h6 hn
      · rw [zi_at]
        by_cases hri : r = i
        · rw [if_pos ⟨rfl, by omega⟩, hri]
        · rw [if_neg (by omega)]; exact f5 r (by omega)
  have loop2 : ∀ (m i : Nat) (J : Nat → Nat → Int32), i + m = 15 → 6 ≤ i → fr [34, 35, 36] I J → J 34 = I 34 → (∀ n, n < 6 → J 35 n = inS x2 x3 n) → (∀ n, 6 ≤ n → n < i → J 35 n = 2) →
      RX6_take zn d (fun r u => ∃ (J : Nat → Nat → Int32), ∃ (g : Nat → Nat), r = some (.int (nI (pkf g))) ∧ u = (zSH zn, J, L) ∧ (stpC I J V f g x2 x3)) 46 [some (.ref 34), some (.ref k1), some (.int x2), some (.int x3), some (.int (nI i)), none, none, none] [] (zSH zn, J, L) := by
    intro m
    induction m with
    | zero =>
      intro i J hi h6i f1 f2 f3 f4
      have hi4 : i = 15 := by omega
      subst hi4
      exact gX6_take_46 k1 _ _ _ J L h1 ⟨fun _ => loop3 4 0 J (by omega) f1 f2 f3 f4 (fun r hr => absurd hr (by omega)), fun hc => absurd (by decide) hc⟩
    | succ m ih =>
      intro i J hi h6i f1 f2 f3 f4
      have e0 : (nI i).toNatClampNeg = i := nI_clamp (by omega)
      refine gX6_take_46 k1 _ _ _ J L h1 ⟨fun hc => absurd hc (by rw [nl 15, nI_leI (by omega) (by omega)]; omega), fun _ => ⟨vin_nI (by omega) (by omega), ?_⟩⟩
      rw [e0, nI_1]
      refine ih (i + 1) _ (by omega) (by omega) (fr_trans f1 (fr_zi (by simp))) (by rw [zi_ne (by decide)]; exact f2) (fun n hn => ?_) (fun n h6 hn => ?_)
      · rw [zi_at, if_neg (by omega)]; exact f3 n hn
      · rw [zi_at]
        by_cases hni : n = i
        · rw [if_pos ⟨rfl, hni⟩]
        · rw [if_neg (fun z => hni z.2)]; exact f4 n h6 (by omega)
  have loop1 : ∀ (m i : Nat) (J : Nat → Nat → Int32), i + m = 6 → fr [34, 35, 36] I J → J 34 = I 34 → (∀ n, n < i → J 35 n = inS x2 x3 n) →
      RX6_take zn d (fun r u => ∃ (J : Nat → Nat → Int32), ∃ (g : Nat → Nat), r = some (.int (nI (pkf g))) ∧ u = (zSH zn, J, L) ∧ (stpC I J V f g x2 x3)) 3 [some (.ref 34), some (.ref k1), some (.int x2), some (.int x3), some (.int (nI i)), none, none, none] [] (zSH zn, J, L) := by
    intro m
    induction m with
    | zero =>
      intro i J hi f1 f2 f3
      have hi4 : i = 6 := by omega
      subst hi4
      exact gX6_take_3 k1 _ _ _ J L h1 ⟨fun _ => loop2 9 6 J (by omega) (by omega) f1 f2 f3 (fun n h1 h2 => absurd h1 (by omega)), fun hc => absurd (by decide) hc⟩
    | succ m ih =>
      intro i J hi f1 f2 f3
      have e0 : (nI i).toNatClampNeg = i := nI_clamp (by omega)
      refine gX6_take_3 k1 _ _ _ J L h1 ⟨fun hc => absurd hc (by rw [nl 6, nI_leI (by omega) (by omega)]; omega), fun _ => ⟨fun hc => ⟨vin_nI (by omega) (by omega), ?_⟩, fun hc => ⟨vin_nI (by omega) (by omega), ?_⟩⟩⟩
      all_goals
        rw [e0, nI_1]
        refine ih (i + 1) _ (by omega) (fr_trans f1 (fr_zi (by simp))) (by rw [zi_ne (by decide)]; exact f2) (fun n hn => ?_)
        rw [zi_at]
        by_cases hni : n = i
        · subst hni; rw [if_pos ⟨rfl, rfl⟩, inS]; simp only [hc, if_true, if_false, not_false_eq_true, not_true_eq_false]
        · rw [if_neg (fun z => hni z.2)]; exact f3 n (by omega)
  exact eX6_take k1 _ _ I L h1 (gX6_take_0 k1 _ _ I L h1 (loop1 6 0 I (by omega) fr_rf rfl (fun n hn => absurd hn (by omega))))

