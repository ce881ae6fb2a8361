/-! a LINE as the class holds it, and runs over it -/
def tokv (ks : List Nat) (i : Nat) : Nat := ks.getD i 0 + 32 * (depd 0 (ks.take i) - ar (ks.getD i 0))
def lnC (I : Nat → Nat → Int32) (k n : Nat) (ks : List Nat) (f : Nat) : Prop := f + ks.length ≤ 200 ∧ I (k + 2) n = nI f ∧ I (k + 3) n = nI (f + ks.length) ∧ ∀ (i x : Nat), ks[i]? = some x → I (k + 1) (f + i) = nI (tokv ks i)
def zrL (L : Nat → Nat → Int64) (k : Nat) (f : Nat → Int64) : Nat → Nat → Int64 := fun j => if j = k then f else L j
def zrI (I : Nat → Nat → Int32) (k : Nat) (f : Nat → Int32) : Nat → Nat → Int32 := fun j => if j = k then f else I j
theorem zrL_s {L : Nat → Nat → Int64} {k : Nat} {f : Nat → Int64} : zrL L k f k = f := if_pos rfl
theorem zrL_n {L : Nat → Nat → Int64} {k j : Nat} {f : Nat → Int64} (h : j ≠ k) : zrL L k f j = L j := if_neg h
theorem zrI_s {I : Nat → Nat → Int32} {k : Nat} {f : Nat → Int32} : zrI I k f k = f := if_pos rfl
theorem zrI_n {I : Nat → Nat → Int32} {k j : Nat} {f : Nat → Int32} (h : j ≠ k) : zrI I k f j = I j := if_neg h
theorem zrL_self {L : Nat → Nat → Int64} {k : Nat} : zrL L k (L k) = L := by funext j; unfold zrL; split <;> simp_all
theorem zrI_self {I : Nat → Nat → Int32} {k : Nat} : zrI I k (I k) = I := by funext j; unfold zrI; split <;> simp_all
theorem zrL_2 {L : Nat → Nat → Int64} {k : Nat} {f g : Nat → Int64} : zrL (zrL L k f) k g = zrL L k g := by funext j; unfold zrL; split <;> simp_all
theorem zrI_2 {I : Nat → Nat → Int32} {k : Nat} {f g : Nat → Int32} : zrI (zrI I k f) k g = zrI I k g := by funext j; unfold zrI; split <;> simp_all
theorem zl_zrL {L : Nat → Nat → Int64} {k i : Nat} {f : Nat → Int64} {v : Int64} : zl (zrL L k f) k i v = zrL L k (fun j => if j = i then v else f j) := by
  funext j; unfold zl zrL vp_updL; split <;> simp_all
theorem zi_zrI {I : Nat → Nat → Int32} {k i : Nat} {f : Nat → Int32} {v : Int32} : zi (zrI I k f) k i v = zrI I k (fun j => if j = i then v else f j) := by
  funext j; unfold zi zrI upd; split <;> simp_all
theorem kind_t {k s : Nat} (hk : k < 32) (hs : s < 16) : fX11_kindOf (nI (k + 32 * s)) = nI k := by
  unfold fX11_kindOf
  rw [pk_andN (by omega) 5 (by decide)]
  congr 1; omega
theorem slot_t {k s : Nat} (hk : k < 32) (hs : s < 16) : fX11_slotOf (nI (k + 32 * s)) = nI s := by
  unfold fX11_slotOf
  rw [nl 5, nI_shr (by omega) (by decide), pk_andN (by omega) 4 (by decide)]
  congr 1; omega
theorem tok_k {ks : List Nat} {i x : Nat} (hw : okd 0 ks) (hi : ks[i]? = some x) : fX11_kindOf (nI (tokv ks i)) = nI x ∧ fX11_slotOf (nI (tokv ks i)) = nI (depd 0 (ks.take i) - ar x) := by
  obtain ⟨h1, h2, h3⟩ := okd_at hw hi
  have e : ks.getD i 0 = x := by rw [List.getD_eq_getElem?_getD, hi]; rfl
  unfold tokv
  rw [e]
  exact ⟨kind_t (by omega) (by omega), slot_t (by omega) (by omega)⟩
/-! lanes -/
def opL (k : Nat) (a b c : Int64) : Int64 := fX4_gateOf (nI k) a b c
theorem opL_eq : opRel Eq opL opL := opRel_eq (fun k a b c a' b' c' h1 h2 ha hb hc => by
  rcases (show k = 19 ∨ k = 20 ∨ k = 21 ∨ k = 22 ∨ k = 23 ∨ k = 24 ∨ k = 25 by omega) with rfl | rfl | rfl | rfl | rfl | rfl | rfl
  · rfl
  · rfl
  · rw [ha (by decide)]; rfl
  · rw [ha (by decide), hb (by decide)]; rfl
  · rw [ha (by decide), hb (by decide)]; rfl
  · rw [ha (by decide), hb (by decide)]; rfl
  · rw [ha (by decide), hb (by decide), hc (by decide)])
abbrev RX4_stuck (zn d : Nat) (post : zP) : zK := zRun (zcal zty zcd false (d + 0)) kX4_stuck (zLM zn) post
theorem eX4_stuck {zn d : Nat} {post : zP} (k0 : Nat) (x1 : Int32) (x2 : Int64) (I : Nat → Nat → Int32) (L : Nat → Nat → Int64) (h0 : isX4 k0) (h : RX4_stuck zn d post 0 [some (.ref k0), some (.int x1), some (.long x2), none] [] (zSH zn, I, L)) : zcal zty zcd false (d + 1) 36 [.ref k0, .int x1, .long x2] (zSH zn, I, L) 0 0 post := zcal_of (d := d + 0) zmt36 zmc36 rfl (Nat.le_of_ble_eq_true rfl) h
theorem gX4_stuck_0 {zn d : Nat} {post : zP} (k0 : Nat) (x1 : Int32) (x2 : Int64) (I : Nat → Nat → Int32) (L : Nat → Nat → Int64) (h0 : isX4 k0) (h : vp_in x1 19 ∧ (post (some (.long ((x2 &&& ((L (k0 + 3) (x1).toNatClampNeg) ^^^ (-1 : Int64))) ||| (L (k0 + 4) (x1).toNatClampNeg)))) (zSH zn, I, L))) : RX4_stuck zn d post 0 [some (.ref k0), some (.int x1), some (.long x2), none] [] (zSH zn, I, L) := fun P hw hc => hc _ tX4_stuck_0 _ _ _ (hc _ tX4_stuck_1 _ _ _ (hc _ tX4_stuck_2 _ _ _ (⟨_, _, (shX4 h0), (geX4 h0), rfl, hc _ tX4_stuck_5 _ _ _ (hc _ tX4_stuck_6 _ _ _ (⟨_, _, _, (shX4_2 h0), Or.inl ⟨rfl, (geX4_2 h0)⟩, h.1, hc _ tX4_stuck_7 _ _ _ (hc _ tX4_stuck_10 _ _ _ (hc _ tX4_stuck_11 _ _ _ (hc _ tX4_stuck_12 _ _ _ (hc _ tX4_stuck_13 _ _ _ (⟨_, _, (shX4 h0), (geX4 h0), rfl, hc _ tX4_stuck_16 _ _ _ (hc _ tX4_stuck_17 _ _ _ (⟨_, _, _, (shX4_3 h0), Or.inl ⟨rfl, (geX4_3 h0)⟩, h.1, hc _ tX4_stuck_18 _ _ _ (hc _ tX4_stuck_19 _ _ _ (⟨rfl, rfl, h.2⟩))⟩))⟩)))))⟩))⟩)))
theorem ctX4_stuck {zn d : Nat} (k0 : Nat) (x1 : Int32) (x2 : Int64) (I : Nat → Nat → Int32) (L : Nat → Nat → Int64) (h0 : isX4 k0) (q0 : zs x1 18) : zcal zty zcd false (d + 1) 36 [.ref k0, .int x1, .long x2] (zSH zn, I, L) 0 0 (fun r u => r = some (.long ((x2 &&& ((L (k0 + 3) (tn x1)) ^^^ (-1 : Int64))) ||| (L (k0 + 4) (tn x1)))) ∧ u = (zSH zn, I, L)) := by
  obtain ⟨j, hj, rfl⟩ := q0
  exact eX4_stuck k0 _ x2 I L h0 (gX4_stuck_0 k0 _ x2 I L h0 ⟨vin_nI (by omega) (by omega), rfl, rfl⟩)
abbrev RX4_make (zn d : Nat) (post : zP) : zK := zRun (zcal zty zcd false (d + 1)) kX4_make (zLM zn) post
theorem eX4_make {zn d : Nat} {post : zP} (k0 : Nat) (k1 : Nat) (x2 : Int32) (I : Nat → Nat → Int32) (L : Nat → Nat → Int64) (h0 : isX4 k0) (h1 : isX10 k1) (h : RX4_make zn d post 0 [some (.ref k0), some (.ref k1), some (.int x2), none, none, none] [] (zSH zn, I, L)) : zcal zty zcd false (d + 2) 37 [.ref k0, .ref k1, .int x2] (zSH zn, I, L) 0 0 post := zcal_of (d := d + 1) zmt37 zmc37 rfl (Nat.le_of_ble_eq_true rfl) h
theorem gX4_make_0 {zn d : Nat} {post : zP} (k0 : Nat) (k1 : Nat) (x2 : Int32) (I : Nat → Nat → Int32) (L : Nat → Nat → Int64) (h0 : isX4 k0) (h1 : isX10 k1) (h : vp_in x2 19 ∧ (RX4_make zn d post 7 [some (.ref k0), some (.ref k1), some (.int x2), some (.int (I (k1 + 2) (x2).toNatClampNeg)), none, none] [] (zSH zn, I, L))) : RX4_make zn d post 0 [some (.ref k0), some (.ref k1), some (.int x2), none, none, none] [] (zSH zn, I, L) := fun P hw hc => hc _ tX4_make_0 _ _ _ (hc _ tX4_make_1 _ _ _ (⟨_, _, (shX10 h1), (geX10 h1), rfl, hc _ tX4_make_4 _ _ _ (hc _ tX4_make_5 _ _ _ (⟨_, _, _, (shX10_1 h1), Or.inl ⟨rfl, (geX10_1 h1)⟩, h.1, hc _ tX4_make_6 _ _ _ (h.2 P hw hc)⟩))⟩))
theorem gX4_make_7 {zn d : Nat} {post : zP} (k0 : Nat) (k1 : Nat) (x2 : Int32) (x3 : Int32) (I : Nat → Nat → Int32) (L : Nat → Nat → Int64) (h0 : isX4 k0) (h1 : isX10 k1) (h : vp_in x2 19 ∧ (((I (k1 + 3) (x2).toNatClampNeg) ≤ x3 → post (some (.long (L (k0 + 5) 0))) (zSH zn, I, L)) ∧ (¬ (I (k1 + 3) (x2).toNatClampNeg) ≤ x3 → vp_in x3 200 ∧ (((19 : Int32) ≤ (fX11_kindOf (I (k1 + 1) (x3).toNatClampNeg)) → vp_in (fX11_slotOf (I (k1 + 1) (x3).toNatClampNeg)) 18 ∧ (vp_in ((fX11_slotOf (I (k1 + 1) (x3).toNatClampNeg)) + (1 : Int32)) 18 ∧ (vp_in ((fX11_slotOf (I (k1 + 1) (x3).toNatClampNeg)) + (2 : Int32)) 18 ∧ (RX4_make zn d post 7 [some (.ref k0), some (.ref k1), some (.int x2), some (.int (x3 + (1 : Int32))), none, none] [] (zSH zn, I, (zl L (k0 + 5) ((fX11_slotOf (I (k1 + 1) (x3).toNatClampNeg))).toNatClampNeg (fX4_gateOf (fX11_kindOf (I (k1 + 1) (x3).toNatClampNeg)) (L (k0 + 5) ((fX11_slotOf (I (k1 + 1) (x3).toNatClampNeg))).toNatClampNeg) (L (k0 + 5) (((fX11_slotOf (I (k1 + 1) (x3).toNatClampNeg)) + (1 : Int32))).toNatClampNeg) (L (k0 + 5) (((fX11_slotOf (I (k1 + 1) (x3).toNatClampNeg)) + (2 : Int32))).toNatClampNeg)))))))) ∧ (¬ (19 : Int32) ≤ (fX11_kindOf (I (k1 + 1) (x3).toNatClampNeg)) → vp_in (fX11_kindOf (I (k1 + 1) (x3).toNatClampNeg)) 19 ∧ (vp_in (fX11_slotOf (I (k1 + 1) (x3).toNatClampNeg)) 18 ∧ (RX4_make zn d post 7 [some (.ref k0), some (.ref k1), some (.int x2), some (.int (x3 + (1 : Int32))), none, none] [] (zSH zn, I, (zl L (k0 + 5) ((fX11_slotOf (I (k1 + 1) (x3).toNatClampNeg))).toNatClampNeg (L (k0 + 1) ((fX11_kindOf (I (k1 + 1) (x3).toNatClampNeg))).toNatClampNeg)))))))))) : RX4_make zn d post 7 [some (.ref k0), some (.ref k1), some (.int x2), some (.int x3), none, none] [] (zSH zn, I, L) := fun P hw hc => hc _ tX4_make_7 _ _ _ (hc _ tX4_make_8 _ _ _ (hc _ tX4_make_9 _ _ _ (⟨_, _, (shX10 h1), (geX10 h1), rfl, hc _ tX4_make_12 _ _ _ (hc _ tX4_make_13 _ _ _ (⟨_, _, _, (shX10_2 h1), Or.inl ⟨rfl, (geX10_2 h1)⟩, h.1, hc _ tX4_make_14 _ _ _ (⟨fun c1 => hc _ tX4_make_99 _ _ _ (hc _ tX4_make_100 _ _ _ (⟨_, _, (shX4 h0), (geX4 h0), rfl, hc _ tX4_make_103 _ _ _ (hc _ tX4_make_104 _ _ _ (⟨_, _, _, (shX4_4 h0), Or.inl ⟨rfl, (geX4_4 h0)⟩, zvin (by decide), hc _ tX4_make_105 _ _ _ (⟨rfl, rfl, (h.2.1 c1)⟩)⟩))⟩)), fun c2 => hc _ tX4_make_17 _ _ _ (hc _ tX4_make_18 _ _ _ (⟨_, _, (shX10 h1), (geX10 h1), rfl, hc _ tX4_make_21 _ _ _ (hc _ tX4_make_22 _ _ _ (⟨_, _, _, (shX10_0 h1), Or.inl ⟨rfl, (geX10_0 h1)⟩, (h.2.2 c2).1, hc _ tX4_make_23 _ _ _ (⟨Nat.le_of_ble_eq_true rfl, Nat.le_of_ble_eq_true rfl, zl1, zl2, _, ctX11_kindOf (I (k1 + 1) (x3).toNatClampNeg) I L, fun r u k7 => by obtain ⟨rfl, rfl⟩ := k7; exact ⟨zl3, zl4, hc _ tX4_make_26 _ _ _ (hc _ tX4_make_28 _ _ _ (hc _ tX4_make_29 _ _ _ (⟨_, _, (shX10 h1), (geX10 h1), rfl, hc _ tX4_make_32 _ _ _ (hc _ tX4_make_33 _ _ _ (⟨_, _, _, (shX10_0 h1), Or.inl ⟨rfl, (geX10_0 h1)⟩, (h.2.2 c2).1, hc _ tX4_make_34 _ _ _ (⟨Nat.le_of_ble_eq_true rfl, Nat.le_of_ble_eq_true rfl, zl1, zl2, _, ctX11_slotOf (I (k1 + 1) (x3).toNatClampNeg) I L, fun r u k6 => by obtain ⟨rfl, rfl⟩ := k6; exact ⟨zl3, zl4, hc _ tX4_make_37 _ _ _ (hc _ tX4_make_39 _ _ _ (hc _ tX4_make_40 _ _ _ (⟨_, _, (shX4 h0), (geX4 h0), rfl, hc _ tX4_make_43 _ _ _ (hc _ tX4_make_45 _ _ _ (hc _ tX4_make_47 _ _ _ (hc _ tX4_make_49 _ _ _ (⟨fun c3 => hc _ tX4_make_62 _ _ _ (hc _ tX4_make_64 _ _ _ (hc _ tX4_make_65 _ _ _ (⟨_, _, (shX4 h0), (geX4 h0), rfl, hc _ tX4_make_68 _ _ _ (hc _ tX4_make_70 _ _ _ (⟨_, _, _, (shX4_4 h0), Or.inl ⟨rfl, (geX4_4 h0)⟩, ((h.2.2 c2).2.1 c3).1, hc _ tX4_make_71 _ _ _ (hc _ tX4_make_72 _ _ _ (⟨_, _, (shX4 h0), (geX4 h0), rfl, hc _ tX4_make_75 _ _ _ (hc _ tX4_make_77 _ _ _ (hc _ tX4_make_78 _ _ _ (hc _ tX4_make_79 _ _ _ (⟨_, _, _, (shX4_4 h0), Or.inl ⟨rfl, (geX4_4 h0)⟩, ((h.2.2 c2).2.1 c3).2.1, hc _ tX4_make_80 _ _ _ (hc _ tX4_make_81 _ _ _ (⟨_, _, (shX4 h0), (geX4 h0), rfl, hc _ tX4_make_84 _ _ _ (hc _ tX4_make_86 _ _ _ (hc _ tX4_make_87 _ _ _ (hc _ tX4_make_88 _ _ _ (⟨_, _, _, (shX4_4 h0), Or.inl ⟨rfl, (geX4_4 h0)⟩, ((h.2.2 c2).2.1 c3).2.2.1, hc _ tX4_make_89 _ _ _ (⟨Nat.le_of_ble_eq_true rfl, Nat.le_of_ble_eq_true rfl, zl1, zl2, _, ctX4_gateOf (fX11_kindOf (I (k1 + 1) (x3).toNatClampNeg)) (L (k0 + 5) ((fX11_slotOf (I (k1 + 1) (x3).toNatClampNeg))).toNatClampNeg) (L (k0 + 5) (((fX11_slotOf (I (k1 + 1) (x3).toNatClampNeg)) + (1 : Int32))).toNatClampNeg) (L (k0 + 5) (((fX11_slotOf (I (k1 + 1) (x3).toNatClampNeg)) + (2 : Int32))).toNatClampNeg) I L, fun r u k5 => by obtain ⟨rfl, rfl⟩ := k5; exact ⟨zl3, zl4, hc _ tX4_make_92 _ _ _ (⟨_, _, (shX4_4 h0), (geX4_4 h0), ((h.2.2 c2).2.1 c3).1, hc _ tX4_make_93 _ _ _ (hc _ tX4_make_96 _ _ _ (hw _ _ _ _ _ (zwk_s (zwk_s (zwk_s (zwk_s (zwk_n (zwk_n zwk_nil)))))) (((h.2.2 c2).2.1 c3).2.2.2 P hw hc)))⟩)⟩⟩)⟩))))⟩))⟩))))⟩))⟩))⟩))), fun c4 => hc _ tX4_make_52 _ _ _ (hc _ tX4_make_53 _ _ _ (⟨_, _, (shX4 h0), (geX4 h0), rfl, hc _ tX4_make_56 _ _ _ (hc _ tX4_make_58 _ _ _ (⟨_, _, _, (shX4_0 h0), Or.inl ⟨rfl, (geX4_0 h0)⟩, ((h.2.2 c2).2.2 c4).1, hc _ tX4_make_59 _ _ _ (hc _ tX4_make_92 _ _ _ (⟨_, _, (shX4_4 h0), (geX4_4 h0), ((h.2.2 c2).2.2 c4).2.1, hc _ tX4_make_93 _ _ _ (hc _ tX4_make_96 _ _ _ (hw _ _ _ _ _ (zwk_s (zwk_s (zwk_s (zwk_s (zwk_n (zwk_n zwk_nil)))))) (((h.2.2 c2).2.2 c4).2.2 P hw hc)))⟩))⟩))⟩))⟩))))⟩)))⟩⟩)⟩))⟩)))⟩⟩)⟩))⟩))⟩)⟩))⟩)))
theorem ctX4_make {zn d : Nat} (k0 : Nat) (k1 : Nat) (x2 : Int32) (I : Nat → Nat → Int32) (L : Nat → Nat → Int64) (ks : List Nat) (f : Nat) (h0 : isX4 k0) (h1 : isX10 k1) (q0 : lnC I k1 (tn x2) ks f) (q1 : wfl ks) (q2 : zs x2 18) : zcal zty zcd false (d + 2) 37 [.ref k0, .ref k1, .int x2] (zSH zn, I, L) 0 0 (fun r u => ∃ (M : Nat → Int64), r = some (.long (ev opL (L (k0 + 1)) 0 ks)) ∧ u = (zSH zn, I, (zrL L (k0 + 5) M))) := by
  obtain ⟨n, hn, rfl⟩ := q2
  have tnn : tn (nI n) = n := tn_nI (by omega)
  have tnn2 : (nI n).toNatClampNeg = n := tnn
  rw [tnn] at q0
  obtain ⟨l1, l2, l3, l4⟩ := q0
  have hv : vp_in (nI n) 19 := vin_nI (by omega) (by omega)
  refine eX4_make k0 k1 _ I L h0 h1 (gX4_make_0 k0 k1 _ I L h0 h1 ⟨hv, ?_⟩)
  rw [tnn2, l2]
  have loop : ∀ (m i : Nat), i + m = ks.length → RX4_make zn d (fun r u => ∃ (M : Nat → Int64), r = some (.long (ev opL (L (k0 + 1)) 0 ks)) ∧ u = (zSH zn, I, zrL L (k0 + 5) M)) 7 [some (.ref k0), some (.ref k1), some (.int (nI n)), some (.int (nI (f + i))), none, none] [] (zSH zn, I, zrL L (k0 + 5) (rpn opL (L (k0 + 1)) (0, L (k0 + 5)) (ks.take i)).2) := by
    intro m
    induction m with
    | zero =>
      intro i hi
      refine gX4_make_7 k0 k1 _ _ I _ h0 h1 ⟨hv, fun _ => ⟨_, ?_, rfl⟩, fun hc => absurd ?_ hc⟩
      · rw [zrL_s, List.take_of_length_le (by omega), ev_any opL_eq q1 _ 0]
      · rw [tnn2, l3, nI_leI (by omega) (by omega)]; omega
    | succ m ih =>
      intro i hi
      have hil : i < ks.length := by omega
      obtain ⟨x, hx⟩ : ∃ x, ks[i]? = some x := ⟨_, List.getElem?_eq_getElem hil⟩
      obtain ⟨x1, x2, x3⟩ := okd_at q1.1 hx
      have e0 : (nI (f + i)).toNatClampNeg = f + i := nI_clamp (by omega)
      have e1 := l4 i x hx
      obtain ⟨e2, e3⟩ := tok_k q1.1 hx
      have e4 : (nI (depd 0 (ks.take i) - ar x)).toNatClampNeg = depd 0 (ks.take i) - ar x := nI_clamp (by omega)
      have hd : (rpn opL (L (k0 + 1)) (0, L (k0 + 5)) (ks.take i)).1 = depd 0 (ks.take i) := rpn_dep _ _ _ _
      refine gX4_make_7 k0 k1 _ _ I _ h0 h1 ⟨hv, fun hc => absurd hc ?_, fun _ => ⟨vin_nI (by omega) (by omega), ?_⟩⟩
      · rw [tnn2, l3, nI_leI (by omega) (by omega)]; omega
      · have e8 : nI (f + i) + 1 = nI (f + (i + 1)) := nI_1 _
        rw [e0, e1, e2, e3, e4, e8]
        have hih := ih (i + 1) (by omega)
        rw [rpn_succ hx] at hih
        have e5 : (nI (depd 0 (ks.take i) - ar x) + 1).toNatClampNeg = depd 0 (ks.take i) - ar x + 1 := by rw [nI_1]; exact nI_clamp (by omega)
        have e6 : (nI (depd 0 (ks.take i) - ar x) + 2).toNatClampNeg = depd 0 (ks.take i) - ar x + 2 := by rw [nl 2, nI_add]; exact nI_clamp (by omega)
        refine ⟨fun hc => ⟨vin_nI (by omega) (by omega), by rw [nI_1]; exact vin_nI (by omega) (by omega), by rw [nl 2, nI_add]; exact vin_nI (by omega) (by omega), ?_⟩, fun hc => ⟨?_, vin_nI (by omega) (by omega), ?_⟩⟩
        · rw [e5, e6, zl_zrL, zrL_s]
          have hx19 : ¬ x < 19 := by rw [nl 19, nI_leI (by decide) (by omega)] at hc; omega
          unfold stp at hih
          rw [hd, if_neg hx19] at hih
          exact hih
        · have hx19 : x < 19 := by rw [nl 19, nI_leI (by decide) (by omega)] at hc; omega
          exact vin_nI hx19 (by omega)
        · have hx19 : x < 19 := by rw [nl 19, nI_leI (by decide) (by omega)] at hc; omega
          have e7 : (nI x).toNatClampNeg = x := nI_clamp (by omega)
          rw [zl_zrL, e7, zrL_n (by omega)]
          unfold stp at hih
          rw [hd, if_pos hx19] at hih
          exact hih
  have h00 := loop ks.length 0 (by omega)
  rw [Nat.add_zero] at h00
  have e9 : (rpn opL (L (k0 + 1)) (0, L (k0 + 5)) (ks.take 0)).2 = L (k0 + 5) := rfl
  rw [e9, zrL_self] at h00
  exact h00

