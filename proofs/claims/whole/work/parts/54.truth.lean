/-! one bit: what a name is in a ROW -/
noncomputable def tb (V : zVw) (q : Option (Nat × Int32)) (x n : Nat) : Bool := decide (tv V q x n = 1)
theorem tri_1 (b : Bool) : decide (tri b = 1) = b := by cases b <;> rfl
theorem tri_inj {a b : Bool} : tri a = tri b ↔ a = b := by cases a <;> cases b <;> decide
theorem RT_tb {t : Nat} {v : Int64} {V : zVw} {q : Option (Nat × Int32)} {x n : Nat} (h : RT t v (tv V q x n)) : tb V q x n = bt v t := by
  unfold RT at h
  unfold tb
  rw [h, tri_1]
def R01 (a b : Int32) : Prop := a = b ∧ ∃ c : Bool, a = tri c
theorem R01_op : opRel R01 opT opT := by
  intro k a b c a' b' c' h1 h2 ha hb hc
  have tv0 : ∀ c : Bool, RT 0 (if c then 1 else 0) (tri c) := by intro c; unfold RT; cases c <;> decide
  have fix : ∀ (j : Nat) (a a' : Int32), (j ≤ ar k → R01 a a') → ∃ v : Int64, ∃ y, (j ≤ ar k → a = y ∧ a' = y ∧ RT 0 v y) := by
    intro j a a' h
    by_cases hj : j ≤ ar k
    · obtain ⟨e, c, ec⟩ := h hj
      exact ⟨_, tri c, fun _ => ⟨ec, e ▸ ec, tv0 c⟩⟩
    · exact ⟨0, 0, fun z => absurd z hj⟩
  obtain ⟨va, ya, Ha⟩ := fix 1 a a' ha
  obtain ⟨vb, yb, Hb⟩ := fix 2 b b' hb
  obtain ⟨vc, yc, Hc⟩ := fix 3 c c' hc
  have h := RT_op (t := 0) (by decide) k va vb vc a b c h1 h2 (fun z => by obtain ⟨e, _, r⟩ := Ha z; rw [e]; exact r) (fun z => by obtain ⟨e, _, r⟩ := Hb z; rw [e]; exact r) (fun z => by obtain ⟨e, _, r⟩ := Hc z; rw [e]; exact r)
  refine ⟨opT_eq k a b c a' b' c' h1 h2 (fun z => (ha z).1) (fun z => (hb z).1) (fun z => (hc z).1), _, h⟩
theorem bit_01 (x j : Nat) (hx : x < 2 ^ 31) (hj : j < 32) : ∃ c : Bool, bit (nI x) j = tri c := ⟨_, bit_n hx hj⟩
def q01 (q : Option (Nat × Int32)) : Prop := match q with
  | none => True
  | some (_, v) => ∃ c : Bool, v = tri c
theorem pq_01 {q : Option (Nat × Int32)} (hq : q01 q) {w : Nat} {a : Int32} (h : ∃ c : Bool, a = tri c) : ∃ c : Bool, pq q w a = tri c := by
  cases q with
  | none => exact h
  | some p =>
    obtain ⟨nm, v⟩ := p
    unfold pq
    simp only
    split
    · exact hq
    · exact h
theorem rowS_01 {V : zVw} (hV : okV V) {os : List Nat} (ht : topw V os) {q : Option (Nat × Int32)} (hq : q01 q) {x : Nat} (hx : x < 2 ^ 31) {env : Nat → Int32} (h : rowS V q x env) : ∀ n, n < 19 → R01 (env n) (env n) := by
  refine sol_rel R01_op hV ht h.2.2 h.2.2 (fun w a b _ _ hab => ?_) ⟨rfl, false, rfl⟩ (fun n hn hw => ?_)
  · obtain ⟨e, c, ec⟩ := hab
    exact ⟨by rw [e], pq_01 hq ⟨c, ec⟩⟩
  · refine ⟨rfl, ?_⟩
    by_cases h6 : n < 6
    · rw [h.1 n h6]; exact pq_01 hq (bit_01 x n hx (by omega))
    · rw [h.2.1 n (by omega) hn]; exact pq_01 hq (bit_01 x (n - 9) hx (by omega))
theorem tv_tri {V : zVw} (hV : okV V) {os : List Nat} (ht : topw V os) {q : Option (Nat × Int32)} (hq : q01 q) {x : Nat} (hx : x < 2 ^ 31) {env : Nat → Int32} (h : rowS V q x env) {n : Nat} (hn : n < 19) : tv V q x n = tri (tb V q x n) := by
  have hall := rowS_01 hV ht hq hx h
  have : ∃ c : Bool, tv V q x n = tri c := by
    rw [tv_eq hV ht h hn]
    unfold shv
    cases hv : V n with
    | none => exact (hall n hn).2
    | some ks =>
      simp only
      split
      · exact (ev_rel R01_op (hV n ks hv).2.2 (fun k _ hk => hall k hk) 0 0).2
      · exact (hall n hn).2
  obtain ⟨c, e⟩ := this
  unfold tb
  rw [e, tri_1]
/-- lanes in which nothing is STUCK -/
def nSt (L : Nat → Nat → Int64) (k : Nat) : Prop := ∀ n, n < 19 → L (k + 3) n = 0 ∧ L (k + 4) n = 0
def inpL (L : Nat → Nat → Int64) : Prop := ∀ n, n < 6 → L 1 n = inL n
theorem stL {L K : Nat → Nat → Int64} {k0 : Nat} {V : zVw} {os : List Nat} {s : Nat} (hV : okV V) (hto : topw V os) (hst : nSt L k0) (hL : inpL L) (hs : s < 16) (h : evL L K k0 V (bSt L (nI s))) : ∀ t, t < 64 → ∀ n, n < 19 → tb V none (64 * s + t) n = bt (K (k0 + 2) n) t := fun t ht n hn =>
  RT_tb (lane_tv ht hV hto h (hb_state hL hs ht) (stk_none ht hst) hn (Or.inr rfl))
theorem rwL {L K : Nat → Nat → Int64} {k0 : Nat} {V : zVw} {os : List Nat} {x : Nat} (hV : okV V) (hto : topw V os) (hst : nSt L k0) (hx : x < 2 ^ 31) (h : evL L K k0 V (bRw (nI x))) : ∀ n, n < 19 → tb V none x n = bt (K (k0 + 2) n) 0 := fun n hn =>
  RT_tb (lane_tv (by decide) hV hto h (hb_row hx (by decide)) (stk_none (by decide) hst) hn (Or.inr rfl))
theorem toldB {I J : Nat → Nat → Int32} {V : zVw} (hV : okV V) {os : List Nat} (hto : topw V os) {x : Nat} (hx : x < 2 ^ 31) (h : rRow I J V (nI x)) (hq : I 115 18 = -4) {n : Nat} (hn : n < 19) : tolR J V n = tri (tb V none x n) := by
  rw [told_tv hV hto h hq hn]
  exact tv_tri hV hto (q := none) trivial hx (ref_row h (pq_none hq)) hn
theorem evL_st {L K : Nat → Nat → Int64} {k0 : Nat} {V : zVw} {b : Nat → Int64} (h : evL L K k0 V b) : (nSt L k0 → nSt K k0) := fun hs n hn => by
  rw [h.1 (k0 + 3) (by simp), h.1 (k0 + 4) (by simp)]; exact hs n hn
theorem lo_tri (v : Int64) : (v &&& (1 : Int64)).toInt32 = tri (bt v 0) := by
  have e : ∀ b : Bool, bt v 0 = b → v &&& 1 = if b then 1 else 0 := by
    intro b hb
    apply Int64.toBitVec_inj.1
    apply BitVec.eq_of_getLsbD_eq
    intro i hi
    rw [Int64.toBitVec_and, BitVec.getLsbD_and]
    unfold bt at hb
    have h1 : ∀ i, i < 64 → (1 : Int64).toBitVec.getLsbD i = decide (i = 0) := by decide +kernel
    have h0 : ∀ i, i < 64 → (0 : Int64).toBitVec.getLsbD i = false := by decide +kernel
    rw [h1 i hi]
    by_cases hi0 : i = 0
    · subst hi0
      rw [hb]
      cases b <;> decide
    · rw [decide_eq_false hi0]
      cases b
      · rw [Bool.and_false, if_neg (by decide), h0 i hi]
      · rw [Bool.and_false, if_pos rfl, h1 i hi, decide_eq_false hi0]
  rw [e _ rfl]
  cases bt v 0 <;> decide
noncomputable def truS (V : Nat → zVw) (x y z : Int32) : Int32 := if (x = 0 ∨ x = 1) ∧ (0 ≤ y ∧ y < 19) ∧ 0 ≤ z ∧ z < 1024 then tri (tb (V (tn x)) none (tn z) (tn y)) else -1
theorem cEv_tw {I : Nat → Nat → Int32} {k : Nat} {V : zVw} {os : List Nat} (h : cEv I k V os) : topw V os := topc_w h.2.2.1
theorem rEv_tw {I : Nat → Nat → Int32} {k : Nat} {V : zVw} {os : List Nat} (h : rEv I k V os) : topw V os := topr_w h.2.2.1
abbrev RX11_truth (zn d : Nat) (post : zP) : zK := zRun (zcal zty zcd false (d + 4)) kX11_truth (zLM zn) post
theorem eX11_truth {zn d : Nat} {post : zP} (x1 : Int32) (x2 : Int32) (x3 : Int32) (I : Nat → Nat → Int32) (L : Nat → Nat → Int64) (h : RX11_truth zn d post 0 [some (.ref 5), some (.int x1), some (.int x2), some (.int x3)] [] (zSH zn, I, L)) : zcal zty zcd false (d + 5) 99 [.ref 5, .int x1, .int x2, .int x3] (zSH zn, I, L) 0 0 post := zcal_of (d := d + 4) zmt99 zmc99 rfl (Nat.le_of_ble_eq_true rfl) h
theorem gX11_truth_0 {zn d : Nat} {post : zP} (x1 : Int32) (x2 : Int32) (x3 : Int32) (I : Nat → Nat → Int32) (L : Nat → Nat → Int64) (h : (¬ ((x1 = 0 ∨ x1 = 1)) → post (some (.int (-1 : Int32))) (zSH zn, I, L)) ∧ ((x1 = 0 ∨ x1 = 1) → (¬ ((0 ≤ x2 ∧ x2 < (19 : Int32))) → post (some (.int (-1 : Int32))) (zSH zn, I, L)) ∧ ((0 ≤ x2 ∧ x2 < (19 : Int32)) → ((0 ≤ x3 ∧ x3 < (1024 : Int32)) → vp_in x1 2 ∧ ((∃ (V8 : zVw) (os9 : List Nat), (cEv I (12 + 7 * (x1).toNatClampNeg) V8 os9) ∧ (∀ (K7 : Nat → Nat → Int64), (evL L K7 37 V8 (bRw x3)) → vp_in x2 19 ∧ (post (some (.int (((K7 39 (x2).toNatClampNeg) &&& (1 : Int64))).toInt32)) (zSH zn, I, K7)))))) ∧ (¬ ((0 ≤ x3 ∧ x3 < (1024 : Int32))) → post (some (.int (-1 : Int32))) (zSH zn, I, L))))) : RX11_truth zn d post 0 [some (.ref 5), some (.int x1), some (.int x2), some (.int x3)] [] (zSH zn, I, L) := fun P hw hc => hc _ tX11_truth_0 _ _ _ (hc _ tX11_truth_1 _ _ _ (⟨Nat.le_of_ble_eq_true rfl, Nat.le_of_ble_eq_true rfl, zl1, zl2, _, ctX11_isView x1 I L, fun r u k15 => by obtain ⟨rfl, rfl⟩ := k15; exact ⟨zl3, zl4, hc _ tX11_truth_4 _ _ _ (⟨fun c1 => hc _ tX11_truth_26 _ _ _ (hc _ tX11_truth_27 _ _ _ (⟨nofun, rfl, rfl, (h.1 (zb_e c1))⟩)), fun c2 => hc _ tX11_truth_7 _ _ _ (hc _ tX11_truth_8 _ _ _ (hc _ tX11_truth_10 _ _ _ (⟨Nat.le_of_ble_eq_true rfl, Nat.le_of_ble_eq_true rfl, zl1, zl2, _, ctX11_isBelow x2 (19 : Int32) I L, fun r u k14 => by obtain ⟨rfl, rfl⟩ := k14; exact ⟨zl3, zl4, hc _ tX11_truth_13 _ _ _ (⟨fun c3 => hc _ tX11_truth_26 _ _ _ (hc _ tX11_truth_27 _ _ _ (⟨nofun, rfl, rfl, ((h.2 (zb_n c2)).1 (zb_e c3))⟩)), fun c4 => hc _ tX11_truth_16 _ _ _ (hc _ tX11_truth_17 _ _ _ (hc _ tX11_truth_20 _ _ _ (⟨Nat.le_of_ble_eq_true rfl, Nat.le_of_ble_eq_true rfl, zl1, zl2, _, ctX11_isBelow x3 (1024 : Int32) I L, fun r u k13 => by obtain ⟨rfl, rfl⟩ := k13; exact ⟨zl3, zl4, hc _ tX11_truth_23 _ _ _ (⟨fun c5 => hc _ tX11_truth_28 _ _ _ (hc _ tX11_truth_29 _ _ _ (⟨_, _, sh5, (by decide), rfl, hc _ tX11_truth_32 _ _ _ (hc _ tX11_truth_33 _ _ _ (⟨_, _, sh5, (by decide), rfl, hc _ tX11_truth_36 _ _ _ (hc _ tX11_truth_37 _ _ _ (⟨_, _, _, sh11, (by decide), by decide, (((h.2 (zb_n c2)).2 (zb_n c4)).1 (zb_n c5)).1, ae11 (((h.2 (zb_n c2)).2 (zb_n c4)).1 (zb_n c5)).1, hc _ tX11_truth_38 _ _ _ ((by obtain ⟨V8, os9, hg10⟩ := (((h.2 (zb_n c2)).2 (zb_n c4)).1 (zb_n c5)).2; exact hc _ tX11_truth_39 _ _ _ (⟨⟨_, _, _, rfl, (by decide), sh37⟩, ⟨Nat.le_of_ble_eq_true rfl, Nat.le_of_ble_eq_true rfl, zl1, zl2, _, ctX4_runRow 37 (12 + 7 * (x1).toNatClampNeg) x3 I L V8 os9 isX4_37 (ar11 (((h.2 (zb_n c2)).2 (zb_n c4)).1 (zb_n c5)).1) hg10.1, fun r u k12 => by obtain ⟨K7, rfl, rfl, p11⟩ := k12; exact ⟨zl3, zl4, hc _ tX11_truth_42 _ _ _ (hc _ tX11_truth_43 _ _ _ (⟨_, _, sh5, (by decide), rfl, hc _ tX11_truth_46 _ _ _ (⟨_, _, sh37, (by decide), rfl, hc _ tX11_truth_49 _ _ _ (hc _ tX11_truth_50 _ _ _ (⟨_, _, _, sh39, Or.inl ⟨rfl, (by decide)⟩, (hg10.2 K7 p11).1, hc _ tX11_truth_51 _ _ _ (hc _ tX11_truth_52 _ _ _ (hc _ tX11_truth_53 _ _ _ (hc _ tX11_truth_54 _ _ _ (⟨nofun, rfl, rfl, (hg10.2 K7 p11).2⟩))))⟩))⟩)⟩))⟩⟩⟩)))⟩))⟩))⟩)), fun c6 => hc _ tX11_truth_26 _ _ _ (hc _ tX11_truth_27 _ _ _ (⟨nofun, rfl, rfl, (((h.2 (zb_n c2)).2 (zb_n c4)).2 (zb_e c6))⟩))⟩)⟩⟩)))⟩)⟩⟩)))⟩)⟩⟩))
theorem ctX11_truth {zn d : Nat} (x1 : Int32) (x2 : Int32) (x3 : Int32) (I : Nat → Nat → Int32) (L : Nat → Nat → Int64) (V : Nat → zVw) (os : Nat → List Nat) (q0 : ∀ w, w < 2 → cEv I (12 + 7 * w) (V w) (os w)) (q1 : nSt L 37) : zcal zty zcd false (d + 5) 99 [.ref 5, .int x1, .int x2, .int x3] (zSH zn, I, L) 0 0 (fun r u => ∃ (K : Nat → Nat → Int64), r = some (.int (truS V x1 x2 x3)) ∧ u = (zSH zn, I, K) ∧ (fr [38, 39, 42] L K)) := by
  refine eX11_truth _ _ _ I L (gX11_truth_0 _ _ _ I L ⟨fun h => ⟨L, by rw [truS, if_neg (fun z => h z.1)], rfl, fr_rf⟩, fun h => ⟨fun h2 => ⟨L, by rw [truS, if_neg (fun z => h2 z.2.1)], rfl, fr_rf⟩, fun h2 => ⟨fun h3 => ?_, fun h3 => ⟨L, by rw [truS, if_neg (fun z => h3 z.2.2)], rfl, fr_rf⟩⟩⟩⟩)
  obtain ⟨w, hw, ew, tw', tw, hv⟩ := x01 h
  obtain ⟨n, rfl, -, n19, tnn, tnn'⟩ := nm_of (a := 0) (b := 19) (by decide) (by decide) h2
  obtain ⟨x, rfl, -, hx, tx, tx'⟩ := nm_of (a := 0) (b := 1024) (by decide) (by decide) h3
  have hc := q0 w hw
  rw [tw', tnn']
  refine ⟨hv, V w, os w, hc, fun K hK => ⟨vin_nI n19 (by decide), K, ?_, rfl, hK.1⟩⟩
  rw [truS, if_pos ⟨h, h2, h3⟩, tw, tnn, tx, lo_tri, rwL hc.1 (cEv_tw hc) q1 (by omega) hK n n19]
abbrev RX12_truth (zn d : Nat) (post : zP) : zK := zRun (zcal zty zcd false (d + 5)) kX12_truth (zLM zn) post
theorem eX12_truth {zn d : Nat} {post : zP} (x1 : Int32) (x2 : Int32) (x3 : Int32) (I : Nat → Nat → Int32) (L : Nat → Nat → Int64) (h : RX12_truth zn d post 0 [some (.ref 115), some (.int x1), some (.int x2), some (.int x3)] [] (zSH zn, I, L)) : zcal zty zcd false (d + 6) 167 [.ref 115, .int x1, .int x2, .int x3] (zSH zn, I, L) 0 0 post := zcal_of (d := d + 5) zmt167 zmc167 rfl (Nat.le_of_ble_eq_true rfl) h
theorem gX12_truth_0 {zn d : Nat} {post : zP} (x1 : Int32) (x2 : Int32) (x3 : Int32) (I : Nat → Nat → Int32) (L : Nat → Nat → Int64) (h : (¬ ((0 : Int32) ≤ x1 ∧ x1 ≤ (1 : Int32)) → post (some (.int (-1 : Int32))) (zSH zn, I, L)) ∧ ((0 : Int32) ≤ x1 ∧ x1 ≤ (1 : Int32) → (¬ ((0 : Int32) ≤ x2 ∧ x2 ≤ (18 : Int32)) → post (some (.int (-1 : Int32))) (zSH zn, I, L)) ∧ ((0 : Int32) ≤ x2 ∧ x2 ≤ (18 : Int32) → ((0 : Int32) ≤ x3 ∧ x3 ≤ (1023 : Int32) → (∃ (V8 : zVw) (os9 : List Nat), (zs x1 6) ∧ (rEv I (tn x1) V8 os9) ∧ (∀ (J7 : Nat → Nat → Int32), (rRow I J7 V8 x3) → (∃ (V13 : zVw), (okV V13) ∧ (rLn J7 (tn x1) V13) ∧ (zs x1 6) ∧ (zs x2 18) ∧ (∀ (M12 : Nat → Int32), post (some (.int (tolR J7 V13 (tn x2)))) (zSH zn, (zrI J7 131 M12), L)))))) ∧ (¬ ((0 : Int32) ≤ x3 ∧ x3 ≤ (1023 : Int32)) → post (some (.int (-1 : Int32))) (zSH zn, I, L))))) : RX12_truth zn d post 0 [some (.ref 115), some (.int x1), some (.int x2), some (.int x3)] [] (zSH zn, I, L) := fun P hw hc => hc _ tX12_truth_0 _ _ _ (hc _ tX12_truth_1 _ _ _ (hc _ tX12_truth_2 _ _ _ (hc _ tX12_truth_3 _ _ _ (⟨Nat.le_of_ble_eq_true rfl, Nat.le_of_ble_eq_true rfl, zl1, zl2, _, ctX12_in x1 (0 : Int32) (1 : Int32) I L, fun r u k19 => by obtain ⟨rfl, rfl⟩ := k19; exact ⟨zl3, zl4, hc _ tX12_truth_6 _ _ _ (⟨fun c1 => hc _ tX12_truth_30 _ _ _ (hc _ tX12_truth_31 _ _ _ (⟨nofun, rfl, rfl, (h.1 (zb_e c1))⟩)), fun c2 => hc _ tX12_truth_9 _ _ _ (hc _ tX12_truth_10 _ _ _ (hc _ tX12_truth_11 _ _ _ (hc _ tX12_truth_13 _ _ _ (⟨Nat.le_of_ble_eq_true rfl, Nat.le_of_ble_eq_true rfl, zl1, zl2, _, ctX12_in x2 (0 : Int32) (18 : Int32) I L, fun r u k18 => by obtain ⟨rfl, rfl⟩ := k18; exact ⟨zl3, zl4, hc _ tX12_truth_16 _ _ _ (⟨fun c3 => hc _ tX12_truth_30 _ _ _ (hc _ tX12_truth_31 _ _ _ (⟨nofun, rfl, rfl, ((h.2 (zb_n c2)).1 (zb_e c3))⟩)), fun c4 => hc _ tX12_truth_19 _ _ _ (hc _ tX12_truth_20 _ _ _ (hc _ tX12_truth_21 _ _ _ (hc _ tX12_truth_24 _ _ _ (⟨Nat.le_of_ble_eq_true rfl, Nat.le_of_ble_eq_true rfl, zl1, zl2, _, ctX12_in x3 (0 : Int32) (1023 : Int32) I L, fun r u k17 => by obtain ⟨rfl, rfl⟩ := k17; exact ⟨zl3, zl4, hc _ tX12_truth_27 _ _ _ (⟨fun c5 => hc _ tX12_truth_32 _ _ _ (hc _ tX12_truth_33 _ _ _ (hc _ tX12_truth_34 _ _ _ ((by obtain ⟨V8, os9, hg10⟩ := (((h.2 (zb_n c2)).2 (zb_n c4)).1 (zb_n c5)); exact hc _ tX12_truth_35 _ _ _ (⟨⟨_, _, _, rfl, (by decide), sh115⟩, ⟨Nat.le_of_ble_eq_true rfl, Nat.le_of_ble_eq_true rfl, zl1, zl2, _, ctX12_layRow x1 x3 I L V8 os9 hg10.1 hg10.2.1, fun r u k16 => by obtain ⟨J7, rfl, rfl, p11⟩ := k16; exact ⟨zl3, zl4, hc _ tX12_truth_38 _ _ _ (hc _ tX12_truth_39 _ _ _ (hc _ tX12_truth_40 _ _ _ ((by obtain ⟨V13, hg14⟩ := (hg10.2.2 J7 p11); exact hc _ tX12_truth_41 _ _ _ (⟨⟨_, _, _, rfl, (by decide), sh115⟩, ⟨Nat.le_of_ble_eq_true rfl, Nat.le_of_ble_eq_true rfl, zl1, zl2, _, ctX12_told x1 x2 J7 L V13 hg14.1 hg14.2.1 hg14.2.2.1 hg14.2.2.2.1, fun r u k15 => by obtain ⟨M12, rfl, rfl⟩ := k15; exact ⟨zl3, zl4, hc _ tX12_truth_44 _ _ _ (⟨nofun, rfl, rfl, (hg14.2.2.2.2 M12)⟩)⟩⟩⟩)))))⟩⟩⟩))))), fun c6 => hc _ tX12_truth_30 _ _ _ (hc _ tX12_truth_31 _ _ _ (⟨nofun, rfl, rfl, (((h.2 (zb_n c2)).2 (zb_n c4)).2 (zb_e c6))⟩))⟩)⟩⟩))))⟩)⟩⟩))))⟩)⟩⟩))))
theorem zrI_fr {I J : Nat → Nat → Int32} {S : List Nat} {k : Nat} {M : Nat → Int32} (h : fr S I J) (hk : k ∈ S) : fr S I (zrI J k M) := fun j hj => by
  have hjk : j ≠ k := fun z => hj (by rw [z]; exact hk)
  rw [zrI_n hjk]; exact h j hj
theorem ctX12_truth {zn d : Nat} (x1 : Int32) (x2 : Int32) (x3 : Int32) (I : Nat → Nat → Int32) (L : Nat → Nat → Int64) (V : Nat → zVw) (ps : Nat → List Nat) (q0 : ∀ w, w < 2 → rEv I w (V w) (ps w)) (q1 : I 115 18 = -4) : zcal zty zcd false (d + 6) 167 [.ref 115, .int x1, .int x2, .int x3] (zSH zn, I, L) 0 0 (fun r u => ∃ (J : Nat → Nat → Int32), r = some (.int (truS V x1 x2 x3)) ∧ u = (zSH zn, J, L) ∧ (fr [130, 131] I J)) := by
  have e19' : ∀ x : Int32, (0 ≤ x ∧ x ≤ 18) ↔ (0 ≤ x ∧ x < 19) := fun x => le256 (b := 18) (by decide)
  have e10 : ∀ x : Int32, (0 ≤ x ∧ x ≤ 1023) ↔ (0 ≤ x ∧ x < 1024) := fun x => le256 (b := 1023) (by decide)
  refine eX12_truth _ _ _ I L (gX12_truth_0 _ _ _ I L ⟨fun h => ⟨I, by rw [truS, if_neg (fun z => h (in01.mpr z.1))], rfl, fr_rf⟩, fun h => ⟨fun h2 => ⟨I, by rw [truS, if_neg (fun z => h2 ((e19' _).mpr z.2.1))], rfl, fr_rf⟩, fun h2 => ⟨fun h3 => ?_, fun h3 => ⟨I, by rw [truS, if_neg (fun z => h3 ((e10 _).mpr z.2.2))], rfl, fr_rf⟩⟩⟩⟩)
  obtain ⟨w, hw, ew, tw', tw, hv⟩ := x01 (in01.mp h)
  have h2' := (e19' _).mp h2
  have h3' := (e10 _).mp h3
  obtain ⟨n, rfl, -, n19, tnn, tnn'⟩ := nm_of (a := 0) (b := 19) (by decide) (by decide) h2'
  obtain ⟨x, rfl, -, hx, tx, tx'⟩ := nm_of (a := 0) (b := 1024) (by decide) (by decide) h3'
  have hc := q0 w hw
  have zx : zs x1 6 := ⟨w, by omega, ew⟩
  rw [tw, tnn]
  refine ⟨V w, ps w, zx, hc, fun J hJ => ⟨V w, hc.1, (rEv_fr hc hJ.1).2.1, zx, ⟨n, by omega, rfl⟩, fun M => ⟨_, ?_, rfl, zrI_fr hJ.1 (by decide)⟩⟩⟩
  rw [truS, if_pos ⟨in01.mp h, h2', h3'⟩, tw, tnn, tx, toldB hc.1 (rEv_tw hc) (by omega) hJ q1 n19]
noncomputable def onN (V : zVw) (n m : Nat) : Nat := fb_sm (fun x => if tb V none x n = true then 1 else 0) m
noncomputable def oneS (V : Nat → zVw) (x y : Int32) : Int32 := if (x = 0 ∨ x = 1) ∧ 0 ≤ y ∧ y < 19 then nI (onN (V (tn x)) (tn y) 1024) else -1
abbrev RX11_ones (zn d : Nat) (post : zP) : zK := zRun (zcal zty zcd false (d + 4)) kX11_ones (zLM zn) post
theorem eX11_ones {zn d : Nat} {post : zP} (x1 : Int32) (x2 : Int32) (I : Nat → Nat → Int32) (L : Nat → Nat → Int64) (h : RX11_ones zn d post 0 [some (.ref 5), some (.int x1), some (.int x2), none, none] [] (zSH zn, I, L)) : zcal zty zcd false (d + 5) 100 [.ref 5, .int x1, .int x2] (zSH zn, I, L) 0 0 post := zcal_of (d := d + 4) zmt100 zmc100 rfl (Nat.le_of_ble_eq_true rfl) h
theorem gX11_ones_0 {zn d : Nat} {post : zP} (x1 : Int32) (x2 : Int32) (I : Nat → Nat → Int32) (L : Nat → Nat → Int64) (h : (¬ ((x1 = 0 ∨ x1 = 1)) → post (some (.int (-1 : Int32))) (zSH zn, I, L)) ∧ ((x1 = 0 ∨ x1 = 1) → ((0 ≤ x2 ∧ x2 < (19 : Int32)) → RX11_ones zn d post 23 [some (.ref 5), some (.int x1), some (.int x2), some (.int (0 : Int32)), some (.int (0 : Int32))] [] (zSH zn, I, L)) ∧ (¬ ((0 ≤ x2 ∧ x2 < (19 : Int32))) → post (some (.int (-1 : Int32))) (zSH zn, I, L)))) : RX11_ones zn d post 0 [some (.ref 5), some (.int x1), some (.int x2), none, none] [] (zSH zn, I, L) := fun P hw hc => hc _ tX11_ones_0 _ _ _ (hc _ tX11_ones_1 _ _ _ (⟨Nat.le_of_ble_eq_true rfl, Nat.le_of_ble_eq_true rfl, zl1, zl2, _, ctX11_isView x1 I L, fun r u k6 => by obtain ⟨rfl, rfl⟩ := k6; exact ⟨zl3, zl4, hc _ tX11_ones_4 _ _ _ (⟨fun c1 => hc _ tX11_ones_16 _ _ _ (hc _ tX11_ones_17 _ _ _ (⟨nofun, rfl, rfl, (h.1 (zb_e c1))⟩)), fun c2 => hc _ tX11_ones_7 _ _ _ (hc _ tX11_ones_8 _ _ _ (hc _ tX11_ones_10 _ _ _ (⟨Nat.le_of_ble_eq_true rfl, Nat.le_of_ble_eq_true rfl, zl1, zl2, _, ctX11_isBelow x2 (19 : Int32) I L, fun r u k5 => by obtain ⟨rfl, rfl⟩ := k5; exact ⟨zl3, zl4, hc _ tX11_ones_13 _ _ _ (⟨fun c3 => hc _ tX11_ones_18 _ _ _ (hc _ tX11_ones_19 _ _ _ (hc _ tX11_ones_20 _ _ _ (hc _ tX11_ones_21 _ _ _ (((h.2 (zb_n c2)).1 (zb_n c3)) P hw hc)))), fun c4 => hc _ tX11_ones_16 _ _ _ (hc _ tX11_ones_17 _ _ _ (⟨nofun, rfl, rfl, ((h.2 (zb_n c2)).2 (zb_e c4))⟩))⟩)⟩⟩)))⟩)⟩⟩))
theorem gX11_ones_23 {zn d : Nat} {post : zP} (x1 : Int32) (x2 : Int32) (x3 : Int32) (x4 : Int32) (I : Nat → Nat → Int32) (L : Nat → Nat → Int64) (h : ((16 : Int32) ≤ x4 → post (some (.int x3)) (zSH zn, I, L)) ∧ (¬ (16 : Int32) ≤ x4 → vp_in x1 2 ∧ ((∃ (V4 : zVw) (os5 : List Nat), (cEv I (12 + 7 * (x1).toNatClampNeg) V4 os5) ∧ (∀ (K3 : Nat → Nat → Int64), (evL L K3 37 V4 (bSt L x4)) → vp_in x2 19 ∧ (RX11_ones zn d post 23 [some (.ref 5), some (.int x1), some (.int x2), some (.int (x3 + (fJ13_bitCount_95d88 (K3 39 (x2).toNatClampNeg)))), some (.int (x4 + (1 : Int32)))] [] (zSH zn, I, K3))))))) : RX11_ones zn d post 23 [some (.ref 5), some (.int x1), some (.int x2), some (.int x3), some (.int x4)] [] (zSH zn, I, L) := fun P hw hc => hc _ tX11_ones_23 _ _ _ (hc _ tX11_ones_25 _ _ _ (hc _ tX11_ones_27 _ _ _ (⟨fun c1 => hc _ tX11_ones_66 _ _ _ (hc _ tX11_ones_67 _ _ _ (⟨nofun, rfl, rfl, (h.1 c1)⟩)), fun c2 => hc _ tX11_ones_30 _ _ _ (hc _ tX11_ones_31 _ _ _ (⟨_, _, sh5, (by decide), rfl, hc _ tX11_ones_34 _ _ _ (hc _ tX11_ones_35 _ _ _ (⟨_, _, sh5, (by decide), rfl, hc _ tX11_ones_38 _ _ _ (hc _ tX11_ones_39 _ _ _ (⟨_, _, _, sh11, (by decide), by decide, (h.2 c2).1, ae11 (h.2 c2).1, hc _ tX11_ones_40 _ _ _ ((by obtain ⟨V4, os5, hg6⟩ := (h.2 c2).2; exact hc _ tX11_ones_42 _ _ _ (⟨⟨_, _, _, rfl, (by decide), sh37⟩, ⟨Nat.le_of_ble_eq_true rfl, Nat.le_of_ble_eq_true rfl, zl1, zl2, _, ctX4_runState 37 (12 + 7 * (x1).toNatClampNeg) x4 I L V4 os5 isX4_37 (ar11 (h.2 c2).1) hg6.1, fun r u k9 => by obtain ⟨K3, rfl, rfl, p7⟩ := k9; exact ⟨zl3, zl4, hc _ tX11_ones_45 _ _ _ (hc _ tX11_ones_46 _ _ _ (hc _ tX11_ones_47 _ _ _ (⟨_, _, sh5, (by decide), rfl, hc _ tX11_ones_50 _ _ _ (⟨_, _, sh37, (by decide), rfl, hc _ tX11_ones_53 _ _ _ (hc _ tX11_ones_54 _ _ _ (⟨_, _, _, sh39, Or.inl ⟨rfl, (by decide)⟩, (hg6.2 K3 p7).1, hc _ tX11_ones_55 _ _ _ (⟨Nat.le_of_ble_eq_true rfl, Nat.le_of_ble_eq_true rfl, zl1, zl2, _, ctJ13_bitCount_95d88 (K3 39 (x2).toNatClampNeg) I K3, fun r u k8 => by obtain ⟨rfl, rfl⟩ := k8; exact ⟨zl3, zl4, hc _ tX11_ones_58 _ _ _ (hc _ tX11_ones_59 _ _ _ (hc _ tX11_ones_60 _ _ _ (hc _ tX11_ones_63 _ _ _ ((hg6.2 K3 p7).2 P hw hc))))⟩⟩)⟩))⟩)⟩)))⟩⟩⟩)))⟩))⟩))⟩))⟩)))
theorem ctX11_ones {zn d : Nat} (x1 : Int32) (x2 : Int32) (I : Nat → Nat → Int32) (L : Nat → Nat → Int64) (V : Nat → zVw) (os : Nat → List Nat) (q0 : ∀ w, w < 2 → cEv I (12 + 7 * w) (V w) (os w)) (q1 : nSt L 37) (q2 : inpL L) : zcal zty zcd false (d + 5) 100 [.ref 5, .int x1, .int x2] (zSH zn, I, L) 0 0 (fun r u => ∃ (K : Nat → Nat → Int64), r = some (.int (oneS V x1 x2)) ∧ u = (zSH zn, I, K) ∧ (fr [38, 39, 42] L K)) := by
  refine eX11_ones _ _ I L (gX11_ones_0 _ _ I L ⟨fun h => ⟨L, by rw [oneS, if_neg (fun z => h z.1)], rfl, fr_rf⟩, fun h => ⟨fun h2 => ?_, fun h2 => ⟨L, by rw [oneS, if_neg (fun z => h2 z.2)], rfl, fr_rf⟩⟩⟩)
  obtain ⟨w, hw, ew, tw', tw, hv⟩ := x01 h
  obtain ⟨n, rfl, -, n19, tnn, tnn'⟩ := nm_of (a := 0) (b := 19) (by decide) (by decide) h2
  have hc := q0 w hw
  have loop : ∀ s K, s ≤ 16 → fr [38, 39, 42] L K → RX11_ones zn d (fun r u => ∃ (K : Nat → Nat → Int64), r = some (.int (oneS V x1 (nI n))) ∧ u = (zSH zn, I, K) ∧ (fr [38, 39, 42] L K)) 23 [some (.ref 5), some (.int x1), some (.int (nI n)), some (.int (nI (onN (V w) n (64 * s)))), some (.int (nI s))] [] (zSH zn, I, K) := by
    refine zup (fun K hK => ?_) (fun s K hs hK ih => ?_)
    · exact gX11_ones_23 _ _ _ _ I K ⟨fun _ => ⟨K, by rw [oneS, if_pos ⟨h, h2⟩, tw, tnn], rfl, hK⟩, fun hc => absurd (by decide) hc⟩
    · refine gX11_ones_23 _ _ _ _ I K ⟨fun hc => absurd hc (by rw [nl 16, nI_leI (by decide) (by omega)]; omega), fun _ => ⟨hv, V w, os w, by rw [tw']; exact hc, fun K2 hK2 => ⟨vin_nI n19 (by decide), ?_⟩⟩⟩
      have hst : nSt K 37 := fun n hn => by rw [hK 40 (by decide), hK 41 (by decide)]; exact q1 n hn
      have hin : inpL K := fun n hn => by rw [hK 1 (by decide)]; exact q2 n hn
      have hl := stL hc.1 (cEv_tw hc) hst hin hs hK2
      rw [tnn', bc_bt, nI_add, nI_1]
      have e : onN (V w) n (64 * (s + 1)) = onN (V w) n (64 * s) + fb_sm (fun t => if bt (K2 39 n) t = true then 1 else 0) 64 := by
        unfold onN
        rw [show 64 * (s + 1) = 64 * s + 64 by omega, fb_sm_cat]
        congr 1
        exact fb_sm_cong (fun t ht => by rw [hl t ht n n19])
      rw [← e]
      exact ih K2 (fr_trans hK hK2.1)
  exact loop 0 L (by decide) fr_rf
abbrev RX12_ones (zn d : Nat) (post : zP) : zK := zRun (zcal zty zcd false (d + 5)) kX12_ones (zLM zn) post
theorem eX12_ones {zn d : Nat} {post : zP} (x1 : Int32) (x2 : Int32) (I : Nat → Nat → Int32) (L : Nat → Nat → Int64) (h : RX12_ones zn d post 0 [some (.ref 115), some (.int x1), some (.int x2), none, none] [] (zSH zn, I, L)) : zcal zty zcd false (d + 6) 168 [.ref 115, .int x1, .int x2] (zSH zn, I, L) 0 0 post := zcal_of (d := d + 5) zmt168 zmc168 rfl (Nat.le_of_ble_eq_true rfl) h
theorem gX12_ones_0 {zn d : Nat} {post : zP} (x1 : Int32) (x2 : Int32) (I : Nat → Nat → Int32) (L : Nat → Nat → Int64) (h : (¬ ((0 : Int32) ≤ x1 ∧ x1 ≤ (1 : Int32)) → post (some (.int (-1 : Int32))) (zSH zn, I, L)) ∧ ((0 : Int32) ≤ x1 ∧ x1 ≤ (1 : Int32) → ((0 : Int32) ≤ x2 ∧ x2 ≤ (18 : Int32) → RX12_ones zn d post 26 [some (.ref 115), some (.int x1), some (.int x2), some (.int (0 : Int32)), some (.int (0 : Int32))] [] (zSH zn, I, L)) ∧ (¬ ((0 : Int32) ≤ x2 ∧ x2 ≤ (18 : Int32)) → post (some (.int (-1 : Int32))) (zSH zn, I, L)))) : RX12_ones zn d post 0 [some (.ref 115), some (.int x1), some (.int x2), none, none] [] (zSH zn, I, L) := fun P hw hc => hc _ tX12_ones_0 _ _ _ (hc _ tX12_ones_1 _ _ _ (hc _ tX12_ones_2 _ _ _ (hc _ tX12_ones_3 _ _ _ (⟨Nat.le_of_ble_eq_true rfl, Nat.le_of_ble_eq_true rfl, zl1, zl2, _, ctX12_in x1 (0 : Int32) (1 : Int32) I L, fun r u k6 => by obtain ⟨rfl, rfl⟩ := k6; exact ⟨zl3, zl4, hc _ tX12_ones_6 _ _ _ (⟨fun c1 => hc _ tX12_ones_19 _ _ _ (hc _ tX12_ones_20 _ _ _ (⟨nofun, rfl, rfl, (h.1 (zb_e c1))⟩)), fun c2 => hc _ tX12_ones_9 _ _ _ (hc _ tX12_ones_10 _ _ _ (hc _ tX12_ones_11 _ _ _ (hc _ tX12_ones_13 _ _ _ (⟨Nat.le_of_ble_eq_true rfl, Nat.le_of_ble_eq_true rfl, zl1, zl2, _, ctX12_in x2 (0 : Int32) (18 : Int32) I L, fun r u k5 => by obtain ⟨rfl, rfl⟩ := k5; exact ⟨zl3, zl4, hc _ tX12_ones_16 _ _ _ (⟨fun c3 => hc _ tX12_ones_21 _ _ _ (hc _ tX12_ones_22 _ _ _ (hc _ tX12_ones_23 _ _ _ (hc _ tX12_ones_24 _ _ _ (((h.2 (zb_n c2)).1 (zb_n c3)) P hw hc)))), fun c4 => hc _ tX12_ones_19 _ _ _ (hc _ tX12_ones_20 _ _ _ (⟨nofun, rfl, rfl, ((h.2 (zb_n c2)).2 (zb_e c4))⟩))⟩)⟩⟩))))⟩)⟩⟩))))
theorem gX12_ones_26 {zn d : Nat} {post : zP} (x1 : Int32) (x2 : Int32) (x3 : Int32) (x4 : Int32) (I : Nat → Nat → Int32) (L : Nat → Nat → Int64) (h : ((1024 : Int32) ≤ x4 → post (some (.int x3)) (zSH zn, I, L)) ∧ (¬ (1024 : Int32) ≤ x4 → (∃ (V4 : zVw) (os5 : List Nat), (zs x1 6) ∧ (rEv I (tn x1) V4 os5) ∧ (∀ (J3 : Nat → Nat → Int32), (rRow I J3 V4 x4) → (∃ (V9 : zVw), (okV V9) ∧ (rLn J3 (tn x1) V9) ∧ (zs x1 6) ∧ (zs x2 18) ∧ (∀ (M8 : Nat → Int32), RX12_ones zn d post 26 [some (.ref 115), some (.int x1), some (.int x2), some (.int (x3 + (tolR J3 V9 (tn x2)))), some (.int (x4 + (1 : Int32)))] [] (zSH zn, (zrI J3 131 M8), L))))))) : RX12_ones zn d post 26 [some (.ref 115), some (.int x1), some (.int x2), some (.int x3), some (.int x4)] [] (zSH zn, I, L) := fun P hw hc => hc _ tX12_ones_26 _ _ _ (hc _ tX12_ones_28 _ _ _ (hc _ tX12_ones_31 _ _ _ (⟨fun c1 => hc _ tX12_ones_56 _ _ _ (hc _ tX12_ones_57 _ _ _ (⟨nofun, rfl, rfl, (h.1 c1)⟩)), fun c2 => hc _ tX12_ones_34 _ _ _ (hc _ tX12_ones_35 _ _ _ (hc _ tX12_ones_36 _ _ _ ((by obtain ⟨V4, os5, hg6⟩ := (h.2 c2); exact hc _ tX12_ones_38 _ _ _ (⟨⟨_, _, _, rfl, (by decide), sh115⟩, ⟨Nat.le_of_ble_eq_true rfl, Nat.le_of_ble_eq_true rfl, zl1, zl2, _, ctX12_layRow x1 x4 I L V4 os5 hg6.1 hg6.2.1, fun r u k12 => by obtain ⟨J3, rfl, rfl, p7⟩ := k12; exact ⟨zl3, zl4, hc _ tX12_ones_41 _ _ _ (hc _ tX12_ones_42 _ _ _ (hc _ tX12_ones_43 _ _ _ (hc _ tX12_ones_44 _ _ _ ((by obtain ⟨V9, hg10⟩ := (hg6.2.2 J3 p7); exact hc _ tX12_ones_45 _ _ _ (⟨⟨_, _, _, rfl, (by decide), sh115⟩, ⟨Nat.le_of_ble_eq_true rfl, Nat.le_of_ble_eq_true rfl, zl1, zl2, _, ctX12_told x1 x2 J3 L V9 hg10.1 hg10.2.1 hg10.2.2.1 hg10.2.2.2.1, fun r u k11 => by obtain ⟨M8, rfl, rfl⟩ := k11; exact ⟨zl3, zl4, hc _ tX12_ones_48 _ _ _ (hc _ tX12_ones_49 _ _ _ (hc _ tX12_ones_50 _ _ _ (hc _ tX12_ones_53 _ _ _ ((hg10.2.2.2.2 M8) P hw hc))))⟩⟩⟩))))))⟩⟩⟩)))))⟩)))
theorem tri_nI (b : Bool) : tri b = nI (if b = true then 1 else 0) := by cases b <;> rfl
theorem ctX12_ones {zn d : Nat} (x1 : Int32) (x2 : Int32) (I : Nat → Nat → Int32) (L : Nat → Nat → Int64) (V : Nat → zVw) (ps : Nat → List Nat) (q0 : ∀ w, w < 2 → rEv I w (V w) (ps w)) (q1 : I 115 18 = -4) : zcal zty zcd false (d + 6) 168 [.ref 115, .int x1, .int x2] (zSH zn, I, L) 0 0 (fun r u => ∃ (J : Nat → Nat → Int32), r = some (.int (oneS V x1 x2)) ∧ u = (zSH zn, J, L) ∧ (fr [130, 131] I J)) := by
  have e19' : ∀ x : Int32, (0 ≤ x ∧ x ≤ 18) ↔ (0 ≤ x ∧ x < 19) := fun x => le256 (b := 18) (by decide)
  refine eX12_ones _ _ I L (gX12_ones_0 _ _ I L ⟨fun h => ⟨I, by rw [oneS, if_neg (fun z => h (in01.mpr z.1))], rfl, fr_rf⟩, fun h => ⟨fun h2 => ?_, fun h2 => ⟨I, by rw [oneS, if_neg (fun z => h2 ((e19' _).mpr z.2))], rfl, fr_rf⟩⟩⟩)
  obtain ⟨w, hw, ew, tw', tw, hv⟩ := x01 (in01.mp h)
  have h2' := (e19' _).mp h2
  obtain ⟨n, rfl, -, n19, tnn, tnn'⟩ := nm_of (a := 0) (b := 19) (by decide) (by decide) h2'
  have hc0 := q0 w hw
  have zx : zs x1 6 := ⟨w, by omega, ew⟩
  have loop : ∀ s J, s ≤ 1024 → fr [130, 131] I J → RX12_ones zn d (fun r u => ∃ (J : Nat → Nat → Int32), r = some (.int (oneS V x1 (nI n))) ∧ u = (zSH zn, J, L) ∧ (fr [130, 131] I J)) 26 [some (.ref 115), some (.int x1), some (.int (nI n)), some (.int (nI (onN (V w) n s))), some (.int (nI s))] [] (zSH zn, J, L) := by
    refine zup (fun J hJ => ?_) (fun s J hs hJ ih => ?_)
    · exact gX12_ones_26 _ _ _ _ J L ⟨fun _ => ⟨J, by rw [oneS, if_pos ⟨in01.mp h, h2'⟩, tw, tnn], rfl, hJ⟩, fun hc => absurd (by decide) hc⟩
    · have hc := rEv_fr hc0 hJ
      have hq : J 115 18 = -4 := by rw [hJ 115 (by decide)]; exact q1
      refine gX12_ones_26 _ _ _ _ J L ⟨fun hc => absurd hc (by rw [nl 1024, nI_leI (by decide) (by omega)]; omega), fun _ => ⟨V w, ps w, zx, by rw [tw]; exact hc, fun J2 hJ2 => ⟨V w, hc.1, by rw [tw]; exact (rEv_fr hc hJ2.1).2.1, zx, ⟨n, by omega, rfl⟩, fun M => ?_⟩⟩⟩
      rw [tnn, toldB hc.1 (rEv_tw hc) (by omega) hJ2 hq n19, tri_nI, nI_add, nI_1]
      have e : onN (V w) n (s + 1) = onN (V w) n s + (if tb (V w) none s n = true then 1 else 0) := rfl
      rw [← e]
      exact ih _ (zrI_fr (fr_trans hJ hJ2.1) (by decide))
  exact loop 0 I (by decide) fr_rf

