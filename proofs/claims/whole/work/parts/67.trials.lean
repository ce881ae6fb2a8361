/-! TRIALS, the class's: each FAULT in its lane -/
theorem and_1 (v : Int64) : v &&& 1 = if bt v 0 = true then 1 else 0 := by
  apply Int64.toBitVec_inj.1
  apply BitVec.eq_of_getLsbD_eq
  intro i hi
  rw [Int64.toBitVec_and, BitVec.getLsbD_and]
  have h1 : ∀ i, i < 64 → (1 : Int64).toBitVec.getLsbD i = decide (i = 0) := by decide +kernel
  have h0 : ∀ i, i < 64 → (0 : Int64).toBitVec.getLsbD i = false := by decide +kernel
  rw [h1 i hi]
  by_cases hi0 : i = 0
  · subst hi0
    cases hb : bt v 0 with
    | true =>
      have : v.toBitVec.getLsbD 0 = true := hb
      rw [this, if_pos rfl]; decide
    | false =>
      have : v.toBitVec.getLsbD 0 = false := hb
      rw [this, if_neg (by decide)]; decide
  · rw [decide_eq_false hi0, Bool.and_false]
    split
    · rw [h1 i hi, decide_eq_false hi0]
    · rw [h0 i hi]
theorem shr_bt {x : Int64} {k : UInt64} {j i : Nat} (hk : k.toNat = j) (hj : j < 64) : bt ((x.toUInt64 >>> k).toInt64) i = bt x (j + i) := by
  have e : ((x.toUInt64 >>> k).toInt64) = lN (x.toBitVec.toNat / 2 ^ j) := by
    have := lN_shr (a := x.toBitVec.toNat) x.toBitVec.isLt k j hk hj
    rw [← lN_of] at this
    exact this
  rw [e, bt_nat x]
  unfold bt
  show (BitVec.ofNat 64 (x.toBitVec.toNat / 2 ^ j)).getLsbD i = _
  rw [BitVec.getLsbD_ofNat, Nat.testBit_div_two_pow, Nat.add_comm]
  by_cases hi : i < 64
  · simp [hi]
  · rw [decide_eq_false hi, Bool.false_and, Nat.testBit_lt_two_pow (Nat.lt_of_lt_of_le x.toBitVec.isLt (Nat.pow_le_pow_right (by decide) (by omega)))]
theorem rt38 (x : Int64) {t : Nat} (ht : t < 64) : bt (-(((x).toUInt64 >>> (((38 : Int32)).toInt64.toUInt64 &&& Int64.toUInt64 63)).toInt64 &&& (1 : Int64))) t = bt x 38 := by
  rw [and_1, shr_bt (j := 38) (by decide) (by decide)]
  cases bt x (38 + 0) with
  | true => rw [if_pos rfl]; exact bt_m1 ht
  | false => rw [if_neg (by decide)]; exact bt_0 t
theorem all39 : ∀ t, t < 64 → bt 549755813887 t = decide (t < 39) := by decide +kernel
theorem shT64 : ∀ t, t < 64 → (((nI t).toInt64.toUInt64 &&& Int64.toUInt64 63)).toNat = t := by decide +kernel
theorem lane_tri {x : Int64} {t : Nat} (ht : t < 64) : (((x).toUInt64 >>> ((nI t).toInt64.toUInt64 &&& Int64.toUInt64 63)).toInt64 &&& (1 : Int64)).toInt32 = tri (bt x t) := by
  rw [lo_tri, shr_bt (shT64 t ht) ht, Nat.add_zero]
def mdL (K : Nat → Nat → Int64) (V : zVw) (e x : Nat) : Prop := ∀ n, 6 ≤ n → n < 19 → ∀ t, t < 64 → bt (K 83 n) t = (decide (t < 39) && flB V e t x n)
abbrev RX9_make (zn d : Nat) (post : zP) : zK := zRun (zcal zty zcd false (d + 4)) kX9_make (zLM zn) post
theorem eX9_make {zn d : Nat} {post : zP} (k1 : Nat) (x2 : Int32) (x3 : Int32) (I : Nat → Nat → Int32) (L : Nat → Nat → Int64) (h1 : isX10 k1) (h : RX9_make zn d post 0 [some (.ref 73), some (.ref k1), some (.int x2), some (.int x3), none, none, none, none] [] (zSH zn, I, L)) : zcal zty zcd false (d + 5) 70 [.ref 73, .ref k1, .int x2, .int x3] (zSH zn, I, L) 0 0 post := zcal_of (d := d + 4) zmt70 zmc70 rfl (Nat.le_of_ble_eq_true rfl) h
theorem gX9_make_0 {zn d : Nat} {post : zP} (k1 : Nat) (x2 : Int32) (x3 : Int32) (I : Nat → Nat → Int32) (L : Nat → Nat → Int64) (h1 : isX10 k1) (h : (∃ (V2 : zVw) (os3 : List Nat), (cEv I k1 V2 os3) ∧ (∀ (K1 : Nat → Nat → Int64), (evL L K1 77 V2 (bRw x3)) → RX9_make zn d post 13 [some (.ref 73), some (.ref k1), some (.int x2), some (.int x3), some (.int (6 : Int32)), none, none, none] [] (zSH zn, I, K1)))) : RX9_make zn d post 0 [some (.ref 73), some (.ref k1), some (.int x2), some (.int x3), none, none, none, none] [] (zSH zn, I, L) := fun P hw hc => hc _ tX9_make_0 _ _ _ (hc _ tX9_make_1 _ _ _ (⟨_, _, sh73, (by decide), rfl, hc _ tX9_make_4 _ _ _ (hc _ tX9_make_5 _ _ _ ((by obtain ⟨V2, os3, hg4⟩ := h; exact hc _ tX9_make_6 _ _ _ (⟨⟨_, _, _, rfl, (by decide), sh77⟩, ⟨Nat.le_of_ble_eq_true rfl, Nat.le_of_ble_eq_true rfl, zl1, zl2, _, ctX4_runRow 77 k1 x3 I L V2 os3 isX4_77 h1 hg4.1, fun r u k6 => by obtain ⟨K1, rfl, rfl, p5⟩ := k6; exact ⟨zl3, zl4, hc _ tX9_make_9 _ _ _ (hc _ tX9_make_11 _ _ _ ((hg4.2 K1 p5) P hw hc))⟩⟩⟩))))⟩))
theorem gX9_make_13 {zn d : Nat} {post : zP} (k1 : Nat) (x2 : Int32) (x3 : Int32) (x4 : Int32) (I : Nat → Nat → Int32) (L : Nat → Nat → Int64) (h1 : isX10 k1) (h : ((19 : Int32) ≤ x4 → post none (zSH zn, I, L)) ∧ (¬ (19 : Int32) ≤ x4 → vp_in x4 19 ∧ ((¬ ((¬ ((x2 &&& (I k1 6)) >>> (x4 &&& 31)) &&& 1 = 0)) → RX9_make zn d post 13 [some (.ref 73), some (.ref k1), some (.int x2), some (.int x3), some (.int (x4 + (1 : Int32))), none, none, none] [] (zSH zn, I, (zl L 83 (x4).toNatClampNeg (0 : Int64)))) ∧ ((¬ ((x2 &&& (I k1 6)) >>> (x4 &&& 31)) &&& 1 = 0) → RX9_make zn d post 13 [some (.ref 73), some (.ref k1), some (.int x2), some (.int x3), some (.int (x4 + (1 : Int32))), none, none, none] [] (zSH zn, I, (zl L 83 (x4).toNatClampNeg (((L 79 (x4).toNatClampNeg) ^^^ (-((((L 79 (x4).toNatClampNeg)).toUInt64 >>> (((38 : Int32)).toInt64.toUInt64 &&& Int64.toUInt64 63)).toInt64 &&& (1 : Int64)))) &&& (549755813887 : Int64)))))))) : RX9_make zn d post 13 [some (.ref 73), some (.ref k1), some (.int x2), some (.int x3), some (.int x4), none, none, none] [] (zSH zn, I, L) := fun P hw hc => hc _ tX9_make_13 _ _ _ (hc _ tX9_make_15 _ _ _ (hc _ tX9_make_17 _ _ _ (⟨fun c1 => hc _ tX9_make_90 _ _ _ (⟨rfl, rfl, (h.1 c1)⟩), fun c2 => hc _ tX9_make_20 _ _ _ (hc _ tX9_make_21 _ _ _ (⟨_, _, sh73, (by decide), rfl, hc _ tX9_make_24 _ _ _ (⟨_, _, sh77, (by decide), rfl, hc _ tX9_make_27 _ _ _ (hc _ tX9_make_29 _ _ _ (⟨_, _, _, sh79, Or.inl ⟨rfl, (by decide)⟩, (h.2 c2).1, hc _ tX9_make_30 _ _ _ (hc _ tX9_make_32 _ _ _ (hc _ tX9_make_33 _ _ _ (hc _ tX9_make_34 _ _ _ (hc _ tX9_make_35 _ _ _ (hc _ tX9_make_36 _ _ _ (hc _ tX9_make_38 _ _ _ (hc _ tX9_make_39 _ _ _ (hc _ tX9_make_40 _ _ _ (⟨_, (shX10 h1), (geX10 h1), hc _ tX9_make_43 _ _ _ (hc _ tX9_make_44 _ _ _ (hc _ tX9_make_46 _ _ _ (⟨Nat.le_of_ble_eq_true rfl, Nat.le_of_ble_eq_true rfl, zl1, zl2, _, ctX11_hasBit (x2 &&& (I k1 6)) x4 I L, fun r u k5 => by obtain ⟨rfl, rfl⟩ := k5; exact ⟨zl3, zl4, hc _ tX9_make_49 _ _ _ (hc _ tX9_make_51 _ _ _ (hc _ tX9_make_52 _ _ _ (⟨_, _, sh73, (by decide), rfl, hc _ tX9_make_55 _ _ _ (hc _ tX9_make_57 _ _ _ (hc _ tX9_make_59 _ _ _ (⟨fun c3 => hc _ tX9_make_82 _ _ _ (hc _ tX9_make_83 _ _ _ (⟨_, _, sh83, (by decide), (h.2 c2).1, hc _ tX9_make_84 _ _ _ (hc _ tX9_make_87 _ _ _ (hw _ _ _ _ _ (zwk_s (zwk_s (zwk_s (zwk_s (zwk_s (zwk_n (zwk_s (zwk_n zwk_nil)))))))) (((h.2 c2).2.1 (zb_e c3)) P hw hc)))⟩)), fun c4 => hc _ tX9_make_62 _ _ _ (hc _ tX9_make_63 _ _ _ (⟨_, _, sh73, (by decide), rfl, hc _ tX9_make_66 _ _ _ (⟨_, _, sh77, (by decide), rfl, hc _ tX9_make_69 _ _ _ (hc _ tX9_make_71 _ _ _ (⟨_, _, _, sh79, Or.inl ⟨rfl, (by decide)⟩, (h.2 c2).1, hc _ tX9_make_72 _ _ _ (hc _ tX9_make_74 _ _ _ (hc _ tX9_make_75 _ _ _ (hc _ tX9_make_78 _ _ _ (hc _ tX9_make_79 _ _ _ (hc _ tX9_make_83 _ _ _ (⟨_, _, sh83, (by decide), (h.2 c2).1, hc _ tX9_make_84 _ _ _ (hc _ tX9_make_87 _ _ _ (hw _ _ _ _ _ (zwk_s (zwk_s (zwk_s (zwk_s (zwk_s (zwk_n (zwk_s (zwk_n zwk_nil)))))))) (((h.2 c2).2.2 (zb_n c4)) P hw hc)))⟩))))))⟩))⟩)⟩))⟩)))⟩)))⟩⟩)))⟩)))))))))⟩))⟩)⟩))⟩)))
theorem ctX9_make {zn d : Nat} (k1 : Nat) (x2 : Int32) (x3 : Int32) (I : Nat → Nat → Int32) (L : Nat → Nat → Int64) (V : zVw) (os : List Nat) (e : Nat) (x : Nat) (h1 : isX10 k1) (q0 : cVw I k1 V os) (q1 : x2 = nI e ∧ e < 2 ^ 19) (q2 : x3 = nI x ∧ x < 1024) (q3 : stkE L 77) : zcal zty zcd false (d + 5) 70 [.ref 73, .ref k1, .int x2, .int x3] (zSH zn, I, L) 0 0 (fun r u => ∃ (K : Nat → Nat → Int64), r = none ∧ u = (zSH zn, I, K) ∧ (fr [78, 79, 82, 83] L K ∧ mdL K V e x)) := by
  obtain ⟨rfl, he⟩ := q1
  obtain ⟨rfl, hx⟩ := q2
  have cv := cVw_ev q0
  have htw := cEv_tw cv
  refine eX9_make _ _ _ I L h1 (gX9_make_0 _ _ _ I L h1 ⟨V, os, cv, fun K hK => ?_⟩)
  have hl : ∀ t, t < 64 → ∀ n, n < 19 → (V n).isSome = true → tb V (qOf t) x n = bt (K 79 n) t := fun t ht n hn hv => RT_tb (lane_tv ht cv.1 htw hK (hb_row (by omega) ht) (stk_each ht q3) hn (Or.inl hv))
  have hX : e &&& tlV V < 2 ^ 31 := Nat.lt_of_le_of_lt Nat.and_le_left (by omega)
  have loop : ∀ n M, n ≤ 19 → (6 ≤ n ∧ fr [83] K M ∧ ∀ m, 6 ≤ m → m < n → ∀ t, t < 64 → bt (M 83 m) t = (decide (t < 39) && flB V e t x m)) → RX9_make zn d (fun r u => ∃ (K : Nat → Nat → Int64), r = none ∧ u = (zSH zn, I, K) ∧ (fr [78, 79, 82, 83] L K ∧ mdL K V e x)) 13 [some (.ref 73), some (.ref k1), some (.int (nI e)), some (.int (nI x)), some (.int (nI n)), none, none, none] [] (zSH zn, I, M) := by
    refine zup (fun M hM => ?_) (fun n M hn hM ih => ?_)
    · exact gX9_make_13 _ _ _ _ I M h1 ⟨fun _ => ⟨M, rfl, rfl, fr_trans (fr_sub hK.1 (by decide)) (fr_sub hM.2.1 (by decide)), fun m h6 h19 => hM.2.2 m h6 h19⟩, fun hc => absurd (by decide) hc⟩
    · obtain ⟨h6, f1, f2⟩ := hM
      refine gX9_make_13 _ _ _ _ I M h1 ⟨fun hc => absurd hc (by rw [nl 19, nI_leI (by decide) (by omega)]; omega), fun _ => ⟨vin_nI hn (by decide), ?_⟩⟩
      rw [q0.1.2.2.2.1, nI_and, nI_has hX (by omega), Nat.testBit_and, tlV_bit hn, nI_clamp (by omega), nI_1]
      have key : ∀ v : Int64, (∀ t, t < 64 → bt v t = (decide (t < 39) && flB V e t x n)) → (6 ≤ n + 1 ∧ fr [83] K (zl M 83 n v) ∧ ∀ m, 6 ≤ m → m < n + 1 → ∀ t, t < 64 → bt ((zl M 83 n v) 83 m) t = (decide (t < 39) && flB V e t x m)) := fun v hv => by
        refine ⟨by omega, fr_trans f1 (fr_zl (by decide)), fun m m6 m1 t ht => ?_⟩
        rw [zl_at]
        by_cases hmn : m = n
        · rw [if_pos ⟨rfl, hmn⟩, hmn]; exact hv t ht
        · rw [if_neg (fun z => hmn z.2)]; exact f2 m m6 (by omega) t ht
      refine ⟨fun h => ih _ (key 0 (fun t ht => ?_)), fun h => ih _ (key _ (fun t ht => ?_))⟩
      · have : (e.testBit n && (V n).isSome) = false := by simpa using h
        unfold flB
        rw [bt_0, this]; simp
      · rw [Bool.and_eq_true] at h
        rw [bt_and, bt_xor, rt38 _ ht, all39 t ht, f1 79 (by decide)]
        have h38 : tb V none x n = bt (K 79 n) 38 := by
          have := hl 38 (by decide) n hn h.2
          rw [qOf_38 (by decide)] at this
          exact this
        unfold flB
        rw [h.1, h.2, h38, hl t ht n hn h.2]
        cases bt (K 79 n) t <;> cases bt (K 79 n) 38 <;> cases decide (t < 39) <;> rfl
  exact loop 6 K (by decide) ⟨by decide, fr_rf, fun m h1 h2 => absurd h1 (by omega)⟩
abbrev RX9_failsOf (zn d : Nat) (post : zP) : zK := zRun (zcal zty zcd false (d + 0)) kX9_failsOf (zLM zn) post
theorem eX9_failsOf {zn d : Nat} {post : zP} (x1 : Int32) (I : Nat → Nat → Int32) (L : Nat → Nat → Int64) (h : RX9_failsOf zn d post 0 [some (.ref 73), some (.int x1), none, none] [] (zSH zn, I, L)) : zcal zty zcd false (d + 1) 71 [.ref 73, .int x1] (zSH zn, I, L) 0 0 post := zcal_of (d := d + 0) zmt71 zmc71 rfl (Nat.le_of_ble_eq_true rfl) h
theorem gX9_failsOf_0 {zn d : Nat} {post : zP} (x1 : Int32) (I : Nat → Nat → Int32) (L : Nat → Nat → Int64) (h : RX9_failsOf zn d post 5 [some (.ref 73), some (.int x1), some (.int (0 : Int32)), some (.int (6 : Int32))] [] (zSH zn, I, L)) : RX9_failsOf zn d post 0 [some (.ref 73), some (.int x1), none, none] [] (zSH zn, I, L) := fun P hw hc => hc _ tX9_failsOf_0 _ _ _ (hc _ tX9_failsOf_1 _ _ _ (hc _ tX9_failsOf_2 _ _ _ (hc _ tX9_failsOf_4 _ _ _ (h P hw hc))))
theorem gX9_failsOf_5 {zn d : Nat} {post : zP} (x1 : Int32) (x2 : Int32) (x3 : Int32) (I : Nat → Nat → Int32) (L : Nat → Nat → Int64) (h : ((19 : Int32) ≤ x3 → post (some (.int x2)) (zSH zn, I, L)) ∧ (¬ (19 : Int32) ≤ x3 → vp_in x3 19 ∧ (RX9_failsOf zn d post 5 [some (.ref 73), some (.int x1), some (.int (x2 ||| ((((((L 83 (x3).toNatClampNeg)).toUInt64 >>> ((x1).toInt64.toUInt64 &&& Int64.toUInt64 63)).toInt64 &&& (1 : Int64))).toInt32 <<< (x3 &&& 31)))), some (.int (x3 + (1 : Int32)))] [] (zSH zn, I, L)))) : RX9_failsOf zn d post 5 [some (.ref 73), some (.int x1), some (.int x2), some (.int x3)] [] (zSH zn, I, L) := fun P hw hc => hc _ tX9_failsOf_5 _ _ _ (hc _ tX9_failsOf_6 _ _ _ (hc _ tX9_failsOf_8 _ _ _ (⟨fun c1 => hc _ tX9_failsOf_33 _ _ _ (hc _ tX9_failsOf_34 _ _ _ (⟨nofun, rfl, rfl, (h.1 c1)⟩)), fun c2 => hc _ tX9_failsOf_11 _ _ _ (hc _ tX9_failsOf_12 _ _ _ (hc _ tX9_failsOf_13 _ _ _ (⟨_, _, sh73, (by decide), rfl, hc _ tX9_failsOf_16 _ _ _ (hc _ tX9_failsOf_17 _ _ _ (⟨_, _, _, sh83, Or.inl ⟨rfl, (by decide)⟩, (h.2 c2).1, hc _ tX9_failsOf_18 _ _ _ (hc _ tX9_failsOf_19 _ _ _ (hc _ tX9_failsOf_20 _ _ _ (hc _ tX9_failsOf_21 _ _ _ (hc _ tX9_failsOf_22 _ _ _ (hc _ tX9_failsOf_23 _ _ _ (hc _ tX9_failsOf_24 _ _ _ (hc _ tX9_failsOf_25 _ _ _ (hc _ tX9_failsOf_26 _ _ _ (hc _ tX9_failsOf_27 _ _ _ (hc _ tX9_failsOf_30 _ _ _ ((h.2 c2).2 P hw hc)))))))))))⟩))⟩)))⟩)))
theorem ctX9_failsOf {zn d : Nat} (x1 : Int32) (I : Nat → Nat → Int32) (L : Nat → Nat → Int64) (V : zVw) (e : Nat) (x : Nat) (t : Nat) (q0 : okV V) (q1 : mdL L V e x) (q2 : x1 = nI t ∧ t < 39) : zcal zty zcd false (d + 1) 71 [.ref 73, .int x1] (zSH zn, I, L) 0 0 (fun r u => r = some (.int (nI (FM V e t x))) ∧ u = (zSH zn, I, L)) := by
  obtain ⟨rfl, ht⟩ := q2
  have loop : ∀ n (u : Unit), n ≤ 19 → 6 ≤ n → RX9_failsOf zn d (fun r u => r = some (.int (nI (FM V e t x))) ∧ u = (zSH zn, I, L)) 5 [some (.ref 73), some (.int (nI t)), some (.int (nI (bm (flB V e t x) n))), some (.int (nI n))] [] (zSH zn, I, L) := by
    refine zup (fun u _ => ?_) (fun n u hn h6 ih => ?_)
    · exact gX9_failsOf_5 _ _ _ I L ⟨fun _ => ⟨rfl, rfl⟩, fun hc => absurd (by decide) hc⟩
    · refine gX9_failsOf_5 _ _ _ I L ⟨fun hc => absurd hc (by rw [nl 19, nI_leI (by decide) (by omega)]; omega), fun _ => ⟨vin_nI hn (by decide), ?_⟩⟩
      rw [nI_clamp (by omega), lane_tri (by omega), q1 n h6 hn t (by omega), decide_eq_true ht, Bool.true_and, bm_or1 (by omega), nI_1]
      exact ih u (by omega)
  have h0 := loop 6 () (by decide) (by decide)
  have e0 : bm (flB V e t x) 6 = 0 := by
    rw [bm_cong (q := fun _ => false) (fun i hi => flB_6 q0 hi)]; decide
  rw [e0] at h0
  exact eX9_failsOf _ I L (gX9_failsOf_0 _ I L h0)
def okF (F : Nat) : Prop := F < 2 ^ 19 ∧ ∀ i, i < 6 → F.testBit i = false
theorem okF_FM {V : zVw} (hV : okV V) {e f x : Nat} : okF (FM V e f x) := ⟨FM_lt _ _ _ _, fun i hi => by rw [FM_bit, flB_6 hV hi]; simp⟩
theorem okF_0 : okF 0 := ⟨by decide, fun i _ => by simp⟩
def laB (V : zVw) (e x F t : Nat) (j : Nat) : Prop := ∀ n, 6 ≤ n → n < j → flB V e t x n = F.testBit n
theorem laB_FM {V : zVw} (hV : okV V) {e x F t : Nat} (hF : okF F) : laB V e x F t 19 ↔ FM V e t x = F := by
  constructor
  · intro h
    refine Nat.eq_of_testBit_eq (fun i => ?_)
    rw [FM_bit]
    by_cases h19 : i < 19
    · by_cases h6 : 6 ≤ i
      · rw [decide_eq_true h19, Bool.true_and]; exact h i h6 h19
      · rw [flB_6 hV (by omega), hF.2 i (by omega)]; simp
    · rw [decide_eq_false h19, Nat.testBit_lt_two_pow (Nat.lt_of_lt_of_le hF.1 (Nat.pow_le_pow_right (by decide) (by omega)))]; rfl
  · intro h n h6 h19
    rw [← h, FM_bit, decide_eq_true h19, Bool.true_and]
abbrev RX9_lanesFailing (zn d : Nat) (post : zP) : zK := zRun (zcal zty zcd false (d + 1)) kX9_lanesFailing (zLM zn) post
theorem eX9_lanesFailing {zn d : Nat} {post : zP} (x1 : Int32) (I : Nat → Nat → Int32) (L : Nat → Nat → Int64) (h : RX9_lanesFailing zn d post 0 [some (.ref 73), some (.int x1), none, none, none] [] (zSH zn, I, L)) : zcal zty zcd false (d + 2) 72 [.ref 73, .int x1] (zSH zn, I, L) 0 0 post := zcal_of (d := d + 1) zmt72 zmc72 rfl (Nat.le_of_ble_eq_true rfl) h
theorem gX9_lanesFailing_0 {zn d : Nat} {post : zP} (x1 : Int32) (I : Nat → Nat → Int32) (L : Nat → Nat → Int64) (h : RX9_lanesFailing zn d post 8 [some (.ref 73), some (.int x1), some (.long (549755813887 : Int64)), none, some (.int (6 : Int32))] [] (zSH zn, I, L)) : RX9_lanesFailing zn d post 0 [some (.ref 73), some (.int x1), none, none, none] [] (zSH zn, I, L) := fun P hw hc => hc _ tX9_lanesFailing_0 _ _ _ (hc _ tX9_lanesFailing_3 _ _ _ (hc _ tX9_lanesFailing_4 _ _ _ (hc _ tX9_lanesFailing_6 _ _ _ (h P hw hc))))
theorem gX9_lanesFailing_8 {zn d : Nat} {post : zP} (x1 : Int32) (x2 : Int64) (x4 : Int32) (I : Nat → Nat → Int32) (L : Nat → Nat → Int64) (h : ((19 : Int32) ≤ x4 → post (some (.long x2)) (zSH zn, I, L)) ∧ (¬ (19 : Int32) ≤ x4 → (¬ ((¬ (x1 >>> (x4 &&& 31)) &&& 1 = 0)) → vp_in x4 19 ∧ (RX9_lanesFailing zn d post 8 [some (.ref 73), some (.int x1), some (.long (x2 &&& ((L 83 (x4).toNatClampNeg) ^^^ (-1 : Int64)))), none, some (.int (x4 + (1 : Int32)))] [] (zSH zn, I, L))) ∧ ((¬ (x1 >>> (x4 &&& 31)) &&& 1 = 0) → vp_in x4 19 ∧ (RX9_lanesFailing zn d post 8 [some (.ref 73), some (.int x1), some (.long (x2 &&& (L 83 (x4).toNatClampNeg))), none, some (.int (x4 + (1 : Int32)))] [] (zSH zn, I, L))))) : RX9_lanesFailing zn d post 8 [some (.ref 73), some (.int x1), some (.long x2), none, some (.int x4)] [] (zSH zn, I, L) := fun P hw hc => hc _ tX9_lanesFailing_8 _ _ _ (hc _ tX9_lanesFailing_10 _ _ _ (hc _ tX9_lanesFailing_12 _ _ _ (⟨fun c1 => hc _ tX9_lanesFailing_54 _ _ _ (hc _ tX9_lanesFailing_55 _ _ _ (⟨rfl, rfl, (h.1 c1)⟩)), fun c2 => hc _ tX9_lanesFailing_15 _ _ _ (hc _ tX9_lanesFailing_16 _ _ _ (hc _ tX9_lanesFailing_17 _ _ _ (hc _ tX9_lanesFailing_19 _ _ _ (⟨Nat.le_of_ble_eq_true rfl, Nat.le_of_ble_eq_true rfl, zl1, zl2, _, ctX11_hasBit x1 x4 I L, fun r u k5 => by obtain ⟨rfl, rfl⟩ := k5; exact ⟨zl3, zl4, hc _ tX9_lanesFailing_22 _ _ _ (⟨fun c3 => hc _ tX9_lanesFailing_35 _ _ _ (hc _ tX9_lanesFailing_36 _ _ _ (⟨_, _, sh73, (by decide), rfl, hc _ tX9_lanesFailing_39 _ _ _ (hc _ tX9_lanesFailing_41 _ _ _ (⟨_, _, _, sh83, Or.inl ⟨rfl, (by decide)⟩, ((h.2 c2).1 (zb_e c3)).1, hc _ tX9_lanesFailing_42 _ _ _ (hc _ tX9_lanesFailing_45 _ _ _ (hc _ tX9_lanesFailing_46 _ _ _ (hc _ tX9_lanesFailing_47 _ _ _ (hc _ tX9_lanesFailing_48 _ _ _ (hc _ tX9_lanesFailing_51 _ _ _ (((h.2 c2).1 (zb_e c3)).2 P hw hc))))))⟩))⟩)), fun c4 => hc _ tX9_lanesFailing_25 _ _ _ (hc _ tX9_lanesFailing_26 _ _ _ (⟨_, _, sh73, (by decide), rfl, hc _ tX9_lanesFailing_29 _ _ _ (hc _ tX9_lanesFailing_31 _ _ _ (⟨_, _, _, sh83, Or.inl ⟨rfl, (by decide)⟩, ((h.2 c2).2 (zb_n c4)).1, hc _ tX9_lanesFailing_32 _ _ _ (hc _ tX9_lanesFailing_46 _ _ _ (hc _ tX9_lanesFailing_47 _ _ _ (hc _ tX9_lanesFailing_48 _ _ _ (hc _ tX9_lanesFailing_51 _ _ _ (((h.2 c2).2 (zb_n c4)).2 P hw hc)))))⟩))⟩))⟩)⟩⟩))))⟩)))
theorem ctX9_lanesFailing {zn d : Nat} (x1 : Int32) (I : Nat → Nat → Int32) (L : Nat → Nat → Int64) (V : zVw) (e : Nat) (x : Nat) (F : Nat) (q0 : okV V) (q1 : mdL L V e x) (q2 : x1 = nI F ∧ okF F) : zcal zty zcd false (d + 2) 72 [.ref 73, .int x1] (zSH zn, I, L) 0 0 (fun r u => ∃ (v : Int64), r = some (.long v) ∧ u = (zSH zn, I, L) ∧ (∀ t, t < 64 → (bt v t = true ↔ t < 39 ∧ FM V e t x = F))) := by
  obtain ⟨rfl, hF⟩ := q2
  have hF31 : F < 2 ^ 31 := by have := hF.1; omega
  have loop : ∀ n (v : Int64), n ≤ 19 → (6 ≤ n ∧ ∀ t, t < 64 → (bt v t = true ↔ t < 39 ∧ laB V e x F t n)) → RX9_lanesFailing zn d (fun r u => ∃ (v : Int64), r = some (.long v) ∧ u = (zSH zn, I, L) ∧ (∀ t, t < 64 → (bt v t = true ↔ t < 39 ∧ FM V e t x = F))) 8 [some (.ref 73), some (.int (nI F)), some (.long v), none, some (.int (nI n))] [] (zSH zn, I, L) := by
    refine zup (fun v hv => ?_) (fun n v hn hv ih => ?_)
    · exact gX9_lanesFailing_8 _ _ _ I L ⟨fun _ => ⟨v, rfl, rfl, fun t ht => by rw [hv.2 t ht, laB_FM q0 hF]⟩, fun hc => absurd (by decide) hc⟩
    · obtain ⟨h6, f2⟩ := hv
      refine gX9_lanesFailing_8 _ _ _ I L ⟨fun hc => absurd hc (by rw [nl 19, nI_leI (by decide) (by omega)]; omega), fun _ => ?_⟩
      rw [nI_has hF31 (by omega), nI_clamp (by omega), nI_1]
      have key : ∀ t, (laB V e x F t (n + 1) ↔ laB V e x F t n ∧ flB V e t x n = F.testBit n) := fun t => by
        constructor
        · intro h; exact ⟨fun m m6 mn => h m m6 (by omega), h n h6 (by omega)⟩
        · rintro ⟨h, h2⟩ m m6 mn
          by_cases hmn : m = n
          · rw [hmn]; exact h2
          · exact h m m6 (by omega)
      refine ⟨fun h => ⟨vin_nI hn (by decide), ih _ ⟨by omega, fun t ht => ?_⟩⟩, fun h => ⟨vin_nI hn (by decide), ih _ ⟨by omega, fun t ht => ?_⟩⟩⟩
      · have hb : F.testBit n = false := by simpa using h
        rw [bt_and, bt_not _ ht, Bool.and_eq_true, f2 t ht, q1 n h6 hn t ht, key, hb]
        constructor
        · rintro ⟨⟨a, b⟩, c⟩
          rw [decide_eq_true a, Bool.true_and] at c
          exact ⟨a, b, by simpa using c⟩
        · rintro ⟨a, b, c⟩
          exact ⟨⟨a, b⟩, by rw [c]; simp⟩
      · rw [bt_and, Bool.and_eq_true, f2 t ht, q1 n h6 hn t ht, key, h]
        constructor
        · rintro ⟨⟨a, b⟩, c⟩
          rw [decide_eq_true a, Bool.true_and] at c
          exact ⟨a, b, c⟩
        · rintro ⟨a, b, c⟩
          exact ⟨⟨a, b⟩, by rw [c, decide_eq_true a]; rfl⟩
  exact eX9_lanesFailing _ I L (gX9_lanesFailing_0 _ I L (loop 6 _ (by decide) ⟨by decide, fun t ht => by
    rw [all39 t ht, decide_eq_true_iff]
    exact ⟨fun h => ⟨h, fun n n6 n7 => absurd n6 (by omega)⟩, fun h => h.1⟩⟩))
abbrev RX11_fails (zn d : Nat) (post : zP) : zK := zRun (zcal zty zcd false (d + 5)) kX11_fails (zLM zn) post
theorem eX11_fails {zn d : Nat} {post : zP} (x1 : Int32) (x2 : Int32) (I : Nat → Nat → Int32) (L : Nat → Nat → Int64) (h : RX11_fails zn d post 0 [some (.ref 5), some (.int x1), some (.int x2)] [] (zSH zn, I, L)) : zcal zty zcd false (d + 6) 117 [.ref 5, .int x1, .int x2] (zSH zn, I, L) 0 0 post := zcal_of (d := d + 5) zmt117 zmc117 rfl (Nat.le_of_ble_eq_true rfl) h
theorem gX11_fails_0 {zn d : Nat} {post : zP} (x1 : Int32) (x2 : Int32) (I : Nat → Nat → Int32) (L : Nat → Nat → Int64) (h : (¬ ((0 ≤ x1 ∧ x1 < (38 : Int32))) → post (some (.int (-1 : Int32))) (zSH zn, I, L)) ∧ ((0 ≤ x1 ∧ x1 < (38 : Int32)) → ((0 ≤ x2 ∧ x2 < (1024 : Int32)) → (∃ (V6 : zVw) (os7 : List Nat) (e8 : Nat) (x9 : Nat), (cVw I 19 V6 os7) ∧ ((I 5 15) = nI e8 ∧ e8 < 2 ^ 19) ∧ (x2 = nI x9 ∧ x9 < 1024) ∧ (stkE L 77) ∧ (∀ (K5 : Nat → Nat → Int64), (fr [78, 79, 82, 83] L K5 ∧ mdL K5 V6 e8 x9) → (∃ (V12 : zVw) (e13 : Nat) (x14 : Nat) (t15 : Nat), (okV V12) ∧ (mdL K5 V12 e13 x14) ∧ (x1 = nI t15 ∧ t15 < 39) ∧ (post (some (.int (nI (FM V12 e13 t15 x14)))) (zSH zn, I, K5)))))) ∧ (¬ ((0 ≤ x2 ∧ x2 < (1024 : Int32))) → post (some (.int (-1 : Int32))) (zSH zn, I, L)))) : RX11_fails zn d post 0 [some (.ref 5), some (.int x1), some (.int x2)] [] (zSH zn, I, L) := fun P hw hc => hc _ tX11_fails_0 _ _ _ (hc _ tX11_fails_1 _ _ _ (hc _ tX11_fails_3 _ _ _ (⟨Nat.le_of_ble_eq_true rfl, Nat.le_of_ble_eq_true rfl, zl1, zl2, _, ctX11_isBelow x1 (38 : Int32) I L, fun r u k20 => by obtain ⟨rfl, rfl⟩ := k20; exact ⟨zl3, zl4, hc _ tX11_fails_6 _ _ _ (⟨fun c1 => hc _ tX11_fails_19 _ _ _ (hc _ tX11_fails_20 _ _ _ (⟨nofun, rfl, rfl, (h.1 (zb_e c1))⟩)), fun c2 => hc _ tX11_fails_9 _ _ _ (hc _ tX11_fails_10 _ _ _ (hc _ tX11_fails_13 _ _ _ (⟨Nat.le_of_ble_eq_true rfl, Nat.le_of_ble_eq_true rfl, zl1, zl2, _, ctX11_isBelow x2 (1024 : Int32) I L, fun r u k19 => by obtain ⟨rfl, rfl⟩ := k19; exact ⟨zl3, zl4, hc _ tX11_fails_16 _ _ _ (⟨fun c3 => hc _ tX11_fails_21 _ _ _ (hc _ tX11_fails_22 _ _ _ (⟨_, _, sh5, (by decide), rfl, hc _ tX11_fails_25 _ _ _ (hc _ tX11_fails_26 _ _ _ (⟨_, _, sh5, (by decide), rfl, hc _ tX11_fails_29 _ _ _ (hc _ tX11_fails_30 _ _ _ (⟨_, _, _, sh11, (by decide), by decide, zvin (by decide), rfl, hc _ tX11_fails_31 _ _ _ (hc _ tX11_fails_32 _ _ _ (⟨_, sh5, (by decide), hc _ tX11_fails_35 _ _ _ ((by obtain ⟨V6, os7, e8, x9, hg10⟩ := ((h.2 (zb_n c2)).1 (zb_n c3)); exact hc _ tX11_fails_36 _ _ _ (⟨⟨_, _, _, rfl, (by decide), sh73⟩, ⟨Nat.le_of_ble_eq_true rfl, Nat.le_of_ble_eq_true rfl, zl1, zl2, _, ctX9_make 19 (I 5 15) x2 I L V6 os7 e8 x9 isX10_19 hg10.1 hg10.2.1 hg10.2.2.1 hg10.2.2.2.1, fun r u k18 => by obtain ⟨K5, rfl, rfl, p11⟩ := k18; exact ⟨zl3, zl4, hc _ tX11_fails_39 _ _ _ (hc _ tX11_fails_40 _ _ _ (⟨_, _, sh5, (by decide), rfl, hc _ tX11_fails_43 _ _ _ ((by obtain ⟨V12, e13, x14, t15, hg16⟩ := (hg10.2.2.2.2 K5 p11); exact hc _ tX11_fails_44 _ _ _ (⟨⟨_, _, _, rfl, (by decide), sh73⟩, ⟨Nat.le_of_ble_eq_true rfl, Nat.le_of_ble_eq_true rfl, zl1, zl2, _, ctX9_failsOf x1 I K5 V12 e13 x14 t15 hg16.1 hg16.2.1 hg16.2.2.1, fun r u k17 => by obtain ⟨rfl, rfl⟩ := k17; exact ⟨zl3, zl4, hc _ tX11_fails_47 _ _ _ (⟨nofun, rfl, rfl, hg16.2.2.2⟩)⟩⟩⟩)))⟩))⟩⟩⟩)))⟩))⟩))⟩))⟩)), fun c4 => hc _ tX11_fails_19 _ _ _ (hc _ tX11_fails_20 _ _ _ (⟨nofun, rfl, rfl, ((h.2 (zb_n c2)).2 (zb_e c4))⟩))⟩)⟩⟩)))⟩)⟩⟩)))
theorem ctX11_fails {zn d : Nat} (x1 : Int32) (x2 : Int32) (I : Nat → Nat → Int32) (L : Nat → Nat → Int64) (V : zVw) (os : List Nat) (e : Nat) (q0 : cVw I 19 V os) (q1 : I 5 15 = nI e ∧ e < 2 ^ 19) (q2 : stkE L 77) : zcal zty zcd false (d + 6) 117 [.ref 5, .int x1, .int x2] (zSH zn, I, L) 0 0 (fun r u => ∃ (K : Nat → Nat → Int64), r = some (.int (flsS V e x1 x2)) ∧ u = (zSH zn, I, K) ∧ (fr [78, 79, 82, 83] L K)) := by
  refine eX11_fails _ _ I L (gX11_fails_0 _ _ I L ⟨fun h => ⟨L, by rw [flsS, if_neg (fun z => h z.1)], rfl, fr_rf⟩, fun h => ⟨fun h2 => ?_, fun h2 => ⟨L, by rw [flsS, if_neg (fun z => h2 z.2)], rfl, fr_rf⟩⟩⟩)
  obtain ⟨f, rfl, -, hf, tf, -⟩ := nm_of (a := 0) (b := 38) (by decide) (by decide) h
  obtain ⟨x, rfl, -, hx, tx, -⟩ := nm_of (a := 0) (b := 1024) (by decide) (by decide) h2
  exact ⟨V, os, e, x, q0, q1, ⟨rfl, hx⟩, q2, fun K ⟨k1, k2⟩ => ⟨V, e, x, f, q0.1.1, k2, ⟨rfl, by omega⟩, K, by rw [flsS, if_pos ⟨h, h2⟩, tf, tx], rfl, k1⟩⟩

