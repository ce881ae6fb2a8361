/-! FAILS -/
noncomputable def flB (V : zVw) (e f x n : Nat) : Bool := (e.testBit n && (V n).isSome) && (tb V (qOf f) x n != tb V none x n)
noncomputable def FM (V : zVw) (e f x : Nat) : Nat := bm (flB V e f x) 19
theorem FM_lt (V : zVw) (e f x : Nat) : FM V e f x < 2 ^ 19 := bm_lt _ _
theorem FM_bit (V : zVw) (e f x n : Nat) : (FM V e f x).testBit n = (decide (n < 19) && flB V e f x n) := bm_test _ _ _
theorem flB_6 {V : zVw} (hV : okV V) {e f x n : Nat} (h : n < 6) : flB V e f x n = false := by
  unfold flB
  cases hv : V n with
  | none => simp
  | some ks => have := (hV n ks hv).1; omega
theorem qOf_38 {t : Nat} (h : 38 ≤ t) : qOf t = none := by unfold qOf; rw [if_neg (by omega)]
theorem FM_38 {V : zVw} {e t x : Nat} (h : 38 ≤ t) : FM V e t x = 0 := by
  unfold FM
  rw [bm_cong (q := fun _ => false) (fun i _ => by unfold flB; rw [qOf_38 h]; simp)]
  decide
theorem FM_0 {V : zVw} {e f x : Nat} : FM V e f x = 0 ↔ ∀ n, n < 19 → flB V e f x n = false := by
  constructor
  · intro h n hn
    have := FM_bit V e f x n
    rw [h, Nat.zero_testBit, decide_eq_true hn, Bool.true_and] at this
    exact this.symm
  · intro h
    unfold FM
    rw [bm_cong (q := fun _ => false) (fun i hi => h i hi)]
    decide
theorem q01_of (t : Nat) : q01 (qOf t) := by
  unfold qOf
  split
  · rcases (show t % 2 = 0 ∨ t % 2 = 1 by omega) with h | h
    · exact ⟨false, by rw [h]; rfl⟩
    · exact ⟨true, by rw [h]; rfl⟩
  · trivial
theorem end_nI {x : Int32} : (x &&& (-524225) = 0) ↔ ∃ e, x = nI e ∧ e < 2 ^ 19 ∧ ∀ i, i < 6 → e.testBit i = false := by
  have hm : ∀ i, i < 32 → (-524225 : Int32).toBitVec.getLsbD i = !(decide (6 ≤ i) && decide (i < 19)) := by decide +kernel
  constructor
  · intro h
    have hb : ∀ i, i < 32 → ¬ (6 ≤ i ∧ i < 19) → x.toBitVec.getLsbD i = false := fun i hi hn => by
      have h1 : (x &&& (-524225)).toBitVec.getLsbD i = false := by rw [h]; show (BitVec.ofNat 32 0).getLsbD i = false; simp
      rw [Int32.toBitVec_and, BitVec.getLsbD_and, hm i hi] at h1
      have h2 : (decide (6 ≤ i) && decide (i < 19)) = false := by
        cases h3 : (decide (6 ≤ i) && decide (i < 19)) with
        | false => rfl
        | true =>
          rw [Bool.and_eq_true] at h3
          exact absurd ⟨of_decide_eq_true h3.1, of_decide_eq_true h3.2⟩ hn
      rw [h2] at h1
      simpa using h1
    refine ⟨x.toBitVec.toNat, ?_, ?_, fun i hi => ?_⟩
    · apply Int32.toBitVec_inj.1
      show x.toBitVec = BitVec.ofNat 32 x.toBitVec.toNat
      rw [BitVec.ofNat_toNat, BitVec.setWidth_eq]
    · refine Nat.lt_of_not_le (fun z => ?_)
      have hne : x.toBitVec.toNat / 2 ^ 19 ≠ 0 := by
        have := Nat.div_pos z (Nat.two_pow_pos 19)
        omega
      obtain ⟨j, hj⟩ := Nat.exists_testBit_of_ne_zero hne
      rw [Nat.testBit_div_two_pow, BitVec.testBit_toNat] at hj
      by_cases h32 : 19 + j < 32
      · rw [Nat.add_comm, hb (19 + j) h32 (by omega)] at hj; cases hj
      · rw [BitVec.getLsbD_of_ge _ _ (by omega)] at hj; cases hj
    · rw [BitVec.testBit_toNat]; exact hb i (by omega) (by omega)
  · rintro ⟨e, rfl, he, h6⟩
    apply Int32.toBitVec_inj.1
    apply BitVec.eq_of_getLsbD_eq
    intro i hi
    rw [Int32.toBitVec_and, BitVec.getLsbD_and, hm i hi]
    have hz : (0 : Int32).toBitVec.getLsbD i = false := by show (BitVec.ofNat 32 0).getLsbD i = false; simp
    rw [hz]
    have hn : (nI e).toBitVec.getLsbD i = (BitVec.ofNat 32 e).getLsbD i := rfl
    rw [hn, BitVec.getLsbD_ofNat, decide_eq_true hi, Bool.true_and]
    by_cases h1 : i < 6
    · rw [h6 i h1]; rfl
    · by_cases h2 : i < 19
      · have h3 : 6 ≤ i := by omega
        simp [h2, h3]
      · rw [Nat.testBit_lt_two_pow (Nat.lt_of_lt_of_le he (Nat.pow_le_pow_right (by decide) (by omega)))]; rfl
abbrev RX11_ends (zn d : Nat) (post : zP) : zK := zRun (zcal zty zcd false (d + 0)) kX11_ends (zLM zn) post
theorem eX11_ends {zn d : Nat} {post : zP} (x1 : Int32) (I : Nat → Nat → Int32) (L : Nat → Nat → Int64) (h : RX11_ends zn d post 0 [some (.ref 5), some (.int x1), none] [] (zSH zn, I, L)) : zcal zty zcd false (d + 1) 116 [.ref 5, .int x1] (zSH zn, I, L) 0 0 post := zcal_of (d := d + 0) zmt116 zmc116 rfl (Nat.le_of_ble_eq_true rfl) h
theorem gX11_ends_0 {zn d : Nat} {post : zP} (x1 : Int32) (I : Nat → Nat → Int32) (L : Nat → Nat → Int64) (h : ((x1 &&& (-524225 : Int32)) = 0 → post (some (.int (I 5 15))) (zSH zn, (zi I 5 15 x1), L)) ∧ (¬ (x1 &&& (-524225 : Int32)) = 0 → post (some (.int (-1 : Int32))) (zSH zn, I, L))) : RX11_ends zn d post 0 [some (.ref 5), some (.int x1), none] [] (zSH zn, I, L) := fun P hw hc => hc _ tX11_ends_0 _ _ _ (hc _ tX11_ends_1 _ _ _ (hc _ tX11_ends_4 _ _ _ (hc _ tX11_ends_5 _ _ _ (⟨fun c1 => hc _ tX11_ends_10 _ _ _ (hc _ tX11_ends_11 _ _ _ (⟨_, sh5, (by decide), hc _ tX11_ends_14 _ _ _ (hc _ tX11_ends_15 _ _ _ (hc _ tX11_ends_16 _ _ _ (hc _ tX11_ends_17 _ _ _ (⟨_, sh5, (by decide), nofun, hc _ tX11_ends_20 _ _ _ (hc _ tX11_ends_21 _ _ _ (⟨nofun, rfl, rfl, (h.1 c1)⟩))⟩))))⟩)), fun c2 => hc _ tX11_ends_8 _ _ _ (hc _ tX11_ends_9 _ _ _ (⟨nofun, rfl, rfl, (h.2 c2)⟩))⟩))))
theorem ctX11_ends {zn d : Nat} (x1 : Int32) (I : Nat → Nat → Int32) (L : Nat → Nat → Int64)  : zcal zty zcd false (d + 1) 116 [.ref 5, .int x1] (zSH zn, I, L) 0 0 (fun r u => ∃ (J : Nat → Nat → Int32), ∃ (v : Int32), r = some (.int v) ∧ u = (zSH zn, J, L) ∧ (if x1 &&& (-524225) = 0 then v = I 5 15 ∧ J = zi I 5 15 x1 else v = -1 ∧ J = I)) := by
  exact eX11_ends _ I L (gX11_ends_0 _ I L ⟨fun h => ⟨_, _, rfl, rfl, by rw [if_pos h]; exact ⟨rfl, rfl⟩⟩, fun h => ⟨_, _, rfl, rfl, by rw [if_neg h]; exact ⟨rfl, rfl⟩⟩⟩)
abbrev RX12_ends (zn d : Nat) (post : zP) : zK := zRun (zcal zty zcd false (d + 0)) kX12_ends (zLM zn) post
theorem eX12_ends {zn d : Nat} {post : zP} (x1 : Int32) (I : Nat → Nat → Int32) (L : Nat → Nat → Int64) (h : RX12_ends zn d post 0 [some (.ref 115), some (.int x1), none] [] (zSH zn, I, L)) : zcal zty zcd false (d + 1) 197 [.ref 115, .int x1] (zSH zn, I, L) 0 0 post := zcal_of (d := d + 0) zmt197 zmc197 rfl (Nat.le_of_ble_eq_true rfl) h
theorem gX12_ends_0 {zn d : Nat} {post : zP} (x1 : Int32) (I : Nat → Nat → Int32) (L : Nat → Nat → Int64) (h : (x1 < 0 → post (some (.int (-1 : Int32))) (zSH zn, I, L)) ∧ (¬ x1 < 0 → ((x1 &&& (-524225 : Int32)) = 0 → post (some (.int (I 126 0))) (zSH zn, (zi I 126 0 x1), L)) ∧ (¬ (x1 &&& (-524225 : Int32)) = 0 → post (some (.int (-1 : Int32))) (zSH zn, I, L)))) : RX12_ends zn d post 0 [some (.ref 115), some (.int x1), none] [] (zSH zn, I, L) := fun P hw hc => hc _ tX12_ends_0 _ _ _ (hc _ tX12_ends_1 _ _ _ (⟨fun c1 => hc _ tX12_ends_11 _ _ _ (hc _ tX12_ends_12 _ _ _ (⟨nofun, rfl, rfl, (h.1 c1)⟩)), fun c2 => hc _ tX12_ends_4 _ _ _ (hc _ tX12_ends_5 _ _ _ (hc _ tX12_ends_7 _ _ _ (hc _ tX12_ends_8 _ _ _ (⟨fun c3 => hc _ tX12_ends_13 _ _ _ (hc _ tX12_ends_14 _ _ _ (⟨_, _, sh115, (by decide), rfl, hc _ tX12_ends_17 _ _ _ (hc _ tX12_ends_18 _ _ _ (⟨_, _, _, sh126, Or.inl ⟨rfl, (by decide)⟩, zvin (by decide), hc _ tX12_ends_19 _ _ _ (hc _ tX12_ends_20 _ _ _ (hc _ tX12_ends_21 _ _ _ (⟨_, _, sh115, (by decide), rfl, hc _ tX12_ends_24 _ _ _ (hc _ tX12_ends_25 _ _ _ (hc _ tX12_ends_26 _ _ _ (⟨_, _, sh126, (by decide), zvin (by decide), hc _ tX12_ends_27 _ _ _ (hc _ tX12_ends_28 _ _ _ (⟨nofun, rfl, rfl, ((h.2 c2).1 c3)⟩))⟩)))⟩)))⟩))⟩)), fun c4 => hc _ tX12_ends_11 _ _ _ (hc _ tX12_ends_12 _ _ _ (⟨nofun, rfl, rfl, ((h.2 c2).2 c4)⟩))⟩))))⟩))
theorem ctX12_ends {zn d : Nat} (x1 : Int32) (I : Nat → Nat → Int32) (L : Nat → Nat → Int64)  : zcal zty zcd false (d + 1) 197 [.ref 115, .int x1] (zSH zn, I, L) 0 0 (fun r u => ∃ (J : Nat → Nat → Int32), ∃ (v : Int32), r = some (.int v) ∧ u = (zSH zn, J, L) ∧ (if x1 &&& (-524225) = 0 then v = I 126 0 ∧ J = zi I 126 0 x1 else v = -1 ∧ J = I)) := by
  refine eX12_ends _ I L (gX12_ends_0 _ I L ⟨fun h0 => ⟨_, _, rfl, rfl, ?_⟩, fun h0 => ⟨fun h => ⟨_, _, rfl, rfl, by rw [if_pos h]; exact ⟨rfl, rfl⟩⟩, fun h => ⟨_, _, rfl, rfl, by rw [if_neg h]; exact ⟨rfl, rfl⟩⟩⟩⟩)
  rw [if_neg]
  · exact ⟨rfl, rfl⟩
  · intro z
    obtain ⟨e, rfl, he, -⟩ := end_nI.mp z
    exact absurd h0 (by rw [nl0, nI_ltI (by omega) (by decide)]; omega)
/-- what is STUCK now, in the reference -/
def stR (I : Nat → Nat → Int32) (q : Option (Nat × Int32)) : Prop := match q with
  | none => I 115 18 = -4
  | some (nm, v) => nm < 19 ∧ I 115 18 = nI nm ∧ I 115 19 = v
theorem stR_p {I : Nat → Nat → Int32} {q : Option (Nat × Int32)} (h : stR I q) : ∀ w y, w < 19 → pstR I w y = pq q w y := by
  cases q with
  | none => exact pq_none h
  | some p =>
    obtain ⟨nm, v⟩ := p
    exact pq_some h.1 h.2.1 h.2.2
noncomputable def eB (V : zVw) (e : Nat) (q : Option (Nat × Int32)) (x n : Nat) : Bool := (e.testBit n && (V n).isSome) && tb V q x n
abbrev RX12_endsOf (zn d : Nat) (post : zP) : zK := zRun (zcal zty zcd false (d + 5)) kX12_endsOf (zLM zn) post
theorem eX12_endsOf {zn d : Nat} {post : zP} (x1 : Int32) (I : Nat → Nat → Int32) (L : Nat → Nat → Int64) (h : RX12_endsOf zn d post 0 [some (.ref 115), some (.int x1), none, none] [] (zSH zn, I, L)) : zcal zty zcd false (d + 6) 198 [.ref 115, .int x1] (zSH zn, I, L) 0 0 post := zcal_of (d := d + 5) zmt198 zmc198 rfl (Nat.le_of_ble_eq_true rfl) h
theorem gX12_endsOf_0 {zn d : Nat} {post : zP} (x1 : Int32) (I : Nat → Nat → Int32) (L : Nat → Nat → Int64) (h : (∃ (V2 : zVw) (os3 : List Nat), (zs (1 : Int32) 6) ∧ (rEv I (tn (1 : Int32)) V2 os3) ∧ (∀ (J1 : Nat → Nat → Int32), (rRow I J1 V2 x1) → RX12_endsOf zn d post 11 [some (.ref 115), some (.int x1), some (.int (0 : Int32)), some (.int (6 : Int32))] [] (zSH zn, J1, L)))) : RX12_endsOf zn d post 0 [some (.ref 115), some (.int x1), none, none] [] (zSH zn, I, L) := fun P hw hc => hc _ tX12_endsOf_0 _ _ _ (hc _ tX12_endsOf_1 _ _ _ (hc _ tX12_endsOf_2 _ _ _ ((by obtain ⟨V2, os3, hg4⟩ := h; exact hc _ tX12_endsOf_3 _ _ _ (⟨⟨_, _, _, rfl, (by decide), sh115⟩, ⟨Nat.le_of_ble_eq_true rfl, Nat.le_of_ble_eq_true rfl, zl1, zl2, _, ctX12_layRow (1 : Int32) x1 I L V2 os3 hg4.1 hg4.2.1, fun r u k6 => by obtain ⟨J1, rfl, rfl, p5⟩ := k6; exact ⟨zl3, zl4, hc _ tX12_endsOf_6 _ _ _ (hc _ tX12_endsOf_7 _ _ _ (hc _ tX12_endsOf_8 _ _ _ (hc _ tX12_endsOf_10 _ _ _ ((hg4.2.2 J1 p5) P hw hc))))⟩⟩⟩)))))
theorem gX12_endsOf_11 {zn d : Nat} {post : zP} (x1 : Int32) (x2 : Int32) (x3 : Int32) (I : Nat → Nat → Int32) (L : Nat → Nat → Int64) (h : ((19 : Int32) ≤ x3 → post (some (.int x2)) (zSH zn, I, L)) ∧ (¬ (19 : Int32) ≤ x3 → (zs (1 : Int32) 6) ∧ (zs x3 18) ∧ ((¬ ((¬ I 120 (19 * tn (1 : Int32) + tn x3) = -4)) → RX12_endsOf zn d post 11 [some (.ref 115), some (.int x1), some (.int x2), some (.int (x3 + (1 : Int32)))] [] (zSH zn, I, L)) ∧ ((¬ I 120 (19 * tn (1 : Int32) + tn x3) = -4) → (¬ (((I 126 0) >>> (x3 &&& 31)) &&& (1 : Int32)) = (1 : Int32) → RX12_endsOf zn d post 11 [some (.ref 115), some (.int x1), some (.int x2), some (.int (x3 + (1 : Int32)))] [] (zSH zn, I, L)) ∧ ((((I 126 0) >>> (x3 &&& 31)) &&& (1 : Int32)) = (1 : Int32) → (x3 ≤ (14 : Int32) → (zs x3 18) ∧ (RX12_endsOf zn d post 11 [some (.ref 115), some (.int x1), some (.int (x2 ||| ((usR I (tn x3)) <<< (x3 &&& 31)))), some (.int (x3 + (1 : Int32)))] [] (zSH zn, I, L))) ∧ (¬ x3 ≤ (14 : Int32) → (∃ (ks11 : List Nat) (f12 : Nat), (lnR I (tn (1 : Int32)) (tn x3) ks11 f12) ∧ (wfl ks11) ∧ (zs (1 : Int32) 6) ∧ (zs x3 18) ∧ (∀ (M10 : Nat → Int32), RX12_endsOf zn d post 11 [some (.ref 115), some (.int x1), some (.int (x2 ||| ((ev opT (usR I) 0 ks11) <<< (x3 &&& 31)))), some (.int (x3 + (1 : Int32)))] [] (zSH zn, (zrI I 131 M10), L))))))))) : RX12_endsOf zn d post 11 [some (.ref 115), some (.int x1), some (.int x2), some (.int x3)] [] (zSH zn, I, L) := fun P hw hc => hc _ tX12_endsOf_11 _ _ _ (hc _ tX12_endsOf_12 _ _ _ (hc _ tX12_endsOf_14 _ _ _ (⟨fun c1 => hc _ tX12_endsOf_71 _ _ _ (hc _ tX12_endsOf_72 _ _ _ (⟨nofun, rfl, rfl, (h.1 c1)⟩)), fun c2 => hc _ tX12_endsOf_17 _ _ _ (hc _ tX12_endsOf_18 _ _ _ (hc _ tX12_endsOf_19 _ _ _ (hc _ tX12_endsOf_20 _ _ _ (⟨⟨_, _, _, rfl, (by decide), sh115⟩, ⟨Nat.le_of_ble_eq_true rfl, Nat.le_of_ble_eq_true rfl, zl1, zl2, _, ctX12_has (1 : Int32) x3 I L ((h.2 c2).1) ((h.2 c2).2.1), fun r u k15 => by obtain ⟨rfl, rfl⟩ := k15; exact ⟨zl3, zl4, hc _ tX12_endsOf_23 _ _ _ (⟨fun c3 => hc _ tX12_endsOf_65 _ _ _ (hc _ tX12_endsOf_68 _ _ _ (((h.2 c2).2.2.1 (zb_e c3)) P hw hc)), fun c4 => hc _ tX12_endsOf_26 _ _ _ (hc _ tX12_endsOf_27 _ _ _ (⟨_, _, sh115, (by decide), rfl, hc _ tX12_endsOf_30 _ _ _ (hc _ tX12_endsOf_31 _ _ _ (⟨_, _, _, sh126, Or.inl ⟨rfl, (by decide)⟩, zvin (by decide), hc _ tX12_endsOf_32 _ _ _ (hc _ tX12_endsOf_33 _ _ _ (hc _ tX12_endsOf_34 _ _ _ (hc _ tX12_endsOf_35 _ _ _ (hc _ tX12_endsOf_36 _ _ _ (hc _ tX12_endsOf_37 _ _ _ (⟨fun c5 => hc _ tX12_endsOf_65 _ _ _ (hc _ tX12_endsOf_68 _ _ _ ((((h.2 c2).2.2.2 (zb_n c4)).1 c5) P hw hc)), fun c6 => hc _ tX12_endsOf_40 _ _ _ (hc _ tX12_endsOf_41 _ _ _ (hc _ tX12_endsOf_42 _ _ _ (hc _ tX12_endsOf_44 _ _ _ (⟨fun c7 => hc _ tX12_endsOf_56 _ _ _ (hc _ tX12_endsOf_57 _ _ _ (hc _ tX12_endsOf_58 _ _ _ (⟨⟨_, _, _, rfl, (by decide), sh115⟩, ⟨Nat.le_of_ble_eq_true rfl, Nat.le_of_ble_eq_true rfl, zl1, zl2, _, ctX12_used x3 I L (((((h.2 c2).2.2.2 (zb_n c4)).2 c6).1 c7).1), fun r u k9 => by obtain ⟨rfl, rfl⟩ := k9; exact ⟨zl3, zl4, hc _ tX12_endsOf_61 _ _ _ (hc _ tX12_endsOf_62 _ _ _ (hc _ tX12_endsOf_63 _ _ _ (hc _ tX12_endsOf_64 _ _ _ (hc _ tX12_endsOf_65 _ _ _ (hc _ tX12_endsOf_68 _ _ _ (((((h.2 c2).2.2.2 (zb_n c4)).2 c6).1 c7).2 P hw hc))))))⟩⟩⟩))), fun c8 => hc _ tX12_endsOf_47 _ _ _ (hc _ tX12_endsOf_48 _ _ _ (hc _ tX12_endsOf_49 _ _ _ ((by obtain ⟨ks11, f12, hg13⟩ := ((((h.2 c2).2.2.2 (zb_n c4)).2 c6).2 c8); exact hc _ tX12_endsOf_50 _ _ _ (⟨⟨_, _, _, rfl, (by decide), sh115⟩, ⟨Nat.le_of_ble_eq_true rfl, Nat.le_of_ble_eq_true rfl, zl1, zl2, _, ctX12_made (1 : Int32) x3 I L ks11 f12 hg13.1 hg13.2.1 hg13.2.2.1 hg13.2.2.2.1, fun r u k14 => by obtain ⟨M10, rfl, rfl⟩ := k14; exact ⟨zl3, zl4, hc _ tX12_endsOf_53 _ _ _ (hc _ tX12_endsOf_61 _ _ _ (hc _ tX12_endsOf_62 _ _ _ (hc _ tX12_endsOf_63 _ _ _ (hc _ tX12_endsOf_64 _ _ _ (hc _ tX12_endsOf_65 _ _ _ (hc _ tX12_endsOf_68 _ _ _ ((hg13.2.2.2.2 M10) P hw hc)))))))⟩⟩⟩)))))⟩))))⟩))))))⟩))⟩))⟩)⟩⟩⟩))))⟩)))
theorem ctX12_endsOf {zn d : Nat} (x1 : Int32) (I : Nat → Nat → Int32) (L : Nat → Nat → Int64) (V : zVw) (ps : List Nat) (e : Nat) (q : Option (Nat × Int32)) (x : Nat) (q0 : rEv I 1 V ps) (q1 : I 126 0 = nI e ∧ e < 2 ^ 19) (q2 : stR I q ∧ q01 q) (q3 : x1 = nI x ∧ x < 1024) : zcal zty zcd false (d + 6) 198 [.ref 115, .int x1] (zSH zn, I, L) 0 0 (fun r u => ∃ (J : Nat → Nat → Int32), r = some (.int (nI (bm (eB V e q x) 19))) ∧ u = (zSH zn, J, L) ∧ (fr [130, 131] I J)) := by
  have t1 : tn (1 : Int32) = 1 := by decide
  have z1 : zs (1 : Int32) 6 := ⟨1, by decide, by decide⟩
  obtain ⟨rfl, hx⟩ := q3
  obtain ⟨hst, hq⟩ := q2
  obtain ⟨ee, he⟩ := q1
  refine eX12_endsOf _ I L (gX12_endsOf_0 _ I L ⟨V, ps, z1, by rw [t1]; exact q0, fun J hJ => ?_⟩)
  have hrow := ref_row hJ (stR_p hst)
  have htw := rEv_tw q0
  have hV := q0.1
  have hsh : ∀ n, n < 19 → shv V (usR J) n = tri (tb V q x n) := fun n hn => by
    rw [← tv_eq hV htw hrow hn]; exact tv_tri hV htw hq (by omega) hrow hn
  have loop : ∀ n K, n ≤ 19 → (6 ≤ n ∧ fr [131] J K) → RX12_endsOf zn d (fun r u => ∃ (J : Nat → Nat → Int32), r = some (.int (nI (bm (eB V e q x) 19))) ∧ u = (zSH zn, J, L) ∧ (fr [130, 131] I J)) 11 [some (.ref 115), some (.int (nI x)), some (.int (nI (bm (eB V e q x) n))), some (.int (nI n))] [] (zSH zn, K, L) := by
    refine zup (fun K hK => ?_) (fun n K hn hK ih => ?_)
    · exact gX12_endsOf_11 _ _ _ K L ⟨fun _ => ⟨K, rfl, rfl, fr_trans hJ.1 (fr_sub hK.2 (by decide))⟩, fun hc => absurd (by decide) hc⟩
    · obtain ⟨h6, f1⟩ := hK
      have fK : fr [130, 131] I K := fr_trans hJ.1 (fr_sub f1 (by decide))
      have cK := rEv_fr q0 fK
      have tnn : tn (nI n) = n := tn_nI (by omega)
      have zn' : zs (nI n) 18 := ⟨n, by omega, rfl⟩
      have hu : usR K = usR J := by funext m; unfold usR; rw [f1 130 (by decide), f1 115 (by decide)]
      have hb1 := bm_or1 (p := eB V e q x) (r := n) (by omega)
      refine gX12_endsOf_11 _ _ _ K L ⟨fun hc => absurd hc (by rw [nl 19, nI_leI (by decide) (by omega)]; omega), fun _ => ⟨z1, zn', ?_⟩⟩
      rw [t1, tnn, rLn_has cK.2.1 hn, fK 126 (by decide), ee, nI_has1 (by omega) (by omega), nI_1, nl 14, nI_leI (by omega) (by decide), hu]
      have no : ∀ (_ : eB V e q x n = false), bm (eB V e q x) (n + 1) = bm (eB V e q x) n := fun z => by rw [bm_s, if_neg (by rw [z]; decide)]
      refine ⟨fun h5 => ?_, fun h5 => ⟨fun h7 => ?_, fun h7 => ?_⟩⟩
      · have hih := ih K ⟨by omega, f1⟩
        rw [no (by unfold eB; have : (V n).isSome = false := by simpa using h5
                   rw [this]; simp)] at hih
        exact hih
      · have hih := ih K ⟨by omega, f1⟩
        rw [no (by unfold eB; have : e.testBit n = false := by simpa using h7
                   rw [this]; simp)] at hih
        exact hih
      · obtain ⟨ks, hk⟩ := Option.isSome_iff_exists.mp h5
        have hb2 : eB V e q x n = tb V q x n := by unfold eB; rw [h7, h5]; simp
        rw [hb2] at hb1
        have hs := hsh n hn
        unfold shv at hs
        rw [hk] at hs
        simp only at hs
        refine ⟨fun h14 => ⟨zn', ?_⟩, fun h14 => ?_⟩
        · rw [if_neg (by omega)] at hs
          rw [hs, hb1]
          exact ih K ⟨by omega, f1⟩
        · rw [if_pos (by omega)] at hs
          have hl := cK.2.1 n hn
          rw [hk] at hl
          obtain ⟨f, hf⟩ := hl
          refine ⟨ks, f, hf, (hV n ks hk).2.2, z1, zn', fun M => ?_⟩
          rw [hs, hb1]
          exact ih _ ⟨by omega, zrI_fr f1 (by decide)⟩
  have h0 := loop 6 J (by decide) ⟨by decide, fr_rf⟩
  have e0 : bm (eB V e q x) 6 = 0 := by
    rw [bm_cong (q := fun _ => false) (fun i hi => by
      unfold eB
      cases hv : V i with
      | none => simp
      | some ks => have := (hV i ks hv).1; omega)]
    decide
  rw [e0] at h0
  exact h0
theorem nI_xor (a b : Nat) : nI a ^^^ nI b = nI (a ^^^ b) := by
  apply Int32.toBitVec_inj.mp
  show BitVec.ofNat 32 a ^^^ BitVec.ofNat 32 b = BitVec.ofNat 32 (a ^^^ b)
  rw [BitVec.ofNat_xor]
theorem eB_FM {V : zVw} {e f x : Nat} : bm (eB V e none x) 19 ^^^ bm (eB V e (qOf f) x) 19 = FM V e f x := by
  refine bm_eq (Nat.xor_lt_two_pow (bm_lt _ _) (bm_lt _ _)) (fun i hi => ?_)
  rw [Nat.testBit_xor, bm_test, bm_test, decide_eq_true hi]
  unfold eB flB
  cases e.testBit i <;> cases (V i).isSome <;> cases tb V none x i <;> cases tb V (qOf f) x i <;> rfl
theorem half_f : ∀ f, f < 38 → nI f / 2 = nI (f / 2) ∧ nI f - nI f / 2 * 2 = nI (f % 2) := by decide +kernel
abbrev RX12_failsOf (zn d : Nat) (post : zP) : zK := zRun (zcal zty zcd false (d + 6)) kX12_failsOf (zLM zn) post
theorem eX12_failsOf {zn d : Nat} {post : zP} (x1 : Int32) (x2 : Int32) (I : Nat → Nat → Int32) (L : Nat → Nat → Int64) (h : RX12_failsOf zn d post 0 [some (.ref 115), some (.int x1), some (.int x2), none, none] [] (zSH zn, I, L)) : zcal zty zcd false (d + 7) 199 [.ref 115, .int x1, .int x2] (zSH zn, I, L) 0 0 post := zcal_of (d := d + 6) zmt199 zmc199 rfl (Nat.le_of_ble_eq_true rfl) h
theorem gX12_failsOf_0 {zn d : Nat} {post : zP} (x1 : Int32) (x2 : Int32) (I : Nat → Nat → Int32) (L : Nat → Nat → Int64) (h : (∃ (V2 : zVw) (ps3 : List Nat) (e4 : Nat) (q5 : Option (Nat × Int32)) (x6 : Nat), (rEv I 1 V2 ps3) ∧ (I 126 0 = nI e4 ∧ e4 < 2 ^ 19) ∧ (stR I q5 ∧ q01 q5) ∧ (x2 = nI x6 ∧ x6 < 1024) ∧ (∀ (J1 : Nat → Nat → Int32), (fr [130, 131] I J1) → (∃ (V10 : zVw) (ps11 : List Nat) (e12 : Nat) (q13 : Option (Nat × Int32)) (x14 : Nat), (rEv (zi (zi J1 115 18 (x1 / (2 : Int32))) 115 19 (x1 - x1 / (2 : Int32) * (2 : Int32))) 1 V10 ps11) ∧ ((zi (zi J1 115 18 (x1 / (2 : Int32))) 115 19 (x1 - x1 / (2 : Int32) * (2 : Int32))) 126 0 = nI e12 ∧ e12 < 2 ^ 19) ∧ (stR (zi (zi J1 115 18 (x1 / (2 : Int32))) 115 19 (x1 - x1 / (2 : Int32) * (2 : Int32))) q13 ∧ q01 q13) ∧ (x2 = nI x14 ∧ x14 < 1024) ∧ (∀ (J9 : Nat → Nat → Int32), (fr [130, 131] (zi (zi J1 115 18 (x1 / (2 : Int32))) 115 19 (x1 - x1 / (2 : Int32) * (2 : Int32))) J9) → post (some (.int ((nI (bm (eB V2 e4 q5 x6) 19)) ^^^ (nI (bm (eB V10 e12 q13 x14) 19))))) (zSH zn, (zi J9 115 18 (-4 : Int32)), L)))))) : RX12_failsOf zn d post 0 [some (.ref 115), some (.int x1), some (.int x2), none, none] [] (zSH zn, I, L) := fun P hw hc => hc _ tX12_failsOf_0 _ _ _ (hc _ tX12_failsOf_1 _ _ _ ((by obtain ⟨V2, ps3, e4, q5, x6, hg7⟩ := h; exact hc _ tX12_failsOf_2 _ _ _ (⟨⟨_, _, _, rfl, (by decide), sh115⟩, ⟨Nat.le_of_ble_eq_true rfl, Nat.le_of_ble_eq_true rfl, zl1, zl2, _, ctX12_endsOf x2 I L V2 ps3 e4 q5 x6 hg7.1 hg7.2.1 hg7.2.2.1 hg7.2.2.2.1, fun r u k18 => by obtain ⟨J1, rfl, rfl, p8⟩ := k18; exact ⟨zl3, zl4, hc _ tX12_failsOf_5 _ _ _ (hc _ tX12_failsOf_6 _ _ _ (hc _ tX12_failsOf_7 _ _ _ (hc _ tX12_failsOf_8 _ _ _ (hc _ tX12_failsOf_9 _ _ _ (⟨by decide, hc _ tX12_failsOf_10 _ _ _ (⟨_, sh115, (by decide), nofun, hc _ tX12_failsOf_13 _ _ _ (hc _ tX12_failsOf_14 _ _ _ (hc _ tX12_failsOf_15 _ _ _ (hc _ tX12_failsOf_16 _ _ _ (⟨by decide, hc _ tX12_failsOf_17 _ _ _ (⟨_, sh115, (by decide), nofun, hc _ tX12_failsOf_20 _ _ _ (hc _ tX12_failsOf_21 _ _ _ ((by obtain ⟨V10, ps11, e12, q13, x14, hg15⟩ := (hg7.2.2.2.2 J1 p8); exact hc _ tX12_failsOf_22 _ _ _ (⟨⟨_, _, _, rfl, (by decide), sh115⟩, ⟨Nat.le_of_ble_eq_true rfl, Nat.le_of_ble_eq_true rfl, zl1, zl2, _, ctX12_endsOf x2 (zi (zi J1 115 18 (x1 / (2 : Int32))) 115 19 (x1 - x1 / (2 : Int32) * (2 : Int32))) L V10 ps11 e12 q13 x14 hg15.1 hg15.2.1 hg15.2.2.1 hg15.2.2.2.1, fun r u k17 => by obtain ⟨J9, rfl, rfl, p16⟩ := k17; exact ⟨zl3, zl4, hc _ tX12_failsOf_25 _ _ _ (hc _ tX12_failsOf_27 _ _ _ (hc _ tX12_failsOf_28 _ _ _ (hc _ tX12_failsOf_30 _ _ _ (⟨_, sh115, (by decide), nofun, hc _ tX12_failsOf_33 _ _ _ (hc _ tX12_failsOf_34 _ _ _ (hc _ tX12_failsOf_36 _ _ _ (hc _ tX12_failsOf_37 _ _ _ (⟨nofun, rfl, rfl, (hg15.2.2.2.2 J9 p16)⟩))))⟩))))⟩⟩⟩))))⟩)⟩))))⟩)⟩)))))⟩⟩⟩))))
theorem ctX12_failsOf {zn d : Nat} (x1 : Int32) (x2 : Int32) (I : Nat → Nat → Int32) (L : Nat → Nat → Int64) (V : zVw) (ps : List Nat) (e : Nat) (f : Nat) (x : Nat) (q0 : rEv I 1 V ps) (q1 : I 126 0 = nI e ∧ e < 2 ^ 19) (q2 : I 115 18 = -4) (q3 : x1 = nI f ∧ f < 38) (q4 : x2 = nI x ∧ x < 1024) : zcal zty zcd false (d + 7) 199 [.ref 115, .int x1, .int x2] (zSH zn, I, L) 0 0 (fun r u => ∃ (J : Nat → Nat → Int32), r = some (.int (nI (FM V e f x))) ∧ u = (zSH zn, J, L) ∧ (fr [115, 130, 131] I J ∧ ∀ s, s ≠ 19 → J 115 s = I 115 s)) := by
  obtain ⟨rfl, hf⟩ := q3
  obtain ⟨rfl, hx⟩ := q4
  obtain ⟨h1, h2⟩ := half_f f hf
  refine eX12_failsOf _ _ I L (gX12_failsOf_0 _ _ I L ⟨V, ps, e, none, x, q0, q1, ⟨q2, trivial⟩, ⟨rfl, hx⟩, fun J hJ => ?_⟩)
  rw [h2, h1]
  generalize hK : zi (zi J 115 18 (nI (f / 2))) 115 19 (nI (f % 2)) = K
  have fK : fr [115] J K := by rw [← hK]; exact fr_trans (fr_zi (by decide)) (fr_zi (by decide))
  have fI : fr [115, 130, 131] I K := fr_trans (fr_sub hJ (by decide)) (fr_sub fK (by decide))
  have k18 : K 115 18 = nI (f / 2) := by rw [← hK, zi_at, if_neg (by decide), zi_at, if_pos ⟨rfl, rfl⟩]
  have k19 : K 115 19 = nI (f % 2) := by rw [← hK, zi_at, if_pos ⟨rfl, rfl⟩]
  have ks : ∀ s, s ≠ 18 → s ≠ 19 → K 115 s = I 115 s := fun s h3 h4 => by rw [← hK, zi_at, if_neg (fun z => h4 z.2), zi_at, if_neg (fun z => h3 z.2), hJ 115 (by decide)]
  have eq : qOf f = some (f / 2, nI (f % 2)) := by unfold qOf; rw [if_pos hf]
  refine ⟨V, ps, e, qOf f, x, rEv_any q0 (fI 118 (by decide)) (fI 119 (by decide)) (fI 120 (by decide)) (fI 122 (by decide)) (fI 123 (by decide)), by rw [fI 126 (by decide)]; exact q1, ⟨by rw [eq]; exact ⟨by omega, k18, k19⟩, q01_of f⟩, ⟨rfl, hx⟩, fun M hM => ⟨_, ?_, rfl, ?_, fun s hs => ?_⟩⟩
  · rw [nI_xor, eB_FM]
  · exact fr_trans fI (fr_trans (fr_sub hM (by decide)) (fr_zi (by decide)))
  · rw [zi_at]
    by_cases h18 : s = 18
    · rw [if_pos ⟨rfl, h18⟩, h18, q2]
    · rw [if_neg (fun z => h18 z.2), hM 115 (by decide)]; exact ks s h18 hs
noncomputable def flsS (V : zVw) (e : Nat) (x y : Int32) : Int32 := if (0 ≤ x ∧ x < 38) ∧ 0 ≤ y ∧ y < 1024 then nI (FM V e (tn x) (tn y)) else -1
abbrev RX12_fails (zn d : Nat) (post : zP) : zK := zRun (zcal zty zcd false (d + 7)) kX12_fails (zLM zn) post
theorem eX12_fails {zn d : Nat} {post : zP} (x1 : Int32) (x2 : Int32) (I : Nat → Nat → Int32) (L : Nat → Nat → Int64) (h : RX12_fails zn d post 0 [some (.ref 115), some (.int x1), some (.int x2)] [] (zSH zn, I, L)) : zcal zty zcd false (d + 8) 200 [.ref 115, .int x1, .int x2] (zSH zn, I, L) 0 0 post := zcal_of (d := d + 7) zmt200 zmc200 rfl (Nat.le_of_ble_eq_true rfl) h
theorem gX12_fails_0 {zn d : Nat} {post : zP} (x1 : Int32) (x2 : Int32) (I : Nat → Nat → Int32) (L : Nat → Nat → Int64) (h : (¬ ((0 : Int32) ≤ x1 ∧ x1 ≤ (37 : Int32)) → post (some (.int (-1 : Int32))) (zSH zn, I, L)) ∧ ((0 : Int32) ≤ x1 ∧ x1 ≤ (37 : Int32) → (¬ ((0 : Int32) ≤ x2 ∧ x2 ≤ (1023 : Int32)) → post (some (.int (-1 : Int32))) (zSH zn, I, L)) ∧ ((0 : Int32) ≤ x2 ∧ x2 ≤ (1023 : Int32) → (∃ (V6 : zVw) (ps7 : List Nat) (e8 : Nat) (f9 : Nat) (x10 : Nat), (rEv I 1 V6 ps7) ∧ (I 126 0 = nI e8 ∧ e8 < 2 ^ 19) ∧ (I 115 18 = -4) ∧ (x1 = nI f9 ∧ f9 < 38) ∧ (x2 = nI x10 ∧ x10 < 1024) ∧ (∀ (J5 : Nat → Nat → Int32), (fr [115, 130, 131] I J5 ∧ ∀ s, s ≠ 19 → J5 115 s = I 115 s) → post (some (.int (nI (FM V6 e8 f9 x10)))) (zSH zn, J5, L)))))) : RX12_fails zn d post 0 [some (.ref 115), some (.int x1), some (.int x2)] [] (zSH zn, I, L) := fun P hw hc => hc _ tX12_fails_0 _ _ _ (hc _ tX12_fails_1 _ _ _ (hc _ tX12_fails_2 _ _ _ (hc _ tX12_fails_4 _ _ _ (⟨Nat.le_of_ble_eq_true rfl, Nat.le_of_ble_eq_true rfl, zl1, zl2, _, ctX12_in x1 (0 : Int32) (37 : Int32) I L, fun r u k15 => by obtain ⟨rfl, rfl⟩ := k15; exact ⟨zl3, zl4, hc _ tX12_fails_7 _ _ _ (⟨fun c1 => hc _ tX12_fails_30 _ _ _ (hc _ tX12_fails_31 _ _ _ (⟨nofun, rfl, rfl, (h.1 (zb_e c1))⟩)), fun c2 => hc _ tX12_fails_10 _ _ _ (hc _ tX12_fails_11 _ _ _ (hc _ tX12_fails_12 _ _ _ (hc _ tX12_fails_15 _ _ _ (⟨Nat.le_of_ble_eq_true rfl, Nat.le_of_ble_eq_true rfl, zl1, zl2, _, ctX12_in x2 (0 : Int32) (1023 : Int32) I L, fun r u k14 => by obtain ⟨rfl, rfl⟩ := k14; exact ⟨zl3, zl4, hc _ tX12_fails_18 _ _ _ (⟨fun c3 => hc _ tX12_fails_30 _ _ _ (hc _ tX12_fails_31 _ _ _ (⟨nofun, rfl, rfl, ((h.2 (zb_n c2)).1 (zb_e c3))⟩)), fun c4 => hc _ tX12_fails_21 _ _ _ (hc _ tX12_fails_22 _ _ _ (hc _ tX12_fails_23 _ _ _ ((by obtain ⟨V6, ps7, e8, f9, x10, hg11⟩ := ((h.2 (zb_n c2)).2 (zb_n c4)); exact hc _ tX12_fails_24 _ _ _ (⟨⟨_, _, _, rfl, (by decide), sh115⟩, ⟨Nat.le_of_ble_eq_true rfl, Nat.le_of_ble_eq_true rfl, zl1, zl2, _, ctX12_failsOf x1 x2 I L V6 ps7 e8 f9 x10 hg11.1 hg11.2.1 hg11.2.2.1 hg11.2.2.2.1 hg11.2.2.2.2.1, fun r u k13 => by obtain ⟨J5, rfl, rfl, p12⟩ := k13; exact ⟨zl3, zl4, hc _ tX12_fails_27 _ _ _ (hc _ tX12_fails_31 _ _ _ (⟨nofun, rfl, rfl, (hg11.2.2.2.2.2 J5 p12)⟩))⟩⟩⟩)))))⟩)⟩⟩))))⟩)⟩⟩))))
theorem ctX12_fails {zn d : Nat} (x1 : Int32) (x2 : Int32) (I : Nat → Nat → Int32) (L : Nat → Nat → Int64) (V : zVw) (ps : List Nat) (e : Nat) (q0 : rEv I 1 V ps) (q1 : I 126 0 = nI e ∧ e < 2 ^ 19) (q2 : I 115 18 = -4) : zcal zty zcd false (d + 8) 200 [.ref 115, .int x1, .int x2] (zSH zn, I, L) 0 0 (fun r u => ∃ (J : Nat → Nat → Int32), r = some (.int (flsS V e x1 x2)) ∧ u = (zSH zn, J, L) ∧ (fr [115, 130, 131] I J ∧ ∀ s, s ≠ 19 → J 115 s = I 115 s)) := by
  have e37 : ∀ x : Int32, (0 ≤ x ∧ x ≤ 37) ↔ (0 ≤ x ∧ x < 38) := fun x => le256 (b := 37) (by decide)
  have e10 : ∀ x : Int32, (0 ≤ x ∧ x ≤ 1023) ↔ (0 ≤ x ∧ x < 1024) := fun x => le256 (b := 1023) (by decide)
  refine eX12_fails _ _ I L (gX12_fails_0 _ _ I L ⟨fun h => ⟨I, by rw [flsS, if_neg (fun z => h ((e37 _).mpr z.1))], rfl, fr_rf, fun _ _ => rfl⟩, fun h => ⟨fun h2 => ⟨I, by rw [flsS, if_neg (fun z => h2 ((e10 _).mpr z.2))], rfl, fr_rf, fun _ _ => rfl⟩, fun h2 => ?_⟩⟩)
  have h' := (e37 _).mp h
  have h2' := (e10 _).mp h2
  obtain ⟨f, rfl, -, hf, tf, -⟩ := nm_of (a := 0) (b := 38) (by decide) (by decide) h'
  obtain ⟨x, rfl, -, hx, tx, -⟩ := nm_of (a := 0) (b := 1024) (by decide) (by decide) h2'
  exact ⟨V, ps, e, f, x, q0, q1, q2, ⟨rfl, hf⟩, ⟨rfl, hx⟩, fun J hJ => ⟨J, by rw [flsS, if_pos ⟨h', h2'⟩, tf, tx], rfl, hJ⟩⟩
noncomputable def fndS (V : zVw) (e : Nat) (x : Int32) : Int32 := if 0 ≤ x ∧ x < 38 then lsW (fun r => decide (FM V e (tn x) r ≠ 0)) 1024 0 else -1
abbrev RX12_finds (zn d : Nat) (post : zP) : zK := zRun (zcal zty zcd false (d + 7)) kX12_finds (zLM zn) post
theorem eX12_finds {zn d : Nat} {post : zP} (x1 : Int32) (I : Nat → Nat → Int32) (L : Nat → Nat → Int64) (h : RX12_finds zn d post 0 [some (.ref 115), some (.int x1), none] [] (zSH zn, I, L)) : zcal zty zcd false (d + 8) 201 [.ref 115, .int x1] (zSH zn, I, L) 0 0 post := zcal_of (d := d + 7) zmt201 zmc201 rfl (Nat.le_of_ble_eq_true rfl) h
theorem gX12_finds_0 {zn d : Nat} {post : zP} (x1 : Int32) (I : Nat → Nat → Int32) (L : Nat → Nat → Int64) (h : ((0 : Int32) ≤ x1 ∧ x1 ≤ (37 : Int32) → RX12_finds zn d post 14 [some (.ref 115), some (.int x1), some (.int (0 : Int32))] [] (zSH zn, I, L)) ∧ (¬ ((0 : Int32) ≤ x1 ∧ x1 ≤ (37 : Int32)) → post (some (.int (-1 : Int32))) (zSH zn, I, L))) : RX12_finds zn d post 0 [some (.ref 115), some (.int x1), none] [] (zSH zn, I, L) := fun P hw hc => hc _ tX12_finds_0 _ _ _ (hc _ tX12_finds_1 _ _ _ (hc _ tX12_finds_2 _ _ _ (hc _ tX12_finds_4 _ _ _ (⟨Nat.le_of_ble_eq_true rfl, Nat.le_of_ble_eq_true rfl, zl1, zl2, _, ctX12_in x1 (0 : Int32) (37 : Int32) I L, fun r u k3 => by obtain ⟨rfl, rfl⟩ := k3; exact ⟨zl3, zl4, hc _ tX12_finds_7 _ _ _ (⟨fun c1 => hc _ tX12_finds_12 _ _ _ (hc _ tX12_finds_13 _ _ _ ((h.1 (zb_n c1)) P hw hc)), fun c2 => hc _ tX12_finds_10 _ _ _ (hc _ tX12_finds_11 _ _ _ (⟨nofun, rfl, rfl, (h.2 (zb_e c2))⟩))⟩)⟩⟩))))
theorem gX12_finds_14 {zn d : Nat} {post : zP} (x1 : Int32) (x2 : Int32) (I : Nat → Nat → Int32) (L : Nat → Nat → Int64) (h : ((1024 : Int32) ≤ x2 → post (some (.int (-4 : Int32))) (zSH zn, I, L)) ∧ (¬ (1024 : Int32) ≤ x2 → (∃ (V4 : zVw) (ps5 : List Nat) (e6 : Nat) (f7 : Nat) (x8 : Nat), (rEv I 1 V4 ps5) ∧ (I 126 0 = nI e6 ∧ e6 < 2 ^ 19) ∧ (I 115 18 = -4) ∧ (x1 = nI f7 ∧ f7 < 38) ∧ (x2 = nI x8 ∧ x8 < 1024) ∧ (∀ (J3 : Nat → Nat → Int32), (fr [115, 130, 131] I J3 ∧ ∀ s, s ≠ 19 → J3 115 s = I 115 s) → ((nI (FM V4 e6 f7 x8)) = 0 → RX12_finds zn d post 14 [some (.ref 115), some (.int x1), some (.int (x2 + (1 : Int32)))] [] (zSH zn, J3, L)) ∧ (¬ (nI (FM V4 e6 f7 x8)) = 0 → post (some (.int x2)) (zSH zn, J3, L)))))) : RX12_finds zn d post 14 [some (.ref 115), some (.int x1), some (.int x2)] [] (zSH zn, I, L) := fun P hw hc => hc _ tX12_finds_14 _ _ _ (hc _ tX12_finds_15 _ _ _ (hc _ tX12_finds_18 _ _ _ (⟨fun c1 => hc _ tX12_finds_38 _ _ _ (hc _ tX12_finds_40 _ _ _ (⟨nofun, rfl, rfl, (h.1 c1)⟩)), fun c2 => hc _ tX12_finds_21 _ _ _ (hc _ tX12_finds_22 _ _ _ (hc _ tX12_finds_23 _ _ _ ((by obtain ⟨V4, ps5, e6, f7, x8, hg9⟩ := (h.2 c2); exact hc _ tX12_finds_24 _ _ _ (⟨⟨_, _, _, rfl, (by decide), sh115⟩, ⟨Nat.le_of_ble_eq_true rfl, Nat.le_of_ble_eq_true rfl, zl1, zl2, _, ctX12_failsOf x1 x2 I L V4 ps5 e6 f7 x8 hg9.1 hg9.2.1 hg9.2.2.1 hg9.2.2.2.1 hg9.2.2.2.2.1, fun r u k13 => by obtain ⟨J3, rfl, rfl, p10⟩ := k13; exact ⟨zl3, zl4, hc _ tX12_finds_27 _ _ _ (⟨fun c11 => hc _ tX12_finds_32 _ _ _ (hc _ tX12_finds_35 _ _ _ (((hg9.2.2.2.2.2 J3 p10).1 c11) P hw hc)), fun c12 => hc _ tX12_finds_30 _ _ _ (hc _ tX12_finds_31 _ _ _ (⟨nofun, rfl, rfl, ((hg9.2.2.2.2.2 J3 p10).2 c12)⟩))⟩)⟩⟩⟩)))))⟩)))
theorem ctX12_finds {zn d : Nat} (x1 : Int32) (I : Nat → Nat → Int32) (L : Nat → Nat → Int64) (V : zVw) (ps : List Nat) (e : Nat) (q0 : rEv I 1 V ps) (q1 : I 126 0 = nI e ∧ e < 2 ^ 19) (q2 : I 115 18 = -4) : zcal zty zcd false (d + 8) 201 [.ref 115, .int x1] (zSH zn, I, L) 0 0 (fun r u => ∃ (J : Nat → Nat → Int32), r = some (.int (fndS V e x1)) ∧ u = (zSH zn, J, L) ∧ (fr [115, 130, 131] I J ∧ ∀ s, s ≠ 19 → J 115 s = I 115 s)) := by
  have e37 : ∀ x : Int32, (0 ≤ x ∧ x ≤ 37) ↔ (0 ≤ x ∧ x < 38) := fun x => le256 (b := 37) (by decide)
  refine eX12_finds _ I L (gX12_finds_0 _ I L ⟨fun h => ?_, fun h => ⟨I, by rw [fndS, if_neg (fun z => h ((e37 _).mpr z))], rfl, fr_rf, fun _ _ => rfl⟩⟩)
  have h' := (e37 _).mp h
  obtain ⟨f, rfl, -, hf, tf, -⟩ := nm_of (a := 0) (b := 38) (by decide) (by decide) h'
  have loop : ∀ r J, r ≤ 1024 → (fr [115, 130, 131] I J ∧ (∀ s, s ≠ 19 → J 115 s = I 115 s) ∧ ∀ i, i < r → FM V e f i = 0) → RX12_finds zn d (fun r u => ∃ (J : Nat → Nat → Int32), r = some (.int (fndS V e (nI f))) ∧ u = (zSH zn, J, L) ∧ (fr [115, 130, 131] I J ∧ ∀ s, s ≠ 19 → J 115 s = I 115 s)) 14 [some (.ref 115), some (.int (nI f)), some (.int (nI r))] [] (zSH zn, J, L) := by
    refine zup (fun J hJ => ?_) (fun r J hr hJ ih => ?_)
    · refine gX12_finds_14 _ _ J L ⟨fun _ => ⟨J, ?_, rfl, hJ.1, hJ.2.1⟩, fun hc => absurd (by decide) hc⟩
      rw [fndS, if_pos h', tf, show (1024 : Nat) = 1024 + 0 by rfl, lsW_skip 1024 0 0 (fun i _ hi => by rw [hJ.2.2 i (by omega)]; rfl)]
      rfl
    · obtain ⟨f1, f2, f3⟩ := hJ
      refine gX12_finds_14 _ _ J L ⟨fun hc => absurd hc (by rw [nl 1024, nI_leI (by decide) (by omega)]; omega), fun _ => ⟨V, ps, e, f, r, rEv_any q0 (f1 118 (by decide)) (f1 119 (by decide)) (f1 120 (by decide)) (f1 122 (by decide)) (f1 123 (by decide)), by rw [f1 126 (by decide)]; exact q1, by rw [f2 18 (by decide)]; exact q2, ⟨rfl, hf⟩, ⟨rfl, hr⟩, fun K ⟨k1, k2⟩ => ?_⟩⟩
      have hlt := FM_lt V e f r
      have g1 : fr [115, 130, 131] I K := fr_trans f1 k1
      have g2 : ∀ s, s ≠ 19 → K 115 s = I 115 s := fun s hs => (k2 s hs).trans (f2 s hs)
      rw [nl0, nI_eq (by omega) (by decide), nI_1]
      refine ⟨fun hz => ih K ⟨g1, g2, fun i hi => ?_⟩, fun hz => ⟨K, ?_, rfl, g1, g2⟩⟩
      · by_cases hir : i = r
        · rw [hir]; exact hz
        · exact f3 i (by omega)
      · rw [fndS, if_pos h', tf]
        have hh := lsW_hit (p := fun r => decide (FM V e f r ≠ 0)) (w := 0) (k := r) (m := 1023 - r) (fun i _ hi => by rw [f3 i (by omega)]; rfl) (by rw [Nat.zero_add]; exact decide_eq_true hz)
        rw [show r + (1023 - r + 1) = 1024 by omega, Nat.zero_add] at hh
        rw [hh]
  exact loop 0 I (by decide) ⟨fr_rf, fun _ _ => rfl, fun i hi => absurd hi (by omega)⟩
theorem half_g : ∀ f, f < 38 → nI f >>> ((1 : Int32) &&& 31) = nI (f / 2) ∧ nI f &&& 1 = nI (f % 2) := by decide +kernel
abbrev RX11_finds (zn d : Nat) (post : zP) : zK := zRun (zcal zty zcd false (d + 4)) kX11_finds (zLM zn) post
theorem eX11_finds {zn d : Nat} {post : zP} (x1 : Int32) (I : Nat → Nat → Int32) (L : Nat → Nat → Int64) (h : RX11_finds zn d post 0 [some (.ref 5), some (.int x1), none, none, none, none] [] (zSH zn, I, L)) : zcal zty zcd false (d + 5) 118 [.ref 5, .int x1] (zSH zn, I, L) 0 0 post := zcal_of (d := d + 4) zmt118 zmc118 rfl (Nat.le_of_ble_eq_true rfl) h
theorem gX11_finds_0 {zn d : Nat} {post : zP} (x1 : Int32) (I : Nat → Nat → Int32) (L : Nat → Nat → Int64) (h : ((0 ≤ x1 ∧ x1 < (38 : Int32)) → (zs (x1 >>> ((1 : Int32) &&& 31)) 18) ∧ (∀ (K3 : Nat → Nat → Int64), (stk1 L K3 49 (tn (x1 >>> ((1 : Int32) &&& 31))) (x1 &&& (1 : Int32))) → RX11_finds zn d post 33 [some (.ref 5), some (.int x1), some (.ref 19), some (.int (0 : Int32)), none, none] [] (zSH zn, I, K3))) ∧ (¬ ((0 ≤ x1 ∧ x1 < (38 : Int32))) → post (some (.int (-1 : Int32))) (zSH zn, I, L))) : RX11_finds zn d post 0 [some (.ref 5), some (.int x1), none, none, none, none] [] (zSH zn, I, L) := fun P hw hc => hc _ tX11_finds_0 _ _ _ (hc _ tX11_finds_1 _ _ _ (hc _ tX11_finds_3 _ _ _ (⟨Nat.le_of_ble_eq_true rfl, Nat.le_of_ble_eq_true rfl, zl1, zl2, _, ctX11_isBelow x1 (38 : Int32) I L, fun r u k6 => by obtain ⟨rfl, rfl⟩ := k6; exact ⟨zl3, zl4, hc _ tX11_finds_6 _ _ _ (⟨fun c1 => hc _ tX11_finds_11 _ _ _ (hc _ tX11_finds_12 _ _ _ (⟨_, _, sh5, (by decide), rfl, hc _ tX11_finds_15 _ _ _ (hc _ tX11_finds_16 _ _ _ (⟨_, _, _, sh11, (by decide), by decide, zvin (by decide), rfl, hc _ tX11_finds_17 _ _ _ (hc _ tX11_finds_18 _ _ _ (hc _ tX11_finds_19 _ _ _ (⟨_, _, sh5, (by decide), rfl, hc _ tX11_finds_22 _ _ _ (hc _ tX11_finds_23 _ _ _ (hc _ tX11_finds_24 _ _ _ (hc _ tX11_finds_25 _ _ _ (hc _ tX11_finds_26 _ _ _ (hc _ tX11_finds_27 _ _ _ (hc _ tX11_finds_28 _ _ _ (⟨⟨_, _, _, rfl, (by decide), sh49⟩, ⟨Nat.le_of_ble_eq_true rfl, Nat.le_of_ble_eq_true rfl, zl1, zl2, _, ctX4_stickOne 49 (x1 >>> ((1 : Int32) &&& 31)) (x1 &&& (1 : Int32)) I L isX4_49 ((h.1 (zb_n c1)).1), fun r u k5 => by obtain ⟨K3, rfl, rfl, p4⟩ := k5; exact ⟨zl3, zl4, hc _ tX11_finds_31 _ _ _ (hc _ tX11_finds_32 _ _ _ (((h.1 (zb_n c1)).2 K3 p4) P hw hc))⟩⟩⟩)))))))⟩)))⟩))⟩)), fun c2 => hc _ tX11_finds_9 _ _ _ (hc _ tX11_finds_10 _ _ _ (⟨nofun, rfl, rfl, (h.2 (zb_e c2))⟩))⟩)⟩⟩)))
theorem gX11_finds_33 {zn d : Nat} {post : zP} (x1 : Int32) (x3 : Int32) (I : Nat → Nat → Int32) (L : Nat → Nat → Int64) (h : ((16 : Int32) ≤ x3 → post (some (.int (-4 : Int32))) (zSH zn, I, L)) ∧ (¬ (16 : Int32) ≤ x3 → (∃ (V4 : zVw) (os5 : List Nat), (cEv I 19 V4 os5) ∧ (∀ (K3 : Nat → Nat → Int64), (evL L K3 37 V4 (bSt L x3)) → (∃ (V9 : zVw) (os10 : List Nat), (cEv I 19 V9 os10) ∧ (∀ (K8 : Nat → Nat → Int64), (evL K3 K8 49 V9 (bSt K3 x3)) → ((lg_cmp (unl K8 37 49 ((I 5 15) &&& (I 19 6)) 19) (0 : Int64)) = 0 → RX11_finds zn d post 33 [some (.ref 5), some (.int x1), some (.ref 19), some (.int (x3 + (1 : Int32))), none, none] [] (zSH zn, I, K8)) ∧ (¬ (lg_cmp (unl K8 37 49 ((I 5 15) &&& (I 19 6)) 19) (0 : Int64)) = 0 → post (some (.int (fX11_leastRow x3 (unl K8 37 49 ((I 5 15) &&& (I 19 6)) 19)))) (zSH zn, I, K8)))))))) : RX11_finds zn d post 33 [some (.ref 5), some (.int x1), some (.ref 19), some (.int x3), none, none] [] (zSH zn, I, L) := fun P hw hc => hc _ tX11_finds_33 _ _ _ (hc _ tX11_finds_34 _ _ _ (hc _ tX11_finds_36 _ _ _ (⟨fun c1 => hc _ tX11_finds_99 _ _ _ (hc _ tX11_finds_101 _ _ _ (⟨nofun, rfl, rfl, (h.1 c1)⟩)), fun c2 => hc _ tX11_finds_39 _ _ _ (hc _ tX11_finds_40 _ _ _ (⟨_, _, sh5, (by decide), rfl, hc _ tX11_finds_43 _ _ _ (hc _ tX11_finds_44 _ _ _ ((by obtain ⟨V4, os5, hg6⟩ := (h.2 c2); exact hc _ tX11_finds_45 _ _ _ (⟨⟨_, _, _, rfl, (by decide), sh37⟩, ⟨Nat.le_of_ble_eq_true rfl, Nat.le_of_ble_eq_true rfl, zl1, zl2, _, ctX4_runState 37 19 x3 I L V4 os5 isX4_37 isX10_19 hg6.1, fun r u k18 => by obtain ⟨K3, rfl, rfl, p7⟩ := k18; exact ⟨zl3, zl4, hc _ tX11_finds_48 _ _ _ (hc _ tX11_finds_49 _ _ _ (⟨_, _, sh5, (by decide), rfl, hc _ tX11_finds_52 _ _ _ (hc _ tX11_finds_53 _ _ _ ((by obtain ⟨V9, os10, hg11⟩ := (hg6.2 K3 p7); exact hc _ tX11_finds_54 _ _ _ (⟨⟨_, _, _, rfl, (by decide), sh49⟩, ⟨Nat.le_of_ble_eq_true rfl, Nat.le_of_ble_eq_true rfl, zl1, zl2, _, ctX4_runState 49 19 x3 I K3 V9 os10 isX4_49 isX10_19 hg11.1, fun r u k17 => by obtain ⟨K8, rfl, rfl, p12⟩ := k17; exact ⟨zl3, zl4, hc _ tX11_finds_57 _ _ _ (hc _ tX11_finds_58 _ _ _ (⟨_, _, sh5, (by decide), rfl, hc _ tX11_finds_61 _ _ _ (hc _ tX11_finds_62 _ _ _ (⟨_, _, sh5, (by decide), rfl, hc _ tX11_finds_65 _ _ _ (hc _ tX11_finds_66 _ _ _ (⟨_, sh5, (by decide), hc _ tX11_finds_69 _ _ _ (hc _ tX11_finds_70 _ _ _ (⟨_, sh19, (by decide), hc _ tX11_finds_73 _ _ _ (hc _ tX11_finds_74 _ _ _ (⟨⟨_, _, _, rfl, (by decide), sh37⟩, ⟨Nat.le_of_ble_eq_true rfl, Nat.le_of_ble_eq_true rfl, zl1, zl2, _, ctX4_unlike 37 49 ((I 5 15) &&& (I 19 6)) I K8 isX4_37 isX4_49, fun r u k16 => by obtain ⟨rfl, rfl⟩ := k16; exact ⟨zl3, zl4, hc _ tX11_finds_77 _ _ _ (hc _ tX11_finds_79 _ _ _ (hc _ tX11_finds_81 _ _ _ (hc _ tX11_finds_82 _ _ _ (hc _ tX11_finds_83 _ _ _ (⟨fun c13 => hc _ tX11_finds_93 _ _ _ (hc _ tX11_finds_96 _ _ _ (hw _ _ _ _ _ (zwk_s (zwk_s (zwk_s (zwk_s (zwk_n (zwk_s zwk_nil)))))) (((hg11.2 K8 p12).1 c13) P hw hc))), fun c14 => hc _ tX11_finds_86 _ _ _ (hc _ tX11_finds_87 _ _ _ (hc _ tX11_finds_89 _ _ _ (⟨Nat.le_of_ble_eq_true rfl, Nat.le_of_ble_eq_true rfl, zl1, zl2, _, ctX11_leastRow x3 (unl K8 37 49 ((I 5 15) &&& (I 19 6)) 19) I K8, fun r u k15 => by obtain ⟨rfl, rfl⟩ := k15; exact ⟨zl3, zl4, hc _ tX11_finds_92 _ _ _ (⟨nofun, rfl, rfl, ((hg11.2 K8 p12).2 c14)⟩)⟩⟩)))⟩)))))⟩⟩⟩))⟩))⟩))⟩))⟩))⟩⟩⟩))))⟩))⟩⟩⟩))))⟩))⟩)))
theorem ctX11_finds {zn d : Nat} (x1 : Int32) (I : Nat → Nat → Int32) (L : Nat → Nat → Int64) (V : zVw) (os : List Nat) (e : Nat) (q0 : cVw I 19 V os) (q1 : I 5 15 = nI e ∧ e < 2 ^ 19) (q2 : nSt L 37) (q3 : inpL L) : zcal zty zcd false (d + 5) 118 [.ref 5, .int x1] (zSH zn, I, L) 0 0 (fun r u => ∃ (K : Nat → Nat → Int64), r = some (.int (fndS V e x1)) ∧ u = (zSH zn, I, K) ∧ (fr [38, 39, 42, 50, 51, 52, 53, 54] L K)) := by
  have cv := cVw_ev q0
  have htw := cEv_tw cv
  refine eX11_finds _ I L (gX11_finds_0 _ I L ⟨fun h => ?_, fun h => ⟨L, by rw [fndS, if_neg h], rfl, fr_rf⟩⟩)
  obtain ⟨f, rfl, -, hf, tf, -⟩ := nm_of (a := 0) (b := 38) (by decide) (by decide) h
  obtain ⟨g1, g2⟩ := half_g f hf
  have tg : tn (nI (f / 2)) = f / 2 := tn_nI (by omega)
  rw [g1, g2, tg]
  refine ⟨⟨f / 2, by omega, rfl⟩, fun K0 ⟨s1, s2⟩ => ?_⟩
  have hmask : nI e &&& nI (tlV V) = nI (e &&& tlV V) := nI_and
  have hX : e &&& tlV V < 2 ^ 31 := Nat.lt_of_le_of_lt Nat.and_le_left (by have := q1.2; omega)
  have e2 : qOf f = some (f / 2, nI (f % 2)) := by unfold qOf; rw [if_pos hf]
  have w01 : nI (f % 2) = 0 ∨ nI (f % 2) = 1 := by
    rcases (show f % 2 = 0 ∨ f % 2 = 1 by omega) with z | z <;> rw [z]
    · exact Or.inl rfl
    · exact Or.inr rfl
  have loop : ∀ s K, s ≤ 16 → (fr [38, 39, 42, 50, 51, 52, 53, 54] L K ∧ K 52 = K0 52 ∧ K 53 = K0 53 ∧ ∀ i, i < 64 * s → FM V e f i = 0) → RX11_finds zn d (fun r u => ∃ (K : Nat → Nat → Int64), r = some (.int (fndS V e (nI f))) ∧ u = (zSH zn, I, K) ∧ (fr [38, 39, 42, 50, 51, 52, 53, 54] L K)) 33 [some (.ref 5), some (.int (nI f)), some (.ref 19), some (.int (nI s)), none, none] [] (zSH zn, I, K) := by
    refine zup (fun K hK => ?_) (fun s K hs hK ih => ?_)
    · refine gX11_finds_33 _ _ I K ⟨fun _ => ⟨K, ?_, rfl, hK.1⟩, fun hc => absurd (by decide) hc⟩
      rw [fndS, if_pos h, tf, show (1024 : Nat) = 1024 + 0 by rfl, lsW_skip 1024 0 0 (fun i _ hi => by rw [hK.2.2.2 i (by omega)]; rfl)]
      rfl
    · obtain ⟨f1, c52, c53, f3⟩ := hK
      refine gX11_finds_33 _ _ I K ⟨fun hc => absurd hc (by rw [nl 16, nI_leI (by decide) (by omega)]; omega), fun _ => ⟨V, os, cv, fun K1 hK1 => ⟨V, os, cv, fun K2 hK2 => ?_⟩⟩⟩
      have st37 : nSt K 37 := fun n hn => by rw [f1 40 (by decide), f1 41 (by decide)]; exact q2 n hn
      have in0 : inpL K := fun n hn => by rw [f1 1 (by decide)]; exact q3 n hn
      have in1 : inpL K1 := fun n hn => by rw [hK1.1 1 (by decide)]; exact in0 n hn
      have l0 := stL cv.1 htw st37 in0 hs hK1
      have e39 : K2 39 = K1 39 := hK2.1 39 (by decide)
      have l1 : ∀ t, t < 64 → ∀ n, n < 19 → (V n).isSome = true → tb V (qOf f) (64 * s + t) n = bt (K2 51 n) t := fun t ht n hn hv => RT_tb (lane_tv ht cv.1 htw hK2 (hb_state in1 hs ht) (by
        rw [e2]
        refine stk_one ht w01 (fun m hm => ?_)
        rw [hK1.1 52 (by decide), hK1.1 53 (by decide), c52, c53]
        exact s2 m hm) hn (Or.inl hv))
      have hu : ∀ t, t < 64 → bt (unl K2 37 49 (I 5 15 &&& I 19 6) 19) t = decide (FM V e f (64 * s + t) ≠ 0) := fun t ht => by
        rw [q1.1, q0.1.2.2.2.1, hmask, unl_bt hX 19 (by decide), Bool.eq_iff_iff, List.any_eq_true, decide_eq_true_iff]
        constructor
        · rintro ⟨n, hn, hb⟩
          have hn' := List.mem_range.mp hn
          rw [Bool.and_eq_true, Nat.testBit_and, tlV_bit hn', Bool.and_eq_true] at hb
          intro hz
          have := FM_0.mp hz n hn'
          unfold flB at this
          rw [hb.1.1, hb.1.2, l1 t ht n hn' hb.1.2, l0 t ht n hn', ← e39] at this
          have h2 := hb.2
          simp only [Bool.true_and] at this
          rw [bne_comm] at this
          rw [this] at h2
          cases h2
        · intro hz
          refine Classical.byContradiction fun hno => hz (FM_0.mpr (fun n hn => ?_))
          unfold flB
          cases h1 : e.testBit n with
          | false => simp
          | true =>
            cases h2 : (V n).isSome with
            | false => simp
            | true =>
              rw [l1 t ht n hn h2, l0 t ht n hn, ← e39]
              cases h3 : (bt (K2 51 n) t != bt (K2 39 n) t) with
              | false => rfl
              | true =>
                exact absurd ⟨n, List.mem_range.mpr hn, by rw [Nat.testBit_and, tlV_bit hn, h1, h2, bne_comm, h3]; rfl⟩ hno
      have hfr : fr [38, 39, 42, 50, 51, 52, 53, 54] L K2 := fr_trans f1 (fr_trans (fr_sub hK1.1 (by decide)) (fr_sub hK2.1 (by decide)))
      rw [lg_cmp_eq, nI_1]
      refine ⟨fun hz => ih K2 ⟨hfr, by rw [hK2.1 52 (by decide), hK1.1 52 (by decide)]; exact c52, by rw [hK2.1 53 (by decide), hK1.1 53 (by decide)]; exact c53, fun i hi => ?_⟩, fun hz => ⟨K2, ?_, rfl, hfr⟩⟩
      · by_cases hi2 : i < 64 * s
        · exact f3 i hi2
        · have := hu (i - 64 * s) (by omega)
          rw [hz, bt_0, show 64 * s + (i - 64 * s) = i by omega] at this
          have h2 := of_decide_eq_false this.symm
          exact Decidable.byContradiction h2
      · obtain ⟨k, hk, ek, hk1, hk2⟩ := tz_64 hz
        rw [fndS, if_pos h, tf, fX11_leastRow, ek, nl 64, pk_mul, nI_add]
        have hr := lsW_hit (p := fun r => decide (FM V e f r ≠ 0)) (w := 0) (k := 64 * s + k) (m := 1023 - (64 * s + k)) (fun i _ hi => by
          by_cases hi2 : i < 64 * s
          · rw [f3 i hi2]; rfl
          · have := hu (i - 64 * s) (by omega)
            rw [hk2 _ (by omega), show 64 * s + (i - 64 * s) = i by omega] at this
            exact this.symm) (by rw [Nat.zero_add, ← hu k hk]; exact hk1)
        rw [show 64 * s + k + (1023 - (64 * s + k) + 1) = 1024 by omega] at hr
        rw [hr, Nat.zero_add, Nat.mul_comm]
  exact loop 0 K0 (by decide) ⟨fr_sub s1 (by decide), rfl, rfl, fun i hi => absurd hi (by omega)⟩

