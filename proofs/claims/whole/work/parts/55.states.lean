/-! STATES that can be -/
noncomputable def nxt (V : zVw) (x : Nat) : Nat := bm (fun r => tb V none x (15 + r)) 4
theorem nxt_lt (V : zVw) (x : Nat) : nxt V x < 16 := bm_lt _ 4
def isRch (V : zVw) (a X : Nat) : Prop := X < 2 ^ 16 ∧ X.testBit a = true ∧ (∀ s t, s < 16 → t < 64 → X.testBit s = true → X.testBit (nxt V (64 * s + t)) = true) ∧ ∀ S : Nat → Prop, S a → (∀ s t, s < 16 → t < 64 → S s → S (nxt V (64 * s + t))) → ∀ m, X.testBit m = true → S m
theorem isRch_one {V : zVw} {a X Y : Nat} (h : isRch V a X) (h2 : isRch V a Y) : X = Y := by
  refine Nat.eq_of_testBit_eq (fun i => Bool.eq_iff_iff.mpr ⟨fun hi => ?_, fun hi => ?_⟩)
  · exact h.2.2.2 (fun m => Y.testBit m = true) h2.2.1 (fun s t hs ht hy => h2.2.2.1 s t hs ht hy) i hi
  · exact h2.2.2.2 (fun m => X.testBit m = true) h.2.1 (fun s t hs ht hy => h.2.2.1 s t hs ht hy) i hi
def shB (L : Nat → Nat → Int64) (k s t : Nat) (j : Nat) : Bool := (List.range j).all (fun r => bt (L (k + 2) (15 + r)) t == s.testBit r)
theorem shB_s (L : Nat → Nat → Int64) (k s t j : Nat) : shB L k s t (j + 1) = (shB L k s t j && (bt (L (k + 2) (15 + j)) t == s.testBit j)) := by
  unfold shB
  rw [List.range_succ, List.all_append]
  simp
def shA (L : Nat → Nat → Int64) (k s : Nat) : Bool := (List.range 64).any (fun t => shB L k s t 4)
abbrev RX4_statesShown (zn d : Nat) (post : zP) : zK := zRun (zcal zty zcd false (d + 1)) kX4_statesShown (zLM zn) post
theorem eX4_statesShown {zn d : Nat} {post : zP} (k0 : Nat) (I : Nat → Nat → Int32) (L : Nat → Nat → Int64) (h0 : isX4 k0) (h : RX4_statesShown zn d post 0 [some (.ref k0), none, none, none, none, none] [] (zSH zn, I, L)) : zcal zty zcd false (d + 2) 41 [.ref k0] (zSH zn, I, L) 0 0 post := zcal_of (d := d + 1) zmt41 zmc41 rfl (Nat.le_of_ble_eq_true rfl) h
theorem gX4_statesShown_0 {zn d : Nat} {post : zP} (k0 : Nat) (I : Nat → Nat → Int32) (L : Nat → Nat → Int64) (h0 : isX4 k0) (h : RX4_statesShown zn d post 4 [some (.ref k0), some (.int (0 : Int32)), some (.int (0 : Int32)), none, none, none] [] (zSH zn, I, L)) : RX4_statesShown zn d post 0 [some (.ref k0), none, none, none, none, none] [] (zSH zn, I, L) := fun P hw hc => hc _ tX4_statesShown_0 _ _ _ (hc _ tX4_statesShown_1 _ _ _ (hc _ tX4_statesShown_2 _ _ _ (hc _ tX4_statesShown_3 _ _ _ (h P hw hc))))
theorem gX4_statesShown_4 {zn d : Nat} {post : zP} (k0 : Nat) (x1 : Int32) (x2 : Int32) (I : Nat → Nat → Int32) (L : Nat → Nat → Int64) (h0 : isX4 k0) (h : ((16 : Int32) ≤ x2 → post (some (.int x1)) (zSH zn, I, L)) ∧ (¬ (16 : Int32) ≤ x2 → RX4_statesShown zn d post 17 [some (.ref k0), some (.int x1), some (.int x2), some (.long (-1 : Int64)), none, some (.int (0 : Int32))] [] (zSH zn, I, L))) : RX4_statesShown zn d post 4 [some (.ref k0), some (.int x1), some (.int x2), none, none, none] [] (zSH zn, I, L) := fun P hw hc => hc _ tX4_statesShown_4 _ _ _ (hc _ tX4_statesShown_5 _ _ _ (hc _ tX4_statesShown_7 _ _ _ (⟨fun c1 => hc _ tX4_statesShown_72 _ _ _ (hc _ tX4_statesShown_73 _ _ _ (⟨nofun, rfl, rfl, (h.1 c1)⟩)), fun c2 => hc _ tX4_statesShown_10 _ _ _ (hc _ tX4_statesShown_13 _ _ _ (hc _ tX4_statesShown_14 _ _ _ (hc _ tX4_statesShown_15 _ _ _ ((h.2 c2) P hw hc))))⟩)))
theorem gX4_statesShown_17 {zn d : Nat} {post : zP} (k0 : Nat) (x1 : Int32) (x2 : Int32) (x3 : Int64) (x5 : Int32) (I : Nat → Nat → Int32) (L : Nat → Nat → Int64) (h0 : isX4 k0) (h : ((4 : Int32) ≤ x5 → ((lg_cmp x3 (0 : Int64)) = 0 → RX4_statesShown zn d post 4 [some (.ref k0), some (.int x1), some (.int (x2 + (1 : Int32))), none, none, none] [] (zSH zn, I, L)) ∧ (¬ (lg_cmp x3 (0 : Int64)) = 0 → RX4_statesShown zn d post 4 [some (.ref k0), some (.int (x1 ||| ((1 : Int32) <<< (x2 &&& 31)))), some (.int (x2 + (1 : Int32))), none, none, none] [] (zSH zn, I, L))) ∧ (¬ (4 : Int32) ≤ x5 → vp_in ((15 : Int32) + x5) 19 ∧ (RX4_statesShown zn d post 17 [some (.ref k0), some (.int x1), some (.int x2), some (.long (x3 &&& (((L (k0 + 2) (((15 : Int32) + x5)).toNatClampNeg) ^^^ (fX4_inAllLanes (x2 >>> (x5 &&& 31)))) ^^^ (-1 : Int64)))), none, some (.int (x5 + (1 : Int32)))] [] (zSH zn, I, L)))) : RX4_statesShown zn d post 17 [some (.ref k0), some (.int x1), some (.int x2), some (.long x3), none, some (.int x5)] [] (zSH zn, I, L) := fun P hw hc => hc _ tX4_statesShown_17 _ _ _ (hc _ tX4_statesShown_19 _ _ _ (hc _ tX4_statesShown_20 _ _ _ (⟨fun c1 => hc _ tX4_statesShown_54 _ _ _ (hc _ tX4_statesShown_55 _ _ _ (hc _ tX4_statesShown_56 _ _ _ (hc _ tX4_statesShown_57 _ _ _ (⟨fun c3 => hc _ tX4_statesShown_66 _ _ _ (hc _ tX4_statesShown_69 _ _ _ (hw _ _ _ _ _ (zwk_s (zwk_s (zwk_s (zwk_n (zwk_s (zwk_n zwk_nil)))))) (((h.1 c1).1 c3) P hw hc))), fun c4 => hc _ tX4_statesShown_60 _ _ _ (hc _ tX4_statesShown_61 _ _ _ (hc _ tX4_statesShown_62 _ _ _ (hc _ tX4_statesShown_63 _ _ _ (hc _ tX4_statesShown_64 _ _ _ (hc _ tX4_statesShown_65 _ _ _ (hc _ tX4_statesShown_66 _ _ _ (hc _ tX4_statesShown_69 _ _ _ (hw _ _ _ _ _ (zwk_s (zwk_s (zwk_s (zwk_n (zwk_s (zwk_n zwk_nil)))))) (((h.1 c1).2 c4) P hw hc)))))))))⟩)))), fun c2 => hc _ tX4_statesShown_23 _ _ _ (hc _ tX4_statesShown_24 _ _ _ (hc _ tX4_statesShown_25 _ _ _ (⟨_, _, (shX4 h0), (geX4 h0), rfl, hc _ tX4_statesShown_28 _ _ _ (hc _ tX4_statesShown_30 _ _ _ (hc _ tX4_statesShown_32 _ _ _ (hc _ tX4_statesShown_33 _ _ _ (⟨_, _, _, (shX4_1 h0), Or.inl ⟨rfl, (geX4_1 h0)⟩, (h.2 c2).1, hc _ tX4_statesShown_34 _ _ _ (hc _ tX4_statesShown_35 _ _ _ (hc _ tX4_statesShown_37 _ _ _ (hc _ tX4_statesShown_38 _ _ _ (⟨Nat.le_of_ble_eq_true rfl, Nat.le_of_ble_eq_true rfl, zl1, zl2, _, ctX4_inAllLanes (x2 >>> (x5 &&& 31)) I L, fun r u k5 => by obtain ⟨rfl, rfl⟩ := k5; exact ⟨zl3, zl4, hc _ tX4_statesShown_41 _ _ _ (hc _ tX4_statesShown_42 _ _ _ (hc _ tX4_statesShown_45 _ _ _ (hc _ tX4_statesShown_46 _ _ _ (hc _ tX4_statesShown_47 _ _ _ (hc _ tX4_statesShown_48 _ _ _ (hc _ tX4_statesShown_51 _ _ _ ((h.2 c2).2 P hw hc)))))))⟩⟩))))⟩))))⟩)))⟩)))
theorem bm_s (p : Nat → Bool) (n : Nat) : bm p (n + 1) = if p n = true then bm p n ||| 2 ^ n else bm p n := by
  by_cases h : p n = true
  · rw [if_pos h]
    refine (Nat.eq_of_testBit_eq (fun i => ?_))
    rw [bm_test, Nat.testBit_or, bm_test, Nat.testBit_two_pow]
    by_cases h1 : i < n
    · have h2 : i < n + 1 := by omega
      have h3 : ¬ n = i := by omega
      simp [h1, h2, h3]
    · by_cases h2 : i = n
      · subst h2; simp [h]
      · have h3 : ¬ i < n + 1 := by omega
        have h4 : ¬ n = i := by omega
        simp [h1, h3, h4]
  · rw [if_neg h, bm, if_neg h, Nat.add_zero]
theorem ctX4_statesShown {zn d : Nat} (k0 : Nat) (I : Nat → Nat → Int32) (L : Nat → Nat → Int64) (h0 : isX4 k0)  : zcal zty zcd false (d + 2) 41 [.ref k0] (zSH zn, I, L) 0 0 (fun r u => r = some (.int (nI (bm (shA L k0) 16))) ∧ u = (zSH zn, I, L)) := by
  have loop : ∀ s (u : Unit), s ≤ 16 → True → RX4_statesShown zn d (fun r u => r = some (.int (nI (bm (shA L k0) 16))) ∧ u = (zSH zn, I, L)) 4 [some (.ref k0), some (.int (nI (bm (shA L k0) s))), some (.int (nI s)), none, none, none] [] (zSH zn, I, L) := by
    refine zup (fun u _ => ?_) (fun s u hs _ ih => ?_)
    · exact gX4_statesShown_4 _ _ _ I L h0 ⟨fun _ => ⟨rfl, rfl⟩, fun hc => absurd (by decide) hc⟩
    · refine gX4_statesShown_4 _ _ _ I L h0 ⟨fun hc => absurd hc (by rw [nl 16, nI_leI (by decide) (by omega)]; omega), fun _ => ?_⟩
      have hih := ih u trivial
      have inner : ∀ r (y : Int64), r ≤ 4 → (∀ t, t < 64 → bt y t = shB L k0 s t r) → RX4_statesShown zn d (fun r u => r = some (.int (nI (bm (shA L k0) 16))) ∧ u = (zSH zn, I, L)) 17 [some (.ref k0), some (.int (nI (bm (shA L k0) s))), some (.int (nI s)), some (.long y), none, some (.int (nI r))] [] (zSH zn, I, L) := by
        refine zup (fun y hy => ?_) (fun r y hr hy ihr => ?_)
        · refine gX4_statesShown_17 _ _ _ _ _ I L h0 ⟨fun _ => ?_, fun hc => absurd (by decide) hc⟩
          rw [lg_cmp_eq, nI_1, nI_shl1 (by omega), fa_or]
          refine ⟨fun hz => ?_, fun hz => ?_⟩
          · rw [bm_s _ s, if_neg] at hih
            · exact hih
            · intro ha
              unfold shA at ha
              rw [List.any_eq_true] at ha
              obtain ⟨t, ht, h2⟩ := ha
              rw [← hy t (List.mem_range.mp ht), hz, bt_0] at h2
              cases h2
          · rw [bm_s _ s, if_pos] at hih
            · exact hih
            · refine Decidable.byContradiction fun ha => hz (bt_z (fun t ht => ?_))
              rw [hy t ht]
              cases hb : shB L k0 s t 4 with
              | false => rfl
              | true =>
                exact absurd (List.any_eq_true.mpr ⟨t, List.mem_range.mpr ht, hb⟩) ha
        · refine gX4_statesShown_17 _ _ _ _ _ I L h0 ⟨fun hc => absurd hc (by rw [nl 4, nI_leI (by decide) (by omega)]; omega), fun _ => ?_⟩
          have e : (15 : Int32) + nI r = nI (15 + r) := by rw [nl 15, nI_add]
          rw [e, nI_clamp (by omega), nI_1]
          refine ⟨vin_nI (by omega) (by omega), ihr _ (fun t ht => ?_)⟩
          rw [bt_and, bt_not _ ht, bt_xor, hy t ht, inAll_bt (by omega) (by omega) ht, shB_s]
          cases shB L k0 s t r <;> cases bt (L (k0 + 2) (15 + r)) t <;> cases s.testBit r <;> rfl
      exact inner 0 (-1) (by decide) (fun t ht => by rw [bt_m1 ht]; rfl)
  exact eX4_statesShown _ I L h0 (gX4_statesShown_0 _ I L h0 (loop 0 () (by decide) trivial))
theorem shA_nxt {L : Nat → Nat → Int64} {k u : Nat} {V : zVw} (h : ∀ t, t < 64 → ∀ n, n < 19 → tb V none (64 * u + t) n = bt (L (k + 2) n) t) {s : Nat} (hs : s < 16) : shA L k s = true ↔ ∃ t, t < 64 ∧ nxt V (64 * u + t) = s := by
  unfold shA
  rw [List.any_eq_true]
  constructor
  · rintro ⟨t, ht, hb⟩
    have ht' := List.mem_range.mp ht
    refine ⟨t, ht', ?_⟩
    unfold shB at hb
    rw [List.all_eq_true] at hb
    unfold nxt
    refine (bm_eq (n := 4) hs (fun r hr => ?_)).symm
    have h2 := hb r (List.mem_range.mpr hr)
    rw [h t ht' (15 + r) (by omega)]
    exact (eq_of_beq h2).symm
  · rintro ⟨t, ht, e⟩
    refine ⟨t, List.mem_range.mpr ht, ?_⟩
    unfold shB
    rw [List.all_eq_true]
    intro r hr
    have hr' := List.mem_range.mp hr
    rw [beq_iff_eq, ← e, nxt, bm_test, ← h t ht (15 + r) (by omega)]
    simp [hr']
theorem pcn_full {X : Nat} (hX : X < 2 ^ 16) (h : 16 ≤ pcn X 16) : ∀ s, s < 16 → X.testBit s = true := by
  intro s hs
  refine Decidable.byContradiction fun hn => ?_
  have : pcn X 16 < fb_sm (fun _ => 1) 16 := fb_strict (fun k _ => by split <;> omega) hs (by rw [if_neg hn]; decide)
  have e : fb_sm (fun _ => 1) 16 = 16 := by decide
  omega
theorem pcn_more {X Y : Nat} (hX : X < 2 ^ 16) (hY : Y < 2 ^ 16) (hs : sbt X Y) (hne : X ≠ Y) : pcn X 16 < pcn Y 16 := by
  have : ∃ i, i < 16 ∧ X.testBit i = false ∧ Y.testBit i = true := by
    refine Classical.byContradiction fun hn => hne ?_
    refine Nat.eq_of_testBit_eq (fun i => ?_)
    by_cases hi : i < 16
    · cases hx : X.testBit i with
      | true => rw [hs i hx]
      | false =>
        cases hy : Y.testBit i with
        | false => rfl
        | true => exact absurd ⟨i, hi, hx, hy⟩ hn
    · rw [Nat.testBit_lt_two_pow (Nat.lt_of_lt_of_le hX (Nat.pow_le_pow_right (by decide) (by omega))), Nat.testBit_lt_two_pow (Nat.lt_of_lt_of_le hY (Nat.pow_le_pow_right (by decide) (by omega)))]
  obtain ⟨i, hi, h1, h2⟩ := this
  refine fb_strict (fun k _ => ?_) hi (by rw [h1, h2]; decide)
  by_cases hk : X.testBit k = true
  · rw [if_pos hk, if_pos (hs k hk)]; exact Nat.le_refl _
  · rw [if_neg hk]; exact Nat.zero_le _
theorem fresh_bit {R D u : Nat} (hR : R < 2 ^ 31) (hu : u < 32) : (¬ ((nI R &&& (nI D ^^^ (-1))) >>> (nI u &&& 31)) &&& 1 = 0) ↔ (R.testBit u = true ∧ ¬ D.testBit u = true) := by
  have e1 : (-1 : Int32) = nI (2 ^ 32 - 1) := by decide
  have e2 : nI D ^^^ nI (2 ^ 32 - 1) = nI (D ^^^ (2 ^ 32 - 1)) := by
    apply Int32.toBitVec_inj.mp
    show BitVec.ofNat 32 D ^^^ BitVec.ofNat 32 (2 ^ 32 - 1) = BitVec.ofNat 32 (D ^^^ (2 ^ 32 - 1))
    rw [BitVec.ofNat_xor]
  rw [e1, e2, nI_and, nI_has (Nat.lt_of_le_of_lt Nat.and_le_left hR) hu, Nat.testBit_and, Nat.testBit_xor, Nat.testBit_two_pow_sub_one, decide_eq_true hu]
  cases R.testBit u <;> cases D.testBit u <;> simp
abbrev RX4_statesFrom (zn d : Nat) (post : zP) : zK := zRun (zcal zty zcd false (d + 4)) kX4_statesFrom (zLM zn) post
theorem eX4_statesFrom {zn d : Nat} {post : zP} (k0 : Nat) (k1 : Nat) (x2 : Int32) (I : Nat → Nat → Int32) (L : Nat → Nat → Int64) (h0 : isX4 k0) (h1 : isX10 k1) (h : RX4_statesFrom zn d post 0 [some (.ref k0), some (.ref k1), some (.int x2), none, none, none, none, none] [] (zSH zn, I, L)) : zcal zty zcd false (d + 5) 40 [.ref k0, .ref k1, .int x2] (zSH zn, I, L) 0 0 post := zcal_of (d := d + 4) zmt40 zmc40 rfl (Nat.le_of_ble_eq_true rfl) h
theorem gX4_statesFrom_0 {zn d : Nat} {post : zP} (k0 : Nat) (k1 : Nat) (x2 : Int32) (I : Nat → Nat → Int32) (L : Nat → Nat → Int64) (h0 : isX4 k0) (h1 : isX10 k1) (h : RX4_statesFrom zn d post 10 [some (.ref k0), some (.ref k1), some (.int x2), some (.int ((1 : Int32) <<< (x2 &&& 31))), some (.int (0 : Int32)), some (.int (0 : Int32)), none, none] [] (zSH zn, I, L)) : RX4_statesFrom zn d post 0 [some (.ref k0), some (.ref k1), some (.int x2), none, none, none, none, none] [] (zSH zn, I, L) := fun P hw hc => hc _ tX4_statesFrom_0 _ _ _ (hc _ tX4_statesFrom_1 _ _ _ (hc _ tX4_statesFrom_2 _ _ _ (hc _ tX4_statesFrom_3 _ _ _ (hc _ tX4_statesFrom_4 _ _ _ (hc _ tX4_statesFrom_5 _ _ _ (hc _ tX4_statesFrom_7 _ _ _ (hc _ tX4_statesFrom_8 _ _ _ (h P hw hc))))))))
theorem gX4_statesFrom_10 {zn d : Nat} {post : zP} (k0 : Nat) (k1 : Nat) (x2 : Int32) (x3 : Int32) (x4 : Int32) (x5 : Int32) (I : Nat → Nat → Int32) (L : Nat → Nat → Int64) (h0 : isX4 k0) (h1 : isX10 k1) (h : ((16 : Int32) ≤ x5 → post (some (.int x3)) (zSH zn, I, L)) ∧ (¬ (16 : Int32) ≤ x5 → (x4 = x3 → post (some (.int x3)) (zSH zn, I, L)) ∧ (¬ x4 = x3 → RX4_statesFrom zn d post 37 [some (.ref k0), some (.ref k1), some (.int x2), some (.int x3), some (.int x3), some (.int x5), some (.int (x3 &&& (x4 ^^^ (-1 : Int32)))), some (.int (0 : Int32))] [] (zSH zn, I, L)))) : RX4_statesFrom zn d post 10 [some (.ref k0), some (.ref k1), some (.int x2), some (.int x3), some (.int x4), some (.int x5), none, none] [] (zSH zn, I, L) := fun P hw hc => hc _ tX4_statesFrom_10 _ _ _ (hc _ tX4_statesFrom_12 _ _ _ (hc _ tX4_statesFrom_14 _ _ _ (⟨fun c1 => hc _ tX4_statesFrom_80 _ _ _ (hc _ tX4_statesFrom_81 _ _ _ (⟨nofun, rfl, rfl, (h.1 c1)⟩)), fun c2 => hc _ tX4_statesFrom_17 _ _ _ (hc _ tX4_statesFrom_19 _ _ _ (hc _ tX4_statesFrom_20 _ _ _ (⟨fun c3 => hc _ tX4_statesFrom_80 _ _ _ (hc _ tX4_statesFrom_81 _ _ _ (⟨nofun, rfl, rfl, ((h.2 c2).1 c3)⟩)), fun c4 => hc _ tX4_statesFrom_23 _ _ _ (hc _ tX4_statesFrom_24 _ _ _ (hc _ tX4_statesFrom_26 _ _ _ (hc _ tX4_statesFrom_27 _ _ _ (hc _ tX4_statesFrom_28 _ _ _ (hc _ tX4_statesFrom_29 _ _ _ (hc _ tX4_statesFrom_31 _ _ _ (hc _ tX4_statesFrom_32 _ _ _ (hc _ tX4_statesFrom_34 _ _ _ (hc _ tX4_statesFrom_35 _ _ _ (((h.2 c2).2 c4) P hw hc))))))))))⟩)))⟩)))
theorem gX4_statesFrom_37 {zn d : Nat} {post : zP} (k0 : Nat) (k1 : Nat) (x2 : Int32) (x3 : Int32) (x4 : Int32) (x5 : Int32) (x6 : Int32) (x7 : Int32) (I : Nat → Nat → Int32) (L : Nat → Nat → Int64) (h0 : isX4 k0) (h1 : isX10 k1) (h : ((16 : Int32) ≤ x7 → RX4_statesFrom zn d post 10 [some (.ref k0), some (.ref k1), some (.int x2), some (.int x3), some (.int x4), some (.int (x5 + (1 : Int32))), none, none] [] (zSH zn, I, L)) ∧ (¬ (16 : Int32) ≤ x7 → (¬ ((¬ (x6 >>> (x7 &&& 31)) &&& 1 = 0)) → RX4_statesFrom zn d post 37 [some (.ref k0), some (.ref k1), some (.int x2), some (.int x3), some (.int x4), some (.int x5), some (.int x6), some (.int (x7 + (1 : Int32)))] [] (zSH zn, I, L)) ∧ ((¬ (x6 >>> (x7 &&& 31)) &&& 1 = 0) → (∃ (V6 : zVw) (os7 : List Nat), (cEv I k1 V6 os7) ∧ (∀ (K5 : Nat → Nat → Int64), (evL L K5 k0 V6 (bSt L x7)) → RX4_statesFrom zn d post 37 [some (.ref k0), some (.ref k1), some (.int x2), some (.int (x3 ||| (nI (bm (shA K5 k0) 16)))), some (.int x4), some (.int x5), some (.int x6), some (.int (x7 + (1 : Int32)))] [] (zSH zn, I, K5)))))) : RX4_statesFrom zn d post 37 [some (.ref k0), some (.ref k1), some (.int x2), some (.int x3), some (.int x4), some (.int x5), some (.int x6), some (.int x7)] [] (zSH zn, I, L) := fun P hw hc => hc _ tX4_statesFrom_37 _ _ _ (hc _ tX4_statesFrom_39 _ _ _ (hc _ tX4_statesFrom_41 _ _ _ (⟨fun c1 => hc _ tX4_statesFrom_74 _ _ _ (hc _ tX4_statesFrom_77 _ _ _ (hw _ _ _ _ _ (zwk_s (zwk_s (zwk_s (zwk_s (zwk_s (zwk_s (zwk_n (zwk_n zwk_nil)))))))) ((h.1 c1) P hw hc))), fun c2 => hc _ tX4_statesFrom_44 _ _ _ (hc _ tX4_statesFrom_46 _ _ _ (hc _ tX4_statesFrom_48 _ _ _ (⟨Nat.le_of_ble_eq_true rfl, Nat.le_of_ble_eq_true rfl, zl1, zl2, _, ctX11_hasBit x6 x7 I L, fun r u k12 => by obtain ⟨rfl, rfl⟩ := k12; exact ⟨zl3, zl4, hc _ tX4_statesFrom_51 _ _ _ (⟨fun c3 => hc _ tX4_statesFrom_68 _ _ _ (hc _ tX4_statesFrom_71 _ _ _ (((h.2 c2).1 (zb_e c3)) P hw hc)), fun c4 => hc _ tX4_statesFrom_54 _ _ _ (hc _ tX4_statesFrom_55 _ _ _ (hc _ tX4_statesFrom_56 _ _ _ ((by obtain ⟨V6, os7, hg8⟩ := ((h.2 c2).2 (zb_n c4)); exact hc _ tX4_statesFrom_58 _ _ _ (⟨⟨_, _, _, rfl, (geX4 h0), (shX4 h0)⟩, ⟨Nat.le_of_ble_eq_true rfl, Nat.le_of_ble_eq_true rfl, zl1, zl2, _, ctX4_runState k0 k1 x7 I L V6 os7 h0 h1 hg8.1, fun r u k11 => by obtain ⟨K5, rfl, rfl, p9⟩ := k11; exact ⟨zl3, zl4, hc _ tX4_statesFrom_61 _ _ _ (hc _ tX4_statesFrom_62 _ _ _ (hc _ tX4_statesFrom_63 _ _ _ (⟨⟨_, _, _, rfl, (geX4 h0), (shX4 h0)⟩, ⟨Nat.le_of_ble_eq_true rfl, Nat.le_of_ble_eq_true rfl, zl1, zl2, _, ctX4_statesShown k0 I K5 h0, fun r u k10 => by obtain ⟨rfl, rfl⟩ := k10; exact ⟨zl3, zl4, hc _ tX4_statesFrom_66 _ _ _ (hc _ tX4_statesFrom_67 _ _ _ (hc _ tX4_statesFrom_68 _ _ _ (hc _ tX4_statesFrom_71 _ _ _ ((hg8.2 K5 p9) P hw hc))))⟩⟩⟩)))⟩⟩⟩)))))⟩)⟩⟩)))⟩)))
theorem ctX4_statesFrom {zn d : Nat} (k0 : Nat) (k1 : Nat) (x2 : Int32) (I : Nat → Nat → Int32) (L : Nat → Nat → Int64) (V : zVw) (os : List Nat) (a : Nat) (h0 : isX4 k0) (h1 : isX10 k1) (q0 : cEv I k1 V os) (q1 : nSt L k0) (q2 : inpL L) (q3 : x2 = nI a) (q4 : a < 16) : zcal zty zcd false (d + 5) 40 [.ref k0, .ref k1, .int x2] (zSH zn, I, L) 0 0 (fun r u => ∃ (K : Nat → Nat → Int64), ∃ (X : Nat), r = some (.int (nI X)) ∧ u = (zSH zn, I, K) ∧ (fr [k0 + 1, k0 + 2, k0 + 5] L K ∧ isRch V a X)) := by
  obtain rfl := q3
  have hg : ∀ j, j ≤ 6 → True := fun _ _ => trivial
  have hk1 : k0 + 1 ≠ 1 ∧ k0 + 2 ≠ 1 ∧ k0 + 5 ≠ 1 := by have := geX4 h0; omega
  have hto := cEv_tw q0
  have hst : ∀ K, fr [k0 + 1, k0 + 2, k0 + 5] L K → nSt K k0 := fun K hK n hn => by rw [hK (k0 + 3) (by simp), hK (k0 + 4) (by simp)]; exact q1 n hn
  have hin : ∀ K, fr [k0 + 1, k0 + 2, k0 + 5] L K → inpL K := fun K hK n hn => by
    rw [hK 1 (by simp only [List.mem_cons, List.not_mem_nil, or_false, not_or]; omega)]; exact q2 n hn
  refine eX4_statesFrom _ _ _ I L h0 h1 (gX4_statesFrom_0 _ _ _ I L h0 h1 ?_)
  have loop : ∀ c (p : (Nat → Nat → Int64) × Nat × Nat), c ≤ 16 → (fr [k0 + 1, k0 + 2, k0 + 5] L p.1 ∧ p.2.1 < 2 ^ 16 ∧ p.2.2 < 2 ^ 16 ∧ sbt p.2.2 p.2.1 ∧ p.2.1.testBit a = true ∧ (∀ s t, s < 16 → t < 64 → p.2.2.testBit s = true → p.2.1.testBit (nxt V (64 * s + t)) = true) ∧ (∀ S : Nat → Prop, S a → (∀ s t, s < 16 → t < 64 → S s → S (nxt V (64 * s + t))) → ∀ m, p.2.1.testBit m = true → S m) ∧ c ≤ pcn p.2.2 16) → RX4_statesFrom zn d (fun r u => ∃ (K : Nat → Nat → Int64), ∃ (X : Nat), r = some (.int (nI X)) ∧ u = (zSH zn, I, K) ∧ (fr [k0 + 1, k0 + 2, k0 + 5] L K ∧ isRch V a X)) 10 [some (.ref k0), some (.ref k1), some (.int (nI a)), some (.int (nI p.2.1)), some (.int (nI p.2.2)), some (.int (nI c)), none, none] [] (zSH zn, I, p.1) := by
    have fin : ∀ (K : Nat → Nat → Int64) (R D : Nat), R < 2 ^ 16 → D < 2 ^ 16 → R.testBit a = true → (∀ s t, s < 16 → t < 64 → D.testBit s = true → R.testBit (nxt V (64 * s + t)) = true) → (∀ S : Nat → Prop, S a → (∀ s t, s < 16 → t < 64 → S s → S (nxt V (64 * s + t))) → ∀ m, R.testBit m = true → S m) → (∀ s, s < 16 → R.testBit s = true → D.testBit s = true) → isRch V a R := fun K R D hR hD f4 f5 f6 f8 => ⟨hR, f4, fun s t hs ht hb => f5 s t hs ht (f8 s hs hb), f6⟩
    refine zup (fun p hp => ?_) (fun c p hc hp ih => ?_)
    · obtain ⟨K, R, D⟩ := p
      obtain ⟨f1, f2, f2', f3, f4, f5, f6, f7⟩ := hp
      exact gX4_statesFrom_10 _ _ _ _ _ _ I K h0 h1 ⟨fun _ => ⟨K, R, rfl, rfl, f1, fin K R D f2 f2' f4 f5 f6 (fun s hs _ => pcn_full f2' f7 s hs)⟩, fun hc => absurd (by decide) hc⟩
    · obtain ⟨K, R, D⟩ := p
      obtain ⟨f1, f2, f2', f3, f4, f5, f6, f7⟩ := hp
      dsimp only at f1 f2 f2' f3 f4 f5 f6 f7
      refine gX4_statesFrom_10 _ _ _ _ _ _ I K h0 h1 ⟨fun hc => absurd hc (by rw [nl 16, nI_leI (by decide) (by omega)]; omega), fun _ => ⟨fun he => ?_, fun he => ?_⟩⟩
      · have e : D = R := nI_inj (by omega) (by omega) he
        subst e
        exact ⟨K, D, rfl, rfl, f1, fin K D D f2 f2' f4 f5 f6 (fun s hs h => h)⟩
      · have hne : D ≠ R := fun z => he (by rw [z])
        have inner : ∀ w (p : (Nat → Nat → Int64) × Nat), w ≤ 16 → (fr [k0 + 1, k0 + 2, k0 + 5] L p.1 ∧ p.2 < 2 ^ 16 ∧ sbt R p.2 ∧ (∀ S : Nat → Prop, S a → (∀ s t, s < 16 → t < 64 → S s → S (nxt V (64 * s + t))) → ∀ m, p.2.testBit m = true → S m) ∧ ∀ u, u < w → R.testBit u = true → D.testBit u = true ∨ ∀ t, t < 64 → p.2.testBit (nxt V (64 * u + t)) = true) → RX4_statesFrom zn d (fun r u => ∃ (K : Nat → Nat → Int64), ∃ (X : Nat), r = some (.int (nI X)) ∧ u = (zSH zn, I, K) ∧ (fr [k0 + 1, k0 + 2, k0 + 5] L K ∧ isRch V a X)) 37 [some (.ref k0), some (.ref k1), some (.int (nI a)), some (.int (nI p.2)), some (.int (nI R)), some (.int (nI c)), some (.int (nI R &&& (nI D ^^^ (-1)))), some (.int (nI w))] [] (zSH zn, I, p.1) := by
          refine zup (fun p hp => ?_) (fun w p hw hp ihw => ?_)
          · obtain ⟨M, Q⟩ := p
            obtain ⟨g1, g2, g3, g4, g5⟩ := hp
            dsimp only at g1 g2 g3 g4 g5
            refine gX4_statesFrom_37 _ _ _ _ _ _ _ _ I M h0 h1 ⟨fun _ => ?_, fun hc => absurd (by decide) hc⟩
            rw [nI_1]
            refine ih (M, Q, R) ⟨g1, g2, f2, g3, g3 a f4, fun s t hs ht hb => ?_, g4, ?_⟩
            · rcases g5 s hs hb with h | h
              · exact g3 _ (f5 s t hs ht h)
              · exact h t ht
            · have := pcn_more f2' f2 f3 hne
              show c + 1 ≤ pcn R 16
              omega
          · obtain ⟨M, Q⟩ := p
            obtain ⟨g1, g2, g3, g4, g5⟩ := hp
            dsimp only at g1 g2 g3 g4 g5
            refine gX4_statesFrom_37 _ _ _ _ _ _ _ _ I M h0 h1 ⟨fun hc => absurd hc (by rw [nl 16, nI_leI (by decide) (by omega)]; omega), fun _ => ?_⟩
            rw [fresh_bit (by omega) (by omega), nI_1]
            refine ⟨fun hb => ihw (M, Q) ⟨g1, g2, g3, g4, fun u hu hR => ?_⟩, fun hb => ⟨V, os, q0, fun M2 hM2 => ?_⟩⟩
            · by_cases huw : u = w
              · subst huw
                by_cases hD : D.testBit u = true
                · exact Or.inl hD
                · exact absurd ⟨hR, hD⟩ hb
              · exact g5 u (by omega) hR
            · rw [fa_or]
              have hl := stL q0.1 hto (hst M g1) (hin M g1) hw hM2
              have hlt : Q ||| bm (shA M2 k0) 16 < 2 ^ 16 := Nat.or_lt_two_pow g2 (bm_lt _ _)
              refine ihw (M2, Q ||| bm (shA M2 k0) 16) ⟨fr_trans g1 hM2.1, hlt, sbt_or g3, fun S s0 s1 m hm => ?_, fun u hu hR => ?_⟩
              · dsimp only at hm
                rw [Nat.testBit_or, Bool.or_eq_true, bm_test, Bool.and_eq_true] at hm
                rcases hm with hm | ⟨h16, hm⟩
                · exact g4 S s0 s1 m hm
                · have h16' := of_decide_eq_true h16
                  obtain ⟨t, ht, e⟩ := (shA_nxt hl h16').mp hm
                  rw [← e]
                  exact s1 w t hw ht (f6 S s0 s1 w hb.1)
              · by_cases huw : u = w
                · subst huw
                  refine Or.inr (fun t ht => ?_)
                  dsimp only
                  rw [Nat.testBit_or, bm_test, (shA_nxt hl (nxt_lt V _)).mpr ⟨t, ht, rfl⟩, decide_eq_true (nxt_lt V _)]
                  simp
                · rcases g5 u (by omega) hR with h | h
                  · exact Or.inl h
                  · exact Or.inr (fun t ht => sbt_or (fun _ z => z) _ (h t ht))
        exact inner 0 (K, R) (by decide) ⟨f1, f2, fun _ z => z, f6, fun u hu => absurd hu (by omega)⟩
  have h0' := loop 0 (L, 2 ^ a, 0) (by decide) ⟨fr_rf, Nat.pow_lt_pow_right (by decide) q4, Nat.two_pow_pos 16, fun m hm => by simp at hm, by rw [Nat.testBit_two_pow]; simp, fun s t _ _ hb => by simp at hb, fun S s0 _ m hm => by
    rw [Nat.testBit_two_pow] at hm
    rw [← of_decide_eq_true hm]; exact s0, Nat.zero_le _⟩
  rw [nI_shl1 (by omega)]
  exact h0'

