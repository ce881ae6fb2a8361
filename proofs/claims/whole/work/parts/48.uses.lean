/-! how often a name is a TOKEN, the reference's -/
theorem byt_is : ∀ x, x < 26 → ∀ n, n < 19 → (nI (byt x) = 97 + nI n ↔ x = n) := by decide +kernel
theorem add_0 (x : Int32) : x + 0 = x := by
  apply Int32.toBitVec_inj.mp
  simp
theorem cntO_6 {V : zVw} (hV : okV V) (m : Nat) : fb_sm (fun l => cntO (V l) m) 6 = 0 := by
  have h : ∀ l, l < 6 → cntO (V l) m = 0 := fun l hl => by
    cases hv : V l with
    | none => rfl
    | some ks => have := (hV l ks hv).1; omega
  rw [fb_sm_cong (g := fun _ => 0) h]
  rfl
abbrev RX12_uses (zn d : Nat) (post : zP) : zK := zRun (zcal zty zcd false (d + 0)) kX12_uses (zLM zn) post
theorem eX12_uses {zn d : Nat} {post : zP} (x1 : Int32) (x2 : Int32) (I : Nat → Nat → Int32) (L : Nat → Nat → Int64) (h : RX12_uses zn d post 0 [some (.ref 115), some (.int x1), some (.int x2), none, none, none] [] (zSH zn, I, L)) : zcal zty zcd false (d + 1) 154 [.ref 115, .int x1, .int x2] (zSH zn, I, L) 0 0 post := zcal_of (d := d + 0) zmt154 zmc154 rfl (Nat.le_of_ble_eq_true rfl) h
theorem gX12_uses_0 {zn d : Nat} {post : zP} (x1 : Int32) (x2 : Int32) (I : Nat → Nat → Int32) (L : Nat → Nat → Int64) (h : RX12_uses zn d post 6 [some (.ref 115), some (.int x1), some (.int x2), some (.int (0 : Int32)), some (.int (6 : Int32)), none] [] (zSH zn, I, L)) : RX12_uses zn d post 0 [some (.ref 115), some (.int x1), some (.int x2), none, none, none] [] (zSH zn, I, L) := fun P hw hc => hc _ tX12_uses_0 _ _ _ (hc _ tX12_uses_1 _ _ _ (hc _ tX12_uses_2 _ _ _ (hc _ tX12_uses_4 _ _ _ (h P hw hc))))
theorem gX12_uses_6 {zn d : Nat} {post : zP} (x1 : Int32) (x2 : Int32) (x3 : Int32) (x4 : Int32) (I : Nat → Nat → Int32) (L : Nat → Nat → Int64) (h : ((19 : Int32) ≤ x4 → post (some (.int x3)) (zSH zn, I, L)) ∧ (¬ (19 : Int32) ≤ x4 → RX12_uses zn d post 16 [some (.ref 115), some (.int x1), some (.int x2), some (.int x3), some (.int x4), some (.int (0 : Int32))] [] (zSH zn, I, L))) : RX12_uses zn d post 6 [some (.ref 115), some (.int x1), some (.int x2), some (.int x3), some (.int x4), none] [] (zSH zn, I, L) := fun P hw hc => hc _ tX12_uses_6 _ _ _ (hc _ tX12_uses_8 _ _ _ (hc _ tX12_uses_10 _ _ _ (⟨fun c1 => hc _ tX12_uses_86 _ _ _ (hc _ tX12_uses_87 _ _ _ (⟨nofun, rfl, rfl, (h.1 c1)⟩)), fun c2 => hc _ tX12_uses_13 _ _ _ (hc _ tX12_uses_14 _ _ _ ((h.2 c2) P hw hc))⟩)))
theorem gX12_uses_16 {zn d : Nat} {post : zP} (x1 : Int32) (x2 : Int32) (x3 : Int32) (x4 : Int32) (x5 : Int32) (I : Nat → Nat → Int32) (L : Nat → Nat → Int64) (h : vp_in (((19 : Int32) * x1) + x4) 133 ∧ (((I 120 ((((19 : Int32) * x1) + x4)).toNatClampNeg) ≤ x5 → RX12_uses zn d post 6 [some (.ref 115), some (.int x1), some (.int x2), some (.int x3), some (.int (x4 + (1 : Int32))), none] [] (zSH zn, I, L)) ∧ (¬ (I 120 ((((19 : Int32) * x1) + x4)).toNatClampNeg) ≤ x5 → vp_in ((((200 : Int32) * x1) + (I 119 ((((19 : Int32) * x1) + x4)).toNatClampNeg)) + x5) 1400 ∧ ((¬ (I 118 (((((200 : Int32) * x1) + (I 119 ((((19 : Int32) * x1) + x4)).toNatClampNeg)) + x5)).toNatClampNeg) = ((97 : Int32) + x2) → RX12_uses zn d post 16 [some (.ref 115), some (.int x1), some (.int x2), some (.int (x3 + (0 : Int32))), some (.int x4), some (.int (x5 + (1 : Int32)))] [] (zSH zn, I, L)) ∧ ((I 118 (((((200 : Int32) * x1) + (I 119 ((((19 : Int32) * x1) + x4)).toNatClampNeg)) + x5)).toNatClampNeg) = ((97 : Int32) + x2) → RX12_uses zn d post 16 [some (.ref 115), some (.int x1), some (.int x2), some (.int (x3 + (1 : Int32))), some (.int x4), some (.int (x5 + (1 : Int32)))] [] (zSH zn, I, L)))))) : RX12_uses zn d post 16 [some (.ref 115), some (.int x1), some (.int x2), some (.int x3), some (.int x4), some (.int x5)] [] (zSH zn, I, L) := fun P hw hc => hc _ tX12_uses_16 _ _ _ (hc _ tX12_uses_18 _ _ _ (hc _ tX12_uses_19 _ _ _ (⟨_, _, sh115, (by decide), rfl, hc _ tX12_uses_22 _ _ _ (hc _ tX12_uses_24 _ _ _ (hc _ tX12_uses_25 _ _ _ (hc _ tX12_uses_26 _ _ _ (hc _ tX12_uses_28 _ _ _ (hc _ tX12_uses_29 _ _ _ (⟨_, _, _, sh120, Or.inl ⟨rfl, (by decide)⟩, h.1, hc _ tX12_uses_30 _ _ _ (⟨fun c1 => hc _ tX12_uses_80 _ _ _ (hc _ tX12_uses_83 _ _ _ (hw _ _ _ _ _ (zwk_s (zwk_s (zwk_s (zwk_s (zwk_s (zwk_n zwk_nil)))))) ((h.2.1 c1) P hw hc))), fun c2 => hc _ tX12_uses_33 _ _ _ (hc _ tX12_uses_34 _ _ _ (hc _ tX12_uses_35 _ _ _ (⟨_, _, sh115, (by decide), rfl, hc _ tX12_uses_38 _ _ _ (hc _ tX12_uses_41 _ _ _ (hc _ tX12_uses_42 _ _ _ (hc _ tX12_uses_43 _ _ _ (hc _ tX12_uses_44 _ _ _ (⟨_, _, sh115, (by decide), rfl, hc _ tX12_uses_47 _ _ _ (hc _ tX12_uses_49 _ _ _ (hc _ tX12_uses_50 _ _ _ (hc _ tX12_uses_51 _ _ _ (hc _ tX12_uses_53 _ _ _ (hc _ tX12_uses_54 _ _ _ (⟨_, _, _, sh119, Or.inl ⟨rfl, (by decide)⟩, h.1, hc _ tX12_uses_55 _ _ _ (hc _ tX12_uses_56 _ _ _ (hc _ tX12_uses_58 _ _ _ (hc _ tX12_uses_59 _ _ _ (⟨_, _, _, sh118, Or.inl ⟨rfl, (by decide)⟩, (h.2.2 c2).1, hc _ tX12_uses_60 _ _ _ (hc _ tX12_uses_62 _ _ _ (hc _ tX12_uses_63 _ _ _ (hc _ tX12_uses_64 _ _ _ (⟨fun c3 => hc _ tX12_uses_71 _ _ _ (hc _ tX12_uses_72 _ _ _ (hc _ tX12_uses_73 _ _ _ (hc _ tX12_uses_74 _ _ _ (hc _ tX12_uses_77 _ _ _ (((h.2.2 c2).2.1 c3) P hw hc))))), fun c4 => hc _ tX12_uses_67 _ _ _ (hc _ tX12_uses_68 _ _ _ (hc _ tX12_uses_72 _ _ _ (hc _ tX12_uses_73 _ _ _ (hc _ tX12_uses_74 _ _ _ (hc _ tX12_uses_77 _ _ _ (((h.2.2 c2).2.2 c4) P hw hc))))))⟩))))⟩))))⟩))))))⟩)))))⟩)))⟩)⟩))))))⟩)))
theorem ctX12_uses {zn d : Nat} (x1 : Int32) (x2 : Int32) (I : Nat → Nat → Int32) (L : Nat → Nat → Int64) (V : zVw) (q0 : okV V) (q1 : rLn I (tn x1) V) (q2 : zs x1 6) (q3 : zs x2 18) : zcal zty zcd false (d + 1) 154 [.ref 115, .int x1, .int x2] (zSH zn, I, L) 0 0 (fun r u => r = some (.int (nI (cntU V (tn x2)))) ∧ u = (zSH zn, I, L)) := by
  obtain ⟨v, hv, rfl⟩ := q2
  obtain ⟨n, hn, rfl⟩ := q3
  obtain ⟨-, -, tv, tnn, -⟩ := e19 hv hn
  rw [tv] at q1
  rw [tnn]
  refine eX12_uses _ _ I L (gX12_uses_0 _ _ I L ?_)
  have loop : ∀ (m w : Nat), w + m = 19 → 6 ≤ w → RX12_uses zn d (fun r u => r = some (.int (nI (cntU V (n)))) ∧ u = (zSH zn, I, L)) 6 [some (.ref 115), some (.int (nI v)), some (.int (nI n)), some (.int (nI (fb_sm (fun l => cntO (V l) n) w))), some (.int (nI w)), none] [] (zSH zn, I, L) := by
    intro m
    induction m with
    | zero =>
      intro w hw h6
      have : w = 19 := by omega
      subst this
      exact gX12_uses_6 _ _ _ _ I L ⟨fun _ => ⟨rfl, rfl⟩, fun h => absurd (by decide) h⟩
    | succ m ih =>
      intro w hw h6
      refine gX12_uses_6 _ _ _ _ I L ⟨fun h => absurd h (by rw [nl 19, nI_leI (by decide) (by omega)]; omega), fun _ => ?_⟩
      obtain ⟨e0, e0', -, -, hv0⟩ := e19 (n := w) hv (by omega)
      have hl := q1 w (by omega)
      have hih := ih (w + 1) (by omega) (by omega)
      rw [fb_sm_succ] at hih
      cases hV : V w with
      | none =>
        rw [hV] at hl hih
        refine gX12_uses_16 _ _ _ _ _ I L ⟨by rw [e0]; exact hv0, fun _ => by rw [nI_1]; exact hih, fun h => absurd ?_ h⟩
        rw [e0, e0', hl]; decide
      | some ks =>
        rw [hV] at hl hih
        obtain ⟨f, l1, l2, l3, l4⟩ := hl
        have hw := (q0 w ks hV).2.2
        have inner : ∀ (p i : Nat), i + p = ks.length → RX12_uses zn d (fun r u => r = some (.int (nI (cntU V (n)))) ∧ u = (zSH zn, I, L)) 16 [some (.ref 115), some (.int (nI v)), some (.int (nI n)), some (.int (nI (fb_sm (fun l => cntO (V l) n) w + (ks.take i).count n))), some (.int (nI w)), some (.int (nI i))] [] (zSH zn, I, L) := by
          intro p
          induction p with
          | zero =>
            intro i hi
            refine gX12_uses_16 _ _ _ _ _ I L ⟨by rw [e0]; exact hv0, fun _ => ?_, fun h => absurd ?_ h⟩
            · rw [nI_1, List.take_of_length_le (by omega)]; exact hih
            · rw [e0, e0', l3, nI_leI (by omega) (by omega)]; omega
          | succ p ihp =>
            intro i hi
            obtain ⟨x, hx⟩ : ∃ x, ks[i]? = some x := ⟨_, List.getElem?_eq_getElem (show i < ks.length by omega)⟩
            obtain ⟨x1, _⟩ := okd_at hw.1 hx
            have hip := ihp (i + 1) (by omega)
            rw [take_s hx, List.count_append] at hip
            have ei : (200 : Int32) * nI v + nI f + nI i = nI (200 * v + f + i) := by rw [nl 200, pk_mul, nI_add, nI_add]
            have ei' : (nI (200 * v + f + i)).toNatClampNeg = 200 * v + f + i := nI_clamp (by omega)
            refine gX12_uses_16 _ _ _ _ _ I L ⟨by rw [e0]; exact hv0, fun h => absurd h ?_, fun _ => ⟨?_, ?_⟩⟩
            · rw [e0, e0', l3, nI_leI (by omega) (by omega)]; omega
            · rw [e0, e0', l2, ei]; exact vin_nI (by omega) (by omega)
            · rw [e0, e0', l2, ei, ei', l4 i x hx, byt_is x x1 n (by omega), nI_1, nI_1, add_0]
              refine ⟨fun h => ?_, fun h => ?_⟩
              · rw [List.count_cons, if_neg (by simpa using h)] at hip
                exact hip
              · rw [List.count_cons, if_pos (by simpa using h)] at hip
                exact hip
        have h0 := inner ks.length 0 (by omega)
        exact h0
  have h0 := loop 13 6 (by decide) (by decide)
  rw [cntO_6 q0] at h0
  exact h0
/-! the reference's order of wires -/
def wOk (V : zVw) (os : List Nat) : Prop := os.Nodup ∧ (∀ o ∈ os, 6 ≤ o ∧ o < 15 ∧ (V o).isSome = true) ∧ tpp V os
theorem wOk_len {V : zVw} {os : List Nat} (h : wOk V os) : os.length ≤ 9 := by
  rw [nod_len (N := 15) h.1 (fun o ho => (h.2.1 o ho).2.1)]
  have h2 : fb_sm (fun n => if n ∈ os then 1 else 0) 15 ≤ fb_sm (fun n => if 6 ≤ n then 1 else 0) 15 := fb_sm_le (fun k _ => by
    by_cases hk : k ∈ os
    · rw [if_pos hk, if_pos (h.2.1 k hk).1]; exact Nat.le_refl _
    · rw [if_neg hk]; exact Nat.zero_le _)
  have h3 : fb_sm (fun n => if 6 ≤ n then 1 else 0) 15 = 9 := by decide
  omega
def dnM (os : List Nat) : Nat := bm (fun n => decide (n ∈ os)) 19
theorem dnM_bit {os : List Nat} {m : Nat} (h : m < 19) : (dnM os).testBit m = decide (m ∈ os) := by
  unfold dnM; rw [bm_test]; simp [h]
theorem dnM_lt {os : List Nat} : dnM os < 2 ^ 19 := bm_lt _ _
theorem dnM_add {os : List Nat} {w : Nat} (h : w < 19) : dnM (os ++ [w]) = dnM os ||| 2 ^ w := by
  unfold dnM
  rw [bm_pow h, bm_or]
  refine bm_cong (fun m _ => ?_)
  by_cases h1 : m ∈ os <;> by_cases h2 : m = w <;> simp [h1, h2]
theorem nI_and {a b : Nat} : nI a &&& nI b = nI (a &&& b) := by
  apply Int32.toBitVec_inj.mp
  show BitVec.ofNat 32 a &&& BitVec.ofNat 32 b = BitVec.ofNat 32 (a &&& b)
  rw [BitVec.ofNat_and]
theorem wait_iff {X S : Nat} (hX : X < 2 ^ 19) (hS : S < 2 ^ 19) : ((nI X &&& 32704) &&& (nI S ^^^ (-1)) = 0) ↔ ∀ m, 6 ≤ m → m < 15 → X.testBit m = true → S.testBit m = true := by
  have e1 : (-1 : Int32) = nI (2 ^ 32 - 1) := by decide
  have e2 : nI S ^^^ nI (2 ^ 32 - 1) = nI (S ^^^ (2 ^ 32 - 1)) := by
    apply Int32.toBitVec_inj.mp
    show BitVec.ofNat 32 S ^^^ BitVec.ofNat 32 (2 ^ 32 - 1) = BitVec.ofNat 32 (S ^^^ (2 ^ 32 - 1))
    rw [BitVec.ofNat_xor]
  have hT : ∀ m, ((X &&& 32704) &&& (S ^^^ (2 ^ 32 - 1))).testBit m = (X.testBit m && (decide (6 ≤ m ∧ m < 15) && !S.testBit m)) := by
    intro m
    rw [Nat.testBit_and, Nat.testBit_and, Nat.testBit_xor, Nat.testBit_two_pow_sub_one]
    have h3 : (32704 : Nat).testBit m = decide (6 ≤ m ∧ m < 15) := by
      by_cases hm : m < 15
      · have : ∀ m, m < 15 → (32704 : Nat).testBit m = decide (6 ≤ m ∧ m < 15) := by decide
        exact this m hm
      · rw [Nat.testBit_lt_two_pow (Nat.lt_of_lt_of_le (by decide : 32704 < 2 ^ 15) (Nat.pow_le_pow_right (by decide) (by omega)))]
        simp [hm]
    rw [h3]
    by_cases hm : 6 ≤ m ∧ m < 15
    · have h32 : m < 32 := by omega
      simp [hm, h32]
    · rw [decide_eq_false hm]; simp
  have hlt : (X &&& 32704) &&& (S ^^^ (2 ^ 32 - 1)) < 2 ^ 31 := Nat.lt_of_le_of_lt Nat.and_le_left (Nat.lt_of_le_of_lt Nat.and_le_left (by omega))
  rw [e1, e2, nl 32704, nI_and, nI_and, nl0, nI_eq hlt (by decide)]
  constructor
  · intro h m h6 h15 hx
    have := hT m
    rw [h, Nat.zero_testBit, hx, decide_eq_true ⟨h6, h15⟩] at this
    cases hs : S.testBit m with
    | true => rfl
    | false => rw [hs] at this; cases this
  · intro h
    refine Nat.eq_of_testBit_eq (fun m => ?_)
    rw [hT, Nat.zero_testBit]
    by_cases hm : 6 ≤ m ∧ m < 15
    · cases hx : X.testBit m with
      | false => simp
      | true => rw [h m hm.1 hm.2 hx]; simp
    · rw [decide_eq_false hm]; simp
def roS (I J : Nat → Nat → Int32) (v : Nat) : Prop := fr [122, 123] I J ∧ (∀ i, ¬ (9 * v ≤ i ∧ i < 9 * v + 9) → J 122 i = I 122 i) ∧ ∀ i, i ≠ v → J 123 i = I 123 i
def roI (I J : Nat → Nat → Int32) (v : Nat) (V : zVw) (os : List Nat) : Prop := roS I J v ∧ wOk V os ∧ J 123 v = nI os.length ∧ ∀ (i o : Nat), os[i]? = some o → J 122 (9 * v + i) = nI o
theorem rLn_fr {I J : Nat → Nat → Int32} {v : Nat} {V : zVw} (h : rLn I v V) (h1 : J 118 = I 118) (h2 : J 119 = I 119) (h3 : J 120 = I 120) : rLn J v V := by
  intro n hn
  have := h n hn
  cases hv : V n with
  | none => rw [hv] at this; simp only at this ⊢; rw [h3]; exact this
  | some ks =>
    rw [hv] at this
    obtain ⟨f, g1, g2, g3, g4⟩ := this
    exact ⟨f, g1, by rw [h2]; exact g2, by rw [h3]; exact g3, fun i x hx => by rw [h1]; exact g4 i x hx⟩
theorem wOk_add {V : zVw} {os : List Nat} {w : Nat} (h : wOk V os) (hw : w ∉ os) (h6 : 6 ≤ w) (h15 : w < 15) (hs : (V w).isSome = true) (hr : ∀ m, 6 ≤ m → m < 15 → (dV V w).testBit m = true → m ∈ os) : wOk V (os ++ [w]) := by
  obtain ⟨h1, h2, h3⟩ := h
  refine ⟨?_, fun o ho => ?_, tpp_app h3 (fun ks m hk hm m6 m15 => hr m m6 m15 (dV_bit.mpr ⟨by omega, ks, hk, hm⟩))⟩
  · rw [List.nodup_append]
    refine ⟨h1, by simp, fun a ha b hb => ?_⟩
    simp at hb
    subst hb
    exact fun z => hw (z ▸ ha)
  · rcases List.mem_append.mp ho with ho | ho
    · exact h2 o ho
    · simp at ho; subst ho; exact ⟨h6, h15, hs⟩
theorem lay_all {V : zVw} (hs : snV V (lea V)) {os : List Nat} (hst : ∀ u, 6 ≤ u → u < 15 → (V u).isSome = true → u ∉ os → ¬ ∀ m, 6 ≤ m → m < 15 → (dV V u).testBit m = true → m ∈ os) : ∀ u, 6 ≤ u → u < 15 → (V u).isSome = true → u ∈ os := by
  have : ∀ r u, rk (lea V u) < r → 6 ≤ u → u < 15 → (V u).isSome = true → u ∈ os := by
    intro r
    induction r with
    | zero => intro u h; omega
    | succ r ih =>
      intro u hr h6 h15 hv
      refine Decidable.byContradiction fun hu => hst u h6 h15 hv hu (fun m m6 m15 hm => ?_)
      obtain ⟨-, ks, hk, hmk⟩ := dV_bit.mp hm
      have := rk_line hs hk hmk m6 m15
      exact ih m (by omega) m6 m15 (hs.2.2.2 u ks m hk hmk m6 m15)
  exact fun u => this (rk (lea V u) + 1) u (by omega)
abbrev RX12_layOrder (zn d : Nat) (post : zP) : zK := zRun (zcal zty zcd false (d + 2)) kX12_layOrder (zLM zn) post
theorem eX12_layOrder {zn d : Nat} {post : zP} (x1 : Int32) (I : Nat → Nat → Int32) (L : Nat → Nat → Int64) (h : RX12_layOrder zn d post 0 [some (.ref 115), some (.int x1), none, none, none, none] [] (zSH zn, I, L)) : zcal zty zcd false (d + 3) 149 [.ref 115, .int x1] (zSH zn, I, L) 0 0 post := zcal_of (d := d + 2) zmt149 zmc149 rfl (Nat.le_of_ble_eq_true rfl) h
theorem gX12_layOrder_0 {zn d : Nat} {post : zP} (x1 : Int32) (I : Nat → Nat → Int32) (L : Nat → Nat → Int64) (h : vp_in x1 7 ∧ (RX12_layOrder zn d post 11 [some (.ref 115), some (.int x1), some (.int (0 : Int32)), some (.int (1 : Int32)), none, none] [] (zSH zn, (zi I 123 (x1).toNatClampNeg (0 : Int32)), L))) : RX12_layOrder zn d post 0 [some (.ref 115), some (.int x1), none, none, none, none] [] (zSH zn, I, L) := fun P hw hc => hc _ tX12_layOrder_0 _ _ _ (hc _ tX12_layOrder_1 _ _ _ (hc _ tX12_layOrder_2 _ _ _ (hc _ tX12_layOrder_3 _ _ _ (⟨_, _, sh115, (by decide), rfl, hc _ tX12_layOrder_6 _ _ _ (hc _ tX12_layOrder_7 _ _ _ (hc _ tX12_layOrder_8 _ _ _ (⟨_, _, sh123, (by decide), h.1, hc _ tX12_layOrder_9 _ _ _ (hc _ tX12_layOrder_10 _ _ _ (h.2 P hw hc))⟩)))⟩))))
theorem gX12_layOrder_11 {zn d : Nat} {post : zP} (x1 : Int32) (x2 : Int32) (x3 : Int32) (I : Nat → Nat → Int32) (L : Nat → Nat → Int64) (h : (x3 = 0 → post none (zSH zn, I, L)) ∧ (¬ x3 = 0 → RX12_layOrder zn d post 21 [some (.ref 115), some (.int x1), some (.int x2), some (.int (0 : Int32)), some (.int (6 : Int32)), none] [] (zSH zn, I, L))) : RX12_layOrder zn d post 11 [some (.ref 115), some (.int x1), some (.int x2), some (.int x3), none, none] [] (zSH zn, I, L) := fun P hw hc => hc _ tX12_layOrder_11 _ _ _ (hc _ tX12_layOrder_12 _ _ _ (⟨fun c1 => hc _ tX12_layOrder_130 _ _ _ (⟨rfl, rfl, (h.1 c1)⟩), fun c2 => hc _ tX12_layOrder_15 _ _ _ (hc _ tX12_layOrder_16 _ _ _ (hc _ tX12_layOrder_17 _ _ _ (hc _ tX12_layOrder_19 _ _ _ ((h.2 c2) P hw hc))))⟩))
theorem gX12_layOrder_21 {zn d : Nat} {post : zP} (x1 : Int32) (x2 : Int32) (x3 : Int32) (x4 : Int32) (I : Nat → Nat → Int32) (L : Nat → Nat → Int64) (h : ((15 : Int32) ≤ x4 → RX12_layOrder zn d post 11 [some (.ref 115), some (.int x1), some (.int x2), some (.int x3), none, none] [] (zSH zn, I, L)) ∧ (¬ (15 : Int32) ≤ x4 → vp_in (((19 : Int32) * x1) + x4) 133 ∧ (((I 120 ((((19 : Int32) * x1) + x4)).toNatClampNeg) = (-4 : Int32) → ((0 : Int32) = 0 → RX12_layOrder zn d post 21 [some (.ref 115), some (.int x1), some (.int x2), some (.int x3), some (.int (x4 + (1 : Int32))), none] [] (zSH zn, I, L)) ∧ (¬ (0 : Int32) = 0 → vp_in x1 7 ∧ (vp_in (((9 : Int32) * x1) + (I 123 (x1).toNatClampNeg)) 63 ∧ (RX12_layOrder zn d post 21 [some (.ref 115), some (.int x1), some (.int (x2 ||| ((1 : Int32) <<< (x4 &&& 31)))), some (.int (1 : Int32)), some (.int (x4 + (1 : Int32))), none] [] (zSH zn, (zi (zi I 122 ((((9 : Int32) * x1) + (I 123 (x1).toNatClampNeg))).toNatClampNeg x4) 123 (x1).toNatClampNeg (((zi I 122 ((((9 : Int32) * x1) + (I 123 (x1).toNatClampNeg))).toNatClampNeg x4) 123 (x1).toNatClampNeg) + (1 : Int32))), L))))) ∧ (¬ (I 120 ((((19 : Int32) * x1) + x4)).toNatClampNeg) = (-4 : Int32) → (¬ ((x2 >>> (x4 &&& 31)) &&& (1 : Int32)) = 0 → ((0 : Int32) = 0 → RX12_layOrder zn d post 21 [some (.ref 115), some (.int x1), some (.int x2), some (.int x3), some (.int (x4 + (1 : Int32))), none] [] (zSH zn, I, L)) ∧ (¬ (0 : Int32) = 0 → vp_in x1 7 ∧ (vp_in (((9 : Int32) * x1) + (I 123 (x1).toNatClampNeg)) 63 ∧ (RX12_layOrder zn d post 21 [some (.ref 115), some (.int x1), some (.int (x2 ||| ((1 : Int32) <<< (x4 &&& 31)))), some (.int (1 : Int32)), some (.int (x4 + (1 : Int32))), none] [] (zSH zn, (zi (zi I 122 ((((9 : Int32) * x1) + (I 123 (x1).toNatClampNeg))).toNatClampNeg x4) 123 (x1).toNatClampNeg (((zi I 122 ((((9 : Int32) * x1) + (I 123 (x1).toNatClampNeg))).toNatClampNeg x4) 123 (x1).toNatClampNeg) + (1 : Int32))), L))))) ∧ (((x2 >>> (x4 &&& 31)) &&& (1 : Int32)) = 0 → (∃ (V11 : zVw), (okV V11) ∧ (rLn I (tn x1) V11) ∧ (zs x1 6) ∧ (zs x4 18) ∧ ((¬ (((nI (dV V11 (tn x4))) &&& (32704 : Int32)) &&& (x2 ^^^ (-1 : Int32))) = 0 → ((0 : Int32) = 0 → RX12_layOrder zn d post 21 [some (.ref 115), some (.int x1), some (.int x2), some (.int x3), some (.int (x4 + (1 : Int32))), none] [] (zSH zn, I, L)) ∧ (¬ (0 : Int32) = 0 → vp_in x1 7 ∧ (vp_in (((9 : Int32) * x1) + (I 123 (x1).toNatClampNeg)) 63 ∧ (RX12_layOrder zn d post 21 [some (.ref 115), some (.int x1), some (.int (x2 ||| ((1 : Int32) <<< (x4 &&& 31)))), some (.int (1 : Int32)), some (.int (x4 + (1 : Int32))), none] [] (zSH zn, (zi (zi I 122 ((((9 : Int32) * x1) + (I 123 (x1).toNatClampNeg))).toNatClampNeg x4) 123 (x1).toNatClampNeg (((zi I 122 ((((9 : Int32) * x1) + (I 123 (x1).toNatClampNeg))).toNatClampNeg x4) 123 (x1).toNatClampNeg) + (1 : Int32))), L))))) ∧ ((((nI (dV V11 (tn x4))) &&& (32704 : Int32)) &&& (x2 ^^^ (-1 : Int32))) = 0 → ((1 : Int32) = 0 → RX12_layOrder zn d post 21 [some (.ref 115), some (.int x1), some (.int x2), some (.int x3), some (.int (x4 + (1 : Int32))), none] [] (zSH zn, I, L)) ∧ (¬ (1 : Int32) = 0 → vp_in x1 7 ∧ (vp_in (((9 : Int32) * x1) + (I 123 (x1).toNatClampNeg)) 63 ∧ (RX12_layOrder zn d post 21 [some (.ref 115), some (.int x1), some (.int (x2 ||| ((1 : Int32) <<< (x4 &&& 31)))), some (.int (1 : Int32)), some (.int (x4 + (1 : Int32))), none] [] (zSH zn, (zi (zi I 122 ((((9 : Int32) * x1) + (I 123 (x1).toNatClampNeg))).toNatClampNeg x4) 123 (x1).toNatClampNeg (((zi I 122 ((((9 : Int32) * x1) + (I 123 (x1).toNatClampNeg))).toNatClampNeg x4) 123 (x1).toNatClampNeg) + (1 : Int32))), L)))))))))))) : RX12_layOrder zn d post 21 [some (.ref 115), some (.int x1), some (.int x2), some (.int x3), some (.int x4), none] [] (zSH zn, I, L) := fun P hw hc => hc _ tX12_layOrder_21 _ _ _ (hc _ tX12_layOrder_23 _ _ _ (hc _ tX12_layOrder_25 _ _ _ (⟨fun c1 => hc _ tX12_layOrder_127 _ _ _ (hw _ _ _ _ _ (zwk_s (zwk_s (zwk_s (zwk_s (zwk_n (zwk_s zwk_nil)))))) ((h.1 c1) P hw hc)), fun c2 => hc _ tX12_layOrder_28 _ _ _ (hc _ tX12_layOrder_29 _ _ _ (⟨_, _, sh115, (by decide), rfl, hc _ tX12_layOrder_32 _ _ _ (hc _ tX12_layOrder_34 _ _ _ (hc _ tX12_layOrder_35 _ _ _ (hc _ tX12_layOrder_36 _ _ _ (hc _ tX12_layOrder_38 _ _ _ (hc _ tX12_layOrder_39 _ _ _ (⟨_, _, _, sh120, Or.inl ⟨rfl, (by decide)⟩, (h.2 c2).1, hc _ tX12_layOrder_40 _ _ _ (hc _ tX12_layOrder_42 _ _ _ (⟨fun c3 => hc _ tX12_layOrder_76 _ _ _ (hc _ tX12_layOrder_77 _ _ _ (hc _ tX12_layOrder_79 _ _ _ (hc _ tX12_layOrder_81 _ _ _ (⟨fun c5 => hc _ tX12_layOrder_121 _ _ _ (hc _ tX12_layOrder_124 _ _ _ (hw _ _ _ _ _ (zwk_s (zwk_s (zwk_s (zwk_s (zwk_s (zwk_n zwk_nil)))))) ((((h.2 c2).2.1 c3).1 c5) P hw hc))), fun c6 => hc _ tX12_layOrder_84 _ _ _ (hc _ tX12_layOrder_85 _ _ _ (⟨_, _, sh115, (by decide), rfl, hc _ tX12_layOrder_88 _ _ _ (hc _ tX12_layOrder_90 _ _ _ (hc _ tX12_layOrder_91 _ _ _ (hc _ tX12_layOrder_92 _ _ _ (hc _ tX12_layOrder_93 _ _ _ (⟨_, _, sh115, (by decide), rfl, hc _ tX12_layOrder_96 _ _ _ (hc _ tX12_layOrder_97 _ _ _ (⟨_, _, _, sh123, Or.inl ⟨rfl, (by decide)⟩, (((h.2 c2).2.1 c3).2 c6).1, hc _ tX12_layOrder_98 _ _ _ (hc _ tX12_layOrder_99 _ _ _ (hc _ tX12_layOrder_101 _ _ _ (⟨_, _, sh122, (by decide), (((h.2 c2).2.1 c3).2 c6).2.1, hc _ tX12_layOrder_102 _ _ _ (hc _ tX12_layOrder_103 _ _ _ (⟨_, _, sh115, (by decide), rfl, hc _ tX12_layOrder_106 _ _ _ (hc _ tX12_layOrder_107 _ _ _ (⟨⟨rfl, rfl⟩, hc _ tX12_layOrder_108 _ _ _ (⟨_, _, _, sh123, Or.inl ⟨rfl, (by decide)⟩, (((h.2 c2).2.1 c3).2 c6).1, hc _ tX12_layOrder_109 _ _ _ (hc _ tX12_layOrder_110 _ _ _ (hc _ tX12_layOrder_111 _ _ _ (⟨_, _, sh123, (by decide), (((h.2 c2).2.1 c3).2 c6).1, hc _ tX12_layOrder_112 _ _ _ (hc _ tX12_layOrder_113 _ _ _ (hc _ tX12_layOrder_114 _ _ _ (hc _ tX12_layOrder_116 _ _ _ (hc _ tX12_layOrder_117 _ _ _ (hc _ tX12_layOrder_118 _ _ _ (hc _ tX12_layOrder_119 _ _ _ (hc _ tX12_layOrder_120 _ _ _ (hc _ tX12_layOrder_121 _ _ _ (hc _ tX12_layOrder_124 _ _ _ (hw _ _ _ _ _ (zwk_s (zwk_s (zwk_s (zwk_s (zwk_s (zwk_n zwk_nil)))))) ((((h.2 c2).2.1 c3).2 c6).2.2 P hw hc)))))))))))⟩)))⟩)⟩))⟩))⟩)))⟩))⟩)))))⟩))⟩)))), fun c4 => hc _ tX12_layOrder_45 _ _ _ (hc _ tX12_layOrder_46 _ _ _ (hc _ tX12_layOrder_48 _ _ _ (hc _ tX12_layOrder_49 _ _ _ (hc _ tX12_layOrder_50 _ _ _ (hc _ tX12_layOrder_51 _ _ _ (⟨fun c7 => hc _ tX12_layOrder_76 _ _ _ (hc _ tX12_layOrder_77 _ _ _ (hc _ tX12_layOrder_79 _ _ _ (hc _ tX12_layOrder_81 _ _ _ (⟨fun c9 => hc _ tX12_layOrder_121 _ _ _ (hc _ tX12_layOrder_124 _ _ _ (hw _ _ _ _ _ (zwk_s (zwk_s (zwk_s (zwk_s (zwk_s (zwk_n zwk_nil)))))) (((((h.2 c2).2.2 c4).1 c7).1 c9) P hw hc))), fun c10 => hc _ tX12_layOrder_84 _ _ _ (hc _ tX12_layOrder_85 _ _ _ (⟨_, _, sh115, (by decide), rfl, hc _ tX12_layOrder_88 _ _ _ (hc _ tX12_layOrder_90 _ _ _ (hc _ tX12_layOrder_91 _ _ _ (hc _ tX12_layOrder_92 _ _ _ (hc _ tX12_layOrder_93 _ _ _ (⟨_, _, sh115, (by decide), rfl, hc _ tX12_layOrder_96 _ _ _ (hc _ tX12_layOrder_97 _ _ _ (⟨_, _, _, sh123, Or.inl ⟨rfl, (by decide)⟩, ((((h.2 c2).2.2 c4).1 c7).2 c10).1, hc _ tX12_layOrder_98 _ _ _ (hc _ tX12_layOrder_99 _ _ _ (hc _ tX12_layOrder_101 _ _ _ (⟨_, _, sh122, (by decide), ((((h.2 c2).2.2 c4).1 c7).2 c10).2.1, hc _ tX12_layOrder_102 _ _ _ (hc _ tX12_layOrder_103 _ _ _ (⟨_, _, sh115, (by decide), rfl, hc _ tX12_layOrder_106 _ _ _ (hc _ tX12_layOrder_107 _ _ _ (⟨⟨rfl, rfl⟩, hc _ tX12_layOrder_108 _ _ _ (⟨_, _, _, sh123, Or.inl ⟨rfl, (by decide)⟩, ((((h.2 c2).2.2 c4).1 c7).2 c10).1, hc _ tX12_layOrder_109 _ _ _ (hc _ tX12_layOrder_110 _ _ _ (hc _ tX12_layOrder_111 _ _ _ (⟨_, _, sh123, (by decide), ((((h.2 c2).2.2 c4).1 c7).2 c10).1, hc _ tX12_layOrder_112 _ _ _ (hc _ tX12_layOrder_113 _ _ _ (hc _ tX12_layOrder_114 _ _ _ (hc _ tX12_layOrder_116 _ _ _ (hc _ tX12_layOrder_117 _ _ _ (hc _ tX12_layOrder_118 _ _ _ (hc _ tX12_layOrder_119 _ _ _ (hc _ tX12_layOrder_120 _ _ _ (hc _ tX12_layOrder_121 _ _ _ (hc _ tX12_layOrder_124 _ _ _ (hw _ _ _ _ _ (zwk_s (zwk_s (zwk_s (zwk_s (zwk_s (zwk_n zwk_nil)))))) (((((h.2 c2).2.2 c4).1 c7).2 c10).2.2 P hw hc)))))))))))⟩)))⟩)⟩))⟩))⟩)))⟩))⟩)))))⟩))⟩)))), fun c8 => hc _ tX12_layOrder_54 _ _ _ (hc _ tX12_layOrder_55 _ _ _ (hc _ tX12_layOrder_56 _ _ _ ((by obtain ⟨V11, hg12⟩ := (((h.2 c2).2.2 c4).2 c8); exact hc _ tX12_layOrder_58 _ _ _ (⟨⟨_, _, _, rfl, (by decide), sh115⟩, ⟨Nat.le_of_ble_eq_true rfl, Nat.le_of_ble_eq_true rfl, zl1, zl2, _, ctX12_namesIn x1 x4 I L V11 hg12.1 hg12.2.1 hg12.2.2.1 hg12.2.2.2.1, fun r u k19 => by obtain ⟨rfl, rfl⟩ := k19; exact ⟨zl3, zl4, hc _ tX12_layOrder_61 _ _ _ (hc _ tX12_layOrder_64 _ _ _ (hc _ tX12_layOrder_65 _ _ _ (hc _ tX12_layOrder_66 _ _ _ (hc _ tX12_layOrder_67 _ _ _ (hc _ tX12_layOrder_68 _ _ _ (hc _ tX12_layOrder_69 _ _ _ (⟨fun c13 => hc _ tX12_layOrder_76 _ _ _ (hc _ tX12_layOrder_77 _ _ _ (hc _ tX12_layOrder_79 _ _ _ (hc _ tX12_layOrder_81 _ _ _ (⟨fun c15 => hc _ tX12_layOrder_121 _ _ _ (hc _ tX12_layOrder_124 _ _ _ (hw _ _ _ _ _ (zwk_s (zwk_s (zwk_s (zwk_s (zwk_s (zwk_n zwk_nil)))))) (((hg12.2.2.2.2.1 c13).1 c15) P hw hc))), fun c16 => hc _ tX12_layOrder_84 _ _ _ (hc _ tX12_layOrder_85 _ _ _ (⟨_, _, sh115, (by decide), rfl, hc _ tX12_layOrder_88 _ _ _ (hc _ tX12_layOrder_90 _ _ _ (hc _ tX12_layOrder_91 _ _ _ (hc _ tX12_layOrder_92 _ _ _ (hc _ tX12_layOrder_93 _ _ _ (⟨_, _, sh115, (by decide), rfl, hc _ tX12_layOrder_96 _ _ _ (hc _ tX12_layOrder_97 _ _ _ (⟨_, _, _, sh123, Or.inl ⟨rfl, (by decide)⟩, ((hg12.2.2.2.2.1 c13).2 c16).1, hc _ tX12_layOrder_98 _ _ _ (hc _ tX12_layOrder_99 _ _ _ (hc _ tX12_layOrder_101 _ _ _ (⟨_, _, sh122, (by decide), ((hg12.2.2.2.2.1 c13).2 c16).2.1, hc _ tX12_layOrder_102 _ _ _ (hc _ tX12_layOrder_103 _ _ _ (⟨_, _, sh115, (by decide), rfl, hc _ tX12_layOrder_106 _ _ _ (hc _ tX12_layOrder_107 _ _ _ (⟨⟨rfl, rfl⟩, hc _ tX12_layOrder_108 _ _ _ (⟨_, _, _, sh123, Or.inl ⟨rfl, (by decide)⟩, ((hg12.2.2.2.2.1 c13).2 c16).1, hc _ tX12_layOrder_109 _ _ _ (hc _ tX12_layOrder_110 _ _ _ (hc _ tX12_layOrder_111 _ _ _ (⟨_, _, sh123, (by decide), ((hg12.2.2.2.2.1 c13).2 c16).1, hc _ tX12_layOrder_112 _ _ _ (hc _ tX12_layOrder_113 _ _ _ (hc _ tX12_layOrder_114 _ _ _ (hc _ tX12_layOrder_116 _ _ _ (hc _ tX12_layOrder_117 _ _ _ (hc _ tX12_layOrder_118 _ _ _ (hc _ tX12_layOrder_119 _ _ _ (hc _ tX12_layOrder_120 _ _ _ (hc _ tX12_layOrder_121 _ _ _ (hc _ tX12_layOrder_124 _ _ _ (hw _ _ _ _ _ (zwk_s (zwk_s (zwk_s (zwk_s (zwk_s (zwk_n zwk_nil)))))) (((hg12.2.2.2.2.1 c13).2 c16).2.2 P hw hc)))))))))))⟩)))⟩)⟩))⟩))⟩)))⟩))⟩)))))⟩))⟩)))), fun c14 => hc _ tX12_layOrder_72 _ _ _ (hc _ tX12_layOrder_73 _ _ _ (hc _ tX12_layOrder_77 _ _ _ (hc _ tX12_layOrder_79 _ _ _ (hc _ tX12_layOrder_81 _ _ _ (⟨fun c17 => hc _ tX12_layOrder_121 _ _ _ (hc _ tX12_layOrder_124 _ _ _ (hw _ _ _ _ _ (zwk_s (zwk_s (zwk_s (zwk_s (zwk_s (zwk_n zwk_nil)))))) (((hg12.2.2.2.2.2 c14).1 c17) P hw hc))), fun c18 => hc _ tX12_layOrder_84 _ _ _ (hc _ tX12_layOrder_85 _ _ _ (⟨_, _, sh115, (by decide), rfl, hc _ tX12_layOrder_88 _ _ _ (hc _ tX12_layOrder_90 _ _ _ (hc _ tX12_layOrder_91 _ _ _ (hc _ tX12_layOrder_92 _ _ _ (hc _ tX12_layOrder_93 _ _ _ (⟨_, _, sh115, (by decide), rfl, hc _ tX12_layOrder_96 _ _ _ (hc _ tX12_layOrder_97 _ _ _ (⟨_, _, _, sh123, Or.inl ⟨rfl, (by decide)⟩, ((hg12.2.2.2.2.2 c14).2 c18).1, hc _ tX12_layOrder_98 _ _ _ (hc _ tX12_layOrder_99 _ _ _ (hc _ tX12_layOrder_101 _ _ _ (⟨_, _, sh122, (by decide), ((hg12.2.2.2.2.2 c14).2 c18).2.1, hc _ tX12_layOrder_102 _ _ _ (hc _ tX12_layOrder_103 _ _ _ (⟨_, _, sh115, (by decide), rfl, hc _ tX12_layOrder_106 _ _ _ (hc _ tX12_layOrder_107 _ _ _ (⟨⟨rfl, rfl⟩, hc _ tX12_layOrder_108 _ _ _ (⟨_, _, _, sh123, Or.inl ⟨rfl, (by decide)⟩, ((hg12.2.2.2.2.2 c14).2 c18).1, hc _ tX12_layOrder_109 _ _ _ (hc _ tX12_layOrder_110 _ _ _ (hc _ tX12_layOrder_111 _ _ _ (⟨_, _, sh123, (by decide), ((hg12.2.2.2.2.2 c14).2 c18).1, hc _ tX12_layOrder_112 _ _ _ (hc _ tX12_layOrder_113 _ _ _ (hc _ tX12_layOrder_114 _ _ _ (hc _ tX12_layOrder_116 _ _ _ (hc _ tX12_layOrder_117 _ _ _ (hc _ tX12_layOrder_118 _ _ _ (hc _ tX12_layOrder_119 _ _ _ (hc _ tX12_layOrder_120 _ _ _ (hc _ tX12_layOrder_121 _ _ _ (hc _ tX12_layOrder_124 _ _ _ (hw _ _ _ _ _ (zwk_s (zwk_s (zwk_s (zwk_s (zwk_s (zwk_n zwk_nil)))))) (((hg12.2.2.2.2.2 c14).2 c18).2.2 P hw hc)))))))))))⟩)))⟩)⟩))⟩))⟩)))⟩))⟩)))))⟩))⟩)))))⟩)))))))⟩⟩⟩)))))⟩))))))⟩))⟩))))))⟩))⟩)))
theorem ctX12_layOrder {zn d : Nat} (x1 : Int32) (I : Nat → Nat → Int32) (L : Nat → Nat → Int64) (V : zVw) (q0 : okV V) (q1 : rLn I (tn x1) V) (q2 : zs x1 6) (q3 : snV V (lea V)) : zcal zty zcd false (d + 3) 149 [.ref 115, .int x1] (zSH zn, I, L) 0 0 (fun r u => ∃ (J : Nat → Nat → Int32), ∃ (os : List Nat), r = none ∧ u = (zSH zn, J, L) ∧ (roS I J (tn x1) ∧ rOrd J (tn x1) V os)) := by
  obtain ⟨v, hv, rfl⟩ := id q2
  have tv : tn (nI v) = v := tn_nI (by omega)
  have tv' : (nI v).toNatClampNeg = v := tv
  have hv7 : vp_in (nI v) 7 := vin_nI (by omega) (by omega)
  have q1' := q1
  rw [tv] at q1' ⊢
  have hLn : ∀ J, roS I J v → rLn J v V := fun J h => rLn_fr q1' (h.1 118 (by decide)) (h.1 119 (by decide)) (h.1 120 (by decide))
  refine eX12_layOrder _ I L (gX12_layOrder_0 _ I L ⟨hv7, ?_⟩)
  rw [tv']
  have outer : ∀ (M : Nat) (J : Nat → Nat → Int32) (os : List Nat) (y : Int32), 9 - os.length < M → roI I J v V os → (y = 0 → ∀ u, 6 ≤ u → u < 15 → (V u).isSome = true → u ∈ os) → RX12_layOrder zn d (fun r u => ∃ (J : Nat → Nat → Int32), ∃ (os : List Nat), r = none ∧ u = (zSH zn, J, L) ∧ (roS I J (v) ∧ rOrd J (v) V os)) 11 [some (.ref 115), some (.int (nI v)), some (.int (nI (dnM os))), some (.int y), none, none] [] (zSH zn, J, L) := by
    intro M
    induction M with
    | zero => intro J os y h; omega
    | succ M ihM =>
      intro J os y hM hI hy
      refine gX12_layOrder_11 _ _ _ J L ⟨fun h => ?_, fun h => ?_⟩
      · exact ⟨J, os, rfl, rfl, hI.1, ⟨fun n => ⟨fun hn => hI.2.1.2.1 n hn, fun hn => hy h n hn.1 hn.2.1 hn.2.2⟩, hI.2.1.1, hI.2.1.2.2⟩, hI.2.2.1, wOk_len hI.2.1, hI.2.2.2⟩
      · have inner : ∀ (p w : Nat) (K : Nat → Nat → Int32) (ps : List Nat) (z : Int32), w + p = 15 → 6 ≤ w → roI I K v V ps → (z = 0 → ps = os ∧ ∀ u, 6 ≤ u → u < w → (V u).isSome = true → u ∉ os → ¬ ∀ m, 6 ≤ m → m < 15 → (dV V u).testBit m = true → m ∈ os) → (¬ z = 0 → os.length < ps.length) → RX12_layOrder zn d (fun r u => ∃ (J : Nat → Nat → Int32), ∃ (os : List Nat), r = none ∧ u = (zSH zn, J, L) ∧ (roS I J (v) ∧ rOrd J (v) V os)) 21 [some (.ref 115), some (.int (nI v)), some (.int (nI (dnM ps))), some (.int z), some (.int (nI w)), none] [] (zSH zn, K, L) := by
          intro p
          induction p with
          | zero =>
            intro w K ps z hw h6 hK hz hz2
            have : w = 15 := by omega
            subst this
            refine gX12_layOrder_21 _ _ _ _ K L ⟨fun _ => ?_, fun h => absurd (by decide) h⟩
            by_cases hz0 : z = 0
            · obtain ⟨rfl, hst⟩ := hz hz0
              have hall := lay_all q3 hst
              refine gX12_layOrder_11 _ _ _ K L ⟨fun _ => ?_, fun h => absurd hz0 h⟩
              exact ⟨K, ps, rfl, rfl, hK.1, ⟨fun n => ⟨fun hn => hK.2.1.2.1 n hn, fun hn => hall n hn.1 hn.2.1 hn.2.2⟩, hK.2.1.1, hK.2.1.2.2⟩, hK.2.2.1, wOk_len hK.2.1, hK.2.2.2⟩
            · have := hz2 hz0
              have := wOk_len hK.2.1
              exact ihM K ps z (by omega) hK (fun h => absurd h hz0)
          | succ p ihp =>
            intro w K ps z hw h6 hK hz hz2
            obtain ⟨e0, e0', -, tw, hv0⟩ := e19 (n := w) hv (by omega)
            have hl := hLn K hK.1 w (by omega)
            refine gX12_layOrder_21 _ _ _ _ K L ⟨fun h => absurd h (by rw [nl 15, nI_leI (by decide) (by omega)]; omega), fun _ => ?_⟩
            rw [e0, e0', nI_1]
            refine ⟨hv0, fun h1 => ⟨fun _ => ?_, fun h => absurd rfl h⟩, fun h1 => ⟨fun h2 => ⟨fun _ => ?_, fun h => absurd rfl h⟩, fun h2 => ⟨V, q0, by rw [tv]; exact hLn K hK.1, q2, ⟨w, by omega, rfl⟩, ?_⟩⟩⟩
            · refine ihp (w + 1) K ps z (by omega) (by omega) hK (fun hz0 => ⟨(hz hz0).1, fun u u6 uw hu huo => ?_⟩) hz2
              by_cases huw : u = w
              · subst huw
                obtain ⟨ks, hks⟩ := Option.isSome_iff_exists.mp hu
                rw [hks] at hl
                obtain ⟨f, l1, l2, l3, l4⟩ := hl
                exact absurd (l3.symm.trans h1) (nI_n4 (by omega))
              · exact (hz hz0).2 u u6 (by omega) hu huo
            · have hm : w ∈ ps := by
                have := (nI_has (j := w) (by have := dnM_lt (os := ps); omega) (by omega)).mp h2
                rw [dnM_bit (by omega)] at this
                exact of_decide_eq_true this
              refine ihp (w + 1) K ps z (by omega) (by omega) hK (fun hz0 => ⟨(hz hz0).1, fun u u6 uw hu huo => ?_⟩) hz2
              by_cases huw : u = w
              · subst huw
                rw [(hz hz0).1] at hm
                exact absurd hm huo
              · exact (hz hz0).2 u u6 (by omega) hu huo
            · have hnm : w ∉ ps := by
                intro hm
                refine (nI_has (n := dnM ps) (j := w) (by have := dnM_lt (os := ps); omega) (by omega)).mpr ?_ h2
                rw [dnM_bit (by omega)]
                exact decide_eq_true hm
              rw [tw, wait_iff dV_lt dnM_lt]
              have hbit : (∀ m, 6 ≤ m → m < 15 → (dV V w).testBit m = true → (dnM ps).testBit m = true) ↔ ∀ m, 6 ≤ m → m < 15 → (dV V w).testBit m = true → m ∈ ps := by
                constructor
                · intro h m m6 m15 hm
                  have := h m m6 m15 hm
                  rw [dnM_bit (by omega)] at this
                  exact of_decide_eq_true this
                · intro h m m6 m15 hm
                  rw [dnM_bit (by omega)]
                  exact decide_eq_true (h m m6 m15 hm)
              rw [hbit]
              refine ⟨fun h3 => ⟨fun _ => ?_, fun h => absurd rfl h⟩, fun h3 => ⟨fun h => absurd h (by decide), fun _ => ?_⟩⟩
              · refine ihp (w + 1) K ps z (by omega) (by omega) hK (fun hz0 => ⟨(hz hz0).1, fun u u6 uw hu huo => ?_⟩) hz2
                by_cases huw : u = w
                · subst huw
                  rw [(hz hz0).1] at h3
                  exact h3
                · exact (hz hz0).2 u u6 (by omega) hu huo
              · have hsome : (V w).isSome = true := by
                  cases hvw : V w with
                  | none => rw [hvw] at hl; exact absurd hl h1
                  | some ks => rfl
                have hadd := wOk_add hK.2.1 hnm h6 (by omega) hsome h3
                have hlen := wOk_len hadd
                rw [List.length_append, List.length_singleton] at hlen
                have e9 : (9 : Int32) * nI v + nI ps.length = nI (9 * v + ps.length) := by rw [nl 9, pk_mul, nI_add]
                have e9' : (nI (9 * v + ps.length)).toNatClampNeg = 9 * v + ps.length := nI_clamp (by omega)
                rw [tv', hK.2.2.1, e9, e9', zi_ne (by decide), hK.2.2.1, nI_1, nI_shl1 (by omega), fa_or, ← dnM_add (by omega)]
                refine ⟨hv7, vin_nI (by omega) (by omega), ihp (w + 1) _ (ps ++ [w]) 1 (by omega) (by omega) ⟨⟨fr_trans hK.1.1 (fr_trans (fr_zi (by decide)) (fr_zi (by decide))), fun i hi => ?_, fun i hi => ?_⟩, hadd, ?_, fun i o ho => ?_⟩ (fun h => absurd h (by decide)) (fun _ => ?_)⟩
                · rw [zi_ne (by decide), zi_at, if_neg (by omega)]; exact hK.1.2.1 i hi
                · rw [zi_at, if_neg (by omega), zi_ne (by decide)]; exact hK.1.2.2 i hi
                · rw [zi_at, if_pos ⟨rfl, rfl⟩, List.length_append, List.length_singleton]
                · rw [zi_ne (by decide), zi_at]
                  by_cases hip : i = ps.length
                  · subst hip
                    rw [if_pos ⟨rfl, rfl⟩]
                    rw [List.getElem?_append_right (Nat.le_refl _)] at ho
                    simp at ho
                    rw [ho]
                  · rw [if_neg (by omega)]
                    refine hK.2.2.2 i o ?_
                    have hil := (List.getElem?_eq_some_iff.mp ho).1
                    rw [List.length_append, List.length_singleton] at hil
                    rw [List.getElem?_append_left (by omega)] at ho
                    exact ho
                · rw [List.length_append, List.length_singleton]
                  by_cases hz0 : z = 0
                  · rw [(hz hz0).1]; omega
                  · have := hz2 hz0; omega
        exact inner 9 6 J os 0 (by decide) (by decide) hI (fun _ => ⟨rfl, fun u u6 u7 => by omega⟩) (fun h => absurd rfl h)
  have h0 := outer 10 (zi I 123 v 0) [] 1 (by decide) ⟨⟨fr_zi (by decide), fun i _ => by rw [zi_ne (by decide)], fun i hi => by rw [zi_at, if_neg (fun z => hi z.2)]⟩, ⟨List.nodup_nil, nofun, fun i o ks w hi => by simp at hi⟩, by rw [zi_at, if_pos ⟨rfl, rfl⟩]; rfl, fun i o hi => by simp at hi⟩ (fun h => absurd h (by decide))
  exact h0

