/-! THE ORDER of the class -/
def snV (V : zVw) (A : Nat → Nat) : Prop := okV V ∧ wI (dV V) A 15 ∧ (∀ w, 6 ≤ w → w < 15 → ¬ (A w).testBit w = true) ∧ ∀ (n : Nat) (ks : List Nat) (w : Nat), V n = some ks → w ∈ ks → 6 ≤ w → w < 15 → (V w).isSome = true
theorem dV_bit {V : zVw} {n m : Nat} : (dV V n).testBit m = true ↔ m < 19 ∧ ∃ ks, V n = some ks ∧ m ∈ ks := by
  unfold dV
  rw [bm_test, Bool.and_eq_true, decide_eq_true_eq]
  refine and_congr_right (fun _ => ?_)
  cases V n with
  | none => exact ⟨fun h => absurd (show false = true from h) Bool.false_ne_true, fun ⟨ks, h, _⟩ => absurd h.symm (Option.some_ne_none _)⟩
  | some ks =>
    show decide (m ∈ ks) = true ↔ _
    rw [decide_eq_true_eq]
    exact ⟨fun h => ⟨ks, rfl, h⟩, fun ⟨ks', h, h2⟩ => by cases h; exact h2⟩
theorem rk_line {V : zVw} {A : Nat → Nat} (h : snV V A) {o w : Nat} {ks : List Nat} (ho : V o = some ks) (hw : w ∈ ks) (h6 : 6 ≤ w) (h15 : w < 15) : rk (A w) < rk (A o) := by
  obtain ⟨a, b, c, e⟩ := h
  obtain ⟨o6, o19, _⟩ := a o ks ho
  obtain ⟨b1, b2, b3⟩ := b o o6 o19
  have hb := b1 w (dV_bit.mpr ⟨by omega, ks, ho, hw⟩)
  exact rk_lt h6 h15 (b2 w h6 h15 hb) hb (c w h6 h15)
def tpp (V : zVw) (os : List Nat) : Prop := ∀ (i o : Nat) (ks : List Nat) (w : Nat), os[i]? = some o → V o = some ks → w ∈ ks → 6 ≤ w → w < 15 → w ∈ os.take i
theorem tpp_app {V : zVw} {os : List Nat} {n : Nat} (h : tpp V os) (hn : ∀ ks w, V n = some ks → w ∈ ks → 6 ≤ w → w < 15 → w ∈ os) : tpp V (os ++ [n]) := by
  intro i o ks w hi ho hw h6 h15
  by_cases hl : i < os.length
  · rw [List.getElem?_append_left hl] at hi
    rw [List.take_append_of_le_length (by omega)]
    exact h i o ks w hi ho hw h6 h15
  · rw [List.getElem?_append_right (by omega)] at hi
    have h0 : i - os.length = 0 := by
      cases hz : i - os.length with
      | zero => rfl
      | succ p => rw [hz] at hi; simp at hi
    rw [h0] at hi
    cases hi
    have : i = os.length := by omega
    rw [this, List.take_left]
    exact hn ks w ho hw h6 h15
def pI (V : zVw) (A : Nat → Nat) (os : List Nat) (d w : Nat) : Prop := (∀ n, n ∈ os ↔ (6 ≤ n ∧ n < 15) ∧ (V n).isSome = true ∧ (rk (A n) < d ∨ rk (A n) = d ∧ n < w)) ∧ oOk os ∧ tpp V os
theorem pI_0 {V : zVw} {A : Nat → Nat} : pI V A [] 0 6 := ⟨fun n => ⟨nofun, fun h => absurd h.2.2 (by omega)⟩, ⟨List.nodup_nil, nofun⟩, fun i o ks w hi => by simp at hi⟩
theorem pI_next {V : zVw} {A : Nat → Nat} {os : List Nat} {d : Nat} (h : pI V A os d 15) : pI V A os (d + 1) 6 := ⟨fun n => by
  rw [h.1 n]
  refine and_congr_right (fun h1 => and_congr_right (fun _ => ?_))
  omega, h.2⟩
theorem pI_skip {V : zVw} {A : Nat → Nat} {os : List Nat} {d w : Nat} (h : pI V A os d w) (hr : ¬ rk (A w) = d) : pI V A os d (w + 1) := ⟨fun n => by
  rw [h.1 n]
  refine and_congr_right (fun h1 => and_congr_right (fun _ => ?_))
  by_cases hn : n = w
  · subst hn; omega
  · omega, h.2⟩
theorem pI_not {V : zVw} {A : Nat → Nat} {os : List Nat} {d w : Nat} (h : pI V A os d w) (hr : rk (A w) = d) : w ∉ os := fun z => by
  have := ((h.1 w).mp z).2.2
  omega
theorem pI_add {V : zVw} {A : Nat → Nat} (hs : snV V A) {os : List Nat} {d w : Nat} (h : pI V A os d w) (h6 : 6 ≤ w) (h15 : w < 15) (hr : rk (A w) = d) : pI V A (addO V w os) d (w + 1) := by
  unfold addO
  by_cases hv : (V w).isSome = true
  · rw [if_pos hv]
    refine ⟨fun n => ?_, oOk_app h.2.1 (pI_not h hr) h6 (by omega), tpp_app h.2.2 (fun ks u hk hu u6 u15 => ?_)⟩
    · rw [List.mem_append, List.mem_singleton, h.1 n]
      by_cases hn : n = w
      · subst hn
        exact ⟨fun _ => ⟨⟨h6, h15⟩, hv, Or.inr ⟨hr, by omega⟩⟩, fun _ => Or.inr rfl⟩
      · refine ⟨fun z => ?_, fun z => Or.inl ⟨z.1, z.2.1, by have := z.2.2; omega⟩⟩
        rcases z with z | z
        · exact ⟨z.1, z.2.1, by have := z.2.2; omega⟩
        · exact absurd z hn
    · rw [h.1 u]
      refine ⟨⟨u6, u15⟩, hs.2.2.2 w ks u hk hu u6 u15, Or.inl ?_⟩
      have := rk_line hs hk hu u6 u15
      omega
  · rw [if_neg hv]
    refine ⟨fun n => ?_, h.2⟩
    rw [h.1 n]
    refine and_congr_right (fun h1 => and_congr_right (fun h2 => ?_))
    by_cases hn : n = w
    · subst hn; exact absurd h2 hv
    · omega
def pR (V : zVw) (os : List Nat) (r : Nat) : Prop := (∀ n, n ∈ os ↔ (V n).isSome = true ∧ (n < 15 ∨ n < r)) ∧ oOk os ∧ tpp V os
theorem pR_0 {V : zVw} {A : Nat → Nat} (hs : snV V A) {os : List Nat} (h : pI V A os 9 6) : pR V os 15 := ⟨fun n => by
  rw [h.1 n]
  refine ⟨fun z => ⟨z.2.1, Or.inl z.1.2⟩, fun z => ?_⟩
  obtain ⟨ks, hk⟩ := Option.isSome_iff_exists.mp z.1
  have h6 := (hs.1 n ks hk).1
  have h15 : n < 15 := by have := z.2; omega
  exact ⟨⟨h6, h15⟩, z.1, Or.inl (rk_8 h6 h15 (hs.2.2.1 n h6 h15))⟩, h.2⟩
theorem pR_add {V : zVw} {A : Nat → Nat} (hs : snV V A) {os : List Nat} {r : Nat} (h : pR V os r) (h15 : 15 ≤ r) (h19 : r < 19) : r ∉ os ∧ pR V (addO V r os) (r + 1) := by
  have hn : r ∉ os := fun z => by have := ((h.1 r).mp z).2; omega
  refine ⟨hn, ?_⟩
  unfold addO
  by_cases hv : (V r).isSome = true
  · rw [if_pos hv]
    refine ⟨fun n => ?_, oOk_app h.2.1 hn (by omega) h19, tpp_app h.2.2 (fun ks u hk hu u6 u15 => ?_)⟩
    · rw [List.mem_append, List.mem_singleton, h.1 n]
      by_cases hnr : n = r
      · subst hnr
        exact ⟨fun _ => ⟨hv, Or.inr (by omega)⟩, fun _ => Or.inr rfl⟩
      · refine ⟨fun z => ?_, fun z => Or.inl ⟨z.1, by have := z.2; omega⟩⟩
        rcases z with z | z
        · exact ⟨z.1, by have := z.2; omega⟩
        · exact absurd z hnr
    · rw [h.1 u]
      exact ⟨hs.2.2.2 r ks u hk hu u6 u15, Or.inl u15⟩
  · rw [if_neg hv]
    refine ⟨fun n => ?_, h.2⟩
    rw [h.1 n]
    refine and_congr_right (fun h2 => ?_)
    by_cases hnr : n = r
    · subst hnr; exact absurd h2 hv
    · omega
theorem pR_end {V : zVw} {A : Nat → Nat} (hs : snV V A) {os : List Nat} (h : pR V os 19) : topc V os ∧ os.length ≤ 13 := ⟨⟨fun n => by
  rw [h.1 n]
  refine ⟨fun z => z.1, fun z => ⟨z, Or.inr ?_⟩⟩
  obtain ⟨ks, hk⟩ := Option.isSome_iff_exists.mp z
  exact (hs.1 n ks hk).2.1, h.2.1.1, h.2.2⟩, oOk_len h.2.1⟩
def poS (I J : Nat → Nat → Int32) (k : Nat) : Prop := fr [k, k + 6] I J ∧ ∀ s, s ≠ 7 → J k s = I k s
theorem poS_t {I J K : Nat → Nat → Int32} {k : Nat} (h : poS I J k) (h2 : poS J K k) : poS I K k := ⟨fr_trans h.1 h2.1, fun s hs => (h2.2 s hs).trans (h.2 s hs)⟩
abbrev RX10_putInOrder (zn d : Nat) (post : zP) : zK := zRun (zcal zty zcd false (d + 3)) kX10_putInOrder (zLM zn) post
theorem eX10_putInOrder {zn d : Nat} {post : zP} (k0 : Nat) (I : Nat → Nat → Int32) (L : Nat → Nat → Int64) (h0 : isX10 k0) (h : RX10_putInOrder zn d post 0 [some (.ref k0), none, none] [] (zSH zn, I, L)) : zcal zty zcd false (d + 4) 87 [.ref k0] (zSH zn, I, L) 0 0 post := zcal_of (d := d + 3) zmt87 zmc87 rfl (Nat.le_of_ble_eq_true rfl) h
theorem gX10_putInOrder_0 {zn d : Nat} {post : zP} (k0 : Nat) (I : Nat → Nat → Int32) (L : Nat → Nat → Int64) (h0 : isX10 k0) (h : RX10_putInOrder zn d post 7 [some (.ref k0), some (.int (0 : Int32)), none] [] (zSH zn, (zi I k0 7 (0 : Int32)), L)) : RX10_putInOrder zn d post 0 [some (.ref k0), none, none] [] (zSH zn, I, L) := fun P hw hc => hc _ tX10_putInOrder_0 _ _ _ (hc _ tX10_putInOrder_1 _ _ _ (hc _ tX10_putInOrder_2 _ _ _ (⟨_, (shX10 h0), (geX10 h0), nofun, hc _ tX10_putInOrder_5 _ _ _ (hc _ tX10_putInOrder_6 _ _ _ (h P hw hc))⟩)))
theorem gX10_putInOrder_7 {zn d : Nat} {post : zP} (k0 : Nat) (x1 : Int32) (I : Nat → Nat → Int32) (L : Nat → Nat → Int64) (h0 : isX10 k0) (h : ((9 : Int32) ≤ x1 → RX10_putInOrder zn d post 59 [some (.ref k0), some (.int (15 : Int32)), none] [] (zSH zn, I, L)) ∧ (¬ (9 : Int32) ≤ x1 → RX10_putInOrder zn d post 16 [some (.ref k0), some (.int x1), some (.int (6 : Int32))] [] (zSH zn, I, L))) : RX10_putInOrder zn d post 7 [some (.ref k0), some (.int x1), none] [] (zSH zn, I, L) := fun P hw hc => hc _ tX10_putInOrder_7 _ _ _ (hc _ tX10_putInOrder_8 _ _ _ (hc _ tX10_putInOrder_10 _ _ _ (⟨fun c1 => hc _ tX10_putInOrder_56 _ _ _ (hc _ tX10_putInOrder_58 _ _ _ ((h.1 c1) P hw hc)), fun c2 => hc _ tX10_putInOrder_13 _ _ _ (hc _ tX10_putInOrder_15 _ _ _ ((h.2 c2) P hw hc))⟩)))
theorem gX10_putInOrder_16 {zn d : Nat} {post : zP} (k0 : Nat) (x1 : Int32) (x2 : Int32) (I : Nat → Nat → Int32) (L : Nat → Nat → Int64) (h0 : isX10 k0) (h : ((15 : Int32) ≤ x2 → RX10_putInOrder zn d post 7 [some (.ref k0), some (.int (x1 + (1 : Int32))), none] [] (zSH zn, I, L)) ∧ (¬ (15 : Int32) ≤ x2 → vp_in x2 19 ∧ ((¬ (fJ6_bitCount_0f7a4 ((I (k0 + 4) (x2).toNatClampNeg) &&& (32704 : Int32))) = x1 → RX10_putInOrder zn d post 16 [some (.ref k0), some (.int x1), some (.int (x2 + (1 : Int32)))] [] (zSH zn, I, L)) ∧ ((fJ6_bitCount_0f7a4 ((I (k0 + 4) (x2).toNatClampNeg) &&& (32704 : Int32))) = x1 → (∃ (V6 : zVw) (os7 : List Nat) (n8 : Nat), (I k0 6 = nI (tlV V6)) ∧ (oSt I k0 os7) ∧ (oOk os7) ∧ (x2 = nI n8) ∧ (6 ≤ n8 ∧ n8 < 19 ∧ n8 ∉ os7) ∧ (∀ (J5 : Nat → Nat → Int32), (fr [k0, k0 + 6] I J5 ∧ (∀ s, s ≠ 7 → J5 k0 s = I k0 s) ∧ oSt J5 k0 (addO V6 n8 os7)) → RX10_putInOrder zn d post 16 [some (.ref k0), some (.int x1), some (.int (x2 + (1 : Int32)))] [] (zSH zn, J5, L))))))) : RX10_putInOrder zn d post 16 [some (.ref k0), some (.int x1), some (.int x2)] [] (zSH zn, I, L) := fun P hw hc => hc _ tX10_putInOrder_16 _ _ _ (hc _ tX10_putInOrder_17 _ _ _ (hc _ tX10_putInOrder_19 _ _ _ (⟨fun c1 => hc _ tX10_putInOrder_50 _ _ _ (hc _ tX10_putInOrder_53 _ _ _ (hw _ _ _ _ _ (zwk_s (zwk_s (zwk_n zwk_nil))) ((h.1 c1) P hw hc))), fun c2 => hc _ tX10_putInOrder_22 _ _ _ (hc _ tX10_putInOrder_23 _ _ _ (⟨_, _, (shX10 h0), (geX10 h0), rfl, hc _ tX10_putInOrder_26 _ _ _ (hc _ tX10_putInOrder_27 _ _ _ (⟨_, _, _, (shX10_3 h0), Or.inl ⟨rfl, (geX10_3 h0)⟩, (h.2 c2).1, hc _ tX10_putInOrder_28 _ _ _ (hc _ tX10_putInOrder_31 _ _ _ (hc _ tX10_putInOrder_32 _ _ _ (⟨Nat.le_of_ble_eq_true rfl, Nat.le_of_ble_eq_true rfl, zl1, zl2, _, ctJ6_bitCount_0f7a4 ((I (k0 + 4) (x2).toNatClampNeg) &&& (32704 : Int32)) I L, fun r u k12 => by obtain ⟨rfl, rfl⟩ := k12; exact ⟨zl3, zl4, hc _ tX10_putInOrder_35 _ _ _ (hc _ tX10_putInOrder_36 _ _ _ (⟨fun c3 => hc _ tX10_putInOrder_44 _ _ _ (hc _ tX10_putInOrder_47 _ _ _ (((h.2 c2).2.1 c3) P hw hc)), fun c4 => hc _ tX10_putInOrder_39 _ _ _ (hc _ tX10_putInOrder_40 _ _ _ ((by obtain ⟨V6, os7, n8, hg9⟩ := ((h.2 c2).2.2 c4); exact hc _ tX10_putInOrder_41 _ _ _ (⟨⟨_, _, _, rfl, (geX10 h0), (shX10 h0)⟩, ⟨Nat.le_of_ble_eq_true rfl, Nat.le_of_ble_eq_true rfl, zl1, zl2, _, ctX10_orderNext k0 x2 I L V6 os7 n8 h0 hg9.1 hg9.2.1 hg9.2.2.1 hg9.2.2.2.1 hg9.2.2.2.2.1, fun r u k11 => by obtain ⟨J5, rfl, rfl, p10⟩ := k11; exact ⟨zl3, zl4, hc _ tX10_putInOrder_44 _ _ _ (hc _ tX10_putInOrder_47 _ _ _ ((hg9.2.2.2.2.2 J5 p10) P hw hc))⟩⟩⟩))))⟩))⟩⟩)))⟩))⟩))⟩)))
theorem gX10_putInOrder_59 {zn d : Nat} {post : zP} (k0 : Nat) (x1 : Int32) (I : Nat → Nat → Int32) (L : Nat → Nat → Int64) (h0 : isX10 k0) (h : ((19 : Int32) ≤ x1 → post none (zSH zn, I, L)) ∧ (¬ (19 : Int32) ≤ x1 → (∃ (V4 : zVw) (os5 : List Nat) (n6 : Nat), (I k0 6 = nI (tlV V4)) ∧ (oSt I k0 os5) ∧ (oOk os5) ∧ (x1 = nI n6) ∧ (6 ≤ n6 ∧ n6 < 19 ∧ n6 ∉ os5) ∧ (∀ (J3 : Nat → Nat → Int32), (fr [k0, k0 + 6] I J3 ∧ (∀ s, s ≠ 7 → J3 k0 s = I k0 s) ∧ oSt J3 k0 (addO V4 n6 os5)) → RX10_putInOrder zn d post 59 [some (.ref k0), some (.int (x1 + (1 : Int32))), none] [] (zSH zn, J3, L))))) : RX10_putInOrder zn d post 59 [some (.ref k0), some (.int x1), none] [] (zSH zn, I, L) := fun P hw hc => hc _ tX10_putInOrder_59 _ _ _ (hc _ tX10_putInOrder_60 _ _ _ (hc _ tX10_putInOrder_62 _ _ _ (⟨fun c1 => hc _ tX10_putInOrder_76 _ _ _ (⟨rfl, rfl, (h.1 c1)⟩), fun c2 => hc _ tX10_putInOrder_65 _ _ _ (hc _ tX10_putInOrder_66 _ _ _ ((by obtain ⟨V4, os5, n6, hg7⟩ := (h.2 c2); exact hc _ tX10_putInOrder_67 _ _ _ (⟨⟨_, _, _, rfl, (geX10 h0), (shX10 h0)⟩, ⟨Nat.le_of_ble_eq_true rfl, Nat.le_of_ble_eq_true rfl, zl1, zl2, _, ctX10_orderNext k0 x1 I L V4 os5 n6 h0 hg7.1 hg7.2.1 hg7.2.2.1 hg7.2.2.2.1 hg7.2.2.2.2.1, fun r u k9 => by obtain ⟨J3, rfl, rfl, p8⟩ := k9; exact ⟨zl3, zl4, hc _ tX10_putInOrder_70 _ _ _ (hc _ tX10_putInOrder_73 _ _ _ ((hg7.2.2.2.2.2 J3 p8) P hw hc))⟩⟩⟩))))⟩)))
theorem ctX10_putInOrder {zn d : Nat} (k0 : Nat) (I : Nat → Nat → Int32) (L : Nat → Nat → Int64) (V : zVw) (A : Nat → Nat) (h0 : isX10 k0) (q0 : I k0 6 = nI (tlV V)) (q1 : zMk I (k0 + 4) A) (q2 : snV V A) : zcal zty zcd false (d + 4) 87 [.ref k0] (zSH zn, I, L) 0 0 (fun r u => ∃ (J : Nat → Nat → Int32), ∃ (os : List Nat), r = none ∧ u = (zSH zn, J, L) ∧ (poS I J k0 ∧ cOrd J k0 V os)) := by
  refine eX10_putInOrder _ I L h0 (gX10_putInOrder_0 _ I L h0 ?_)
  have j6 : ∀ {J : Nat → Nat → Int32}, poS I J k0 → J k0 6 = nI (tlV V) := fun hJ => by rw [hJ.2 6 (by decide)]; exact q0
  have j4 : ∀ {J : Nat → Nat → Int32}, poS I J k0 → zMk J (k0 + 4) A := fun hJ n hn => by
    rw [hJ.1 (k0 + 4) (by simp)]; exact q1 n hn
  have regs : ∀ (m r : Nat) (J : Nat → Nat → Int32) (os : List Nat), r + m = 19 → 15 ≤ r → poS I J k0 → oSt J k0 os → pR V os r → RX10_putInOrder zn d (fun r u => ∃ (J : Nat → Nat → Int32), ∃ (os : List Nat), r = none ∧ u = (zSH zn, J, L) ∧ (poS I J k0 ∧ cOrd J k0 V os)) 59 [some (.ref k0), some (.int (nI r)), none] [] (zSH zn, J, L) := by
    intro m
    induction m with
    | zero =>
      intro r J os hm h15 hJ ho hp
      have : r = 19 := by omega
      subst this
      obtain ⟨t1, t2⟩ := pR_end q2 hp
      exact gX10_putInOrder_59 _ _ J L h0 ⟨fun _ => ⟨J, os, rfl, rfl, hJ, t1, ho.1, t2, ho.2⟩, fun h => absurd (by decide) h⟩
    | succ m ih =>
      intro r J os hm h15 hJ ho hp
      obtain ⟨hn, hp2⟩ := pR_add q2 hp h15 (by omega)
      refine gX10_putInOrder_59 _ _ J L h0 ⟨fun h => absurd h ?_, fun _ => ⟨V, os, r, j6 hJ, ho, hp.2.1, rfl, ⟨by omega, by omega, hn⟩, fun K hK => ?_⟩⟩
      · rw [nl 19, nI_leI (by decide) (by omega)]; omega
      · rw [nI_1]
        exact ih (r + 1) K _ (by omega) (by omega) (poS_t hJ ⟨hK.1, hK.2.1⟩) hK.2.2 hp2
  have outer : ∀ (m e : Nat) (J : Nat → Nat → Int32) (os : List Nat), e + m = 9 → poS I J k0 → oSt J k0 os → pI V A os e 6 → RX10_putInOrder zn d (fun r u => ∃ (J : Nat → Nat → Int32), ∃ (os : List Nat), r = none ∧ u = (zSH zn, J, L) ∧ (poS I J k0 ∧ cOrd J k0 V os)) 7 [some (.ref k0), some (.int (nI e)), none] [] (zSH zn, J, L) := by
    intro m
    induction m with
    | zero =>
      intro e J os hm hJ ho hp
      have : e = 9 := by omega
      subst this
      refine gX10_putInOrder_7 _ _ J L h0 ⟨fun _ => regs 4 15 J os (by decide) (by decide) hJ ho (pR_0 q2 hp), fun h => absurd (by decide) h⟩
    | succ m ih =>
      intro e J os hm hJ ho hp
      refine gX10_putInOrder_7 _ _ J L h0 ⟨fun h => absurd h ?_, fun _ => ?_⟩
      · rw [nl 9, nI_leI (by decide) (by omega)]; omega
      · have inner : ∀ (p w : Nat) (J : Nat → Nat → Int32) (os : List Nat), w + p = 15 → 6 ≤ w → poS I J k0 → oSt J k0 os → pI V A os e w → RX10_putInOrder zn d (fun r u => ∃ (J : Nat → Nat → Int32), ∃ (os : List Nat), r = none ∧ u = (zSH zn, J, L) ∧ (poS I J k0 ∧ cOrd J k0 V os)) 16 [some (.ref k0), some (.int (nI e)), some (.int (nI w))] [] (zSH zn, J, L) := by
          intro p
          induction p with
          | zero =>
            intro w J os hw h6 hJ ho hp
            have : w = 15 := by omega
            subst this
            refine gX10_putInOrder_16 _ _ _ J L h0 ⟨fun _ => ?_, fun h => absurd (by decide) h⟩
            rw [nI_1]
            exact ih (e + 1) J os (by omega) hJ ho (pI_next hp)
          | succ p ihp =>
            intro w J os hw h6 hJ ho hp
            have e1 : (nI w).toNatClampNeg = w := nI_clamp (by omega)
            have hk := (j4 hJ w (by omega)).1
            have hrk : (fJ6_bitCount_0f7a4 (J (k0 + 4) w &&& 32704) = nI e) ↔ rk (A w) = e := by
              rw [hk, rk_bc, nI_eq (by have := rk_le (A w); omega) (by omega)]
            refine gX10_putInOrder_16 _ _ _ J L h0 ⟨fun h => absurd h ?_, fun _ => ⟨vin_nI (by omega) (by decide), ?_⟩⟩
            · rw [nl 15, nI_leI (by decide) (by omega)]; omega
            · rw [e1, hrk, nI_1]
              refine ⟨fun hr => ihp (w + 1) J os (by omega) (by omega) hJ ho (pI_skip hp hr), fun hr => ⟨V, os, w, j6 hJ, ho, hp.2.1, rfl, ⟨h6, by omega, pI_not hp hr⟩, fun K hK => ?_⟩⟩
              exact ihp (w + 1) K _ (by omega) (by omega) (poS_t hJ ⟨hK.1, hK.2.1⟩) hK.2.2 (pI_add q2 hp h6 (by omega) hr)
        exact inner 9 6 J os (by decide) (by decide) hJ ho hp
  refine outer 9 0 _ [] (by decide) ⟨fr_zi (by simp), fun s hs => ?_⟩ ⟨?_, fun i o ho => by simp at ho⟩ pI_0
  · rw [zi_at, if_neg (fun z => hs z.2)]
  · rw [zi_at, if_pos ⟨rfl, rfl⟩]; rfl

