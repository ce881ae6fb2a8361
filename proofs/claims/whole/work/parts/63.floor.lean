/-! PLACES -/
def pm (p : Nat → Nat) (X : Nat) : Nat → Nat
  | 0 => 0
  | n + 1 => if X.testBit n = true then pm p X n ||| 2 ^ p n else pm p X n
theorem pm_lt {p : Nat → Nat} {X : Nat} : ∀ {n : Nat}, (∀ b, b < n → p b < 8) → pm p X n < 256
  | 0, _ => Nat.two_pow_pos 8
  | n + 1, h => by
    have ih := pm_lt (p := p) (X := X) (n := n) (fun b hb => h b (by omega))
    unfold pm
    split
    · exact Nat.or_lt_two_pow (n := 8) ih (Nat.pow_lt_pow_right (by decide) (h n (by omega)))
    · exact ih
theorem pm_bit {p : Nat → Nat} {X m : Nat} : ∀ {n : Nat}, (pm p X n).testBit m = true ↔ ∃ b, b < n ∧ X.testBit b = true ∧ p b = m
  | 0 => by simp [pm]
  | n + 1 => by
    have ih := pm_bit (p := p) (X := X) (m := m) (n := n)
    unfold pm
    by_cases hx : X.testBit n = true
    · rw [if_pos hx, Nat.testBit_or, Bool.or_eq_true, ih, Nat.testBit_two_pow]
      constructor
      · rintro (⟨b, h1, h2, h3⟩ | h)
        · exact ⟨b, by omega, h2, h3⟩
        · exact ⟨n, by omega, hx, of_decide_eq_true h⟩
      · rintro ⟨b, h1, h2, h3⟩
        by_cases hb : b = n
        · subst hb; exact Or.inr (decide_eq_true h3)
        · exact Or.inl ⟨b, by omega, h2, h3⟩
    · rw [if_neg hx, ih]
      constructor
      · rintro ⟨b, h1, h2, h3⟩; exact ⟨b, by omega, h2, h3⟩
      · rintro ⟨b, h1, h2, h3⟩
        by_cases hb : b = n
        · subst hb; exact absurd h2 hx
        · exact ⟨b, by omega, h2, h3⟩
theorem pm_cong {p q : Nat → Nat} {X : Nat} : ∀ {n : Nat}, (∀ b, b < n → p b = q b) → pm p X n = pm q X n
  | 0, _ => rfl
  | n + 1, h => by rw [pm, pm, pm_cong (fun b hb => h b (by omega)), h n (by omega)]
theorem pm_ne {p : Nat → Nat} {X B : Nat} (h0 : X ≠ 0) (hX : X < 2 ^ B) : pm p X B ≠ 0 := by
  obtain ⟨b, hb⟩ := Nat.exists_testBit_of_ne_zero h0
  have hbB : b < B := by
    refine Nat.lt_of_not_le (fun z => ?_)
    rw [Nat.testBit_lt_two_pow (Nat.lt_of_lt_of_le hX (Nat.pow_le_pow_right (by decide) z))] at hb
    cases hb
  intro z
  have := (pm_bit (p := p) (X := X) (m := p b) (n := B)).mpr ⟨b, hbB, hb, rfl⟩
  rw [z] at this
  simp at this
def spN (S : Nat) : Nat := tn (fX1_span (nI S))
theorem spN_t : ∀ S, S < 256 → fX1_span (nI S) = nI (spN S) ∧ spN S ≤ 4 := by decide +kernel
def wa (B M : Nat) (nb p : Nat → Nat) : Nat := fb_sm (fun k => spN (pm p (nb k) B)) M
theorem wa_le {B M : Nat} {nb p : Nat → Nat} (hp : ∀ b, b < B → p b < 8) : wa B M nb p ≤ 4 * M := by
  unfold wa
  have : fb_sm (fun k => spN (pm p (nb k) B)) M ≤ fb_sm (fun _ => 4) M := fb_sm_le (fun k _ => (spN_t _ (pm_lt hp)).2)
  have e : ∀ M, fb_sm (fun _ => 4) M = 4 * M := fun M => by
    induction M with
    | zero => rfl
    | succ M ih => rw [fb_sm_succ, ih]; omega
  rw [e] at this
  exact this
theorem wa_cong {B M : Nat} {nb p q : Nat → Nat} (h : ∀ b, b < B → p b = q b) : wa B M nb p = wa B M nb q := fb_sm_cong (fun k _ => by rw [pm_cong h])
def plC (I : Nat → Nat → Int32) (c B : Nat) (p : Nat → Nat) : Prop := ∀ b, b < B → I c b = nI (p b) ∧ p b < 8
def ntC (I : Nat → Nat → Int32) (c M : Nat) (nb : Nat → Nat) : Prop := ∀ k, k < M → I c k = nI (nb k) ∧ nb k < 128
abbrev RX1_placesOf (zn d : Nat) (post : zP) : zK := zRun (zcal zty zcd false (d + 1)) kX1_placesOf (zLM zn) post
theorem eX1_placesOf {zn d : Nat} {post : zP} (x1 : Int32) (I : Nat → Nat → Int32) (L : Nat → Nat → Int64) (h : RX1_placesOf zn d post 0 [some (.ref 67), some (.int x1), none, none] [] (zSH zn, I, L)) : zcal zty zcd false (d + 2) 10 [.ref 67, .int x1] (zSH zn, I, L) 0 0 post := zcal_of (d := d + 1) zmt10 zmc10 rfl (Nat.le_of_ble_eq_true rfl) h
theorem gX1_placesOf_0 {zn d : Nat} {post : zP} (x1 : Int32) (I : Nat → Nat → Int32) (L : Nat → Nat → Int64) (h : RX1_placesOf zn d post 4 [some (.ref 67), some (.int x1), some (.int (0 : Int32)), some (.int (0 : Int32))] [] (zSH zn, I, L)) : RX1_placesOf zn d post 0 [some (.ref 67), some (.int x1), none, none] [] (zSH zn, I, L) := fun P hw hc => hc _ tX1_placesOf_0 _ _ _ (hc _ tX1_placesOf_1 _ _ _ (hc _ tX1_placesOf_2 _ _ _ (hc _ tX1_placesOf_3 _ _ _ (h P hw hc))))
theorem gX1_placesOf_4 {zn d : Nat} {post : zP} (x1 : Int32) (x2 : Int32) (x3 : Int32) (I : Nat → Nat → Int32) (L : Nat → Nat → Int64) (h : ((I 67 2) ≤ x3 → post (some (.int x2)) (zSH zn, I, L)) ∧ (¬ (I 67 2) ≤ x3 → (¬ ((¬ (x1 >>> (x3 &&& 31)) &&& 1 = 0)) → RX1_placesOf zn d post 4 [some (.ref 67), some (.int x1), some (.int x2), some (.int (x3 + (1 : Int32)))] [] (zSH zn, I, L)) ∧ ((¬ (x1 >>> (x3 &&& 31)) &&& 1 = 0) → vp_in x3 7 ∧ (RX1_placesOf zn d post 4 [some (.ref 67), some (.int x1), some (.int (x2 ||| ((1 : Int32) <<< ((I 68 (x3).toNatClampNeg) &&& 31)))), some (.int (x3 + (1 : Int32)))] [] (zSH zn, I, L))))) : RX1_placesOf zn d post 4 [some (.ref 67), some (.int x1), some (.int x2), some (.int x3)] [] (zSH zn, I, L) := fun P hw hc => hc _ tX1_placesOf_4 _ _ _ (hc _ tX1_placesOf_5 _ _ _ (hc _ tX1_placesOf_6 _ _ _ (⟨_, sh67, (by decide), hc _ tX1_placesOf_9 _ _ _ (⟨fun c1 => hc _ tX1_placesOf_37 _ _ _ (hc _ tX1_placesOf_38 _ _ _ (⟨nofun, rfl, rfl, (h.1 c1)⟩)), fun c2 => hc _ tX1_placesOf_12 _ _ _ (hc _ tX1_placesOf_13 _ _ _ (hc _ tX1_placesOf_14 _ _ _ (⟨Nat.le_of_ble_eq_true rfl, Nat.le_of_ble_eq_true rfl, zl1, zl2, _, ctX11_hasBit x1 x3 I L, fun r u k5 => by obtain ⟨rfl, rfl⟩ := k5; exact ⟨zl3, zl4, hc _ tX1_placesOf_17 _ _ _ (⟨fun c3 => hc _ tX1_placesOf_31 _ _ _ (hc _ tX1_placesOf_34 _ _ _ (((h.2 c2).1 (zb_e c3)) P hw hc)), fun c4 => hc _ tX1_placesOf_20 _ _ _ (hc _ tX1_placesOf_21 _ _ _ (hc _ tX1_placesOf_22 _ _ _ (hc _ tX1_placesOf_23 _ _ _ (⟨_, _, sh67, (by decide), rfl, hc _ tX1_placesOf_26 _ _ _ (hc _ tX1_placesOf_27 _ _ _ (⟨_, _, _, sh68, Or.inl ⟨rfl, (by decide)⟩, ((h.2 c2).2 (zb_n c4)).1, hc _ tX1_placesOf_28 _ _ _ (hc _ tX1_placesOf_29 _ _ _ (hc _ tX1_placesOf_30 _ _ _ (hc _ tX1_placesOf_31 _ _ _ (hc _ tX1_placesOf_34 _ _ _ (((h.2 c2).2 (zb_n c4)).2 P hw hc)))))⟩))⟩))))⟩)⟩⟩)))⟩)⟩)))
theorem ctX1_placesOf {zn d : Nat} (x1 : Int32) (I : Nat → Nat → Int32) (L : Nat → Nat → Int64) (B : Nat) (p : Nat → Nat) (X : Nat) (q0 : I 67 2 = nI B ∧ B ≤ 7) (q1 : plC I 68 B p) (q2 : x1 = nI X ∧ X < 2 ^ 31) : zcal zty zcd false (d + 2) 10 [.ref 67, .int x1] (zSH zn, I, L) 0 0 (fun r u => r = some (.int (nI (pm p X B))) ∧ u = (zSH zn, I, L)) := by
  obtain ⟨eB, hB⟩ := q0
  obtain ⟨rfl, hX⟩ := q2
  have loop : ∀ n (u : Unit), n ≤ B → True → RX1_placesOf zn d (fun r u => r = some (.int (nI (pm p X B))) ∧ u = (zSH zn, I, L)) 4 [some (.ref 67), some (.int (nI X)), some (.int (nI (pm p X n))), some (.int (nI n))] [] (zSH zn, I, L) := by
    refine zup (fun u _ => ?_) (fun n u hn _ ih => ?_)
    · exact gX1_placesOf_4 _ _ _ I L ⟨fun _ => ⟨rfl, rfl⟩, fun hc => absurd (by rw [eB, nI_leI (by omega) (by omega)]; exact Nat.le_refl _) hc⟩
    · refine gX1_placesOf_4 _ _ _ I L ⟨fun hc => absurd hc (by rw [eB, nI_leI (by omega) (by omega)]; omega), fun _ => ?_⟩
      have hih := ih u trivial
      have hp := q1 n hn
      rw [nI_has hX (by omega), nI_1, nI_clamp (by omega), hp.1, nI_shl1 (by omega), fa_or]
      refine ⟨fun h => ?_, fun h => ⟨vin_nI (by omega) (by omega), ?_⟩⟩
      · rw [pm, if_neg h] at hih; exact hih
      · rw [pm, if_pos h] at hih; exact hih
  exact eX1_placesOf _ I L (gX1_placesOf_0 _ I L (loop 0 () (Nat.zero_le _) trivial))
abbrev RX1_wireOf (zn d : Nat) (post : zP) : zK := zRun (zcal zty zcd false (d + 2)) kX1_wireOf (zLM zn) post
theorem eX1_wireOf {zn d : Nat} {post : zP} (x1 : Int32) (I : Nat → Nat → Int32) (L : Nat → Nat → Int64) (h : RX1_wireOf zn d post 0 [some (.ref 67), some (.int x1)] [] (zSH zn, I, L)) : zcal zty zcd false (d + 3) 11 [.ref 67, .int x1] (zSH zn, I, L) 0 0 post := zcal_of (d := d + 2) zmt11 zmc11 rfl (Nat.le_of_ble_eq_true rfl) h
theorem gX1_wireOf_0 {zn d : Nat} {post : zP} (x1 : Int32) (I : Nat → Nat → Int32) (L : Nat → Nat → Int64) (h : vp_in x1 8 ∧ ((∃ (B1 : Nat) (p2 : Nat → Nat) (X3 : Nat), (I 67 2 = nI B1 ∧ B1 ≤ 7) ∧ (plC I 68 B1 p2) ∧ ((I 69 (x1).toNatClampNeg) = nI X3 ∧ X3 < 2 ^ 31) ∧ (post (some (.int (fX1_span (nI (pm p2 X3 B1))))) (zSH zn, I, L))))) : RX1_wireOf zn d post 0 [some (.ref 67), some (.int x1)] [] (zSH zn, I, L) := fun P hw hc => hc _ tX1_wireOf_0 _ _ _ (hc _ tX1_wireOf_1 _ _ _ (hc _ tX1_wireOf_2 _ _ _ (⟨_, _, sh67, (by decide), rfl, hc _ tX1_wireOf_5 _ _ _ (hc _ tX1_wireOf_6 _ _ _ (⟨_, _, _, sh69, Or.inl ⟨rfl, (by decide)⟩, h.1, (by obtain ⟨B1, p2, X3, hg4⟩ := h.2; exact hc _ tX1_wireOf_7 _ _ _ (⟨⟨_, _, _, rfl, (by decide), sh67⟩, ⟨Nat.le_of_ble_eq_true rfl, Nat.le_of_ble_eq_true rfl, zl1, zl2, _, ctX1_placesOf (I 69 (x1).toNatClampNeg) I L B1 p2 X3 hg4.1 hg4.2.1 hg4.2.2.1, fun r u k6 => by obtain ⟨rfl, rfl⟩ := k6; exact ⟨zl3, zl4, hc _ tX1_wireOf_10 _ _ _ (⟨Nat.le_of_ble_eq_true rfl, Nat.le_of_ble_eq_true rfl, zl1, zl2, _, ctX1_span (nI (pm p2 X3 B1)) I L, fun r u k5 => by obtain ⟨rfl, rfl⟩ := k5; exact ⟨zl3, zl4, hc _ tX1_wireOf_13 _ _ _ (⟨nofun, rfl, rfl, hg4.2.2.2⟩)⟩⟩)⟩⟩⟩))⟩))⟩)))
theorem ctX1_wireOf {zn d : Nat} (x1 : Int32) (I : Nat → Nat → Int32) (L : Nat → Nat → Int64) (B : Nat) (p : Nat → Nat) (X : Nat) (k : Nat) (q0 : I 67 2 = nI B ∧ B ≤ 7) (q1 : plC I 68 B p) (q2 : x1 = nI k ∧ k < 8) (q3 : I 69 k = nI X ∧ X < 128) : zcal zty zcd false (d + 3) 11 [.ref 67, .int x1] (zSH zn, I, L) 0 0 (fun r u => r = some (.int (nI (spN (pm p X B)))) ∧ u = (zSH zn, I, L)) := by
  obtain ⟨rfl, hk⟩ := q2
  refine eX1_wireOf _ I L (gX1_wireOf_0 _ I L ⟨vin_nI hk (by decide), B, p, X, q0, q1, ⟨by rw [nI_clamp (by omega)]; exact q3.1, by have := q3.2; omega⟩, ?_, rfl⟩)
  rw [(spN_t _ (pm_lt (fun b hb => (q1 b hb).2))).1]
abbrev RX1_wireOfAll (zn d : Nat) (post : zP) : zK := zRun (zcal zty zcd false (d + 3)) kX1_wireOfAll (zLM zn) post
theorem eX1_wireOfAll {zn d : Nat} {post : zP} (I : Nat → Nat → Int32) (L : Nat → Nat → Int64) (h : RX1_wireOfAll zn d post 0 [some (.ref 67), none, none] [] (zSH zn, I, L)) : zcal zty zcd false (d + 4) 12 [.ref 67] (zSH zn, I, L) 0 0 post := zcal_of (d := d + 3) zmt12 zmc12 rfl (Nat.le_of_ble_eq_true rfl) h
theorem gX1_wireOfAll_0 {zn d : Nat} {post : zP} (I : Nat → Nat → Int32) (L : Nat → Nat → Int64) (h : RX1_wireOfAll zn d post 4 [some (.ref 67), some (.int (0 : Int32)), some (.int (0 : Int32))] [] (zSH zn, I, L)) : RX1_wireOfAll zn d post 0 [some (.ref 67), none, none] [] (zSH zn, I, L) := fun P hw hc => hc _ tX1_wireOfAll_0 _ _ _ (hc _ tX1_wireOfAll_1 _ _ _ (hc _ tX1_wireOfAll_2 _ _ _ (hc _ tX1_wireOfAll_3 _ _ _ (h P hw hc))))
theorem gX1_wireOfAll_4 {zn d : Nat} {post : zP} (x1 : Int32) (x2 : Int32) (I : Nat → Nat → Int32) (L : Nat → Nat → Int64) (h : ((I 67 3) ≤ x2 → post (some (.int x1)) (zSH zn, I, L)) ∧ (¬ (I 67 3) ≤ x2 → (∃ (B3 : Nat) (p4 : Nat → Nat) (X5 : Nat) (k6 : Nat), (I 67 2 = nI B3 ∧ B3 ≤ 7) ∧ (plC I 68 B3 p4) ∧ (x2 = nI k6 ∧ k6 < 8) ∧ (I 69 k6 = nI X5 ∧ X5 < 128) ∧ (RX1_wireOfAll zn d post 4 [some (.ref 67), some (.int (x1 + (nI (spN (pm p4 X5 B3))))), some (.int (x2 + (1 : Int32)))] [] (zSH zn, I, L))))) : RX1_wireOfAll zn d post 4 [some (.ref 67), some (.int x1), some (.int x2)] [] (zSH zn, I, L) := fun P hw hc => hc _ tX1_wireOfAll_4 _ _ _ (hc _ tX1_wireOfAll_5 _ _ _ (hc _ tX1_wireOfAll_6 _ _ _ (⟨_, sh67, (by decide), hc _ tX1_wireOfAll_9 _ _ _ (⟨fun c1 => hc _ tX1_wireOfAll_26 _ _ _ (hc _ tX1_wireOfAll_27 _ _ _ (⟨nofun, rfl, rfl, (h.1 c1)⟩)), fun c2 => hc _ tX1_wireOfAll_12 _ _ _ (hc _ tX1_wireOfAll_13 _ _ _ (hc _ tX1_wireOfAll_14 _ _ _ ((by obtain ⟨B3, p4, X5, k6, hg7⟩ := (h.2 c2); exact hc _ tX1_wireOfAll_15 _ _ _ (⟨⟨_, _, _, rfl, (by decide), sh67⟩, ⟨Nat.le_of_ble_eq_true rfl, Nat.le_of_ble_eq_true rfl, zl1, zl2, _, ctX1_wireOf x2 I L B3 p4 X5 k6 hg7.1 hg7.2.1 hg7.2.2.1 hg7.2.2.2.1, fun r u k8 => by obtain ⟨rfl, rfl⟩ := k8; exact ⟨zl3, zl4, hc _ tX1_wireOfAll_18 _ _ _ (hc _ tX1_wireOfAll_19 _ _ _ (hc _ tX1_wireOfAll_20 _ _ _ (hc _ tX1_wireOfAll_23 _ _ _ (hg7.2.2.2.2 P hw hc))))⟩⟩⟩)))))⟩)⟩)))
theorem ctX1_wireOfAll {zn d : Nat} (I : Nat → Nat → Int32) (L : Nat → Nat → Int64) (B : Nat) (M : Nat) (p : Nat → Nat) (nb : Nat → Nat) (q0 : I 67 2 = nI B ∧ B ≤ 7) (q1 : I 67 3 = nI M ∧ M ≤ 8) (q2 : plC I 68 B p) (q3 : ntC I 69 M nb) : zcal zty zcd false (d + 4) 12 [.ref 67] (zSH zn, I, L) 0 0 (fun r u => r = some (.int (nI (wa B M nb p))) ∧ u = (zSH zn, I, L)) := by
  obtain ⟨eM, hM⟩ := q1
  have loop : ∀ k (u : Unit), k ≤ M → True → RX1_wireOfAll zn d (fun r u => r = some (.int (nI (wa B M nb p))) ∧ u = (zSH zn, I, L)) 4 [some (.ref 67), some (.int (nI (wa B k nb p))), some (.int (nI k))] [] (zSH zn, I, L) := by
    refine zup (fun u _ => ?_) (fun k u hk _ ih => ?_)
    · exact gX1_wireOfAll_4 _ _ I L ⟨fun _ => ⟨rfl, rfl⟩, fun hc => absurd (by rw [eM, nI_leI (by omega) (by omega)]; exact Nat.le_refl _) hc⟩
    · refine gX1_wireOfAll_4 _ _ I L ⟨fun hc => absurd hc (by rw [eM, nI_leI (by omega) (by omega)]; omega), fun _ => ⟨B, p, nb k, k, q0, q2, ⟨rfl, by omega⟩, q3 k hk, ?_⟩⟩
      rw [nI_add, nI_1]
      exact ih u trivial
  exact eX1_wireOfAll I L (gX1_wireOfAll_0 I L (loop 0 () (Nat.zero_le _) trivial))
/-! the reference's -/
def qT (S : Nat) : Nat := if S % 16 = 0 then 1 else 0
def qB (S : Nat) : Nat := if S / 16 = 0 then 0 else 1
def qC (S : Nat) : Nat := S % 16 ||| S / 16
def qL (S : Nat) : Nat := if (qC S) % 2 = 1 then 0 else if (qC S) / 2 % 2 = 1 then 1 else if (qC S) / 4 % 2 = 1 then 2 else 3
def qR (S : Nat) : Nat := if (qC S) / 8 % 2 = 1 then 3 else if (qC S) / 4 % 2 = 1 then 2 else if (qC S) / 2 % 2 = 1 then 1 else 0
theorem q_st : ∀ S, S < 256 → ∀ q, q < 8 → (if nI (qT S) ≤ nI q / 4 then nI (qT S) else nI q / 4) = nI (qT (S ||| 2 ^ q)) ∧ (if nI q / 4 ≤ nI (qB S) then nI (qB S) else nI q / 4) = nI (qB (S ||| 2 ^ q)) ∧ (if nI (qL S) ≤ nI q - nI q / 4 * 4 then nI (qL S) else nI q - nI q / 4 * 4) = nI (qL (S ||| 2 ^ q)) ∧ (if nI q - nI q / 4 * 4 ≤ nI (qR S) then nI (qR S) else nI q - nI q / 4 * 4) = nI (qR (S ||| 2 ^ q)) := by decide +kernel
theorem q_sp : ∀ S, S < 256 → S ≠ 0 → nI (qB S) - nI (qT S) + nI (qR S) - nI (qL S) = nI (spN S) := by decide +kernel
abbrev RX12_wireOf (zn d : Nat) (post : zP) : zK := zRun (zcal zty zcd false (d + 0)) kX12_wireOf (zLM zn) post
theorem eX12_wireOf {zn d : Nat} {post : zP} (x1 : Int32) (I : Nat → Nat → Int32) (L : Nat → Nat → Int64) (h : RX12_wireOf zn d post 0 [some (.ref 115), some (.int x1), none, none, none, none, none, none, none] [] (zSH zn, I, L)) : zcal zty zcd false (d + 1) 188 [.ref 115, .int x1] (zSH zn, I, L) 0 0 post := zcal_of (d := d + 0) zmt188 zmc188 rfl (Nat.le_of_ble_eq_true rfl) h
theorem gX12_wireOf_0 {zn d : Nat} {post : zP} (x1 : Int32) (I : Nat → Nat → Int32) (L : Nat → Nat → Int64) (h : RX12_wireOf zn d post 13 [some (.ref 115), some (.int x1), some (.int (1 : Int32)), some (.int (0 : Int32)), some (.int (3 : Int32)), some (.int (0 : Int32)), some (.int (0 : Int32)), none, none] [] (zSH zn, I, L)) : RX12_wireOf zn d post 0 [some (.ref 115), some (.int x1), none, none, none, none, none, none, none] [] (zSH zn, I, L) := fun P hw hc => hc _ tX12_wireOf_0 _ _ _ (hc _ tX12_wireOf_1 _ _ _ (hc _ tX12_wireOf_2 _ _ _ (hc _ tX12_wireOf_3 _ _ _ (hc _ tX12_wireOf_4 _ _ _ (hc _ tX12_wireOf_5 _ _ _ (hc _ tX12_wireOf_7 _ _ _ (hc _ tX12_wireOf_8 _ _ _ (hc _ tX12_wireOf_10 _ _ _ (hc _ tX12_wireOf_11 _ _ _ (h P hw hc))))))))))
theorem gX12_wireOf_13 {zn d : Nat} {post : zP} (x1 : Int32) (x2 : Int32) (x3 : Int32) (x4 : Int32) (x5 : Int32) (x6 : Int32) (I : Nat → Nat → Int32) (L : Nat → Nat → Int64) (h : ((I 115 27) ≤ x6 → post (some (.int (((x3 - x2) + x5) - x4))) (zSH zn, I, L)) ∧ (¬ (I 115 27) ≤ x6 → vp_in x1 8 ∧ ((¬ (((I 140 (x1).toNatClampNeg) >>> (x6 &&& 31)) &&& (1 : Int32)) = (1 : Int32) → RX12_wireOf zn d post 13 [some (.ref 115), some (.int x1), some (.int x2), some (.int x3), some (.int x4), some (.int x5), some (.int (x6 + (1 : Int32))), none, none] [] (zSH zn, I, L)) ∧ ((((I 140 (x1).toNatClampNeg) >>> (x6 &&& 31)) &&& (1 : Int32)) = (1 : Int32) → vp_in x6 7 ∧ (RX12_wireOf zn d post 13 [some (.ref 115), some (.int x1), some (.int (if x2 ≤ ((I 141 (x6).toNatClampNeg) / (4 : Int32)) then x2 else ((I 141 (x6).toNatClampNeg) / (4 : Int32)))), some (.int (if ((I 141 (x6).toNatClampNeg) / (4 : Int32)) ≤ x3 then x3 else ((I 141 (x6).toNatClampNeg) / (4 : Int32)))), some (.int (if x4 ≤ ((I 141 (x6).toNatClampNeg) - (I 141 (x6).toNatClampNeg) / (4 : Int32) * (4 : Int32)) then x4 else ((I 141 (x6).toNatClampNeg) - (I 141 (x6).toNatClampNeg) / (4 : Int32) * (4 : Int32)))), some (.int (if ((I 141 (x6).toNatClampNeg) - (I 141 (x6).toNatClampNeg) / (4 : Int32) * (4 : Int32)) ≤ x5 then x5 else ((I 141 (x6).toNatClampNeg) - (I 141 (x6).toNatClampNeg) / (4 : Int32) * (4 : Int32)))), some (.int (x6 + (1 : Int32))), none, none] [] (zSH zn, I, L)))))) : RX12_wireOf zn d post 13 [some (.ref 115), some (.int x1), some (.int x2), some (.int x3), some (.int x4), some (.int x5), some (.int x6), none, none] [] (zSH zn, I, L) := fun P hw hc => hc _ tX12_wireOf_13 _ _ _ (hc _ tX12_wireOf_15 _ _ _ (hc _ tX12_wireOf_16 _ _ _ (⟨_, sh115, (by decide), hc _ tX12_wireOf_19 _ _ _ (⟨fun c1 => hc _ tX12_wireOf_123 _ _ _ (hc _ tX12_wireOf_124 _ _ _ (hc _ tX12_wireOf_125 _ _ _ (hc _ tX12_wireOf_126 _ _ _ (hc _ tX12_wireOf_128 _ _ _ (hc _ tX12_wireOf_129 _ _ _ (hc _ tX12_wireOf_131 _ _ _ (hc _ tX12_wireOf_132 _ _ _ (⟨nofun, rfl, rfl, (h.1 c1)⟩)))))))), fun c2 => hc _ tX12_wireOf_22 _ _ _ (hc _ tX12_wireOf_23 _ _ _ (⟨_, _, sh115, (by decide), rfl, hc _ tX12_wireOf_26 _ _ _ (hc _ tX12_wireOf_27 _ _ _ (⟨_, _, _, sh140, Or.inl ⟨rfl, (by decide)⟩, (h.2 c2).1, hc _ tX12_wireOf_28 _ _ _ (hc _ tX12_wireOf_30 _ _ _ (hc _ tX12_wireOf_31 _ _ _ (hc _ tX12_wireOf_32 _ _ _ (hc _ tX12_wireOf_33 _ _ _ (hc _ tX12_wireOf_34 _ _ _ (⟨fun c3 => hc _ tX12_wireOf_117 _ _ _ (hc _ tX12_wireOf_120 _ _ _ (((h.2 c2).2.1 c3) P hw hc)), fun c4 => hc _ tX12_wireOf_37 _ _ _ (hc _ tX12_wireOf_38 _ _ _ (⟨_, _, sh115, (by decide), rfl, hc _ tX12_wireOf_41 _ _ _ (hc _ tX12_wireOf_43 _ _ _ (⟨_, _, _, sh141, Or.inl ⟨rfl, (by decide)⟩, ((h.2 c2).2.2 c4).1, hc _ tX12_wireOf_44 _ _ _ (hc _ tX12_wireOf_45 _ _ _ (⟨by decide, hc _ tX12_wireOf_46 _ _ _ (hc _ tX12_wireOf_48 _ _ _ (hc _ tX12_wireOf_49 _ _ _ (⟨_, _, sh115, (by decide), rfl, hc _ tX12_wireOf_52 _ _ _ (hc _ tX12_wireOf_54 _ _ _ (⟨_, _, _, sh141, Or.inl ⟨rfl, (by decide)⟩, ((h.2 c2).2.2 c4).1, hc _ tX12_wireOf_55 _ _ _ (hc _ tX12_wireOf_56 _ _ _ (⟨by decide, hc _ tX12_wireOf_57 _ _ _ (hc _ tX12_wireOf_59 _ _ _ (hc _ tX12_wireOf_61 _ _ _ ((have r16 : P 71 [some (.ref 115), some (.int x1), some (.int x2), some (.int x3), some (.int x4), some (.int x5), some (.int x6), some (.int ((I 141 (x6).toNatClampNeg) / (4 : Int32))), some (.int ((I 141 (x6).toNatClampNeg) - (I 141 (x6).toNatClampNeg) / (4 : Int32) * (4 : Int32)))] [.int (if x2 ≤ ((I 141 (x6).toNatClampNeg) / (4 : Int32)) then x2 else ((I 141 (x6).toNatClampNeg) / (4 : Int32)))] (zSH zn, I, L) := hc _ tX12_wireOf_71 _ _ _ (hc _ tX12_wireOf_72 _ _ _ (hc _ tX12_wireOf_74 _ _ _ ((have r15 : P 84 [some (.ref 115), some (.int x1), some (.int (if x2 ≤ ((I 141 (x6).toNatClampNeg) / (4 : Int32)) then x2 else ((I 141 (x6).toNatClampNeg) / (4 : Int32)))), some (.int x3), some (.int x4), some (.int x5), some (.int x6), some (.int ((I 141 (x6).toNatClampNeg) / (4 : Int32))), some (.int ((I 141 (x6).toNatClampNeg) - (I 141 (x6).toNatClampNeg) / (4 : Int32) * (4 : Int32)))] [.int (if ((I 141 (x6).toNatClampNeg) / (4 : Int32)) ≤ x3 then x3 else ((I 141 (x6).toNatClampNeg) / (4 : Int32)))] (zSH zn, I, L) := hc _ tX12_wireOf_84 _ _ _ (hc _ tX12_wireOf_85 _ _ _ (hc _ tX12_wireOf_87 _ _ _ ((have r14 : P 99 [some (.ref 115), some (.int x1), some (.int (if x2 ≤ ((I 141 (x6).toNatClampNeg) / (4 : Int32)) then x2 else ((I 141 (x6).toNatClampNeg) / (4 : Int32)))), some (.int (if ((I 141 (x6).toNatClampNeg) / (4 : Int32)) ≤ x3 then x3 else ((I 141 (x6).toNatClampNeg) / (4 : Int32)))), some (.int x4), some (.int x5), some (.int x6), some (.int ((I 141 (x6).toNatClampNeg) / (4 : Int32))), some (.int ((I 141 (x6).toNatClampNeg) - (I 141 (x6).toNatClampNeg) / (4 : Int32) * (4 : Int32)))] [.int (if x4 ≤ ((I 141 (x6).toNatClampNeg) - (I 141 (x6).toNatClampNeg) / (4 : Int32) * (4 : Int32)) then x4 else ((I 141 (x6).toNatClampNeg) - (I 141 (x6).toNatClampNeg) / (4 : Int32) * (4 : Int32)))] (zSH zn, I, L) := hc _ tX12_wireOf_99 _ _ _ (hc _ tX12_wireOf_101 _ _ _ (hc _ tX12_wireOf_103 _ _ _ ((have r13 : P 115 [some (.ref 115), some (.int x1), some (.int (if x2 ≤ ((I 141 (x6).toNatClampNeg) / (4 : Int32)) then x2 else ((I 141 (x6).toNatClampNeg) / (4 : Int32)))), some (.int (if ((I 141 (x6).toNatClampNeg) / (4 : Int32)) ≤ x3 then x3 else ((I 141 (x6).toNatClampNeg) / (4 : Int32)))), some (.int (if x4 ≤ ((I 141 (x6).toNatClampNeg) - (I 141 (x6).toNatClampNeg) / (4 : Int32) * (4 : Int32)) then x4 else ((I 141 (x6).toNatClampNeg) - (I 141 (x6).toNatClampNeg) / (4 : Int32) * (4 : Int32)))), some (.int x5), some (.int x6), some (.int ((I 141 (x6).toNatClampNeg) / (4 : Int32))), some (.int ((I 141 (x6).toNatClampNeg) - (I 141 (x6).toNatClampNeg) / (4 : Int32) * (4 : Int32)))] [.int (if ((I 141 (x6).toNatClampNeg) - (I 141 (x6).toNatClampNeg) / (4 : Int32) * (4 : Int32)) ≤ x5 then x5 else ((I 141 (x6).toNatClampNeg) - (I 141 (x6).toNatClampNeg) / (4 : Int32) * (4 : Int32)))] (zSH zn, I, L) := hc _ tX12_wireOf_115 _ _ _ (hc _ tX12_wireOf_117 _ _ _ (hc _ tX12_wireOf_120 _ _ _ (hw _ _ _ _ _ (zwk_s (zwk_s (zwk_s (zwk_s (zwk_s (zwk_s (zwk_s (zwk_n (zwk_n zwk_nil))))))))) (((h.2 c2).2.2 c4).2 P hw hc)))); hc _ tX12_wireOf_105 _ _ _ (⟨fun c11 => hc _ tX12_wireOf_113 _ _ _ ((zmg_t (fun z_ : Int32 => P 115 [some (.ref 115), some (.int x1), some (.int (if x2 ≤ ((I 141 (x6).toNatClampNeg) / (4 : Int32)) then x2 else ((I 141 (x6).toNatClampNeg) / (4 : Int32)))), some (.int (if ((I 141 (x6).toNatClampNeg) / (4 : Int32)) ≤ x3 then x3 else ((I 141 (x6).toNatClampNeg) / (4 : Int32)))), some (.int (if x4 ≤ ((I 141 (x6).toNatClampNeg) - (I 141 (x6).toNatClampNeg) / (4 : Int32) * (4 : Int32)) then x4 else ((I 141 (x6).toNatClampNeg) - (I 141 (x6).toNatClampNeg) / (4 : Int32) * (4 : Int32)))), some (.int x5), some (.int x6), some (.int ((I 141 (x6).toNatClampNeg) / (4 : Int32))), some (.int ((I 141 (x6).toNatClampNeg) - (I 141 (x6).toNatClampNeg) / (4 : Int32) * (4 : Int32)))] [.int z_] (zSH zn, I, L)) c11 r13)), fun c12 => hc _ tX12_wireOf_108 _ _ _ (hc _ tX12_wireOf_110 _ _ _ ((zmg_f (fun z_ : Int32 => P 115 [some (.ref 115), some (.int x1), some (.int (if x2 ≤ ((I 141 (x6).toNatClampNeg) / (4 : Int32)) then x2 else ((I 141 (x6).toNatClampNeg) / (4 : Int32)))), some (.int (if ((I 141 (x6).toNatClampNeg) / (4 : Int32)) ≤ x3 then x3 else ((I 141 (x6).toNatClampNeg) / (4 : Int32)))), some (.int (if x4 ≤ ((I 141 (x6).toNatClampNeg) - (I 141 (x6).toNatClampNeg) / (4 : Int32) * (4 : Int32)) then x4 else ((I 141 (x6).toNatClampNeg) - (I 141 (x6).toNatClampNeg) / (4 : Int32) * (4 : Int32)))), some (.int x5), some (.int x6), some (.int ((I 141 (x6).toNatClampNeg) / (4 : Int32))), some (.int ((I 141 (x6).toNatClampNeg) - (I 141 (x6).toNatClampNeg) / (4 : Int32) * (4 : Int32)))] [.int z_] (zSH zn, I, L)) c12 r13)))⟩))))); hc _ tX12_wireOf_89 _ _ _ (⟨fun c9 => hc _ tX12_wireOf_97 _ _ _ ((zmg_t (fun z_ : Int32 => P 99 [some (.ref 115), some (.int x1), some (.int (if x2 ≤ ((I 141 (x6).toNatClampNeg) / (4 : Int32)) then x2 else ((I 141 (x6).toNatClampNeg) / (4 : Int32)))), some (.int (if ((I 141 (x6).toNatClampNeg) / (4 : Int32)) ≤ x3 then x3 else ((I 141 (x6).toNatClampNeg) / (4 : Int32)))), some (.int x4), some (.int x5), some (.int x6), some (.int ((I 141 (x6).toNatClampNeg) / (4 : Int32))), some (.int ((I 141 (x6).toNatClampNeg) - (I 141 (x6).toNatClampNeg) / (4 : Int32) * (4 : Int32)))] [.int z_] (zSH zn, I, L)) c9 r14)), fun c10 => hc _ tX12_wireOf_92 _ _ _ (hc _ tX12_wireOf_94 _ _ _ ((zmg_f (fun z_ : Int32 => P 99 [some (.ref 115), some (.int x1), some (.int (if x2 ≤ ((I 141 (x6).toNatClampNeg) / (4 : Int32)) then x2 else ((I 141 (x6).toNatClampNeg) / (4 : Int32)))), some (.int (if ((I 141 (x6).toNatClampNeg) / (4 : Int32)) ≤ x3 then x3 else ((I 141 (x6).toNatClampNeg) / (4 : Int32)))), some (.int x4), some (.int x5), some (.int x6), some (.int ((I 141 (x6).toNatClampNeg) / (4 : Int32))), some (.int ((I 141 (x6).toNatClampNeg) - (I 141 (x6).toNatClampNeg) / (4 : Int32) * (4 : Int32)))] [.int z_] (zSH zn, I, L)) c10 r14)))⟩))))); hc _ tX12_wireOf_75 _ _ _ (⟨fun c7 => hc _ tX12_wireOf_83 _ _ _ ((zmg_t (fun z_ : Int32 => P 84 [some (.ref 115), some (.int x1), some (.int (if x2 ≤ ((I 141 (x6).toNatClampNeg) / (4 : Int32)) then x2 else ((I 141 (x6).toNatClampNeg) / (4 : Int32)))), some (.int x3), some (.int x4), some (.int x5), some (.int x6), some (.int ((I 141 (x6).toNatClampNeg) / (4 : Int32))), some (.int ((I 141 (x6).toNatClampNeg) - (I 141 (x6).toNatClampNeg) / (4 : Int32) * (4 : Int32)))] [.int z_] (zSH zn, I, L)) c7 r15)), fun c8 => hc _ tX12_wireOf_78 _ _ _ (hc _ tX12_wireOf_80 _ _ _ ((zmg_f (fun z_ : Int32 => P 84 [some (.ref 115), some (.int x1), some (.int (if x2 ≤ ((I 141 (x6).toNatClampNeg) / (4 : Int32)) then x2 else ((I 141 (x6).toNatClampNeg) / (4 : Int32)))), some (.int x3), some (.int x4), some (.int x5), some (.int x6), some (.int ((I 141 (x6).toNatClampNeg) / (4 : Int32))), some (.int ((I 141 (x6).toNatClampNeg) - (I 141 (x6).toNatClampNeg) / (4 : Int32) * (4 : Int32)))] [.int z_] (zSH zn, I, L)) c8 r15)))⟩))))); hc _ tX12_wireOf_62 _ _ _ (⟨fun c5 => hc _ tX12_wireOf_70 _ _ _ ((zmg_t (fun z_ : Int32 => P 71 [some (.ref 115), some (.int x1), some (.int x2), some (.int x3), some (.int x4), some (.int x5), some (.int x6), some (.int ((I 141 (x6).toNatClampNeg) / (4 : Int32))), some (.int ((I 141 (x6).toNatClampNeg) - (I 141 (x6).toNatClampNeg) / (4 : Int32) * (4 : Int32)))] [.int z_] (zSH zn, I, L)) c5 r16)), fun c6 => hc _ tX12_wireOf_65 _ _ _ (hc _ tX12_wireOf_67 _ _ _ ((zmg_f (fun z_ : Int32 => P 71 [some (.ref 115), some (.int x1), some (.int x2), some (.int x3), some (.int x4), some (.int x5), some (.int x6), some (.int ((I 141 (x6).toNatClampNeg) / (4 : Int32))), some (.int ((I 141 (x6).toNatClampNeg) - (I 141 (x6).toNatClampNeg) / (4 : Int32) * (4 : Int32)))] [.int z_] (zSH zn, I, L)) c6 r16)))⟩)))))⟩))⟩))⟩)))⟩))⟩))⟩))⟩))))))⟩))⟩))⟩)⟩)))
theorem ctX12_wireOf {zn d : Nat} (x1 : Int32) (I : Nat → Nat → Int32) (L : Nat → Nat → Int64) (B : Nat) (p : Nat → Nat) (X : Nat) (k : Nat) (q0 : I 115 27 = nI B ∧ B ≤ 7) (q1 : plC I 141 B p) (q2 : x1 = nI k ∧ k < 8) (q3 : I 140 k = nI X ∧ X < 2 ^ B ∧ X ≠ 0) : zcal zty zcd false (d + 1) 188 [.ref 115, .int x1] (zSH zn, I, L) 0 0 (fun r u => r = some (.int (nI (spN (pm p X B)))) ∧ u = (zSH zn, I, L)) := by
  obtain ⟨eB, hB⟩ := q0
  obtain ⟨rfl, hk⟩ := q2
  obtain ⟨eX, hX, hX0⟩ := q3
  have hX31 : X < 2 ^ 31 := Nat.lt_of_lt_of_le hX (Nat.pow_le_pow_right (by decide) (by omega))
  have tk : (nI k).toNatClampNeg = k := nI_clamp (by omega)
  have loop : ∀ n (u : Unit), n ≤ B → True → RX12_wireOf zn d (fun r u => r = some (.int (nI (spN (pm p X B)))) ∧ u = (zSH zn, I, L)) 13 [some (.ref 115), some (.int (nI k)), some (.int (nI (qT (pm p X n)))), some (.int (nI (qB (pm p X n)))), some (.int (nI (qL (pm p X n)))), some (.int (nI (qR (pm p X n)))), some (.int (nI n)), none, none] [] (zSH zn, I, L) := by
    refine zup (fun u _ => ?_) (fun n u hn _ ih => ?_)
    · refine gX12_wireOf_13 _ _ _ _ _ _ I L ⟨fun _ => ⟨?_, rfl⟩, fun hc => absurd (by rw [eB, nI_leI (by omega) (by omega)]; exact Nat.le_refl _) hc⟩
      rw [q_sp _ (pm_lt (fun b hb => (q1 b hb).2)) (pm_ne hX0 hX)]
    · refine gX12_wireOf_13 _ _ _ _ _ _ I L ⟨fun hc => absurd hc (by rw [eB, nI_leI (by omega) (by omega)]; omega), fun _ => ⟨vin_nI hk (by decide), ?_⟩⟩
      have hih := ih u trivial
      have hp := q1 n hn
      have hS : pm p X n < 256 := pm_lt (fun b hb => (q1 b (by omega)).2)
      rw [tk, eX, nI_has1 hX31 (by omega), nI_1, nI_clamp (by omega), hp.1]
      refine ⟨fun h => ?_, fun h => ⟨vin_nI (by omega) (by omega), ?_⟩⟩
      · rw [pm, if_neg h] at hih; exact hih
      · rw [pm, if_pos h] at hih
        obtain ⟨e1, e2, e3, e4⟩ := q_st _ hS _ hp.2
        rw [e1, e2, e3, e4]
        exact hih
  have h0 := loop 0 () (Nat.zero_le _) trivial
  have e0 : pm p X 0 = 0 := rfl
  rw [e0, show nI (qT 0) = 1 by decide, show nI (qB 0) = 0 by decide, show nI (qL 0) = 3 by decide, show nI (qR 0) = 0 by decide] at h0
  exact eX12_wireOf _ I L (gX12_wireOf_0 _ I L h0)
def ntR (I : Nat → Nat → Int32) (c B M : Nat) (nb : Nat → Nat) : Prop := ∀ k, k < M → I c k = nI (nb k) ∧ nb k < 2 ^ B ∧ nb k ≠ 0
abbrev RX12_allWire (zn d : Nat) (post : zP) : zK := zRun (zcal zty zcd false (d + 1)) kX12_allWire (zLM zn) post
theorem eX12_allWire {zn d : Nat} {post : zP} (I : Nat → Nat → Int32) (L : Nat → Nat → Int64) (h : RX12_allWire zn d post 0 [some (.ref 115), none, none] [] (zSH zn, I, L)) : zcal zty zcd false (d + 2) 189 [.ref 115] (zSH zn, I, L) 0 0 post := zcal_of (d := d + 1) zmt189 zmc189 rfl (Nat.le_of_ble_eq_true rfl) h
theorem gX12_allWire_0 {zn d : Nat} {post : zP} (I : Nat → Nat → Int32) (L : Nat → Nat → Int64) (h : RX12_allWire zn d post 4 [some (.ref 115), some (.int (0 : Int32)), some (.int (0 : Int32))] [] (zSH zn, I, L)) : RX12_allWire zn d post 0 [some (.ref 115), none, none] [] (zSH zn, I, L) := fun P hw hc => hc _ tX12_allWire_0 _ _ _ (hc _ tX12_allWire_1 _ _ _ (hc _ tX12_allWire_2 _ _ _ (hc _ tX12_allWire_3 _ _ _ (h P hw hc))))
theorem gX12_allWire_4 {zn d : Nat} {post : zP} (x1 : Int32) (x2 : Int32) (I : Nat → Nat → Int32) (L : Nat → Nat → Int64) (h : ((I 115 29) ≤ x2 → post (some (.int x1)) (zSH zn, I, L)) ∧ (¬ (I 115 29) ≤ x2 → (∃ (B3 : Nat) (p4 : Nat → Nat) (X5 : Nat) (k6 : Nat), (I 115 27 = nI B3 ∧ B3 ≤ 7) ∧ (plC I 141 B3 p4) ∧ (x2 = nI k6 ∧ k6 < 8) ∧ (I 140 k6 = nI X5 ∧ X5 < 2 ^ B3 ∧ X5 ≠ 0) ∧ (RX12_allWire zn d post 4 [some (.ref 115), some (.int (x1 + (nI (spN (pm p4 X5 B3))))), some (.int (x2 + (1 : Int32)))] [] (zSH zn, I, L))))) : RX12_allWire zn d post 4 [some (.ref 115), some (.int x1), some (.int x2)] [] (zSH zn, I, L) := fun P hw hc => hc _ tX12_allWire_4 _ _ _ (hc _ tX12_allWire_5 _ _ _ (hc _ tX12_allWire_6 _ _ _ (⟨_, sh115, (by decide), hc _ tX12_allWire_9 _ _ _ (⟨fun c1 => hc _ tX12_allWire_26 _ _ _ (hc _ tX12_allWire_27 _ _ _ (⟨nofun, rfl, rfl, (h.1 c1)⟩)), fun c2 => hc _ tX12_allWire_12 _ _ _ (hc _ tX12_allWire_13 _ _ _ (hc _ tX12_allWire_14 _ _ _ ((by obtain ⟨B3, p4, X5, k6, hg7⟩ := (h.2 c2); exact hc _ tX12_allWire_15 _ _ _ (⟨⟨_, _, _, rfl, (by decide), sh115⟩, ⟨Nat.le_of_ble_eq_true rfl, Nat.le_of_ble_eq_true rfl, zl1, zl2, _, ctX12_wireOf x2 I L B3 p4 X5 k6 hg7.1 hg7.2.1 hg7.2.2.1 hg7.2.2.2.1, fun r u k8 => by obtain ⟨rfl, rfl⟩ := k8; exact ⟨zl3, zl4, hc _ tX12_allWire_18 _ _ _ (hc _ tX12_allWire_19 _ _ _ (hc _ tX12_allWire_20 _ _ _ (hc _ tX12_allWire_23 _ _ _ (hg7.2.2.2.2 P hw hc))))⟩⟩⟩)))))⟩)⟩)))
theorem ctX12_allWire {zn d : Nat} (I : Nat → Nat → Int32) (L : Nat → Nat → Int64) (B : Nat) (M : Nat) (p : Nat → Nat) (nb : Nat → Nat) (q0 : I 115 27 = nI B ∧ B ≤ 7) (q1 : I 115 29 = nI M ∧ M ≤ 8) (q2 : plC I 141 B p) (q3 : ntR I 140 B M nb) : zcal zty zcd false (d + 2) 189 [.ref 115] (zSH zn, I, L) 0 0 (fun r u => r = some (.int (nI (wa B M nb p))) ∧ u = (zSH zn, I, L)) := by
  obtain ⟨eM, hM⟩ := q1
  have loop : ∀ k (u : Unit), k ≤ M → True → RX12_allWire zn d (fun r u => r = some (.int (nI (wa B M nb p))) ∧ u = (zSH zn, I, L)) 4 [some (.ref 115), some (.int (nI (wa B k nb p))), some (.int (nI k))] [] (zSH zn, I, L) := by
    refine zup (fun u _ => ?_) (fun k u hk _ ih => ?_)
    · exact gX12_allWire_4 _ _ I L ⟨fun _ => ⟨rfl, rfl⟩, fun hc => absurd (by rw [eM, nI_leI (by omega) (by omega)]; exact Nat.le_refl _) hc⟩
    · refine gX12_allWire_4 _ _ I L ⟨fun hc => absurd hc (by rw [eM, nI_leI (by omega) (by omega)]; omega), fun _ => ⟨B, p, nb k, k, q0, q2, ⟨rfl, by omega⟩, q3 k hk, ?_⟩⟩
      rw [nI_add, nI_1]
      exact ih u trivial
  exact eX12_allWire I L (gX12_allWire_0 I L (loop 0 () (Nat.zero_le _) trivial))
abbrev RX12_tryNow (zn d : Nat) (post : zP) : zK := zRun (zcal zty zcd false (d + 0)) kX12_tryNow (zLM zn) post
theorem eX12_tryNow {zn d : Nat} {post : zP} (I : Nat → Nat → Int32) (L : Nat → Nat → Int64) (h : RX12_tryNow zn d post 0 [some (.ref 115), none] [] (zSH zn, I, L)) : zcal zty zcd false (d + 1) 190 [.ref 115] (zSH zn, I, L) 0 0 post := zcal_of (d := d + 0) zmt190 zmc190 rfl (Nat.le_of_ble_eq_true rfl) h
theorem gX12_tryNow_0 {zn d : Nat} {post : zP} (I : Nat → Nat → Int32) (L : Nat → Nat → Int64) (h : RX12_tryNow zn d post 2 [some (.ref 115), some (.int (0 : Int32))] [] (zSH zn, I, L)) : RX12_tryNow zn d post 0 [some (.ref 115), none] [] (zSH zn, I, L) := fun P hw hc => hc _ tX12_tryNow_0 _ _ _ (hc _ tX12_tryNow_1 _ _ _ (h P hw hc))
theorem gX12_tryNow_2 {zn d : Nat} {post : zP} (x1 : Int32) (I : Nat → Nat → Int32) (L : Nat → Nat → Int64) (h : ((7 : Int32) ≤ x1 → post none (zSH zn, I, L)) ∧ (¬ (7 : Int32) ≤ x1 → vp_in x1 7 ∧ (RX12_tryNow zn d post 2 [some (.ref 115), some (.int (x1 + (1 : Int32)))] [] (zSH zn, (zi I 141 (x1).toNatClampNeg (I 139 (x1).toNatClampNeg)), L)))) : RX12_tryNow zn d post 2 [some (.ref 115), some (.int x1)] [] (zSH zn, I, L) := fun P hw hc => hc _ tX12_tryNow_2 _ _ _ (hc _ tX12_tryNow_3 _ _ _ (hc _ tX12_tryNow_5 _ _ _ (⟨fun c1 => hc _ tX12_tryNow_26 _ _ _ (⟨rfl, rfl, (h.1 c1)⟩), fun c2 => hc _ tX12_tryNow_8 _ _ _ (hc _ tX12_tryNow_9 _ _ _ (⟨_, _, sh115, (by decide), rfl, hc _ tX12_tryNow_12 _ _ _ (hc _ tX12_tryNow_13 _ _ _ (hc _ tX12_tryNow_14 _ _ _ (⟨_, _, sh115, (by decide), rfl, hc _ tX12_tryNow_17 _ _ _ (hc _ tX12_tryNow_18 _ _ _ (⟨_, _, _, sh139, Or.inl ⟨rfl, (by decide)⟩, (h.2 c2).1, hc _ tX12_tryNow_19 _ _ _ (⟨_, _, sh141, (by decide), (h.2 c2).1, hc _ tX12_tryNow_20 _ _ _ (hc _ tX12_tryNow_23 _ _ _ ((h.2 c2).2 P hw hc))⟩)⟩))⟩)))⟩))⟩)))
theorem ctX12_tryNow {zn d : Nat} (I : Nat → Nat → Int32) (L : Nat → Nat → Int64)  : zcal zty zcd false (d + 1) 190 [.ref 115] (zSH zn, I, L) 0 0 (fun r u => ∃ (J : Nat → Nat → Int32), r = none ∧ u = (zSH zn, J, L) ∧ (fr [141] I J ∧ ∀ b, b < 7 → J 141 b = I 139 b)) := by
  have loop : ∀ n J, n ≤ 7 → (fr [141] I J ∧ ∀ b, b < n → J 141 b = I 139 b) → RX12_tryNow zn d (fun r u => ∃ (J : Nat → Nat → Int32), r = none ∧ u = (zSH zn, J, L) ∧ (fr [141] I J ∧ ∀ b, b < 7 → J 141 b = I 139 b)) 2 [some (.ref 115), some (.int (nI n))] [] (zSH zn, J, L) := by
    refine zup (fun J hJ => ?_) (fun n J hn hJ ih => ?_)
    · exact gX12_tryNow_2 _ J L ⟨fun _ => ⟨J, rfl, rfl, hJ⟩, fun hc => absurd (by decide) hc⟩
    · refine gX12_tryNow_2 _ J L ⟨fun hc => absurd hc (by rw [nl 7, nI_leI (by decide) (by omega)]; omega), fun _ => ⟨vin_nI hn (by decide), ?_⟩⟩
      rw [nI_clamp (by omega), nI_1]
      refine ih _ ⟨fr_trans hJ.1 (fr_zi (by decide)), fun b hb => ?_⟩
      rw [zi_at]
      by_cases hbn : b = n
      · rw [if_pos ⟨rfl, hbn⟩, hJ.1 139 (by decide), hbn]
      · rw [if_neg (fun z => hbn z.2)]; exact hJ.2 b (by omega)
  exact eX12_tryNow I L (gX12_tryNow_0 I L (loop 0 I (by decide) ⟨fr_rf, fun b hb => absurd hb (by omega)⟩))
def blA (p : Nat → Nat) (x : Int32) : Nat → Nat → Int32
  | 0, _ => -4
  | m + 1, b => if nI (p b) = x then nI b else blA p x m (b + 1)
abbrev RX12_blockAt (zn d : Nat) (post : zP) : zK := zRun (zcal zty zcd false (d + 0)) kX12_blockAt (zLM zn) post
theorem eX12_blockAt {zn d : Nat} {post : zP} (x1 : Int32) (I : Nat → Nat → Int32) (L : Nat → Nat → Int64) (h : RX12_blockAt zn d post 0 [some (.ref 115), some (.int x1), none] [] (zSH zn, I, L)) : zcal zty zcd false (d + 1) 184 [.ref 115, .int x1] (zSH zn, I, L) 0 0 post := zcal_of (d := d + 0) zmt184 zmc184 rfl (Nat.le_of_ble_eq_true rfl) h
theorem gX12_blockAt_0 {zn d : Nat} {post : zP} (x1 : Int32) (I : Nat → Nat → Int32) (L : Nat → Nat → Int64) (h : RX12_blockAt zn d post 2 [some (.ref 115), some (.int x1), some (.int (0 : Int32))] [] (zSH zn, I, L)) : RX12_blockAt zn d post 0 [some (.ref 115), some (.int x1), none] [] (zSH zn, I, L) := fun P hw hc => hc _ tX12_blockAt_0 _ _ _ (hc _ tX12_blockAt_1 _ _ _ (h P hw hc))
theorem gX12_blockAt_2 {zn d : Nat} {post : zP} (x1 : Int32) (x2 : Int32) (I : Nat → Nat → Int32) (L : Nat → Nat → Int64) (h : ((I 115 27) ≤ x2 → post (some (.int (-4 : Int32))) (zSH zn, I, L)) ∧ (¬ (I 115 27) ≤ x2 → vp_in x2 7 ∧ ((¬ (I 139 (x2).toNatClampNeg) = x1 → RX12_blockAt zn d post 2 [some (.ref 115), some (.int x1), some (.int (x2 + (1 : Int32)))] [] (zSH zn, I, L)) ∧ ((I 139 (x2).toNatClampNeg) = x1 → post (some (.int x2)) (zSH zn, I, L))))) : RX12_blockAt zn d post 2 [some (.ref 115), some (.int x1), some (.int x2)] [] (zSH zn, I, L) := fun P hw hc => hc _ tX12_blockAt_2 _ _ _ (hc _ tX12_blockAt_3 _ _ _ (hc _ tX12_blockAt_4 _ _ _ (⟨_, sh115, (by decide), hc _ tX12_blockAt_7 _ _ _ (⟨fun c1 => hc _ tX12_blockAt_28 _ _ _ (hc _ tX12_blockAt_30 _ _ _ (⟨nofun, rfl, rfl, (h.1 c1)⟩)), fun c2 => hc _ tX12_blockAt_10 _ _ _ (hc _ tX12_blockAt_11 _ _ _ (⟨_, _, sh115, (by decide), rfl, hc _ tX12_blockAt_14 _ _ _ (hc _ tX12_blockAt_15 _ _ _ (⟨_, _, _, sh139, Or.inl ⟨rfl, (by decide)⟩, (h.2 c2).1, hc _ tX12_blockAt_16 _ _ _ (hc _ tX12_blockAt_17 _ _ _ (⟨fun c3 => hc _ tX12_blockAt_22 _ _ _ (hc _ tX12_blockAt_25 _ _ _ (((h.2 c2).2.1 c3) P hw hc)), fun c4 => hc _ tX12_blockAt_20 _ _ _ (hc _ tX12_blockAt_21 _ _ _ (⟨nofun, rfl, rfl, ((h.2 c2).2.2 c4)⟩))⟩))⟩))⟩))⟩)⟩)))
theorem ctX12_blockAt {zn d : Nat} (x1 : Int32) (I : Nat → Nat → Int32) (L : Nat → Nat → Int64) (B : Nat) (p : Nat → Nat) (q0 : I 115 27 = nI B ∧ B ≤ 7) (q1 : plC I 139 B p) : zcal zty zcd false (d + 1) 184 [.ref 115, .int x1] (zSH zn, I, L) 0 0 (fun r u => r = some (.int (blA p x1 B 0)) ∧ u = (zSH zn, I, L)) := by
  obtain ⟨eB, hB⟩ := q0
  have loop : ∀ (m b : Nat), b + m = B → blA p x1 B 0 = blA p x1 m b → RX12_blockAt zn d (fun r u => r = some (.int (blA p x1 B 0)) ∧ u = (zSH zn, I, L)) 2 [some (.ref 115), some (.int x1), some (.int (nI b))] [] (zSH zn, I, L) := by
    intro m
    induction m with
    | zero =>
      intro b hb he
      exact gX12_blockAt_2 _ _ I L ⟨fun _ => ⟨by rw [he]; rfl, rfl⟩, fun hc => absurd (by rw [eB, nI_leI (by omega) (by omega)]; omega) hc⟩
    | succ m ih =>
      intro b hb he
      refine gX12_blockAt_2 _ _ I L ⟨fun hc => absurd hc (by rw [eB, nI_leI (by omega) (by omega)]; omega), fun _ => ⟨vin_nI (by omega) (by omega), ?_⟩⟩
      rw [nI_clamp (by omega), (q1 b (by omega)).1, nI_1]
      exact ⟨fun h => ih (b + 1) (by omega) (by rw [he, blA, if_neg h]), fun h => ⟨by rw [he, blA, if_pos h], rfl⟩⟩
  exact eX12_blockAt _ I L (gX12_blockAt_0 _ I L (loop B 0 (by omega) rfl))
theorem blA_4 {p : Nat → Nat} {x : Int32} : ∀ {m b : Nat}, b + m ≤ 7 → (blA p x m b = -4 ↔ ∀ i, b ≤ i → i < b + m → nI (p i) ≠ x)
  | 0, b, _ => ⟨fun _ i h1 h2 => by omega, fun _ => rfl⟩
  | m + 1, b, hb => by
    have ih := blA_4 (p := p) (x := x) (m := m) (b := b + 1) (by omega)
    unfold blA
    by_cases h : nI (p b) = x
    · rw [if_pos h]
      exact ⟨fun z => absurd z (nI_n4 (by omega)), fun z => absurd h (z b (Nat.le_refl _) (by omega))⟩
    · rw [if_neg h, ih]
      constructor
      · intro z i h1 h2
        by_cases hi : i = b
        · subst hi; exact h
        · exact z i (by omega) (by omega)
      · intro z i h1 h2; exact z i (by omega) (by omega)
theorem blA_s {p : Nat → Nat} {x : Int32} : ∀ {m b : Nat}, b + m ≤ 7 → blA p x m b ≠ -4 → ∃ i, b ≤ i ∧ i < b + m ∧ nI (p i) = x ∧ blA p x m b = nI i
  | 0, b, _, h => absurd rfl h
  | m + 1, b, hb, h => by
    unfold blA at h ⊢
    by_cases hx : nI (p b) = x
    · rw [if_pos hx]
      exact ⟨b, Nat.le_refl _, by omega, hx, rfl⟩
    · rw [if_neg hx] at h ⊢
      obtain ⟨i, h1, h2, h3, h4⟩ := blA_s (m := m) (b := b + 1) (by omega) h
      exact ⟨i, by omega, by omega, h3, h4⟩

