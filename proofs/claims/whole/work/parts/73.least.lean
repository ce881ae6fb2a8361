/-! LEAST: what is laid in the order of PLACES -/
abbrev RX1_turnNetPlaces (zn d : Nat) (post : zP) : zK := zRun (zcal zty zcd false (d + 1)) kX1_turnNetPlaces (zLM zn) post
theorem eX1_turnNetPlaces {zn d : Nat} {post : zP} (x1 : Int32) (x2 : Int32) (I : Nat → Nat → Int32) (L : Nat → Nat → Int64) (h : RX1_turnNetPlaces zn d post 0 [some (.ref 67), some (.int x1), some (.int x2), none] [] (zSH zn, I, L)) : zcal zty zcd false (d + 2) 16 [.ref 67, .int x1, .int x2] (zSH zn, I, L) 0 0 post := zcal_of (d := d + 1) zmt16 zmc16 rfl (Nat.le_of_ble_eq_true rfl) h
theorem gX1_turnNetPlaces_0 {zn d : Nat} {post : zP} (x1 : Int32) (x2 : Int32) (I : Nat → Nat → Int32) (L : Nat → Nat → Int64) (h : RX1_turnNetPlaces zn d post 2 [some (.ref 67), some (.int x1), some (.int x2), some (.int (0 : Int32))] [] (zSH zn, I, L)) : RX1_turnNetPlaces zn d post 0 [some (.ref 67), some (.int x1), some (.int x2), none] [] (zSH zn, I, L) := fun P hw hc => hc _ tX1_turnNetPlaces_0 _ _ _ (hc _ tX1_turnNetPlaces_1 _ _ _ (h P hw hc))
theorem gX1_turnNetPlaces_2 {zn d : Nat} {post : zP} (x1 : Int32) (x2 : Int32) (x3 : Int32) (I : Nat → Nat → Int32) (L : Nat → Nat → Int64) (h : ((I 67 3) ≤ x3 → post none (zSH zn, I, L)) ∧ (¬ (I 67 3) ≤ x3 → vp_in x3 8 ∧ ((¬ ((¬ ((I 69 (x3).toNatClampNeg) >>> (x1 &&& 31)) &&& 1 = 0)) → RX1_turnNetPlaces zn d post 2 [some (.ref 67), some (.int x1), some (.int x2), some (.int (x3 + (1 : Int32)))] [] (zSH zn, I, L)) ∧ ((¬ ((I 69 (x3).toNatClampNeg) >>> (x1 &&& 31)) &&& 1 = 0) → RX1_turnNetPlaces zn d post 2 [some (.ref 67), some (.int x1), some (.int x2), some (.int (x3 + (1 : Int32)))] [] (zSH zn, (zi I 72 (x3).toNatClampNeg ((I 72 (x3).toNatClampNeg) ^^^ ((1 : Int32) <<< (x2 &&& 31)))), L))))) : RX1_turnNetPlaces zn d post 2 [some (.ref 67), some (.int x1), some (.int x2), some (.int x3)] [] (zSH zn, I, L) := fun P hw hc => hc _ tX1_turnNetPlaces_2 _ _ _ (hc _ tX1_turnNetPlaces_3 _ _ _ (hc _ tX1_turnNetPlaces_4 _ _ _ (⟨_, sh67, (by decide), hc _ tX1_turnNetPlaces_7 _ _ _ (⟨fun c1 => hc _ tX1_turnNetPlaces_41 _ _ _ (⟨rfl, rfl, (h.1 c1)⟩), fun c2 => hc _ tX1_turnNetPlaces_10 _ _ _ (hc _ tX1_turnNetPlaces_11 _ _ _ (⟨_, _, sh67, (by decide), rfl, hc _ tX1_turnNetPlaces_14 _ _ _ (hc _ tX1_turnNetPlaces_15 _ _ _ (⟨_, _, _, sh69, Or.inl ⟨rfl, (by decide)⟩, (h.2 c2).1, hc _ tX1_turnNetPlaces_16 _ _ _ (hc _ tX1_turnNetPlaces_17 _ _ _ (⟨Nat.le_of_ble_eq_true rfl, Nat.le_of_ble_eq_true rfl, zl1, zl2, _, ctX11_hasBit (I 69 (x3).toNatClampNeg) x1 I L, fun r u k5 => by obtain ⟨rfl, rfl⟩ := k5; exact ⟨zl3, zl4, hc _ tX1_turnNetPlaces_20 _ _ _ (⟨fun c3 => hc _ tX1_turnNetPlaces_35 _ _ _ (hc _ tX1_turnNetPlaces_38 _ _ _ (((h.2 c2).2.1 (zb_e c3)) P hw hc)), fun c4 => hc _ tX1_turnNetPlaces_23 _ _ _ (hc _ tX1_turnNetPlaces_24 _ _ _ (⟨_, _, sh67, (by decide), rfl, hc _ tX1_turnNetPlaces_27 _ _ _ (hc _ tX1_turnNetPlaces_28 _ _ _ (⟨⟨rfl, rfl⟩, hc _ tX1_turnNetPlaces_29 _ _ _ (⟨_, _, _, sh72, Or.inl ⟨rfl, (by decide)⟩, (h.2 c2).1, hc _ tX1_turnNetPlaces_30 _ _ _ (hc _ tX1_turnNetPlaces_31 _ _ _ (hc _ tX1_turnNetPlaces_32 _ _ _ (hc _ tX1_turnNetPlaces_33 _ _ _ (hc _ tX1_turnNetPlaces_34 _ _ _ (⟨_, _, sh72, (by decide), (h.2 c2).1, hc _ tX1_turnNetPlaces_35 _ _ _ (hc _ tX1_turnNetPlaces_38 _ _ _ (((h.2 c2).2.2 (zb_n c4)) P hw hc))⟩)))))⟩)⟩))⟩))⟩)⟩⟩))⟩))⟩))⟩)⟩)))
theorem ctX1_turnNetPlaces {zn d : Nat} (x1 : Int32) (x2 : Int32) (I : Nat → Nat → Int32) (L : Nat → Nat → Int64) (M : Nat) (nb : Nat → Nat) (S : Nat → Nat) (b : Nat) (y : Nat) (q0 : I 67 3 = nI M ∧ M ≤ 8) (q1 : ntC I 69 M nb) (q2 : ∀ k, k < M → I 72 k = nI (S k)) (q3 : x1 = nI b ∧ b < 7) (q4 : x2 = nI y ∧ y < 8) : zcal zty zcd false (d + 2) 16 [.ref 67, .int x1, .int x2] (zSH zn, I, L) 0 0 (fun r u => ∃ (J : Nat → Nat → Int32), r = none ∧ u = (zSH zn, J, L) ∧ (fr [72] I J ∧ (∀ k, k < M → J 72 k = nI (if (nb k).testBit b = true then S k ^^^ 2 ^ y else S k)) ∧ ∀ k, M ≤ k → J 72 k = I 72 k)) := by
  obtain ⟨eM, hM⟩ := q0
  obtain ⟨rfl, hb⟩ := q3
  obtain ⟨rfl, hy⟩ := q4
  have loop : ∀ n J, n ≤ M → (fr [72] I J ∧ (∀ k, k < n → J 72 k = nI (if (nb k).testBit b = true then S k ^^^ 2 ^ y else S k)) ∧ ∀ k, n ≤ k → J 72 k = I 72 k) → RX1_turnNetPlaces zn d (fun r u => ∃ (J : Nat → Nat → Int32), r = none ∧ u = (zSH zn, J, L) ∧ (fr [72] I J ∧ (∀ k, k < M → J 72 k = nI (if (nb k).testBit b = true then S k ^^^ 2 ^ y else S k)) ∧ ∀ k, M ≤ k → J 72 k = I 72 k)) 2 [some (.ref 67), some (.int (nI b)), some (.int (nI y)), some (.int (nI n))] [] (zSH zn, J, L) := by
    refine zup (fun J hJ => ?_) (fun n J hn hJ ih => ?_)
    · exact gX1_turnNetPlaces_2 _ _ _ J L ⟨fun _ => ⟨J, rfl, rfl, hJ.1, hJ.2.1, hJ.2.2⟩, fun hc => absurd (by rw [hJ.1 67 (by decide), eM, nI_leI (by omega) (by omega)]; exact Nat.le_refl _) hc⟩
    · obtain ⟨f1, f2, f3⟩ := hJ
      have hnb := q1 n hn
      refine gX1_turnNetPlaces_2 _ _ _ J L ⟨fun hc => absurd hc (by rw [f1 67 (by decide), eM, nI_leI (by omega) (by omega)]; omega), fun _ => ⟨vin_nI (by omega) (by omega), ?_⟩⟩
      rw [nI_clamp (by omega), f1 69 (by decide), hnb.1, nI_has (by omega) (by omega), f3 n (Nat.le_refl _), q2 n hn, nI_shl1 (by omega), nI_xor, nI_1]
      have key : ∀ K : Nat → Nat → Int32, fr [72] J K → (∀ k, k ≠ n → K 72 k = J 72 k) → K 72 n = nI (if (nb n).testBit b = true then S n ^^^ 2 ^ y else S n) → (fr [72] I K ∧ (∀ k, k < n + 1 → K 72 k = nI (if (nb k).testBit b = true then S k ^^^ 2 ^ y else S k)) ∧ ∀ k, n + 1 ≤ k → K 72 k = I 72 k) := fun K h1 h2 h3 => by
        refine ⟨fr_trans f1 h1, fun k hk => ?_, fun k hk => ?_⟩
        · by_cases hkn : k = n
          · rw [hkn]; exact h3
          · rw [h2 k hkn]; exact f2 k (by omega)
        · rw [h2 k (by omega)]; exact f3 k (by omega)
      refine ⟨fun h => ih J (key J fr_rf (fun _ _ => rfl) ?_), fun h => ih _ (key _ (fr_zi (by decide)) (fun k hk => by rw [zi_at, if_neg (fun z => hk z.2)]) ?_)⟩
      · rw [if_neg h, f3 n (Nat.le_refl _), q2 n hn]
      · rw [if_pos h, zi_at, if_pos ⟨rfl, rfl⟩]
  exact eX1_turnNetPlaces _ _ I L (gX1_turnNetPlaces_0 _ _ I L (loop 0 I (Nat.zero_le _) ⟨fr_rf, fun k hk => absurd hk (by omega), fun _ _ => rfl⟩))
def lspN (c : Nat) : Nat := ([0, 0, 1, 2, 2, 3, 3, 4] : List Nat).getD c 0
def lsc (I : Nat → Nat → Int32) : Prop := ∀ c, c < 8 → I 4 c = nI (lspN c)
def mx2 (a b : Nat) : Nat := if a < b then b else a
def wtc (M : Nat) (nb S : Nat → Nat) : Nat := fb_sm (fun k => mx2 (spN (S k)) (lspN (pcn (nb k) 7))) M
theorem and_7 : ∀ c, c < 8 → nI c &&& 7 = nI c := by decide +kernel
theorem lsp_le : ∀ c, c < 8 → lspN c ≤ 4 := by decide
theorem wtc_le {M : Nat} {nb S : Nat → Nat} (hS : ∀ k, k < M → S k < 256) : wtc M nb S ≤ 4 * M := by
  unfold wtc
  have : fb_sm (fun k => mx2 (spN (S k)) (lspN (pcn (nb k) 7))) M ≤ fb_sm (fun _ => 4) M := fb_sm_le (fun k hk => by
    have h1 := (spN_t _ (hS k hk)).2
    have h2 := lsp_le (pcn (nb k) 7) (by have := pcn_le (nb k) 7; omega)
    unfold mx2
    split <;> omega)
  have e : ∀ M, fb_sm (fun _ => 4) M = 4 * M := fun M => by
    induction M with
    | zero => rfl
    | succ M ih => rw [fb_sm_succ, ih]; omega
  rw [e] at this
  exact this
abbrev RX1_wireToCome (zn d : Nat) (post : zP) : zK := zRun (zcal zty zcd false (d + 2)) kX1_wireToCome (zLM zn) post
theorem eX1_wireToCome {zn d : Nat} {post : zP} (I : Nat → Nat → Int32) (L : Nat → Nat → Int64) (h : RX1_wireToCome zn d post 0 [some (.ref 67), none, none] [] (zSH zn, I, L)) : zcal zty zcd false (d + 3) 17 [.ref 67] (zSH zn, I, L) 0 0 post := zcal_of (d := d + 2) zmt17 zmc17 rfl (Nat.le_of_ble_eq_true rfl) h
theorem gX1_wireToCome_0 {zn d : Nat} {post : zP} (I : Nat → Nat → Int32) (L : Nat → Nat → Int64) (h : RX1_wireToCome zn d post 4 [some (.ref 67), some (.int (0 : Int32)), some (.int (0 : Int32))] [] (zSH zn, I, L)) : RX1_wireToCome zn d post 0 [some (.ref 67), none, none] [] (zSH zn, I, L) := fun P hw hc => hc _ tX1_wireToCome_0 _ _ _ (hc _ tX1_wireToCome_1 _ _ _ (hc _ tX1_wireToCome_2 _ _ _ (hc _ tX1_wireToCome_3 _ _ _ (h P hw hc))))
theorem gX1_wireToCome_4 {zn d : Nat} {post : zP} (x1 : Int32) (x2 : Int32) (I : Nat → Nat → Int32) (L : Nat → Nat → Int64) (h : ((I 67 3) ≤ x2 → post (some (.int x1)) (zSH zn, I, L)) ∧ (¬ (I 67 3) ≤ x2 → vp_in x2 8 ∧ (vp_in ((fJ6_bitCount_0f7a4 (I 69 (x2).toNatClampNeg)) &&& (7 : Int32)) 8 ∧ (RX1_wireToCome zn d post 4 [some (.ref 67), some (.int (x1 + (if (fX1_span (I 72 (x2).toNatClampNeg)) < (I 4 (((fJ6_bitCount_0f7a4 (I 69 (x2).toNatClampNeg)) &&& (7 : Int32))).toNatClampNeg) then (I 4 (((fJ6_bitCount_0f7a4 (I 69 (x2).toNatClampNeg)) &&& (7 : Int32))).toNatClampNeg) else (fX1_span (I 72 (x2).toNatClampNeg))))), some (.int (x2 + (1 : Int32)))] [] (zSH zn, I, L))))) : RX1_wireToCome zn d post 4 [some (.ref 67), some (.int x1), some (.int x2)] [] (zSH zn, I, L) := fun P hw hc => hc _ tX1_wireToCome_4 _ _ _ (hc _ tX1_wireToCome_5 _ _ _ (hc _ tX1_wireToCome_6 _ _ _ (⟨_, sh67, (by decide), hc _ tX1_wireToCome_9 _ _ _ (⟨fun c1 => hc _ tX1_wireToCome_49 _ _ _ (hc _ tX1_wireToCome_50 _ _ _ (⟨nofun, rfl, rfl, (h.1 c1)⟩)), fun c2 => hc _ tX1_wireToCome_12 _ _ _ (hc _ tX1_wireToCome_13 _ _ _ (hc _ tX1_wireToCome_14 _ _ _ (⟨_, _, sh67, (by decide), rfl, hc _ tX1_wireToCome_17 _ _ _ (hc _ tX1_wireToCome_18 _ _ _ (⟨_, _, _, sh72, Or.inl ⟨rfl, (by decide)⟩, (h.2 c2).1, hc _ tX1_wireToCome_19 _ _ _ (⟨Nat.le_of_ble_eq_true rfl, Nat.le_of_ble_eq_true rfl, zl1, zl2, _, ctX1_span (I 72 (x2).toNatClampNeg) I L, fun r u k4 => by obtain ⟨rfl, rfl⟩ := k4; exact ⟨zl3, zl4, hc _ tX1_wireToCome_22 _ _ _ (hc _ tX1_wireToCome_25 _ _ _ (hc _ tX1_wireToCome_26 _ _ _ (⟨_, _, sh67, (by decide), rfl, hc _ tX1_wireToCome_29 _ _ _ (hc _ tX1_wireToCome_30 _ _ _ (⟨_, _, _, sh69, Or.inl ⟨rfl, (by decide)⟩, (h.2 c2).1, hc _ tX1_wireToCome_31 _ _ _ (⟨Nat.le_of_ble_eq_true rfl, Nat.le_of_ble_eq_true rfl, zl1, zl2, _, ctJ6_bitCount_0f7a4 (I 69 (x2).toNatClampNeg) I L, fun r u k3 => by obtain ⟨rfl, rfl⟩ := k3; exact ⟨zl3, zl4, hc _ tX1_wireToCome_34 _ _ _ (hc _ tX1_wireToCome_36 _ _ _ (hc _ tX1_wireToCome_37 _ _ _ (⟨_, _, _, sh4, Or.inr ⟨rfl, by decide⟩, (h.2 c2).2.1, hc _ tX1_wireToCome_38 _ _ _ (⟨Nat.le_of_ble_eq_true rfl, Nat.le_refl _, Nat.le_refl _, hc _ tX1_wireToCome_41 _ _ _ (hc _ tX1_wireToCome_42 _ _ _ (hc _ tX1_wireToCome_43 _ _ _ (hc _ tX1_wireToCome_46 _ _ _ ((h.2 c2).2.2 P hw hc))))⟩)⟩)))⟩⟩)⟩))⟩)))⟩⟩)⟩))⟩)))⟩)⟩)))
theorem ctX1_wireToCome {zn d : Nat} (I : Nat → Nat → Int32) (L : Nat → Nat → Int64) (M : Nat) (nb : Nat → Nat) (S : Nat → Nat) (q0 : I 67 3 = nI M ∧ M ≤ 8) (q1 : ntC I 69 M nb) (q2 : ∀ k, k < M → I 72 k = nI (S k) ∧ S k < 256) (q3 : lsc I) : zcal zty zcd false (d + 3) 17 [.ref 67] (zSH zn, I, L) 0 0 (fun r u => r = some (.int (nI (wtc M nb S))) ∧ u = (zSH zn, I, L)) := by
  obtain ⟨eM, hM⟩ := q0
  have loop : ∀ n (u : Unit), n ≤ M → True → RX1_wireToCome zn d (fun r u => r = some (.int (nI (wtc M nb S))) ∧ u = (zSH zn, I, L)) 4 [some (.ref 67), some (.int (nI (wtc n nb S))), some (.int (nI n))] [] (zSH zn, I, L) := by
    refine zup (fun u _ => ?_) (fun n u hn _ ih => ?_)
    · exact gX1_wireToCome_4 _ _ I L ⟨fun _ => ⟨rfl, rfl⟩, fun hc => absurd (by rw [eM, nI_leI (by omega) (by omega)]; exact Nat.le_refl _) hc⟩
    · have hnb := q1 n hn
      have hS := q2 n hn
      have hp := pcn_le (nb n) 7
      have h1 := spN_t _ hS.2
      have h2 := lsp_le (pcn (nb n) 7) (by omega)
      refine gX1_wireToCome_4 _ _ I L ⟨fun hc => absurd hc (by rw [eM, nI_leI (by omega) (by omega)]; omega), fun _ => ⟨vin_nI (by omega) (by omega), ?_⟩⟩
      rw [nI_clamp (by omega), hnb.1, bc_7 _ hnb.2, and_7 _ (by omega), nI_clamp (by omega), q3 _ (by omega), hS.1, h1.1]
      refine ⟨vin_nI (by omega) (by decide), ?_⟩
      have hm : (if nI (spN (S n)) < nI (lspN (pcn (nb n) 7)) then nI (lspN (pcn (nb n) 7)) else nI (spN (S n))) = nI (mx2 (spN (S n)) (lspN (pcn (nb n) 7))) := by
        unfold mx2
        by_cases hlt : spN (S n) < lspN (pcn (nb n) 7)
        · rw [if_pos hlt, if_pos (by rw [nI_ltI (by omega) (by omega)]; exact hlt)]
        · rw [if_neg hlt, if_neg (by rw [nI_ltI (by omega) (by omega)]; exact hlt)]
      rw [hm, nI_add, nI_1]
      exact ih u trivial
  exact eX1_wireToCome I L (gX1_wireToCome_0 I L (loop 0 () (Nat.zero_le _) trivial))
/-! the WIRE that is sure -/
theorem sp_up : ∀ S, S < 256 → ∀ k, k < 8 → spN S ≤ spN (S ||| 2 ^ k) := by decide +kernel
theorem sp_ls : ∀ S, S < 256 → lspN (pcn S 8) ≤ spN S := by decide +kernel
theorem pc_up : ∀ S, S < 256 → ∀ k, k < 8 → S.testBit k = false → pcn (S ||| 2 ^ k) 8 = pcn S 8 + 1 := by decide +kernel
theorem xor_or : ∀ S, S < 256 → ∀ k, k < 8 → S.testBit k = false → S ^^^ 2 ^ k = S ||| 2 ^ k ∧ (S ||| 2 ^ k) ^^^ 2 ^ k = S := by decide +kernel
theorem pm_up {p : Nat → Nat} {X : Nat} {a : Nat} : ∀ {n : Nat}, a ≤ n → (∀ b, b < n → p b < 8) → spN (pm p X a) ≤ spN (pm p X n)
  | 0, h, _ => by have : a = 0 := by omega
                  subst this; exact Nat.le_refl _
  | n + 1, h, hp => by
    by_cases ha : a = n + 1
    · rw [ha]; exact Nat.le_refl _
    · have ih := pm_up (p := p) (X := X) (a := a) (n := n) (by omega) (fun b hb => hp b (by omega))
      refine Nat.le_trans ih ?_
      unfold pm
      by_cases hx : X.testBit n = true
      · rw [if_pos hx]
        have := sp_up (pm p X n) (pm_lt (fun b hb => hp b (by omega))) (p n) (hp n (by omega))
        refine Nat.le_trans ?_ this
        exact Nat.le_of_eq (by cases n <;> rfl)
      · rw [if_neg hx]
        exact Nat.le_of_eq (by cases n <;> rfl)
theorem pm_pc {p : Nat → Nat} {X : Nat} : ∀ {n : Nat}, (∀ b, b < n → p b < 8) → inj p n → pcn (pm p X n) 8 = pcn X n
  | 0, _, _ => by show pcn 0 8 = 0; decide
  | n + 1, hp, hi => by
    have ih := pm_pc (p := p) (X := X) (n := n) (fun b hb => hp b (by omega)) (fun a b ha hb => hi a b (by omega) (by omega))
    have e : pcn X (n + 1) = pcn X n + (if X.testBit n = true then 1 else 0) := rfl
    rw [e, pm]
    by_cases hx : X.testBit n = true
    · rw [if_pos hx, if_pos hx, pc_up _ (pm_lt (fun b hb => hp b (by omega))) _ (hp n (by omega)), ih]
      cases hb : (pm p X n).testBit (p n) with
      | false => rfl
      | true =>
        obtain ⟨b, h1, -, h3⟩ := pm_bit.mp hb
        have := hi b n (by omega) (by omega) h3
        omega
    · rw [if_neg hx, if_neg hx, ih, Nat.add_zero]
def okA (B : Nat) (q : Nat → Nat) : Prop := (∀ b, b < B → q b < 8) ∧ inj q B
def ext (b : Nat) (q q' : Nat → Nat) : Prop := ∀ j, j < b → q' j = q j
theorem wtc_wa {B M : Nat} {nb q q' : Nat → Nat} {b : Nat} (hB : B ≤ 7) (hb : b ≤ B) (hn : ∀ k, k < M → nb k < 2 ^ B) (hq : okA B q') (he : ext b q q') : wtc M nb (fun k => pm q (nb k) b) ≤ wa B M nb q' := by
  unfold wtc wa
  refine fb_sm_le (fun k hk => ?_)
  have h1 : pm q (nb k) b = pm q' (nb k) b := pm_cong (fun j hj => (he j hj).symm)
  have h2 := pm_up (p := q') (X := nb k) hb hq.1
  have h3 := sp_ls _ (pm_lt (X := nb k) hq.1)
  rw [pm_pc hq.1 hq.2, pcn_ext (hn k hk) hB] at h3
  dsimp only
  rw [h1]
  unfold mx2
  split
  · exact h3
  · exact h2
theorem wtc_full {B M : Nat} {nb q : Nat → Nat} (hB : B ≤ 7) (hn : ∀ k, k < M → nb k < 2 ^ B) (hq : okA B q) : wtc M nb (fun k => pm q (nb k) B) = wa B M nb q := by
  unfold wtc wa
  refine fb_sm_cong (fun k hk => ?_)
  have h3 := sp_ls _ (pm_lt (X := nb k) hq.1)
  rw [pm_pc hq.1 hq.2, pcn_ext (hn k hk) hB] at h3
  unfold mx2
  dsimp only
  rw [if_neg (by omega)]

