/-! lanes over the ROWS of a state, or one ROW -/
def shw (V : zVw) (b U : Nat → Int64) (n : Nat) : Int64 := match V n with
  | some ks => if 6 ≤ n ∧ n < 15 then U n else ev opL U 0 ks
  | none => if 6 ≤ n ∧ n < 15 then 0 else b n
def evL (L K : Nat → Nat → Int64) (k0 : Nat) (V : zVw) (b : Nat → Int64) : Prop := fr [k0 + 1, k0 + 2, k0 + 5] L K ∧ (∀ n, n < 19 → ¬ (6 ≤ n ∧ n < 15) → K (k0 + 1) n = stkL L k0 n (b n)) ∧ sol opL 0 V (stkL L k0) 0 (K (k0 + 1)) ∧ ∀ n, n < 19 → K (k0 + 2) n = shw V b (K (k0 + 1)) n
def bSt (L : Nat → Nat → Int64) (x : Int32) (n : Nat) : Int64 := if n < 6 then L 1 n else fX4_inAllLanes (x >>> (nI (n - 15) &&& 31))
def bRw (x : Int32) (n : Nat) : Int64 := if n < 6 then fX4_inAllLanes (x >>> (nI n &&& 31)) else fX4_inAllLanes (x >>> (nI (n - 9) &&& 31))
theorem evL_of {L K K2 : Nat → Nat → Int64} {k0 : Nat} {V : zVw} {b : Nat → Int64} (h1 : fr [k0 + 1, k0 + 2, k0 + 5] L K) (hb : ∀ n, n < 19 → ¬ (6 ≤ n ∧ n < 15) → K (k0 + 2) n = b n) (h : runL K K2 k0 V) : evL L K2 k0 V b := by
  obtain ⟨g1, g2, g3, g4⟩ := h
  have e : stkL K k0 = stkL L k0 := by funext n v; unfold stkL; rw [h1 (k0 + 3) (by simp), h1 (k0 + 4) (by simp)]
  refine ⟨fr_trans h1 g1, fun n hn hw => by rw [g2 n hn hw, e, hb n hn hw], by rw [← e]; exact g3, fun n hn => ?_⟩
  rw [g4 n hn]
  unfold shw
  cases V n with
  | some ks => rfl
  | none =>
    simp only
    by_cases hw : 6 ≤ n ∧ n < 15
    · rw [if_pos hw, if_pos hw]
    · rw [if_neg hw, if_neg hw, hb n hn hw]
abbrev RX4_runState (zn d : Nat) (post : zP) : zK := zRun (zcal zty zcd false (d + 3)) kX4_runState (zLM zn) post
theorem eX4_runState {zn d : Nat} {post : zP} (k0 : Nat) (k1 : Nat) (x2 : Int32) (I : Nat → Nat → Int32) (L : Nat → Nat → Int64) (h0 : isX4 k0) (h1 : isX10 k1) (h : RX4_runState zn d post 0 [some (.ref k0), some (.ref k1), some (.int x2), none] [] (zSH zn, I, L)) : zcal zty zcd false (d + 4) 32 [.ref k0, .ref k1, .int x2] (zSH zn, I, L) 0 0 post := zcal_of (d := d + 3) zmt32 zmc32 rfl (Nat.le_of_ble_eq_true rfl) h
theorem gX4_runState_0 {zn d : Nat} {post : zP} (k0 : Nat) (k1 : Nat) (x2 : Int32) (I : Nat → Nat → Int32) (L : Nat → Nat → Int64) (h0 : isX4 k0) (h1 : isX10 k1) (h : RX4_runState zn d post 2 [some (.ref k0), some (.ref k1), some (.int x2), some (.int (0 : Int32))] [] (zSH zn, I, L)) : RX4_runState zn d post 0 [some (.ref k0), some (.ref k1), some (.int x2), none] [] (zSH zn, I, L) := fun P hw hc => hc _ tX4_runState_0 _ _ _ (hc _ tX4_runState_1 _ _ _ (h P hw hc))
theorem gX4_runState_2 {zn d : Nat} {post : zP} (k0 : Nat) (k1 : Nat) (x2 : Int32) (x3 : Int32) (I : Nat → Nat → Int32) (L : Nat → Nat → Int64) (h0 : isX4 k0) (h1 : isX10 k1) (h : ((6 : Int32) ≤ x3 → RX4_runState zn d post 27 [some (.ref k0), some (.ref k1), some (.int x2), some (.int (0 : Int32))] [] (zSH zn, I, L)) ∧ (¬ (6 : Int32) ≤ x3 → vp_in x3 6 ∧ (vp_in x3 19 ∧ (RX4_runState zn d post 2 [some (.ref k0), some (.ref k1), some (.int x2), some (.int (x3 + (1 : Int32)))] [] (zSH zn, I, (zl L (k0 + 2) (x3).toNatClampNeg (L 1 (x3).toNatClampNeg))))))) : RX4_runState zn d post 2 [some (.ref k0), some (.ref k1), some (.int x2), some (.int x3)] [] (zSH zn, I, L) := fun P hw hc => hc _ tX4_runState_2 _ _ _ (hc _ tX4_runState_3 _ _ _ (hc _ tX4_runState_5 _ _ _ (⟨fun c1 => hc _ tX4_runState_25 _ _ _ (hc _ tX4_runState_26 _ _ _ ((h.1 c1) P hw hc)), fun c2 => hc _ tX4_runState_8 _ _ _ (hc _ tX4_runState_9 _ _ _ (⟨_, _, (shX4 h0), (geX4 h0), rfl, hc _ tX4_runState_12 _ _ _ (hc _ tX4_runState_13 _ _ _ (hc _ tX4_runState_16 _ _ _ (hc _ tX4_runState_17 _ _ _ (⟨_, _, _, sh1, Or.inr ⟨rfl, by decide⟩, (h.2 c2).1, hc _ tX4_runState_18 _ _ _ (⟨_, _, (shX4_1 h0), (geX4_1 h0), (h.2 c2).2.1, hc _ tX4_runState_19 _ _ _ (hc _ tX4_runState_22 _ _ _ ((h.2 c2).2.2 P hw hc))⟩)⟩))))⟩))⟩)))
theorem gX4_runState_27 {zn d : Nat} {post : zP} (k0 : Nat) (k1 : Nat) (x2 : Int32) (x3 : Int32) (I : Nat → Nat → Int32) (L : Nat → Nat → Int64) (h0 : isX4 k0) (h1 : isX10 k1) (h : ((4 : Int32) ≤ x3 → (∃ (V4 : zVw) (os5 : List Nat), (cEv I k1 V4 os5) ∧ (∀ (K3 : Nat → Nat → Int64), (runL L K3 k0 V4) → post none (zSH zn, I, K3)))) ∧ (¬ (4 : Int32) ≤ x3 → vp_in ((15 : Int32) + x3) 19 ∧ (RX4_runState zn d post 27 [some (.ref k0), some (.ref k1), some (.int x2), some (.int (x3 + (1 : Int32)))] [] (zSH zn, I, (zl L (k0 + 2) (((15 : Int32) + x3)).toNatClampNeg (fX4_inAllLanes (x2 >>> (x3 &&& 31)))))))) : RX4_runState zn d post 27 [some (.ref k0), some (.ref k1), some (.int x2), some (.int x3)] [] (zSH zn, I, L) := fun P hw hc => hc _ tX4_runState_27 _ _ _ (hc _ tX4_runState_28 _ _ _ (hc _ tX4_runState_29 _ _ _ (⟨fun c1 => hc _ tX4_runState_53 _ _ _ (hc _ tX4_runState_54 _ _ _ ((by obtain ⟨V4, os5, hg6⟩ := (h.1 c1); exact hc _ tX4_runState_55 _ _ _ (⟨⟨_, _, _, rfl, (geX4 h0), (shX4 h0)⟩, ⟨Nat.le_of_ble_eq_true rfl, Nat.le_of_ble_eq_true rfl, zl1, zl2, _, ctX4_run k0 k1 I L V4 os5 h0 h1 hg6.1, fun r u k8 => by obtain ⟨K3, rfl, rfl, p7⟩ := k8; exact ⟨zl3, zl4, hc _ tX4_runState_58 _ _ _ (⟨rfl, rfl, (hg6.2 K3 p7)⟩)⟩⟩⟩)))), fun c2 => hc _ tX4_runState_32 _ _ _ (hc _ tX4_runState_33 _ _ _ (⟨_, _, (shX4 h0), (geX4 h0), rfl, hc _ tX4_runState_36 _ _ _ (hc _ tX4_runState_38 _ _ _ (hc _ tX4_runState_39 _ _ _ (hc _ tX4_runState_40 _ _ _ (hc _ tX4_runState_41 _ _ _ (hc _ tX4_runState_42 _ _ _ (hc _ tX4_runState_43 _ _ _ (⟨Nat.le_of_ble_eq_true rfl, Nat.le_of_ble_eq_true rfl, zl1, zl2, _, ctX4_inAllLanes (x2 >>> (x3 &&& 31)) I L, fun r u k9 => by obtain ⟨rfl, rfl⟩ := k9; exact ⟨zl3, zl4, hc _ tX4_runState_46 _ _ _ (⟨_, _, (shX4_1 h0), (geX4_1 h0), (h.2 c2).1, hc _ tX4_runState_47 _ _ _ (hc _ tX4_runState_50 _ _ _ ((h.2 c2).2 P hw hc))⟩)⟩⟩)))))))⟩))⟩)))
theorem ctX4_runState {zn d : Nat} (k0 : Nat) (k1 : Nat) (x2 : Int32) (I : Nat → Nat → Int32) (L : Nat → Nat → Int64) (V : zVw) (os : List Nat) (h0 : isX4 k0) (h1 : isX10 k1) (q0 : cEv I k1 V os) : zcal zty zcd false (d + 4) 32 [.ref k0, .ref k1, .int x2] (zSH zn, I, L) 0 0 (fun r u => ∃ (K : Nat → Nat → Int64), r = none ∧ u = (zSH zn, I, K) ∧ (evL L K k0 V (bSt L x2))) := by
  have hk1 : k0 + 2 ≠ 1 := by have := geX4 h0; omega
  have loop2 : ∀ (m i : Nat) (K : Nat → Nat → Int64), i + m = 4 → fr [k0 + 1, k0 + 2, k0 + 5] L K → (∀ n, n < 6 → K (k0 + 2) n = bSt L x2 n) → (∀ n, 15 ≤ n → n < 15 + i → K (k0 + 2) n = bSt L x2 n) →
      RX4_runState zn d (fun r u => ∃ (K : Nat → Nat → Int64), r = none ∧ u = (zSH zn, I, K) ∧ (evL L K k0 V (bSt L x2))) 27 [some (.ref k0), some (.ref k1), some (.int x2), some (.int (nI i))] [] (zSH zn, I, K) := by
    intro m
    induction m with
    | zero =>
      intro i K hi f1 f2 f3
      have hi4 : i = 4 := by omega
      subst hi4
      refine gX4_runState_27 k0 k1 _ _ I K h0 h1 ⟨fun _ => ⟨V, os, q0, fun K2 hK2 => ⟨K2, rfl, rfl, evL_of f1 (fun n hn hw => ?_) hK2⟩⟩, fun hc => absurd (by decide) hc⟩
      by_cases hn6 : n < 6
      · exact f2 n hn6
      · exact f3 n (by omega) (by omega)
    | succ m ih =>
      intro i K hi f1 f2 f3
      have e0 : (15 : Int32) + nI i = nI (15 + i) := by rw [nl 15, nI_add]
      have e0' : (nI (15 + i)).toNatClampNeg = 15 + i := nI_clamp (by omega)
      refine gX4_runState_27 k0 k1 _ _ I K h0 h1 ⟨fun hc => absurd hc (by rw [nl 4, nI_leI (by omega) (by omega)]; omega), fun _ => ⟨by rw [e0]; exact vin_nI (by omega) (by omega), ?_⟩⟩
      rw [e0, e0', nI_1]
      refine ih (i + 1) _ (by omega) (fr_trans f1 (fr_zl (by simp))) (fun n hn => ?_) (fun n h15 hn => ?_)
      · rw [zl_at, if_neg (by omega)]; exact f2 n hn
      · rw [zl_at]
        by_cases hni : n = 15 + i
        · rw [if_pos ⟨rfl, hni⟩, hni, bSt, if_neg (by omega), show 15 + i - 15 = i by omega]
        · rw [if_neg (fun z => hni z.2)]; exact f3 n h15 (by omega)
  have loop1 : ∀ (m i : Nat) (K : Nat → Nat → Int64), i + m = 6 → fr [k0 + 1, k0 + 2, k0 + 5] L K → (∀ n, n < i → K (k0 + 2) n = bSt L x2 n) →
      RX4_runState zn d (fun r u => ∃ (K : Nat → Nat → Int64), r = none ∧ u = (zSH zn, I, K) ∧ (evL L K k0 V (bSt L x2))) 2 [some (.ref k0), some (.ref k1), some (.int x2), some (.int (nI i))] [] (zSH zn, I, K) := by
    intro m
    induction m with
    | zero =>
      intro i K hi f1 f2
      have hi4 : i = 6 := by omega
      subst hi4
      exact gX4_runState_2 k0 k1 _ _ I K h0 h1 ⟨fun _ => loop2 4 0 K (by omega) f1 f2 (fun n h1 h2 => absurd h1 (by omega)), fun hc => absurd (by decide) hc⟩
    | succ m ih =>
      intro i K hi f1 f2
      have e0 : (nI i).toNatClampNeg = i := nI_clamp (by omega)
      refine gX4_runState_2 k0 k1 _ _ I K h0 h1 ⟨fun hc => absurd hc (by rw [nl 6, nI_leI (by omega) (by omega)]; omega), fun _ => ⟨vin_nI (by omega) (by omega), vin_nI (by omega) (by omega), ?_⟩⟩
      rw [e0, nI_1]
      refine ih (i + 1) _ (by omega) (fr_trans f1 (fr_zl (by simp))) (fun n hn => ?_)
      rw [zl_at]
      by_cases hni : n = i
      · rw [if_pos ⟨rfl, hni⟩, hni, bSt, if_pos (by omega), f1 1 (by have := geX4 h0; simp; omega)]
      · rw [if_neg (fun z => hni z.2)]; exact f2 n (by omega)
  exact eX4_runState k0 k1 _ I L h0 h1 (gX4_runState_0 k0 k1 _ I L h0 h1 (loop1 6 0 L (by omega) fr_rf (fun n hn => absurd hn (by omega))))
abbrev RX4_runRow (zn d : Nat) (post : zP) : zK := zRun (zcal zty zcd false (d + 3)) kX4_runRow (zLM zn) post
theorem eX4_runRow {zn d : Nat} {post : zP} (k0 : Nat) (k1 : Nat) (x2 : Int32) (I : Nat → Nat → Int32) (L : Nat → Nat → Int64) (h0 : isX4 k0) (h1 : isX10 k1) (h : RX4_runRow zn d post 0 [some (.ref k0), some (.ref k1), some (.int x2), none] [] (zSH zn, I, L)) : zcal zty zcd false (d + 4) 33 [.ref k0, .ref k1, .int x2] (zSH zn, I, L) 0 0 post := zcal_of (d := d + 3) zmt33 zmc33 rfl (Nat.le_of_ble_eq_true rfl) h
theorem gX4_runRow_0 {zn d : Nat} {post : zP} (k0 : Nat) (k1 : Nat) (x2 : Int32) (I : Nat → Nat → Int32) (L : Nat → Nat → Int64) (h0 : isX4 k0) (h1 : isX10 k1) (h : RX4_runRow zn d post 2 [some (.ref k0), some (.ref k1), some (.int x2), some (.int (0 : Int32))] [] (zSH zn, I, L)) : RX4_runRow zn d post 0 [some (.ref k0), some (.ref k1), some (.int x2), none] [] (zSH zn, I, L) := fun P hw hc => hc _ tX4_runRow_0 _ _ _ (hc _ tX4_runRow_1 _ _ _ (h P hw hc))
theorem gX4_runRow_2 {zn d : Nat} {post : zP} (k0 : Nat) (k1 : Nat) (x2 : Int32) (x3 : Int32) (I : Nat → Nat → Int32) (L : Nat → Nat → Int64) (h0 : isX4 k0) (h1 : isX10 k1) (h : ((6 : Int32) ≤ x3 → RX4_runRow zn d post 28 [some (.ref k0), some (.ref k1), some (.int x2), some (.int (0 : Int32))] [] (zSH zn, I, L)) ∧ (¬ (6 : Int32) ≤ x3 → vp_in x3 19 ∧ (RX4_runRow zn d post 2 [some (.ref k0), some (.ref k1), some (.int x2), some (.int (x3 + (1 : Int32)))] [] (zSH zn, I, (zl L (k0 + 2) (x3).toNatClampNeg (fX4_inAllLanes (x2 >>> (x3 &&& 31)))))))) : RX4_runRow zn d post 2 [some (.ref k0), some (.ref k1), some (.int x2), some (.int x3)] [] (zSH zn, I, L) := fun P hw hc => hc _ tX4_runRow_2 _ _ _ (hc _ tX4_runRow_3 _ _ _ (hc _ tX4_runRow_5 _ _ _ (⟨fun c1 => hc _ tX4_runRow_26 _ _ _ (hc _ tX4_runRow_27 _ _ _ ((h.1 c1) P hw hc)), fun c2 => hc _ tX4_runRow_8 _ _ _ (hc _ tX4_runRow_9 _ _ _ (⟨_, _, (shX4 h0), (geX4 h0), rfl, hc _ tX4_runRow_12 _ _ _ (hc _ tX4_runRow_13 _ _ _ (hc _ tX4_runRow_14 _ _ _ (hc _ tX4_runRow_15 _ _ _ (hc _ tX4_runRow_16 _ _ _ (⟨Nat.le_of_ble_eq_true rfl, Nat.le_of_ble_eq_true rfl, zl1, zl2, _, ctX4_inAllLanes (x2 >>> (x3 &&& 31)) I L, fun r u k3 => by obtain ⟨rfl, rfl⟩ := k3; exact ⟨zl3, zl4, hc _ tX4_runRow_19 _ _ _ (⟨_, _, (shX4_1 h0), (geX4_1 h0), (h.2 c2).1, hc _ tX4_runRow_20 _ _ _ (hc _ tX4_runRow_23 _ _ _ ((h.2 c2).2 P hw hc))⟩)⟩⟩)))))⟩))⟩)))
theorem gX4_runRow_28 {zn d : Nat} {post : zP} (k0 : Nat) (k1 : Nat) (x2 : Int32) (x3 : Int32) (I : Nat → Nat → Int32) (L : Nat → Nat → Int64) (h0 : isX4 k0) (h1 : isX10 k1) (h : ((4 : Int32) ≤ x3 → (∃ (V4 : zVw) (os5 : List Nat), (cEv I k1 V4 os5) ∧ (∀ (K3 : Nat → Nat → Int64), (runL L K3 k0 V4) → post none (zSH zn, I, K3)))) ∧ (¬ (4 : Int32) ≤ x3 → vp_in ((15 : Int32) + x3) 19 ∧ (RX4_runRow zn d post 28 [some (.ref k0), some (.ref k1), some (.int x2), some (.int (x3 + (1 : Int32)))] [] (zSH zn, I, (zl L (k0 + 2) (((15 : Int32) + x3)).toNatClampNeg (fX4_inAllLanes (x2 >>> (((6 : Int32) + x3) &&& 31)))))))) : RX4_runRow zn d post 28 [some (.ref k0), some (.ref k1), some (.int x2), some (.int x3)] [] (zSH zn, I, L) := fun P hw hc => hc _ tX4_runRow_28 _ _ _ (hc _ tX4_runRow_29 _ _ _ (hc _ tX4_runRow_30 _ _ _ (⟨fun c1 => hc _ tX4_runRow_57 _ _ _ (hc _ tX4_runRow_58 _ _ _ ((by obtain ⟨V4, os5, hg6⟩ := (h.1 c1); exact hc _ tX4_runRow_59 _ _ _ (⟨⟨_, _, _, rfl, (geX4 h0), (shX4 h0)⟩, ⟨Nat.le_of_ble_eq_true rfl, Nat.le_of_ble_eq_true rfl, zl1, zl2, _, ctX4_run k0 k1 I L V4 os5 h0 h1 hg6.1, fun r u k8 => by obtain ⟨K3, rfl, rfl, p7⟩ := k8; exact ⟨zl3, zl4, hc _ tX4_runRow_62 _ _ _ (⟨rfl, rfl, (hg6.2 K3 p7)⟩)⟩⟩⟩)))), fun c2 => hc _ tX4_runRow_33 _ _ _ (hc _ tX4_runRow_34 _ _ _ (⟨_, _, (shX4 h0), (geX4 h0), rfl, hc _ tX4_runRow_37 _ _ _ (hc _ tX4_runRow_39 _ _ _ (hc _ tX4_runRow_40 _ _ _ (hc _ tX4_runRow_41 _ _ _ (hc _ tX4_runRow_42 _ _ _ (hc _ tX4_runRow_44 _ _ _ (hc _ tX4_runRow_45 _ _ _ (hc _ tX4_runRow_46 _ _ _ (hc _ tX4_runRow_47 _ _ _ (⟨Nat.le_of_ble_eq_true rfl, Nat.le_of_ble_eq_true rfl, zl1, zl2, _, ctX4_inAllLanes (x2 >>> (((6 : Int32) + x3) &&& 31)) I L, fun r u k9 => by obtain ⟨rfl, rfl⟩ := k9; exact ⟨zl3, zl4, hc _ tX4_runRow_50 _ _ _ (⟨_, _, (shX4_1 h0), (geX4_1 h0), (h.2 c2).1, hc _ tX4_runRow_51 _ _ _ (hc _ tX4_runRow_54 _ _ _ ((h.2 c2).2 P hw hc))⟩)⟩⟩)))))))))⟩))⟩)))
theorem ctX4_runRow {zn d : Nat} (k0 : Nat) (k1 : Nat) (x2 : Int32) (I : Nat → Nat → Int32) (L : Nat → Nat → Int64) (V : zVw) (os : List Nat) (h0 : isX4 k0) (h1 : isX10 k1) (q0 : cEv I k1 V os) : zcal zty zcd false (d + 4) 33 [.ref k0, .ref k1, .int x2] (zSH zn, I, L) 0 0 (fun r u => ∃ (K : Nat → Nat → Int64), r = none ∧ u = (zSH zn, I, K) ∧ (evL L K k0 V (bRw x2))) := by
  have loop2 : ∀ (m i : Nat) (K : Nat → Nat → Int64), i + m = 4 → fr [k0 + 1, k0 + 2, k0 + 5] L K → (∀ n, n < 6 → K (k0 + 2) n = bRw x2 n) → (∀ n, 15 ≤ n → n < 15 + i → K (k0 + 2) n = bRw x2 n) →
      RX4_runRow zn d (fun r u => ∃ (K : Nat → Nat → Int64), r = none ∧ u = (zSH zn, I, K) ∧ (evL L K k0 V (bRw x2))) 28 [some (.ref k0), some (.ref k1), some (.int x2), some (.int (nI i))] [] (zSH zn, I, K) := by
    intro m
    induction m with
    | zero =>
      intro i K hi f1 f2 f3
      have hi4 : i = 4 := by omega
      subst hi4
      refine gX4_runRow_28 k0 k1 _ _ I K h0 h1 ⟨fun _ => ⟨V, os, q0, fun K2 hK2 => ⟨K2, rfl, rfl, evL_of f1 (fun n hn hw => ?_) hK2⟩⟩, fun hc => absurd (by decide) hc⟩
      by_cases hn6 : n < 6
      · exact f2 n hn6
      · exact f3 n (by omega) (by omega)
    | succ m ih =>
      intro i K hi f1 f2 f3
      have e0 : (15 : Int32) + nI i = nI (15 + i) := by rw [nl 15, nI_add]
      have e0' : (nI (15 + i)).toNatClampNeg = 15 + i := nI_clamp (by omega)
      have e1 : (6 : Int32) + nI i = nI (6 + i) := by rw [nl 6, nI_add]
      refine gX4_runRow_28 k0 k1 _ _ I K h0 h1 ⟨fun hc => absurd hc (by rw [nl 4, nI_leI (by omega) (by omega)]; omega), fun _ => ⟨by rw [e0]; exact vin_nI (by omega) (by omega), ?_⟩⟩
      rw [e0, e0', e1, nI_1]
      refine ih (i + 1) _ (by omega) (fr_trans f1 (fr_zl (by simp))) (fun n hn => ?_) (fun n h15 hn => ?_)
      · rw [zl_at, if_neg (by omega)]; exact f2 n hn
      · rw [zl_at]
        by_cases hni : n = 15 + i
        · rw [if_pos ⟨rfl, hni⟩, hni, bRw, if_neg (by omega), show 15 + i - 9 = 6 + i by omega]
        · rw [if_neg (fun z => hni z.2)]; exact f3 n h15 (by omega)
  have loop1 : ∀ (m i : Nat) (K : Nat → Nat → Int64), i + m = 6 → fr [k0 + 1, k0 + 2, k0 + 5] L K → (∀ n, n < i → K (k0 + 2) n = bRw x2 n) →
      RX4_runRow zn d (fun r u => ∃ (K : Nat → Nat → Int64), r = none ∧ u = (zSH zn, I, K) ∧ (evL L K k0 V (bRw x2))) 2 [some (.ref k0), some (.ref k1), some (.int x2), some (.int (nI i))] [] (zSH zn, I, K) := by
    intro m
    induction m with
    | zero =>
      intro i K hi f1 f2
      have hi4 : i = 6 := by omega
      subst hi4
      exact gX4_runRow_2 k0 k1 _ _ I K h0 h1 ⟨fun _ => loop2 4 0 K (by omega) f1 f2 (fun n h1 h2 => absurd h1 (by omega)), fun hc => absurd (by decide) hc⟩
    | succ m ih =>
      intro i K hi f1 f2
      have e0 : (nI i).toNatClampNeg = i := nI_clamp (by omega)
      refine gX4_runRow_2 k0 k1 _ _ I K h0 h1 ⟨fun hc => absurd hc (by rw [nl 6, nI_leI (by omega) (by omega)]; omega), fun _ => ⟨vin_nI (by omega) (by omega), ?_⟩⟩
      rw [e0, nI_1]
      refine ih (i + 1) _ (by omega) (fr_trans f1 (fr_zl (by simp))) (fun n hn => ?_)
      rw [zl_at]
      by_cases hni : n = i
      · rw [if_pos ⟨rfl, hni⟩, hni, bRw, if_pos (by omega)]
      · rw [if_neg (fun z => hni z.2)]; exact f2 n (by omega)
  exact eX4_runRow k0 k1 _ I L h0 h1 (gX4_runRow_0 k0 k1 _ I L h0 h1 (loop1 6 0 L (by omega) fr_rf (fun n hn => absurd hn (by omega))))
/-- the lanes in which one of these names shows otherwise -/
def unl (L : Nat → Nat → Int64) (k0 k1 : Nat) (x : Int32) : Nat → Int64
  | 0 => 0
  | n + 1 => if ¬ (x >>> (nI n &&& 31)) &&& 1 = 0 then unl L k0 k1 x n ||| ((L (k0 + 2) n) ^^^ (L (k1 + 2) n)) else unl L k0 k1 x n
abbrev RX4_unlike (zn d : Nat) (post : zP) : zK := zRun (zcal zty zcd false (d + 1)) kX4_unlike (zLM zn) post
theorem eX4_unlike {zn d : Nat} {post : zP} (k0 : Nat) (k1 : Nat) (x2 : Int32) (I : Nat → Nat → Int32) (L : Nat → Nat → Int64) (h0 : isX4 k0) (h1 : isX4 k1) (h : RX4_unlike zn d post 0 [some (.ref k0), some (.ref k1), some (.int x2), none, none, none] [] (zSH zn, I, L)) : zcal zty zcd false (d + 2) 39 [.ref k0, .ref k1, .int x2] (zSH zn, I, L) 0 0 post := zcal_of (d := d + 1) zmt39 zmc39 rfl (Nat.le_of_ble_eq_true rfl) h
theorem gX4_unlike_0 {zn d : Nat} {post : zP} (k0 : Nat) (k1 : Nat) (x2 : Int32) (I : Nat → Nat → Int32) (L : Nat → Nat → Int64) (h0 : isX4 k0) (h1 : isX4 k1) (h : RX4_unlike zn d post 5 [some (.ref k0), some (.ref k1), some (.int x2), some (.long (0 : Int64)), none, some (.int (0 : Int32))] [] (zSH zn, I, L)) : RX4_unlike zn d post 0 [some (.ref k0), some (.ref k1), some (.int x2), none, none, none] [] (zSH zn, I, L) := fun P hw hc => hc _ tX4_unlike_0 _ _ _ (hc _ tX4_unlike_1 _ _ _ (hc _ tX4_unlike_2 _ _ _ (hc _ tX4_unlike_3 _ _ _ (h P hw hc))))
theorem gX4_unlike_5 {zn d : Nat} {post : zP} (k0 : Nat) (k1 : Nat) (x2 : Int32) (x3 : Int64) (x5 : Int32) (I : Nat → Nat → Int32) (L : Nat → Nat → Int64) (h0 : isX4 k0) (h1 : isX4 k1) (h : ((19 : Int32) ≤ x5 → post (some (.long x3)) (zSH zn, I, L)) ∧ (¬ (19 : Int32) ≤ x5 → (¬ ((¬ (x2 >>> (x5 &&& 31)) &&& 1 = 0)) → RX4_unlike zn d post 5 [some (.ref k0), some (.ref k1), some (.int x2), some (.long x3), none, some (.int (x5 + (1 : Int32)))] [] (zSH zn, I, L)) ∧ ((¬ (x2 >>> (x5 &&& 31)) &&& 1 = 0) → vp_in x5 19 ∧ (RX4_unlike zn d post 5 [some (.ref k0), some (.ref k1), some (.int x2), some (.long (x3 ||| ((L (k0 + 2) (x5).toNatClampNeg) ^^^ (L (k1 + 2) (x5).toNatClampNeg)))), none, some (.int (x5 + (1 : Int32)))] [] (zSH zn, I, L))))) : RX4_unlike zn d post 5 [some (.ref k0), some (.ref k1), some (.int x2), some (.long x3), none, some (.int x5)] [] (zSH zn, I, L) := fun P hw hc => hc _ tX4_unlike_5 _ _ _ (hc _ tX4_unlike_7 _ _ _ (hc _ tX4_unlike_9 _ _ _ (⟨fun c1 => hc _ tX4_unlike_45 _ _ _ (hc _ tX4_unlike_46 _ _ _ (⟨rfl, rfl, (h.1 c1)⟩)), fun c2 => hc _ tX4_unlike_12 _ _ _ (hc _ tX4_unlike_13 _ _ _ (hc _ tX4_unlike_15 _ _ _ (⟨Nat.le_of_ble_eq_true rfl, Nat.le_of_ble_eq_true rfl, zl1, zl2, _, ctX11_hasBit x2 x5 I L, fun r u k5 => by obtain ⟨rfl, rfl⟩ := k5; exact ⟨zl3, zl4, hc _ tX4_unlike_18 _ _ _ (⟨fun c3 => hc _ tX4_unlike_39 _ _ _ (hc _ tX4_unlike_42 _ _ _ (((h.2 c2).1 (zb_e c3)) P hw hc)), fun c4 => hc _ tX4_unlike_21 _ _ _ (hc _ tX4_unlike_22 _ _ _ (hc _ tX4_unlike_23 _ _ _ (⟨_, _, (shX4 h0), (geX4 h0), rfl, hc _ tX4_unlike_26 _ _ _ (hc _ tX4_unlike_28 _ _ _ (⟨_, _, _, (shX4_1 h0), Or.inl ⟨rfl, (geX4_1 h0)⟩, ((h.2 c2).2 (zb_n c4)).1, hc _ tX4_unlike_29 _ _ _ (hc _ tX4_unlike_30 _ _ _ (⟨_, _, (shX4 h1), (geX4 h1), rfl, hc _ tX4_unlike_33 _ _ _ (hc _ tX4_unlike_35 _ _ _ (⟨_, _, _, (shX4_1 h1), Or.inl ⟨rfl, (geX4_1 h1)⟩, ((h.2 c2).2 (zb_n c4)).1, hc _ tX4_unlike_36 _ _ _ (hc _ tX4_unlike_37 _ _ _ (hc _ tX4_unlike_38 _ _ _ (hc _ tX4_unlike_39 _ _ _ (hc _ tX4_unlike_42 _ _ _ (((h.2 c2).2 (zb_n c4)).2 P hw hc)))))⟩))⟩))⟩))⟩)))⟩)⟩⟩)))⟩)))
theorem ctX4_unlike {zn d : Nat} (k0 : Nat) (k1 : Nat) (x2 : Int32) (I : Nat → Nat → Int32) (L : Nat → Nat → Int64) (h0 : isX4 k0) (h1 : isX4 k1)  : zcal zty zcd false (d + 2) 39 [.ref k0, .ref k1, .int x2] (zSH zn, I, L) 0 0 (fun r u => r = some (.long (unl L k0 k1 x2 19)) ∧ u = (zSH zn, I, L)) := by
  have loop : ∀ (m i : Nat), i + m = 19 → RX4_unlike zn d (fun r u => r = some (.long (unl L k0 k1 x2 19)) ∧ u = (zSH zn, I, L)) 5 [some (.ref k0), some (.ref k1), some (.int x2), some (.long (unl L k0 k1 x2 i)), none, some (.int (nI i))] [] (zSH zn, I, L) := by
    intro m
    induction m with
    | zero =>
      intro i hi
      have hi4 : i = 19 := by omega
      subst hi4
      exact gX4_unlike_5 k0 k1 _ _ _ I L h0 h1 ⟨fun _ => ⟨rfl, rfl⟩, fun hc => absurd (by decide) hc⟩
    | succ m ih =>
      intro i hi
      have e0 : (nI i).toNatClampNeg = i := nI_clamp (by omega)
      have hih := ih (i + 1) (by omega)
      have hs : unl L k0 k1 x2 (i + 1) = if ¬ (x2 >>> (nI i &&& 31)) &&& 1 = 0 then unl L k0 k1 x2 i ||| ((L (k0 + 2) i) ^^^ (L (k1 + 2) i)) else unl L k0 k1 x2 i := rfl
      rw [hs] at hih
      refine gX4_unlike_5 k0 k1 _ _ _ I L h0 h1 ⟨fun hc => absurd hc (by rw [nl 19, nI_leI (by omega) (by omega)]; omega), fun _ => ⟨fun hc => ?_, fun hc => ⟨vin_nI (by omega) (by omega), ?_⟩⟩⟩
      · rw [if_neg hc] at hih
        rw [nI_1]; exact hih
      · rw [if_pos hc] at hih
        rw [nI_1, e0]; exact hih
  exact eX4_unlike k0 k1 _ I L h0 h1 (gX4_unlike_0 k0 k1 _ I L h0 h1 (loop 19 0 (by omega)))
abbrev RJ7_fill_d0a16 (zn d : Nat) (post : zP) : zK := zRun (zcal zty zcd false (d + 0)) kJ7_fill_d0a16 (zLM zn) post
theorem eJ7_fill_d0a16 {zn d : Nat} {post : zP} (k0 n0 : Nat) (x1 : Int64) (I : Nat → Nat → Int32) (L : Nat → Nat → Int64) (s0 : (zSH zn)[k0]? = some (1, n0, [])) (g0 : 5 ≤ k0) (h : RJ7_fill_d0a16 zn d post 0 [some (.ref k0), some (.long x1), none, none, none] [] (zSH zn, I, L)) : zcal zty zcd false (d + 1) 220 [.ref k0, .long x1] (zSH zn, I, L) 0 0 post := zcal_of (d := d + 0) zmt220 zmc220 rfl (Nat.le_of_ble_eq_true rfl) h
theorem gJ7_fill_d0a16_0 {zn d : Nat} {post : zP} (k0 n0 : Nat) (x1 : Int64) (I : Nat → Nat → Int32) (L : Nat → Nat → Int64) (s0 : (zSH zn)[k0]? = some (1, n0, [])) (g0 : 5 ≤ k0) (h : RJ7_fill_d0a16 zn d post 6 [some (.ref k0), some (.long x1), none, some (.int (0 : Int32)), some (.int (Int32.ofNat n0))] [] (zSH zn, I, L)) : RJ7_fill_d0a16 zn d post 0 [some (.ref k0), some (.long x1), none, none, none] [] (zSH zn, I, L) := fun P hw hc => hc _ tJ7_fill_d0a16_0 _ _ _ (hc _ tJ7_fill_d0a16_1 _ _ _ (hc _ tJ7_fill_d0a16_2 _ _ _ (hc _ tJ7_fill_d0a16_3 _ _ _ (⟨_, _, _, s0, Or.inr (Or.inl ⟨rfl, g0⟩), hc _ tJ7_fill_d0a16_4 _ _ _ (h P hw hc)⟩))))
theorem gJ7_fill_d0a16_6 {zn d : Nat} {post : zP} (k0 n0 : Nat) (x1 : Int64) (x3 : Int32) (x4 : Int32) (I : Nat → Nat → Int32) (L : Nat → Nat → Int64) (s0 : (zSH zn)[k0]? = some (1, n0, [])) (g0 : 5 ≤ k0) (h : (x4 ≤ x3 → post none (zSH zn, I, L)) ∧ (¬ x4 ≤ x3 → vp_in x3 n0 ∧ (RJ7_fill_d0a16 zn d post 6 [some (.ref k0), some (.long x1), none, some (.int (x3 + (1 : Int32))), some (.int x4)] [] (zSH zn, I, (zl L k0 (x3).toNatClampNeg x1))))) : RJ7_fill_d0a16 zn d post 6 [some (.ref k0), some (.long x1), none, some (.int x3), some (.int x4)] [] (zSH zn, I, L) := fun P hw hc => hc _ tJ7_fill_d0a16_6 _ _ _ (hc _ tJ7_fill_d0a16_7 _ _ _ (hc _ tJ7_fill_d0a16_9 _ _ _ (⟨fun c1 => hc _ tJ7_fill_d0a16_22 _ _ _ (⟨rfl, rfl, (h.1 c1)⟩), fun c2 => hc _ tJ7_fill_d0a16_12 _ _ _ (hc _ tJ7_fill_d0a16_13 _ _ _ (hc _ tJ7_fill_d0a16_14 _ _ _ (hc _ tJ7_fill_d0a16_15 _ _ _ (⟨_, _, s0, g0, (h.2 c2).1, hc _ tJ7_fill_d0a16_16 _ _ _ (hc _ tJ7_fill_d0a16_19 _ _ _ ((h.2 c2).2 P hw hc))⟩))))⟩)))
theorem ctJ7_fill_d0a16 {zn d : Nat} (k0 n0 : Nat) (x1 : Int64) (I : Nat → Nat → Int32) (L : Nat → Nat → Int64) (s0 : (zSH zn)[k0]? = some (1, n0, [])) (g0 : 5 ≤ k0) (q0 : n0 ≤ 1000) : zcal zty zcd false (d + 1) 220 [.ref k0, .long x1] (zSH zn, I, L) 0 0 (fun r u => ∃ (K : Nat → Nat → Int64), r = none ∧ u = (zSH zn, I, K) ∧ (fr [k0] L K ∧ ∀ i, i < n0 → K k0 i = x1)) := by
  have loop : ∀ (m i : Nat) (K : Nat → Nat → Int64), i + m = n0 → fr [k0] L K → (∀ j, j < i → K k0 j = x1) → RJ7_fill_d0a16 zn d (fun r u => ∃ (K : Nat → Nat → Int64), r = none ∧ u = (zSH zn, I, K) ∧ (fr [k0] L K ∧ ∀ i, i < n0 → K k0 i = x1)) 6 [some (.ref k0), some (.long x1), none, some (.int (nI i)), some (.int (Int32.ofNat n0))] [] (zSH zn, I, K) := by
    intro m
    induction m with
    | zero =>
      intro i K hi f1 f2
      exact gJ7_fill_d0a16_6 k0 n0 x1 _ _ I K s0 g0 ⟨fun _ => ⟨K, rfl, rfl, f1, fun j hj => f2 j (by omega)⟩, fun hc => absurd (by show nI n0 ≤ nI i; rw [nI_leI (by omega) (by omega)]; omega) hc⟩
    | succ m ih =>
      intro i K hi f1 f2
      have e0 : (nI i).toNatClampNeg = i := nI_clamp (by omega)
      refine gJ7_fill_d0a16_6 k0 n0 x1 _ _ I K s0 g0 ⟨fun hc => absurd hc (by show ¬ nI n0 ≤ nI i; rw [nI_leI (by omega) (by omega)]; omega), fun _ => ⟨vin_nI (by omega) (by omega), ?_⟩⟩
      rw [e0, nI_1]
      refine ih (i + 1) _ (by omega) (fr_trans f1 (fr_zl (by simp))) (fun j hj => ?_)
      rw [zl_at]
      by_cases hji : j = i
      · rw [if_pos ⟨rfl, hji⟩]
      · rw [if_neg (fun z => hji z.2)]; exact f2 j (by omega)
  exact eJ7_fill_d0a16 k0 n0 x1 I L s0 g0 (gJ7_fill_d0a16_0 k0 n0 x1 I L s0 g0 (loop n0 0 L (by omega) fr_rf (fun j hj => absurd hj (by omega))))
abbrev RJ7_fill_53178 (zn d : Nat) (post : zP) : zK := zRun (zcal zty zcd false (d + 0)) kJ7_fill_53178 (zLM zn) post
theorem eJ7_fill_53178 {zn d : Nat} {post : zP} (k0 n0 : Nat) (x1 : Int32) (I : Nat → Nat → Int32) (L : Nat → Nat → Int64) (s0 : (zSH zn)[k0]? = some (0, n0, [])) (g0 : 5 ≤ k0) (h : RJ7_fill_53178 zn d post 0 [some (.ref k0), some (.int x1), none, none] [] (zSH zn, I, L)) : zcal zty zcd false (d + 1) 221 [.ref k0, .int x1] (zSH zn, I, L) 0 0 post := zcal_of (d := d + 0) zmt221 zmc221 rfl (Nat.le_of_ble_eq_true rfl) h
theorem gJ7_fill_53178_0 {zn d : Nat} {post : zP} (k0 n0 : Nat) (x1 : Int32) (I : Nat → Nat → Int32) (L : Nat → Nat → Int64) (s0 : (zSH zn)[k0]? = some (0, n0, [])) (g0 : 5 ≤ k0) (h : RJ7_fill_53178 zn d post 5 [some (.ref k0), some (.int x1), some (.int (0 : Int32)), some (.int (Int32.ofNat n0))] [] (zSH zn, I, L)) : RJ7_fill_53178 zn d post 0 [some (.ref k0), some (.int x1), none, none] [] (zSH zn, I, L) := fun P hw hc => hc _ tJ7_fill_53178_0 _ _ _ (hc _ tJ7_fill_53178_1 _ _ _ (hc _ tJ7_fill_53178_2 _ _ _ (hc _ tJ7_fill_53178_3 _ _ _ (⟨_, _, _, s0, Or.inl ⟨rfl, g0⟩, hc _ tJ7_fill_53178_4 _ _ _ (h P hw hc)⟩))))
theorem gJ7_fill_53178_5 {zn d : Nat} {post : zP} (k0 n0 : Nat) (x1 : Int32) (x2 : Int32) (x3 : Int32) (I : Nat → Nat → Int32) (L : Nat → Nat → Int64) (s0 : (zSH zn)[k0]? = some (0, n0, [])) (g0 : 5 ≤ k0) (h : (x3 ≤ x2 → post none (zSH zn, I, L)) ∧ (¬ x3 ≤ x2 → vp_in x2 n0 ∧ (RJ7_fill_53178 zn d post 5 [some (.ref k0), some (.int x1), some (.int (x2 + (1 : Int32))), some (.int x3)] [] (zSH zn, (zi I k0 (x2).toNatClampNeg x1), L)))) : RJ7_fill_53178 zn d post 5 [some (.ref k0), some (.int x1), some (.int x2), some (.int x3)] [] (zSH zn, I, L) := fun P hw hc => hc _ tJ7_fill_53178_5 _ _ _ (hc _ tJ7_fill_53178_6 _ _ _ (hc _ tJ7_fill_53178_7 _ _ _ (⟨fun c1 => hc _ tJ7_fill_53178_20 _ _ _ (⟨rfl, rfl, (h.1 c1)⟩), fun c2 => hc _ tJ7_fill_53178_10 _ _ _ (hc _ tJ7_fill_53178_11 _ _ _ (hc _ tJ7_fill_53178_12 _ _ _ (hc _ tJ7_fill_53178_13 _ _ _ (⟨_, _, s0, g0, (h.2 c2).1, hc _ tJ7_fill_53178_14 _ _ _ (hc _ tJ7_fill_53178_17 _ _ _ ((h.2 c2).2 P hw hc))⟩))))⟩)))
theorem ctJ7_fill_53178 {zn d : Nat} (k0 n0 : Nat) (x1 : Int32) (I : Nat → Nat → Int32) (L : Nat → Nat → Int64) (s0 : (zSH zn)[k0]? = some (0, n0, [])) (g0 : 5 ≤ k0) (q0 : n0 ≤ 1000) : zcal zty zcd false (d + 1) 221 [.ref k0, .int x1] (zSH zn, I, L) 0 0 (fun r u => ∃ (J : Nat → Nat → Int32), r = none ∧ u = (zSH zn, J, L) ∧ (fr [k0] I J ∧ ∀ i, i < n0 → J k0 i = x1)) := by
  have loop : ∀ (m i : Nat) (K : Nat → Nat → Int32), i + m = n0 → fr [k0] I K → (∀ j, j < i → K k0 j = x1) → RJ7_fill_53178 zn d (fun r u => ∃ (K : Nat → Nat → Int32), r = none ∧ u = (zSH zn, K, L) ∧ (fr [k0] I K ∧ ∀ i, i < n0 → K k0 i = x1)) 5 [some (.ref k0), some (.int x1), some (.int (nI i)), some (.int (Int32.ofNat n0))] [] (zSH zn, K, L) := by
    intro m
    induction m with
    | zero =>
      intro i K hi f1 f2
      exact gJ7_fill_53178_5 k0 n0 x1 _ _ K L s0 g0 ⟨fun _ => ⟨K, rfl, rfl, f1, fun j hj => f2 j (by omega)⟩, fun hc => absurd (by show nI n0 ≤ nI i; rw [nI_leI (by omega) (by omega)]; omega) hc⟩
    | succ m ih =>
      intro i K hi f1 f2
      have e0 : (nI i).toNatClampNeg = i := nI_clamp (by omega)
      refine gJ7_fill_53178_5 k0 n0 x1 _ _ K L s0 g0 ⟨fun hc => absurd hc (by show ¬ nI n0 ≤ nI i; rw [nI_leI (by omega) (by omega)]; omega), fun _ => ⟨vin_nI (by omega) (by omega), ?_⟩⟩
      rw [e0, nI_1]
      refine ih (i + 1) _ (by omega) (fr_trans f1 (fr_zi (by simp))) (fun j hj => ?_)
      rw [zi_at]
      by_cases hji : j = i
      · rw [if_pos ⟨rfl, hji⟩]
      · rw [if_neg (fun z => hji z.2)]; exact f2 j (by omega)
  exact eJ7_fill_53178 k0 n0 x1 I L s0 g0 (gJ7_fill_53178_0 k0 n0 x1 I L s0 g0 (loop n0 0 I (by omega) fr_rf (fun j hj => absurd hj (by omega))))
/-- one name is STUCK in all lanes -/
def stk1 (L K : Nat → Nat → Int64) (k0 nm : Nat) (v : Int32) : Prop := fr [k0 + 3, k0 + 4] L K ∧ ∀ n, n < 19 → (K (k0 + 3) n = if n = nm ∧ v = 0 then -1 else 0) ∧ (K (k0 + 4) n = if n = nm ∧ ¬ v = 0 then -1 else 0)
abbrev RX4_stickOne (zn d : Nat) (post : zP) : zK := zRun (zcal zty zcd false (d + 1)) kX4_stickOne (zLM zn) post
theorem eX4_stickOne {zn d : Nat} {post : zP} (k0 : Nat) (x1 : Int32) (x2 : Int32) (I : Nat → Nat → Int32) (L : Nat → Nat → Int64) (h0 : isX4 k0) (h : RX4_stickOne zn d post 0 [some (.ref k0), some (.int x1), some (.int x2)] [] (zSH zn, I, L)) : zcal zty zcd false (d + 2) 30 [.ref k0, .int x1, .int x2] (zSH zn, I, L) 0 0 post := zcal_of (d := d + 1) zmt30 zmc30 rfl (Nat.le_of_ble_eq_true rfl) h
theorem gX4_stickOne_0 {zn d : Nat} {post : zP} (k0 : Nat) (x1 : Int32) (x2 : Int32) (I : Nat → Nat → Int32) (L : Nat → Nat → Int64) (h0 : isX4 k0) (h : (19 ≤ 1000) ∧ (∀ (K1 : Nat → Nat → Int64), (fr [(k0 + 3)] L K1 ∧ ∀ i, i < 19 → K1 (k0 + 3) i = (0 : Int64)) → (19 ≤ 1000) ∧ (∀ (K3 : Nat → Nat → Int64), (fr [(k0 + 4)] K1 K3 ∧ ∀ i, i < 19 → K3 (k0 + 4) i = (0 : Int64)) → (¬ ((0 ≤ x1 ∧ x1 < (19 : Int32))) → post none (zSH zn, I, K3)) ∧ ((0 ≤ x1 ∧ x1 < (19 : Int32)) → (¬ x2 = 0 → vp_in x1 19 ∧ ((¬ x2 = 0 → post none (zSH zn, I, (zl (zl K3 (k0 + 3) (x1).toNatClampNeg (0 : Int64)) (k0 + 4) (x1).toNatClampNeg (-1 : Int64)))) ∧ (x2 = 0 → post none (zSH zn, I, (zl (zl K3 (k0 + 3) (x1).toNatClampNeg (0 : Int64)) (k0 + 4) (x1).toNatClampNeg (0 : Int64)))))) ∧ (x2 = 0 → vp_in x1 19 ∧ ((¬ x2 = 0 → post none (zSH zn, I, (zl (zl K3 (k0 + 3) (x1).toNatClampNeg (-1 : Int64)) (k0 + 4) (x1).toNatClampNeg (-1 : Int64)))) ∧ (x2 = 0 → post none (zSH zn, I, (zl (zl K3 (k0 + 3) (x1).toNatClampNeg (-1 : Int64)) (k0 + 4) (x1).toNatClampNeg (0 : Int64)))))))))) : RX4_stickOne zn d post 0 [some (.ref k0), some (.int x1), some (.int x2)] [] (zSH zn, I, L) := fun P hw hc => hc _ tX4_stickOne_0 _ _ _ (hc _ tX4_stickOne_1 _ _ _ (⟨_, _, (shX4 h0), (geX4 h0), rfl, hc _ tX4_stickOne_4 _ _ _ (hc _ tX4_stickOne_5 _ _ _ (⟨Nat.le_of_ble_eq_true rfl, Nat.le_of_ble_eq_true rfl, zl1, zl2, _, ctJ7_fill_d0a16 (k0 + 3) 19 (0 : Int64) I L (shX4_2 h0) (geX4_2 h0) h.1, fun r u k15 => by obtain ⟨K1, rfl, rfl, p2⟩ := k15; exact ⟨zl3, zl4, hc _ tX4_stickOne_8 _ _ _ (hc _ tX4_stickOne_9 _ _ _ (⟨_, _, (shX4 h0), (geX4 h0), rfl, hc _ tX4_stickOne_12 _ _ _ (hc _ tX4_stickOne_13 _ _ _ (⟨Nat.le_of_ble_eq_true rfl, Nat.le_of_ble_eq_true rfl, zl1, zl2, _, ctJ7_fill_d0a16 (k0 + 4) 19 (0 : Int64) I K1 (shX4_3 h0) (geX4_3 h0) ((h.2 K1 p2).1), fun r u k14 => by obtain ⟨K3, rfl, rfl, p4⟩ := k14; exact ⟨zl3, zl4, hc _ tX4_stickOne_16 _ _ _ (hc _ tX4_stickOne_17 _ _ _ (hc _ tX4_stickOne_19 _ _ _ (⟨Nat.le_of_ble_eq_true rfl, Nat.le_of_ble_eq_true rfl, zl1, zl2, _, ctX11_isBelow x1 (19 : Int32) I K3, fun r u k13 => by obtain ⟨rfl, rfl⟩ := k13; exact ⟨zl3, zl4, hc _ tX4_stickOne_22 _ _ _ (⟨fun c5 => hc _ tX4_stickOne_59 _ _ _ (⟨rfl, rfl, (((h.2 K1 p2).2 K3 p4).1 (zb_e c5))⟩), fun c6 => hc _ tX4_stickOne_25 _ _ _ (hc _ tX4_stickOne_26 _ _ _ (⟨_, _, (shX4 h0), (geX4 h0), rfl, hc _ tX4_stickOne_29 _ _ _ (hc _ tX4_stickOne_30 _ _ _ (hc _ tX4_stickOne_31 _ _ _ (⟨fun c7 => hc _ tX4_stickOne_40 _ _ _ (hc _ tX4_stickOne_41 _ _ _ (⟨_, _, (shX4_2 h0), (geX4_2 h0), ((((h.2 K1 p2).2 K3 p4).2 (zb_n c6)).1 c7).1, hc _ tX4_stickOne_42 _ _ _ (hc _ tX4_stickOne_43 _ _ _ (⟨_, _, (shX4 h0), (geX4 h0), rfl, hc _ tX4_stickOne_46 _ _ _ (hc _ tX4_stickOne_47 _ _ _ (hc _ tX4_stickOne_48 _ _ _ (⟨fun c9 => hc _ tX4_stickOne_55 _ _ _ (hc _ tX4_stickOne_58 _ _ _ (⟨_, _, (shX4_3 h0), (geX4_3 h0), ((((h.2 K1 p2).2 K3 p4).2 (zb_n c6)).1 c7).1, hc _ tX4_stickOne_59 _ _ _ (⟨rfl, rfl, (((((h.2 K1 p2).2 K3 p4).2 (zb_n c6)).1 c7).2.1 c9)⟩)⟩)), fun c10 => hc _ tX4_stickOne_51 _ _ _ (hc _ tX4_stickOne_52 _ _ _ (hc _ tX4_stickOne_58 _ _ _ (⟨_, _, (shX4_3 h0), (geX4_3 h0), ((((h.2 K1 p2).2 K3 p4).2 (zb_n c6)).1 c7).1, hc _ tX4_stickOne_59 _ _ _ (⟨rfl, rfl, (((((h.2 K1 p2).2 K3 p4).2 (zb_n c6)).1 c7).2.2 c10)⟩)⟩)))⟩)))⟩))⟩)), fun c8 => hc _ tX4_stickOne_34 _ _ _ (hc _ tX4_stickOne_37 _ _ _ (hc _ tX4_stickOne_41 _ _ _ (⟨_, _, (shX4_2 h0), (geX4_2 h0), ((((h.2 K1 p2).2 K3 p4).2 (zb_n c6)).2 c8).1, hc _ tX4_stickOne_42 _ _ _ (hc _ tX4_stickOne_43 _ _ _ (⟨_, _, (shX4 h0), (geX4 h0), rfl, hc _ tX4_stickOne_46 _ _ _ (hc _ tX4_stickOne_47 _ _ _ (hc _ tX4_stickOne_48 _ _ _ (⟨fun c11 => hc _ tX4_stickOne_55 _ _ _ (hc _ tX4_stickOne_58 _ _ _ (⟨_, _, (shX4_3 h0), (geX4_3 h0), ((((h.2 K1 p2).2 K3 p4).2 (zb_n c6)).2 c8).1, hc _ tX4_stickOne_59 _ _ _ (⟨rfl, rfl, (((((h.2 K1 p2).2 K3 p4).2 (zb_n c6)).2 c8).2.1 c11)⟩)⟩)), fun c12 => hc _ tX4_stickOne_51 _ _ _ (hc _ tX4_stickOne_52 _ _ _ (hc _ tX4_stickOne_58 _ _ _ (⟨_, _, (shX4_3 h0), (geX4_3 h0), ((((h.2 K1 p2).2 K3 p4).2 (zb_n c6)).2 c8).1, hc _ tX4_stickOne_59 _ _ _ (⟨rfl, rfl, (((((h.2 K1 p2).2 K3 p4).2 (zb_n c6)).2 c8).2.2 c12)⟩)⟩)))⟩)))⟩))⟩)))⟩)))⟩))⟩)⟩⟩)))⟩⟩))⟩))⟩⟩))⟩))
theorem ctX4_stickOne {zn d : Nat} (k0 : Nat) (x1 : Int32) (x2 : Int32) (I : Nat → Nat → Int32) (L : Nat → Nat → Int64) (h0 : isX4 k0) (q0 : zs x1 18) : zcal zty zcd false (d + 2) 30 [.ref k0, .int x1, .int x2] (zSH zn, I, L) 0 0 (fun r u => ∃ (K : Nat → Nat → Int64), r = none ∧ u = (zSH zn, I, K) ∧ (stk1 L K k0 (tn x1) x2)) := by
  obtain ⟨n, hn, rfl⟩ := q0
  have e : tn (nI n) = n := tn_nI (by omega)
  have e' : (nI n).toNatClampNeg = n := e
  have hv : vp_in (nI n) 19 := vin_nI (by omega) (by omega)
  have hr : (0 : Int32) ≤ nI n ∧ nI n < 19 := ⟨by rw [nl 0, nI_leI (by omega) (by omega)]; omega, by rw [nl 19, nI_ltI (by omega) (by omega)]; omega⟩
  rw [e]
  refine eX4_stickOne k0 _ x2 I L h0 (gX4_stickOne_0 k0 _ x2 I L h0 ⟨by decide, fun K1 hK1 => ⟨by decide, fun K2 hK2 => ⟨fun hc => absurd hr hc, fun _ => ⟨fun hx => ⟨hv, fun _ => ?_, fun z => absurd z hx⟩, fun hx => ⟨hv, fun z => absurd hx z, fun _ => ?_⟩⟩⟩⟩⟩)
  all_goals
    rw [e']
    refine ⟨_, rfl, rfl, ?_, fun j hj => ⟨?_, ?_⟩⟩
    · intro j hj
      simp only [List.mem_cons, List.not_mem_nil, or_false, not_or] at hj
      rw [zl_ne hj.2, zl_ne hj.1, hK2.1 j (by simp [hj.2]), hK1.1 j (by simp [hj.1])]
    · rw [zl_ne (by omega), zl_at, hK2.1 (k0 + 3) (by simp), hK1.2 j hj]
      by_cases hjn : j = n <;> simp [hjn, hx]
    · rw [zl_at, zl_ne (by omega), hK2.2 j hj]
      by_cases hjn : j = n <;> simp [hjn, hx]

