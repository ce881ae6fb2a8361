/-! PLACES are SWAPPED -/
def sw (a b : Nat) (p : Nat → Nat) (i : Nat) : Nat := if p i = a then b else if p i = b then a else p i
theorem swp_2 (a b q : Nat) : (if (if q = a then b else if q = b then a else q) = a then b else if (if q = a then b else if q = b then a else q) = b then a else (if q = a then b else if q = b then a else q)) = q := by
  by_cases h1 : q = a <;> by_cases h2 : q = b <;> by_cases h3 : b = a <;> simp_all
theorem sw_2 {a b : Nat} (p : Nat → Nat) (i : Nat) : sw a b (sw a b p) i = p i := swp_2 a b (p i)
theorem sw_lt {a b : Nat} {p : Nat → Nat} (ha : a < 8) (hb : b < 8) {i : Nat} (h : p i < 8) : sw a b p i < 8 := by
  unfold sw
  split
  · exact hb
  · split
    · exact ha
    · exact h
theorem sw_inj {a b B : Nat} {p : Nat → Nat} (h : inj p B) : inj (sw a b p) B := by
  intro i j hi hj e
  have := congrArg (fun q : Nat => if q = a then b else if q = b then a else q) e
  have h1 : sw a b (sw a b p) i = sw a b (sw a b p) j := this
  rw [sw_2, sw_2] at h1
  exact h i j hi hj h1
abbrev RX1_exchange (zn d : Nat) (post : zP) : zK := zRun (zcal zty zcd false (d + 0)) kX1_exchange (zLM zn) post
theorem eX1_exchange {zn d : Nat} {post : zP} (x1 : Int32) (x2 : Int32) (I : Nat → Nat → Int32) (L : Nat → Nat → Int64) (h : RX1_exchange zn d post 0 [some (.ref 67), some (.int x1), some (.int x2), none] [] (zSH zn, I, L)) : zcal zty zcd false (d + 1) 20 [.ref 67, .int x1, .int x2] (zSH zn, I, L) 0 0 post := zcal_of (d := d + 0) zmt20 zmc20 rfl (Nat.le_of_ble_eq_true rfl) h
theorem gX1_exchange_0 {zn d : Nat} {post : zP} (x1 : Int32) (x2 : Int32) (I : Nat → Nat → Int32) (L : Nat → Nat → Int64) (h : RX1_exchange zn d post 2 [some (.ref 67), some (.int x1), some (.int x2), some (.int (0 : Int32))] [] (zSH zn, I, L)) : RX1_exchange zn d post 0 [some (.ref 67), some (.int x1), some (.int x2), none] [] (zSH zn, I, L) := fun P hw hc => hc _ tX1_exchange_0 _ _ _ (hc _ tX1_exchange_1 _ _ _ (h P hw hc))
theorem gX1_exchange_2 {zn d : Nat} {post : zP} (x1 : Int32) (x2 : Int32) (x3 : Int32) (I : Nat → Nat → Int32) (L : Nat → Nat → Int64) (h : ((I 67 2) ≤ x3 → post none (zSH zn, I, L)) ∧ (¬ (I 67 2) ≤ x3 → vp_in x3 7 ∧ ((¬ (I 68 (x3).toNatClampNeg) = x1 → (¬ (I 68 (x3).toNatClampNeg) = x2 → RX1_exchange zn d post 2 [some (.ref 67), some (.int x1), some (.int x2), some (.int (x3 + (1 : Int32)))] [] (zSH zn, I, L)) ∧ ((I 68 (x3).toNatClampNeg) = x2 → RX1_exchange zn d post 2 [some (.ref 67), some (.int x1), some (.int x2), some (.int (x3 + (1 : Int32)))] [] (zSH zn, (zi I 68 (x3).toNatClampNeg x1), L))) ∧ ((I 68 (x3).toNatClampNeg) = x1 → RX1_exchange zn d post 2 [some (.ref 67), some (.int x1), some (.int x2), some (.int (x3 + (1 : Int32)))] [] (zSH zn, (zi I 68 (x3).toNatClampNeg x2), L))))) : RX1_exchange zn d post 2 [some (.ref 67), some (.int x1), some (.int x2), some (.int x3)] [] (zSH zn, I, L) := fun P hw hc => hc _ tX1_exchange_2 _ _ _ (hc _ tX1_exchange_3 _ _ _ (hc _ tX1_exchange_4 _ _ _ (⟨_, sh67, (by decide), hc _ tX1_exchange_7 _ _ _ (⟨fun c1 => hc _ tX1_exchange_53 _ _ _ (⟨rfl, rfl, (h.1 c1)⟩), fun c2 => hc _ tX1_exchange_10 _ _ _ (hc _ tX1_exchange_11 _ _ _ (⟨_, _, sh67, (by decide), rfl, hc _ tX1_exchange_14 _ _ _ (hc _ tX1_exchange_15 _ _ _ (⟨_, _, _, sh68, Or.inl ⟨rfl, (by decide)⟩, (h.2 c2).1, hc _ tX1_exchange_16 _ _ _ (hc _ tX1_exchange_17 _ _ _ (⟨fun c3 => hc _ tX1_exchange_30 _ _ _ (hc _ tX1_exchange_31 _ _ _ (⟨_, _, sh67, (by decide), rfl, hc _ tX1_exchange_34 _ _ _ (hc _ tX1_exchange_35 _ _ _ (⟨_, _, _, sh68, Or.inl ⟨rfl, (by decide)⟩, (h.2 c2).1, hc _ tX1_exchange_36 _ _ _ (hc _ tX1_exchange_37 _ _ _ (⟨fun c5 => hc _ tX1_exchange_47 _ _ _ (hc _ tX1_exchange_50 _ _ _ ((((h.2 c2).2.1 c3).1 c5) P hw hc)), fun c6 => hc _ tX1_exchange_40 _ _ _ (hc _ tX1_exchange_41 _ _ _ (⟨_, _, sh67, (by decide), rfl, hc _ tX1_exchange_44 _ _ _ (hc _ tX1_exchange_45 _ _ _ (hc _ tX1_exchange_46 _ _ _ (⟨_, _, sh68, (by decide), (h.2 c2).1, hc _ tX1_exchange_47 _ _ _ (hc _ tX1_exchange_50 _ _ _ ((((h.2 c2).2.1 c3).2 c6) P hw hc))⟩)))⟩))⟩))⟩))⟩)), fun c4 => hc _ tX1_exchange_20 _ _ _ (hc _ tX1_exchange_21 _ _ _ (⟨_, _, sh67, (by decide), rfl, hc _ tX1_exchange_24 _ _ _ (hc _ tX1_exchange_25 _ _ _ (hc _ tX1_exchange_26 _ _ _ (⟨_, _, sh68, (by decide), (h.2 c2).1, hc _ tX1_exchange_27 _ _ _ (hc _ tX1_exchange_47 _ _ _ (hc _ tX1_exchange_50 _ _ _ (((h.2 c2).2.2 c4) P hw hc)))⟩)))⟩))⟩))⟩))⟩))⟩)⟩)))
theorem ctX1_exchange {zn d : Nat} (x1 : Int32) (x2 : Int32) (I : Nat → Nat → Int32) (L : Nat → Nat → Int64) (B : Nat) (p : Nat → Nat) (q0 : I 67 2 = nI B ∧ B ≤ 7) (q1 : plC I 68 B p) : zcal zty zcd false (d + 1) 20 [.ref 67, .int x1, .int x2] (zSH zn, I, L) 0 0 (fun r u => ∃ (J : Nat → Nat → Int32), r = none ∧ u = (zSH zn, J, L) ∧ (fr [68] I J ∧ ∀ b, b < B → J 68 b = if nI (p b) = x1 then x2 else if nI (p b) = x2 then x1 else nI (p b))) := by
  obtain ⟨eB, hB⟩ := q0
  have loop : ∀ n J, n ≤ B → (fr [68] I J ∧ (∀ b, b < n → J 68 b = if nI (p b) = x1 then x2 else if nI (p b) = x2 then x1 else nI (p b)) ∧ ∀ b, n ≤ b → J 68 b = I 68 b) → RX1_exchange zn d (fun r u => ∃ (J : Nat → Nat → Int32), r = none ∧ u = (zSH zn, J, L) ∧ (fr [68] I J ∧ ∀ b, b < B → J 68 b = if nI (p b) = x1 then x2 else if nI (p b) = x2 then x1 else nI (p b))) 2 [some (.ref 67), some (.int x1), some (.int x2), some (.int (nI n))] [] (zSH zn, J, L) := by
    refine zup (fun J hJ => ?_) (fun n J hn hJ ih => ?_)
    · exact gX1_exchange_2 _ _ _ J L ⟨fun _ => ⟨J, rfl, rfl, hJ.1, hJ.2.1⟩, fun hc => absurd (by rw [hJ.1 67 (by decide), eB, nI_leI (by omega) (by omega)]; exact Nat.le_refl _) hc⟩
    · obtain ⟨f1, f2, f3⟩ := hJ
      refine gX1_exchange_2 _ _ _ J L ⟨fun hc => absurd hc (by rw [f1 67 (by decide), eB, nI_leI (by omega) (by omega)]; omega), fun _ => ⟨vin_nI (by omega) (by omega), ?_⟩⟩
      have ep : J 68 n = nI (p n) := by rw [f3 n (Nat.le_refl _)]; exact (q1 n hn).1
      rw [nI_clamp (by omega), ep, nI_1]
      have key : ∀ v, v = (if nI (p n) = x1 then x2 else if nI (p n) = x2 then x1 else nI (p n)) → (fr [68] I (zi J 68 n v) ∧ (∀ b, b < n + 1 → (zi J 68 n v) 68 b = if nI (p b) = x1 then x2 else if nI (p b) = x2 then x1 else nI (p b)) ∧ ∀ b, n + 1 ≤ b → (zi J 68 n v) 68 b = I 68 b) := fun v hv => by
        refine ⟨fr_trans f1 (fr_zi (by decide)), fun b hb => ?_, fun b hb => ?_⟩
        · rw [zi_at]
          by_cases hbn : b = n
          · rw [if_pos ⟨rfl, hbn⟩, hv, hbn]
          · rw [if_neg (fun z => hbn z.2)]; exact f2 b (by omega)
        · rw [zi_at, if_neg (by omega)]; exact f3 b (by omega)
      refine ⟨fun h => ⟨fun h2 => ih J ⟨f1, fun b hb => ?_, fun b hb => f3 b (by omega)⟩, fun h2 => ih _ (key _ (by rw [if_neg h, if_pos h2]))⟩, fun h => ih _ (key _ (by rw [if_pos h]))⟩
      by_cases hbn : b = n
      · rw [hbn, ep, if_neg h, if_neg h2]
      · exact f2 b (by omega)
  exact eX1_exchange _ _ I L (gX1_exchange_0 _ _ I L (loop 0 I (Nat.zero_le _) ⟨fr_rf, fun b hb => absurd hb (by omega), fun _ _ => rfl⟩))
theorem sw_nI {a b q : Nat} (ha : a < 8) (hb : b < 8) (hq : q < 8) : (if nI q = nI a then nI b else if nI q = nI b then nI a else nI q) = nI (if q = a then b else if q = b then a else q) := by
  have : ∀ a, a < 8 → ∀ b, b < 8 → ∀ q, q < 8 → (if nI q = nI a then nI b else if nI q = nI b then nI a else nI q) = nI (if q = a then b else if q = b then a else q) := by decide +kernel
  exact this a ha b hb q hq
abbrev RX12_change (zn d : Nat) (post : zP) : zK := zRun (zcal zty zcd false (d + 0)) kX12_change (zLM zn) post
theorem eX12_change {zn d : Nat} {post : zP} (x1 : Int32) (x2 : Int32) (I : Nat → Nat → Int32) (L : Nat → Nat → Int64) (h : RX12_change zn d post 0 [some (.ref 115), some (.int x1), some (.int x2), none] [] (zSH zn, I, L)) : zcal zty zcd false (d + 1) 195 [.ref 115, .int x1, .int x2] (zSH zn, I, L) 0 0 post := zcal_of (d := d + 0) zmt195 zmc195 rfl (Nat.le_of_ble_eq_true rfl) h
theorem gX12_change_0 {zn d : Nat} {post : zP} (x1 : Int32) (x2 : Int32) (I : Nat → Nat → Int32) (L : Nat → Nat → Int64) (h : RX12_change zn d post 2 [some (.ref 115), some (.int x1), some (.int x2), some (.int (0 : Int32))] [] (zSH zn, I, L)) : RX12_change zn d post 0 [some (.ref 115), some (.int x1), some (.int x2), none] [] (zSH zn, I, L) := fun P hw hc => hc _ tX12_change_0 _ _ _ (hc _ tX12_change_1 _ _ _ (h P hw hc))
theorem gX12_change_2 {zn d : Nat} {post : zP} (x1 : Int32) (x2 : Int32) (x3 : Int32) (I : Nat → Nat → Int32) (L : Nat → Nat → Int64) (h : ((I 115 27) ≤ x3 → post none (zSH zn, I, L)) ∧ (¬ (I 115 27) ≤ x3 → vp_in x3 7 ∧ ((¬ (I 139 (x3).toNatClampNeg) = x1 → (¬ (I 139 (x3).toNatClampNeg) = x2 → RX12_change zn d post 2 [some (.ref 115), some (.int x1), some (.int x2), some (.int (x3 + (1 : Int32)))] [] (zSH zn, (zi I 141 (x3).toNatClampNeg (I 139 (x3).toNatClampNeg)), L)) ∧ ((I 139 (x3).toNatClampNeg) = x2 → RX12_change zn d post 2 [some (.ref 115), some (.int x1), some (.int x2), some (.int (x3 + (1 : Int32)))] [] (zSH zn, (zi I 141 (x3).toNatClampNeg x1), L))) ∧ ((I 139 (x3).toNatClampNeg) = x1 → RX12_change zn d post 2 [some (.ref 115), some (.int x1), some (.int x2), some (.int (x3 + (1 : Int32)))] [] (zSH zn, (zi I 141 (x3).toNatClampNeg x2), L))))) : RX12_change zn d post 2 [some (.ref 115), some (.int x1), some (.int x2), some (.int x3)] [] (zSH zn, I, L) := fun P hw hc => hc _ tX12_change_2 _ _ _ (hc _ tX12_change_3 _ _ _ (hc _ tX12_change_4 _ _ _ (⟨_, sh115, (by decide), hc _ tX12_change_7 _ _ _ (⟨fun c1 => hc _ tX12_change_56 _ _ _ (⟨rfl, rfl, (h.1 c1)⟩), fun c2 => hc _ tX12_change_10 _ _ _ (hc _ tX12_change_11 _ _ _ (⟨_, _, sh115, (by decide), rfl, hc _ tX12_change_14 _ _ _ (hc _ tX12_change_15 _ _ _ (hc _ tX12_change_16 _ _ _ (⟨_, _, sh115, (by decide), rfl, hc _ tX12_change_19 _ _ _ (hc _ tX12_change_20 _ _ _ (⟨_, _, _, sh139, Or.inl ⟨rfl, (by decide)⟩, (h.2 c2).1, hc _ tX12_change_21 _ _ _ (hc _ tX12_change_22 _ _ _ (⟨fun c3 => hc _ tX12_change_29 _ _ _ (hc _ tX12_change_30 _ _ _ (⟨_, _, sh115, (by decide), rfl, hc _ tX12_change_33 _ _ _ (hc _ tX12_change_34 _ _ _ (⟨_, _, _, sh139, Or.inl ⟨rfl, (by decide)⟩, (h.2 c2).1, hc _ tX12_change_35 _ _ _ (hc _ tX12_change_36 _ _ _ (⟨fun c5 => hc _ tX12_change_43 _ _ _ (hc _ tX12_change_44 _ _ _ (⟨_, _, sh115, (by decide), rfl, hc _ tX12_change_47 _ _ _ (hc _ tX12_change_48 _ _ _ (⟨_, _, _, sh139, Or.inl ⟨rfl, (by decide)⟩, (h.2 c2).1, hc _ tX12_change_49 _ _ _ (⟨_, _, sh141, (by decide), (h.2 c2).1, hc _ tX12_change_50 _ _ _ (hc _ tX12_change_53 _ _ _ ((((h.2 c2).2.1 c3).1 c5) P hw hc))⟩)⟩))⟩)), fun c6 => hc _ tX12_change_39 _ _ _ (hc _ tX12_change_40 _ _ _ (hc _ tX12_change_49 _ _ _ (⟨_, _, sh141, (by decide), (h.2 c2).1, hc _ tX12_change_50 _ _ _ (hc _ tX12_change_53 _ _ _ ((((h.2 c2).2.1 c3).2 c6) P hw hc))⟩)))⟩))⟩))⟩)), fun c4 => hc _ tX12_change_25 _ _ _ (hc _ tX12_change_26 _ _ _ (hc _ tX12_change_49 _ _ _ (⟨_, _, sh141, (by decide), (h.2 c2).1, hc _ tX12_change_50 _ _ _ (hc _ tX12_change_53 _ _ _ (((h.2 c2).2.2 c4) P hw hc))⟩)))⟩))⟩))⟩)))⟩))⟩)⟩)))
theorem ctX12_change {zn d : Nat} (x1 : Int32) (x2 : Int32) (I : Nat → Nat → Int32) (L : Nat → Nat → Int64) (B : Nat) (p : Nat → Nat) (a : Nat) (b : Nat) (q0 : I 115 27 = nI B ∧ B ≤ 7) (q1 : plC I 139 B p) (q2 : x1 = nI a ∧ a < 8) (q3 : x2 = nI b ∧ b < 8) : zcal zty zcd false (d + 1) 195 [.ref 115, .int x1, .int x2] (zSH zn, I, L) 0 0 (fun r u => ∃ (J : Nat → Nat → Int32), r = none ∧ u = (zSH zn, J, L) ∧ (fr [141] I J ∧ plC J 141 B (sw a b p))) := by
  obtain ⟨eB, hB⟩ := q0
  obtain ⟨rfl, ha⟩ := q2
  obtain ⟨rfl, hb⟩ := q3
  have loop : ∀ n J, n ≤ B → (fr [141] I J ∧ plC J 141 n (sw a b p)) → RX12_change zn d (fun r u => ∃ (J : Nat → Nat → Int32), r = none ∧ u = (zSH zn, J, L) ∧ (fr [141] I J ∧ plC J 141 B (sw a b p))) 2 [some (.ref 115), some (.int (nI a)), some (.int (nI b)), some (.int (nI n))] [] (zSH zn, J, L) := by
    refine zup (fun J hJ => ?_) (fun n J hn hJ ih => ?_)
    · exact gX12_change_2 _ _ _ J L ⟨fun _ => ⟨J, rfl, rfl, hJ.1, hJ.2⟩, fun hc => absurd (by rw [hJ.1 115 (by decide), eB, nI_leI (by omega) (by omega)]; exact Nat.le_refl _) hc⟩
    · obtain ⟨f1, f2⟩ := hJ
      refine gX12_change_2 _ _ _ J L ⟨fun hc => absurd hc (by rw [f1 115 (by decide), eB, nI_leI (by omega) (by omega)]; omega), fun _ => ⟨vin_nI (by omega) (by omega), ?_⟩⟩
      have hp := q1 n hn
      rw [nI_clamp (by omega), f1 139 (by decide), hp.1, nI_1]
      have key : ∀ v, v = nI (sw a b p n) → (fr [141] I (zi J 141 n v) ∧ plC (zi J 141 n v) 141 (n + 1) (sw a b p)) := fun v hv => by
        refine ⟨fr_trans f1 (fr_zi (by decide)), fun i hi => ?_⟩
        rw [zi_at]
        by_cases hin : i = n
        · rw [if_pos ⟨rfl, hin⟩, hv, hin]; exact ⟨rfl, sw_lt ha hb hp.2⟩
        · rw [if_neg (fun z => hin z.2)]; exact f2 i (by omega)
      have es : nI (sw a b p n) = (if nI (p n) = nI a then nI b else if nI (p n) = nI b then nI a else nI (p n)) := (sw_nI ha hb hp.2).symm
      exact ⟨fun h => ⟨fun h2 => ih _ (key _ (by rw [es, if_neg h, if_neg h2])), fun h2 => ih _ (key _ (by rw [es, if_neg h, if_pos h2]))⟩, fun h => ih _ (key _ (by rw [es, if_pos h]))⟩
  exact eX12_change _ _ I L (gX12_change_0 _ _ I L (loop 0 I (Nat.zero_le _) ⟨fr_rf, fun b hb => absurd hb (by omega)⟩))
/-- of all pairs, in their order, the first with the least WIRE -/
def stW (B M : Nat) (nb p : Nat → Nat) (s : Nat × Option (Nat × Nat)) (a b : Nat) : Nat × Option (Nat × Nat) := if wa B M nb (sw a b p) < s.1 then (wa B M nb (sw a b p), some (a, b)) else s
def scn (B M : Nat) (nb p : Nat → Nat) : Nat → Nat × Option (Nat × Nat)
  | 0 => (wa B M nb p, none)
  | t + 1 => if t / 8 < t % 8 then stW B M nb p (scn B M nb p t) (t / 8) (t % 8) else scn B M nb p t
theorem scn_skip {B M : Nat} {nb p : Nat → Nat} {a : Nat} (ha : a < 8) : ∀ j, j ≤ a + 1 → scn B M nb p (8 * a + j) = scn B M nb p (8 * a)
  | 0, _ => rfl
  | j + 1, hj => by
    rw [← Nat.add_assoc, scn, if_neg (by omega)]
    exact scn_skip ha j (by omega)
theorem scn_s {B M : Nat} {nb p : Nat → Nat} {a b : Nat} (hab : a < b) (hb : b < 8) : scn B M nb p (8 * a + b + 1) = stW B M nb p (scn B M nb p (8 * a + b)) a b := by
  rw [scn, show (8 * a + b) / 8 = a by omega, show (8 * a + b) % 8 = b by omega, if_pos hab]
def okO (B M : Nat) (nb p : Nat → Nat) (s : Nat × Option (Nat × Nat)) : Prop := match s.2 with
  | none => s.1 = wa B M nb p
  | some (a, b) => a < 8 ∧ b < 8 ∧ s.1 = wa B M nb (sw a b p) ∧ wa B M nb (sw a b p) < wa B M nb p
theorem okO_s {B M : Nat} {nb p : Nat → Nat} {s : Nat × Option (Nat × Nat)} {a b : Nat} (h : okO B M nb p s) (h2 : s.2 = some (a, b)) : a < 8 ∧ b < 8 ∧ s.1 = wa B M nb (sw a b p) ∧ wa B M nb (sw a b p) < wa B M nb p := by
  unfold okO at h
  rw [h2] at h
  exact h
theorem scn_inv (B M : Nat) (nb p : Nat → Nat) : ∀ t, t ≤ 64 → (scn B M nb p t).1 ≤ wa B M nb p ∧ okO B M nb p (scn B M nb p t)
  | 0, _ => ⟨Nat.le_refl _, rfl⟩
  | t + 1, ht => by
    have ih := scn_inv B M nb p t (by omega)
    unfold scn
    by_cases h : t / 8 < t % 8
    · rw [if_pos h]
      unfold stW
      by_cases h2 : wa B M nb (sw (t / 8) (t % 8) p) < (scn B M nb p t).1
      · rw [if_pos h2]
        exact ⟨by dsimp only; omega, by omega, by omega, rfl, by omega⟩
      · rw [if_neg h2]; exact ih
    · rw [if_neg h]; exact ih
def oA (o : Option (Nat × Nat)) : Int32 := match o with
  | none => -4
  | some (a, _) => nI a
def oB (o : Option (Nat × Nat)) (z : Int32) : Int32 := match o with
  | none => z
  | some (_, b) => nI b
def nxp (p : Nat → Nat) (o : Option (Nat × Nat)) : Nat → Nat := match o with
  | none => p
  | some (a, b) => sw a b p
def bst (B M : Nat) (nb p : Nat → Nat) : Option (Nat × Nat) := (scn B M nb p 64).2
theorem bst_s {B M : Nat} {nb p : Nat → Nat} {a b : Nat} (h : bst B M nb p = some (a, b)) : a < 8 ∧ b < 8 ∧ wa B M nb (sw a b p) < wa B M nb p := by
  have key := scn_inv B M nb p 64 (Nat.le_refl 64)
  unfold bst at h
  generalize scn B M nb p 64 = s at key h
  have h1 := okO_s key.2 h
  exact ⟨h1.1, h1.2.1, h1.2.2.2⟩
abbrev RX1_swapBest (zn d : Nat) (post : zP) : zK := zRun (zcal zty zcd false (d + 4)) kX1_swapBest (zLM zn) post
theorem eX1_swapBest {zn d : Nat} {post : zP} (I : Nat → Nat → Int32) (L : Nat → Nat → Int64) (h : RX1_swapBest zn d post 0 [some (.ref 67), none, none, none, none, none, none] [] (zSH zn, I, L)) : zcal zty zcd false (d + 5) 19 [.ref 67] (zSH zn, I, L) 0 0 post := zcal_of (d := d + 4) zmt19 zmc19 rfl (Nat.le_of_ble_eq_true rfl) h
theorem gX1_swapBest_0 {zn d : Nat} {post : zP} (I : Nat → Nat → Int32) (L : Nat → Nat → Int64) (h : (∃ (B1 : Nat) (M2 : Nat) (p3 : Nat → Nat) (nb4 : Nat → Nat), (I 67 2 = nI B1 ∧ B1 ≤ 7) ∧ (I 67 3 = nI M2 ∧ M2 ≤ 8) ∧ (plC I 68 B1 p3) ∧ (ntC I 69 M2 nb4) ∧ (RX1_swapBest zn d post 14 [some (.ref 67), some (.int (nI (wa B1 M2 nb4 p3))), some (.int (-4 : Int32)), some (.int (-4 : Int32)), some (.int (0 : Int32)), none, none] [] (zSH zn, I, L)))) : RX1_swapBest zn d post 0 [some (.ref 67), none, none, none, none, none, none] [] (zSH zn, I, L) := fun P hw hc => hc _ tX1_swapBest_0 _ _ _ ((by obtain ⟨B1, M2, p3, nb4, hg5⟩ := h; exact hc _ tX1_swapBest_1 _ _ _ (⟨⟨_, _, _, rfl, (by decide), sh67⟩, ⟨Nat.le_of_ble_eq_true rfl, Nat.le_of_ble_eq_true rfl, zl1, zl2, _, ctX1_wireOfAll I L B1 M2 p3 nb4 hg5.1 hg5.2.1 hg5.2.2.1 hg5.2.2.2.1, fun r u k6 => by obtain ⟨rfl, rfl⟩ := k6; exact ⟨zl3, zl4, hc _ tX1_swapBest_4 _ _ _ (hc _ tX1_swapBest_5 _ _ _ (hc _ tX1_swapBest_7 _ _ _ (hc _ tX1_swapBest_8 _ _ _ (hc _ tX1_swapBest_10 _ _ _ (hc _ tX1_swapBest_11 _ _ _ (hc _ tX1_swapBest_12 _ _ _ (hg5.2.2.2.2 P hw hc)))))))⟩⟩⟩)))
theorem gX1_swapBest_14 {zn d : Nat} {post : zP} (x1 : Int32) (x2 : Int32) (x3 : Int32) (x4 : Int32) (I : Nat → Nat → Int32) (L : Nat → Nat → Int64) (h : ((8 : Int32) ≤ x4 → (∃ (B4 : Nat) (p5 : Nat → Nat), (I 67 2 = nI B4 ∧ B4 ≤ 7) ∧ (plC I 68 B4 p5) ∧ (∀ (J3 : Nat → Nat → Int32), (fr [68] I J3 ∧ ∀ b, b < B4 → J3 68 b = if nI (p5 b) = x2 then x3 else if nI (p5 b) = x3 then x2 else nI (p5 b)) → (x2 = (-4 : Int32) → post (some (.int (0 : Int32))) (zSH zn, J3, L)) ∧ (¬ x2 = (-4 : Int32) → post (some (.int (1 : Int32))) (zSH zn, J3, L))))) ∧ (¬ (8 : Int32) ≤ x4 → RX1_swapBest zn d post 27 [some (.ref 67), some (.int x1), some (.int x2), some (.int x3), some (.int x4), some (.int (x4 + (1 : Int32))), none] [] (zSH zn, I, L))) : RX1_swapBest zn d post 14 [some (.ref 67), some (.int x1), some (.int x2), some (.int x3), some (.int x4), none, none] [] (zSH zn, I, L) := fun P hw hc => hc _ tX1_swapBest_14 _ _ _ (hc _ tX1_swapBest_16 _ _ _ (hc _ tX1_swapBest_18 _ _ _ (⟨fun c1 => hc _ tX1_swapBest_83 _ _ _ (hc _ tX1_swapBest_84 _ _ _ (hc _ tX1_swapBest_85 _ _ _ ((by obtain ⟨B4, p5, hg6⟩ := (h.1 c1); exact hc _ tX1_swapBest_86 _ _ _ (⟨⟨_, _, _, rfl, (by decide), sh67⟩, ⟨Nat.le_of_ble_eq_true rfl, Nat.le_of_ble_eq_true rfl, zl1, zl2, _, ctX1_exchange x2 x3 I L B4 p5 hg6.1 hg6.2.1, fun r u k10 => by obtain ⟨J3, rfl, rfl, p7⟩ := k10; exact ⟨zl3, zl4, hc _ tX1_swapBest_89 _ _ _ (hc _ tX1_swapBest_90 _ _ _ (hc _ tX1_swapBest_92 _ _ _ (⟨fun c8 => hc _ tX1_swapBest_99 _ _ _ (hc _ tX1_swapBest_100 _ _ _ (⟨fun _ => by decide, rfl, rfl, ((hg6.2.2 J3 p7).1 c8)⟩)), fun c9 => hc _ tX1_swapBest_95 _ _ _ (hc _ tX1_swapBest_96 _ _ _ (hc _ tX1_swapBest_100 _ _ _ (⟨fun _ => by decide, rfl, rfl, ((hg6.2.2 J3 p7).2 c9)⟩)))⟩)))⟩⟩⟩))))), fun c2 => hc _ tX1_swapBest_21 _ _ _ (hc _ tX1_swapBest_23 _ _ _ (hc _ tX1_swapBest_24 _ _ _ (hc _ tX1_swapBest_25 _ _ _ ((h.2 c2) P hw hc))))⟩)))
theorem gX1_swapBest_27 {zn d : Nat} {post : zP} (x1 : Int32) (x2 : Int32) (x3 : Int32) (x4 : Int32) (x5 : Int32) (I : Nat → Nat → Int32) (L : Nat → Nat → Int64) (h : ((8 : Int32) ≤ x5 → RX1_swapBest zn d post 14 [some (.ref 67), some (.int x1), some (.int x2), some (.int x3), some (.int (x4 + (1 : Int32))), none, none] [] (zSH zn, I, L)) ∧ (¬ (8 : Int32) ≤ x5 → (∃ (B4 : Nat) (p5 : Nat → Nat), (I 67 2 = nI B4 ∧ B4 ≤ 7) ∧ (plC I 68 B4 p5) ∧ (∀ (J3 : Nat → Nat → Int32), (fr [68] I J3 ∧ ∀ b, b < B4 → J3 68 b = if nI (p5 b) = x4 then x5 else if nI (p5 b) = x5 then x4 else nI (p5 b)) → (∃ (B8 : Nat) (M9 : Nat) (p10 : Nat → Nat) (nb11 : Nat → Nat), (J3 67 2 = nI B8 ∧ B8 ≤ 7) ∧ (J3 67 3 = nI M9 ∧ M9 ≤ 8) ∧ (plC J3 68 B8 p10) ∧ (ntC J3 69 M9 nb11) ∧ ((∃ (B14 : Nat) (p15 : Nat → Nat), (J3 67 2 = nI B14 ∧ B14 ≤ 7) ∧ (plC J3 68 B14 p15) ∧ (∀ (J13 : Nat → Nat → Int32), (fr [68] J3 J13 ∧ ∀ b, b < B14 → J13 68 b = if nI (p15 b) = x4 then x5 else if nI (p15 b) = x5 then x4 else nI (p15 b)) → (x1 ≤ (nI (wa B8 M9 nb11 p10)) → RX1_swapBest zn d post 27 [some (.ref 67), some (.int x1), some (.int x2), some (.int x3), some (.int x4), some (.int (x5 + (1 : Int32))), none] [] (zSH zn, J13, L)) ∧ (¬ x1 ≤ (nI (wa B8 M9 nb11 p10)) → RX1_swapBest zn d post 27 [some (.ref 67), some (.int (nI (wa B8 M9 nb11 p10))), some (.int x4), some (.int x5), some (.int x4), some (.int (x5 + (1 : Int32))), none] [] (zSH zn, J13, L)))))))))) : RX1_swapBest zn d post 27 [some (.ref 67), some (.int x1), some (.int x2), some (.int x3), some (.int x4), some (.int x5), none] [] (zSH zn, I, L) := fun P hw hc => hc _ tX1_swapBest_27 _ _ _ (hc _ tX1_swapBest_29 _ _ _ (hc _ tX1_swapBest_31 _ _ _ (⟨fun c1 => hc _ tX1_swapBest_77 _ _ _ (hc _ tX1_swapBest_80 _ _ _ (hw _ _ _ _ _ (zwk_s (zwk_s (zwk_s (zwk_s (zwk_s (zwk_n (zwk_s zwk_nil))))))) ((h.1 c1) P hw hc))), fun c2 => hc _ tX1_swapBest_34 _ _ _ (hc _ tX1_swapBest_35 _ _ _ (hc _ tX1_swapBest_37 _ _ _ ((by obtain ⟨B4, p5, hg6⟩ := (h.2 c2); exact hc _ tX1_swapBest_39 _ _ _ (⟨⟨_, _, _, rfl, (by decide), sh67⟩, ⟨Nat.le_of_ble_eq_true rfl, Nat.le_of_ble_eq_true rfl, zl1, zl2, _, ctX1_exchange x4 x5 I L B4 p5 hg6.1 hg6.2.1, fun r u k22 => by obtain ⟨J3, rfl, rfl, p7⟩ := k22; exact ⟨zl3, zl4, hc _ tX1_swapBest_42 _ _ _ ((by obtain ⟨B8, M9, p10, nb11, hg12⟩ := (hg6.2.2 J3 p7); exact hc _ tX1_swapBest_43 _ _ _ (⟨⟨_, _, _, rfl, (by decide), sh67⟩, ⟨Nat.le_of_ble_eq_true rfl, Nat.le_of_ble_eq_true rfl, zl1, zl2, _, ctX1_wireOfAll J3 L B8 M9 p10 nb11 hg12.1 hg12.2.1 hg12.2.2.1 hg12.2.2.2.1, fun r u k21 => by obtain ⟨rfl, rfl⟩ := k21; exact ⟨zl3, zl4, hc _ tX1_swapBest_46 _ _ _ (hc _ tX1_swapBest_48 _ _ _ (hc _ tX1_swapBest_49 _ _ _ (hc _ tX1_swapBest_51 _ _ _ ((by obtain ⟨B14, p15, hg16⟩ := hg12.2.2.2.2; exact hc _ tX1_swapBest_53 _ _ _ (⟨⟨_, _, _, rfl, (by decide), sh67⟩, ⟨Nat.le_of_ble_eq_true rfl, Nat.le_of_ble_eq_true rfl, zl1, zl2, _, ctX1_exchange x4 x5 J3 L B14 p15 hg16.1 hg16.2.1, fun r u k20 => by obtain ⟨J13, rfl, rfl, p17⟩ := k20; exact ⟨zl3, zl4, hc _ tX1_swapBest_56 _ _ _ (hc _ tX1_swapBest_58 _ _ _ (hc _ tX1_swapBest_59 _ _ _ (⟨fun c18 => hc _ tX1_swapBest_71 _ _ _ (hc _ tX1_swapBest_74 _ _ _ (hw _ _ _ _ _ (zwk_s (zwk_s (zwk_s (zwk_s (zwk_s (zwk_s (zwk_n zwk_nil))))))) (((hg16.2.2 J13 p17).1 c18) P hw hc))), fun c19 => hc _ tX1_swapBest_62 _ _ _ (hc _ tX1_swapBest_64 _ _ _ (hc _ tX1_swapBest_65 _ _ _ (hc _ tX1_swapBest_67 _ _ _ (hc _ tX1_swapBest_68 _ _ _ (hc _ tX1_swapBest_70 _ _ _ (hc _ tX1_swapBest_71 _ _ _ (hc _ tX1_swapBest_74 _ _ _ (hw _ _ _ _ _ (zwk_s (zwk_s (zwk_s (zwk_s (zwk_s (zwk_s (zwk_n zwk_nil))))))) (((hg16.2.2 J13 p17).2 c19) P hw hc)))))))))⟩)))⟩⟩⟩))))))⟩⟩⟩)))⟩⟩⟩)))))⟩)))
theorem exc_pl {I J : Nat → Nat → Int32} {B a b : Nat} {p : Nat → Nat} (hp : plC I 68 B p) (ha : a < 8) (hb : b < 8) (h : ∀ i, i < B → J 68 i = if nI (p i) = nI a then nI b else if nI (p i) = nI b then nI a else nI (p i)) : plC J 68 B (sw a b p) := fun i hi => by
  rw [h i hi, sw_nI ha hb (hp i hi).2]
  exact ⟨rfl, sw_lt ha hb (hp i hi).2⟩
theorem ctX1_swapBest {zn d : Nat} (I : Nat → Nat → Int32) (L : Nat → Nat → Int64) (B : Nat) (M : Nat) (p : Nat → Nat) (nb : Nat → Nat) (q0 : I 67 2 = nI B ∧ B ≤ 7) (q1 : I 67 3 = nI M ∧ M ≤ 8) (q2 : plC I 68 B p) (q3 : ntC I 69 M nb) : zcal zty zcd false (d + 5) 19 [.ref 67] (zSH zn, I, L) 0 0 (fun r u => ∃ (J : Nat → Nat → Int32), r = some (.int (if bst B M nb p ≠ none then 1 else 0)) ∧ u = (zSH zn, J, L) ∧ (fr [68] I J ∧ plC J 68 B (nxp p (bst B M nb p)))) := by
  obtain ⟨eB, hB⟩ := id q0
  obtain ⟨eM, hM⟩ := id q1
  have hle : wa B M nb p ≤ 4 * M := wa_le (fun b hb => (q2 b hb).2)
  have hscn : ∀ t, t ≤ 64 → (scn B M nb p t).1 ≤ 32 := fun t ht => by have := (scn_inv B M nb p t ht).1; omega
  have inv : ∀ J, fr [68] I J → (J 67 2 = nI B ∧ B ≤ 7) ∧ (J 67 3 = nI M ∧ M ≤ 8) ∧ ntC J 69 M nb := fun J hJ => ⟨⟨by rw [hJ 67 (by decide)]; exact eB, hB⟩, ⟨by rw [hJ 67 (by decide)]; exact eM, hM⟩, fun k hk => by rw [hJ 69 (by decide)]; exact q3 k hk⟩
  have outer : ∀ a J, a ≤ 8 → (fr [68] I J ∧ plC J 68 B p) → RX1_swapBest zn d (fun r u => ∃ (J : Nat → Nat → Int32), r = some (.int (if bst B M nb p ≠ none then 1 else 0)) ∧ u = (zSH zn, J, L) ∧ (fr [68] I J ∧ plC J 68 B (nxp p (bst B M nb p)))) 14 [some (.ref 67), some (.int (nI (scn B M nb p (8 * a)).1)), some (.int (oA (scn B M nb p (8 * a)).2)), some (.int (oB (scn B M nb p (8 * a)).2 (-4))), some (.int (nI a)), none, none] [] (zSH zn, J, L) := by
    refine zup (fun J hJ => ?_) (fun a J ha hJ ih => ?_)
    · refine gX1_swapBest_14 _ _ _ _ J L ⟨fun _ => ⟨B, p, (inv J hJ.1).1, hJ.2, fun K ⟨k1, k2⟩ => ?_⟩, fun hc => absurd (by decide) hc⟩
      change ∀ b, b < B → K 68 b = if nI (p b) = oA (bst B M nb p) then oB (bst B M nb p) (-4) else if nI (p b) = oB (bst B M nb p) (-4) then oA (bst B M nb p) else nI (p b) at k2
      show (oA (bst B M nb p) = -4 → _) ∧ (¬ oA (bst B M nb p) = -4 → _)
      cases hbst : bst B M nb p with
      | none =>
        rw [hbst] at k2
        refine ⟨fun _ => ⟨K, by rw [if_neg (fun z => z rfl)], rfl, fr_trans hJ.1 k1, fun b hb => ?_⟩, fun z => absurd rfl z⟩
        have hp := hJ.2 b hb
        have hn4 : nI (p b) ≠ -4 := nI_n4 (by omega)
        rw [k2 b hb]
        show (if nI (p b) = -4 then (-4 : Int32) else if nI (p b) = -4 then -4 else nI (p b)) = _ ∧ _
        rw [if_neg hn4, if_neg hn4]
        exact ⟨rfl, hp.2⟩
      | some ab =>
        obtain ⟨a, b⟩ := ab
        rw [hbst] at k2
        obtain ⟨ha, hb, -⟩ := bst_s hbst
        refine ⟨fun z => absurd z (nI_n4 (i := a) (by omega)), fun _ => ⟨K, by rw [if_pos (by simp)], rfl, fr_trans hJ.1 k1, exc_pl hJ.2 ha hb k2⟩⟩
    · refine gX1_swapBest_14 _ _ _ _ J L ⟨fun hc => absurd hc (by rw [nl 8, nI_leI (by decide) (by omega)]; omega), fun _ => ?_⟩
      have inner : ∀ b K, b ≤ 8 → (a < b ∧ fr [68] I K ∧ plC K 68 B p) → RX1_swapBest zn d (fun r u => ∃ (J : Nat → Nat → Int32), r = some (.int (if bst B M nb p ≠ none then 1 else 0)) ∧ u = (zSH zn, J, L) ∧ (fr [68] I J ∧ plC J 68 B (nxp p (bst B M nb p)))) 27 [some (.ref 67), some (.int (nI (scn B M nb p (8 * a + b)).1)), some (.int (oA (scn B M nb p (8 * a + b)).2)), some (.int (oB (scn B M nb p (8 * a + b)).2 (-4))), some (.int (nI a)), some (.int (nI b)), none] [] (zSH zn, K, L) := by
        refine zup (fun K hK => ?_) (fun b K hb hK ihb => ?_)
        · refine gX1_swapBest_27 _ _ _ _ _ K L ⟨fun _ => ?_, fun hc => absurd (by decide) hc⟩
          rw [nI_1]
          have := ih K hK.2
          rw [show 8 * (a + 1) = 8 * a + 8 by omega] at this
          exact this
        · obtain ⟨hab, k1, k2⟩ := hK
          refine gX1_swapBest_27 _ _ _ _ _ K L ⟨fun hc => absurd hc (by rw [nl 8, nI_leI (by decide) (by omega)]; omega), fun _ => ⟨B, p, (inv K k1).1, k2, fun K1 ⟨m1, m2⟩ => ?_⟩⟩
          have f1 := fr_trans k1 m1
          have pl1 : plC K1 68 B (sw a b p) := exc_pl k2 (by omega) hb m2
          obtain ⟨i1, i2, i3⟩ := inv K1 f1
          refine ⟨B, M, sw a b p, nb, i1, i2, pl1, i3, B, sw a b p, i1, pl1, fun K2 ⟨n1, n2⟩ => ?_⟩
          have pl2 : plC K2 68 B p := fun i hi => by
            have := exc_pl pl1 (a := a) (b := b) (by omega) hb n2 i hi
            rw [sw_2] at this
            exact this
          have hih := ihb K2 ⟨by omega, fr_trans f1 n1, pl2⟩
          have hw : wa B M nb (sw a b p) ≤ 4 * M := wa_le (fun i hi => (pl1 i hi).2)
          have hs := hscn (8 * a + b) (by omega)
          rw [← Nat.add_assoc, scn_s hab hb, stW] at hih
          rw [nI_leI (by omega) (by omega), nI_1]
          refine ⟨fun h => ?_, fun h => ?_⟩
          · rw [if_neg (show ¬ wa B M nb (sw a b p) < (scn B M nb p (8 * a + b)).1 by omega)] at hih; exact hih
          · rw [if_pos (show wa B M nb (sw a b p) < (scn B M nb p (8 * a + b)).1 by omega)] at hih; exact hih
      rw [nI_1]
      have := inner (a + 1) J (by omega) ⟨by omega, hJ⟩
      rw [scn_skip ha (a + 1) (Nat.le_refl _)] at this
      exact this
  exact eX1_swapBest I L (gX1_swapBest_0 I L ⟨B, M, p, nb, q0, q1, q2, q3, outer 0 I (by decide) ⟨fr_rf, q2⟩⟩)
def swG (p : Nat → Nat) (rec : (Nat → Nat) → Nat × (Nat → Nat)) (o : Option (Nat × Nat)) : Nat × (Nat → Nat) := match o with
  | none => (0, p)
  | some (a, b) => ((rec (sw a b p)).1 + 1, (rec (sw a b p)).2)
def swF (B M : Nat) (nb : Nat → Nat) : Nat → (Nat → Nat) → Nat × (Nat → Nat)
  | 0, p => (0, p)
  | f + 1, p => swG p (swF B M nb f) (bst B M nb p)
theorem swF_e (B M : Nat) (nb : Nat → Nat) (f : Nat) (p : Nat → Nat) : swF B M nb (f + 1) p = swG p (swF B M nb f) (bst B M nb p) := rfl
theorem swF_n {B M : Nat} {nb p : Nat → Nat} {f : Nat} (h : bst B M nb p = none) : swF B M nb f p = (0, p) := by
  cases f with
  | zero => rfl
  | succ f => rw [swF_e, h]; rfl
theorem swF_s {B M : Nat} {nb p : Nat → Nat} {f a b : Nat} (h : bst B M nb p = some (a, b)) : swF B M nb (f + 1) p = ((swF B M nb f (sw a b p)).1 + 1, (swF B M nb f (sw a b p)).2) := by
  rw [swF_e, h]; rfl
abbrev RX1_swapWhileItHelps (zn d : Nat) (post : zP) : zK := zRun (zcal zty zcd false (d + 5)) kX1_swapWhileItHelps (zLM zn) post
theorem eX1_swapWhileItHelps {zn d : Nat} {post : zP} (I : Nat → Nat → Int32) (L : Nat → Nat → Int64) (h : RX1_swapWhileItHelps zn d post 0 [some (.ref 67), none] [] (zSH zn, I, L)) : zcal zty zcd false (d + 6) 18 [.ref 67] (zSH zn, I, L) 0 0 post := zcal_of (d := d + 5) zmt18 zmc18 rfl (Nat.le_of_ble_eq_true rfl) h
theorem gX1_swapWhileItHelps_0 {zn d : Nat} {post : zP} (I : Nat → Nat → Int32) (L : Nat → Nat → Int64) (h : RX1_swapWhileItHelps zn d post 2 [some (.ref 67), some (.int (0 : Int32))] [] (zSH zn, I, L)) : RX1_swapWhileItHelps zn d post 0 [some (.ref 67), none] [] (zSH zn, I, L) := fun P hw hc => hc _ tX1_swapWhileItHelps_0 _ _ _ (hc _ tX1_swapWhileItHelps_1 _ _ _ (h P hw hc))
theorem gX1_swapWhileItHelps_2 {zn d : Nat} {post : zP} (x1 : Int32) (I : Nat → Nat → Int32) (L : Nat → Nat → Int64) (h : ((1000 : Int32) ≤ x1 → post (some (.int (1000 : Int32))) (zSH zn, I, L)) ∧ (¬ (1000 : Int32) ≤ x1 → (∃ (B4 : Nat) (M5 : Nat) (p6 : Nat → Nat) (nb7 : Nat → Nat), (I 67 2 = nI B4 ∧ B4 ≤ 7) ∧ (I 67 3 = nI M5 ∧ M5 ≤ 8) ∧ (plC I 68 B4 p6) ∧ (ntC I 69 M5 nb7) ∧ (∀ (J3 : Nat → Nat → Int32), (fr [68] I J3 ∧ plC J3 68 B4 (nxp p6 (bst B4 M5 nb7 p6))) → ((bst B4 M5 nb7 p6 ≠ none) → RX1_swapWhileItHelps zn d post 2 [some (.ref 67), some (.int (x1 + (1 : Int32)))] [] (zSH zn, J3, L)) ∧ (¬ ((bst B4 M5 nb7 p6 ≠ none)) → post (some (.int x1)) (zSH zn, J3, L)))))) : RX1_swapWhileItHelps zn d post 2 [some (.ref 67), some (.int x1)] [] (zSH zn, I, L) := fun P hw hc => hc _ tX1_swapWhileItHelps_2 _ _ _ (hc _ tX1_swapWhileItHelps_3 _ _ _ (hc _ tX1_swapWhileItHelps_6 _ _ _ (⟨fun c1 => hc _ tX1_swapWhileItHelps_24 _ _ _ (hc _ tX1_swapWhileItHelps_27 _ _ _ (⟨nofun, rfl, rfl, (h.1 c1)⟩)), fun c2 => hc _ tX1_swapWhileItHelps_9 _ _ _ ((by obtain ⟨B4, M5, p6, nb7, hg8⟩ := (h.2 c2); exact hc _ tX1_swapWhileItHelps_10 _ _ _ (⟨⟨_, _, _, rfl, (by decide), sh67⟩, ⟨Nat.le_of_ble_eq_true rfl, Nat.le_of_ble_eq_true rfl, zl1, zl2, _, ctX1_swapBest I L B4 M5 p6 nb7 hg8.1 hg8.2.1 hg8.2.2.1 hg8.2.2.2.1, fun r u k12 => by obtain ⟨J3, rfl, rfl, p9⟩ := k12; exact ⟨zl3, zl4, hc _ tX1_swapWhileItHelps_13 _ _ _ (⟨fun c10 => hc _ tX1_swapWhileItHelps_18 _ _ _ (hc _ tX1_swapWhileItHelps_21 _ _ _ (((hg8.2.2.2.2 J3 p9).1 (zb_n c10)) P hw hc)), fun c11 => hc _ tX1_swapWhileItHelps_16 _ _ _ (hc _ tX1_swapWhileItHelps_17 _ _ _ (⟨nofun, rfl, rfl, ((hg8.2.2.2.2 J3 p9).2 (zb_e c11))⟩))⟩)⟩⟩⟩)))⟩)))
theorem ctX1_swapWhileItHelps {zn d : Nat} (I : Nat → Nat → Int32) (L : Nat → Nat → Int64) (B : Nat) (M : Nat) (p : Nat → Nat) (nb : Nat → Nat) (q0 : I 67 2 = nI B ∧ B ≤ 7) (q1 : I 67 3 = nI M ∧ M ≤ 8) (q2 : plC I 68 B p) (q3 : ntC I 69 M nb) : zcal zty zcd false (d + 6) 18 [.ref 67] (zSH zn, I, L) 0 0 (fun r u => ∃ (J : Nat → Nat → Int32), r = some (.int (nI (swF B M nb 40 p).1)) ∧ u = (zSH zn, J, L) ∧ (fr [68] I J ∧ plC J 68 B (swF B M nb 40 p).2)) := by
  obtain ⟨eB, hB⟩ := id q0
  obtain ⟨eM, hM⟩ := id q1
  have inv : ∀ J, fr [68] I J → (J 67 2 = nI B ∧ B ≤ 7) ∧ (J 67 3 = nI M ∧ M ≤ 8) ∧ ntC J 69 M nb := fun J hJ => ⟨⟨by rw [hJ 67 (by decide)]; exact eB, hB⟩, ⟨by rw [hJ 67 (by decide)]; exact eM, hM⟩, fun k hk => by rw [hJ 69 (by decide)]; exact q3 k hk⟩
  have loop : ∀ (f k : Nat) (q : Nat → Nat) (J : Nat → Nat → Int32), wa B M nb q < f → k + wa B M nb q ≤ 32 → fr [68] I J → plC J 68 B q → k + (swF B M nb f q).1 = (swF B M nb 40 p).1 → (swF B M nb f q).2 = (swF B M nb 40 p).2 → RX1_swapWhileItHelps zn d (fun r u => ∃ (J : Nat → Nat → Int32), r = some (.int (nI (swF B M nb 40 p).1)) ∧ u = (zSH zn, J, L) ∧ (fr [68] I J ∧ plC J 68 B (swF B M nb 40 p).2)) 2 [some (.ref 67), some (.int (nI k))] [] (zSH zn, J, L) := by
    intro f
    induction f with
    | zero => intro k q J h; omega
    | succ f ih =>
      intro k q J hf hk j1 j2 e1 e2
      obtain ⟨i1, i2, i3⟩ := inv J j1
      refine gX1_swapWhileItHelps_2 _ J L ⟨fun hc => absurd hc (by rw [nl 1000, nI_leI (by decide) (by omega)]; omega), fun _ => ⟨B, M, q, nb, i1, i2, j2, i3, fun K ⟨k1, k2⟩ => ?_⟩⟩
      cases hb : bst B M nb q with
      | none =>
        rw [swF_n hb] at e1 e2
        rw [hb] at k2
        refine ⟨fun z => absurd rfl z, fun _ => ⟨K, ?_, rfl, fr_trans j1 k1, ?_⟩⟩
        · rw [← e1]; rfl
        · rw [← e2]; exact k2
      | some ab =>
        obtain ⟨a, b⟩ := ab
        obtain ⟨ha, hb8, hlt⟩ := bst_s hb
        rw [swF_s hb] at e1 e2
        rw [hb] at k2
        refine ⟨fun _ => ?_, fun z => absurd (by simp) z⟩
        rw [nI_1]
        exact ih (k + 1) (sw a b q) K (by omega) (by omega) (fr_trans j1 k1) k2 (by rw [← e1]; dsimp only; omega) e2
  have hw : wa B M nb p ≤ 4 * M := wa_le (fun b hb => (q2 b hb).2)
  exact eX1_swapWhileItHelps I L (gX1_swapWhileItHelps_0 I L (loop 40 0 p I (by omega) (by omega) fr_rf q2 (Nat.zero_add _) rfl))
abbrev RX11_swap (zn d : Nat) (post : zP) : zK := zRun (zcal zty zcd false (d + 6)) kX11_swap (zLM zn) post
theorem eX11_swap {zn d : Nat} {post : zP} (I : Nat → Nat → Int32) (L : Nat → Nat → Int64) (h : RX11_swap zn d post 0 [some (.ref 5)] [] (zSH zn, I, L)) : zcal zty zcd false (d + 7) 115 [.ref 5] (zSH zn, I, L) 0 0 post := zcal_of (d := d + 6) zmt115 zmc115 rfl (Nat.le_of_ble_eq_true rfl) h
theorem gX11_swap_0 {zn d : Nat} {post : zP} (I : Nat → Nat → Int32) (L : Nat → Nat → Int64) (h : (∃ (B2 : Nat) (M3 : Nat) (p4 : Nat → Nat) (nb5 : Nat → Nat), (I 67 2 = nI B2 ∧ B2 ≤ 7) ∧ (I 67 3 = nI M3 ∧ M3 ≤ 8) ∧ (plC I 68 B2 p4) ∧ (ntC I 69 M3 nb5) ∧ (∀ (J1 : Nat → Nat → Int32), (fr [68] I J1 ∧ plC J1 68 B2 (swF B2 M3 nb5 40 p4).2) → post (some (.int (nI (swF B2 M3 nb5 40 p4).1))) (zSH zn, J1, L)))) : RX11_swap zn d post 0 [some (.ref 5)] [] (zSH zn, I, L) := fun P hw hc => hc _ tX11_swap_0 _ _ _ (hc _ tX11_swap_1 _ _ _ (⟨_, _, sh5, (by decide), rfl, (by obtain ⟨B2, M3, p4, nb5, hg6⟩ := h; exact hc _ tX11_swap_4 _ _ _ (⟨⟨_, _, _, rfl, (by decide), sh67⟩, ⟨Nat.le_of_ble_eq_true rfl, Nat.le_of_ble_eq_true rfl, zl1, zl2, _, ctX1_swapWhileItHelps I L B2 M3 p4 nb5 hg6.1 hg6.2.1 hg6.2.2.1 hg6.2.2.2.1, fun r u k8 => by obtain ⟨J1, rfl, rfl, p7⟩ := k8; exact ⟨zl3, zl4, hc _ tX11_swap_7 _ _ _ (⟨nofun, rfl, rfl, (hg6.2.2.2.2 J1 p7)⟩)⟩⟩⟩))⟩))
theorem ctX11_swap {zn d : Nat} (I : Nat → Nat → Int32) (L : Nat → Nat → Int64) (B : Nat) (M : Nat) (p : Nat → Nat) (nb : Nat → Nat) (q0 : I 67 2 = nI B ∧ B ≤ 7) (q1 : I 67 3 = nI M ∧ M ≤ 8) (q2 : plC I 68 B p) (q3 : ntC I 69 M nb) : zcal zty zcd false (d + 7) 115 [.ref 5] (zSH zn, I, L) 0 0 (fun r u => ∃ (J : Nat → Nat → Int32), r = some (.int (nI (swF B M nb 40 p).1)) ∧ u = (zSH zn, J, L) ∧ (fr [68] I J ∧ plC J 68 B (swF B M nb 40 p).2)) := by
  exact eX11_swap I L (gX11_swap_0 I L ⟨B, M, p, nb, q0, q1, q2, q3, fun J hJ => ⟨J, rfl, rfl, hJ⟩⟩)
abbrev RX12_swap (zn d : Nat) (post : zP) : zK := zRun (zcal zty zcd false (d + 2)) kX12_swap (zLM zn) post
theorem eX12_swap {zn d : Nat} {post : zP} (I : Nat → Nat → Int32) (L : Nat → Nat → Int64) (h : RX12_swap zn d post 0 [some (.ref 115), none, none, none, none, none, none, none, none] [] (zSH zn, I, L)) : zcal zty zcd false (d + 3) 196 [.ref 115] (zSH zn, I, L) 0 0 post := zcal_of (d := d + 2) zmt196 zmc196 rfl (Nat.le_of_ble_eq_true rfl) h
theorem gX12_swap_0 {zn d : Nat} {post : zP} (I : Nat → Nat → Int32) (L : Nat → Nat → Int64) (h : RX12_swap zn d post 4 [some (.ref 115), some (.int (0 : Int32)), some (.int (1 : Int32)), none, none, none, none, none, none] [] (zSH zn, I, L)) : RX12_swap zn d post 0 [some (.ref 115), none, none, none, none, none, none, none, none] [] (zSH zn, I, L) := fun P hw hc => hc _ tX12_swap_0 _ _ _ (hc _ tX12_swap_1 _ _ _ (hc _ tX12_swap_2 _ _ _ (hc _ tX12_swap_3 _ _ _ (h P hw hc))))
theorem gX12_swap_4 {zn d : Nat} {post : zP} (x1 : Int32) (x2 : Int32) (I : Nat → Nat → Int32) (L : Nat → Nat → Int64) (h : (x2 = 0 → post (some (.int x1)) (zSH zn, I, L)) ∧ (¬ x2 = 0 → (∀ (J3 : Nat → Nat → Int32), (fr [141] I J3 ∧ ∀ b, b < 7 → J3 141 b = I 139 b) → (∃ (B5 : Nat) (M6 : Nat) (p7 : Nat → Nat) (nb8 : Nat → Nat), (J3 115 27 = nI B5 ∧ B5 ≤ 7) ∧ (J3 115 29 = nI M6 ∧ M6 ≤ 8) ∧ (plC J3 141 B5 p7) ∧ (ntR J3 140 B5 M6 nb8) ∧ (RX12_swap zn d post 27 [some (.ref 115), some (.int x1), some (.int x2), some (.int (nI (wa B5 M6 nb8 p7))), some (.int (-4 : Int32)), some (.int (0 : Int32)), some (.int (0 : Int32)), none, none] [] (zSH zn, J3, L)))))) : RX12_swap zn d post 4 [some (.ref 115), some (.int x1), some (.int x2), none, none, none, none, none, none] [] (zSH zn, I, L) := fun P hw hc => hc _ tX12_swap_4 _ _ _ (hc _ tX12_swap_5 _ _ _ (⟨fun c1 => hc _ tX12_swap_175 _ _ _ (hc _ tX12_swap_176 _ _ _ (⟨nofun, rfl, rfl, (h.1 c1)⟩)), fun c2 => hc _ tX12_swap_8 _ _ _ (hc _ tX12_swap_9 _ _ _ (⟨⟨_, _, _, rfl, (by decide), sh115⟩, ⟨Nat.le_of_ble_eq_true rfl, Nat.le_of_ble_eq_true rfl, zl1, zl2, _, ctX12_tryNow I L, fun r u k11 => by obtain ⟨J3, rfl, rfl, p4⟩ := k11; exact ⟨zl3, zl4, hc _ tX12_swap_12 _ _ _ ((by obtain ⟨B5, M6, p7, nb8, hg9⟩ := ((h.2 c2) J3 p4); exact hc _ tX12_swap_13 _ _ _ (⟨⟨_, _, _, rfl, (by decide), sh115⟩, ⟨Nat.le_of_ble_eq_true rfl, Nat.le_of_ble_eq_true rfl, zl1, zl2, _, ctX12_allWire J3 L B5 M6 p7 nb8 hg9.1 hg9.2.1 hg9.2.2.1 hg9.2.2.2.1, fun r u k10 => by obtain ⟨rfl, rfl⟩ := k10; exact ⟨zl3, zl4, hc _ tX12_swap_16 _ _ _ (hc _ tX12_swap_17 _ _ _ (hc _ tX12_swap_19 _ _ _ (hc _ tX12_swap_21 _ _ _ (hc _ tX12_swap_22 _ _ _ (hc _ tX12_swap_24 _ _ _ (hc _ tX12_swap_25 _ _ _ (hg9.2.2.2.2 P hw hc)))))))⟩⟩⟩)))⟩⟩⟩))⟩))
theorem gX12_swap_27 {zn d : Nat} {post : zP} (x1 : Int32) (x2 : Int32) (x3 : Int32) (x4 : Int32) (x5 : Int32) (x6 : Int32) (I : Nat → Nat → Int32) (L : Nat → Nat → Int64) (h : ((8 : Int32) ≤ x6 → (x4 = (-4 : Int32) → ((0 : Int32) = 0 → RX12_swap zn d post 4 [some (.ref 115), some (.int x1), some (.int (0 : Int32)), none, none, none, none, none, none] [] (zSH zn, I, L)) ∧ (¬ (0 : Int32) = 0 → (∃ (B8 : Nat) (p9 : Nat → Nat) (a10 : Nat) (b11 : Nat), (I 115 27 = nI B8 ∧ B8 ≤ 7) ∧ (plC I 139 B8 p9) ∧ (x4 = nI a10 ∧ a10 < 8) ∧ (x5 = nI b11 ∧ b11 < 8) ∧ (∀ (J7 : Nat → Nat → Int32), (fr [141] I J7 ∧ plC J7 141 B8 (sw a10 b11 p9)) → RX12_swap zn d post 140 [some (.ref 115), some (.int x1), some (.int (0 : Int32)), some (.int x3), some (.int x4), some (.int x5), some (.int (0 : Int32)), none, none] [] (zSH zn, J7, L))))) ∧ (¬ x4 = (-4 : Int32) → ((1 : Int32) = 0 → RX12_swap zn d post 4 [some (.ref 115), some (.int x1), some (.int (1 : Int32)), none, none, none, none, none, none] [] (zSH zn, I, L)) ∧ (¬ (1 : Int32) = 0 → (∃ (B18 : Nat) (p19 : Nat → Nat) (a20 : Nat) (b21 : Nat), (I 115 27 = nI B18 ∧ B18 ≤ 7) ∧ (plC I 139 B18 p19) ∧ (x4 = nI a20 ∧ a20 < 8) ∧ (x5 = nI b21 ∧ b21 < 8) ∧ (∀ (J17 : Nat → Nat → Int32), (fr [141] I J17 ∧ plC J17 141 B18 (sw a20 b21 p19)) → RX12_swap zn d post 140 [some (.ref 115), some (.int x1), some (.int (1 : Int32)), some (.int x3), some (.int x4), some (.int x5), some (.int (0 : Int32)), none, none] [] (zSH zn, J17, L)))))) ∧ (¬ (8 : Int32) ≤ x6 → RX12_swap zn d post 40 [some (.ref 115), some (.int x1), some (.int x2), some (.int x3), some (.int x4), some (.int x5), some (.int x6), some (.int (x6 + (1 : Int32))), none] [] (zSH zn, I, L))) : RX12_swap zn d post 27 [some (.ref 115), some (.int x1), some (.int x2), some (.int x3), some (.int x4), some (.int x5), some (.int x6), none, none] [] (zSH zn, I, L) := fun P hw hc => hc _ tX12_swap_27 _ _ _ (hc _ tX12_swap_29 _ _ _ (hc _ tX12_swap_31 _ _ _ (⟨fun c1 => hc _ tX12_swap_112 _ _ _ (hc _ tX12_swap_114 _ _ _ (hc _ tX12_swap_116 _ _ _ (⟨fun c3 => hc _ tX12_swap_123 _ _ _ (hc _ tX12_swap_124 _ _ _ (hc _ tX12_swap_125 _ _ _ (hc _ tX12_swap_126 _ _ _ (⟨fun c5 => hc _ tX12_swap_172 _ _ _ (hw _ _ _ _ _ (zwk_s (zwk_s (zwk_s (zwk_n (zwk_n (zwk_n (zwk_n (zwk_s (zwk_s zwk_nil))))))))) ((((h.1 c1).1 c3).1 c5) P hw hc)), fun c6 => hc _ tX12_swap_129 _ _ _ (hc _ tX12_swap_130 _ _ _ (hc _ tX12_swap_132 _ _ _ ((by obtain ⟨B8, p9, a10, b11, hg12⟩ := (((h.1 c1).1 c3).2 c6); exact hc _ tX12_swap_134 _ _ _ (⟨⟨_, _, _, rfl, (by decide), sh115⟩, ⟨Nat.le_of_ble_eq_true rfl, Nat.le_of_ble_eq_true rfl, zl1, zl2, _, ctX12_change x4 x5 I L B8 p9 a10 b11 hg12.1 hg12.2.1 hg12.2.2.1 hg12.2.2.2.1, fun r u k14 => by obtain ⟨J7, rfl, rfl, p13⟩ := k14; exact ⟨zl3, zl4, hc _ tX12_swap_137 _ _ _ (hc _ tX12_swap_138 _ _ _ ((hg12.2.2.2.2 J7 p13) P hw hc))⟩⟩⟩)))))⟩)))), fun c4 => hc _ tX12_swap_119 _ _ _ (hc _ tX12_swap_120 _ _ _ (hc _ tX12_swap_124 _ _ _ (hc _ tX12_swap_125 _ _ _ (hc _ tX12_swap_126 _ _ _ (⟨fun c15 => hc _ tX12_swap_172 _ _ _ (hw _ _ _ _ _ (zwk_s (zwk_s (zwk_s (zwk_n (zwk_n (zwk_n (zwk_n (zwk_s (zwk_s zwk_nil))))))))) ((((h.1 c1).2 c4).1 c15) P hw hc)), fun c16 => hc _ tX12_swap_129 _ _ _ (hc _ tX12_swap_130 _ _ _ (hc _ tX12_swap_132 _ _ _ ((by obtain ⟨B18, p19, a20, b21, hg22⟩ := (((h.1 c1).2 c4).2 c16); exact hc _ tX12_swap_134 _ _ _ (⟨⟨_, _, _, rfl, (by decide), sh115⟩, ⟨Nat.le_of_ble_eq_true rfl, Nat.le_of_ble_eq_true rfl, zl1, zl2, _, ctX12_change x4 x5 I L B18 p19 a20 b21 hg22.1 hg22.2.1 hg22.2.2.1 hg22.2.2.2.1, fun r u k24 => by obtain ⟨J17, rfl, rfl, p23⟩ := k24; exact ⟨zl3, zl4, hc _ tX12_swap_137 _ _ _ (hc _ tX12_swap_138 _ _ _ ((hg22.2.2.2.2 J17 p23) P hw hc))⟩⟩⟩)))))⟩)))))⟩))), fun c2 => hc _ tX12_swap_34 _ _ _ (hc _ tX12_swap_36 _ _ _ (hc _ tX12_swap_37 _ _ _ (hc _ tX12_swap_38 _ _ _ ((h.2 c2) P hw hc))))⟩)))
theorem gX12_swap_40 {zn d : Nat} {post : zP} (x1 : Int32) (x2 : Int32) (x3 : Int32) (x4 : Int32) (x5 : Int32) (x6 : Int32) (x7 : Int32) (I : Nat → Nat → Int32) (L : Nat → Nat → Int64) (h : ((8 : Int32) ≤ x7 → RX12_swap zn d post 27 [some (.ref 115), some (.int x1), some (.int x2), some (.int x3), some (.int x4), some (.int x5), some (.int (x6 + (1 : Int32))), none, none] [] (zSH zn, I, L)) ∧ (¬ (8 : Int32) ≤ x7 → (∃ (B3 : Nat) (p4 : Nat → Nat), (I 115 27 = nI B3 ∧ B3 ≤ 7) ∧ (plC I 139 B3 p4) ∧ ((¬ (blA p4 x6 B3 0) = (-4 : Int32) → (∃ (B9 : Nat) (p10 : Nat → Nat) (a11 : Nat) (b12 : Nat), (I 115 27 = nI B9 ∧ B9 ≤ 7) ∧ (plC I 139 B9 p10) ∧ (x6 = nI a11 ∧ a11 < 8) ∧ (x7 = nI b12 ∧ b12 < 8) ∧ (∀ (J8 : Nat → Nat → Int32), (fr [141] I J8 ∧ plC J8 141 B9 (sw a11 b12 p10)) → (∃ (B15 : Nat) (M16 : Nat) (p17 : Nat → Nat) (nb18 : Nat → Nat), (J8 115 27 = nI B15 ∧ B15 ≤ 7) ∧ (J8 115 29 = nI M16 ∧ M16 ≤ 8) ∧ (plC J8 141 B15 p17) ∧ (ntR J8 140 B15 M16 nb18) ∧ ((x3 ≤ (nI (wa B15 M16 nb18 p17)) → RX12_swap zn d post 40 [some (.ref 115), some (.int x1), some (.int x2), some (.int x3), some (.int x4), some (.int x5), some (.int x6), some (.int (x7 + (1 : Int32))), none] [] (zSH zn, J8, L)) ∧ (¬ x3 ≤ (nI (wa B15 M16 nb18 p17)) → RX12_swap zn d post 40 [some (.ref 115), some (.int x1), some (.int x2), some (.int (nI (wa B15 M16 nb18 p17))), some (.int x6), some (.int x7), some (.int x6), some (.int (x7 + (1 : Int32))), none] [] (zSH zn, J8, L))))))) ∧ ((blA p4 x6 B3 0) = (-4 : Int32) → (∃ (B24 : Nat) (p25 : Nat → Nat), (I 115 27 = nI B24 ∧ B24 ≤ 7) ∧ (plC I 139 B24 p25) ∧ (((blA p25 x7 B24 0) = (-4 : Int32) → RX12_swap zn d post 40 [some (.ref 115), some (.int x1), some (.int x2), some (.int x3), some (.int x4), some (.int x5), some (.int x6), some (.int (x7 + (1 : Int32))), none] [] (zSH zn, I, L)) ∧ (¬ (blA p25 x7 B24 0) = (-4 : Int32) → (∃ (B30 : Nat) (p31 : Nat → Nat) (a32 : Nat) (b33 : Nat), (I 115 27 = nI B30 ∧ B30 ≤ 7) ∧ (plC I 139 B30 p31) ∧ (x6 = nI a32 ∧ a32 < 8) ∧ (x7 = nI b33 ∧ b33 < 8) ∧ (∀ (J29 : Nat → Nat → Int32), (fr [141] I J29 ∧ plC J29 141 B30 (sw a32 b33 p31)) → (∃ (B36 : Nat) (M37 : Nat) (p38 : Nat → Nat) (nb39 : Nat → Nat), (J29 115 27 = nI B36 ∧ B36 ≤ 7) ∧ (J29 115 29 = nI M37 ∧ M37 ≤ 8) ∧ (plC J29 141 B36 p38) ∧ (ntR J29 140 B36 M37 nb39) ∧ ((x3 ≤ (nI (wa B36 M37 nb39 p38)) → RX12_swap zn d post 40 [some (.ref 115), some (.int x1), some (.int x2), some (.int x3), some (.int x4), some (.int x5), some (.int x6), some (.int (x7 + (1 : Int32))), none] [] (zSH zn, J29, L)) ∧ (¬ x3 ≤ (nI (wa B36 M37 nb39 p38)) → RX12_swap zn d post 40 [some (.ref 115), some (.int x1), some (.int x2), some (.int (nI (wa B36 M37 nb39 p38))), some (.int x6), some (.int x7), some (.int x6), some (.int (x7 + (1 : Int32))), none] [] (zSH zn, J29, L)))))))))))))) : RX12_swap zn d post 40 [some (.ref 115), some (.int x1), some (.int x2), some (.int x3), some (.int x4), some (.int x5), some (.int x6), some (.int x7), none] [] (zSH zn, I, L) := fun P hw hc => hc _ tX12_swap_40 _ _ _ (hc _ tX12_swap_42 _ _ _ (hc _ tX12_swap_44 _ _ _ (⟨fun c1 => hc _ tX12_swap_106 _ _ _ (hc _ tX12_swap_109 _ _ _ (hw _ _ _ _ _ (zwk_s (zwk_s (zwk_s (zwk_s (zwk_s (zwk_s (zwk_s (zwk_n (zwk_s zwk_nil))))))))) ((h.1 c1) P hw hc))), fun c2 => hc _ tX12_swap_47 _ _ _ (hc _ tX12_swap_48 _ _ _ ((by obtain ⟨B3, p4, hg5⟩ := (h.2 c2); exact hc _ tX12_swap_50 _ _ _ (⟨⟨_, _, _, rfl, (by decide), sh115⟩, ⟨Nat.le_of_ble_eq_true rfl, Nat.le_of_ble_eq_true rfl, zl1, zl2, _, ctX12_blockAt x6 I L B3 p4 hg5.1 hg5.2.1, fun r u k46 => by obtain ⟨rfl, rfl⟩ := k46; exact ⟨zl3, zl4, hc _ tX12_swap_53 _ _ _ (hc _ tX12_swap_55 _ _ _ (⟨fun c6 => hc _ tX12_swap_69 _ _ _ (hc _ tX12_swap_70 _ _ _ (hc _ tX12_swap_72 _ _ _ ((by obtain ⟨B9, p10, a11, b12, hg13⟩ := (hg5.2.2.1 c6); exact hc _ tX12_swap_74 _ _ _ (⟨⟨_, _, _, rfl, (by decide), sh115⟩, ⟨Nat.le_of_ble_eq_true rfl, Nat.le_of_ble_eq_true rfl, zl1, zl2, _, ctX12_change x6 x7 I L B9 p10 a11 b12 hg13.1 hg13.2.1 hg13.2.2.1 hg13.2.2.2.1, fun r u k23 => by obtain ⟨J8, rfl, rfl, p14⟩ := k23; exact ⟨zl3, zl4, hc _ tX12_swap_77 _ _ _ ((by obtain ⟨B15, M16, p17, nb18, hg19⟩ := (hg13.2.2.2.2 J8 p14); exact hc _ tX12_swap_78 _ _ _ (⟨⟨_, _, _, rfl, (by decide), sh115⟩, ⟨Nat.le_of_ble_eq_true rfl, Nat.le_of_ble_eq_true rfl, zl1, zl2, _, ctX12_allWire J8 L B15 M16 p17 nb18 hg19.1 hg19.2.1 hg19.2.2.1 hg19.2.2.2.1, fun r u k22 => by obtain ⟨rfl, rfl⟩ := k22; exact ⟨zl3, zl4, hc _ tX12_swap_81 _ _ _ (hc _ tX12_swap_83 _ _ _ (hc _ tX12_swap_85 _ _ _ (hc _ tX12_swap_86 _ _ _ (⟨fun c20 => hc _ tX12_swap_100 _ _ _ (hc _ tX12_swap_103 _ _ _ (hw _ _ _ _ _ (zwk_s (zwk_s (zwk_s (zwk_s (zwk_s (zwk_s (zwk_s (zwk_s (zwk_n zwk_nil))))))))) ((hg19.2.2.2.2.1 c20) P hw hc))), fun c21 => hc _ tX12_swap_89 _ _ _ (hc _ tX12_swap_91 _ _ _ (hc _ tX12_swap_92 _ _ _ (hc _ tX12_swap_94 _ _ _ (hc _ tX12_swap_96 _ _ _ (hc _ tX12_swap_98 _ _ _ (hc _ tX12_swap_100 _ _ _ (hc _ tX12_swap_103 _ _ _ (hw _ _ _ _ _ (zwk_s (zwk_s (zwk_s (zwk_s (zwk_s (zwk_s (zwk_s (zwk_s (zwk_n zwk_nil))))))))) ((hg19.2.2.2.2.2 c21) P hw hc)))))))))⟩))))⟩⟩⟩)))⟩⟩⟩))))), fun c7 => hc _ tX12_swap_58 _ _ _ (hc _ tX12_swap_59 _ _ _ ((by obtain ⟨B24, p25, hg26⟩ := (hg5.2.2.2 c7); exact hc _ tX12_swap_61 _ _ _ (⟨⟨_, _, _, rfl, (by decide), sh115⟩, ⟨Nat.le_of_ble_eq_true rfl, Nat.le_of_ble_eq_true rfl, zl1, zl2, _, ctX12_blockAt x7 I L B24 p25 hg26.1 hg26.2.1, fun r u k45 => by obtain ⟨rfl, rfl⟩ := k45; exact ⟨zl3, zl4, hc _ tX12_swap_64 _ _ _ (hc _ tX12_swap_66 _ _ _ (⟨fun c27 => hc _ tX12_swap_100 _ _ _ (hc _ tX12_swap_103 _ _ _ ((hg26.2.2.1 c27) P hw hc)), fun c28 => hc _ tX12_swap_69 _ _ _ (hc _ tX12_swap_70 _ _ _ (hc _ tX12_swap_72 _ _ _ ((by obtain ⟨B30, p31, a32, b33, hg34⟩ := (hg26.2.2.2 c28); exact hc _ tX12_swap_74 _ _ _ (⟨⟨_, _, _, rfl, (by decide), sh115⟩, ⟨Nat.le_of_ble_eq_true rfl, Nat.le_of_ble_eq_true rfl, zl1, zl2, _, ctX12_change x6 x7 I L B30 p31 a32 b33 hg34.1 hg34.2.1 hg34.2.2.1 hg34.2.2.2.1, fun r u k44 => by obtain ⟨J29, rfl, rfl, p35⟩ := k44; exact ⟨zl3, zl4, hc _ tX12_swap_77 _ _ _ ((by obtain ⟨B36, M37, p38, nb39, hg40⟩ := (hg34.2.2.2.2 J29 p35); exact hc _ tX12_swap_78 _ _ _ (⟨⟨_, _, _, rfl, (by decide), sh115⟩, ⟨Nat.le_of_ble_eq_true rfl, Nat.le_of_ble_eq_true rfl, zl1, zl2, _, ctX12_allWire J29 L B36 M37 p38 nb39 hg40.1 hg40.2.1 hg40.2.2.1 hg40.2.2.2.1, fun r u k43 => by obtain ⟨rfl, rfl⟩ := k43; exact ⟨zl3, zl4, hc _ tX12_swap_81 _ _ _ (hc _ tX12_swap_83 _ _ _ (hc _ tX12_swap_85 _ _ _ (hc _ tX12_swap_86 _ _ _ (⟨fun c41 => hc _ tX12_swap_100 _ _ _ (hc _ tX12_swap_103 _ _ _ (hw _ _ _ _ _ (zwk_s (zwk_s (zwk_s (zwk_s (zwk_s (zwk_s (zwk_s (zwk_s (zwk_n zwk_nil))))))))) ((hg40.2.2.2.2.1 c41) P hw hc))), fun c42 => hc _ tX12_swap_89 _ _ _ (hc _ tX12_swap_91 _ _ _ (hc _ tX12_swap_92 _ _ _ (hc _ tX12_swap_94 _ _ _ (hc _ tX12_swap_96 _ _ _ (hc _ tX12_swap_98 _ _ _ (hc _ tX12_swap_100 _ _ _ (hc _ tX12_swap_103 _ _ _ (hw _ _ _ _ _ (zwk_s (zwk_s (zwk_s (zwk_s (zwk_s (zwk_s (zwk_s (zwk_s (zwk_n zwk_nil))))))))) ((hg40.2.2.2.2.2 c42) P hw hc)))))))))⟩))))⟩⟩⟩)))⟩⟩⟩)))))⟩))⟩⟩⟩))))⟩))⟩⟩⟩))))⟩)))
theorem gX12_swap_140 {zn d : Nat} {post : zP} (x1 : Int32) (x2 : Int32) (x3 : Int32) (x4 : Int32) (x5 : Int32) (x6 : Int32) (I : Nat → Nat → Int32) (L : Nat → Nat → Int64) (h : ((I 115 27) ≤ x6 → RX12_swap zn d post 4 [some (.ref 115), some (.int (x1 + (1 : Int32))), some (.int x2), none, none, none, none, none, none] [] (zSH zn, I, L)) ∧ (¬ (I 115 27) ≤ x6 → vp_in x6 7 ∧ (RX12_swap zn d post 140 [some (.ref 115), some (.int x1), some (.int x2), some (.int x3), some (.int x4), some (.int x5), some (.int (x6 + (1 : Int32))), none, none] [] (zSH zn, (zi I 139 (x6).toNatClampNeg (I 141 (x6).toNatClampNeg)), L)))) : RX12_swap zn d post 140 [some (.ref 115), some (.int x1), some (.int x2), some (.int x3), some (.int x4), some (.int x5), some (.int x6), none, none] [] (zSH zn, I, L) := fun P hw hc => hc _ tX12_swap_140 _ _ _ (hc _ tX12_swap_142 _ _ _ (hc _ tX12_swap_143 _ _ _ (⟨_, sh115, (by decide), hc _ tX12_swap_146 _ _ _ (⟨fun c1 => hc _ tX12_swap_169 _ _ _ (hc _ tX12_swap_172 _ _ _ (hw _ _ _ _ _ (zwk_s (zwk_s (zwk_s (zwk_n (zwk_n (zwk_n (zwk_n (zwk_s (zwk_s zwk_nil))))))))) ((h.1 c1) P hw hc))), fun c2 => hc _ tX12_swap_149 _ _ _ (hc _ tX12_swap_150 _ _ _ (⟨_, _, sh115, (by decide), rfl, hc _ tX12_swap_153 _ _ _ (hc _ tX12_swap_155 _ _ _ (hc _ tX12_swap_156 _ _ _ (⟨_, _, sh115, (by decide), rfl, hc _ tX12_swap_159 _ _ _ (hc _ tX12_swap_161 _ _ _ (⟨_, _, _, sh141, Or.inl ⟨rfl, (by decide)⟩, (h.2 c2).1, hc _ tX12_swap_162 _ _ _ (⟨_, _, sh139, (by decide), (h.2 c2).1, hc _ tX12_swap_163 _ _ _ (hc _ tX12_swap_166 _ _ _ ((h.2 c2).2 P hw hc))⟩)⟩))⟩)))⟩))⟩)⟩)))
theorem wa_sw {B M : Nat} {nb p : Nat → Nat} {a b : Nat} (ha : ∀ i, i < B → p i ≠ a) (hb : ∀ i, i < B → p i ≠ b) : wa B M nb (sw a b p) = wa B M nb p := wa_cong (fun i hi => by unfold sw; rw [if_neg (ha i hi), if_neg (hb i hi)])
theorem scn_no {B M : Nat} {nb p : Nat → Nat} {a b : Nat} (hab : a < b) (hb : b < 8) (h : ¬ wa B M nb (sw a b p) < (scn B M nb p (8 * a + b)).1) : scn B M nb p (8 * a + b + 1) = scn B M nb p (8 * a + b) := by rw [scn_s hab hb, stW, if_neg h]
theorem scn_yes {B M : Nat} {nb p : Nat → Nat} {a b : Nat} (hab : a < b) (hb : b < 8) (h : wa B M nb (sw a b p) < (scn B M nb p (8 * a + b)).1) : scn B M nb p (8 * a + b + 1) = (wa B M nb (sw a b p), some (a, b)) := by rw [scn_s hab hb, stW, if_pos h]
theorem ctX12_swap {zn d : Nat} (I : Nat → Nat → Int32) (L : Nat → Nat → Int64) (B : Nat) (M : Nat) (p : Nat → Nat) (nb : Nat → Nat) (q0 : I 115 27 = nI B ∧ B ≤ 7) (q1 : I 115 29 = nI M ∧ M ≤ 8) (q2 : plC I 139 B p) (q3 : ntR I 140 B M nb) : zcal zty zcd false (d + 3) 196 [.ref 115] (zSH zn, I, L) 0 0 (fun r u => ∃ (J : Nat → Nat → Int32), r = some (.int (nI (swF B M nb 40 p).1)) ∧ u = (zSH zn, J, L) ∧ (fr [139, 141] I J ∧ plC J 139 B (swF B M nb 40 p).2)) := by
  obtain ⟨eB, hB⟩ := id q0
  obtain ⟨eM, hM⟩ := id q1
  have inv : ∀ J, fr [139, 141] I J → (J 115 27 = nI B ∧ B ≤ 7) ∧ (J 115 29 = nI M ∧ M ≤ 8) ∧ ntR J 140 B M nb := fun J hJ => ⟨⟨by rw [hJ 115 (by decide)]; exact eB, hB⟩, ⟨by rw [hJ 115 (by decide)]; exact eM, hM⟩, fun k hk => by rw [hJ 140 (by decide)]; exact q3 k hk⟩
  have done : ∀ (k : Nat) (q : Nat → Nat) (J : Nat → Nat → Int32), fr [139, 141] I J → plC J 139 B q → k = (swF B M nb 40 p).1 → q = (swF B M nb 40 p).2 → RX12_swap zn d (fun r u => ∃ (J : Nat → Nat → Int32), r = some (.int (nI (swF B M nb 40 p).1)) ∧ u = (zSH zn, J, L) ∧ (fr [139, 141] I J ∧ plC J 139 B (swF B M nb 40 p).2)) 4 [some (.ref 115), some (.int (nI k)), some (.int 0), none, none, none, none, none, none] [] (zSH zn, J, L) := fun k q J j1 j2 e1 e2 => gX12_swap_4 _ _ J L ⟨fun _ => ⟨J, by rw [e1], rfl, j1, by rw [← e2]; exact j2⟩, fun z => absurd rfl z⟩
  have loop : ∀ (f k : Nat) (q : Nat → Nat) (J : Nat → Nat → Int32), wa B M nb q < f → fr [139, 141] I J → plC J 139 B q → k + (swF B M nb f q).1 = (swF B M nb 40 p).1 → (swF B M nb f q).2 = (swF B M nb 40 p).2 → RX12_swap zn d (fun r u => ∃ (J : Nat → Nat → Int32), r = some (.int (nI (swF B M nb 40 p).1)) ∧ u = (zSH zn, J, L) ∧ (fr [139, 141] I J ∧ plC J 139 B (swF B M nb 40 p).2)) 4 [some (.ref 115), some (.int (nI k)), some (.int 1), none, none, none, none, none, none] [] (zSH zn, J, L) := by
    intro f
    induction f with
    | zero => intro k q J h; omega
    | succ f ih =>
      intro k q J hf j1 j2 e1 e2
      refine gX12_swap_4 _ _ J L ⟨fun z => absurd z (by decide), fun _ => fun J0 ⟨a1, a2⟩ => ?_⟩
      have f0 : fr [139, 141] I J0 := fr_trans j1 (fr_sub a1 (by decide))
      obtain ⟨i1, i2, i3⟩ := inv J0 f0
      have p0 : plC J0 139 B q := fun i hi => by rw [a1 139 (by decide)]; exact j2 i hi
      refine ⟨B, M, q, nb, i1, i2, fun i hi => by rw [a2 i (by omega)]; exact j2 i hi, i3, ?_⟩
      have hwq : wa B M nb q ≤ 4 * M := wa_le (fun b hb => (j2 b hb).2)
      have hscn : ∀ t, t ≤ 64 → (scn B M nb q t).1 ≤ wa B M nb q := fun t ht => (scn_inv B M nb q t ht).1
      have outer : ∀ a K, a ≤ 8 → (fr [139, 141] I K ∧ plC K 139 B q) → RX12_swap zn d (fun r u => ∃ (J : Nat → Nat → Int32), r = some (.int (nI (swF B M nb 40 p).1)) ∧ u = (zSH zn, J, L) ∧ (fr [139, 141] I J ∧ plC J 139 B (swF B M nb 40 p).2)) 27 [some (.ref 115), some (.int (nI k)), some (.int 1), some (.int (nI (scn B M nb q (8 * a)).1)), some (.int (oA (scn B M nb q (8 * a)).2)), some (.int (oB (scn B M nb q (8 * a)).2 0)), some (.int (nI a)), none, none] [] (zSH zn, K, L) := by
        refine zup (fun K hK => ?_) (fun a K ha hK iha => ?_)
        · refine gX12_swap_27 _ _ _ _ _ _ K L ⟨fun _ => ?_, fun hc => absurd (by decide) hc⟩
          have eb : (scn B M nb q (8 * 8)).2 = bst B M nb q := rfl
          rw [eb]
          cases hb : bst B M nb q with
          | none =>
            rw [swF_n hb] at e1 e2
            exact ⟨fun _ => ⟨fun _ => done k q K hK.1 hK.2 (by rw [← e1]; rfl) e2, fun z => absurd rfl z⟩, fun z => absurd rfl z⟩
          | some ab =>
            obtain ⟨a, b⟩ := ab
            obtain ⟨ha, hb8, hlt⟩ := bst_s hb
            rw [swF_s hb] at e1 e2
            refine ⟨fun z => absurd z (nI_n4 (i := a) (by omega)), fun _ => ⟨fun z => absurd z (by decide), fun _ => ⟨B, q, a, b, (inv K hK.1).1, hK.2, ⟨rfl, ha⟩, ⟨rfl, hb8⟩, fun K1 ⟨k1, k2⟩ => ?_⟩⟩⟩
            have fK1 : fr [139, 141] I K1 := fr_trans hK.1 (fr_sub k1 (by decide))
            have cp : ∀ n K2, n ≤ B → (fr [139] K1 K2 ∧ plC K2 139 n (sw a b q)) → RX12_swap zn d (fun r u => ∃ (J : Nat → Nat → Int32), r = some (.int (nI (swF B M nb 40 p).1)) ∧ u = (zSH zn, J, L) ∧ (fr [139, 141] I J ∧ plC J 139 B (swF B M nb 40 p).2)) 140 [some (.ref 115), some (.int (nI k)), some (.int 1), some (.int (nI (scn B M nb q (8 * 8)).1)), some (.int (oA (some (a, b)))), some (.int (oB (some (a, b)) 0)), some (.int (nI n)), none, none] [] (zSH zn, K2, L) := by
              refine zup (fun K2 h2 => ?_) (fun n K2 hn h2 ihn => ?_)
              · have fK2 := fr_trans fK1 (fr_sub h2.1 (by decide))
                refine gX12_swap_140 _ _ _ _ _ _ K2 L ⟨fun _ => ?_, fun hc => absurd (by rw [(inv K2 fK2).1.1, nI_leI (by omega) (by omega)]; exact Nat.le_refl _) hc⟩
                rw [nI_1]
                exact ih (k + 1) (sw a b q) K2 (by omega) fK2 h2.2 (by rw [← e1]; dsimp only; omega) e2
              · have fK2 := fr_trans fK1 (fr_sub h2.1 (by decide))
                refine gX12_swap_140 _ _ _ _ _ _ K2 L ⟨fun hc => absurd hc (by rw [(inv K2 fK2).1.1, nI_leI (by omega) (by omega)]; omega), fun _ => ⟨vin_nI (by omega) (by omega), ?_⟩⟩
                rw [nI_clamp (by omega), nI_1]
                refine ihn _ ⟨fr_trans h2.1 (fr_zi (by decide)), fun i hi => ?_⟩
                rw [zi_at]
                by_cases hin : i = n
                · rw [if_pos ⟨rfl, hin⟩, h2.1 141 (by decide), hin]; exact k2 n hn
                · rw [if_neg (fun z => hin z.2)]; exact h2.2 i (by omega)
            exact cp 0 K1 (Nat.zero_le _) ⟨fr_rf, fun i hi => absurd hi (by omega)⟩
        · refine gX12_swap_27 _ _ _ _ _ _ K L ⟨fun hc => absurd hc (by rw [nl 8, nI_leI (by decide) (by omega)]; omega), fun _ => ?_⟩
          have inner : ∀ b K, b ≤ 8 → (a < b ∧ fr [139, 141] I K ∧ plC K 139 B q) → RX12_swap zn d (fun r u => ∃ (J : Nat → Nat → Int32), r = some (.int (nI (swF B M nb 40 p).1)) ∧ u = (zSH zn, J, L) ∧ (fr [139, 141] I J ∧ plC J 139 B (swF B M nb 40 p).2)) 40 [some (.ref 115), some (.int (nI k)), some (.int 1), some (.int (nI (scn B M nb q (8 * a + b)).1)), some (.int (oA (scn B M nb q (8 * a + b)).2)), some (.int (oB (scn B M nb q (8 * a + b)).2 0)), some (.int (nI a)), some (.int (nI b)), none] [] (zSH zn, K, L) := by
            refine zup (fun K hK => ?_) (fun b K hb hK ihb => ?_)
            · refine gX12_swap_40 _ _ _ _ _ _ _ K L ⟨fun _ => ?_, fun hc => absurd (by decide) hc⟩
              rw [nI_1]
              have := iha K hK.2
              rw [show 8 * (a + 1) = 8 * a + 8 by omega] at this
              exact this
            · obtain ⟨hab, k1, k2⟩ := hK
              obtain ⟨c1, c2, c3⟩ := inv K k1
              have hs := hscn (8 * a + b) (by omega)
              have tryit : ∃ (B9 : Nat) (p10 : Nat → Nat) (a11 : Nat) (b12 : Nat), (K 115 27 = nI B9 ∧ B9 ≤ 7) ∧ (plC K 139 B9 p10) ∧ (nI a = nI a11 ∧ a11 < 8) ∧ (nI b = nI b12 ∧ b12 < 8) ∧ (∀ (J8 : Nat → Nat → Int32), (fr [141] K J8 ∧ plC J8 141 B9 (sw a11 b12 p10)) → (∃ (B15 : Nat) (M16 : Nat) (p17 : Nat → Nat) (nb18 : Nat → Nat), (J8 115 27 = nI B15 ∧ B15 ≤ 7) ∧ (J8 115 29 = nI M16 ∧ M16 ≤ 8) ∧ (plC J8 141 B15 p17) ∧ (ntR J8 140 B15 M16 nb18) ∧ ((nI (scn B M nb q (8 * a + b)).1 ≤ (nI (wa B15 M16 nb18 p17)) → RX12_swap zn d (fun r u => ∃ (J : Nat → Nat → Int32), r = some (.int (nI (swF B M nb 40 p).1)) ∧ u = (zSH zn, J, L) ∧ (fr [139, 141] I J ∧ plC J 139 B (swF B M nb 40 p).2)) 40 [some (.ref 115), some (.int (nI k)), some (.int 1), some (.int (nI (scn B M nb q (8 * a + b)).1)), some (.int (oA (scn B M nb q (8 * a + b)).2)), some (.int (oB (scn B M nb q (8 * a + b)).2 0)), some (.int (nI a)), some (.int (nI b + 1)), none] [] (zSH zn, J8, L)) ∧ (¬ nI (scn B M nb q (8 * a + b)).1 ≤ (nI (wa B15 M16 nb18 p17)) → RX12_swap zn d (fun r u => ∃ (J : Nat → Nat → Int32), r = some (.int (nI (swF B M nb 40 p).1)) ∧ u = (zSH zn, J, L) ∧ (fr [139, 141] I J ∧ plC J 139 B (swF B M nb 40 p).2)) 40 [some (.ref 115), some (.int (nI k)), some (.int 1), some (.int (nI (wa B15 M16 nb18 p17))), some (.int (nI a)), some (.int (nI b)), some (.int (nI a)), some (.int (nI b + 1)), none] [] (zSH zn, J8, L))))) := by
                refine ⟨B, q, a, b, c1, k2, ⟨rfl, by omega⟩, ⟨rfl, hb⟩, fun K1 ⟨m1, m2⟩ => ?_⟩
                have f1 : fr [139, 141] I K1 := fr_trans k1 (fr_sub m1 (by decide))
                obtain ⟨d1, d2, d3⟩ := inv K1 f1
                have hih := ihb K1 ⟨by omega, f1, fun i hi => by rw [m1 139 (by decide)]; exact k2 i hi⟩
                have hw : wa B M nb (sw a b q) ≤ 4 * M := wa_le (fun i hi => (m2 i hi).2)
                refine ⟨B, M, sw a b q, nb, d1, d2, m2, d3, ?_⟩
                rw [nI_leI (by omega) (by omega), nI_1]
                rw [← Nat.add_assoc] at hih
                refine ⟨fun h => ?_, fun h => ?_⟩
                · rw [scn_no hab hb (by omega)] at hih; exact hih
                · rw [scn_yes hab hb (by omega)] at hih; exact hih
              refine gX12_swap_40 _ _ _ _ _ _ _ K L ⟨fun hc => absurd hc (by rw [nl 8, nI_leI (by decide) (by omega)]; omega), fun _ => ⟨B, q, c1, k2, fun _ => tryit, fun hna => ⟨B, q, c1, k2, fun hnb => ?_, fun _ => tryit⟩⟩⟩
              rw [blA_4 (by omega)] at hna hnb
              have hna' : ∀ i, i < B → q i ≠ a := fun i hi z => hna i (Nat.zero_le _) (by omega) (by rw [z])
              have hnb' : ∀ i, i < B → q i ≠ b := fun i hi z => hnb i (Nat.zero_le _) (by omega) (by rw [z])
              have hih := ihb K ⟨by omega, k1, k2⟩
              rw [← Nat.add_assoc, scn_no hab hb (by rw [wa_sw hna' hnb']; omega)] at hih
              rw [nI_1]
              exact hih
          rw [nI_1]
          have := inner (a + 1) K (by omega) ⟨by omega, hK⟩
          rw [scn_skip ha (a + 1) (Nat.le_refl _)] at this
          exact this
      have h0 := outer 0 J0 (by decide) ⟨f0, p0⟩
      exact h0
  have hw : wa B M nb p ≤ 4 * M := wa_le (fun b hb => (q2 b hb).2)
  exact eX12_swap I L (gX12_swap_0 I L (loop 40 0 p I (by omega) fr_rf q2 (Nat.zero_add _) rfl))

