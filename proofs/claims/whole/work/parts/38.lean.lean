/-! WHAT A LINE LEANS ON: the least closed set -/
def isClo (M : Nat → Nat) (n X : Nat) : Prop := (∀ m, (M n).testBit m = true → X.testBit m = true) ∧ (∀ w, 6 ≤ w → w < 15 → X.testBit w = true → ∀ m, (M w).testBit m = true → X.testBit m = true) ∧ ∀ S : Nat → Prop, (∀ m, (M n).testBit m = true → S m) → (∀ w, 6 ≤ w → w < 15 → S w → ∀ m, (M w).testBit m = true → S m) → ∀ m, X.testBit m = true → S m
theorem isClo_eq {M : Nat → Nat} {n X Y : Nat} (hx : isClo M n X) (hy : isClo M n Y) : X = Y := by
  refine Nat.eq_of_testBit_eq (fun i => ?_)
  apply Bool.eq_iff_iff.mpr
  exact ⟨hx.2.2 (fun m => Y.testBit m = true) hy.1 hy.2.1 i, hy.2.2 (fun m => X.testBit m = true) hx.1 hx.2.1 i⟩
def wI (M A : Nat → Nat) (w : Nat) : Prop := ∀ n, 6 ≤ n → n < 19 → (∀ m, (M n).testBit m = true → (A n).testBit m = true) ∧ (∀ u, 6 ≤ u → u < w → (A n).testBit u = true → ∀ m, (A u).testBit m = true → (A n).testBit m = true) ∧ ∀ S : Nat → Prop, (∀ m, (M n).testBit m = true → S m) → (∀ w, 6 ≤ w → w < 15 → S w → ∀ m, (M w).testBit m = true → S m) → ∀ m, (A n).testBit m = true → S m
def wS (A : Nat → Nat) (w n : Nat) : Nat := if (A n).testBit w = true then A n ||| A w else A n
theorem wS_self {A : Nat → Nat} {w : Nat} : wS A w w = A w := by
  unfold wS
  split
  · exact Nat.or_self _
  · rfl
theorem wS_bit {A : Nat → Nat} {w n m : Nat} : (wS A w n).testBit m = true ↔ (A n).testBit m = true ∨ ((A n).testBit w = true ∧ (A w).testBit m = true) := by
  unfold wS
  split
  · rename_i h
    rw [Nat.testBit_or, Bool.or_eq_true]
    exact ⟨fun z => z.elim Or.inl (fun y => Or.inr ⟨h, y⟩), fun z => z.elim Or.inl (fun y => Or.inr y.2)⟩
  · rename_i h
    exact ⟨Or.inl, fun z => z.elim id (fun y => absurd y.1 h)⟩
theorem wI_step {M A : Nat → Nat} {w : Nat} (h6 : 6 ≤ w) (h15 : w < 15) (h : wI M A w) : wI M (fun n => if 6 ≤ n ∧ n < 19 then wS A w n else A n) (w + 1) := by
  intro n n6 n19
  obtain ⟨a, b, c⟩ := h n n6 n19
  obtain ⟨aw, bw, cw⟩ := h w h6 (by omega)
  dsimp only
  rw [if_pos ⟨n6, n19⟩]
  refine ⟨fun m hm => wS_bit.mpr (Or.inl (a m hm)), fun u u6 uw hu m hm => ?_, fun S s1 s2 m hm => ?_⟩
  · rw [if_pos ⟨u6, by omega⟩] at hm
    rw [wS_bit] at hu hm ⊢
    by_cases huw : u = w
    · subst huw
      have hw : (A n).testBit u = true := hu.elim id (fun z => z.1)
      exact Or.inr ⟨hw, hm.elim id (fun z => z.2)⟩
    · have hult : u < w := by omega
      rcases hu with hu | ⟨hu1, hu2⟩
      · rcases hm with hm | ⟨hm1, hm2⟩
        · exact Or.inl (b u u6 hult hu m hm)
        · exact Or.inr ⟨b u u6 hult hu w hm1, hm2⟩
      · rcases hm with hm | ⟨hm1, hm2⟩
        · exact Or.inr ⟨hu1, bw u u6 hult hu2 m hm⟩
        · exact Or.inr ⟨hu1, hm2⟩
  · rw [wS_bit] at hm
    rcases hm with hm | ⟨hm1, hm2⟩
    · exact c S s1 s2 m hm
    · have hSw := c S s1 s2 w hm1
      exact cw S (fun m' h' => s2 w h6 h15 hSw m' h') s2 m hm2
theorem wI_clo {M A : Nat → Nat} (h : wI M A 15) {n : Nat} (n6 : 6 ≤ n) (n19 : n < 19) : isClo M n (A n) := by
  obtain ⟨a, b, c⟩ := h n n6 n19
  exact ⟨a, fun w w6 w15 hw m hm => b w w6 w15 hw m ((h w w6 (by omega)).1 m hm), c⟩
theorem wI_0 {M : Nat → Nat} : wI M M 6 := fun n _ _ => ⟨fun _ h => h, fun u u6 u7 => by omega, fun S s1 _ m hm => s1 m hm⟩
def zMk (I : Nat → Nat → Int32) (k : Nat) (A : Nat → Nat) : Prop := ∀ n, n < 19 → I k n = nI (A n) ∧ A n < 2 ^ 19
abbrev RX10_leanThroughWires (zn d : Nat) (post : zP) : zK := zRun (zcal zty zcd false (d + 1)) kX10_leanThroughWires (zLM zn) post
theorem eX10_leanThroughWires {zn d : Nat} {post : zP} (k0 : Nat) (I : Nat → Nat → Int32) (L : Nat → Nat → Int64) (h0 : isX10 k0) (h : RX10_leanThroughWires zn d post 0 [some (.ref k0), none, none] [] (zSH zn, I, L)) : zcal zty zcd false (d + 2) 84 [.ref k0] (zSH zn, I, L) 0 0 post := zcal_of (d := d + 1) zmt84 zmc84 rfl (Nat.le_of_ble_eq_true rfl) h
theorem gX10_leanThroughWires_0 {zn d : Nat} {post : zP} (k0 : Nat) (I : Nat → Nat → Int32) (L : Nat → Nat → Int64) (h0 : isX10 k0) (h : RX10_leanThroughWires zn d post 3 [some (.ref k0), some (.int (6 : Int32)), none] [] (zSH zn, I, L)) : RX10_leanThroughWires zn d post 0 [some (.ref k0), none, none] [] (zSH zn, I, L) := fun P hw hc => hc _ tX10_leanThroughWires_0 _ _ _ (hc _ tX10_leanThroughWires_2 _ _ _ (h P hw hc))
theorem gX10_leanThroughWires_3 {zn d : Nat} {post : zP} (k0 : Nat) (x1 : Int32) (I : Nat → Nat → Int32) (L : Nat → Nat → Int64) (h0 : isX10 k0) (h : ((15 : Int32) ≤ x1 → post none (zSH zn, I, L)) ∧ (¬ (15 : Int32) ≤ x1 → RX10_leanThroughWires zn d post 12 [some (.ref k0), some (.int x1), some (.int (6 : Int32))] [] (zSH zn, I, L))) : RX10_leanThroughWires zn d post 3 [some (.ref k0), some (.int x1), none] [] (zSH zn, I, L) := fun P hw hc => hc _ tX10_leanThroughWires_3 _ _ _ (hc _ tX10_leanThroughWires_4 _ _ _ (hc _ tX10_leanThroughWires_6 _ _ _ (⟨fun c1 => hc _ tX10_leanThroughWires_58 _ _ _ (⟨rfl, rfl, (h.1 c1)⟩), fun c2 => hc _ tX10_leanThroughWires_9 _ _ _ (hc _ tX10_leanThroughWires_11 _ _ _ ((h.2 c2) P hw hc))⟩)))
theorem gX10_leanThroughWires_12 {zn d : Nat} {post : zP} (k0 : Nat) (x1 : Int32) (x2 : Int32) (I : Nat → Nat → Int32) (L : Nat → Nat → Int64) (h0 : isX10 k0) (h : ((19 : Int32) ≤ x2 → RX10_leanThroughWires zn d post 3 [some (.ref k0), some (.int (x1 + (1 : Int32))), none] [] (zSH zn, I, L)) ∧ (¬ (19 : Int32) ≤ x2 → vp_in x2 19 ∧ ((¬ ((¬ ((I (k0 + 4) (x2).toNatClampNeg) >>> (x1 &&& 31)) &&& 1 = 0)) → RX10_leanThroughWires zn d post 12 [some (.ref k0), some (.int x1), some (.int (x2 + (1 : Int32)))] [] (zSH zn, I, L)) ∧ ((¬ ((I (k0 + 4) (x2).toNatClampNeg) >>> (x1 &&& 31)) &&& 1 = 0) → vp_in x1 19 ∧ (RX10_leanThroughWires zn d post 12 [some (.ref k0), some (.int x1), some (.int (x2 + (1 : Int32)))] [] (zSH zn, (zi I (k0 + 4) (x2).toNatClampNeg ((I (k0 + 4) (x2).toNatClampNeg) ||| (I (k0 + 4) (x1).toNatClampNeg))), L)))))) : RX10_leanThroughWires zn d post 12 [some (.ref k0), some (.int x1), some (.int x2)] [] (zSH zn, I, L) := fun P hw hc => hc _ tX10_leanThroughWires_12 _ _ _ (hc _ tX10_leanThroughWires_13 _ _ _ (hc _ tX10_leanThroughWires_15 _ _ _ (⟨fun c1 => hc _ tX10_leanThroughWires_52 _ _ _ (hc _ tX10_leanThroughWires_55 _ _ _ (hw _ _ _ _ _ (zwk_s (zwk_s (zwk_n zwk_nil))) ((h.1 c1) P hw hc))), fun c2 => hc _ tX10_leanThroughWires_18 _ _ _ (hc _ tX10_leanThroughWires_19 _ _ _ (⟨_, _, (shX10 h0), (geX10 h0), rfl, hc _ tX10_leanThroughWires_22 _ _ _ (hc _ tX10_leanThroughWires_23 _ _ _ (⟨_, _, _, (shX10_3 h0), Or.inl ⟨rfl, (geX10_3 h0)⟩, (h.2 c2).1, hc _ tX10_leanThroughWires_24 _ _ _ (hc _ tX10_leanThroughWires_25 _ _ _ (⟨Nat.le_of_ble_eq_true rfl, Nat.le_of_ble_eq_true rfl, zl1, zl2, _, ctX11_hasBit (I (k0 + 4) (x2).toNatClampNeg) x1 I L, fun r u k5 => by obtain ⟨rfl, rfl⟩ := k5; exact ⟨zl3, zl4, hc _ tX10_leanThroughWires_28 _ _ _ (⟨fun c3 => hc _ tX10_leanThroughWires_46 _ _ _ (hc _ tX10_leanThroughWires_49 _ _ _ (((h.2 c2).2.1 (zb_e c3)) P hw hc)), fun c4 => hc _ tX10_leanThroughWires_31 _ _ _ (hc _ tX10_leanThroughWires_32 _ _ _ (⟨_, _, (shX10 h0), (geX10 h0), rfl, hc _ tX10_leanThroughWires_35 _ _ _ (hc _ tX10_leanThroughWires_36 _ _ _ (⟨⟨rfl, rfl⟩, hc _ tX10_leanThroughWires_37 _ _ _ (⟨_, _, _, (shX10_3 h0), Or.inl ⟨rfl, (geX10_3 h0)⟩, (h.2 c2).1, hc _ tX10_leanThroughWires_38 _ _ _ (hc _ tX10_leanThroughWires_39 _ _ _ (⟨_, _, (shX10 h0), (geX10 h0), rfl, hc _ tX10_leanThroughWires_42 _ _ _ (hc _ tX10_leanThroughWires_43 _ _ _ (⟨_, _, _, (shX10_3 h0), Or.inl ⟨rfl, (geX10_3 h0)⟩, ((h.2 c2).2.2 (zb_n c4)).1, hc _ tX10_leanThroughWires_44 _ _ _ (hc _ tX10_leanThroughWires_45 _ _ _ (⟨_, _, (shX10_3 h0), (geX10_3 h0), (h.2 c2).1, hc _ tX10_leanThroughWires_46 _ _ _ (hc _ tX10_leanThroughWires_49 _ _ _ (((h.2 c2).2.2 (zb_n c4)).2 P hw hc))⟩))⟩))⟩))⟩)⟩))⟩))⟩)⟩⟩))⟩))⟩))⟩)))
theorem ctX10_leanThroughWires {zn d : Nat} (k0 : Nat) (I : Nat → Nat → Int32) (L : Nat → Nat → Int64) (M : Nat → Nat) (h0 : isX10 k0) (q0 : zMk I (k0 + 4) M) : zcal zty zcd false (d + 2) 84 [.ref k0] (zSH zn, I, L) 0 0 (fun r u => ∃ (J : Nat → Nat → Int32), ∃ (A : Nat → Nat), r = none ∧ u = (zSH zn, J, L) ∧ (fr [k0 + 4] I J ∧ zMk J (k0 + 4) A ∧ wI M A 15)) := by
  refine eX10_leanThroughWires _ I L h0 (gX10_leanThroughWires_0 _ I L h0 ?_)
  have loop : ∀ (m w : Nat) (J : Nat → Nat → Int32) (A : Nat → Nat), w + m = 15 → 6 ≤ w → fr [k0 + 4] I J → zMk J (k0 + 4) A → wI M A w → RX10_leanThroughWires zn d (fun r u => ∃ (J : Nat → Nat → Int32), ∃ (A : Nat → Nat), r = none ∧ u = (zSH zn, J, L) ∧ (fr [k0 + 4] I J ∧ zMk J (k0 + 4) A ∧ wI M A 15)) 3 [some (.ref k0), some (.int (nI w)), none] [] (zSH zn, J, L) := by
    intro m
    induction m with
    | zero =>
      intro w J A hm h6 hf hk hw
      have : w = 15 := by omega
      subst this
      exact gX10_leanThroughWires_3 _ _ J L h0 ⟨fun _ => ⟨J, A, rfl, rfl, hf, hk, hw⟩, fun h => absurd (by decide) h⟩
    | succ m ih =>
      intro w J A hm h6 hf hk hw
      refine gX10_leanThroughWires_3 _ _ J L h0 ⟨fun h => absurd h ?_, fun _ => ?_⟩
      · rw [nl 15, nI_leI (by decide) (by omega)]; omega
      · have inner : ∀ (p n : Nat) (K : Nat → Nat → Int32), n + p = 19 → 6 ≤ n → fr [k0 + 4] I K → zMk K (k0 + 4) (fun i => if 6 ≤ i ∧ i < n then wS A w i else A i) → RX10_leanThroughWires zn d (fun r u => ∃ (J : Nat → Nat → Int32), ∃ (A : Nat → Nat), r = none ∧ u = (zSH zn, J, L) ∧ (fr [k0 + 4] I J ∧ zMk J (k0 + 4) A ∧ wI M A 15)) 12 [some (.ref k0), some (.int (nI w)), some (.int (nI n))] [] (zSH zn, K, L) := by
          intro p
          induction p with
          | zero =>
            intro n K hp hn6 hfK hK
            have : n = 19 := by omega
            subst this
            refine gX10_leanThroughWires_12 _ _ _ K L h0 ⟨fun _ => ?_, fun h => absurd (by decide) h⟩
            rw [nI_1]
            exact ih (w + 1) K _ (by omega) (by omega) hfK hK (wI_step h6 (by omega) hw)
          | succ p ihp =>
            intro n K hp hn6 hfK hK
            have hn : n < 19 := by omega
            have e1 : (nI n).toNatClampNeg = n := nI_clamp (by omega)
            have e2 : (nI w).toNatClampNeg = w := nI_clamp (by omega)
            have kn := hK n hn
            have kw := hK w (by omega)
            dsimp only at kn kw
            rw [if_neg (by omega)] at kn
            have hww : (if 6 ≤ w ∧ w < n then wS A w w else A w) = A w := by
              split
              · exact wS_self
              · rfl
            rw [hww] at kw
            have hbit : (¬ ((K (k0 + 4) n) >>> (nI w &&& 31)) &&& 1 = 0) ↔ (A n).testBit w = true := by
              rw [kn.1, nI_has (Nat.lt_trans kn.2 (by decide)) (by omega)]
            refine gX10_leanThroughWires_12 _ _ _ K L h0 ⟨fun h => absurd h ?_, fun _ => ⟨vin_nI hn (by decide), ?_⟩⟩
            · rw [nl 19, nI_leI (by decide) (by omega)]; omega
            · rw [e1, e2, nI_1, hbit]
              refine ⟨fun hb => ihp (n + 1) K (by omega) (by omega) hfK (fun i hi => ?_), fun hb => ⟨vin_nI (by omega) (by decide), ihp (n + 1) _ (by omega) (by omega) (fr_trans hfK (fr_zi (by simp))) (fun i hi => ?_)⟩⟩
              · have := hK i hi
                dsimp only at this ⊢
                by_cases hin : i = n
                · subst hin
                  rw [if_neg (by omega)] at this
                  rw [if_pos ⟨by omega, by omega⟩]
                  unfold wS
                  rw [if_neg hb]; exact this
                · by_cases h1 : 6 ≤ i ∧ i < n
                  · rw [if_pos h1] at this; rw [if_pos ⟨h1.1, by omega⟩]; exact this
                  · rw [if_neg h1] at this; rw [if_neg (by omega)]; exact this
              · have := hK i hi
                dsimp only at this ⊢
                rw [zi_at]
                by_cases hin : i = n
                · subst hin
                  rw [if_pos ⟨rfl, rfl⟩, if_pos ⟨by omega, by omega⟩]
                  unfold wS
                  rw [if_pos hb, kn.1, kw.1, fa_or]
                  exact ⟨rfl, Nat.or_lt_two_pow kn.2 kw.2⟩
                · rw [if_neg (fun z => hin z.2)]
                  by_cases h1 : 6 ≤ i ∧ i < n
                  · rw [if_pos h1] at this; rw [if_pos ⟨h1.1, by omega⟩]; exact this
                  · rw [if_neg h1] at this; rw [if_neg (by omega)]; exact this
        refine inner 13 6 J (by decide) (by decide) hf (fun i hi => ?_)
        dsimp only
        rw [if_neg (by omega)]
        exact hk i hi
  exact loop 9 6 I M (by decide) (by decide) fr_rf q0 wI_0
def lsW (p : Nat → Bool) : Nat → Nat → Int32
  | 0, _ => -4
  | m + 1, w => if p w = true then nI w else lsW p m (w + 1)
theorem lsW_cong {p q : Nat → Bool} : ∀ (m w : Nat), (∀ i, w ≤ i → i < w + m → p i = q i) → lsW p m w = lsW q m w
  | 0, _, _ => rfl
  | m + 1, w, h => by
    show (if p w = true then nI w else lsW p m (w + 1)) = (if q w = true then nI w else lsW q m (w + 1))
    rw [h w (by omega) (by omega), lsW_cong m (w + 1) (fun i h1 h2 => h i (by omega) (by omega))]
abbrev RX10_leastInRing (zn d : Nat) (post : zP) : zK := zRun (zcal zty zcd false (d + 1)) kX10_leastInRing (zLM zn) post
theorem eX10_leastInRing {zn d : Nat} {post : zP} (k0 : Nat) (I : Nat → Nat → Int32) (L : Nat → Nat → Int64) (h0 : isX10 k0) (h : RX10_leastInRing zn d post 0 [some (.ref k0), none] [] (zSH zn, I, L)) : zcal zty zcd false (d + 2) 85 [.ref k0] (zSH zn, I, L) 0 0 post := zcal_of (d := d + 1) zmt85 zmc85 rfl (Nat.le_of_ble_eq_true rfl) h
theorem gX10_leastInRing_0 {zn d : Nat} {post : zP} (k0 : Nat) (I : Nat → Nat → Int32) (L : Nat → Nat → Int64) (h0 : isX10 k0) (h : RX10_leastInRing zn d post 3 [some (.ref k0), some (.int (6 : Int32))] [] (zSH zn, I, L)) : RX10_leastInRing zn d post 0 [some (.ref k0), none] [] (zSH zn, I, L) := fun P hw hc => hc _ tX10_leastInRing_0 _ _ _ (hc _ tX10_leastInRing_2 _ _ _ (h P hw hc))
theorem gX10_leastInRing_3 {zn d : Nat} {post : zP} (k0 : Nat) (x1 : Int32) (I : Nat → Nat → Int32) (L : Nat → Nat → Int64) (h0 : isX10 k0) (h : ((15 : Int32) ≤ x1 → post (some (.int (-4 : Int32))) (zSH zn, I, L)) ∧ (¬ (15 : Int32) ≤ x1 → vp_in x1 19 ∧ ((¬ ((¬ ((I (k0 + 4) (x1).toNatClampNeg) >>> (x1 &&& 31)) &&& 1 = 0)) → RX10_leastInRing zn d post 3 [some (.ref k0), some (.int (x1 + (1 : Int32)))] [] (zSH zn, I, L)) ∧ ((¬ ((I (k0 + 4) (x1).toNatClampNeg) >>> (x1 &&& 31)) &&& 1 = 0) → post (some (.int x1)) (zSH zn, I, L))))) : RX10_leastInRing zn d post 3 [some (.ref k0), some (.int x1)] [] (zSH zn, I, L) := fun P hw hc => hc _ tX10_leastInRing_3 _ _ _ (hc _ tX10_leastInRing_4 _ _ _ (hc _ tX10_leastInRing_6 _ _ _ (⟨fun c1 => hc _ tX10_leastInRing_30 _ _ _ (hc _ tX10_leastInRing_32 _ _ _ (⟨nofun, rfl, rfl, (h.1 c1)⟩)), fun c2 => hc _ tX10_leastInRing_9 _ _ _ (hc _ tX10_leastInRing_10 _ _ _ (⟨_, _, (shX10 h0), (geX10 h0), rfl, hc _ tX10_leastInRing_13 _ _ _ (hc _ tX10_leastInRing_14 _ _ _ (⟨_, _, _, (shX10_3 h0), Or.inl ⟨rfl, (geX10_3 h0)⟩, (h.2 c2).1, hc _ tX10_leastInRing_15 _ _ _ (hc _ tX10_leastInRing_16 _ _ _ (⟨Nat.le_of_ble_eq_true rfl, Nat.le_of_ble_eq_true rfl, zl1, zl2, _, ctX11_hasBit (I (k0 + 4) (x1).toNatClampNeg) x1 I L, fun r u k5 => by obtain ⟨rfl, rfl⟩ := k5; exact ⟨zl3, zl4, hc _ tX10_leastInRing_19 _ _ _ (⟨fun c3 => hc _ tX10_leastInRing_24 _ _ _ (hc _ tX10_leastInRing_27 _ _ _ (((h.2 c2).2.1 (zb_e c3)) P hw hc)), fun c4 => hc _ tX10_leastInRing_22 _ _ _ (hc _ tX10_leastInRing_23 _ _ _ (⟨nofun, rfl, rfl, ((h.2 c2).2.2 (zb_n c4))⟩))⟩)⟩⟩))⟩))⟩))⟩)))
theorem ctX10_leastInRing {zn d : Nat} (k0 : Nat) (I : Nat → Nat → Int32) (L : Nat → Nat → Int64) (A : Nat → Nat) (h0 : isX10 k0) (q0 : zMk I (k0 + 4) A) : zcal zty zcd false (d + 2) 85 [.ref k0] (zSH zn, I, L) 0 0 (fun r u => r = some (.int (lsW (fun w => (A w).testBit w) 9 6)) ∧ u = (zSH zn, I, L)) := by
  refine eX10_leastInRing _ I L h0 (gX10_leastInRing_0 _ I L h0 ?_)
  have loop : ∀ (m w : Nat), w + m = 15 → 6 ≤ w → RX10_leastInRing zn d (fun r u => r = some (.int (lsW (fun w => (A w).testBit w) m w)) ∧ u = (zSH zn, I, L)) 3 [some (.ref k0), some (.int (nI w))] [] (zSH zn, I, L) := by
    intro m
    induction m with
    | zero =>
      intro w hm h6
      have : w = 15 := by omega
      subst this
      exact gX10_leastInRing_3 _ _ I L h0 ⟨fun _ => ⟨rfl, rfl⟩, fun h => absurd (by decide) h⟩
    | succ m ih =>
      intro w hm h6
      have e1 : (nI w).toNatClampNeg = w := nI_clamp (by omega)
      have kn := q0 w (by omega)
      have hbit : (¬ ((I (k0 + 4) w) >>> (nI w &&& 31)) &&& 1 = 0) ↔ (A w).testBit w = true := by
        rw [kn.1, nI_has (Nat.lt_trans kn.2 (by decide)) (by omega)]
      refine gX10_leastInRing_3 _ _ I L h0 ⟨fun h => absurd h ?_, fun _ => ⟨vin_nI (by omega) (by decide), ?_⟩⟩
      · rw [nl 15, nI_leI (by decide) (by omega)]; omega
      · rw [e1, nI_1, hbit]
        refine ⟨fun hb => ?_, fun hb => ?_⟩
        · have := ih (w + 1) (by omega) (by omega)
          unfold lsW
          rw [if_neg hb]; exact this
        · unfold lsW
          rw [if_pos hb]; exact ⟨rfl, rfl⟩
  exact loop 9 6 (by decide) (by decide)
abbrev RX10_leastLacking (zn d : Nat) (post : zP) : zK := zRun (zcal zty zcd false (d + 2)) kX10_leastLacking (zLM zn) post
theorem eX10_leastLacking {zn d : Nat} {post : zP} (k0 : Nat) (I : Nat → Nat → Int32) (L : Nat → Nat → Int64) (h0 : isX10 k0) (h : RX10_leastLacking zn d post 0 [some (.ref k0), none] [] (zSH zn, I, L)) : zcal zty zcd false (d + 3) 86 [.ref k0] (zSH zn, I, L) 0 0 post := zcal_of (d := d + 2) zmt86 zmc86 rfl (Nat.le_of_ble_eq_true rfl) h
theorem gX10_leastLacking_0 {zn d : Nat} {post : zP} (k0 : Nat) (I : Nat → Nat → Int32) (L : Nat → Nat → Int64) (h0 : isX10 k0) (h : RX10_leastLacking zn d post 3 [some (.ref k0), some (.int (6 : Int32))] [] (zSH zn, I, L)) : RX10_leastLacking zn d post 0 [some (.ref k0), none] [] (zSH zn, I, L) := fun P hw hc => hc _ tX10_leastLacking_0 _ _ _ (hc _ tX10_leastLacking_2 _ _ _ (h P hw hc))
theorem gX10_leastLacking_3 {zn d : Nat} {post : zP} (k0 : Nat) (x1 : Int32) (I : Nat → Nat → Int32) (L : Nat → Nat → Int64) (h0 : isX10 k0) (h : ((15 : Int32) ≤ x1 → post (some (.int (-4 : Int32))) (zSH zn, I, L)) ∧ (¬ (15 : Int32) ≤ x1 → vp_in x1 19 ∧ (((I (k0 + 5) (x1).toNatClampNeg) ≤ 0 → RX10_leastLacking zn d post 3 [some (.ref k0), some (.int (x1 + (1 : Int32)))] [] (zSH zn, I, L)) ∧ (¬ (I (k0 + 5) (x1).toNatClampNeg) ≤ 0 → ((¬ ((I k0 6) >>> (x1 &&& 31)) &&& 1 = 0) → RX10_leastLacking zn d post 3 [some (.ref k0), some (.int (x1 + (1 : Int32)))] [] (zSH zn, I, L)) ∧ (¬ ((¬ ((I k0 6) >>> (x1 &&& 31)) &&& 1 = 0)) → post (some (.int x1)) (zSH zn, I, L)))))) : RX10_leastLacking zn d post 3 [some (.ref k0), some (.int x1)] [] (zSH zn, I, L) := fun P hw hc => hc _ tX10_leastLacking_3 _ _ _ (hc _ tX10_leastLacking_4 _ _ _ (hc _ tX10_leastLacking_6 _ _ _ (⟨fun c1 => hc _ tX10_leastLacking_34 _ _ _ (hc _ tX10_leastLacking_36 _ _ _ (⟨nofun, rfl, rfl, (h.1 c1)⟩)), fun c2 => hc _ tX10_leastLacking_9 _ _ _ (hc _ tX10_leastLacking_10 _ _ _ (⟨_, _, (shX10 h0), (geX10 h0), rfl, hc _ tX10_leastLacking_13 _ _ _ (hc _ tX10_leastLacking_14 _ _ _ (⟨_, _, _, (shX10_4 h0), Or.inl ⟨rfl, (geX10_4 h0)⟩, (h.2 c2).1, hc _ tX10_leastLacking_15 _ _ _ (⟨fun c3 => hc _ tX10_leastLacking_28 _ _ _ (hc _ tX10_leastLacking_31 _ _ _ (((h.2 c2).2.1 c3) P hw hc)), fun c4 => hc _ tX10_leastLacking_18 _ _ _ (hc _ tX10_leastLacking_19 _ _ _ (hc _ tX10_leastLacking_20 _ _ _ (⟨⟨_, _, _, rfl, (geX10 h0), (shX10 h0)⟩, ⟨Nat.le_of_ble_eq_true rfl, Nat.le_of_ble_eq_true rfl, zl1, zl2, _, ctX10_hasLine k0 x1 I L h0, fun r u k7 => by obtain ⟨rfl, rfl⟩ := k7; exact ⟨zl3, zl4, hc _ tX10_leastLacking_23 _ _ _ (⟨fun c5 => hc _ tX10_leastLacking_28 _ _ _ (hc _ tX10_leastLacking_31 _ _ _ ((((h.2 c2).2.2 c4).1 (zb_n c5)) P hw hc)), fun c6 => hc _ tX10_leastLacking_26 _ _ _ (hc _ tX10_leastLacking_27 _ _ _ (⟨nofun, rfl, rfl, (((h.2 c2).2.2 c4).2 (zb_e c6))⟩))⟩)⟩⟩⟩)))⟩)⟩))⟩))⟩)))
theorem ctX10_leastLacking {zn d : Nat} (k0 : Nat) (I : Nat → Nat → Int32) (L : Nat → Nat → Int64) (c : Nat → Nat) (b : Nat) (h0 : isX10 k0) (q0 : ∀ n, n < 19 → I (k0 + 5) n = nI (c n) ∧ c n < 2 ^ 19) (q1 : I k0 6 = nI b) (q2 : b < 2 ^ 19) : zcal zty zcd false (d + 3) 86 [.ref k0] (zSH zn, I, L) 0 0 (fun r u => r = some (.int (lsW (fun w => decide (0 < c w) && !(b).testBit w) 9 6)) ∧ u = (zSH zn, I, L)) := by
  refine eX10_leastLacking _ I L h0 (gX10_leastLacking_0 _ I L h0 ?_)
  have loop : ∀ (m w : Nat), w + m = 15 → 6 ≤ w → RX10_leastLacking zn d (fun r u => r = some (.int (lsW (fun w => decide (0 < c w) && !(b).testBit w) m w)) ∧ u = (zSH zn, I, L)) 3 [some (.ref k0), some (.int (nI w))] [] (zSH zn, I, L) := by
    intro m
    induction m with
    | zero =>
      intro w hm h6
      have : w = 15 := by omega
      subst this
      exact gX10_leastLacking_3 _ _ I L h0 ⟨fun _ => ⟨rfl, rfl⟩, fun h => absurd (by decide) h⟩
    | succ m ih =>
      intro w hm h6
      have e1 : (nI w).toNatClampNeg = w := nI_clamp (by omega)
      have kn := q0 w (by omega)
      have hbit : (¬ ((I k0 6) >>> (nI w &&& 31)) &&& 1 = 0) ↔ b.testBit w = true := by
        rw [q1, nI_has (Nat.lt_trans q2 (by decide)) (by omega)]
      have hle : (I (k0 + 5) w ≤ 0) ↔ c w = 0 := by
        rw [kn.1, nl0, nI_leI (by omega) (by decide)]; omega
      have hih := ih (w + 1) (by omega) (by omega)
      refine gX10_leastLacking_3 _ _ I L h0 ⟨fun h => absurd h ?_, fun _ => ⟨vin_nI (by omega) (by decide), ?_⟩⟩
      · rw [nl 15, nI_leI (by decide) (by omega)]; omega
      · rw [e1, nI_1, hbit, hle]
        unfold lsW
        refine ⟨fun h1 => ?_, fun h1 => ⟨fun h2 => ?_, fun h2 => ?_⟩⟩
        · rw [if_neg (by simp [h1])]; exact hih
        · rw [if_neg (by simp [h2])]; exact hih
        · rw [if_pos (by simp [h2]; omega)]; exact ⟨rfl, rfl⟩
  exact loop 9 6 (by decide) (by decide)

