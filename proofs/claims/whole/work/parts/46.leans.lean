/-! LEANING, the reference's -/
theorem nI_has1 {n j : Nat} (hn : n < 2 ^ 31) (hj : j < 32) : ((nI n >>> (nI j &&& 31)) &&& 1 = 1) ↔ n.testBit j = true := by
  rw [nI_bit hn hj, nl1, nI_eq (by omega) (by omega), Nat.testBit_eq_decide_div_mod_eq]
  simp
def sbt (X Y : Nat) : Prop := ∀ m, X.testBit m = true → Y.testBit m = true
theorem sbt_le {X Y : Nat} (h : sbt X Y) : X ≤ Y := by
  have : Y = X ||| Y := by
    refine Nat.eq_of_testBit_eq (fun i => ?_)
    rw [Nat.testBit_or]
    cases hx : X.testBit i with
    | true => rw [h i hx]; rfl
    | false => simp
  rw [this]
  exact Nat.left_le_or
theorem sbt_or {X Y Z : Nat} (h : sbt X Y) : sbt X (Y ||| Z) := fun m hm => by rw [Nat.testBit_or, h m hm]; rfl
def lsd (M : Nat → Nat) (n S : Nat) : Prop := ∀ P : Nat → Prop, (∀ m, (M n).testBit m = true → P m) → (∀ w, 6 ≤ w → w < 15 → P w → ∀ m, (M w).testBit m = true → P m) → ∀ m, S.testBit m = true → P m
theorem dV_lt {V : zVw} {n : Nat} : dV V n < 2 ^ 19 := bm_lt _ _
abbrev RX12_leans (zn d : Nat) (post : zP) : zK := zRun (zcal zty zcd false (d + 2)) kX12_leans (zLM zn) post
theorem eX12_leans {zn d : Nat} {post : zP} (x1 : Int32) (x2 : Int32) (I : Nat → Nat → Int32) (L : Nat → Nat → Int64) (h : RX12_leans zn d post 0 [some (.ref 115), some (.int x1), some (.int x2), none, none, none] [] (zSH zn, I, L)) : zcal zty zcd false (d + 3) 144 [.ref 115, .int x1, .int x2] (zSH zn, I, L) 0 0 post := zcal_of (d := d + 2) zmt144 zmc144 rfl (Nat.le_of_ble_eq_true rfl) h
theorem gX12_leans_0 {zn d : Nat} {post : zP} (x1 : Int32) (x2 : Int32) (I : Nat → Nat → Int32) (L : Nat → Nat → Int64) (h : (∃ (V1 : zVw), (okV V1) ∧ (rLn I (tn x1) V1) ∧ (zs x1 6) ∧ (zs x2 18) ∧ (RX12_leans zn d post 10 [some (.ref 115), some (.int x1), some (.int x2), some (.int (nI (dV V1 (tn x2)))), some (.int (0 : Int32)), none] [] (zSH zn, I, L)))) : RX12_leans zn d post 0 [some (.ref 115), some (.int x1), some (.int x2), none, none, none] [] (zSH zn, I, L) := fun P hw hc => hc _ tX12_leans_0 _ _ _ (hc _ tX12_leans_1 _ _ _ (hc _ tX12_leans_2 _ _ _ ((by obtain ⟨V1, hg2⟩ := h; exact hc _ tX12_leans_3 _ _ _ (⟨⟨_, _, _, rfl, (by decide), sh115⟩, ⟨Nat.le_of_ble_eq_true rfl, Nat.le_of_ble_eq_true rfl, zl1, zl2, _, ctX12_namesIn x1 x2 I L V1 hg2.1 hg2.2.1 hg2.2.2.1 hg2.2.2.2.1, fun r u k3 => by obtain ⟨rfl, rfl⟩ := k3; exact ⟨zl3, zl4, hc _ tX12_leans_6 _ _ _ (hc _ tX12_leans_7 _ _ _ (hc _ tX12_leans_8 _ _ _ (hg2.2.2.2.2 P hw hc)))⟩⟩⟩)))))
theorem gX12_leans_10 {zn d : Nat} {post : zP} (x1 : Int32) (x2 : Int32) (x3 : Int32) (x4 : Int32) (I : Nat → Nat → Int32) (L : Nat → Nat → Int64) (h : (x3 = x4 → post (some (.int x3)) (zSH zn, I, L)) ∧ (¬ x3 = x4 → RX12_leans zn d post 23 [some (.ref 115), some (.int x1), some (.int x2), some (.int x3), some (.int x3), some (.int (6 : Int32))] [] (zSH zn, I, L))) : RX12_leans zn d post 10 [some (.ref 115), some (.int x1), some (.int x2), some (.int x3), some (.int x4), none] [] (zSH zn, I, L) := fun P hw hc => hc _ tX12_leans_10 _ _ _ (hc _ tX12_leans_11 _ _ _ (hc _ tX12_leans_13 _ _ _ (⟨fun c1 => hc _ tX12_leans_64 _ _ _ (hc _ tX12_leans_65 _ _ _ (⟨nofun, rfl, rfl, (h.1 c1)⟩)), fun c2 => hc _ tX12_leans_16 _ _ _ (hc _ tX12_leans_17 _ _ _ (hc _ tX12_leans_19 _ _ _ (hc _ tX12_leans_21 _ _ _ ((h.2 c2) P hw hc))))⟩)))
theorem gX12_leans_23 {zn d : Nat} {post : zP} (x1 : Int32) (x2 : Int32) (x3 : Int32) (x4 : Int32) (x5 : Int32) (I : Nat → Nat → Int32) (L : Nat → Nat → Int64) (h : ((15 : Int32) ≤ x5 → RX12_leans zn d post 10 [some (.ref 115), some (.int x1), some (.int x2), some (.int x3), some (.int x4), none] [] (zSH zn, I, L)) ∧ (¬ (15 : Int32) ≤ x5 → (¬ ((x4 >>> (x5 &&& 31)) &&& (1 : Int32)) = (1 : Int32) → RX12_leans zn d post 23 [some (.ref 115), some (.int x1), some (.int x2), some (.int (x3 ||| (0 : Int32))), some (.int x4), some (.int (x5 + (1 : Int32)))] [] (zSH zn, I, L)) ∧ (((x4 >>> (x5 &&& 31)) &&& (1 : Int32)) = (1 : Int32) → (∃ (V5 : zVw), (okV V5) ∧ (rLn I (tn x1) V5) ∧ (zs x1 6) ∧ (zs x5 18) ∧ (RX12_leans zn d post 23 [some (.ref 115), some (.int x1), some (.int x2), some (.int (x3 ||| (nI (dV V5 (tn x5))))), some (.int x4), some (.int (x5 + (1 : Int32)))] [] (zSH zn, I, L)))))) : RX12_leans zn d post 23 [some (.ref 115), some (.int x1), some (.int x2), some (.int x3), some (.int x4), some (.int x5)] [] (zSH zn, I, L) := fun P hw hc => hc _ tX12_leans_23 _ _ _ (hc _ tX12_leans_25 _ _ _ (hc _ tX12_leans_27 _ _ _ (⟨fun c1 => hc _ tX12_leans_61 _ _ _ (hw _ _ _ _ _ (zwk_s (zwk_s (zwk_s (zwk_s (zwk_s (zwk_n zwk_nil)))))) ((h.1 c1) P hw hc)), fun c2 => hc _ tX12_leans_30 _ _ _ (hc _ tX12_leans_31 _ _ _ (hc _ tX12_leans_33 _ _ _ (hc _ tX12_leans_35 _ _ _ (hc _ tX12_leans_36 _ _ _ (hc _ tX12_leans_37 _ _ _ (hc _ tX12_leans_38 _ _ _ (hc _ tX12_leans_39 _ _ _ (⟨fun c3 => hc _ tX12_leans_52 _ _ _ (hc _ tX12_leans_53 _ _ _ (hc _ tX12_leans_54 _ _ _ (hc _ tX12_leans_55 _ _ _ (hc _ tX12_leans_58 _ _ _ (((h.2 c2).1 c3) P hw hc))))), fun c4 => hc _ tX12_leans_42 _ _ _ (hc _ tX12_leans_43 _ _ _ (hc _ tX12_leans_44 _ _ _ ((by obtain ⟨V5, hg6⟩ := ((h.2 c2).2 c4); exact hc _ tX12_leans_46 _ _ _ (⟨⟨_, _, _, rfl, (by decide), sh115⟩, ⟨Nat.le_of_ble_eq_true rfl, Nat.le_of_ble_eq_true rfl, zl1, zl2, _, ctX12_namesIn x1 x5 I L V5 hg6.1 hg6.2.1 hg6.2.2.1 hg6.2.2.2.1, fun r u k7 => by obtain ⟨rfl, rfl⟩ := k7; exact ⟨zl3, zl4, hc _ tX12_leans_49 _ _ _ (hc _ tX12_leans_53 _ _ _ (hc _ tX12_leans_54 _ _ _ (hc _ tX12_leans_55 _ _ _ (hc _ tX12_leans_58 _ _ _ (hg6.2.2.2.2 P hw hc)))))⟩⟩⟩)))))⟩))))))))⟩)))
theorem ctX12_leans {zn d : Nat} (x1 : Int32) (x2 : Int32) (I : Nat → Nat → Int32) (L : Nat → Nat → Int64) (V : zVw) (q0 : okV V) (q1 : rLn I (tn x1) V) (q2 : zs x1 6) (q3 : zs x2 18) (q4 : 6 ≤ tn x2) : zcal zty zcd false (d + 3) 144 [.ref 115, .int x1, .int x2] (zSH zn, I, L) 0 0 (fun r u => r = some (.int (nI (lea V (tn x2)))) ∧ u = (zSH zn, I, L)) := by
  obtain ⟨v, hv, rfl⟩ := q2
  obtain ⟨n, hn, rfl⟩ := q3
  have tnn : tn (nI n) = n := tn_nI (by omega)
  rw [tnn] at q4 ⊢
  refine eX12_leans _ _ I L (gX12_leans_0 _ _ I L ⟨V, q0, q1, ⟨v, hv, rfl⟩, ⟨n, hn, rfl⟩, ?_⟩)
  rw [tnn]
  have loop : ∀ (M S B : Nat), 2 ^ 19 - B ≤ M → S < 2 ^ 19 → B < 2 ^ 19 → sbt (dV V n) S → lsd (dV V) n S → sbt B S → (∀ w, 6 ≤ w → w < 15 → B.testBit w = true → sbt (dV V w) S) → RX12_leans zn d (fun r u => r = some (.int (nI (lea V n))) ∧ u = (zSH zn, I, L)) 10 [some (.ref 115), some (.int (nI v)), some (.int (nI n)), some (.int (nI S)), some (.int (nI B)), none] [] (zSH zn, I, L) := by
    intro M
    induction M with
    | zero => intro S B h1 h2 h3; omega
    | succ M ih =>
      intro S B hM hS hB a1 a2 a3 a4
      refine gX12_leans_10 _ _ _ _ I L ⟨fun h => ?_, fun h => ?_⟩
      · have hSB : S = B := nI_inj (by omega) (by omega) h
        subst hSB
        have : isClo (dV V) n S := ⟨a1, a4, a2⟩
        rw [isClo_eq this (lea_clo V q4 (by omega))]
        exact ⟨rfl, rfl⟩
      · have hSB : S ≠ B := fun z => h (by rw [z])
        have hlt : B < S := by have := sbt_le a3; omega
        have inner : ∀ (p w Q : Nat), w + p = 15 → 6 ≤ w → Q < 2 ^ 19 → sbt S Q → lsd (dV V) n Q → (∀ u, 6 ≤ u → u < w → S.testBit u = true → sbt (dV V u) Q) → RX12_leans zn d (fun r u => r = some (.int (nI (lea V n))) ∧ u = (zSH zn, I, L)) 23 [some (.ref 115), some (.int (nI v)), some (.int (nI n)), some (.int (nI Q)), some (.int (nI S)), some (.int (nI w))] [] (zSH zn, I, L) := by
          intro p
          induction p with
          | zero =>
            intro w Q hw h6 hQ b1 b2 b3
            have : w = 15 := by omega
            subst this
            exact gX12_leans_23 _ _ _ _ _ I L ⟨fun _ => ih Q S (by omega) hQ hS (fun m hm => b1 m (a1 m hm)) b2 b1 b3, fun h => absurd (by decide) h⟩
          | succ p ihp =>
            intro w Q hw h6 hQ b1 b2 b3
            have tw : tn (nI w) = w := tn_nI (by omega)
            refine gX12_leans_23 _ _ _ _ _ I L ⟨fun h => absurd h ?_, fun _ => ?_⟩
            · rw [nl 15, nI_leI (by decide) (by omega)]; omega
            · rw [nI_has1 (by omega) (by omega), nI_1, or_0]
              refine ⟨fun h => ihp (w + 1) Q (by omega) (by omega) hQ b1 b2 (fun u u6 uw hu => ?_), fun h => ⟨V, q0, q1, ⟨v, hv, rfl⟩, ⟨w, by omega, rfl⟩, ?_⟩⟩
              · by_cases huw : u = w
                · subst huw; exact absurd hu h
                · exact b3 u u6 (by omega) hu
              · rw [tw, fa_or]
                refine ihp (w + 1) (Q ||| dV V w) (by omega) (by omega) (Nat.or_lt_two_pow hQ dV_lt) (sbt_or b1) (fun P p1 p2 m hm => ?_) (fun u u6 uw hu => ?_)
                · rw [Nat.testBit_or, Bool.or_eq_true] at hm
                  rcases hm with hm | hm
                  · exact b2 P p1 p2 m hm
                  · exact p2 w h6 (by omega) (a2 P p1 p2 w h) m hm
                · by_cases huw : u = w
                  · subst huw
                    exact fun m hm => by rw [Nat.testBit_or, hm, Bool.or_true]
                  · exact sbt_or (b3 u u6 (by omega) hu)
        exact inner 9 6 S (by decide) (by decide) hS (fun _ h => h) a2 (fun u u6 u7 => by omega)
  refine loop (2 ^ 19) (dV V n) 0 (by omega) dV_lt (by decide) (fun _ h => h) (fun P p1 _ m hm => p1 m hm) (fun m hm => by simp at hm) (fun w _ _ hw => by simp at hw)

