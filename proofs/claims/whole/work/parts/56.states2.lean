/-! states, both -/
abbrev RX11_states (zn d : Nat) (post : zP) : zK := zRun (zcal zty zcd false (d + 5)) kX11_states (zLM zn) post
theorem eX11_states {zn d : Nat} {post : zP} (I : Nat → Nat → Int32) (L : Nat → Nat → Int64) (h : RX11_states zn d post 0 [some (.ref 5)] [] (zSH zn, I, L)) : zcal zty zcd false (d + 6) 102 [.ref 5] (zSH zn, I, L) 0 0 post := zcal_of (d := d + 5) zmt102 zmc102 rfl (Nat.le_of_ble_eq_true rfl) h
theorem gX11_states_0 {zn d : Nat} {post : zP} (I : Nat → Nat → Int32) (L : Nat → Nat → Int64) (h : (∃ (V3 : zVw) (os4 : List Nat) (a5 : Nat), (cEv I 12 V3 os4) ∧ (nSt L 37) ∧ (inpL L) ∧ ((I 5 14) = nI a5) ∧ (a5 < 16) ∧ (∀ (K1 : Nat → Nat → Int64) (X2 : Nat), (fr [37 + 1, 37 + 2, 37 + 5] L K1 ∧ isRch V3 a5 X2) → post (some (.int (nI X2))) (zSH zn, I, K1)))) : RX11_states zn d post 0 [some (.ref 5)] [] (zSH zn, I, L) := fun P hw hc => hc _ tX11_states_0 _ _ _ (hc _ tX11_states_1 _ _ _ (⟨_, _, sh5, (by decide), rfl, hc _ tX11_states_4 _ _ _ (hc _ tX11_states_5 _ _ _ (⟨_, _, sh5, (by decide), rfl, hc _ tX11_states_8 _ _ _ (hc _ tX11_states_9 _ _ _ (⟨_, _, _, sh11, (by decide), by decide, zvin (by decide), rfl, hc _ tX11_states_10 _ _ _ (hc _ tX11_states_11 _ _ _ (⟨_, sh5, (by decide), (by obtain ⟨V3, os4, a5, hg6⟩ := h; exact hc _ tX11_states_14 _ _ _ (⟨⟨_, _, _, rfl, (by decide), sh37⟩, ⟨Nat.le_of_ble_eq_true rfl, Nat.le_of_ble_eq_true rfl, zl1, zl2, _, ctX4_statesFrom 37 12 (I 5 14) I L V3 os4 a5 isX4_37 isX10_12 hg6.1 hg6.2.1 hg6.2.2.1 hg6.2.2.2.1 hg6.2.2.2.2.1, fun r u k8 => by obtain ⟨K1, X2, rfl, rfl, p7⟩ := k8; exact ⟨zl3, zl4, hc _ tX11_states_17 _ _ _ (⟨nofun, rfl, rfl, (hg6.2.2.2.2.2 K1 X2 p7)⟩)⟩⟩⟩))⟩))⟩))⟩))⟩))
theorem ctX11_states {zn d : Nat} (I : Nat → Nat → Int32) (L : Nat → Nat → Int64) (V : zVw) (os : List Nat) (a : Nat) (q0 : cEv I 12 V os) (q1 : nSt L 37) (q2 : inpL L) (q3 : I 5 14 = nI a) (q4 : a < 16) : zcal zty zcd false (d + 6) 102 [.ref 5] (zSH zn, I, L) 0 0 (fun r u => ∃ (K : Nat → Nat → Int64), ∃ (X : Nat), r = some (.int (nI X)) ∧ u = (zSH zn, I, K) ∧ (fr [38, 39, 42] L K ∧ isRch V a X)) := by
  exact eX11_states I L (gX11_states_0 I L ⟨V, os, a, q0, q1, q2, q3, q4, fun K X hX => ⟨K, X, rfl, rfl, hX⟩⟩)
theorem bm_or1 {p : Nat → Bool} {r : Nat} (hr : r < 31) : nI (bm p r) ||| (tri (p r) <<< (nI r &&& 31)) = nI (bm p (r + 1)) := by
  rw [bm_s]
  cases p r with
  | true =>
    show nI (bm p r) ||| ((1 : Int32) <<< (nI r &&& 31)) = _
    rw [nI_shl1 hr, fa_or, if_pos rfl]
  | false =>
    show nI (bm p r) ||| (nI 0 <<< (nI r &&& 31)) = _
    rw [nI_shl (by omega) (by rw [Nat.zero_mul]; decide), Nat.zero_mul, fa_or, Nat.or_zero, if_neg (by decide)]
abbrev RX12_states (zn d : Nat) (post : zP) : zK := zRun (zcal zty zcd false (d + 5)) kX12_states (zLM zn) post
theorem eX12_states {zn d : Nat} {post : zP} (I : Nat → Nat → Int32) (L : Nat → Nat → Int64) (h : RX12_states zn d post 0 [some (.ref 115), none, none, none, none, none] [] (zSH zn, I, L)) : zcal zty zcd false (d + 6) 170 [.ref 115] (zSH zn, I, L) 0 0 post := zcal_of (d := d + 5) zmt170 zmc170 rfl (Nat.le_of_ble_eq_true rfl) h
theorem gX12_states_0 {zn d : Nat} {post : zP} (I : Nat → Nat → Int32) (L : Nat → Nat → Int64) (h : RX12_states zn d post 11 [some (.ref 115), some (.int ((1 : Int32) <<< ((I 125 0) &&& 31))), some (.int (0 : Int32)), none, none, none] [] (zSH zn, I, L)) : RX12_states zn d post 0 [some (.ref 115), none, none, none, none, none] [] (zSH zn, I, L) := fun P hw hc => hc _ tX12_states_0 _ _ _ (hc _ tX12_states_1 _ _ _ (hc _ tX12_states_2 _ _ _ (⟨_, _, sh115, (by decide), rfl, hc _ tX12_states_5 _ _ _ (hc _ tX12_states_6 _ _ _ (⟨_, _, _, sh125, Or.inl ⟨rfl, (by decide)⟩, zvin (by decide), hc _ tX12_states_7 _ _ _ (hc _ tX12_states_8 _ _ _ (hc _ tX12_states_9 _ _ _ (hc _ tX12_states_10 _ _ _ (h P hw hc))))⟩))⟩)))
theorem gX12_states_11 {zn d : Nat} {post : zP} (x1 : Int32) (x2 : Int32) (I : Nat → Nat → Int32) (L : Nat → Nat → Int64) (h : (x1 = x2 → post (some (.int x1)) (zSH zn, I, L)) ∧ (¬ x1 = x2 → RX12_states zn d post 20 [some (.ref 115), some (.int x1), some (.int x1), some (.int (0 : Int32)), none, none] [] (zSH zn, I, L))) : RX12_states zn d post 11 [some (.ref 115), some (.int x1), some (.int x2), none, none, none] [] (zSH zn, I, L) := fun P hw hc => hc _ tX12_states_11 _ _ _ (hc _ tX12_states_12 _ _ _ (hc _ tX12_states_13 _ _ _ (⟨fun c1 => hc _ tX12_states_97 _ _ _ (hc _ tX12_states_98 _ _ _ (⟨nofun, rfl, rfl, (h.1 c1)⟩)), fun c2 => hc _ tX12_states_16 _ _ _ (hc _ tX12_states_17 _ _ _ (hc _ tX12_states_18 _ _ _ (hc _ tX12_states_19 _ _ _ ((h.2 c2) P hw hc))))⟩)))
theorem gX12_states_20 {zn d : Nat} {post : zP} (x1 : Int32) (x2 : Int32) (x3 : Int32) (I : Nat → Nat → Int32) (L : Nat → Nat → Int64) (h : ((1024 : Int32) ≤ x3 → RX12_states zn d post 11 [some (.ref 115), some (.int x1), some (.int x2), none, none, none] [] (zSH zn, I, L)) ∧ (¬ (1024 : Int32) ≤ x3 → (¬ ((x2 >>> ((x3 >>> ((6 : Int32) &&& 31)) &&& 31)) &&& (1 : Int32)) = (1 : Int32) → RX12_states zn d post 20 [some (.ref 115), some (.int x1), some (.int x2), some (.int (x3 + (1 : Int32))), none, none] [] (zSH zn, I, L)) ∧ (((x2 >>> ((x3 >>> ((6 : Int32) &&& 31)) &&& 31)) &&& (1 : Int32)) = (1 : Int32) → (∃ (V6 : zVw) (os7 : List Nat), (zs (0 : Int32) 6) ∧ (rEv I (tn (0 : Int32)) V6 os7) ∧ (∀ (J5 : Nat → Nat → Int32), (rRow I J5 V6 x3) → RX12_states zn d post 51 [some (.ref 115), some (.int x1), some (.int x2), some (.int x3), some (.int (0 : Int32)), some (.int (0 : Int32))] [] (zSH zn, J5, L)))))) : RX12_states zn d post 20 [some (.ref 115), some (.int x1), some (.int x2), some (.int x3), none, none] [] (zSH zn, I, L) := fun P hw hc => hc _ tX12_states_20 _ _ _ (hc _ tX12_states_21 _ _ _ (hc _ tX12_states_24 _ _ _ (⟨fun c1 => hc _ tX12_states_94 _ _ _ (hw _ _ _ _ _ (zwk_s (zwk_s (zwk_s (zwk_n (zwk_s (zwk_s zwk_nil)))))) ((h.1 c1) P hw hc)), fun c2 => hc _ tX12_states_27 _ _ _ (hc _ tX12_states_28 _ _ _ (hc _ tX12_states_29 _ _ _ (hc _ tX12_states_31 _ _ _ (hc _ tX12_states_32 _ _ _ (hc _ tX12_states_33 _ _ _ (hc _ tX12_states_34 _ _ _ (hc _ tX12_states_35 _ _ _ (hc _ tX12_states_36 _ _ _ (⟨fun c3 => hc _ tX12_states_88 _ _ _ (hc _ tX12_states_91 _ _ _ (((h.2 c2).1 c3) P hw hc)), fun c4 => hc _ tX12_states_39 _ _ _ (hc _ tX12_states_40 _ _ _ (hc _ tX12_states_41 _ _ _ ((by obtain ⟨V6, os7, hg8⟩ := ((h.2 c2).2 c4); exact hc _ tX12_states_42 _ _ _ (⟨⟨_, _, _, rfl, (by decide), sh115⟩, ⟨Nat.le_of_ble_eq_true rfl, Nat.le_of_ble_eq_true rfl, zl1, zl2, _, ctX12_layRow (0 : Int32) x3 I L V6 os7 hg8.1 hg8.2.1, fun r u k10 => by obtain ⟨J5, rfl, rfl, p9⟩ := k10; exact ⟨zl3, zl4, hc _ tX12_states_45 _ _ _ (hc _ tX12_states_46 _ _ _ (hc _ tX12_states_48 _ _ _ (hc _ tX12_states_49 _ _ _ ((hg8.2.2 J5 p9) P hw hc))))⟩⟩⟩)))))⟩)))))))))⟩)))
theorem gX12_states_51 {zn d : Nat} {post : zP} (x1 : Int32) (x2 : Int32) (x3 : Int32) (x4 : Int32) (x5 : Int32) (I : Nat → Nat → Int32) (L : Nat → Nat → Int64) (h : ((4 : Int32) ≤ x5 → RX12_states zn d post 20 [some (.ref 115), some (.int (x1 ||| ((1 : Int32) <<< (x4 &&& 31)))), some (.int x2), some (.int (x3 + (1 : Int32))), none, none] [] (zSH zn, I, L)) ∧ (¬ (4 : Int32) ≤ x5 → (∃ (V4 : zVw), (okV V4) ∧ (rLn I (tn (0 : Int32)) V4) ∧ (zs (0 : Int32) 6) ∧ (zs ((15 : Int32) + x5) 18) ∧ (∀ (M3 : Nat → Int32), RX12_states zn d post 51 [some (.ref 115), some (.int x1), some (.int x2), some (.int x3), some (.int (x4 ||| ((tolR I V4 (tn ((15 : Int32) + x5))) <<< (x5 &&& 31)))), some (.int (x5 + (1 : Int32)))] [] (zSH zn, (zrI I 131 M3), L))))) : RX12_states zn d post 51 [some (.ref 115), some (.int x1), some (.int x2), some (.int x3), some (.int x4), some (.int x5)] [] (zSH zn, I, L) := fun P hw hc => hc _ tX12_states_51 _ _ _ (hc _ tX12_states_53 _ _ _ (hc _ tX12_states_54 _ _ _ (⟨fun c1 => hc _ tX12_states_81 _ _ _ (hc _ tX12_states_82 _ _ _ (hc _ tX12_states_83 _ _ _ (hc _ tX12_states_85 _ _ _ (hc _ tX12_states_86 _ _ _ (hc _ tX12_states_87 _ _ _ (hc _ tX12_states_88 _ _ _ (hc _ tX12_states_91 _ _ _ (hw _ _ _ _ _ (zwk_s (zwk_s (zwk_s (zwk_s (zwk_n (zwk_n zwk_nil)))))) ((h.1 c1) P hw hc))))))))), fun c2 => hc _ tX12_states_57 _ _ _ (hc _ tX12_states_59 _ _ _ (hc _ tX12_states_60 _ _ _ (hc _ tX12_states_61 _ _ _ (hc _ tX12_states_63 _ _ _ (hc _ tX12_states_65 _ _ _ ((by obtain ⟨V4, hg5⟩ := (h.2 c2); exact hc _ tX12_states_66 _ _ _ (⟨⟨_, _, _, rfl, (by decide), sh115⟩, ⟨Nat.le_of_ble_eq_true rfl, Nat.le_of_ble_eq_true rfl, zl1, zl2, _, ctX12_told (0 : Int32) ((15 : Int32) + x5) I L V4 hg5.1 hg5.2.1 hg5.2.2.1 hg5.2.2.2.1, fun r u k6 => by obtain ⟨M3, rfl, rfl⟩ := k6; exact ⟨zl3, zl4, hc _ tX12_states_69 _ _ _ (hc _ tX12_states_71 _ _ _ (hc _ tX12_states_72 _ _ _ (hc _ tX12_states_73 _ _ _ (hc _ tX12_states_75 _ _ _ (hc _ tX12_states_78 _ _ _ ((hg5.2.2.2.2 M3) P hw hc))))))⟩⟩⟩))))))))⟩)))
theorem ctX12_states {zn d : Nat} (I : Nat → Nat → Int32) (L : Nat → Nat → Int64) (V : zVw) (ps : List Nat) (a : Nat) (q0 : rEv I 0 V ps) (q1 : I 115 18 = -4) (q2 : I 125 0 = nI a) (q3 : a < 16) : zcal zty zcd false (d + 6) 170 [.ref 115] (zSH zn, I, L) 0 0 (fun r u => ∃ (J : Nat → Nat → Int32), ∃ (X : Nat), r = some (.int (nI X)) ∧ u = (zSH zn, J, L) ∧ (fr [130, 131] I J ∧ isRch V a X)) := by
  have t0 : tn (0 : Int32) = 0 := by decide
  have z0 : zs (0 : Int32) 6 := ⟨0, by decide, by decide⟩
  refine eX12_states I L (gX12_states_0 I L ?_)
  rw [q2, nI_shl1 (by omega)]
  have loop : ∀ (M R D : Nat) (J : Nat → Nat → Int32), 2 ^ 16 - D ≤ M → fr [130, 131] I J → R < 2 ^ 16 → D < 2 ^ 16 → sbt D R → R.testBit a = true → (∀ s t, s < 16 → t < 64 → D.testBit s = true → R.testBit (nxt V (64 * s + t)) = true) → (∀ S : Nat → Prop, S a → (∀ s t, s < 16 → t < 64 → S s → S (nxt V (64 * s + t))) → ∀ m, R.testBit m = true → S m) → RX12_states zn d (fun r u => ∃ (J : Nat → Nat → Int32), ∃ (X : Nat), r = some (.int (nI X)) ∧ u = (zSH zn, J, L) ∧ (fr [130, 131] I J ∧ isRch V a X)) 11 [some (.ref 115), some (.int (nI R)), some (.int (nI D)), none, none, none] [] (zSH zn, J, L) := by
    intro M
    induction M with
    | zero => intro R D J h1 _ _ h3; omega
    | succ M ih =>
      intro R D J hM f1 f2 f2' f3 f4 f5 f6
      refine gX12_states_11 _ _ J L ⟨fun he => ?_, fun he => ?_⟩
      · have e : R = D := nI_inj (by omega) (by omega) he
        subst e
        exact ⟨J, R, rfl, rfl, f1, f2, f4, f5, f6⟩
      · have hne : R ≠ D := fun z => he (by rw [z])
        have hlt : D < R := by have := sbt_le f3; omega
        have inner : ∀ x (p : (Nat → Nat → Int32) × Nat), x ≤ 1024 → (fr [130, 131] I p.1 ∧ p.2 < 2 ^ 16 ∧ sbt R p.2 ∧ (∀ S : Nat → Prop, S a → (∀ s t, s < 16 → t < 64 → S s → S (nxt V (64 * s + t))) → ∀ m, p.2.testBit m = true → S m) ∧ ∀ y, y < x → R.testBit (y / 64) = true → p.2.testBit (nxt V y) = true) → RX12_states zn d (fun r u => ∃ (J : Nat → Nat → Int32), ∃ (X : Nat), r = some (.int (nI X)) ∧ u = (zSH zn, J, L) ∧ (fr [130, 131] I J ∧ isRch V a X)) 20 [some (.ref 115), some (.int (nI p.2)), some (.int (nI R)), some (.int (nI x)), none, none] [] (zSH zn, p.1, L) := by
          refine zup (fun p hp => ?_) (fun x p hx hp ihx => ?_)
          · obtain ⟨N, Q⟩ := p
            obtain ⟨g1, g2, g3, g4, g5⟩ := hp
            dsimp only at g1 g2 g3 g4 g5
            refine gX12_states_20 _ _ _ N L ⟨fun _ => ?_, fun hc => absurd (by decide) hc⟩
            refine ih Q R N (by omega) g1 g2 f2 g3 (g3 a f4) (fun s t hs ht hb => ?_) g4
            exact g5 (64 * s + t) (by omega) (by rw [show (64 * s + t) / 64 = s by omega]; exact hb)
          · obtain ⟨N, Q⟩ := p
            obtain ⟨g1, g2, g3, g4, g5⟩ := hp
            dsimp only at g1 g2 g3 g4 g5
            have hc := rEv_fr q0 g1
            have hq : N 115 18 = -4 := by rw [g1 115 (by decide)]; exact q1
            refine gX12_states_20 _ _ _ N L ⟨fun hc => absurd hc (by rw [nl 1024, nI_leI (by decide) (by omega)]; omega), fun _ => ?_⟩
            rw [nl 6, nI_shr (by omega) (by decide), show x / 2 ^ 6 = x / 64 by rfl, nI_has1 (by omega) (by omega), nI_1]
            refine ⟨fun hb => ihx (N, Q) ⟨g1, g2, g3, g4, fun y hy hR => ?_⟩, fun hb => ⟨V, ps, z0, by rw [t0]; exact hc, fun N2 hN2 => ?_⟩⟩
            · by_cases hyx : y = x
              · subst hyx; exact absurd hR hb
              · exact g5 y (by omega) hR
            · have told : ∀ n, n < 19 → tolR N2 V n = tri (tb V none x n) := fun n hn => toldB hc.1 (rEv_tw hc) (by omega) hN2 hq hn
              have regs : ∀ r N3, r ≤ 4 → (fr [131] N2 N3) → RX12_states zn d (fun r u => ∃ (J : Nat → Nat → Int32), ∃ (X : Nat), r = some (.int (nI X)) ∧ u = (zSH zn, J, L) ∧ (fr [130, 131] I J ∧ isRch V a X)) 51 [some (.ref 115), some (.int (nI Q)), some (.int (nI R)), some (.int (nI x)), some (.int (nI (bm (fun r => tb V none x (15 + r)) r))), some (.int (nI r))] [] (zSH zn, N3, L) := by
                refine zup (fun N3 h3 => ?_) (fun r N3 hr h3 ihr => ?_)
                · refine gX12_states_51 _ _ _ _ _ N3 L ⟨fun _ => ?_, fun hc => absurd (by decide) hc⟩
                  have hn4 : bm (fun r => tb V none x (15 + r)) 4 = nxt V x := rfl
                  have hn16 := nxt_lt V x
                  rw [hn4, nI_shl1 (by omega), fa_or, nI_1]
                  refine ihx (N3, Q ||| 2 ^ nxt V x) ⟨fr_trans g1 (fr_trans hN2.1 (fr_sub h3 (by decide))), Nat.or_lt_two_pow g2 (Nat.pow_lt_pow_right (by decide) hn16), sbt_or g3, fun S s0 s1 m hm => ?_, fun y hy hR => ?_⟩
                  · dsimp only at hm
                    rw [Nat.testBit_or, Bool.or_eq_true, Nat.testBit_two_pow] at hm
                    rcases hm with hm | hm
                    · exact g4 S s0 s1 m hm
                    · have e := of_decide_eq_true hm
                      have := s1 (x / 64) (x % 64) (by omega) (by omega) (f6 S s0 s1 _ hb)
                      rw [show 64 * (x / 64) + x % 64 = x by omega, e] at this
                      exact this
                  · dsimp only
                    rw [Nat.testBit_or, Bool.or_eq_true]
                    by_cases hyx : y = x
                    · subst hyx
                      exact Or.inr (by rw [Nat.testBit_two_pow]; simp)
                    · exact Or.inl (g5 y (by omega) hR)
                · have e : (15 : Int32) + nI r = nI (15 + r) := by rw [nl 15, nI_add]
                  have tr : tn (nI (15 + r)) = 15 + r := tn_nI (by omega)
                  have hl3 : rLn N3 0 V := rLn_fr (rEv_fr hc hN2.1).2.1 (h3 118 (by decide)) (h3 119 (by decide)) (h3 120 (by decide))
                  have ht3 : tolR N3 V (15 + r) = tolR N2 V (15 + r) := by
                    unfold tolR usR
                    rw [h3 130 (by decide), h3 115 (by decide)]
                  refine gX12_states_51 _ _ _ _ _ N3 L ⟨fun hc => absurd hc (by rw [nl 4, nI_leI (by decide) (by omega)]; omega), fun _ => ⟨V, hc.1, by rw [t0]; exact hl3, z0, by rw [e]; exact ⟨15 + r, by omega, rfl⟩, fun M3 => ?_⟩⟩
                  rw [e, tr, ht3, told _ (by omega), bm_or1 (p := fun r => tb V none x (15 + r)) (by omega), nI_1]
                  exact ihr _ (zrI_fr h3 (by decide))
              exact regs 0 N2 (by decide) fr_rf
        exact inner 0 (J, R) (by decide) ⟨f1, f2, fun _ z => z, f6, fun y hy => absurd hy (by omega)⟩
  refine loop (2 ^ 16) (2 ^ a) 0 I (by omega) fr_rf (Nat.pow_lt_pow_right (by decide) q3) (by decide) (fun m hm => by simp at hm) (by rw [Nat.testBit_two_pow]; simp) (fun s t _ _ hb => by simp at hb) (fun S s0 _ m hm => ?_)
  rw [Nat.testBit_two_pow] at hm
  rw [← of_decide_eq_true hm]; exact s0
theorem unl_s (L : Nat → Nat → Int64) (k0 k1 : Nat) (x : Int32) (n : Nat) : unl L k0 k1 x (n + 1) = if ¬ (x >>> (nI n &&& 31)) &&& 1 = 0 then unl L k0 k1 x n ||| ((L (k0 + 2) n) ^^^ (L (k1 + 2) n)) else unl L k0 k1 x n := rfl
theorem unl_bt {L : Nat → Nat → Int64} {k0 k1 X t : Nat} (hX : X < 2 ^ 31) : ∀ j, j ≤ 32 → bt (unl L k0 k1 (nI X) j) t = (List.range j).any (fun n => X.testBit n && (bt (L (k0 + 2) n) t != bt (L (k1 + 2) n) t))
  | 0, _ => by unfold unl; rw [bt_0]; rfl
  | j + 1, hj => by
    have ih := unl_bt (L := L) (k0 := k0) (k1 := k1) (t := t) hX j (by omega)
    rw [List.range_succ, List.any_append, ← ih, unl_s]
    have hh := nI_has (n := X) (j := j) hX (by omega)
    by_cases hb : X.testBit j = true
    · rw [if_pos (hh.mpr hb), bt_or, bt_xor]
      simp [hb]
    · rw [if_neg (fun z => hb (hh.mp z))]
      have : X.testBit j = false := by simpa using hb
      simp [this]
theorem unl_1 {L : Nat → Nat → Int64} {k0 k1 n t : Nat} (hn : n < 19) : bt (unl L k0 k1 ((1 : Int32) <<< (nI n &&& 31)) 19) t = (bt (L (k0 + 2) n) t != bt (L (k1 + 2) n) t) := by
  rw [nI_shl1 (by omega), unl_bt (Nat.pow_lt_pow_right (by decide) (by omega)) 19 (by decide), Bool.eq_iff_iff, List.any_eq_true]
  constructor
  · rintro ⟨m, hm, hb⟩
    rw [Bool.and_eq_true, Nat.testBit_two_pow] at hb
    have e := of_decide_eq_true hb.1
    subst e
    exact hb.2
  · intro hb
    exact ⟨n, List.mem_range.mpr hn, by rw [Bool.and_eq_true, Nat.testBit_two_pow]; exact ⟨by simp, hb⟩⟩
theorem lsW_skip {p : Nat → Bool} : ∀ (k m w : Nat), (∀ i, w ≤ i → i < w + k → p i = false) → lsW p (k + m) w = lsW p m (w + k)
  | 0, m, w, _ => by rw [Nat.zero_add, Nat.add_zero]
  | k + 1, m, w, h => by
    rw [show k + 1 + m = (k + m) + 1 by omega, lsW, if_neg (by rw [h w (Nat.le_refl _) (by omega)]; decide), lsW_skip k m (w + 1) (fun i h1 h2 => h i (by omega) (by omega))]
    congr 1; omega
theorem lsW_hit {p : Nat → Bool} {k m w : Nat} (h : ∀ i, w ≤ i → i < w + k → p i = false) (hp : p (w + k) = true) : lsW p (k + (m + 1)) w = nI (w + k) := by
  rw [lsW_skip k (m + 1) w h, lsW, if_pos hp]
noncomputable def difP (V : Nat → zVw) (X n x : Nat) : Bool := X.testBit (x / 64) && (tb (V 0) none x n != tb (V 1) none x n)
noncomputable def difS (V : Nat → zVw) (X : Nat) (y : Int32) : Int32 := if 6 ≤ y ∧ y < 19 then lsW (difP V X (tn y)) 1024 0 else -1
abbrev RX11_differ (zn d : Nat) (post : zP) : zK := zRun (zcal zty zcd false (d + 5)) kX11_differ (zLM zn) post
theorem eX11_differ {zn d : Nat} {post : zP} (x1 : Int32) (I : Nat → Nat → Int32) (L : Nat → Nat → Int64) (h : RX11_differ zn d post 0 [some (.ref 5), some (.int x1), none, none, none, none] [] (zSH zn, I, L)) : zcal zty zcd false (d + 6) 103 [.ref 5, .int x1] (zSH zn, I, L) 0 0 post := zcal_of (d := d + 5) zmt103 zmc103 rfl (Nat.le_of_ble_eq_true rfl) h
theorem gX11_differ_0 {zn d : Nat} {post : zP} (x1 : Int32) (I : Nat → Nat → Int32) (L : Nat → Nat → Int64) (h : ((6 ≤ x1 ∧ x1 < 19) → (∃ (V5 : zVw) (os6 : List Nat) (a7 : Nat), (cEv I 12 V5 os6) ∧ (nSt L 37) ∧ (inpL L) ∧ ((I 5 14) = nI a7) ∧ (a7 < 16) ∧ (∀ (K3 : Nat → Nat → Int64) (X4 : Nat), (fr [37 + 1, 37 + 2, 37 + 5] L K3 ∧ isRch V5 a7 X4) → RX11_differ zn d post 29 [some (.ref 5), some (.int x1), some (.int (nI X4)), some (.int (0 : Int32)), none, none] [] (zSH zn, I, K3)))) ∧ (¬ ((6 ≤ x1 ∧ x1 < 19)) → post (some (.int (-1 : Int32))) (zSH zn, I, L))) : RX11_differ zn d post 0 [some (.ref 5), some (.int x1), none, none, none, none] [] (zSH zn, I, L) := fun P hw hc => hc _ tX11_differ_0 _ _ _ (hc _ tX11_differ_1 _ _ _ (⟨Nat.le_of_ble_eq_true rfl, Nat.le_of_ble_eq_true rfl, zl1, zl2, _, ctX11_mayHaveLine x1 I L, fun r u k11 => by obtain ⟨rfl, rfl⟩ := k11; exact ⟨zl3, zl4, hc _ tX11_differ_4 _ _ _ (⟨fun c1 => hc _ tX11_differ_9 _ _ _ (hc _ tX11_differ_10 _ _ _ (⟨_, _, sh5, (by decide), rfl, hc _ tX11_differ_13 _ _ _ (hc _ tX11_differ_14 _ _ _ (⟨_, _, sh5, (by decide), rfl, hc _ tX11_differ_17 _ _ _ (hc _ tX11_differ_18 _ _ _ (⟨_, _, _, sh11, (by decide), by decide, zvin (by decide), rfl, hc _ tX11_differ_19 _ _ _ (hc _ tX11_differ_20 _ _ _ (⟨_, sh5, (by decide), (by obtain ⟨V5, os6, a7, hg8⟩ := (h.1 (zb_n c1)); exact hc _ tX11_differ_23 _ _ _ (⟨⟨_, _, _, rfl, (by decide), sh37⟩, ⟨Nat.le_of_ble_eq_true rfl, Nat.le_of_ble_eq_true rfl, zl1, zl2, _, ctX4_statesFrom 37 12 (I 5 14) I L V5 os6 a7 isX4_37 isX10_12 hg8.1 hg8.2.1 hg8.2.2.1 hg8.2.2.2.1 hg8.2.2.2.2.1, fun r u k10 => by obtain ⟨K3, X4, rfl, rfl, p9⟩ := k10; exact ⟨zl3, zl4, hc _ tX11_differ_26 _ _ _ (hc _ tX11_differ_27 _ _ _ (hc _ tX11_differ_28 _ _ _ ((hg8.2.2.2.2.2 K3 X4 p9) P hw hc)))⟩⟩⟩))⟩))⟩))⟩))⟩)), fun c2 => hc _ tX11_differ_7 _ _ _ (hc _ tX11_differ_8 _ _ _ (⟨nofun, rfl, rfl, (h.2 (zb_e c2))⟩))⟩)⟩⟩))
theorem gX11_differ_29 {zn d : Nat} {post : zP} (x1 : Int32) (x2 : Int32) (x3 : Int32) (I : Nat → Nat → Int32) (L : Nat → Nat → Int64) (h : ((16 : Int32) ≤ x3 → post (some (.int (-4 : Int32))) (zSH zn, I, L)) ∧ (¬ (16 : Int32) ≤ x3 → (¬ ((¬ (x2 >>> (x3 &&& 31)) &&& 1 = 0)) → RX11_differ zn d post 29 [some (.ref 5), some (.int x1), some (.int x2), some (.int (x3 + (1 : Int32))), none, none] [] (zSH zn, I, L)) ∧ ((¬ (x2 >>> (x3 &&& 31)) &&& 1 = 0) → (∃ (V6 : zVw) (os7 : List Nat), (cEv I 12 V6 os7) ∧ (∀ (K5 : Nat → Nat → Int64), (evL L K5 37 V6 (bSt L x3)) → (∃ (V11 : zVw) (os12 : List Nat), (cEv I 19 V11 os12) ∧ (∀ (K10 : Nat → Nat → Int64), (evL K5 K10 43 V11 (bSt K5 x3)) → ((lg_cmp (unl K10 37 43 ((1 : Int32) <<< (x1 &&& 31)) 19) (0 : Int64)) = 0 → RX11_differ zn d post 29 [some (.ref 5), some (.int x1), some (.int x2), some (.int (x3 + (1 : Int32))), none, none] [] (zSH zn, I, K10)) ∧ (¬ (lg_cmp (unl K10 37 43 ((1 : Int32) <<< (x1 &&& 31)) 19) (0 : Int64)) = 0 → post (some (.int (fX11_leastRow x3 (unl K10 37 43 ((1 : Int32) <<< (x1 &&& 31)) 19)))) (zSH zn, I, K10))))))))) : RX11_differ zn d post 29 [some (.ref 5), some (.int x1), some (.int x2), some (.int x3), none, none] [] (zSH zn, I, L) := fun P hw hc => hc _ tX11_differ_29 _ _ _ (hc _ tX11_differ_30 _ _ _ (hc _ tX11_differ_32 _ _ _ (⟨fun c1 => hc _ tX11_differ_107 _ _ _ (hc _ tX11_differ_109 _ _ _ (⟨nofun, rfl, rfl, (h.1 c1)⟩)), fun c2 => hc _ tX11_differ_35 _ _ _ (hc _ tX11_differ_36 _ _ _ (hc _ tX11_differ_37 _ _ _ (⟨Nat.le_of_ble_eq_true rfl, Nat.le_of_ble_eq_true rfl, zl1, zl2, _, ctX11_hasBit x2 x3 I L, fun r u k21 => by obtain ⟨rfl, rfl⟩ := k21; exact ⟨zl3, zl4, hc _ tX11_differ_40 _ _ _ (⟨fun c3 => hc _ tX11_differ_101 _ _ _ (hc _ tX11_differ_104 _ _ _ (((h.2 c2).1 (zb_e c3)) P hw hc)), fun c4 => hc _ tX11_differ_43 _ _ _ (hc _ tX11_differ_44 _ _ _ (⟨_, _, sh5, (by decide), rfl, hc _ tX11_differ_47 _ _ _ (hc _ tX11_differ_48 _ _ _ (⟨_, _, sh5, (by decide), rfl, hc _ tX11_differ_51 _ _ _ (hc _ tX11_differ_52 _ _ _ (⟨_, _, _, sh11, (by decide), by decide, zvin (by decide), rfl, hc _ tX11_differ_53 _ _ _ ((by obtain ⟨V6, os7, hg8⟩ := ((h.2 c2).2 (zb_n c4)); exact hc _ tX11_differ_54 _ _ _ (⟨⟨_, _, _, rfl, (by decide), sh37⟩, ⟨Nat.le_of_ble_eq_true rfl, Nat.le_of_ble_eq_true rfl, zl1, zl2, _, ctX4_runState 37 12 x3 I L V6 os7 isX4_37 isX10_12 hg8.1, fun r u k20 => by obtain ⟨K5, rfl, rfl, p9⟩ := k20; exact ⟨zl3, zl4, hc _ tX11_differ_57 _ _ _ (hc _ tX11_differ_58 _ _ _ (⟨_, _, sh5, (by decide), rfl, hc _ tX11_differ_61 _ _ _ (hc _ tX11_differ_62 _ _ _ (⟨_, _, sh5, (by decide), rfl, hc _ tX11_differ_65 _ _ _ (hc _ tX11_differ_66 _ _ _ (⟨_, _, _, sh11, (by decide), by decide, zvin (by decide), rfl, hc _ tX11_differ_67 _ _ _ ((by obtain ⟨V11, os12, hg13⟩ := (hg8.2 K5 p9); exact hc _ tX11_differ_68 _ _ _ (⟨⟨_, _, _, rfl, (by decide), sh43⟩, ⟨Nat.le_of_ble_eq_true rfl, Nat.le_of_ble_eq_true rfl, zl1, zl2, _, ctX4_runState 43 19 x3 I K5 V11 os12 isX4_43 isX10_19 hg13.1, fun r u k19 => by obtain ⟨K10, rfl, rfl, p14⟩ := k19; exact ⟨zl3, zl4, hc _ tX11_differ_71 _ _ _ (hc _ tX11_differ_72 _ _ _ (⟨_, _, sh5, (by decide), rfl, hc _ tX11_differ_75 _ _ _ (hc _ tX11_differ_76 _ _ _ (⟨_, _, sh5, (by decide), rfl, hc _ tX11_differ_79 _ _ _ (hc _ tX11_differ_80 _ _ _ (hc _ tX11_differ_81 _ _ _ (hc _ tX11_differ_82 _ _ _ (⟨⟨_, _, _, rfl, (by decide), sh37⟩, ⟨Nat.le_of_ble_eq_true rfl, Nat.le_of_ble_eq_true rfl, zl1, zl2, _, ctX4_unlike 37 43 ((1 : Int32) <<< (x1 &&& 31)) I K10 isX4_37 isX4_43, fun r u k18 => by obtain ⟨rfl, rfl⟩ := k18; exact ⟨zl3, zl4, hc _ tX11_differ_85 _ _ _ (hc _ tX11_differ_87 _ _ _ (hc _ tX11_differ_89 _ _ _ (hc _ tX11_differ_90 _ _ _ (hc _ tX11_differ_91 _ _ _ (⟨fun c15 => hc _ tX11_differ_101 _ _ _ (hc _ tX11_differ_104 _ _ _ (hw _ _ _ _ _ (zwk_s (zwk_s (zwk_s (zwk_s (zwk_n (zwk_s zwk_nil)))))) (((hg13.2 K10 p14).1 c15) P hw hc))), fun c16 => hc _ tX11_differ_94 _ _ _ (hc _ tX11_differ_95 _ _ _ (hc _ tX11_differ_97 _ _ _ (⟨Nat.le_of_ble_eq_true rfl, Nat.le_of_ble_eq_true rfl, zl1, zl2, _, ctX11_leastRow x3 (unl K10 37 43 ((1 : Int32) <<< (x1 &&& 31)) 19) I K10, fun r u k17 => by obtain ⟨rfl, rfl⟩ := k17; exact ⟨zl3, zl4, hc _ tX11_differ_100 _ _ _ (⟨nofun, rfl, rfl, ((hg13.2 K10 p14).2 c16)⟩)⟩⟩)))⟩)))))⟩⟩⟩))))⟩))⟩))⟩⟩⟩)))⟩))⟩))⟩))⟩⟩⟩)))⟩))⟩))⟩))⟩)⟩⟩)))⟩)))
theorem ctX11_differ {zn d : Nat} (x1 : Int32) (I : Nat → Nat → Int32) (L : Nat → Nat → Int64) (V : Nat → zVw) (os : Nat → List Nat) (a : Nat) (q0 : ∀ w, w < 2 → cEv I (12 + 7 * w) (V w) (os w)) (q1 : nSt L 37 ∧ nSt L 43) (q2 : inpL L) (q3 : I 5 14 = nI a) (q4 : a < 16) : zcal zty zcd false (d + 6) 103 [.ref 5, .int x1] (zSH zn, I, L) 0 0 (fun r u => ∃ (K : Nat → Nat → Int64), ∃ (X : Nat), r = some (.int (difS V X x1)) ∧ u = (zSH zn, I, K) ∧ (fr [38, 39, 42, 44, 45, 48] L K ∧ ((6 ≤ x1 ∧ x1 < 19) → isRch (V 0) a X))) := by
  refine eX11_differ _ I L (gX11_differ_0 _ I L ⟨fun h => ⟨V 0, os 0, a, q0 0 (by decide), q1.1, q2, q3, q4, fun K X ⟨k1, k2⟩ => ?_⟩, fun h => ⟨L, 0, by rw [difS, if_neg h], rfl, fr_rf, fun z => absurd z h⟩⟩)
  obtain ⟨n, rfl, n6, n19, tnn, tnn'⟩ := nm_of (a := 6) (b := 19) (by decide) (by decide) h
  have hc0 := q0 0 (by decide)
  have hc1 : cEv I 19 (V 1) (os 1) := q0 1 (by decide)
  have loop : ∀ s K, s ≤ 16 → (fr [38, 39, 42, 44, 45, 48] L K ∧ ∀ i, i < 64 * s → difP V X n i = false) → RX11_differ zn d (fun r u => ∃ (K : Nat → Nat → Int64), ∃ (X : Nat), r = some (.int (difS V X (nI n))) ∧ u = (zSH zn, I, K) ∧ (fr [38, 39, 42, 44, 45, 48] L K ∧ ((6 ≤ (nI n) ∧ (nI n) < 19) → isRch (V 0) a X))) 29 [some (.ref 5), some (.int (nI n)), some (.int (nI X)), some (.int (nI s)), none, none] [] (zSH zn, I, K) := by
    refine zup (fun K hK => ?_) (fun s K hs hK ih => ?_)
    · refine gX11_differ_29 _ _ _ I K ⟨fun _ => ⟨K, X, ?_, rfl, hK.1, fun _ => k2⟩, fun hc => absurd (by decide) hc⟩
      rw [difS, if_pos h, tnn, show (1024 : Nat) = 1024 + 0 by rfl, lsW_skip 1024 0 0 (fun i _ hi => hK.2 i (by omega))]
      rfl
    · refine gX11_differ_29 _ _ _ I K ⟨fun hc => absurd hc (by rw [nl 16, nI_leI (by decide) (by omega)]; omega), fun _ => ?_⟩
      rw [nI_has (by have := k2.1; omega) (by omega), nI_1]
      refine ⟨fun hb => ih K ⟨hK.1, fun i hi => ?_⟩, fun hb => ⟨V 0, os 0, hc0, fun K1 hK1 => ⟨V 1, os 1, hc1, fun K2 hK2 => ?_⟩⟩⟩
      · by_cases hi2 : i < 64 * s
        · exact hK.2 i hi2
        · have : i / 64 = s := by omega
          unfold difP
          rw [this]
          have : X.testBit s = false := by simpa using hb
          rw [this]; rfl
      · have st37 : nSt K 37 := fun n hn => by rw [hK.1 40 (by decide), hK.1 41 (by decide)]; exact q1.1 n hn
        have st43 : nSt K1 43 := fun n hn => by rw [hK1.1 46 (by decide), hK1.1 47 (by decide), hK.1 46 (by decide), hK.1 47 (by decide)]; exact q1.2 n hn
        have in0 : inpL K := fun n hn => by rw [hK.1 1 (by decide)]; exact q2 n hn
        have in1 : inpL K1 := fun n hn => by rw [hK1.1 1 (by decide)]; exact in0 n hn
        have l0 := stL hc0.1 (cEv_tw hc0) st37 in0 hs hK1
        have l1 := stL hc1.1 (cEv_tw hc1) st43 in1 hs hK2
        have e39 : K2 39 = K1 39 := hK2.1 39 (by decide)
        have hu : ∀ t, t < 64 → bt (unl K2 37 43 ((1 : Int32) <<< (nI n &&& 31)) 19) t = difP V X n (64 * s + t) := fun t ht => by
          rw [unl_1 n19, difP, l0 t ht n n19, l1 t ht n n19, show (64 * s + t) / 64 = s by omega, hb, e39, Bool.true_and]
        have hfr : fr [38, 39, 42, 44, 45, 48] L K2 := fr_trans hK.1 (fr_trans (fr_sub hK1.1 (by decide)) (fr_sub hK2.1 (by decide)))
        rw [lg_cmp_eq]
        refine ⟨fun hz => ih K2 ⟨hfr, fun i hi => ?_⟩, fun hz => ⟨K2, X, ?_, rfl, hfr, fun _ => k2⟩⟩
        · by_cases hi2 : i < 64 * s
          · exact hK.2 i hi2
          · have := hu (i - 64 * s) (by omega)
            rw [hz, bt_0, show 64 * s + (i - 64 * s) = i by omega] at this
            exact this.symm
        · obtain ⟨k, hk, ek, hk1, hk2⟩ := tz_64 hz
          rw [difS, if_pos h, tnn, fX11_leastRow, ek, nl 64, pk_mul, nI_add]
          have hr := lsW_hit (p := difP V X n) (w := 0) (k := 64 * s + k) (m := 1023 - (64 * s + k)) (fun i _ hi => by
            by_cases hi2 : i < 64 * s
            · exact hK.2 i hi2
            · have := hu (i - 64 * s) (by omega)
              rw [hk2 _ (by omega), show 64 * s + (i - 64 * s) = i by omega] at this
              exact this.symm) (by rw [Nat.zero_add, ← hu k hk]; exact hk1)
          rw [show 64 * s + k + (1023 - (64 * s + k) + 1) = 1024 by omega] at hr
          rw [hr, Nat.zero_add, Nat.mul_comm]
  exact loop 0 K (by decide) ⟨fr_sub k1 (by decide), fun i hi => absurd hi (by omega)⟩
abbrev RX12_differ (zn d : Nat) (post : zP) : zK := zRun (zcal zty zcd false (d + 6)) kX12_differ (zLM zn) post
theorem eX12_differ {zn d : Nat} {post : zP} (x1 : Int32) (I : Nat → Nat → Int32) (L : Nat → Nat → Int64) (h : RX12_differ zn d post 0 [some (.ref 115), some (.int x1), none, none, none] [] (zSH zn, I, L)) : zcal zty zcd false (d + 7) 171 [.ref 115, .int x1] (zSH zn, I, L) 0 0 post := zcal_of (d := d + 6) zmt171 zmc171 rfl (Nat.le_of_ble_eq_true rfl) h
theorem gX12_differ_0 {zn d : Nat} {post : zP} (x1 : Int32) (I : Nat → Nat → Int32) (L : Nat → Nat → Int64) (h : ((6 : Int32) ≤ x1 ∧ x1 ≤ (18 : Int32) → (∃ (V5 : zVw) (ps6 : List Nat) (a7 : Nat), (rEv I 0 V5 ps6) ∧ (I 115 18 = -4) ∧ (I 125 0 = nI a7) ∧ (a7 < 16) ∧ (∀ (J3 : Nat → Nat → Int32) (X4 : Nat), (fr [130, 131] I J3 ∧ isRch V5 a7 X4) → RX12_differ zn d post 20 [some (.ref 115), some (.int x1), some (.int (nI X4)), some (.int (0 : Int32)), none] [] (zSH zn, J3, L)))) ∧ (¬ ((6 : Int32) ≤ x1 ∧ x1 ≤ (18 : Int32)) → post (some (.int (-1 : Int32))) (zSH zn, I, L))) : RX12_differ zn d post 0 [some (.ref 115), some (.int x1), none, none, none] [] (zSH zn, I, L) := fun P hw hc => hc _ tX12_differ_0 _ _ _ (hc _ tX12_differ_1 _ _ _ (hc _ tX12_differ_3 _ _ _ (hc _ tX12_differ_5 _ _ _ (⟨Nat.le_of_ble_eq_true rfl, Nat.le_of_ble_eq_true rfl, zl1, zl2, _, ctX12_in x1 (6 : Int32) (18 : Int32) I L, fun r u k11 => by obtain ⟨rfl, rfl⟩ := k11; exact ⟨zl3, zl4, hc _ tX12_differ_8 _ _ _ (⟨fun c1 => hc _ tX12_differ_13 _ _ _ ((by obtain ⟨V5, ps6, a7, hg8⟩ := (h.1 (zb_n c1)); exact hc _ tX12_differ_14 _ _ _ (⟨⟨_, _, _, rfl, (by decide), sh115⟩, ⟨Nat.le_of_ble_eq_true rfl, Nat.le_of_ble_eq_true rfl, zl1, zl2, _, ctX12_states I L V5 ps6 a7 hg8.1 hg8.2.1 hg8.2.2.1 hg8.2.2.2.1, fun r u k10 => by obtain ⟨J3, X4, rfl, rfl, p9⟩ := k10; exact ⟨zl3, zl4, hc _ tX12_differ_17 _ _ _ (hc _ tX12_differ_18 _ _ _ (hc _ tX12_differ_19 _ _ _ ((hg8.2.2.2.2 J3 X4 p9) P hw hc)))⟩⟩⟩))), fun c2 => hc _ tX12_differ_11 _ _ _ (hc _ tX12_differ_12 _ _ _ (⟨nofun, rfl, rfl, (h.2 (zb_e c2))⟩))⟩)⟩⟩))))
theorem gX12_differ_20 {zn d : Nat} {post : zP} (x1 : Int32) (x2 : Int32) (x3 : Int32) (I : Nat → Nat → Int32) (L : Nat → Nat → Int64) (h : ((1024 : Int32) ≤ x3 → post (some (.int (-4 : Int32))) (zSH zn, I, L)) ∧ (¬ (1024 : Int32) ≤ x3 → (¬ ((x2 >>> ((x3 >>> ((6 : Int32) &&& 31)) &&& 31)) &&& (1 : Int32)) = (1 : Int32) → RX12_differ zn d post 20 [some (.ref 115), some (.int x1), some (.int x2), some (.int (x3 + (1 : Int32))), none] [] (zSH zn, I, L)) ∧ (((x2 >>> ((x3 >>> ((6 : Int32) &&& 31)) &&& 31)) &&& (1 : Int32)) = (1 : Int32) → (∃ (V6 : zVw) (os7 : List Nat), (zs (0 : Int32) 6) ∧ (rEv I (tn (0 : Int32)) V6 os7) ∧ (∀ (J5 : Nat → Nat → Int32), (rRow I J5 V6 x3) → (∃ (V11 : zVw), (okV V11) ∧ (rLn J5 (tn (0 : Int32)) V11) ∧ (zs (0 : Int32) 6) ∧ (zs x1 18) ∧ (∀ (M10 : Nat → Int32), (∃ (V14 : zVw) (os15 : List Nat), (zs (1 : Int32) 6) ∧ (rEv (zrI J5 131 M10) (tn (1 : Int32)) V14 os15) ∧ (∀ (J13 : Nat → Nat → Int32), (rRow (zrI J5 131 M10) J13 V14 x3) → (∃ (V19 : zVw), (okV V19) ∧ (rLn J13 (tn (1 : Int32)) V19) ∧ (zs (1 : Int32) 6) ∧ (zs x1 18) ∧ (∀ (M18 : Nat → Int32), ((tolR J13 V19 (tn x1)) = (tolR J5 V11 (tn x1)) → RX12_differ zn d post 20 [some (.ref 115), some (.int x1), some (.int x2), some (.int (x3 + (1 : Int32))), none] [] (zSH zn, (zrI J13 131 M18), L)) ∧ (¬ (tolR J13 V19 (tn x1)) = (tolR J5 V11 (tn x1)) → post (some (.int x3)) (zSH zn, (zrI J13 131 M18), L))))))))))))) : RX12_differ zn d post 20 [some (.ref 115), some (.int x1), some (.int x2), some (.int x3), none] [] (zSH zn, I, L) := fun P hw hc => hc _ tX12_differ_20 _ _ _ (hc _ tX12_differ_21 _ _ _ (hc _ tX12_differ_24 _ _ _ (⟨fun c1 => hc _ tX12_differ_78 _ _ _ (hc _ tX12_differ_80 _ _ _ (⟨nofun, rfl, rfl, (h.1 c1)⟩)), fun c2 => hc _ tX12_differ_27 _ _ _ (hc _ tX12_differ_28 _ _ _ (hc _ tX12_differ_29 _ _ _ (hc _ tX12_differ_31 _ _ _ (hc _ tX12_differ_32 _ _ _ (hc _ tX12_differ_33 _ _ _ (hc _ tX12_differ_34 _ _ _ (hc _ tX12_differ_35 _ _ _ (hc _ tX12_differ_36 _ _ _ (⟨fun c3 => hc _ tX12_differ_72 _ _ _ (hc _ tX12_differ_75 _ _ _ (((h.2 c2).1 c3) P hw hc)), fun c4 => hc _ tX12_differ_39 _ _ _ (hc _ tX12_differ_40 _ _ _ (hc _ tX12_differ_41 _ _ _ ((by obtain ⟨V6, os7, hg8⟩ := ((h.2 c2).2 c4); exact hc _ tX12_differ_42 _ _ _ (⟨⟨_, _, _, rfl, (by decide), sh115⟩, ⟨Nat.le_of_ble_eq_true rfl, Nat.le_of_ble_eq_true rfl, zl1, zl2, _, ctX12_layRow (0 : Int32) x3 I L V6 os7 hg8.1 hg8.2.1, fun r u k26 => by obtain ⟨J5, rfl, rfl, p9⟩ := k26; exact ⟨zl3, zl4, hc _ tX12_differ_45 _ _ _ (hc _ tX12_differ_46 _ _ _ (hc _ tX12_differ_47 _ _ _ ((by obtain ⟨V11, hg12⟩ := (hg8.2.2 J5 p9); exact hc _ tX12_differ_48 _ _ _ (⟨⟨_, _, _, rfl, (by decide), sh115⟩, ⟨Nat.le_of_ble_eq_true rfl, Nat.le_of_ble_eq_true rfl, zl1, zl2, _, ctX12_told (0 : Int32) x1 J5 L V11 hg12.1 hg12.2.1 hg12.2.2.1 hg12.2.2.2.1, fun r u k25 => by obtain ⟨M10, rfl, rfl⟩ := k25; exact ⟨zl3, zl4, hc _ tX12_differ_51 _ _ _ (hc _ tX12_differ_53 _ _ _ (hc _ tX12_differ_54 _ _ _ (hc _ tX12_differ_55 _ _ _ ((by obtain ⟨V14, os15, hg16⟩ := (hg12.2.2.2.2 M10); exact hc _ tX12_differ_56 _ _ _ (⟨⟨_, _, _, rfl, (by decide), sh115⟩, ⟨Nat.le_of_ble_eq_true rfl, Nat.le_of_ble_eq_true rfl, zl1, zl2, _, ctX12_layRow (1 : Int32) x3 (zrI J5 131 M10) L V14 os15 hg16.1 hg16.2.1, fun r u k24 => by obtain ⟨J13, rfl, rfl, p17⟩ := k24; exact ⟨zl3, zl4, hc _ tX12_differ_59 _ _ _ (hc _ tX12_differ_60 _ _ _ (hc _ tX12_differ_61 _ _ _ ((by obtain ⟨V19, hg20⟩ := (hg16.2.2 J13 p17); exact hc _ tX12_differ_62 _ _ _ (⟨⟨_, _, _, rfl, (by decide), sh115⟩, ⟨Nat.le_of_ble_eq_true rfl, Nat.le_of_ble_eq_true rfl, zl1, zl2, _, ctX12_told (1 : Int32) x1 J13 L V19 hg20.1 hg20.2.1 hg20.2.2.1 hg20.2.2.2.1, fun r u k23 => by obtain ⟨M18, rfl, rfl⟩ := k23; exact ⟨zl3, zl4, hc _ tX12_differ_65 _ _ _ (hc _ tX12_differ_67 _ _ _ (⟨fun c21 => hc _ tX12_differ_72 _ _ _ (hc _ tX12_differ_75 _ _ _ (hw _ _ _ _ _ (zwk_s (zwk_s (zwk_s (zwk_s (zwk_n zwk_nil))))) (((hg20.2.2.2.2 M18).1 c21) P hw hc))), fun c22 => hc _ tX12_differ_70 _ _ _ (hc _ tX12_differ_71 _ _ _ (⟨nofun, rfl, rfl, ((hg20.2.2.2.2 M18).2 c22)⟩))⟩))⟩⟩⟩)))))⟩⟩⟩))))))⟩⟩⟩)))))⟩⟩⟩)))))⟩)))))))))⟩)))
theorem ctX12_differ {zn d : Nat} (x1 : Int32) (I : Nat → Nat → Int32) (L : Nat → Nat → Int64) (V : Nat → zVw) (ps : Nat → List Nat) (a : Nat) (q0 : ∀ w, w < 2 → rEv I w (V w) (ps w)) (q1 : I 115 18 = -4) (q2 : I 125 0 = nI a) (q3 : a < 16) : zcal zty zcd false (d + 7) 171 [.ref 115, .int x1] (zSH zn, I, L) 0 0 (fun r u => ∃ (J : Nat → Nat → Int32), ∃ (X : Nat), r = some (.int (difS V X x1)) ∧ u = (zSH zn, J, L) ∧ (fr [130, 131] I J ∧ ((6 ≤ x1 ∧ x1 < 19) → isRch (V 0) a X))) := by
  have t0 : tn (0 : Int32) = 0 := by decide
  have z0 : zs (0 : Int32) 6 := ⟨0, by decide, by decide⟩
  have t1 : tn (1 : Int32) = 1 := by decide
  have z1 : zs (1 : Int32) 6 := ⟨1, by decide, by decide⟩
  refine eX12_differ _ I L (gX12_differ_0 _ I L ⟨fun h => ⟨V 0, ps 0, a, q0 0 (by decide), q1, q2, q3, fun J X ⟨k1, k2⟩ => ?_⟩, fun h => ⟨I, 0, by rw [difS, if_neg (fun z => h (lt19.mpr z))], rfl, fr_rf, fun z => absurd (lt19.mpr z) h⟩⟩)
  have h' := lt19.mp h
  obtain ⟨n, rfl, n6, n19, tnn, tnn'⟩ := nm_of (a := 6) (b := 19) (by decide) (by decide) h'
  have loop : ∀ x J, x ≤ 1024 → (fr [130, 131] I J ∧ ∀ i, i < x → difP V X n i = false) → RX12_differ zn d (fun r u => ∃ (J : Nat → Nat → Int32), ∃ (X : Nat), r = some (.int (difS V X (nI n))) ∧ u = (zSH zn, J, L) ∧ (fr [130, 131] I J ∧ ((6 ≤ (nI n) ∧ (nI n) < 19) → isRch (V 0) a X))) 20 [some (.ref 115), some (.int (nI n)), some (.int (nI X)), some (.int (nI x)), none] [] (zSH zn, J, L) := by
    refine zup (fun J hJ => ?_) (fun x J hx hJ ih => ?_)
    · refine gX12_differ_20 _ _ _ J L ⟨fun _ => ⟨J, X, ?_, rfl, hJ.1, fun _ => k2⟩, fun hc => absurd (by decide) hc⟩
      rw [difS, if_pos h', tnn, show (1024 : Nat) = 1024 + 0 by rfl, lsW_skip 1024 0 0 (fun i _ hi => hJ.2 i (by omega))]
      rfl
    · refine gX12_differ_20 _ _ _ J L ⟨fun hc => absurd hc (by rw [nl 1024, nI_leI (by decide) (by omega)]; omega), fun _ => ?_⟩
      rw [nl 6, nI_shr (by omega) (by decide), show x / 2 ^ 6 = x / 64 by rfl, nI_has1 (by have := k2.1; omega) (by omega), nI_1, t0, t1, tnn]
      have c0 := rEv_fr (q0 0 (by decide)) hJ.1
      have hq : J 115 18 = -4 := by rw [hJ.1 115 (by decide)]; exact q1
      refine ⟨fun hb => ih J ⟨hJ.1, fun i hi => ?_⟩, fun hb => ⟨V 0, ps 0, z0, c0, fun J1 hJ1 => ⟨V 0, c0.1, (rEv_fr c0 hJ1.1).2.1, z0, ⟨n, by omega, rfl⟩, fun M1 => ?_⟩⟩⟩
      · by_cases hi2 : i < x
        · exact hJ.2 i hi2
        · have : i = x := by omega
          subst this
          unfold difP
          have : X.testBit (i / 64) = false := by simpa using hb
          rw [this]; rfl
      · have f1 : fr [130, 131] I (zrI J1 131 M1) := zrI_fr (fr_trans hJ.1 hJ1.1) (by decide)
        have c1 := rEv_fr (q0 1 (by decide)) f1
        have hq1 : (zrI J1 131 M1) 115 18 = -4 := by rw [f1 115 (by decide)]; exact q1
        refine ⟨V 1, ps 1, z1, c1, fun J2 hJ2 => ⟨V 1, c1.1, (rEv_fr c1 hJ2.1).2.1, z1, ⟨n, by omega, rfl⟩, fun M2 => ?_⟩⟩
        have f2 : fr [130, 131] I (zrI J2 131 M2) := zrI_fr (fr_trans f1 hJ2.1) (by decide)
        rw [toldB c0.1 (rEv_tw c0) (by omega) hJ1 hq n19, toldB c1.1 (rEv_tw c1) (by omega) hJ2 hq1 n19, tri_inj]
        have hp : difP V X n x = (tb (V 0) none x n != tb (V 1) none x n) := by unfold difP; rw [hb, Bool.true_and]
        refine ⟨fun he => ih _ ⟨f2, fun i hi => ?_⟩, fun he => ⟨_, X, ?_, rfl, f2, fun _ => k2⟩⟩
        · by_cases hi2 : i < x
          · exact hJ.2 i hi2
          · have : i = x := by omega
            subst this
            rw [hp, he]; simp
        · rw [difS, if_pos h', tnn]
          have hr := lsW_hit (p := difP V X n) (w := 0) (k := x) (m := 1023 - x) (fun i _ hi => hJ.2 i (by omega)) (by
            rw [Nat.zero_add, hp]
            cases h1 : tb (V 0) none x n <;> cases h2 : tb (V 1) none x n <;> simp_all)
          rw [show x + (1023 - x + 1) = 1024 by omega, Nat.zero_add] at hr
          rw [hr]
  exact loop 0 J (by decide) ⟨k1, fun i hi => absurd hi (by omega)⟩

