/-! RING, LACK, uses, the order: the reference's -/
theorem zup {α : Type} {N : Nat} {Q C : Nat → α → Prop} (h0 : ∀ s, Q N s → C N s) (hs : ∀ i s, i < N → Q i s → (∀ s', Q (i + 1) s' → C (i + 1) s') → C i s) : ∀ i s, i ≤ N → Q i s → C i s := by
  have : ∀ m i s, i + m = N → Q i s → C i s := by
    intro m
    induction m with
    | zero => intro i s hi q; have : i = N := by omega
              subst this; exact h0 s q
    | succ m ih => intro i s hi q; exact hs i s (by omega) q (fun s' q' => ih (i + 1) s' (by omega) q')
  exact fun i s hi q => this (N - i) i s (by omega) q
theorem lea_lt {V : zVw} {n : Nat} : lea V n < 2 ^ 19 := by
  have : ∀ j n, wAll (dV V) j n < 2 ^ 19 := by
    intro j
    induction j with
    | zero => intro n; exact dV_lt
    | succ j ih =>
      intro n
      unfold wAll
      split
      · unfold wS
        split
        · exact Nat.or_lt_two_pow (ih _) (ih _)
        · exact ih _
      · exact ih _
  exact this 9 n
theorem fb_pos {f : Nat → Nat} : ∀ {n : Nat}, 0 < fb_sm f n → ∃ i, i < n ∧ 0 < f i
  | 0, h => absurd h (Nat.lt_irrefl 0)
  | n + 1, h => by
    by_cases h2 : 0 < f n
    · exact ⟨n, by omega, h2⟩
    · have h3 : 0 < fb_sm f n := by
        have e : fb_sm f (n + 1) = fb_sm f n + f n := rfl
        omega
      obtain ⟨i, hi, h4⟩ := fb_pos h3
      exact ⟨i, by omega, h4⟩
abbrev RX12_ringOf (zn d : Nat) (post : zP) : zK := zRun (zcal zty zcd false (d + 3)) kX12_ringOf (zLM zn) post
theorem eX12_ringOf {zn d : Nat} {post : zP} (x1 : Int32) (I : Nat → Nat → Int32) (L : Nat → Nat → Int64) (h : RX12_ringOf zn d post 0 [some (.ref 115), some (.int x1), none] [] (zSH zn, I, L)) : zcal zty zcd false (d + 4) 145 [.ref 115, .int x1] (zSH zn, I, L) 0 0 post := zcal_of (d := d + 3) zmt145 zmc145 rfl (Nat.le_of_ble_eq_true rfl) h
theorem gX12_ringOf_0 {zn d : Nat} {post : zP} (x1 : Int32) (I : Nat → Nat → Int32) (L : Nat → Nat → Int64) (h : RX12_ringOf zn d post 3 [some (.ref 115), some (.int x1), some (.int (6 : Int32))] [] (zSH zn, I, L)) : RX12_ringOf zn d post 0 [some (.ref 115), some (.int x1), none] [] (zSH zn, I, L) := fun P hw hc => hc _ tX12_ringOf_0 _ _ _ (hc _ tX12_ringOf_2 _ _ _ (h P hw hc))
theorem gX12_ringOf_3 {zn d : Nat} {post : zP} (x1 : Int32) (x2 : Int32) (I : Nat → Nat → Int32) (L : Nat → Nat → Int64) (h : ((15 : Int32) ≤ x2 → post (some (.int (-4 : Int32))) (zSH zn, I, L)) ∧ (¬ (15 : Int32) ≤ x2 → (∃ (V3 : zVw), (okV V3) ∧ (rLn I (tn x1) V3) ∧ (zs x1 6) ∧ (zs x2 18) ∧ (6 ≤ tn x2) ∧ ((¬ (((nI (lea V3 (tn x2))) >>> (x2 &&& 31)) &&& (1 : Int32)) = (1 : Int32) → RX12_ringOf zn d post 3 [some (.ref 115), some (.int x1), some (.int (x2 + (1 : Int32)))] [] (zSH zn, I, L)) ∧ ((((nI (lea V3 (tn x2))) >>> (x2 &&& 31)) &&& (1 : Int32)) = (1 : Int32) → post (some (.int x2)) (zSH zn, I, L)))))) : RX12_ringOf zn d post 3 [some (.ref 115), some (.int x1), some (.int x2)] [] (zSH zn, I, L) := fun P hw hc => hc _ tX12_ringOf_3 _ _ _ (hc _ tX12_ringOf_4 _ _ _ (hc _ tX12_ringOf_6 _ _ _ (⟨fun c1 => hc _ tX12_ringOf_31 _ _ _ (hc _ tX12_ringOf_33 _ _ _ (⟨nofun, rfl, rfl, (h.1 c1)⟩)), fun c2 => hc _ tX12_ringOf_9 _ _ _ (hc _ tX12_ringOf_10 _ _ _ (hc _ tX12_ringOf_11 _ _ _ ((by obtain ⟨V3, hg4⟩ := (h.2 c2); exact hc _ tX12_ringOf_12 _ _ _ (⟨⟨_, _, _, rfl, (by decide), sh115⟩, ⟨Nat.le_of_ble_eq_true rfl, Nat.le_of_ble_eq_true rfl, zl1, zl2, _, ctX12_leans x1 x2 I L V3 hg4.1 hg4.2.1 hg4.2.2.1 hg4.2.2.2.1 hg4.2.2.2.2.1, fun r u k7 => by obtain ⟨rfl, rfl⟩ := k7; exact ⟨zl3, zl4, hc _ tX12_ringOf_15 _ _ _ (hc _ tX12_ringOf_16 _ _ _ (hc _ tX12_ringOf_17 _ _ _ (hc _ tX12_ringOf_18 _ _ _ (hc _ tX12_ringOf_19 _ _ _ (hc _ tX12_ringOf_20 _ _ _ (⟨fun c5 => hc _ tX12_ringOf_25 _ _ _ (hc _ tX12_ringOf_28 _ _ _ ((hg4.2.2.2.2.2.1 c5) P hw hc)), fun c6 => hc _ tX12_ringOf_23 _ _ _ (hc _ tX12_ringOf_24 _ _ _ (⟨nofun, rfl, rfl, (hg4.2.2.2.2.2.2 c6)⟩))⟩))))))⟩⟩⟩)))))⟩)))
theorem ctX12_ringOf {zn d : Nat} (x1 : Int32) (I : Nat → Nat → Int32) (L : Nat → Nat → Int64) (V : zVw) (q0 : okV V) (q1 : rLn I (tn x1) V) (q2 : zs x1 6) : zcal zty zcd false (d + 4) 145 [.ref 115, .int x1] (zSH zn, I, L) 0 0 (fun r u => r = some (.int (ringV V)) ∧ u = (zSH zn, I, L)) := by
  refine eX12_ringOf _ I L (gX12_ringOf_0 _ I L ?_)
  have loop : ∀ (m w : Nat), w + m = 15 → 6 ≤ w → ringV V = lsW (fun w => (lea V w).testBit w) m w → RX12_ringOf zn d (fun r u => r = some (.int (ringV V)) ∧ u = (zSH zn, I, L)) 3 [some (.ref 115), some (.int x1), some (.int (nI w))] [] (zSH zn, I, L) := by
    intro m
    induction m with
    | zero =>
      intro w hw h6 hr
      have : w = 15 := by omega
      subst this
      exact gX12_ringOf_3 _ _ I L ⟨fun _ => ⟨by rw [hr]; rfl, rfl⟩, fun h => absurd (by decide) h⟩
    | succ m ih =>
      intro w hw h6 hr
      have tw : tn (nI w) = w := tn_nI (by omega)
      have hlt : lea V w < 2 ^ 31 := by
        have := lea_lt (V := V) (n := w); omega
      refine gX12_ringOf_3 _ _ I L ⟨fun h => absurd h (by rw [nl 15, nI_leI (by decide) (by omega)]; omega), fun _ => ⟨V, q0, q1, q2, ⟨w, by omega, rfl⟩, by rw [tw]; exact h6, ?_⟩⟩
      rw [tw, nI_has1 hlt (by omega), nI_1]
      refine ⟨fun h => ih (w + 1) (by omega) (by omega) (by rw [hr, lsW, if_neg h]), fun h => ⟨by rw [hr, lsW, if_pos h], rfl⟩⟩
  exact loop 9 6 (by decide) (by decide) rfl
def orV (V : zVw) : Nat → Nat
  | 0 => 0
  | n + 1 => if 6 ≤ n then orV V n ||| dV V n else orV V n
theorem orV_lt (V : zVw) : ∀ n, orV V n < 2 ^ 19
  | 0 => Nat.two_pow_pos 19
  | n + 1 => by
    unfold orV
    split
    · exact Nat.or_lt_two_pow (orV_lt V n) dV_lt
    · exact orV_lt V n
theorem orV_bit (V : zVw) (m : Nat) : ∀ n, (orV V n).testBit m = true ↔ ∃ l, 6 ≤ l ∧ l < n ∧ (dV V l).testBit m = true
  | 0 => by simp [orV]
  | n + 1 => by
    have ih := orV_bit V m n
    unfold orV
    by_cases h6 : 6 ≤ n
    · rw [if_pos h6, Nat.testBit_or, Bool.or_eq_true, ih]
      constructor
      · rintro (⟨l, h1, h2, h3⟩ | h)
        · exact ⟨l, h1, by omega, h3⟩
        · exact ⟨n, h6, by omega, h⟩
      · rintro ⟨l, h1, h2, h3⟩
        by_cases hl : l = n
        · subst hl; exact Or.inr h3
        · exact Or.inl ⟨l, h1, by omega, h3⟩
    · rw [if_neg h6, ih]
      constructor
      · rintro ⟨l, h1, h2, h3⟩; exact ⟨l, h1, by omega, h3⟩
      · rintro ⟨l, h1, h2, h3⟩; exact ⟨l, h1, by omega, h3⟩
theorem orV_cnt {V : zVw} (hV : okV V) {m : Nat} (hm : m < 19) : (orV V 19).testBit m = decide (0 < cntU V m) := by
  rw [Bool.eq_iff_iff, orV_bit, decide_eq_true_iff]
  constructor
  · rintro ⟨l, h1, h2, h3⟩
    obtain ⟨-, ks, h4, h5⟩ := dV_bit.mp h3
    exact cntU_pos h2 h4 h5
  · intro h
    unfold cntU at h
    obtain ⟨l, hl, h2⟩ := fb_pos h
    cases hv : V l with
    | none => rw [hv] at h2; exact absurd h2 (Nat.lt_irrefl 0)
    | some ks =>
      rw [hv] at h2
      have h3 : 0 < ks.count m := h2
      exact ⟨l, (hV l ks hv).1, hl, dV_bit.mpr ⟨hm, ks, hv, List.count_pos_iff.mp h3⟩⟩
abbrev RX12_lackOf (zn d : Nat) (post : zP) : zK := zRun (zcal zty zcd false (d + 2)) kX12_lackOf (zLM zn) post
theorem eX12_lackOf {zn d : Nat} {post : zP} (x1 : Int32) (I : Nat → Nat → Int32) (L : Nat → Nat → Int64) (h : RX12_lackOf zn d post 0 [some (.ref 115), some (.int x1), none, none] [] (zSH zn, I, L)) : zcal zty zcd false (d + 3) 146 [.ref 115, .int x1] (zSH zn, I, L) 0 0 post := zcal_of (d := d + 2) zmt146 zmc146 rfl (Nat.le_of_ble_eq_true rfl) h
theorem gX12_lackOf_0 {zn d : Nat} {post : zP} (x1 : Int32) (I : Nat → Nat → Int32) (L : Nat → Nat → Int64) (h : RX12_lackOf zn d post 5 [some (.ref 115), some (.int x1), some (.int (0 : Int32)), some (.int (6 : Int32))] [] (zSH zn, I, L)) : RX12_lackOf zn d post 0 [some (.ref 115), some (.int x1), none, none] [] (zSH zn, I, L) := fun P hw hc => hc _ tX12_lackOf_0 _ _ _ (hc _ tX12_lackOf_1 _ _ _ (hc _ tX12_lackOf_2 _ _ _ (hc _ tX12_lackOf_4 _ _ _ (h P hw hc))))
theorem gX12_lackOf_5 {zn d : Nat} {post : zP} (x1 : Int32) (x2 : Int32) (x3 : Int32) (I : Nat → Nat → Int32) (L : Nat → Nat → Int64) (h : ((19 : Int32) ≤ x3 → RX12_lackOf zn d post 29 [some (.ref 115), some (.int x1), some (.int x2), some (.int (6 : Int32))] [] (zSH zn, I, L)) ∧ (¬ (19 : Int32) ≤ x3 → (∃ (V3 : zVw), (okV V3) ∧ (rLn I (tn x1) V3) ∧ (zs x1 6) ∧ (zs x3 18) ∧ (RX12_lackOf zn d post 5 [some (.ref 115), some (.int x1), some (.int (x2 ||| (nI (dV V3 (tn x3))))), some (.int (x3 + (1 : Int32)))] [] (zSH zn, I, L))))) : RX12_lackOf zn d post 5 [some (.ref 115), some (.int x1), some (.int x2), some (.int x3)] [] (zSH zn, I, L) := fun P hw hc => hc _ tX12_lackOf_5 _ _ _ (hc _ tX12_lackOf_6 _ _ _ (hc _ tX12_lackOf_8 _ _ _ (⟨fun c1 => hc _ tX12_lackOf_26 _ _ _ (hc _ tX12_lackOf_28 _ _ _ ((h.1 c1) P hw hc)), fun c2 => hc _ tX12_lackOf_11 _ _ _ (hc _ tX12_lackOf_12 _ _ _ (hc _ tX12_lackOf_13 _ _ _ (hc _ tX12_lackOf_14 _ _ _ ((by obtain ⟨V3, hg4⟩ := (h.2 c2); exact hc _ tX12_lackOf_15 _ _ _ (⟨⟨_, _, _, rfl, (by decide), sh115⟩, ⟨Nat.le_of_ble_eq_true rfl, Nat.le_of_ble_eq_true rfl, zl1, zl2, _, ctX12_namesIn x1 x3 I L V3 hg4.1 hg4.2.1 hg4.2.2.1 hg4.2.2.2.1, fun r u k5 => by obtain ⟨rfl, rfl⟩ := k5; exact ⟨zl3, zl4, hc _ tX12_lackOf_18 _ _ _ (hc _ tX12_lackOf_19 _ _ _ (hc _ tX12_lackOf_20 _ _ _ (hc _ tX12_lackOf_23 _ _ _ (hg4.2.2.2.2 P hw hc))))⟩⟩⟩))))))⟩)))
theorem gX12_lackOf_29 {zn d : Nat} {post : zP} (x1 : Int32) (x2 : Int32) (x3 : Int32) (I : Nat → Nat → Int32) (L : Nat → Nat → Int64) (h : ((15 : Int32) ≤ x3 → post (some (.int (-4 : Int32))) (zSH zn, I, L)) ∧ (¬ (15 : Int32) ≤ x3 → (¬ ((x2 >>> (x3 &&& 31)) &&& (1 : Int32)) = (1 : Int32) → RX12_lackOf zn d post 29 [some (.ref 115), some (.int x1), some (.int x2), some (.int (x3 + (1 : Int32)))] [] (zSH zn, I, L)) ∧ (((x2 >>> (x3 &&& 31)) &&& (1 : Int32)) = (1 : Int32) → vp_in (((19 : Int32) * x1) + x3) 133 ∧ ((¬ (I 120 ((((19 : Int32) * x1) + x3)).toNatClampNeg) = (-4 : Int32) → RX12_lackOf zn d post 29 [some (.ref 115), some (.int x1), some (.int x2), some (.int (x3 + (1 : Int32)))] [] (zSH zn, I, L)) ∧ ((I 120 ((((19 : Int32) * x1) + x3)).toNatClampNeg) = (-4 : Int32) → post (some (.int x3)) (zSH zn, I, L)))))) : RX12_lackOf zn d post 29 [some (.ref 115), some (.int x1), some (.int x2), some (.int x3)] [] (zSH zn, I, L) := fun P hw hc => hc _ tX12_lackOf_29 _ _ _ (hc _ tX12_lackOf_30 _ _ _ (hc _ tX12_lackOf_32 _ _ _ (⟨fun c1 => hc _ tX12_lackOf_68 _ _ _ (hc _ tX12_lackOf_70 _ _ _ (⟨nofun, rfl, rfl, (h.1 c1)⟩)), fun c2 => hc _ tX12_lackOf_35 _ _ _ (hc _ tX12_lackOf_36 _ _ _ (hc _ tX12_lackOf_37 _ _ _ (hc _ tX12_lackOf_38 _ _ _ (hc _ tX12_lackOf_39 _ _ _ (hc _ tX12_lackOf_40 _ _ _ (hc _ tX12_lackOf_41 _ _ _ (⟨fun c3 => hc _ tX12_lackOf_62 _ _ _ (hc _ tX12_lackOf_65 _ _ _ (((h.2 c2).1 c3) P hw hc)), fun c4 => hc _ tX12_lackOf_44 _ _ _ (hc _ tX12_lackOf_45 _ _ _ (⟨_, _, sh115, (by decide), rfl, hc _ tX12_lackOf_48 _ _ _ (hc _ tX12_lackOf_50 _ _ _ (hc _ tX12_lackOf_51 _ _ _ (hc _ tX12_lackOf_52 _ _ _ (hc _ tX12_lackOf_53 _ _ _ (hc _ tX12_lackOf_54 _ _ _ (⟨_, _, _, sh120, Or.inl ⟨rfl, (by decide)⟩, ((h.2 c2).2 c4).1, hc _ tX12_lackOf_55 _ _ _ (hc _ tX12_lackOf_57 _ _ _ (⟨fun c5 => hc _ tX12_lackOf_62 _ _ _ (hc _ tX12_lackOf_65 _ _ _ ((((h.2 c2).2 c4).2.1 c5) P hw hc)), fun c6 => hc _ tX12_lackOf_60 _ _ _ (hc _ tX12_lackOf_61 _ _ _ (⟨nofun, rfl, rfl, (((h.2 c2).2 c4).2.2 c6)⟩))⟩))⟩))))))⟩))⟩)))))))⟩)))
theorem ctX12_lackOf {zn d : Nat} (x1 : Int32) (I : Nat → Nat → Int32) (L : Nat → Nat → Int64) (V : zVw) (q0 : okV V) (q1 : rLn I (tn x1) V) (q2 : zs x1 6) : zcal zty zcd false (d + 3) 146 [.ref 115, .int x1] (zSH zn, I, L) 0 0 (fun r u => r = some (.int (lackV V)) ∧ u = (zSH zn, I, L)) := by
  obtain ⟨v, hv, rfl⟩ := id q2
  have tv : tn (nI v) = v := tn_nI (by omega)
  have q1' := q1
  rw [tv] at q1'
  refine eX12_lackOf _ I L (gX12_lackOf_0 _ I L ?_)
  have loop2 : ∀ (m w : Nat), w + m = 15 → 6 ≤ w → lackV V = lsW (fun w => decide (0 < cntU V w) && !(V w).isSome) m w → RX12_lackOf zn d (fun r u => r = some (.int (lackV V)) ∧ u = (zSH zn, I, L)) 29 [some (.ref 115), some (.int (nI v)), some (.int (nI (orV V 19))), some (.int (nI w))] [] (zSH zn, I, L) := by
    intro m
    induction m with
    | zero =>
      intro w hw h6 hr
      have : w = 15 := by omega
      subst this
      exact gX12_lackOf_29 _ _ _ I L ⟨fun _ => ⟨by rw [hr]; rfl, rfl⟩, fun h => absurd (by decide) h⟩
    | succ m ih =>
      intro w hw h6 hr
      obtain ⟨e0, e0', -, -, hv0⟩ := e19 (n := w) hv (by omega)
      have hlt : orV V 19 < 2 ^ 31 := by
        have := orV_lt V 19; omega
      refine gX12_lackOf_29 _ _ _ I L ⟨fun h => absurd h (by rw [nl 15, nI_leI (by decide) (by omega)]; omega), fun _ => ?_⟩
      rw [nI_has1 hlt (by omega), orV_cnt q0 (by omega), nI_1, e0, e0']
      have hl := q1' w (by omega)
      refine ⟨fun h => ih (w + 1) (by omega) (by omega) (by rw [hr, lsW, if_neg]; simp [h]), fun h => ⟨hv0, fun h2 => ih (w + 1) (by omega) (by omega) (by
        rw [hr, lsW, if_neg]
        cases hvw : V w with
        | none => rw [hvw] at hl; exact absurd hl h2
        | some ks => simp), fun h2 => ⟨by
        rw [hr, lsW, if_pos]
        cases hvw : V w with
        | none => rw [h]; rfl
        | some ks =>
          rw [hvw] at hl
          obtain ⟨f, l1, l2, l3, l4⟩ := hl
          exact absurd (l3.symm.trans h2) (nI_n4 (by omega)), rfl⟩⟩⟩
  have loop1 : ∀ (m w : Nat), w + m = 19 → 6 ≤ w → RX12_lackOf zn d (fun r u => r = some (.int (lackV V)) ∧ u = (zSH zn, I, L)) 5 [some (.ref 115), some (.int (nI v)), some (.int (nI (orV V w))), some (.int (nI w))] [] (zSH zn, I, L) := by
    intro m
    induction m with
    | zero =>
      intro w hw h6
      have : w = 19 := by omega
      subst this
      exact gX12_lackOf_5 _ _ _ I L ⟨fun _ => loop2 9 6 (by decide) (by decide) rfl, fun h => absurd (by decide) h⟩
    | succ m ih =>
      intro w hw h6
      have tw : tn (nI w) = w := tn_nI (by omega)
      refine gX12_lackOf_5 _ _ _ I L ⟨fun h => absurd h (by rw [nl 19, nI_leI (by decide) (by omega)]; omega), fun _ => ⟨V, q0, q1, q2, ⟨w, by omega, rfl⟩, ?_⟩⟩
      have := ih (w + 1) (by omega) (by omega)
      rw [orV, if_pos h6] at this
      rw [tw, fa_or, nI_1]
      exact this
  exact loop1 13 6 (by decide) (by decide)

