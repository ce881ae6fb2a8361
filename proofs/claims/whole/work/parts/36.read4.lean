/-! READING: a TOKEN -/
theorem tokv_app {cur : List Nat} {k i : Nat} (h : i < cur.length) : tokv (cur ++ [k]) i = tokv cur i := by
  unfold tokv
  rw [List.take_append_of_le_length (by omega)]
  have : (cur ++ [k]).getD i 0 = cur.getD i 0 := by
    rw [List.getD_eq_getElem?_getD, List.getD_eq_getElem?_getD, List.getElem?_append_left h]
  rw [this]
theorem tokv_last {cur : List Nat} {k : Nat} : tokv (cur ++ [k]) cur.length = k + 32 * (depd 0 cur - ar k) := by
  unfold tokv
  rw [List.take_left]
  have : (cur ++ [k]).getD cur.length 0 = k := by
    rw [List.getD_eq_getElem?_getD, List.getElem?_append_right (Nat.le_refl _), Nat.sub_self]; rfl
  rw [this]
theorem tok_of : ∀ k, k < 26 → ∀ j, j < 10 → fX11_tokenOf (nI k) (nI j) = nI (k + 32 * j) := by decide +kernel
theorem dif_neg4 : ∀ d, d ≤ 10 → ∀ a, a ≤ 3 → d < a → nI d - nI a < 0 := by decide +kernel
theorem ar_le {k : Nat} : ar k ≤ 3 := by
  unfold ar
  repeat' split
  all_goals omega
theorem dM_tok {nm k : Nat} {cur : List Nat} {V : zVw} (n : Nat) : dM (2, nm, cur ++ [k], V) n = if k < 19 ∧ n = nm then dM (2, nm, cur, V) n ||| 2 ^ k else dM (2, nm, cur, V) n := by
  by_cases hk : k < 19 ∧ n = nm
  · rw [if_pos hk]
    unfold dM
    rw [bm_pow hk.1, bm_or]
    refine bm_cong (fun i _ => ?_)
    have h := hk.2
    subst h
    simp only [List.mem_append, List.mem_singleton]
    by_cases h1 : i ∈ cur <;> by_cases h2 : i = k <;> simp [h1, h2]
  · rw [if_neg hk]
    unfold dM
    refine bm_cong (fun i hi => ?_)
    dsimp only
    by_cases h : n = nm
    · have h2 : i ≠ k := fun z => hk ⟨by omega, h⟩
      simp [h2]
    · simp [h]
theorem cRd_tok {I J : Nat → Nat → Int32} {nm k : Nat} {cur : List Nat} {V : zVw} (hc : cRd I (2, nm, cur, V)) (hk : k < 26) (ha : ar k ≤ depd 0 cur) (hb : depd 0 cur - ar k < 10) (hnm : nm < 19) (hsz : szS (2, nm, cur, V) < 200) (h27 : J 27 = I 27) (h29 : J 29 = I 29) (h30 : J 30 = I 30) (j1 : J 26 1 = I 26 1) (j2 : J 26 2 = I 26 2) (j3 : J 26 3 = nI (szS (2, nm, cur, V) + 1)) (j4 : J 26 4 = nI (depd 0 cur - ar k + 1)) (j28 : ∀ i, J 28 i = if i = szS (2, nm, cur, V) then nI (k + 32 * (depd 0 cur - ar k)) else I 28 i) (j31 : ∀ n, n < 19 → J 31 n = if k < 19 ∧ n = nm then I 31 n ||| nI (2 ^ k) else I 31 n) (j32 : ∀ n, n < 19 → J 32 n = if n = k then I 32 n + 1 else I 32 n) : cRd J (2, nm, cur ++ [k], V) := by
  obtain ⟨c1, c2, c3, c4, c5, c6⟩ := hc
  obtain ⟨k1, k2, f, k3, k4, k5⟩ := c6 (by show (2 : Nat) ≠ 0; decide)
  dsimp only at c1 c2 c3 c4 c5 k1 k2 k3 k4 k5
  have hS : szS (2, nm, cur ++ [k], V) = szS (2, nm, cur, V) + 1 := by
    unfold szS; dsimp only; rw [List.length_append]; rfl
  refine ⟨j1.trans c1, by rw [hS]; exact j3, by rw [h27]; exact c3, fun n hn => ?_, fun n ks hn => ?_, fun _ => ⟨j2.trans k1, ?_, f, by rw [h29]; exact k3, ?_, fun i x hx => ?_⟩⟩
  · obtain ⟨d1, d2⟩ := c4 n hn
    refine ⟨?_, ?_⟩
    · rw [j31 n hn, dM_tok]
      split
      · rw [d1, fa_or]
      · exact d1
    · rw [j32 n hn]
      dsimp only
      rw [List.count_append, List.count_singleton]
      by_cases h : n = k
      · subst h
        rw [if_pos rfl, d2, nI_1]
        simp [Nat.add_assoc]
      · rw [if_neg h, d2]
        have : ¬ k = n := fun z => h z.symm
        simp [this]
  · obtain ⟨g, hg, hle⟩ := c5 n ks hn
    refine ⟨g, lnC_cong hg (by show J 29 n = I 29 n; rw [h29]) (by show J 30 n = I 30 n; rw [h30]) (fun i hi => ?_), by rw [hS]; omega⟩
    show J 28 (g + i) = I 28 (g + i)
    rw [j28, if_neg (by omega)]
  · rw [j4]
    dsimp only
    rw [depd_app]; rfl
  · dsimp only
    rw [List.length_append, hS, ← k4]; rfl
  · dsimp only at hx ⊢
    have hi : i < cur.length + 1 := by
      obtain ⟨hi, _⟩ := List.getElem?_eq_some_iff.mp hx
      rw [List.length_append] at hi; exact hi
    by_cases h : i = cur.length
    · subst h
      rw [j28, if_pos k4, tokv_last]
    · rw [j28, if_neg (by omega), tokv_app (by omega)]
      refine k5 i x ?_
      rw [List.getElem?_append_left (by omega)] at hx
      exact hx
abbrev RX5_takesToken (zn d : Nat) (post : zP) : zK := zRun (zcal zty zcd false (d + 1)) kX5_takesToken (zLM zn) post
theorem eX5_takesToken {zn d : Nat} {post : zP} (x1 : Int32) (I : Nat → Nat → Int32) (L : Nat → Nat → Int64) (h : RX5_takesToken zn d post 0 [some (.ref 26), some (.int x1), none] [] (zSH zn, I, L)) : zcal zty zcd false (d + 2) 48 [.ref 26, .int x1] (zSH zn, I, L) 0 0 post := zcal_of (d := d + 1) zmt48 zmc48 rfl (Nat.le_of_ble_eq_true rfl) h
theorem gX5_takesToken_0 {zn d : Nat} {post : zP} (x1 : Int32) (I : Nat → Nat → Int32) (L : Nat → Nat → Int64) (h : (x1 = (-4 : Int32) → post (some (.int (0 : Int32))) (zSH zn, I, L)) ∧ (¬ x1 = (-4 : Int32) → (((I 26 4) - (fX5_valuesTaken x1)) < 0 → post (some (.int (0 : Int32))) (zSH zn, I, L)) ∧ (¬ ((I 26 4) - (fX5_valuesTaken x1)) < 0 → ((10 : Int32) ≤ ((I 26 4) - (fX5_valuesTaken x1)) → post (some (.int (0 : Int32))) (zSH zn, I, L)) ∧ (¬ (10 : Int32) ≤ ((I 26 4) - (fX5_valuesTaken x1)) → ((I 26 3) < (200 : Int32) → vp_in (I 26 3) 200 ∧ (((19 : Int32) ≤ x1 → post (some (.int (1 : Int32))) (zSH zn, (zi (zi (zi I 28 ((I 26 3)).toNatClampNeg (fX11_tokenOf x1 ((I 26 4) - (fX5_valuesTaken x1)))) 26 3 (((zi I 28 ((I 26 3)).toNatClampNeg (fX11_tokenOf x1 ((I 26 4) - (fX5_valuesTaken x1)))) 26 3) + (1 : Int32))) 26 4 (((I 26 4) - (fX5_valuesTaken x1)) + (1 : Int32))), L)) ∧ (¬ (19 : Int32) ≤ x1 → vp_in x1 19 ∧ (vp_in ((zi (zi (zi (zi I 28 ((I 26 3)).toNatClampNeg (fX11_tokenOf x1 ((I 26 4) - (fX5_valuesTaken x1)))) 26 3 (((zi I 28 ((I 26 3)).toNatClampNeg (fX11_tokenOf x1 ((I 26 4) - (fX5_valuesTaken x1)))) 26 3) + (1 : Int32))) 26 4 (((I 26 4) - (fX5_valuesTaken x1)) + (1 : Int32))) 32 (x1).toNatClampNeg (((zi (zi (zi I 28 ((I 26 3)).toNatClampNeg (fX11_tokenOf x1 ((I 26 4) - (fX5_valuesTaken x1)))) 26 3 (((zi I 28 ((I 26 3)).toNatClampNeg (fX11_tokenOf x1 ((I 26 4) - (fX5_valuesTaken x1)))) 26 3) + (1 : Int32))) 26 4 (((I 26 4) - (fX5_valuesTaken x1)) + (1 : Int32))) 32 (x1).toNatClampNeg) + (1 : Int32))) 26 2) 19 ∧ (post (some (.int (1 : Int32))) (zSH zn, (zi (zi (zi (zi (zi I 28 ((I 26 3)).toNatClampNeg (fX11_tokenOf x1 ((I 26 4) - (fX5_valuesTaken x1)))) 26 3 (((zi I 28 ((I 26 3)).toNatClampNeg (fX11_tokenOf x1 ((I 26 4) - (fX5_valuesTaken x1)))) 26 3) + (1 : Int32))) 26 4 (((I 26 4) - (fX5_valuesTaken x1)) + (1 : Int32))) 32 (x1).toNatClampNeg (((zi (zi (zi I 28 ((I 26 3)).toNatClampNeg (fX11_tokenOf x1 ((I 26 4) - (fX5_valuesTaken x1)))) 26 3 (((zi I 28 ((I 26 3)).toNatClampNeg (fX11_tokenOf x1 ((I 26 4) - (fX5_valuesTaken x1)))) 26 3) + (1 : Int32))) 26 4 (((I 26 4) - (fX5_valuesTaken x1)) + (1 : Int32))) 32 (x1).toNatClampNeg) + (1 : Int32))) 31 (((zi (zi (zi (zi I 28 ((I 26 3)).toNatClampNeg (fX11_tokenOf x1 ((I 26 4) - (fX5_valuesTaken x1)))) 26 3 (((zi I 28 ((I 26 3)).toNatClampNeg (fX11_tokenOf x1 ((I 26 4) - (fX5_valuesTaken x1)))) 26 3) + (1 : Int32))) 26 4 (((I 26 4) - (fX5_valuesTaken x1)) + (1 : Int32))) 32 (x1).toNatClampNeg (((zi (zi (zi I 28 ((I 26 3)).toNatClampNeg (fX11_tokenOf x1 ((I 26 4) - (fX5_valuesTaken x1)))) 26 3 (((zi I 28 ((I 26 3)).toNatClampNeg (fX11_tokenOf x1 ((I 26 4) - (fX5_valuesTaken x1)))) 26 3) + (1 : Int32))) 26 4 (((I 26 4) - (fX5_valuesTaken x1)) + (1 : Int32))) 32 (x1).toNatClampNeg) + (1 : Int32))) 26 2)).toNatClampNeg (((zi (zi (zi (zi I 28 ((I 26 3)).toNatClampNeg (fX11_tokenOf x1 ((I 26 4) - (fX5_valuesTaken x1)))) 26 3 (((zi I 28 ((I 26 3)).toNatClampNeg (fX11_tokenOf x1 ((I 26 4) - (fX5_valuesTaken x1)))) 26 3) + (1 : Int32))) 26 4 (((I 26 4) - (fX5_valuesTaken x1)) + (1 : Int32))) 32 (x1).toNatClampNeg (((zi (zi (zi I 28 ((I 26 3)).toNatClampNeg (fX11_tokenOf x1 ((I 26 4) - (fX5_valuesTaken x1)))) 26 3 (((zi I 28 ((I 26 3)).toNatClampNeg (fX11_tokenOf x1 ((I 26 4) - (fX5_valuesTaken x1)))) 26 3) + (1 : Int32))) 26 4 (((I 26 4) - (fX5_valuesTaken x1)) + (1 : Int32))) 32 (x1).toNatClampNeg) + (1 : Int32))) 31 (((zi (zi (zi (zi I 28 ((I 26 3)).toNatClampNeg (fX11_tokenOf x1 ((I 26 4) - (fX5_valuesTaken x1)))) 26 3 (((zi I 28 ((I 26 3)).toNatClampNeg (fX11_tokenOf x1 ((I 26 4) - (fX5_valuesTaken x1)))) 26 3) + (1 : Int32))) 26 4 (((I 26 4) - (fX5_valuesTaken x1)) + (1 : Int32))) 32 (x1).toNatClampNeg (((zi (zi (zi I 28 ((I 26 3)).toNatClampNeg (fX11_tokenOf x1 ((I 26 4) - (fX5_valuesTaken x1)))) 26 3 (((zi I 28 ((I 26 3)).toNatClampNeg (fX11_tokenOf x1 ((I 26 4) - (fX5_valuesTaken x1)))) 26 3) + (1 : Int32))) 26 4 (((I 26 4) - (fX5_valuesTaken x1)) + (1 : Int32))) 32 (x1).toNatClampNeg) + (1 : Int32))) 26 2)).toNatClampNeg) ||| ((1 : Int32) <<< (x1 &&& 31)))), L)))))) ∧ (¬ (I 26 3) < (200 : Int32) → post (some (.int (0 : Int32))) (zSH zn, I, L)))))) : RX5_takesToken zn d post 0 [some (.ref 26), some (.int x1), none] [] (zSH zn, I, L) := fun P hw hc => hc _ tX5_takesToken_0 _ _ _ (hc _ tX5_takesToken_1 _ _ _ (⟨_, sh26, (by decide), hc _ tX5_takesToken_4 _ _ _ (hc _ tX5_takesToken_5 _ _ _ (⟨Nat.le_of_ble_eq_true rfl, Nat.le_of_ble_eq_true rfl, zl1, zl2, _, ctX5_valuesTaken x1 I L, fun r u k12 => by obtain ⟨rfl, rfl⟩ := k12; exact ⟨zl3, zl4, hc _ tX5_takesToken_8 _ _ _ (hc _ tX5_takesToken_9 _ _ _ (hc _ tX5_takesToken_10 _ _ _ (hc _ tX5_takesToken_11 _ _ _ (hc _ tX5_takesToken_13 _ _ _ (⟨fun c1 => hc _ tX5_takesToken_36 _ _ _ (hc _ tX5_takesToken_37 _ _ _ (⟨fun _ => by decide, rfl, rfl, (h.1 c1)⟩)), fun c2 => hc _ tX5_takesToken_16 _ _ _ (hc _ tX5_takesToken_17 _ _ _ (⟨fun c3 => hc _ tX5_takesToken_36 _ _ _ (hc _ tX5_takesToken_37 _ _ _ (⟨fun _ => by decide, rfl, rfl, ((h.2 c2).1 c3)⟩)), fun c4 => hc _ tX5_takesToken_20 _ _ _ (hc _ tX5_takesToken_21 _ _ _ (hc _ tX5_takesToken_23 _ _ _ (⟨fun c5 => hc _ tX5_takesToken_36 _ _ _ (hc _ tX5_takesToken_37 _ _ _ (⟨fun _ => by decide, rfl, rfl, (((h.2 c2).2 c4).1 c5)⟩)), fun c6 => hc _ tX5_takesToken_26 _ _ _ (hc _ tX5_takesToken_27 _ _ _ (⟨_, sh26, (by decide), hc _ tX5_takesToken_30 _ _ _ (hc _ tX5_takesToken_33 _ _ _ (⟨fun c7 => hc _ tX5_takesToken_38 _ _ _ (hc _ tX5_takesToken_39 _ _ _ (⟨_, _, sh26, (by decide), rfl, hc _ tX5_takesToken_42 _ _ _ (⟨_, _, sh27, (by decide), rfl, hc _ tX5_takesToken_45 _ _ _ (hc _ tX5_takesToken_46 _ _ _ (⟨_, sh26, (by decide), hc _ tX5_takesToken_49 _ _ _ (hc _ tX5_takesToken_50 _ _ _ (hc _ tX5_takesToken_51 _ _ _ (⟨Nat.le_of_ble_eq_true rfl, Nat.le_of_ble_eq_true rfl, zl1, zl2, _, ctX11_tokenOf x1 ((I 26 4) - (fX5_valuesTaken x1)) I L, fun r u k11 => by obtain ⟨rfl, rfl⟩ := k11; exact ⟨zl3, zl4, hc _ tX5_takesToken_54 _ _ _ (⟨_, _, sh28, (by decide), ((((h.2 c2).2 c4).2 c6).1 c7).1, hc _ tX5_takesToken_55 _ _ _ (hc _ tX5_takesToken_56 _ _ _ (⟨rfl, hc _ tX5_takesToken_57 _ _ _ (⟨_, sh26, (by decide), hc _ tX5_takesToken_60 _ _ _ (hc _ tX5_takesToken_61 _ _ _ (hc _ tX5_takesToken_62 _ _ _ (⟨_, sh26, (by decide), nofun, hc _ tX5_takesToken_65 _ _ _ (hc _ tX5_takesToken_66 _ _ _ (hc _ tX5_takesToken_67 _ _ _ (hc _ tX5_takesToken_68 _ _ _ (hc _ tX5_takesToken_69 _ _ _ (⟨_, sh26, (by decide), nofun, hc _ tX5_takesToken_72 _ _ _ (hc _ tX5_takesToken_73 _ _ _ (hc _ tX5_takesToken_75 _ _ _ (⟨fun c9 => hc _ tX5_takesToken_109 _ _ _ (hc _ tX5_takesToken_110 _ _ _ (⟨fun _ => by decide, rfl, rfl, (((((h.2 c2).2 c4).2 c6).1 c7).2.1 c9)⟩)), fun c10 => hc _ tX5_takesToken_78 _ _ _ (hc _ tX5_takesToken_79 _ _ _ (⟨_, _, sh26, (by decide), rfl, hc _ tX5_takesToken_82 _ _ _ (⟨_, _, sh27, (by decide), rfl, hc _ tX5_takesToken_85 _ _ _ (hc _ tX5_takesToken_86 _ _ _ (⟨⟨rfl, rfl⟩, hc _ tX5_takesToken_87 _ _ _ (⟨_, _, _, sh32, Or.inl ⟨rfl, (by decide)⟩, (((((h.2 c2).2 c4).2 c6).1 c7).2.2 c10).1, hc _ tX5_takesToken_88 _ _ _ (hc _ tX5_takesToken_89 _ _ _ (hc _ tX5_takesToken_90 _ _ _ (⟨_, _, sh32, (by decide), (((((h.2 c2).2 c4).2 c6).1 c7).2.2 c10).1, hc _ tX5_takesToken_91 _ _ _ (hc _ tX5_takesToken_92 _ _ _ (⟨_, _, sh26, (by decide), rfl, hc _ tX5_takesToken_95 _ _ _ (⟨_, _, sh27, (by decide), rfl, hc _ tX5_takesToken_98 _ _ _ (hc _ tX5_takesToken_99 _ _ _ (⟨_, sh26, (by decide), hc _ tX5_takesToken_102 _ _ _ (⟨⟨rfl, rfl⟩, hc _ tX5_takesToken_103 _ _ _ (⟨_, _, _, sh31, Or.inl ⟨rfl, (by decide)⟩, (((((h.2 c2).2 c4).2 c6).1 c7).2.2 c10).2.1, hc _ tX5_takesToken_104 _ _ _ (hc _ tX5_takesToken_105 _ _ _ (hc _ tX5_takesToken_106 _ _ _ (hc _ tX5_takesToken_107 _ _ _ (hc _ tX5_takesToken_108 _ _ _ (⟨_, _, sh31, (by decide), (((((h.2 c2).2 c4).2 c6).1 c7).2.2 c10).2.1, hc _ tX5_takesToken_109 _ _ _ (hc _ tX5_takesToken_110 _ _ _ (⟨fun _ => by decide, rfl, rfl, (((((h.2 c2).2 c4).2 c6).1 c7).2.2 c10).2.2⟩))⟩)))))⟩)⟩)⟩))⟩)⟩))⟩)))⟩)⟩))⟩)⟩))⟩)))⟩)))))⟩)))⟩)⟩))⟩)⟩⟩)))⟩))⟩)⟩)), fun c8 => hc _ tX5_takesToken_36 _ _ _ (hc _ tX5_takesToken_37 _ _ _ (⟨fun _ => by decide, rfl, rfl, ((((h.2 c2).2 c4).2 c6).2 c8)⟩))⟩))⟩))⟩)))⟩))⟩)))))⟩⟩))⟩))
theorem ctX5_takesToken {zn d : Nat} (x1 : Int32) (I : Nat → Nat → Int32) (L : Nat → Nat → Int64) (s : zRs) (t : Nat) (q0 : okS s) (q1 : s.1 = 2) (q2 : t < 256) (q3 : t ≠ 59) (q4 : x1 = fX5_kindOfSign (nI t)) (q5 : cRd I s) (q6 : szS s < 200) : zcal zty zcd false (d + 2) 48 [.ref 26, .int x1] (zSH zn, I, L) 0 0 (fun r u => ∃ (J : Nat → Nat → Int32), r = some (.int (if (rdn s t).isSome = true then 1 else 0)) ∧ u = (zSH zn, J, L) ∧ (rdP I J s t)) := by
  obtain ⟨aw, nm, cur, V⟩ := s
  have hc := q5
  obtain ⟨c1, c2, c3, c4, c5, c6⟩ := q5
  obtain ⟨o1, o2, o3, o4, o5⟩ := q0
  dsimp only at q1 c1 c2 c3 c4 c5 c6 o1 o2 o3 o4 o5
  subst q1
  obtain ⟨n1, n2, n3⟩ := o3 (by decide)
  obtain ⟨k1, k2, f, k3, k4, k5⟩ := c6 (by decide)
  dsimp only at k1 k2 k3 k4 k5
  have hcl : (nI nm).toNatClampNeg = nm := nI_clamp (by omega)
  have hd10 : depd 0 cur ≤ 10 := okd_le _ 0 (by decide) o5
  have hr : ∀ k, kb t = some k → rdn (2, nm, cur, V) t = if ar k ≤ depd 0 cur ∧ depd 0 cur - ar k < 10 then some (2, nm, cur ++ [k], V) else none := fun k hk => by
    unfold rdn
    dsimp only
    rw [if_neg (by decide), if_neg (by decide), if_neg q3, hk]
  refine eX5_takesToken _ I L (gX5_takesToken_0 _ I L ?_)
  subst q4
  cases hk : kb t with
  | none =>
    have hn : rdn (2, nm, cur, V) t = none := by
      unfold rdn
      dsimp only
      rw [if_neg (by decide), if_neg (by decide), if_neg q3, hk]
    exact ⟨fun _ => ⟨I, by rw [hn]; rfl, rfl, rdP_no hn fr_rf⟩, fun h => absurd (kb_none q2 hk).1 h⟩
  | some k =>
    obtain ⟨a1, a2, a3, a4, a5, a6⟩ := kb_some q2 hk
    have h4 : ∀ k, k < 26 → ¬ nI k = (-4 : Int32) := by decide +kernel
    rw [a3, a5, k2]
    refine ⟨fun h => absurd h (h4 k a1), fun _ => ⟨fun h => ?_, fun h => ?_⟩⟩
    · have hn : rdn (2, nm, cur, V) t = none := by
        rw [hr k hk, if_neg]
        intro z
        rw [pk_sub z.1] at h
        rw [nl0, nI_ltI (by omega) (by omega)] at h
        omega
      exact ⟨I, by rw [hn]; rfl, rfl, rdP_no hn fr_rf⟩
    · have hle : ar k ≤ depd 0 cur := by
        by_cases z : ar k ≤ depd 0 cur
        · exact z
        · exact absurd (dif_neg4 _ hd10 _ ar_le (by omega)) h
      rw [pk_sub hle]
      refine ⟨fun h2 => ?_, fun h2 => ⟨fun _ => ?_, fun h3 => ?_⟩⟩
      · have hn : rdn (2, nm, cur, V) t = none := by
          rw [hr k hk, if_neg]
          intro z
          rw [nl 10, nI_leI (by omega) (by omega)] at h2
          omega
        exact ⟨I, by rw [hn]; rfl, rfl, rdP_no hn fr_rf⟩
      · have hlt : depd 0 cur - ar k < 10 := by
          rw [nl 10, nI_leI (by omega) (by omega)] at h2
          omega
        have hn := hr k hk
        rw [if_pos ⟨hle, hlt⟩] at hn
        have hsc : (nI (szS (2, nm, cur, V))).toNatClampNeg = szS (2, nm, cur, V) := nI_clamp (by omega)
        have hkc : (nI k).toNatClampNeg = k := nI_clamp (by omega)
        rw [tok_of k a1 _ hlt]
        rw [hn, c2, hsc, hkc]
        refine ⟨vin_nI q6 (by decide), fun h5 => ?_, fun h5 => ?_⟩
        · rw [nl 19, nI_leI (by omega) (by omega)] at h5
          refine ⟨_, rfl, rfl, ?_, fun s' hs => ?_⟩
          · intro j hj
            simp only [List.mem_cons, List.not_mem_nil, or_false, not_or] at hj
            funext a
            simp only [zi_at]
            simp [hj]
          · rw [hn] at hs
            cases hs
            refine cRd_tok hc a1 hle hlt n2 q6 ?_ ?_ ?_ ?_ ?_ ?_ ?_ (fun i => ?_) (fun n hn => ?_) (fun n hn => ?_)
            · funext a; simp only [zi_at]; simp
            · funext a; simp only [zi_at]; simp
            · funext a; simp only [zi_at]; simp
            · simp only [zi_at]; simp
            · simp only [zi_at]; simp
            · simp only [zi_at]; simp; rw [c2, nI_1]
            · simp only [zi_at]; simp; rw [nI_1]
            · simp only [zi_at]; simp
            · rw [if_neg (by omega)]; simp only [zi_at]; simp
            · rw [if_neg (by omega)]; simp only [zi_at]; simp
        · rw [nl 19, nI_leI (by omega) (by omega)] at h5
          have hk19 : k < 19 := by omega
          generalize hJ1 : zi (zi (zi I 28 (szS (2, nm, cur, V)) (nI (k + 32 * (depd 0 cur - ar k)))) 26 3 (zi I 28 (szS (2, nm, cur, V)) (nI (k + 32 * (depd 0 cur - ar k))) 26 3 + 1)) 26 4 (nI (depd 0 cur - ar k) + 1) = J1
          have g2 : J1 26 2 = nI nm := by rw [← hJ1]; simp only [zi_at]; simp; exact k1
          have g32 : J1 32 = I 32 := by rw [← hJ1]; funext a; simp only [zi_at]; simp
          have g31 : J1 31 = I 31 := by rw [← hJ1]; funext a; simp only [zi_at]; simp
          have e2 : ∀ x, (zi J1 32 k x) 26 2 = nI nm := fun x => by rw [zi_at]; simp; exact g2
          have e3 : ∀ x n, (zi J1 32 k x) 31 n = I 31 n := fun x n => by rw [zi_at]; simp; rw [g31]
          rw [e2, hcl, e3, g32, nI_shl1 (by omega)]
          refine ⟨vin_nI hk19 (by decide), vin_nI n2 (by decide), _, rfl, rfl, ?_, fun s' hs => ?_⟩
          · intro j hj
            simp only [List.mem_cons, List.not_mem_nil, or_false, not_or] at hj
            rw [← hJ1]
            funext a
            simp only [zi_at]
            simp [hj]
          · rw [hn] at hs
            cases hs
            refine cRd_tok hc a1 hle hlt n2 q6 ?_ ?_ ?_ ?_ ?_ ?_ ?_ (fun i => ?_) (fun n hn => ?_) (fun n hn => ?_)
            · rw [← hJ1]; funext a; simp only [zi_at]; simp
            · rw [← hJ1]; funext a; simp only [zi_at]; simp
            · rw [← hJ1]; funext a; simp only [zi_at]; simp
            · rw [← hJ1]; simp only [zi_at]; simp
            · rw [← hJ1]; simp only [zi_at]; simp
            · rw [← hJ1]; simp only [zi_at]; simp; rw [c2, nI_1]
            · rw [← hJ1]; simp only [zi_at]; simp; rw [nI_1]
            · rw [← hJ1]; simp only [zi_at]; simp
            · rw [zi_at, zi_at, g31]
              by_cases z : n = nm
              · subst z; rw [if_pos ⟨rfl, rfl⟩, if_pos ⟨hk19, rfl⟩]
              · rw [if_neg (fun y => z y.2), if_neg (fun y => absurd y.1 (by decide)), if_neg (fun y => z y.2)]
            · rw [zi_at, zi_at, g32]
              rw [if_neg (fun y => absurd y.1 (by decide))]
              by_cases z : n = k
              · subst z; rw [if_pos ⟨rfl, rfl⟩, if_pos rfl]
              · rw [if_neg (fun y => z y.2), if_neg z]
      · exact absurd (by rw [c2, nl 200, nI_ltI (by omega) (by omega)]; exact q6) h3

