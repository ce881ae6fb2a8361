/-! THE FEWEST -/
noncomputable def fdB (V : zVw) (e : Nat) (r : Nat → Nat) (i t : Nat) : Prop := t < 38 ∧ FM V e t (r i) ≠ 0
theorem fdB_39 {V : zVw} {e : Nat} {r : Nat → Nat} {i t : Nat} : fdB V e r i t ↔ t < 39 ∧ ¬ FM V e t (r i) = 0 := by
  unfold fdB
  constructor
  · rintro ⟨a, b⟩; exact ⟨by omega, b⟩
  · rintro ⟨a, b⟩
    refine ⟨?_, b⟩
    refine Nat.lt_of_not_le (fun z => b (FM_38 z))
def trO (I : Nat → Nat → Int32) (c N : Nat) (r : Nat → Nat) : Prop := ∀ i, i < N → I c i = nI (r i) ∧ r i < 1024
theorem bt_ext {a b : Int64} (h : ∀ t, t < 64 → bt a t = bt b t) : a = b := by
  apply Int64.toBitVec_inj.1
  apply BitVec.eq_of_getLsbD_eq
  intro i hi
  exact h i hi
abbrev RX9_findAll (zn d : Nat) (post : zP) : zK := zRun (zcal zty zcd false (d + 5)) kX9_findAll (zLM zn) post
theorem eX9_findAll {zn d : Nat} {post : zP} (k1 : Nat) (x2 : Int32) (I : Nat → Nat → Int32) (L : Nat → Nat → Int64) (h1 : isX10 k1) (h : RX9_findAll zn d post 0 [some (.ref 73), some (.ref k1), some (.int x2), none, none, none] [] (zSH zn, I, L)) : zcal zty zcd false (d + 6) 73 [.ref 73, .ref k1, .int x2] (zSH zn, I, L) 0 0 post := zcal_of (d := d + 5) zmt73 zmc73 rfl (Nat.le_of_ble_eq_true rfl) h
theorem gX9_findAll_0 {zn d : Nat} {post : zP} (k1 : Nat) (x2 : Int32) (I : Nat → Nat → Int32) (L : Nat → Nat → Int64) (h1 : isX10 k1) (h : RX9_findAll zn d post 5 [some (.ref 73), some (.ref k1), some (.int x2), some (.long (0 : Int64)), none, some (.int (0 : Int32))] [] (zSH zn, I, L)) : RX9_findAll zn d post 0 [some (.ref 73), some (.ref k1), some (.int x2), none, none, none] [] (zSH zn, I, L) := fun P hw hc => hc _ tX9_findAll_0 _ _ _ (hc _ tX9_findAll_1 _ _ _ (hc _ tX9_findAll_2 _ _ _ (hc _ tX9_findAll_3 _ _ _ (h P hw hc))))
theorem gX9_findAll_5 {zn d : Nat} {post : zP} (k1 : Nat) (x2 : Int32) (x3 : Int64) (x5 : Int32) (I : Nat → Nat → Int32) (L : Nat → Nat → Int64) (h1 : isX10 k1) (h : ((I 73 2) ≤ x5 → post (some (.long x3)) (zSH zn, I, L)) ∧ (¬ (I 73 2) ≤ x5 → vp_in x5 10 ∧ ((∃ (V4 : zVw) (os5 : List Nat) (e6 : Nat) (x7 : Nat), (cVw I k1 V4 os5) ∧ (x2 = nI e6 ∧ e6 < 2 ^ 19) ∧ ((I 74 (x5).toNatClampNeg) = nI x7 ∧ x7 < 1024) ∧ (stkE L 77) ∧ (∀ (K3 : Nat → Nat → Int64), (fr [78, 79, 82, 83] L K3 ∧ mdL K3 V4 e6 x7) → (∃ (V11 : zVw) (e12 : Nat) (x13 : Nat) (F14 : Nat), (okV V11) ∧ (mdL K3 V11 e12 x13) ∧ ((0 : Int32) = nI F14 ∧ okF F14) ∧ (∀ (v10 : Int64), (∀ t, t < 64 → (bt v10 t = true ↔ t < 39 ∧ FM V11 e12 t x13 = F14)) → RX9_findAll zn d post 5 [some (.ref 73), some (.ref k1), some (.int x2), some (.long (x3 ||| ((zl K3 76 (x5).toNatClampNeg ((549755813887 : Int64) &&& (v10 ^^^ (-1 : Int64)))) 76 (x5).toNatClampNeg))), none, some (.int (x5 + (1 : Int32)))] [] (zSH zn, I, (zl K3 76 (x5).toNatClampNeg ((549755813887 : Int64) &&& (v10 ^^^ (-1 : Int64)))))))))))) : RX9_findAll zn d post 5 [some (.ref 73), some (.ref k1), some (.int x2), some (.long x3), none, some (.int x5)] [] (zSH zn, I, L) := fun P hw hc => hc _ tX9_findAll_5 _ _ _ (hc _ tX9_findAll_7 _ _ _ (hc _ tX9_findAll_8 _ _ _ (⟨_, sh73, (by decide), hc _ tX9_findAll_11 _ _ _ (⟨fun c1 => hc _ tX9_findAll_63 _ _ _ (hc _ tX9_findAll_64 _ _ _ (⟨rfl, rfl, (h.1 c1)⟩)), fun c2 => hc _ tX9_findAll_14 _ _ _ (hc _ tX9_findAll_15 _ _ _ (hc _ tX9_findAll_16 _ _ _ (hc _ tX9_findAll_17 _ _ _ (hc _ tX9_findAll_18 _ _ _ (⟨_, _, sh73, (by decide), rfl, hc _ tX9_findAll_21 _ _ _ (hc _ tX9_findAll_23 _ _ _ (⟨_, _, _, sh74, Or.inl ⟨rfl, (by decide)⟩, (h.2 c2).1, (by obtain ⟨V4, os5, e6, x7, hg8⟩ := (h.2 c2).2; exact hc _ tX9_findAll_24 _ _ _ (⟨⟨_, _, _, rfl, (by decide), sh73⟩, ⟨Nat.le_of_ble_eq_true rfl, Nat.le_of_ble_eq_true rfl, zl1, zl2, _, ctX9_make k1 x2 (I 74 (x5).toNatClampNeg) I L V4 os5 e6 x7 h1 hg8.1 hg8.2.1 hg8.2.2.1 hg8.2.2.2.1, fun r u k18 => by obtain ⟨K3, rfl, rfl, p9⟩ := k18; exact ⟨zl3, zl4, hc _ tX9_findAll_27 _ _ _ (hc _ tX9_findAll_28 _ _ _ (⟨_, _, sh73, (by decide), rfl, hc _ tX9_findAll_31 _ _ _ (hc _ tX9_findAll_33 _ _ _ (hc _ tX9_findAll_36 _ _ _ (hc _ tX9_findAll_37 _ _ _ ((by obtain ⟨V11, e12, x13, F14, hg15⟩ := (hg8.2.2.2.2 K3 p9); exact hc _ tX9_findAll_38 _ _ _ (⟨⟨_, _, _, rfl, (by decide), sh73⟩, ⟨Nat.le_of_ble_eq_true rfl, Nat.le_of_ble_eq_true rfl, zl1, zl2, _, ctX9_lanesFailing (0 : Int32) I K3 V11 e12 x13 F14 hg15.1 hg15.2.1 hg15.2.2.1, fun r u k17 => by obtain ⟨v10, rfl, rfl, p16⟩ := k17; exact ⟨zl3, zl4, hc _ tX9_findAll_41 _ _ _ (hc _ tX9_findAll_44 _ _ _ (hc _ tX9_findAll_45 _ _ _ (hc _ tX9_findAll_46 _ _ _ (⟨_, _, sh76, (by decide), (h.2 c2).1, hc _ tX9_findAll_47 _ _ _ (hc _ tX9_findAll_48 _ _ _ (hc _ tX9_findAll_49 _ _ _ (⟨_, _, sh73, (by decide), rfl, hc _ tX9_findAll_52 _ _ _ (hc _ tX9_findAll_54 _ _ _ (⟨_, _, _, sh76, Or.inl ⟨rfl, (by decide)⟩, (h.2 c2).1, hc _ tX9_findAll_55 _ _ _ (hc _ tX9_findAll_56 _ _ _ (hc _ tX9_findAll_57 _ _ _ (hc _ tX9_findAll_60 _ _ _ ((hg15.2.2.2 v10 p16) P hw hc))))⟩))⟩)))⟩))))⟩⟩⟩))))))⟩))⟩⟩⟩))⟩))⟩)))))⟩)⟩)))
theorem ctX9_findAll {zn d : Nat} (k1 : Nat) (x2 : Int32) (I : Nat → Nat → Int32) (L : Nat → Nat → Int64) (V : zVw) (os : List Nat) (e : Nat) (N : Nat) (ro : Nat → Nat) (h1 : isX10 k1) (q0 : cVw I k1 V os) (q1 : x2 = nI e ∧ e < 2 ^ 19) (q2 : I 73 2 = nI N ∧ N ≤ 10) (q3 : trO I 74 N ro) (q4 : stkE L 77) : zcal zty zcd false (d + 6) 73 [.ref 73, .ref k1, .int x2] (zSH zn, I, L) 0 0 (fun r u => ∃ (K : Nat → Nat → Int64), ∃ (v : Int64), r = some (.long v) ∧ u = (zSH zn, I, K) ∧ (fr [76, 78, 79, 82, 83] L K ∧ (∀ i, i < N → ∀ t, t < 64 → (bt (K 76 i) t = true ↔ fdB V e ro i t)) ∧ ∀ t, t < 64 → (bt v t = true ↔ ∃ i, i < N ∧ fdB V e ro i t))) := by
  obtain ⟨rfl, he⟩ := q1
  obtain ⟨eN, hN⟩ := q2
  have loop : ∀ n (p : (Nat → Nat → Int64) × Int64), n ≤ N → (fr [76, 78, 79, 82, 83] L p.1 ∧ (∀ i, i < n → ∀ t, t < 64 → (bt (p.1 76 i) t = true ↔ fdB V e ro i t)) ∧ ∀ t, t < 64 → (bt p.2 t = true ↔ ∃ i, i < n ∧ fdB V e ro i t)) → RX9_findAll zn d (fun r u => ∃ (K : Nat → Nat → Int64), ∃ (v : Int64), r = some (.long v) ∧ u = (zSH zn, I, K) ∧ (fr [76, 78, 79, 82, 83] L K ∧ (∀ i, i < N → ∀ t, t < 64 → (bt (K 76 i) t = true ↔ fdB V e ro i t)) ∧ ∀ t, t < 64 → (bt v t = true ↔ ∃ i, i < N ∧ fdB V e ro i t))) 5 [some (.ref 73), some (.ref k1), some (.int (nI e)), some (.long p.2), none, some (.int (nI n))] [] (zSH zn, I, p.1) := by
    refine zup (fun p hp => ?_) (fun n p hn hp ih => ?_)
    · obtain ⟨K, v⟩ := p
      exact gX9_findAll_5 _ _ _ _ I K h1 ⟨fun _ => ⟨K, v, rfl, rfl, hp⟩, fun hc => absurd (by rw [eN, nI_leI (by omega) (by omega)]; exact Nat.le_refl _) hc⟩
    · obtain ⟨K, v⟩ := p
      obtain ⟨f1, f2, f3⟩ := hp
      dsimp only at f1 f2 f3
      refine gX9_findAll_5 _ _ _ _ I K h1 ⟨fun hc => absurd hc (by rw [eN, nI_leI (by omega) (by omega)]; omega), fun _ => ⟨vin_nI (by omega) (by omega), V, os, e, ro n, q0, ⟨rfl, he⟩, by rw [nI_clamp (by omega)]; exact q3 n hn, fun m hm => by rw [f1 80 (by decide), f1 81 (by decide)]; exact q4 m hm, fun K1 ⟨k1, k2⟩ => ⟨V, e, ro n, 0, q0.1.1, k2, ⟨rfl, okF_0⟩, fun w hw => ?_⟩⟩⟩
      rw [nI_clamp (by omega), nI_1, zl_at, if_pos ⟨rfl, rfl⟩]
      have hbit : ∀ t, t < 64 → (bt ((549755813887 : Int64) &&& (w ^^^ (-1 : Int64))) t = true ↔ fdB V e ro n t) := fun t ht => by
        rw [bt_and, bt_not _ ht, all39 t ht, Bool.and_eq_true, decide_eq_true_iff, fdB_39]
        constructor
        · rintro ⟨a, b⟩
          refine ⟨a, fun z => ?_⟩
          rw [(hw t ht).mpr ⟨a, z⟩] at b
          cases b
        · rintro ⟨a, b⟩
          refine ⟨a, ?_⟩
          cases hb : bt w t with
          | false => rfl
          | true => exact absurd ((hw t ht).mp hb).2 b
      refine ih (zl K1 76 n ((549755813887 : Int64) &&& (w ^^^ (-1 : Int64))), v ||| ((549755813887 : Int64) &&& (w ^^^ (-1 : Int64)))) ⟨fr_trans f1 (fr_trans (fr_sub k1 (by decide)) (fr_zl (by decide))), fun i hi t ht => ?_, fun t ht => ?_⟩
      · dsimp only
        rw [zl_at]
        by_cases hin : i = n
        · rw [if_pos ⟨rfl, hin⟩, hin]; exact hbit t ht
        · rw [if_neg (fun z => hin z.2), k1 76 (by decide)]; exact f2 i (by omega) t ht
      · dsimp only
        rw [bt_or, Bool.or_eq_true, f3 t ht, hbit t ht]
        constructor
        · rintro (⟨i, a, b⟩ | b)
          · exact ⟨i, by omega, b⟩
          · exact ⟨n, by omega, b⟩
        · rintro ⟨i, a, b⟩
          by_cases hin : i = n
          · subst hin; exact Or.inr b
          · exact Or.inl ⟨i, by omega, b⟩
  exact eX9_findAll _ _ I L h1 (gX9_findAll_0 _ _ I L h1 (loop 0 (L, 0) (Nat.zero_le _) ⟨fr_rf, fun i hi => absurd hi (by omega), fun t ht => by
    dsimp only
    rw [bt_0]
    exact ⟨fun z => (by cases z), fun ⟨i, a, _⟩ => absurd a (by omega)⟩⟩))
def fbS (F : Nat → Int64) (X : Nat) : Nat → Int64
  | 0 => 0
  | n + 1 => if X.testBit n = true then fbS F X n ||| F n else fbS F X n
theorem fbS_cong {F G : Nat → Int64} {X Y : Nat} : ∀ {n : Nat}, (∀ i, i < n → F i = G i ∧ X.testBit i = Y.testBit i) → fbS F X n = fbS G Y n
  | 0, _ => rfl
  | n + 1, h => by rw [fbS, fbS, fbS_cong (fun i hi => h i (by omega)), (h n (by omega)).1, (h n (by omega)).2]
theorem fbS_bt {F : Nat → Int64} {X t : Nat} : ∀ {n : Nat}, bt (fbS F X n) t = true ↔ ∃ i, i < n ∧ X.testBit i = true ∧ bt (F i) t = true
  | 0 => by
    unfold fbS
    rw [bt_0]
    exact ⟨fun z => (by cases z), fun ⟨i, a, _⟩ => absurd a (by omega)⟩
  | n + 1 => by
    have ih := fbS_bt (F := F) (X := X) (t := t) (n := n)
    unfold fbS
    by_cases h : X.testBit n = true
    · rw [if_pos h, bt_or, Bool.or_eq_true, ih]
      constructor
      · rintro (⟨i, a, b⟩ | b)
        · exact ⟨i, by omega, b⟩
        · exact ⟨n, by omega, h, b⟩
      · rintro ⟨i, a, b, c⟩
        by_cases hin : i = n
        · subst hin; exact Or.inr c
        · exact Or.inl ⟨i, by omega, b, c⟩
    · rw [if_neg h, ih]
      constructor
      · rintro ⟨i, a, b⟩; exact ⟨i, by omega, b⟩
      · rintro ⟨i, a, b, c⟩
        by_cases hin : i = n
        · subst hin; exact absurd b h
        · exact ⟨i, by omega, b, c⟩
theorem or_0L (x : Int64) : x ||| 0 = x := by
  apply Int64.toBitVec_inj.mp
  simp
abbrev RX9_foundBy (zn d : Nat) (post : zP) : zK := zRun (zcal zty zcd false (d + 1)) kX9_foundBy (zLM zn) post
theorem eX9_foundBy {zn d : Nat} {post : zP} (x1 : Int32) (I : Nat → Nat → Int32) (L : Nat → Nat → Int64) (h : RX9_foundBy zn d post 0 [some (.ref 73), some (.int x1), none, none, none] [] (zSH zn, I, L)) : zcal zty zcd false (d + 2) 75 [.ref 73, .int x1] (zSH zn, I, L) 0 0 post := zcal_of (d := d + 1) zmt75 zmc75 rfl (Nat.le_of_ble_eq_true rfl) h
theorem gX9_foundBy_0 {zn d : Nat} {post : zP} (x1 : Int32) (I : Nat → Nat → Int32) (L : Nat → Nat → Int64) (h : RX9_foundBy zn d post 5 [some (.ref 73), some (.int x1), some (.long (0 : Int64)), none, some (.int (0 : Int32))] [] (zSH zn, I, L)) : RX9_foundBy zn d post 0 [some (.ref 73), some (.int x1), none, none, none] [] (zSH zn, I, L) := fun P hw hc => hc _ tX9_foundBy_0 _ _ _ (hc _ tX9_foundBy_1 _ _ _ (hc _ tX9_foundBy_2 _ _ _ (hc _ tX9_foundBy_3 _ _ _ (h P hw hc))))
theorem gX9_foundBy_5 {zn d : Nat} {post : zP} (x1 : Int32) (x2 : Int64) (x4 : Int32) (I : Nat → Nat → Int32) (L : Nat → Nat → Int64) (h : ((I 73 2) ≤ x4 → post (some (.long x2)) (zSH zn, I, L)) ∧ (¬ (I 73 2) ≤ x4 → (¬ ((¬ (x1 >>> (x4 &&& 31)) &&& 1 = 0)) → RX9_foundBy zn d post 5 [some (.ref 73), some (.int x1), some (.long (x2 ||| (0 : Int64))), none, some (.int (x4 + (1 : Int32)))] [] (zSH zn, I, L)) ∧ ((¬ (x1 >>> (x4 &&& 31)) &&& 1 = 0) → vp_in x4 10 ∧ (RX9_foundBy zn d post 5 [some (.ref 73), some (.int x1), some (.long (x2 ||| (L 76 (x4).toNatClampNeg))), none, some (.int (x4 + (1 : Int32)))] [] (zSH zn, I, L))))) : RX9_foundBy zn d post 5 [some (.ref 73), some (.int x1), some (.long x2), none, some (.int x4)] [] (zSH zn, I, L) := fun P hw hc => hc _ tX9_foundBy_5 _ _ _ (hc _ tX9_foundBy_7 _ _ _ (hc _ tX9_foundBy_8 _ _ _ (⟨_, sh73, (by decide), hc _ tX9_foundBy_11 _ _ _ (⟨fun c1 => hc _ tX9_foundBy_43 _ _ _ (hc _ tX9_foundBy_44 _ _ _ (⟨rfl, rfl, (h.1 c1)⟩)), fun c2 => hc _ tX9_foundBy_14 _ _ _ (hc _ tX9_foundBy_15 _ _ _ (hc _ tX9_foundBy_16 _ _ _ (hc _ tX9_foundBy_18 _ _ _ (⟨Nat.le_of_ble_eq_true rfl, Nat.le_of_ble_eq_true rfl, zl1, zl2, _, ctX11_hasBit x1 x4 I L, fun r u k5 => by obtain ⟨rfl, rfl⟩ := k5; exact ⟨zl3, zl4, hc _ tX9_foundBy_21 _ _ _ (⟨fun c3 => hc _ tX9_foundBy_34 _ _ _ (hc _ tX9_foundBy_35 _ _ _ (hc _ tX9_foundBy_36 _ _ _ (hc _ tX9_foundBy_37 _ _ _ (hc _ tX9_foundBy_40 _ _ _ (((h.2 c2).1 (zb_e c3)) P hw hc))))), fun c4 => hc _ tX9_foundBy_24 _ _ _ (hc _ tX9_foundBy_25 _ _ _ (⟨_, _, sh73, (by decide), rfl, hc _ tX9_foundBy_28 _ _ _ (hc _ tX9_foundBy_30 _ _ _ (⟨_, _, _, sh76, Or.inl ⟨rfl, (by decide)⟩, ((h.2 c2).2 (zb_n c4)).1, hc _ tX9_foundBy_31 _ _ _ (hc _ tX9_foundBy_35 _ _ _ (hc _ tX9_foundBy_36 _ _ _ (hc _ tX9_foundBy_37 _ _ _ (hc _ tX9_foundBy_40 _ _ _ (((h.2 c2).2 (zb_n c4)).2 P hw hc)))))⟩))⟩))⟩)⟩⟩))))⟩)⟩)))
theorem ctX9_foundBy {zn d : Nat} (x1 : Int32) (I : Nat → Nat → Int32) (L : Nat → Nat → Int64) (N : Nat) (X : Nat) (q0 : I 73 2 = nI N ∧ N ≤ 10) (q1 : x1 = nI X ∧ X < 2 ^ 31) : zcal zty zcd false (d + 2) 75 [.ref 73, .int x1] (zSH zn, I, L) 0 0 (fun r u => r = some (.long (fbS (L 76) X N)) ∧ u = (zSH zn, I, L)) := by
  obtain ⟨eN, hN⟩ := q0
  obtain ⟨rfl, hX⟩ := q1
  have loop : ∀ n (u : Unit), n ≤ N → True → RX9_foundBy zn d (fun r u => r = some (.long (fbS (L 76) X N)) ∧ u = (zSH zn, I, L)) 5 [some (.ref 73), some (.int (nI X)), some (.long (fbS (L 76) X n)), none, some (.int (nI n))] [] (zSH zn, I, L) := by
    refine zup (fun u _ => ?_) (fun n u hn _ ih => ?_)
    · exact gX9_foundBy_5 _ _ _ I L ⟨fun _ => ⟨rfl, rfl⟩, fun hc => absurd (by rw [eN, nI_leI (by omega) (by omega)]; exact Nat.le_refl _) hc⟩
    · refine gX9_foundBy_5 _ _ _ I L ⟨fun hc => absurd hc (by rw [eN, nI_leI (by omega) (by omega)]; omega), fun _ => ?_⟩
      have hih := ih u trivial
      rw [nI_has hX (by omega), nI_1, or_0L, nI_clamp (by omega)]
      refine ⟨fun h => ?_, fun h => ⟨vin_nI (by omega) (by omega), ?_⟩⟩
      · rw [fbS, if_neg h] at hih; exact hih
      · rw [fbS, if_pos h] at hih; exact hih
  exact eX9_foundBy _ I L (gX9_foundBy_0 _ I L (loop 0 () (Nat.zero_le _) trivial))
abbrev RX12_foundBy (zn d : Nat) (post : zP) : zK := zRun (zcal zty zcd false (d + 0)) kX12_foundBy (zLM zn) post
theorem eX12_foundBy {zn d : Nat} {post : zP} (x1 : Int32) (I : Nat → Nat → Int32) (L : Nat → Nat → Int64) (h : RX12_foundBy zn d post 0 [some (.ref 115), some (.int x1), none, none, none] [] (zSH zn, I, L)) : zcal zty zcd false (d + 1) 204 [.ref 115, .int x1] (zSH zn, I, L) 0 0 post := zcal_of (d := d + 0) zmt204 zmc204 rfl (Nat.le_of_ble_eq_true rfl) h
theorem gX12_foundBy_0 {zn d : Nat} {post : zP} (x1 : Int32) (I : Nat → Nat → Int32) (L : Nat → Nat → Int64) (h : RX12_foundBy zn d post 5 [some (.ref 115), some (.int x1), some (.long (0 : Int64)), none, some (.int (0 : Int32))] [] (zSH zn, I, L)) : RX12_foundBy zn d post 0 [some (.ref 115), some (.int x1), none, none, none] [] (zSH zn, I, L) := fun P hw hc => hc _ tX12_foundBy_0 _ _ _ (hc _ tX12_foundBy_1 _ _ _ (hc _ tX12_foundBy_2 _ _ _ (hc _ tX12_foundBy_3 _ _ _ (h P hw hc))))
theorem gX12_foundBy_5 {zn d : Nat} {post : zP} (x1 : Int32) (x2 : Int64) (x4 : Int32) (I : Nat → Nat → Int32) (L : Nat → Nat → Int64) (h : ((I 115 33) ≤ x4 → post (some (.long x2)) (zSH zn, I, L)) ∧ (¬ (I 115 33) ≤ x4 → (¬ ((x1 >>> (x4 &&& 31)) &&& (1 : Int32)) = (1 : Int32) → RX12_foundBy zn d post 5 [some (.ref 115), some (.int x1), some (.long (x2 ||| (0 : Int64))), none, some (.int (x4 + (1 : Int32)))] [] (zSH zn, I, L)) ∧ (((x1 >>> (x4 &&& 31)) &&& (1 : Int32)) = (1 : Int32) → vp_in x4 10 ∧ (RX12_foundBy zn d post 5 [some (.ref 115), some (.int x1), some (.long (x2 ||| (L 145 (x4).toNatClampNeg))), none, some (.int (x4 + (1 : Int32)))] [] (zSH zn, I, L))))) : RX12_foundBy zn d post 5 [some (.ref 115), some (.int x1), some (.long x2), none, some (.int x4)] [] (zSH zn, I, L) := fun P hw hc => hc _ tX12_foundBy_5 _ _ _ (hc _ tX12_foundBy_7 _ _ _ (hc _ tX12_foundBy_8 _ _ _ (⟨_, sh115, (by decide), hc _ tX12_foundBy_11 _ _ _ (⟨fun c1 => hc _ tX12_foundBy_44 _ _ _ (hc _ tX12_foundBy_45 _ _ _ (⟨rfl, rfl, (h.1 c1)⟩)), fun c2 => hc _ tX12_foundBy_14 _ _ _ (hc _ tX12_foundBy_15 _ _ _ (hc _ tX12_foundBy_16 _ _ _ (hc _ tX12_foundBy_18 _ _ _ (hc _ tX12_foundBy_19 _ _ _ (hc _ tX12_foundBy_20 _ _ _ (hc _ tX12_foundBy_21 _ _ _ (hc _ tX12_foundBy_22 _ _ _ (⟨fun c3 => hc _ tX12_foundBy_35 _ _ _ (hc _ tX12_foundBy_36 _ _ _ (hc _ tX12_foundBy_37 _ _ _ (hc _ tX12_foundBy_38 _ _ _ (hc _ tX12_foundBy_41 _ _ _ (((h.2 c2).1 c3) P hw hc))))), fun c4 => hc _ tX12_foundBy_25 _ _ _ (hc _ tX12_foundBy_26 _ _ _ (⟨_, _, sh115, (by decide), rfl, hc _ tX12_foundBy_29 _ _ _ (hc _ tX12_foundBy_31 _ _ _ (⟨_, _, _, sh145, Or.inl ⟨rfl, (by decide)⟩, ((h.2 c2).2 c4).1, hc _ tX12_foundBy_32 _ _ _ (hc _ tX12_foundBy_36 _ _ _ (hc _ tX12_foundBy_37 _ _ _ (hc _ tX12_foundBy_38 _ _ _ (hc _ tX12_foundBy_41 _ _ _ (((h.2 c2).2 c4).2 P hw hc)))))⟩))⟩))⟩))))))))⟩)⟩)))
theorem ctX12_foundBy {zn d : Nat} (x1 : Int32) (I : Nat → Nat → Int32) (L : Nat → Nat → Int64) (N : Nat) (X : Nat) (q0 : I 115 33 = nI N ∧ N ≤ 10) (q1 : x1 = nI X ∧ X < 2 ^ 31) : zcal zty zcd false (d + 1) 204 [.ref 115, .int x1] (zSH zn, I, L) 0 0 (fun r u => r = some (.long (fbS (L 145) X N)) ∧ u = (zSH zn, I, L)) := by
  obtain ⟨eN, hN⟩ := q0
  obtain ⟨rfl, hX⟩ := q1
  have loop : ∀ n (u : Unit), n ≤ N → True → RX12_foundBy zn d (fun r u => r = some (.long (fbS (L 145) X N)) ∧ u = (zSH zn, I, L)) 5 [some (.ref 115), some (.int (nI X)), some (.long (fbS (L 145) X n)), none, some (.int (nI n))] [] (zSH zn, I, L) := by
    refine zup (fun u _ => ?_) (fun n u hn _ ih => ?_)
    · exact gX12_foundBy_5 _ _ _ I L ⟨fun _ => ⟨rfl, rfl⟩, fun hc => absurd (by rw [eN, nI_leI (by omega) (by omega)]; exact Nat.le_refl _) hc⟩
    · refine gX12_foundBy_5 _ _ _ I L ⟨fun hc => absurd hc (by rw [eN, nI_leI (by omega) (by omega)]; omega), fun _ => ?_⟩
      have hih := ih u trivial
      rw [nI_has1 hX (by omega), nI_1, or_0L, nI_clamp (by omega)]
      refine ⟨fun h => ?_, fun h => ⟨vin_nI (by omega) (by omega), ?_⟩⟩
      · rw [fbS, if_neg h] at hih; exact hih
      · rw [fbS, if_pos h] at hih; exact hih
  exact eX12_foundBy _ I L (gX12_foundBy_0 _ I L (loop 0 () (Nat.zero_le _) trivial))
/-- the set of fewest TRIALS, of several the least -/
def lsS (F : Nat → Int64) (v : Int64) (N b : Nat) : Prop := b < 2 ^ N ∧ fbS F b N = v ∧ ∀ s, s < 2 ^ N → fbS F s N = v → (pcn b 10 < pcn s 10 ∨ (pcn b 10 = pcn s 10 ∧ b ≤ s))
theorem lsS_one {F : Nat → Int64} {v : Int64} {N b c : Nat} (h : lsS F v N b) (h2 : lsS F v N c) : b = c := by
  have a1 := h.2.2 c h2.1 h2.2.1
  have a2 := h2.2.2 b h.1 h.2.1
  omega
theorem bc_10 : ∀ X, X < 1024 → fJ6_bitCount_0f7a4 (nI X) = nI (pcn X 10) := by decide +kernel
theorem allN : ∀ B, B ≤ 10 → ((1 : Int32) <<< (nI B &&& 31)) - 1 = nI (2 ^ B - 1) ∧ (1 : Int32) <<< (nI B &&& 31) = nI (2 ^ B) := by decide +kernel
theorem full_pc : ∀ N, N ≤ 10 → ∀ u, u < 2 ^ N → pcn (2 ^ N - 1) 10 ≤ pcn u 10 → 2 ^ N - 1 ≤ u := by decide +kernel
abbrev RX9_leastSet (zn d : Nat) (post : zP) : zK := zRun (zcal zty zcd false (d + 2)) kX9_leastSet (zLM zn) post
theorem eX9_leastSet {zn d : Nat} {post : zP} (x1 : Int64) (I : Nat → Nat → Int32) (L : Nat → Nat → Int64) (h : RX9_leastSet zn d post 0 [some (.ref 73), some (.long x1), none, none, none] [] (zSH zn, I, L)) : zcal zty zcd false (d + 3) 74 [.ref 73, .long x1] (zSH zn, I, L) 0 0 post := zcal_of (d := d + 2) zmt74 zmc74 rfl (Nat.le_of_ble_eq_true rfl) h
theorem gX9_leastSet_0 {zn d : Nat} {post : zP} (x1 : Int64) (I : Nat → Nat → Int32) (L : Nat → Nat → Int64) (h : RX9_leastSet zn d post 12 [some (.ref 73), some (.long x1), none, some (.int (((1 : Int32) <<< ((I 73 2) &&& 31)) - (1 : Int32))), some (.int (0 : Int32))] [] (zSH zn, I, L)) : RX9_leastSet zn d post 0 [some (.ref 73), some (.long x1), none, none, none] [] (zSH zn, I, L) := fun P hw hc => hc _ tX9_leastSet_0 _ _ _ (hc _ tX9_leastSet_1 _ _ _ (hc _ tX9_leastSet_2 _ _ _ (⟨_, sh73, (by decide), hc _ tX9_leastSet_5 _ _ _ (hc _ tX9_leastSet_6 _ _ _ (hc _ tX9_leastSet_7 _ _ _ (hc _ tX9_leastSet_8 _ _ _ (hc _ tX9_leastSet_9 _ _ _ (hc _ tX9_leastSet_10 _ _ _ (h P hw hc))))))⟩)))
theorem gX9_leastSet_12 {zn d : Nat} {post : zP} (x1 : Int64) (x3 : Int32) (x4 : Int32) (I : Nat → Nat → Int32) (L : Nat → Nat → Int64) (h : (((1 : Int32) <<< ((I 73 2) &&& 31)) ≤ x4 → post (some (.int x3)) (zSH zn, I, L)) ∧ (¬ ((1 : Int32) <<< ((I 73 2) &&& 31)) ≤ x4 → ((fJ6_bitCount_0f7a4 x3) ≤ (fJ6_bitCount_0f7a4 x4) → RX9_leastSet zn d post 12 [some (.ref 73), some (.long x1), none, some (.int x3), some (.int (x4 + (1 : Int32)))] [] (zSH zn, I, L)) ∧ (¬ (fJ6_bitCount_0f7a4 x3) ≤ (fJ6_bitCount_0f7a4 x4) → (∃ (N5 : Nat) (X6 : Nat), (I 73 2 = nI N5 ∧ N5 ≤ 10) ∧ (x4 = nI X6 ∧ X6 < 2 ^ 31) ∧ ((¬ (lg_cmp (fbS (L 76) X6 N5) x1) = 0 → RX9_leastSet zn d post 12 [some (.ref 73), some (.long x1), none, some (.int x3), some (.int (x4 + (1 : Int32)))] [] (zSH zn, I, L)) ∧ ((lg_cmp (fbS (L 76) X6 N5) x1) = 0 → RX9_leastSet zn d post 12 [some (.ref 73), some (.long x1), none, some (.int x4), some (.int (x4 + (1 : Int32)))] [] (zSH zn, I, L))))))) : RX9_leastSet zn d post 12 [some (.ref 73), some (.long x1), none, some (.int x3), some (.int x4)] [] (zSH zn, I, L) := fun P hw hc => hc _ tX9_leastSet_12 _ _ _ (hc _ tX9_leastSet_14 _ _ _ (hc _ tX9_leastSet_15 _ _ _ (hc _ tX9_leastSet_16 _ _ _ (⟨_, sh73, (by decide), hc _ tX9_leastSet_19 _ _ _ (hc _ tX9_leastSet_20 _ _ _ (⟨fun c1 => hc _ tX9_leastSet_55 _ _ _ (hc _ tX9_leastSet_56 _ _ _ (⟨nofun, rfl, rfl, (h.1 c1)⟩)), fun c2 => hc _ tX9_leastSet_23 _ _ _ (hc _ tX9_leastSet_25 _ _ _ (⟨Nat.le_of_ble_eq_true rfl, Nat.le_of_ble_eq_true rfl, zl1, zl2, _, ctJ6_bitCount_0f7a4 x4 I L, fun r u k12 => by obtain ⟨rfl, rfl⟩ := k12; exact ⟨zl3, zl4, hc _ tX9_leastSet_28 _ _ _ (hc _ tX9_leastSet_29 _ _ _ (⟨Nat.le_of_ble_eq_true rfl, Nat.le_of_ble_eq_true rfl, zl1, zl2, _, ctJ6_bitCount_0f7a4 x3 I L, fun r u k11 => by obtain ⟨rfl, rfl⟩ := k11; exact ⟨zl3, zl4, hc _ tX9_leastSet_32 _ _ _ (⟨fun c3 => hc _ tX9_leastSet_49 _ _ _ (hc _ tX9_leastSet_52 _ _ _ (((h.2 c2).1 c3) P hw hc)), fun c4 => hc _ tX9_leastSet_35 _ _ _ (hc _ tX9_leastSet_36 _ _ _ ((by obtain ⟨N5, X6, hg7⟩ := ((h.2 c2).2 c4); exact hc _ tX9_leastSet_38 _ _ _ (⟨⟨_, _, _, rfl, (by decide), sh73⟩, ⟨Nat.le_of_ble_eq_true rfl, Nat.le_of_ble_eq_true rfl, zl1, zl2, _, ctX9_foundBy x4 I L N5 X6 hg7.1 hg7.2.1, fun r u k10 => by obtain ⟨rfl, rfl⟩ := k10; exact ⟨zl3, zl4, hc _ tX9_leastSet_41 _ _ _ (hc _ tX9_leastSet_42 _ _ _ (hc _ tX9_leastSet_43 _ _ _ (⟨fun c8 => hc _ tX9_leastSet_49 _ _ _ (hc _ tX9_leastSet_52 _ _ _ ((hg7.2.2.1 c8) P hw hc)), fun c9 => hc _ tX9_leastSet_46 _ _ _ (hc _ tX9_leastSet_48 _ _ _ (hc _ tX9_leastSet_49 _ _ _ (hc _ tX9_leastSet_52 _ _ _ ((hg7.2.2.2 c9) P hw hc))))⟩)))⟩⟩⟩))))⟩)⟩⟩))⟩⟩))⟩))⟩))))
theorem ctX9_leastSet {zn d : Nat} (x1 : Int64) (I : Nat → Nat → Int32) (L : Nat → Nat → Int64) (N : Nat) (q0 : I 73 2 = nI N ∧ N ≤ 10) (q1 : fbS (L 76) (2 ^ N - 1) N = x1) : zcal zty zcd false (d + 3) 74 [.ref 73, .long x1] (zSH zn, I, L) 0 0 (fun r u => ∃ (b : Nat), r = some (.int (nI b)) ∧ u = (zSH zn, I, L) ∧ (lsS (L 76) x1 N b)) := by
  obtain ⟨eN, hN⟩ := id q0
  have h2N : 2 ^ N ≤ 1024 := Nat.pow_le_pow_right (n := 2) (by decide) hN
  have h0N : 0 < 2 ^ N := Nat.two_pow_pos N
  have loop : ∀ s b, s ≤ 2 ^ N → (b < 2 ^ N ∧ fbS (L 76) b N = x1 ∧ (b < s ∨ b = 2 ^ N - 1) ∧ ∀ u, u < s → fbS (L 76) u N = x1 → (pcn b 10 < pcn u 10 ∨ (pcn b 10 = pcn u 10 ∧ b ≤ u))) → RX9_leastSet zn d (fun r u => ∃ (b : Nat), r = some (.int (nI b)) ∧ u = (zSH zn, I, L) ∧ (lsS (L 76) x1 N b)) 12 [some (.ref 73), some (.long x1), none, some (.int (nI b)), some (.int (nI s))] [] (zSH zn, I, L) := by
    refine zup (fun b hb => ?_) (fun s b hs hb ih => ?_)
    · refine gX9_leastSet_12 _ _ _ I L ⟨fun _ => ⟨b, rfl, rfl, hb.1, hb.2.1, hb.2.2.2⟩, fun hc => absurd ?_ hc⟩
      rw [eN, (allN N hN).2, nI_leI (by omega) (by omega)]; exact Nat.le_refl _
    · obtain ⟨b1, b2, b3, b4⟩ := hb
      refine gX9_leastSet_12 _ _ _ I L ⟨fun hc => absurd hc (by rw [eN, (allN N hN).2, nI_leI (by omega) (by omega)]; omega), fun _ => ?_⟩
      have hp1 := pcn_le b 10
      have hp2 := pcn_le s 10
      rw [bc_10 b (by omega), bc_10 s (by omega), nI_leI (by omega) (by omega), nI_1]
      have keep : (fbS (L 76) s N = x1 → (pcn b 10 < pcn s 10 ∨ (pcn b 10 = pcn s 10 ∧ b ≤ s))) → ∀ u, u < s + 1 → fbS (L 76) u N = x1 → (pcn b 10 < pcn u 10 ∨ (pcn b 10 = pcn u 10 ∧ b ≤ u)) := fun h u hu hf => by
        by_cases hus : u = s
        · subst hus; exact h hf
        · exact b4 u (by omega) hf
      refine ⟨fun hc => ih b ⟨b1, b2, by omega, keep (fun _ => ?_)⟩, fun hc => ⟨N, s, q0, ⟨rfl, by omega⟩, ?_⟩⟩
      · by_cases heq : pcn b 10 = pcn s 10
        · refine Or.inr ⟨heq, ?_⟩
          rcases b3 with z | z
          · omega
          · rw [z]; exact full_pc N hN s hs (by rw [← z]; exact hc)
        · exact Or.inl (by omega)
      · rw [lg_cmp_eq]
        refine ⟨fun hz => ih b ⟨b1, b2, by omega, keep (fun z => absurd z hz)⟩, fun hz => ih s ⟨hs, hz, Or.inl (by omega), fun u hu hf => ?_⟩⟩
        by_cases hus : u = s
        · subst hus; exact Or.inr ⟨rfl, Nat.le_refl _⟩
        · have := b4 u (by omega) hf
          exact Or.inl (by omega)
  refine eX9_leastSet _ I L (gX9_leastSet_0 _ I L ?_)
  rw [eN, (allN N hN).1]
  exact loop 0 (2 ^ N - 1) (Nat.zero_le _) ⟨by omega, q1, Or.inr rfl, fun u hu => absurd hu (by omega)⟩
def fewR (V : zVw) (e N : Nat) (r : Nat → Nat) (x y : Int32) : Prop := (¬ (0 ≤ x ∧ x ≤ 1) → y = -1) ∧ ((0 ≤ x ∧ x ≤ 1) → ∃ (F : Nat → Int64) (v : Int64), (∀ i, i < N → ∀ t, t < 64 → (bt (F i) t = true ↔ fdB V e r i t)) ∧ (∀ t, t < 64 → (bt v t = true ↔ ∃ i, i < N ∧ fdB V e r i t)) ∧ (x = 0 → y = nI (fb_sm (fun t => if bt v t = true then 1 else 0) 64)) ∧ (¬ x = 0 → ∃ b, y = nI b ∧ lsS F v N b))
theorem fewR_one {V : zVw} {e N : Nat} {r : Nat → Nat} {x y z : Int32} (h : fewR V e N r x y) (h2 : fewR V e N r x z) : y = z := by
  by_cases hx : 0 ≤ x ∧ x ≤ 1
  · obtain ⟨F, v, a1, a2, a3, a4⟩ := h.2 hx
    obtain ⟨G, w, b1, b2, b3, b4⟩ := h2.2 hx
    have hv : v = w := bt_ext (fun t ht => Bool.eq_iff_iff.mpr (by rw [a2 t ht, b2 t ht]))
    subst hv
    have hF : ∀ i, i < N → F i = G i := fun i hi => bt_ext (fun t ht => Bool.eq_iff_iff.mpr (by rw [a1 i hi t ht, b1 i hi t ht]))
    have hfb : ∀ X, fbS F X N = fbS G X N := fun X => fbS_cong (fun i hi => ⟨hF i hi, rfl⟩)
    by_cases h0 : x = 0
    · rw [a3 h0, b3 h0]
    · obtain ⟨b, e1, c1⟩ := a4 h0
      obtain ⟨c, e2, c2⟩ := b4 h0
      have c1' : lsS G v N b := ⟨c1.1, by rw [← hfb]; exact c1.2.1, fun s hs hf => c1.2.2 s hs (by rw [hfb]; exact hf)⟩
      rw [e1, e2, lsS_one c1' c2]
  · rw [h.1 hx, h2.1 hx]
theorem fbS_v {V : zVw} {e N : Nat} {r : Nat → Nat} {F : Nat → Int64} {v : Int64} {X : Nat} (hX : ∀ i, i < N → X.testBit i = true) (h1 : ∀ i, i < N → ∀ t, t < 64 → (bt (F i) t = true ↔ fdB V e r i t)) (h2 : ∀ t, t < 64 → (bt v t = true ↔ ∃ i, i < N ∧ fdB V e r i t)) : fbS F X N = v := bt_ext (fun t ht => Bool.eq_iff_iff.mpr (by
  rw [fbS_bt, h2 t ht]
  constructor
  · rintro ⟨i, a, _, c⟩; exact ⟨i, a, (h1 i a t ht).mp c⟩
  · rintro ⟨i, a, c⟩; exact ⟨i, a, hX i a, (h1 i a t ht).mpr c⟩))
abbrev RX11_fewest (zn d : Nat) (post : zP) : zK := zRun (zcal zty zcd false (d + 6)) kX11_fewest (zLM zn) post
theorem eX11_fewest {zn d : Nat} {post : zP} (x1 : Int32) (I : Nat → Nat → Int32) (L : Nat → Nat → Int64) (h : RX11_fewest zn d post 0 [some (.ref 5), some (.int x1), none, none] [] (zSH zn, I, L)) : zcal zty zcd false (d + 7) 121 [.ref 5, .int x1] (zSH zn, I, L) 0 0 post := zcal_of (d := d + 6) zmt121 zmc121 rfl (Nat.le_of_ble_eq_true rfl) h
theorem gX11_fewest_0 {zn d : Nat} {post : zP} (x1 : Int32) (I : Nat → Nat → Int32) (L : Nat → Nat → Int64) (h : (x1 < 0 → post (some (.int (-1 : Int32))) (zSH zn, I, L)) ∧ (¬ x1 < 0 → (x1 ≤ (1 : Int32) → (∃ (V7 : zVw) (os8 : List Nat) (e9 : Nat) (N10 : Nat) (ro11 : Nat → Nat), (cVw I 19 V7 os8) ∧ ((I 5 15) = nI e9 ∧ e9 < 2 ^ 19) ∧ (I 73 2 = nI N10 ∧ N10 ≤ 10) ∧ (trO I 74 N10 ro11) ∧ (stkE L 77) ∧ (∀ (K5 : Nat → Nat → Int64) (v6 : Int64), (fr [76, 78, 79, 82, 83] L K5 ∧ (∀ i, i < N10 → ∀ t, t < 64 → (bt (K5 76 i) t = true ↔ fdB V7 e9 ro11 i t)) ∧ ∀ t, t < 64 → (bt v6 t = true ↔ ∃ i, i < N10 ∧ fdB V7 e9 ro11 i t)) → (¬ x1 = 0 → (∃ (N17 : Nat), (I 73 2 = nI N17 ∧ N17 ≤ 10) ∧ (fbS (K5 76) (2 ^ N17 - 1) N17 = v6) ∧ (∀ (b16 : Nat), (lsS (K5 76) v6 N17 b16) → post (some (.int (nI b16))) (zSH zn, I, K5)))) ∧ (x1 = 0 → post (some (.int (fJ13_bitCount_95d88 v6))) (zSH zn, I, K5))))) ∧ (¬ x1 ≤ (1 : Int32) → post (some (.int (-1 : Int32))) (zSH zn, I, L)))) : RX11_fewest zn d post 0 [some (.ref 5), some (.int x1), none, none] [] (zSH zn, I, L) := fun P hw hc => hc _ tX11_fewest_0 _ _ _ (hc _ tX11_fewest_1 _ _ _ (⟨fun c1 => hc _ tX11_fewest_9 _ _ _ (hc _ tX11_fewest_10 _ _ _ (⟨nofun, rfl, rfl, (h.1 c1)⟩)), fun c2 => hc _ tX11_fewest_4 _ _ _ (hc _ tX11_fewest_5 _ _ _ (hc _ tX11_fewest_6 _ _ _ (⟨fun c3 => hc _ tX11_fewest_11 _ _ _ (hc _ tX11_fewest_12 _ _ _ (⟨_, _, sh5, (by decide), rfl, hc _ tX11_fewest_15 _ _ _ (hc _ tX11_fewest_16 _ _ _ (⟨_, _, sh5, (by decide), rfl, hc _ tX11_fewest_19 _ _ _ (hc _ tX11_fewest_20 _ _ _ (⟨_, _, _, sh11, (by decide), by decide, zvin (by decide), rfl, hc _ tX11_fewest_21 _ _ _ (hc _ tX11_fewest_22 _ _ _ (⟨_, sh5, (by decide), (by obtain ⟨V7, os8, e9, N10, ro11, hg12⟩ := ((h.2 c2).1 c3); exact hc _ tX11_fewest_25 _ _ _ (⟨⟨_, _, _, rfl, (by decide), sh73⟩, ⟨Nat.le_of_ble_eq_true rfl, Nat.le_of_ble_eq_true rfl, zl1, zl2, _, ctX9_findAll 19 (I 5 15) I L V7 os8 e9 N10 ro11 isX10_19 hg12.1 hg12.2.1 hg12.2.2.1 hg12.2.2.2.1 hg12.2.2.2.2.1, fun r u k22 => by obtain ⟨K5, v6, rfl, rfl, p13⟩ := k22; exact ⟨zl3, zl4, hc _ tX11_fewest_28 _ _ _ (hc _ tX11_fewest_29 _ _ _ (hc _ tX11_fewest_30 _ _ _ (⟨fun c14 => hc _ tX11_fewest_40 _ _ _ (hc _ tX11_fewest_41 _ _ _ (⟨_, _, sh5, (by decide), rfl, hc _ tX11_fewest_44 _ _ _ ((by obtain ⟨N17, hg18⟩ := ((hg12.2.2.2.2.2 K5 v6 p13).1 c14); exact hc _ tX11_fewest_45 _ _ _ (⟨⟨_, _, _, rfl, (by decide), sh73⟩, ⟨Nat.le_of_ble_eq_true rfl, Nat.le_of_ble_eq_true rfl, zl1, zl2, _, ctX9_leastSet v6 I K5 N17 hg18.1 hg18.2.1, fun r u k20 => by obtain ⟨b16, rfl, rfl, p19⟩ := k20; exact ⟨zl3, zl4, hc _ tX11_fewest_48 _ _ _ (⟨nofun, rfl, rfl, (hg18.2.2 b16 p19)⟩)⟩⟩⟩)))⟩)), fun c15 => hc _ tX11_fewest_33 _ _ _ (hc _ tX11_fewest_34 _ _ _ (⟨Nat.le_of_ble_eq_true rfl, Nat.le_of_ble_eq_true rfl, zl1, zl2, _, ctJ13_bitCount_95d88 v6 I K5, fun r u k21 => by obtain ⟨rfl, rfl⟩ := k21; exact ⟨zl3, zl4, hc _ tX11_fewest_37 _ _ _ (hc _ tX11_fewest_48 _ _ _ (⟨nofun, rfl, rfl, ((hg12.2.2.2.2.2 K5 v6 p13).2 c15)⟩))⟩⟩))⟩)))⟩⟩⟩))⟩))⟩))⟩))⟩)), fun c4 => hc _ tX11_fewest_9 _ _ _ (hc _ tX11_fewest_10 _ _ _ (⟨nofun, rfl, rfl, ((h.2 c2).2 c4)⟩))⟩)))⟩))
theorem ctX11_fewest {zn d : Nat} (x1 : Int32) (I : Nat → Nat → Int32) (L : Nat → Nat → Int64) (V : zVw) (os : List Nat) (e : Nat) (N : Nat) (ro : Nat → Nat) (q0 : cVw I 19 V os) (q1 : I 5 15 = nI e ∧ e < 2 ^ 19) (q2 : I 73 2 = nI N ∧ N ≤ 10) (q3 : trO I 74 N ro) (q4 : stkE L 77) : zcal zty zcd false (d + 7) 121 [.ref 5, .int x1] (zSH zn, I, L) 0 0 (fun r u => ∃ (K : Nat → Nat → Int64), ∃ (y : Int32), r = some (.int y) ∧ u = (zSH zn, I, K) ∧ (fr [76, 78, 79, 82, 83] L K ∧ fewR V e N ro x1 y)) := by
  refine eX11_fewest _ I L (gX11_fewest_0 _ I L ⟨fun h => ⟨L, _, rfl, rfl, fr_rf, fun _ => rfl, fun z => absurd h (Int32.not_lt.mpr z.1)⟩, fun h => ⟨fun h2 => ⟨V, os, e, N, ro, q0, q1, q2, q3, q4, fun K v ⟨k1, k2, k3⟩ => ?_⟩, fun h2 => ⟨L, _, rfl, rfl, fr_rf, fun _ => rfl, fun z => absurd z.2 h2⟩⟩⟩)
  have hx : 0 ≤ x1 ∧ x1 ≤ 1 := ⟨Int32.not_lt.mp h, h2⟩
  refine ⟨fun h0 => ⟨N, q2, fbS_v (fun i hi => by rw [Nat.testBit_two_pow_sub_one]; exact decide_eq_true hi) k2 k3, fun b hb => ⟨K, _, rfl, rfl, k1, fun z => absurd hx z, fun _ => ⟨K 76, v, k2, k3, fun z => absurd z h0, fun _ => ⟨b, rfl, hb⟩⟩⟩⟩, fun h0 => ⟨K, _, rfl, rfl, k1, fun z => absurd hx z, fun _ => ⟨K 76, v, k2, k3, fun _ => bc_bt v, fun z => absurd h0 z⟩⟩⟩
abbrev RX12_fewest (zn d : Nat) (post : zP) : zK := zRun (zcal zty zcd false (d + 7)) kX12_fewest (zLM zn) post
theorem eX12_fewest {zn d : Nat} {post : zP} (x1 : Int32) (I : Nat → Nat → Int32) (L : Nat → Nat → Int64) (h : RX12_fewest zn d post 0 [some (.ref 115), some (.int x1), none, none, none, none, none, none, none, none] [] (zSH zn, I, L)) : zcal zty zcd false (d + 8) 205 [.ref 115, .int x1] (zSH zn, I, L) 0 0 post := zcal_of (d := d + 7) zmt205 zmc205 rfl (Nat.le_of_ble_eq_true rfl) h
theorem gX12_fewest_0 {zn d : Nat} {post : zP} (x1 : Int32) (I : Nat → Nat → Int32) (L : Nat → Nat → Int64) (h : ((0 : Int32) ≤ x1 ∧ x1 ≤ (1 : Int32) → RX12_fewest zn d post 13 [some (.ref 115), some (.int x1), some (.int (0 : Int32)), none, none, none, none, none, none, none] [] (zSH zn, I, L)) ∧ (¬ ((0 : Int32) ≤ x1 ∧ x1 ≤ (1 : Int32)) → post (some (.int (-1 : Int32))) (zSH zn, I, L))) : RX12_fewest zn d post 0 [some (.ref 115), some (.int x1), none, none, none, none, none, none, none, none] [] (zSH zn, I, L) := fun P hw hc => hc _ tX12_fewest_0 _ _ _ (hc _ tX12_fewest_1 _ _ _ (hc _ tX12_fewest_2 _ _ _ (hc _ tX12_fewest_3 _ _ _ (⟨Nat.le_of_ble_eq_true rfl, Nat.le_of_ble_eq_true rfl, zl1, zl2, _, ctX12_in x1 (0 : Int32) (1 : Int32) I L, fun r u k3 => by obtain ⟨rfl, rfl⟩ := k3; exact ⟨zl3, zl4, hc _ tX12_fewest_6 _ _ _ (⟨fun c1 => hc _ tX12_fewest_11 _ _ _ (hc _ tX12_fewest_12 _ _ _ ((h.1 (zb_n c1)) P hw hc)), fun c2 => hc _ tX12_fewest_9 _ _ _ (hc _ tX12_fewest_10 _ _ _ (⟨nofun, rfl, rfl, (h.2 (zb_e c2))⟩))⟩)⟩⟩))))
theorem gX12_fewest_13 {zn d : Nat} {post : zP} (x1 : Int32) (x2 : Int32) (I : Nat → Nat → Int32) (L : Nat → Nat → Int64) (h : ((I 115 33) ≤ x2 → (∃ (N3 : Nat) (X4 : Nat), (I 115 33 = nI N3 ∧ N3 ≤ 10) ∧ ((1023 : Int32) = nI X4 ∧ X4 < 2 ^ 31) ∧ (RX12_fewest zn d post 92 [some (.ref 115), some (.int x1), some (.long (fbS (L 145) X4 N3)), none, some (.int (0 : Int32)), some (.int (0 : Int32)), none, none, none, none] [] (zSH zn, I, L)))) ∧ (¬ (I 115 33) ≤ x2 → vp_in x2 10 ∧ (RX12_fewest zn d post 30 [some (.ref 115), some (.int x1), some (.int x2), some (.int (0 : Int32)), none, none, none, none, none, none] [] (zSH zn, I, (zl L 145 (x2).toNatClampNeg (0 : Int64)))))) : RX12_fewest zn d post 13 [some (.ref 115), some (.int x1), some (.int x2), none, none, none, none, none, none, none] [] (zSH zn, I, L) := fun P hw hc => hc _ tX12_fewest_13 _ _ _ (hc _ tX12_fewest_14 _ _ _ (hc _ tX12_fewest_15 _ _ _ (⟨_, sh115, (by decide), hc _ tX12_fewest_18 _ _ _ (⟨fun c1 => hc _ tX12_fewest_78 _ _ _ (hc _ tX12_fewest_79 _ _ _ ((by obtain ⟨N3, X4, hg5⟩ := (h.1 c1); exact hc _ tX12_fewest_82 _ _ _ (⟨⟨_, _, _, rfl, (by decide), sh115⟩, ⟨Nat.le_of_ble_eq_true rfl, Nat.le_of_ble_eq_true rfl, zl1, zl2, _, ctX12_foundBy (1023 : Int32) I L N3 X4 hg5.1 hg5.2.1, fun r u k6 => by obtain ⟨rfl, rfl⟩ := k6; exact ⟨zl3, zl4, hc _ tX12_fewest_85 _ _ _ (hc _ tX12_fewest_86 _ _ _ (hc _ tX12_fewest_87 _ _ _ (hc _ tX12_fewest_89 _ _ _ (hc _ tX12_fewest_90 _ _ _ (hg5.2.2 P hw hc)))))⟩⟩⟩)))), fun c2 => hc _ tX12_fewest_21 _ _ _ (hc _ tX12_fewest_22 _ _ _ (⟨_, _, sh115, (by decide), rfl, hc _ tX12_fewest_25 _ _ _ (hc _ tX12_fewest_26 _ _ _ (hc _ tX12_fewest_27 _ _ _ (⟨_, _, sh145, (by decide), (h.2 c2).1, hc _ tX12_fewest_28 _ _ _ (hc _ tX12_fewest_29 _ _ _ ((h.2 c2).2 P hw hc))⟩)))⟩))⟩)⟩)))
theorem gX12_fewest_30 {zn d : Nat} {post : zP} (x1 : Int32) (x2 : Int32) (x3 : Int32) (I : Nat → Nat → Int32) (L : Nat → Nat → Int64) (h : ((38 : Int32) ≤ x3 → RX12_fewest zn d post 13 [some (.ref 115), some (.int x1), some (.int (x2 + (1 : Int32))), none, none, none, none, none, none, none] [] (zSH zn, I, L)) ∧ (¬ (38 : Int32) ≤ x3 → vp_in x2 10 ∧ ((∃ (V4 : zVw) (ps5 : List Nat) (e6 : Nat) (f7 : Nat) (x8 : Nat), (rEv I 1 V4 ps5) ∧ (I 126 0 = nI e6 ∧ e6 < 2 ^ 19) ∧ (I 115 18 = -4) ∧ (x3 = nI f7 ∧ f7 < 38) ∧ ((I 143 (x2).toNatClampNeg) = nI x8 ∧ x8 < 1024) ∧ (∀ (J3 : Nat → Nat → Int32), (fr [115, 130, 131] I J3 ∧ ∀ s, s ≠ 19 → J3 115 s = I 115 s) → ((nI (FM V4 e6 f7 x8)) = 0 → RX12_fewest zn d post 30 [some (.ref 115), some (.int x1), some (.int x2), some (.int (x3 + (1 : Int32))), none, none, none, none, none, none] [] (zSH zn, J3, (zl L 145 (x2).toNatClampNeg ((L 145 (x2).toNatClampNeg) ||| (0 : Int64))))) ∧ (¬ (nI (FM V4 e6 f7 x8)) = 0 → RX12_fewest zn d post 30 [some (.ref 115), some (.int x1), some (.int x2), some (.int (x3 + (1 : Int32))), none, none, none, none, none, none] [] (zSH zn, J3, (zl L 145 (x2).toNatClampNeg ((L 145 (x2).toNatClampNeg) ||| ((1 : Int64) <<< ((x3).toInt64 &&& 63))))))))))) : RX12_fewest zn d post 30 [some (.ref 115), some (.int x1), some (.int x2), some (.int x3), none, none, none, none, none, none] [] (zSH zn, I, L) := fun P hw hc => hc _ tX12_fewest_30 _ _ _ (hc _ tX12_fewest_31 _ _ _ (hc _ tX12_fewest_33 _ _ _ (⟨fun c1 => hc _ tX12_fewest_72 _ _ _ (hc _ tX12_fewest_75 _ _ _ (hw _ _ _ _ _ (zwk_s (zwk_s (zwk_s (zwk_n (zwk_s (zwk_s (zwk_s (zwk_s (zwk_s (zwk_s zwk_nil)))))))))) ((h.1 c1) P hw hc))), fun c2 => hc _ tX12_fewest_36 _ _ _ (hc _ tX12_fewest_37 _ _ _ (⟨_, _, sh115, (by decide), rfl, hc _ tX12_fewest_40 _ _ _ (hc _ tX12_fewest_41 _ _ _ (⟨⟨rfl, rfl⟩, hc _ tX12_fewest_42 _ _ _ (⟨_, _, _, sh145, Or.inl ⟨rfl, (by decide)⟩, (h.2 c2).1, hc _ tX12_fewest_43 _ _ _ (hc _ tX12_fewest_44 _ _ _ (hc _ tX12_fewest_45 _ _ _ (hc _ tX12_fewest_46 _ _ _ (⟨_, _, sh115, (by decide), rfl, hc _ tX12_fewest_49 _ _ _ (hc _ tX12_fewest_50 _ _ _ (⟨_, _, _, sh143, Or.inl ⟨rfl, (by decide)⟩, (h.2 c2).1, (by obtain ⟨V4, ps5, e6, f7, x8, hg9⟩ := (h.2 c2).2; exact hc _ tX12_fewest_51 _ _ _ (⟨⟨_, _, _, rfl, (by decide), sh115⟩, ⟨Nat.le_of_ble_eq_true rfl, Nat.le_of_ble_eq_true rfl, zl1, zl2, _, ctX12_failsOf x3 (I 143 (x2).toNatClampNeg) I L V4 ps5 e6 f7 x8 hg9.1 hg9.2.1 hg9.2.2.1 hg9.2.2.2.1 hg9.2.2.2.2.1, fun r u k13 => by obtain ⟨J3, rfl, rfl, p10⟩ := k13; exact ⟨zl3, zl4, hc _ tX12_fewest_54 _ _ _ (⟨fun c11 => hc _ tX12_fewest_63 _ _ _ (hc _ tX12_fewest_64 _ _ _ (hc _ tX12_fewest_65 _ _ _ (⟨_, _, sh145, (by decide), (h.2 c2).1, hc _ tX12_fewest_66 _ _ _ (hc _ tX12_fewest_69 _ _ _ (((hg9.2.2.2.2.2 J3 p10).1 c11) P hw hc))⟩))), fun c12 => hc _ tX12_fewest_57 _ _ _ (hc _ tX12_fewest_58 _ _ _ (hc _ tX12_fewest_59 _ _ _ (hc _ tX12_fewest_60 _ _ _ (hc _ tX12_fewest_64 _ _ _ (hc _ tX12_fewest_65 _ _ _ (⟨_, _, sh145, (by decide), (h.2 c2).1, hc _ tX12_fewest_66 _ _ _ (hc _ tX12_fewest_69 _ _ _ (((hg9.2.2.2.2.2 J3 p10).2 c12) P hw hc))⟩))))))⟩)⟩⟩⟩))⟩))⟩))))⟩)⟩))⟩))⟩)))
theorem gX12_fewest_92 {zn d : Nat} {post : zP} (x1 : Int32) (x2 : Int64) (x4 : Int32) (x5 : Int32) (I : Nat → Nat → Int32) (L : Nat → Nat → Int64) (h : ((38 : Int32) ≤ x5 → (¬ x1 = 0 → RX12_fewest zn d post 143 [some (.ref 115), some (.int x1), some (.long x2), none, some (.int x4), some (.int (0 : Int32)), some (.int (11 : Int32)), some (.int (0 : Int32)), none, none] [] (zSH zn, I, L)) ∧ (x1 = 0 → post (some (.int x4)) (zSH zn, I, L))) ∧ (¬ (38 : Int32) ≤ x5 → (¬ (lg_cmp ((x2 >>> ((x5).toInt64 &&& 63)) &&& (1 : Int64)) (1 : Int64)) = 0 → RX12_fewest zn d post 92 [some (.ref 115), some (.int x1), some (.long x2), none, some (.int (x4 + (0 : Int32))), some (.int (x5 + (1 : Int32))), none, none, none, none] [] (zSH zn, I, L)) ∧ ((lg_cmp ((x2 >>> ((x5).toInt64 &&& 63)) &&& (1 : Int64)) (1 : Int64)) = 0 → RX12_fewest zn d post 92 [some (.ref 115), some (.int x1), some (.long x2), none, some (.int (x4 + (1 : Int32))), some (.int (x5 + (1 : Int32))), none, none, none, none] [] (zSH zn, I, L)))) : RX12_fewest zn d post 92 [some (.ref 115), some (.int x1), some (.long x2), none, some (.int x4), some (.int x5), none, none, none, none] [] (zSH zn, I, L) := fun P hw hc => hc _ tX12_fewest_92 _ _ _ (hc _ tX12_fewest_94 _ _ _ (hc _ tX12_fewest_96 _ _ _ (⟨fun c1 => hc _ tX12_fewest_126 _ _ _ (hc _ tX12_fewest_127 _ _ _ (⟨fun c3 => hc _ tX12_fewest_133 _ _ _ (hc _ tX12_fewest_134 _ _ _ (hc _ tX12_fewest_136 _ _ _ (hc _ tX12_fewest_138 _ _ _ (hc _ tX12_fewest_140 _ _ _ (hc _ tX12_fewest_141 _ _ _ (((h.1 c1).1 c3) P hw hc)))))), fun c4 => hc _ tX12_fewest_130 _ _ _ (hc _ tX12_fewest_132 _ _ _ (⟨nofun, rfl, rfl, ((h.1 c1).2 c4)⟩))⟩)), fun c2 => hc _ tX12_fewest_99 _ _ _ (hc _ tX12_fewest_101 _ _ _ (hc _ tX12_fewest_102 _ _ _ (hc _ tX12_fewest_104 _ _ _ (hc _ tX12_fewest_105 _ _ _ (hc _ tX12_fewest_106 _ _ _ (hc _ tX12_fewest_107 _ _ _ (hc _ tX12_fewest_108 _ _ _ (hc _ tX12_fewest_109 _ _ _ (⟨fun c5 => hc _ tX12_fewest_116 _ _ _ (hc _ tX12_fewest_117 _ _ _ (hc _ tX12_fewest_118 _ _ _ (hc _ tX12_fewest_120 _ _ _ (hc _ tX12_fewest_123 _ _ _ (((h.2 c2).1 c5) P hw hc))))), fun c6 => hc _ tX12_fewest_112 _ _ _ (hc _ tX12_fewest_113 _ _ _ (hc _ tX12_fewest_117 _ _ _ (hc _ tX12_fewest_118 _ _ _ (hc _ tX12_fewest_120 _ _ _ (hc _ tX12_fewest_123 _ _ _ (((h.2 c2).2 c6) P hw hc))))))⟩)))))))))⟩)))
theorem gX12_fewest_143 {zn d : Nat} {post : zP} (x1 : Int32) (x2 : Int64) (x4 : Int32) (x5 : Int32) (x6 : Int32) (x7 : Int32) (I : Nat → Nat → Int32) (L : Nat → Nat → Int64) (h : (((1 : Int32) <<< ((I 115 33) &&& 31)) ≤ x7 → post (some (.int x5)) (zSH zn, I, L)) ∧ (¬ ((1 : Int32) <<< ((I 115 33) &&& 31)) ≤ x7 → RX12_fewest zn d post 160 [some (.ref 115), some (.int x1), some (.long x2), none, some (.int x4), some (.int x5), some (.int x6), some (.int x7), some (.int (0 : Int32)), some (.int (0 : Int32))] [] (zSH zn, I, L))) : RX12_fewest zn d post 143 [some (.ref 115), some (.int x1), some (.long x2), none, some (.int x4), some (.int x5), some (.int x6), some (.int x7), none, none] [] (zSH zn, I, L) := fun P hw hc => hc _ tX12_fewest_143 _ _ _ (hc _ tX12_fewest_145 _ _ _ (hc _ tX12_fewest_146 _ _ _ (hc _ tX12_fewest_147 _ _ _ (⟨_, sh115, (by decide), hc _ tX12_fewest_150 _ _ _ (hc _ tX12_fewest_151 _ _ _ (⟨fun c1 => hc _ tX12_fewest_219 _ _ _ (hc _ tX12_fewest_221 _ _ _ (⟨nofun, rfl, rfl, (h.1 c1)⟩)), fun c2 => hc _ tX12_fewest_154 _ _ _ (hc _ tX12_fewest_155 _ _ _ (hc _ tX12_fewest_157 _ _ _ (hc _ tX12_fewest_158 _ _ _ ((h.2 c2) P hw hc))))⟩))⟩))))
theorem gX12_fewest_160 {zn d : Nat} {post : zP} (x1 : Int32) (x2 : Int64) (x4 : Int32) (x5 : Int32) (x6 : Int32) (x7 : Int32) (x8 : Int32) (x9 : Int32) (I : Nat → Nat → Int32) (L : Nat → Nat → Int64) (h : ((I 115 33) ≤ x9 → (x6 ≤ x8 → RX12_fewest zn d post 143 [some (.ref 115), some (.int x1), some (.long x2), none, some (.int x4), some (.int x5), some (.int x6), some (.int (x7 + (1 : Int32))), none, none] [] (zSH zn, I, L)) ∧ (¬ x6 ≤ x8 → (∃ (N5 : Nat) (X6 : Nat), (I 115 33 = nI N5 ∧ N5 ≤ 10) ∧ (x7 = nI X6 ∧ X6 < 2 ^ 31) ∧ ((¬ (lg_cmp (fbS (L 145) X6 N5) x2) = 0 → RX12_fewest zn d post 143 [some (.ref 115), some (.int x1), some (.long x2), none, some (.int x4), some (.int x5), some (.int x6), some (.int (x7 + (1 : Int32))), none, none] [] (zSH zn, I, L)) ∧ ((lg_cmp (fbS (L 145) X6 N5) x2) = 0 → RX12_fewest zn d post 143 [some (.ref 115), some (.int x1), some (.long x2), none, some (.int x4), some (.int x7), some (.int x8), some (.int (x7 + (1 : Int32))), none, none] [] (zSH zn, I, L)))))) ∧ (¬ (I 115 33) ≤ x9 → RX12_fewest zn d post 160 [some (.ref 115), some (.int x1), some (.long x2), none, some (.int x4), some (.int x5), some (.int x6), some (.int x7), some (.int (x8 + ((x7 >>> (x9 &&& 31)) &&& (1 : Int32)))), some (.int (x9 + (1 : Int32)))] [] (zSH zn, I, L))) : RX12_fewest zn d post 160 [some (.ref 115), some (.int x1), some (.long x2), none, some (.int x4), some (.int x5), some (.int x6), some (.int x7), some (.int x8), some (.int x9)] [] (zSH zn, I, L) := fun P hw hc => hc _ tX12_fewest_160 _ _ _ (hc _ tX12_fewest_162 _ _ _ (hc _ tX12_fewest_163 _ _ _ (⟨_, sh115, (by decide), hc _ tX12_fewest_166 _ _ _ (⟨fun c1 => hc _ tX12_fewest_187 _ _ _ (hc _ tX12_fewest_189 _ _ _ (hc _ tX12_fewest_191 _ _ _ (⟨fun c3 => hc _ tX12_fewest_213 _ _ _ (hc _ tX12_fewest_216 _ _ _ (hw _ _ _ _ _ (zwk_s (zwk_s (zwk_s (zwk_s (zwk_s (zwk_s (zwk_s (zwk_s (zwk_n (zwk_n zwk_nil)))))))))) (((h.1 c1).1 c3) P hw hc))), fun c4 => hc _ tX12_fewest_194 _ _ _ (hc _ tX12_fewest_195 _ _ _ ((by obtain ⟨N5, X6, hg7⟩ := ((h.1 c1).2 c4); exact hc _ tX12_fewest_197 _ _ _ (⟨⟨_, _, _, rfl, (by decide), sh115⟩, ⟨Nat.le_of_ble_eq_true rfl, Nat.le_of_ble_eq_true rfl, zl1, zl2, _, ctX12_foundBy x7 I L N5 X6 hg7.1 hg7.2.1, fun r u k10 => by obtain ⟨rfl, rfl⟩ := k10; exact ⟨zl3, zl4, hc _ tX12_fewest_200 _ _ _ (hc _ tX12_fewest_201 _ _ _ (hc _ tX12_fewest_202 _ _ _ (⟨fun c8 => hc _ tX12_fewest_213 _ _ _ (hc _ tX12_fewest_216 _ _ _ (hw _ _ _ _ _ (zwk_s (zwk_s (zwk_s (zwk_s (zwk_s (zwk_s (zwk_s (zwk_s (zwk_n (zwk_n zwk_nil)))))))))) ((hg7.2.2.1 c8) P hw hc))), fun c9 => hc _ tX12_fewest_205 _ _ _ (hc _ tX12_fewest_207 _ _ _ (hc _ tX12_fewest_209 _ _ _ (hc _ tX12_fewest_211 _ _ _ (hc _ tX12_fewest_213 _ _ _ (hc _ tX12_fewest_216 _ _ _ (hw _ _ _ _ _ (zwk_s (zwk_s (zwk_s (zwk_s (zwk_s (zwk_s (zwk_s (zwk_s (zwk_n (zwk_n zwk_nil)))))))))) ((hg7.2.2.2 c9) P hw hc)))))))⟩)))⟩⟩⟩))))⟩))), fun c2 => hc _ tX12_fewest_169 _ _ _ (hc _ tX12_fewest_171 _ _ _ (hc _ tX12_fewest_173 _ _ _ (hc _ tX12_fewest_175 _ _ _ (hc _ tX12_fewest_176 _ _ _ (hc _ tX12_fewest_177 _ _ _ (hc _ tX12_fewest_178 _ _ _ (hc _ tX12_fewest_179 _ _ _ (hc _ tX12_fewest_181 _ _ _ (hc _ tX12_fewest_184 _ _ _ ((h.2 c2) P hw hc))))))))))⟩)⟩)))
theorem one_bt : ∀ f, f < 38 → ∀ t, t < 64 → bt ((1 : Int64) <<< ((nI f).toInt64 &&& 63)) t = decide (t = f) := by decide +kernel
theorem sar_bt {x : Int64} {f : Nat} (hf : f < 38) : (lg_cmp ((x >>> ((nI f).toInt64 &&& 63)) &&& (1 : Int64)) (1 : Int64) = 0) ↔ bt x f = true := by
  have hs : ∀ f, f < 38 → ((nI f).toInt64 &&& 63).toBitVec.smod 64 = BitVec.ofNat 64 f := by decide +kernel
  have hb : bt (x >>> ((nI f).toInt64 &&& 63)) 0 = bt x f := by
    unfold bt
    rw [Int64.toBitVec_shiftRight, hs f hf, BitVec.sshiftRight_eq']
    rw [BitVec.getLsbD_sshiftRight]
    have hm : (BitVec.ofNat 64 f).toNat = f := by rw [BitVec.toNat_ofNat]; omega
    rw [hm]
    have h64 : f + 0 < 64 := by omega
    simp [h64]
    intro; omega
  rw [lg_cmp_eq, and_1, hb]
  cases bt x f <;> simp
def fwA (p : Option Nat) : Int32 := match p with
  | none => 0
  | some b => nI b
def fwN (p : Option Nat) : Nat := match p with
  | none => 11
  | some b => pcn b 10
def fwP (p : Option Nat) : Int32 := match p with
  | none => 11
  | some b => nI (pcn b 10)
theorem fwP_N (p : Option Nat) : fwP p = nI (fwN p) := by cases p <;> rfl
theorem fwN_le (p : Option Nat) : fwN p ≤ 11 := by
  cases p with
  | none => exact Nat.le_refl _
  | some b => have := pcn_le b 10; show pcn b 10 ≤ 11; omega
def fwI (F : Nat → Int64) (v : Int64) (N s : Nat) (p : Option Nat) : Prop := match p with
  | none => ∀ u, u < s → fbS F u N ≠ v
  | some b => b < s ∧ fbS F b N = v ∧ ∀ u, u < s → fbS F u N = v → (pcn b 10 < pcn u 10 ∨ (pcn b 10 = pcn u 10 ∧ b ≤ u))
theorem pcn_ext {X N M : Nat} (hX : X < 2 ^ N) (h : N ≤ M) : pcn X N = pcn X M := by
  have : ∀ k, pcn X (N + k) = pcn X N := fun k => by
    induction k with
    | zero => rfl
    | succ k ih =>
      have e : pcn X (N + (k + 1)) = pcn X (N + k) + (if X.testBit (N + k) = true then 1 else 0) := rfl
      rw [e, ih, Nat.testBit_lt_two_pow (Nat.lt_of_lt_of_le hX (Nat.pow_le_pow_right (by decide) (by omega)))]
      rfl
  rw [← this (M - N), show N + (M - N) = M by omega]
theorem ctX12_fewest {zn d : Nat} (x1 : Int32) (I : Nat → Nat → Int32) (L : Nat → Nat → Int64) (V : zVw) (ps : List Nat) (e : Nat) (N : Nat) (ro : Nat → Nat) (q0 : rEv I 1 V ps) (q1 : I 126 0 = nI e ∧ e < 2 ^ 19) (q2 : I 115 33 = nI N ∧ N ≤ 10) (q3 : trO I 143 N ro) (q4 : I 115 18 = -4) : zcal zty zcd false (d + 8) 205 [.ref 115, .int x1] (zSH zn, I, L) 0 0 (fun r u => ∃ (J : Nat → Nat → Int32), ∃ (K : Nat → Nat → Int64), ∃ (y : Int32), r = some (.int y) ∧ u = (zSH zn, J, K) ∧ ((fr [115, 130, 131] I J ∧ ∀ s, s ≠ 19 → J 115 s = I 115 s) ∧ fr [145] L K ∧ fewR V e N ro x1 y)) := by
  obtain ⟨eN, hN⟩ := id q2
  have h2N : 2 ^ N ≤ 1024 := Nat.pow_le_pow_right (n := 2) (by decide) hN
  have h0N : 0 < 2 ^ N := Nat.two_pow_pos N
  refine eX12_fewest _ I L (gX12_fewest_0 _ I L ⟨fun hx => ?_, fun hx => ⟨I, L, _, rfl, rfl, ⟨fr_rf, fun _ _ => rfl⟩, fr_rf, fun _ => rfl, fun z => absurd z hx⟩⟩)
  have sets : ∀ (J : Nat → Nat → Int32) (K : Nat → Nat → Int64) (v : Int64) (m : Int32), ¬ x1 = 0 → (fr [115, 130, 131] I J ∧ ∀ s, s ≠ 19 → J 115 s = I 115 s) → fr [145] L K → (∀ i, i < N → ∀ t, t < 64 → (bt (K 145 i) t = true ↔ fdB V e ro i t)) → (∀ t, t < 64 → (bt v t = true ↔ ∃ i, i < N ∧ fdB V e ro i t)) → ∀ s (p : Option Nat), s ≤ 2 ^ N → fwI (K 145) v N s p → RX12_fewest zn d (fun r u => ∃ (J : Nat → Nat → Int32), ∃ (K : Nat → Nat → Int64), ∃ (y : Int32), r = some (.int y) ∧ u = (zSH zn, J, K) ∧ ((fr [115, 130, 131] I J ∧ ∀ s, s ≠ 19 → J 115 s = I 115 s) ∧ fr [145] L K ∧ fewR V e N ro x1 y)) 143 [some (.ref 115), some (.int x1), some (.long v), none, some (.int m), some (.int (fwA p)), some (.int (fwP p)), some (.int (nI s)), none, none] [] (zSH zn, J, K) := by
    intro J K v m h0 hJ hK k2 k3
    have eJ : J 115 33 = nI N := by rw [hJ.2 33 (by decide)]; exact eN
    refine zup (fun p hp => ?_) (fun s p hs hp ih => ?_)
    · refine gX12_fewest_143 _ _ _ _ _ _ J K ⟨fun _ => ?_, fun hc => absurd (by rw [eJ, (allN N hN).2, nI_leI (by omega) (by omega)]; exact Nat.le_refl _) hc⟩
      have hfull : fbS (K 145) (2 ^ N - 1) N = v := fbS_v (fun i hi => by rw [Nat.testBit_two_pow_sub_one]; exact decide_eq_true hi) k2 k3
      cases p with
      | none => exact absurd hfull (hp (2 ^ N - 1) (by omega))
      | some b => exact ⟨J, K, _, rfl, rfl, hJ, hK, fun z => absurd hx z, fun _ => ⟨K 145, v, k2, k3, fun z => absurd z h0, fun _ => ⟨b, rfl, hp.1, hp.2.1, hp.2.2⟩⟩⟩
    · refine gX12_fewest_143 _ _ _ _ _ _ J K ⟨fun hc => absurd hc (by rw [eJ, (allN N hN).2, nI_leI (by omega) (by omega)]; omega), fun _ => ?_⟩
      have pc : ∀ n (u : Unit), n ≤ N → True → RX12_fewest zn d (fun r u => ∃ (J : Nat → Nat → Int32), ∃ (K : Nat → Nat → Int64), ∃ (y : Int32), r = some (.int y) ∧ u = (zSH zn, J, K) ∧ ((fr [115, 130, 131] I J ∧ ∀ s, s ≠ 19 → J 115 s = I 115 s) ∧ fr [145] L K ∧ fewR V e N ro x1 y)) 160 [some (.ref 115), some (.int x1), some (.long v), none, some (.int m), some (.int (fwA p)), some (.int (fwP p)), some (.int (nI s)), some (.int (nI (pcn s n))), some (.int (nI n))] [] (zSH zn, J, K) := by
        refine zup (fun _ _ => ?_) (fun n _ hn _ ihn => ?_)
        · refine gX12_fewest_160 _ _ _ _ _ _ _ _ J K ⟨fun _ => ?_, fun hc => absurd (by rw [eJ, nI_leI (by omega) (by omega)]; exact Nat.le_refl _) hc⟩
          have ep : pcn s N = pcn s 10 := pcn_ext hs hN
          have hp2 := pcn_le s 10
          have hle : (fwP p ≤ nI (pcn s N)) ↔ fwN p ≤ pcn s 10 := by
            rw [ep, fwP_N, nI_leI (by have := fwN_le p; omega) (by omega)]
          rw [hle, nI_1]
          refine ⟨fun hc => ih p ?_, fun hc => ⟨N, s, ⟨eJ, hN⟩, ⟨rfl, by omega⟩, ?_⟩⟩
          · cases p with
            | none => exact absurd hc (by show ¬ 11 ≤ pcn s 10; omega)
            | some b =>
              have hc' : pcn b 10 ≤ pcn s 10 := hc
              refine ⟨by have := hp.1; omega, hp.2.1, fun u hu hf => ?_⟩
              by_cases hus : u = s
              · subst hus
                by_cases heq : pcn b 10 = pcn u 10
                · exact Or.inr ⟨heq, by have := hp.1; omega⟩
                · exact Or.inl (by omega)
              · exact hp.2.2 u (by omega) hf
          · rw [lg_cmp_eq]
            refine ⟨fun hz => ih p ?_, fun hz => ?_⟩
            · cases p with
              | none =>
                intro u hu
                by_cases hus : u = s
                · subst hus; exact hz
                · exact hp u (by omega)
              | some b =>
                refine ⟨by have := hp.1; omega, hp.2.1, fun u hu hf => ?_⟩
                by_cases hus : u = s
                · subst hus; exact absurd hf hz
                · exact hp.2.2 u (by omega) hf
            · have := ih (some s) ⟨by omega, hz, fun u hu hf => ?_⟩
              · have e8 : fwP (some s) = nI (pcn s N) := by rw [ep]; rfl
                rw [e8] at this
                exact this
              · by_cases hus : u = s
                · subst hus; exact Or.inr ⟨rfl, Nat.le_refl _⟩
                · cases p with
                  | none => exact absurd hf (hp u (by omega))
                  | some b =>
                    have h1 := hp.2.2 u (by omega) hf
                    have hc' : ¬ pcn b 10 ≤ pcn s 10 := hc
                    exact Or.inl (by omega)
        · refine gX12_fewest_160 _ _ _ _ _ _ _ _ J K ⟨fun hc => absurd hc (by rw [eJ, nI_leI (by omega) (by omega)]; omega), fun _ => ?_⟩
          have hb := bit_n (x := s) (j := n) (by omega) (by omega)
          unfold bit at hb
          rw [hb, tri_nI, nI_add, nI_1]
          exact ihn () trivial
      exact pc 0 () (Nat.zero_le _) trivial
  have count : ∀ (J : Nat → Nat → Int32) (K : Nat → Nat → Int64) (v : Int64), (fr [115, 130, 131] I J ∧ ∀ s, s ≠ 19 → J 115 s = I 115 s) → fr [145] L K → (∀ i, i < N → ∀ t, t < 64 → (bt (K 145 i) t = true ↔ fdB V e ro i t)) → (∀ t, t < 64 → (bt v t = true ↔ ∃ i, i < N ∧ fdB V e ro i t)) → ∀ f (u : Unit), f ≤ 38 → True → RX12_fewest zn d (fun r u => ∃ (J : Nat → Nat → Int32), ∃ (K : Nat → Nat → Int64), ∃ (y : Int32), r = some (.int y) ∧ u = (zSH zn, J, K) ∧ ((fr [115, 130, 131] I J ∧ ∀ s, s ≠ 19 → J 115 s = I 115 s) ∧ fr [145] L K ∧ fewR V e N ro x1 y)) 92 [some (.ref 115), some (.int x1), some (.long v), none, some (.int (nI (fb_sm (fun t => if bt v t = true then 1 else 0) f))), some (.int (nI f)), none, none, none, none] [] (zSH zn, J, K) := by
    intro J K v hJ hK k2 k3
    refine zup (fun _ _ => ?_) (fun f _ hf _ ih => ?_)
    · refine gX12_fewest_92 _ _ _ _ J K ⟨fun _ => ⟨fun h0 => ?_, fun h0 => ?_⟩, fun hc => absurd (by decide) hc⟩
      · exact sets J K v _ h0 hJ hK k2 k3 0 none (Nat.zero_le _) (fun u hu => absurd hu (by omega))
      · refine ⟨J, K, _, rfl, rfl, hJ, hK, fun z => absurd hx z, fun _ => ⟨K 145, v, k2, k3, fun _ => ?_, fun z => absurd h0 z⟩⟩
        have : fb_sm (fun t => if bt v t = true then 1 else 0) 64 = fb_sm (fun t => if bt v t = true then 1 else 0) 38 := by
          rw [show (64 : Nat) = 38 + 26 by rfl, fb_sm_cat]
          have hz : fb_sm (fun i => if bt v (38 + i) = true then 1 else 0) 26 = fb_sm (fun _ => 0) 26 := fb_sm_cong (fun i hi => by
            rw [if_neg]
            intro z
            obtain ⟨j, -, h38, -⟩ := (k3 (38 + i) (by omega)).mp z
            omega)
          rw [hz]
          have : fb_sm (fun _ => 0) 26 = 0 := by decide
          rw [this, Nat.add_zero]
        rw [this]
    · refine gX12_fewest_92 _ _ _ _ J K ⟨fun hc => absurd hc (by rw [nl 38, nI_leI (by decide) (by omega)]; omega), fun _ => ?_⟩
      have hih := ih () trivial
      rw [fb_sm_succ] at hih
      rw [sar_bt hf, add_0, nI_1, nI_1]
      refine ⟨fun h => ?_, fun h => ?_⟩
      · rw [if_neg h] at hih; exact hih
      · rw [if_pos h] at hih; exact hih
  have rows : ∀ n (p : (Nat → Nat → Int32) × (Nat → Nat → Int64)), n ≤ N → ((fr [115, 130, 131] I p.1 ∧ ∀ s, s ≠ 19 → p.1 115 s = I 115 s) ∧ fr [145] L p.2 ∧ ∀ i, i < n → ∀ t, t < 64 → (bt (p.2 145 i) t = true ↔ fdB V e ro i t)) → RX12_fewest zn d (fun r u => ∃ (J : Nat → Nat → Int32), ∃ (K : Nat → Nat → Int64), ∃ (y : Int32), r = some (.int y) ∧ u = (zSH zn, J, K) ∧ ((fr [115, 130, 131] I J ∧ ∀ s, s ≠ 19 → J 115 s = I 115 s) ∧ fr [145] L K ∧ fewR V e N ro x1 y)) 13 [some (.ref 115), some (.int x1), some (.int (nI n)), none, none, none, none, none, none, none] [] (zSH zn, p.1, p.2) := by
    refine zup (fun p hp => ?_) (fun n p hn hp ih => ?_)
    · obtain ⟨J, K⟩ := p
      obtain ⟨hJ, hK, k2⟩ := hp
      dsimp only at hJ hK k2
      have eJ : J 115 33 = nI N := by rw [hJ.2 33 (by decide)]; exact eN
      refine gX12_fewest_13 _ _ J K ⟨fun _ => ⟨N, 1023, ⟨eJ, hN⟩, ⟨rfl, by decide⟩, ?_⟩, fun hc => absurd (by rw [eJ, nI_leI (by omega) (by omega)]; exact Nat.le_refl _) hc⟩
      have h1023 : ∀ i, i < N → (1023 : Nat).testBit i = true := fun i hi => by
        have : ∀ i, i < 10 → (1023 : Nat).testBit i = true := by decide
        exact this i (by omega)
      refine count J K _ hJ hK k2 (fun t ht => ?_) 0 () (by decide) trivial
      rw [fbS_bt]
      constructor
      · rintro ⟨i, a, _, c⟩; exact ⟨i, a, (k2 i a t ht).mp c⟩
      · rintro ⟨i, a, c⟩; exact ⟨i, a, h1023 i a, (k2 i a t ht).mpr c⟩
    · obtain ⟨J, K⟩ := p
      obtain ⟨hJ, hK, k2⟩ := hp
      dsimp only at hJ hK k2
      have eJ : J 115 33 = nI N := by rw [hJ.2 33 (by decide)]; exact eN
      refine gX12_fewest_13 _ _ J K ⟨fun hc => absurd hc (by rw [eJ, nI_leI (by omega) (by omega)]; omega), fun _ => ⟨vin_nI (by omega) (by omega), ?_⟩⟩
      rw [nI_clamp (by omega)]
      have inner : ∀ f (p : (Nat → Nat → Int32) × (Nat → Nat → Int64)), f ≤ 38 → ((fr [115, 130, 131] I p.1 ∧ ∀ s, s ≠ 19 → p.1 115 s = I 115 s) ∧ fr [145] L p.2 ∧ (∀ i, i < n → ∀ t, t < 64 → (bt (p.2 145 i) t = true ↔ fdB V e ro i t)) ∧ ∀ t, t < 64 → (bt (p.2 145 n) t = true ↔ t < f ∧ fdB V e ro n t)) → RX12_fewest zn d (fun r u => ∃ (J : Nat → Nat → Int32), ∃ (K : Nat → Nat → Int64), ∃ (y : Int32), r = some (.int y) ∧ u = (zSH zn, J, K) ∧ ((fr [115, 130, 131] I J ∧ ∀ s, s ≠ 19 → J 115 s = I 115 s) ∧ fr [145] L K ∧ fewR V e N ro x1 y)) 30 [some (.ref 115), some (.int x1), some (.int (nI n)), some (.int (nI f)), none, none, none, none, none, none] [] (zSH zn, p.1, p.2) := by
        refine zup (fun p hp => ?_) (fun f p hf hp ihf => ?_)
        · obtain ⟨J2, K2⟩ := p
          obtain ⟨a1, a2, a3, a4⟩ := hp
          dsimp only at a1 a2 a3 a4
          refine gX12_fewest_30 _ _ _ J2 K2 ⟨fun _ => ?_, fun hc => absurd (by decide) hc⟩
          rw [nI_1]
          refine ih (J2, K2) ⟨a1, a2, fun i hi t ht => ?_⟩
          by_cases hin : i = n
          · subst hin
            dsimp only
            rw [a4 t ht]
            exact ⟨fun z => z.2, fun z => ⟨z.1, z⟩⟩
          · exact a3 i (by omega) t ht
        · obtain ⟨J2, K2⟩ := p
          obtain ⟨a1, a2, a3, a4⟩ := hp
          dsimp only at a1 a2 a3 a4
          have cJ := rEv_any q0 (a1.1 118 (by decide)) (a1.1 119 (by decide)) (a1.1 120 (by decide)) (a1.1 122 (by decide)) (a1.1 123 (by decide))
          refine gX12_fewest_30 _ _ _ J2 K2 ⟨fun hc => absurd hc (by rw [nl 38, nI_leI (by decide) (by omega)]; omega), fun _ => ⟨vin_nI (by omega) (by omega), V, ps, e, f, ro n, cJ, by rw [a1.1 126 (by decide)]; exact q1, by rw [a1.2 18 (by decide)]; exact q4, ⟨rfl, hf⟩, by rw [nI_clamp (by omega), a1.1 143 (by decide)]; exact q3 n hn, fun J3 ⟨b1, b2⟩ => ?_⟩⟩
          have hlt := FM_lt V e f (ro n)
          have c1 : fr [115, 130, 131] I J3 ∧ ∀ s, s ≠ 19 → J3 115 s = I 115 s := ⟨fr_trans a1.1 b1, fun s hs => (b2 s hs).trans (a1.2 s hs)⟩
          rw [nI_clamp (by omega), nl0, nI_eq (by omega) (by decide), nI_1]
          have key : ∀ w : Int64, (∀ t, t < 64 → (bt w t = true ↔ t < f + 1 ∧ fdB V e ro n t)) → RX12_fewest zn d (fun r u => ∃ (J : Nat → Nat → Int32), ∃ (K : Nat → Nat → Int64), ∃ (y : Int32), r = some (.int y) ∧ u = (zSH zn, J, K) ∧ ((fr [115, 130, 131] I J ∧ ∀ s, s ≠ 19 → J 115 s = I 115 s) ∧ fr [145] L K ∧ fewR V e N ro x1 y)) 30 [some (.ref 115), some (.int x1), some (.int (nI n)), some (.int (nI (f + 1))), none, none, none, none, none, none] [] (zSH zn, J3, zl K2 145 n w) := fun w hw => by
            refine ihf (J3, zl K2 145 n w) ⟨c1, fr_trans a2 (fr_zl (by decide)), fun i hi t ht => ?_, fun t ht => ?_⟩
            · dsimp only
              rw [zl_at, if_neg (by omega)]; exact a3 i hi t ht
            · dsimp only
              rw [zl_at, if_pos ⟨rfl, rfl⟩]; exact hw t ht
          refine ⟨fun hz => key _ (fun t ht => ?_), fun hz => key _ (fun t ht => ?_)⟩
          · rw [or_0L, a4 t ht]
            constructor
            · rintro ⟨a, b⟩; exact ⟨by omega, b⟩
            · rintro ⟨a, b⟩
              refine ⟨?_, b⟩
              have : t ≠ f := fun z => b.2 (by rw [z]; exact hz)
              omega
          · rw [bt_or, Bool.or_eq_true, a4 t ht, one_bt f hf t ht, decide_eq_true_iff]
            constructor
            · rintro (⟨a, b⟩ | a)
              · exact ⟨by omega, b⟩
              · subst a; exact ⟨by omega, hf, hz⟩
            · rintro ⟨a, b⟩
              by_cases htf : t = f
              · exact Or.inr htf
              · exact Or.inl ⟨by omega, b⟩
      refine inner 0 (J, zl K 145 n 0) (by decide) ⟨hJ, fr_trans hK (fr_zl (by decide)), fun i hi t ht => ?_, fun t ht => ?_⟩
      · dsimp only
        rw [zl_at, if_neg (by omega)]; exact k2 i hi t ht
      · dsimp only
        rw [zl_at, if_pos ⟨rfl, rfl⟩, bt_0]
        exact ⟨fun z => (by cases z), fun ⟨a, _⟩ => absurd a (by omega)⟩
  exact rows 0 (I, L) (Nat.zero_le _) ⟨⟨fr_rf, fun _ _ => rfl⟩, fr_rf, fun i hi => absurd hi (by omega)⟩

