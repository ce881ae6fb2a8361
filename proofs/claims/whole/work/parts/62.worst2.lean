/-! arrival, worst -/
def latN (V : zVw) (A : Nat → Int32) : Nat → Option Nat
  | 0 => none
  | n + 1 => if (V n).isSome = true then (match latN V A n with
    | none => some n
    | some w => if A n ≤ A w then some w else some n) else latN V A n
def oI (o : Option Nat) : Int32 := match o with
  | none => -4
  | some w => nI w
theorem latN_in {V : zVw} {A : Nat → Int32} : ∀ {n w : Nat}, latN V A n = some w → w < n ∧ (V w).isSome = true
  | 0, w, h => by cases h
  | n + 1, w, h => by
    unfold latN at h
    by_cases hv : (V n).isSome = true
    · rw [if_pos hv] at h
      cases hl : latN V A n with
      | none => rw [hl] at h; cases h; exact ⟨by omega, hv⟩
      | some u =>
        rw [hl] at h
        simp only at h
        by_cases hc : A n ≤ A u
        · rw [if_pos hc] at h; cases h; have := latN_in hl; exact ⟨by omega, this.2⟩
        · rw [if_neg hc] at h; cases h; exact ⟨by omega, hv⟩
    · rw [if_neg hv] at h
      have := latN_in h
      exact ⟨by omega, this.2⟩
theorem latN_cong {V : zVw} {A B : Nat → Int32} : ∀ {n : Nat}, (∀ k, k < n → A k = B k) → latN V A n = latN V B n
  | 0, _ => rfl
  | n + 1, h => by
    have ih := latN_cong (V := V) (A := A) (B := B) (n := n) (fun k hk => h k (by omega))
    unfold latN
    rw [ih]
    cases hl : latN V B n with
    | none => rfl
    | some u =>
      have := (latN_in hl).1
      simp only
      rw [h n (by omega), h u (by omega)]
theorem latN_6 {V : zVw} (hV : okV V) (A : Nat → Int32) : latN V A 6 = none := by
  cases h : latN V A 6 with
  | none => rfl
  | some w =>
    obtain ⟨h1, h2⟩ := latN_in h
    obtain ⟨ks, hk⟩ := Option.isSome_iff_exists.mp h2
    have := (hV w ks hk).1
    omega
theorem oI_n4 {o : Option Nat} (h : ∀ w, o = some w → w < 200) : oI o = -4 ↔ o = none := by
  cases o with
  | none => exact ⟨fun _ => rfl, fun _ => rfl⟩
  | some w => exact ⟨fun z => absurd z (nI_n4 (by have := h w rfl; omega)), fun z => by cases z⟩
abbrev RX8_latest (zn d : Nat) (post : zP) : zK := zRun (zcal zty zcd false (d + 2)) kX8_latest (zLM zn) post
theorem eX8_latest {zn d : Nat} {post : zP} (k1 : Nat) (I : Nat → Nat → Int32) (L : Nat → Nat → Int64) (h1 : isX10 k1) (h : RX8_latest zn d post 0 [some (.ref 62), some (.ref k1), none, none] [] (zSH zn, I, L)) : zcal zty zcd false (d + 3) 66 [.ref 62, .ref k1] (zSH zn, I, L) 0 0 post := zcal_of (d := d + 2) zmt66 zmc66 rfl (Nat.le_of_ble_eq_true rfl) h
theorem gX8_latest_0 {zn d : Nat} {post : zP} (k1 : Nat) (I : Nat → Nat → Int32) (L : Nat → Nat → Int64) (h1 : isX10 k1) (h : RX8_latest zn d post 6 [some (.ref 62), some (.ref k1), some (.int (-4 : Int32)), some (.int (6 : Int32))] [] (zSH zn, I, L)) : RX8_latest zn d post 0 [some (.ref 62), some (.ref k1), none, none] [] (zSH zn, I, L) := fun P hw hc => hc _ tX8_latest_0 _ _ _ (hc _ tX8_latest_2 _ _ _ (hc _ tX8_latest_3 _ _ _ (hc _ tX8_latest_5 _ _ _ (h P hw hc))))
theorem gX8_latest_6 {zn d : Nat} {post : zP} (k1 : Nat) (x2 : Int32) (x3 : Int32) (I : Nat → Nat → Int32) (L : Nat → Nat → Int64) (h1 : isX10 k1) (h : ((19 : Int32) ≤ x3 → post (some (.int x2)) (zSH zn, I, L)) ∧ (¬ (19 : Int32) ≤ x3 → (¬ ((¬ ((I k1 6) >>> (x3 &&& 31)) &&& 1 = 0)) → RX8_latest zn d post 6 [some (.ref 62), some (.ref k1), some (.int x2), some (.int (x3 + (1 : Int32)))] [] (zSH zn, I, L)) ∧ ((¬ ((I k1 6) >>> (x3 &&& 31)) &&& 1 = 0) → (x2 = (-4 : Int32) → RX8_latest zn d post 6 [some (.ref 62), some (.ref k1), some (.int x3), some (.int (x3 + (1 : Int32)))] [] (zSH zn, I, L)) ∧ (¬ x2 = (-4 : Int32) → vp_in x3 19 ∧ (vp_in x2 19 ∧ (((I 63 (x3).toNatClampNeg) ≤ (I 63 (x2).toNatClampNeg) → RX8_latest zn d post 6 [some (.ref 62), some (.ref k1), some (.int x2), some (.int (x3 + (1 : Int32)))] [] (zSH zn, I, L)) ∧ (¬ (I 63 (x3).toNatClampNeg) ≤ (I 63 (x2).toNatClampNeg) → RX8_latest zn d post 6 [some (.ref 62), some (.ref k1), some (.int x3), some (.int (x3 + (1 : Int32)))] [] (zSH zn, I, L)))))))) : RX8_latest zn d post 6 [some (.ref 62), some (.ref k1), some (.int x2), some (.int x3)] [] (zSH zn, I, L) := fun P hw hc => hc _ tX8_latest_6 _ _ _ (hc _ tX8_latest_7 _ _ _ (hc _ tX8_latest_9 _ _ _ (⟨fun c1 => hc _ tX8_latest_49 _ _ _ (hc _ tX8_latest_50 _ _ _ (⟨nofun, rfl, rfl, (h.1 c1)⟩)), fun c2 => hc _ tX8_latest_12 _ _ _ (hc _ tX8_latest_13 _ _ _ (hc _ tX8_latest_14 _ _ _ (⟨⟨_, _, _, rfl, (geX10 h1), (shX10 h1)⟩, ⟨Nat.le_of_ble_eq_true rfl, Nat.le_of_ble_eq_true rfl, zl1, zl2, _, ctX10_hasLine k1 x3 I L h1, fun r u k9 => by obtain ⟨rfl, rfl⟩ := k9; exact ⟨zl3, zl4, hc _ tX8_latest_17 _ _ _ (⟨fun c3 => hc _ tX8_latest_43 _ _ _ (hc _ tX8_latest_46 _ _ _ (((h.2 c2).1 (zb_e c3)) P hw hc)), fun c4 => hc _ tX8_latest_20 _ _ _ (hc _ tX8_latest_21 _ _ _ (hc _ tX8_latest_23 _ _ _ (⟨fun c5 => hc _ tX8_latest_41 _ _ _ (hc _ tX8_latest_42 _ _ _ (hc _ tX8_latest_43 _ _ _ (hc _ tX8_latest_46 _ _ _ ((((h.2 c2).2 (zb_n c4)).1 c5) P hw hc)))), fun c6 => hc _ tX8_latest_26 _ _ _ (hc _ tX8_latest_27 _ _ _ (⟨_, _, sh62, (by decide), rfl, hc _ tX8_latest_30 _ _ _ (hc _ tX8_latest_31 _ _ _ (⟨_, _, _, sh63, Or.inl ⟨rfl, (by decide)⟩, (((h.2 c2).2 (zb_n c4)).2 c6).1, hc _ tX8_latest_32 _ _ _ (hc _ tX8_latest_33 _ _ _ (⟨_, _, sh62, (by decide), rfl, hc _ tX8_latest_36 _ _ _ (hc _ tX8_latest_37 _ _ _ (⟨_, _, _, sh63, Or.inl ⟨rfl, (by decide)⟩, (((h.2 c2).2 (zb_n c4)).2 c6).2.1, hc _ tX8_latest_38 _ _ _ (⟨fun c7 => hc _ tX8_latest_43 _ _ _ (hc _ tX8_latest_46 _ _ _ (((((h.2 c2).2 (zb_n c4)).2 c6).2.2.1 c7) P hw hc)), fun c8 => hc _ tX8_latest_41 _ _ _ (hc _ tX8_latest_42 _ _ _ (hc _ tX8_latest_43 _ _ _ (hc _ tX8_latest_46 _ _ _ (((((h.2 c2).2 (zb_n c4)).2 c6).2.2.2 c8) P hw hc))))⟩)⟩))⟩))⟩))⟩))⟩)))⟩)⟩⟩⟩)))⟩)))
theorem ctX8_latest {zn d : Nat} (k1 : Nat) (I : Nat → Nat → Int32) (L : Nat → Nat → Int64) (V : zVw) (h1 : isX10 k1) (q0 : okV V) (q1 : I k1 6 = nI (tlV V)) : zcal zty zcd false (d + 3) 66 [.ref 62, .ref k1] (zSH zn, I, L) 0 0 (fun r u => r = some (.int (oI (latN V (I 63) 19))) ∧ u = (zSH zn, I, L)) := by
  have loop : ∀ n (u : Unit), n ≤ 19 → 6 ≤ n → RX8_latest zn d (fun r u => r = some (.int (oI (latN V (I 63) 19))) ∧ u = (zSH zn, I, L)) 6 [some (.ref 62), some (.ref k1), some (.int (oI (latN V (I 63) n))), some (.int (nI n))] [] (zSH zn, I, L) := by
    refine zup (fun u _ => ?_) (fun n u hn h6 ih => ?_)
    · exact gX8_latest_6 _ _ _ I L h1 ⟨fun _ => ⟨rfl, rfl⟩, fun hc => absurd (by decide) hc⟩
    · refine gX8_latest_6 _ _ _ I L h1 ⟨fun hc => absurd hc (by rw [nl 19, nI_leI (by decide) (by omega)]; omega), fun _ => ?_⟩
      have hih := ih u (by omega)
      have hlt : ∀ w, latN V (I 63) n = some w → w < 200 := fun w hw => by have := (latN_in hw).1; omega
      rw [q1, nI_has (by have := tlV_lt (V := V); omega) (by omega), tlV_bit hn, nI_1, oI_n4 hlt, nI_clamp (by omega)]
      refine ⟨fun hv => ?_, fun hv => ⟨fun hl => ?_, fun hl => ⟨vin_nI hn (by decide), ?_⟩⟩⟩
      · have e : latN V (I 63) (n + 1) = latN V (I 63) n := by rw [latN, if_neg hv]
        rw [e] at hih; exact hih
      · have e : latN V (I 63) (n + 1) = some n := by rw [latN, if_pos hv, hl]
        rw [e] at hih; exact hih
      · cases hl2 : latN V (I 63) n with
        | none => exact absurd hl2 hl
        | some w =>
          have hw := (latN_in hl2).1
          have tw : (oI (some w)).toNatClampNeg = w := nI_clamp (n := w) (by omega)
          rw [tw]
          refine ⟨vin_nI (j := w) (by omega) (by decide), fun hc => ?_, fun hc => ?_⟩
          · have e : latN V (I 63) (n + 1) = some w := by rw [latN, if_pos hv, hl2]; simp only; rw [if_pos hc]
            rw [e] at hih; exact hih
          · have e : latN V (I 63) (n + 1) = some n := by rw [latN, if_pos hv, hl2]; simp only; rw [if_neg hc]
            rw [e] at hih; exact hih
  have h0 := loop 6 () (by decide) (by decide)
  rw [latN_6 q0] at h0
  exact eX8_latest _ I L h1 (gX8_latest_0 _ I L h1 h0)
def way (cc : Nat → Int32) (n0 : Int32) : Nat → Int32
  | 0 => n0
  | k + 1 => if way cc n0 k = -4 then -4 else if k = 0 ∨ (6 ≤ way cc n0 k ∧ way cc n0 k < 15) then cc (tn (way cc n0 k)) else -4
theorem way_4 {cc : Nat → Int32} {n0 : Int32} {k : Nat} (h : way cc n0 k = -4) : ∀ m, way cc n0 (k + m) = -4
  | 0 => h
  | m + 1 => by
    have := way_4 h m
    rw [← Nat.add_assoc, way, if_pos this]
def wC (J : Nat → Nat → Int32) (n : Nat) : Int32 := if J 64 n < 19 then J 64 n else -4
def isw (n : Nat) : Bool := decide (6 ≤ n) && decide (n < 15)
def cwN (os : List Nat) (j : Nat) : Nat := ((os.take j).filter isw).length
theorem cwN_le {V : zVw} {os : List Nat} (h : topc V os) (j : Nat) : cwN os j ≤ 9 := by
  unfold cwN
  have hn : ((os.take j).filter isw).Nodup := (h.2.1.sublist (List.take_sublist j os)).filter _
  have hm : ∀ o ∈ (os.take j).filter isw, 6 ≤ o ∧ o < 15 := fun o ho => by
    have := (List.mem_filter.mp ho).2
    unfold isw at this
    rw [Bool.and_eq_true] at this
    exact ⟨of_decide_eq_true this.1, of_decide_eq_true this.2⟩
  rw [nod_len (N := 15) hn (fun o ho => (hm o ho).2)]
  have h2 : fb_sm (fun n => if n ∈ (os.take j).filter isw then 1 else 0) 15 ≤ fb_sm (fun n => if 6 ≤ n then 1 else 0) 15 := fb_sm_le (fun k _ => by
    by_cases hk : k ∈ (os.take j).filter isw
    · rw [if_pos hk, if_pos (hm k hk).1]; exact Nat.le_refl _
    · rw [if_neg hk]; exact Nat.zero_le _)
  have h3 : fb_sm (fun n => if 6 ≤ n then 1 else 0) 15 = 9 := by decide
  omega
theorem cwN_lt {os : List Nat} {i j u : Nat} (hj : os[j]? = some u) (hij : j < i) (h6 : 6 ≤ u) (h15 : u < 15) : cwN os j < cwN os i := by
  unfold cwN
  have e : os.take i = os.take (j + 1) ++ (os.drop (j + 1)).take (i - (j + 1)) := by
    rw [← List.take_add]; congr 1; omega
  have hw : isw u = true := by unfold isw; simp [h6, h15]
  rw [e, List.filter_append, take_s hj, List.filter_append, List.length_append, List.length_append]
  have : ([u].filter isw).length = 1 := by simp [hw]
  omega
abbrev RX8_nameOnWay (zn d : Nat) (post : zP) : zK := zRun (zcal zty zcd false (d + 1)) kX8_nameOnWay (zLM zn) post
theorem eX8_nameOnWay {zn d : Nat} {post : zP} (x1 : Int32) (x2 : Int32) (I : Nat → Nat → Int32) (L : Nat → Nat → Int64) (h : RX8_nameOnWay zn d post 0 [some (.ref 62), some (.int x1), some (.int x2), none, none, none] [] (zSH zn, I, L)) : zcal zty zcd false (d + 2) 67 [.ref 62, .int x1, .int x2] (zSH zn, I, L) 0 0 post := zcal_of (d := d + 1) zmt67 zmc67 rfl (Nat.le_of_ble_eq_true rfl) h
theorem gX8_nameOnWay_0 {zn d : Nat} {post : zP} (x1 : Int32) (x2 : Int32) (I : Nat → Nat → Int32) (L : Nat → Nat → Int64) (h : RX8_nameOnWay zn d post 5 [some (.ref 62), some (.int x1), some (.int x2), some (.int x1), some (.int (0 : Int32)), none] [] (zSH zn, I, L)) : RX8_nameOnWay zn d post 0 [some (.ref 62), some (.int x1), some (.int x2), none, none, none] [] (zSH zn, I, L) := fun P hw hc => hc _ tX8_nameOnWay_0 _ _ _ (hc _ tX8_nameOnWay_1 _ _ _ (hc _ tX8_nameOnWay_2 _ _ _ (hc _ tX8_nameOnWay_3 _ _ _ (h P hw hc))))
theorem gX8_nameOnWay_5 {zn d : Nat} {post : zP} (x1 : Int32) (x2 : Int32) (x3 : Int32) (x4 : Int32) (I : Nat → Nat → Int32) (L : Nat → Nat → Int64) (h : (x2 ≤ x4 → post (some (.int x3)) (zSH zn, I, L)) ∧ (¬ x2 ≤ x4 → (x4 = 0 → ((1 : Int32) = 0 → post (some (.int (-4 : Int32))) (zSH zn, I, L)) ∧ (¬ (1 : Int32) = 0 → ((11 : Int32) ≤ x4 → post (some (.int (-4 : Int32))) (zSH zn, I, L)) ∧ (¬ (11 : Int32) ≤ x4 → vp_in x3 19 ∧ (((I 64 (x3).toNatClampNeg) < (19 : Int32) → RX8_nameOnWay zn d post 5 [some (.ref 62), some (.int x1), some (.int x2), some (.int (I 64 (x3).toNatClampNeg)), some (.int (x4 + (1 : Int32))), none] [] (zSH zn, I, L)) ∧ (¬ (I 64 (x3).toNatClampNeg) < (19 : Int32) → post (some (.int (-4 : Int32))) (zSH zn, I, L)))))) ∧ (¬ x4 = 0 → (¬ ((6 ≤ x3 ∧ x3 < 15)) → ((0 : Int32) = 0 → post (some (.int (-4 : Int32))) (zSH zn, I, L)) ∧ (¬ (0 : Int32) = 0 → ((11 : Int32) ≤ x4 → post (some (.int (-4 : Int32))) (zSH zn, I, L)) ∧ (¬ (11 : Int32) ≤ x4 → vp_in x3 19 ∧ (((I 64 (x3).toNatClampNeg) < (19 : Int32) → RX8_nameOnWay zn d post 5 [some (.ref 62), some (.int x1), some (.int x2), some (.int (I 64 (x3).toNatClampNeg)), some (.int (x4 + (1 : Int32))), none] [] (zSH zn, I, L)) ∧ (¬ (I 64 (x3).toNatClampNeg) < (19 : Int32) → post (some (.int (-4 : Int32))) (zSH zn, I, L)))))) ∧ ((6 ≤ x3 ∧ x3 < 15) → ((1 : Int32) = 0 → post (some (.int (-4 : Int32))) (zSH zn, I, L)) ∧ (¬ (1 : Int32) = 0 → ((11 : Int32) ≤ x4 → post (some (.int (-4 : Int32))) (zSH zn, I, L)) ∧ (¬ (11 : Int32) ≤ x4 → vp_in x3 19 ∧ (((I 64 (x3).toNatClampNeg) < (19 : Int32) → RX8_nameOnWay zn d post 5 [some (.ref 62), some (.int x1), some (.int x2), some (.int (I 64 (x3).toNatClampNeg)), some (.int (x4 + (1 : Int32))), none] [] (zSH zn, I, L)) ∧ (¬ (I 64 (x3).toNatClampNeg) < (19 : Int32) → post (some (.int (-4 : Int32))) (zSH zn, I, L))))))))) : RX8_nameOnWay zn d post 5 [some (.ref 62), some (.int x1), some (.int x2), some (.int x3), some (.int x4), none] [] (zSH zn, I, L) := fun P hw hc => hc _ tX8_nameOnWay_5 _ _ _ (hc _ tX8_nameOnWay_7 _ _ _ (hc _ tX8_nameOnWay_8 _ _ _ (⟨fun c1 => hc _ tX8_nameOnWay_69 _ _ _ (hc _ tX8_nameOnWay_70 _ _ _ (⟨nofun, rfl, rfl, (h.1 c1)⟩)), fun c2 => hc _ tX8_nameOnWay_11 _ _ _ (hc _ tX8_nameOnWay_13 _ _ _ (⟨fun c3 => hc _ tX8_nameOnWay_23 _ _ _ (hc _ tX8_nameOnWay_24 _ _ _ (hc _ tX8_nameOnWay_28 _ _ _ (hc _ tX8_nameOnWay_30 _ _ _ (hc _ tX8_nameOnWay_32 _ _ _ (⟨fun c5 => hc _ tX8_nameOnWay_53 _ _ _ (hc _ tX8_nameOnWay_55 _ _ _ (⟨nofun, rfl, rfl, (((h.2 c2).1 c3).1 c5)⟩)), fun c6 => hc _ tX8_nameOnWay_35 _ _ _ (hc _ tX8_nameOnWay_37 _ _ _ (hc _ tX8_nameOnWay_39 _ _ _ (⟨fun c7 => hc _ tX8_nameOnWay_53 _ _ _ (hc _ tX8_nameOnWay_55 _ _ _ (⟨nofun, rfl, rfl, ((((h.2 c2).1 c3).2 c6).1 c7)⟩)), fun c8 => hc _ tX8_nameOnWay_42 _ _ _ (hc _ tX8_nameOnWay_43 _ _ _ (⟨_, _, sh62, (by decide), rfl, hc _ tX8_nameOnWay_46 _ _ _ (hc _ tX8_nameOnWay_47 _ _ _ (⟨_, _, _, sh64, Or.inl ⟨rfl, (by decide)⟩, ((((h.2 c2).1 c3).2 c6).2 c8).1, hc _ tX8_nameOnWay_48 _ _ _ (hc _ tX8_nameOnWay_50 _ _ _ (⟨fun c9 => hc _ tX8_nameOnWay_56 _ _ _ (hc _ tX8_nameOnWay_57 _ _ _ (⟨_, _, sh62, (by decide), rfl, hc _ tX8_nameOnWay_60 _ _ _ (hc _ tX8_nameOnWay_61 _ _ _ (⟨_, _, _, sh64, Or.inl ⟨rfl, (by decide)⟩, ((((h.2 c2).1 c3).2 c6).2 c8).1, hc _ tX8_nameOnWay_62 _ _ _ (hc _ tX8_nameOnWay_63 _ _ _ (hc _ tX8_nameOnWay_66 _ _ _ (hw _ _ _ _ _ (zwk_s (zwk_s (zwk_s (zwk_s (zwk_s (zwk_n zwk_nil)))))) ((((((h.2 c2).1 c3).2 c6).2 c8).2.1 c9) P hw hc))))⟩))⟩)), fun c10 => hc _ tX8_nameOnWay_53 _ _ _ (hc _ tX8_nameOnWay_55 _ _ _ (⟨nofun, rfl, rfl, (((((h.2 c2).1 c3).2 c6).2 c8).2.2 c10)⟩))⟩))⟩))⟩))⟩)))⟩))))), fun c4 => hc _ tX8_nameOnWay_16 _ _ _ (hc _ tX8_nameOnWay_17 _ _ _ (⟨Nat.le_of_ble_eq_true rfl, Nat.le_of_ble_eq_true rfl, zl1, zl2, _, ctX11_isWire x3 I L, fun r u k25 => by obtain ⟨rfl, rfl⟩ := k25; exact ⟨zl3, zl4, hc _ tX8_nameOnWay_20 _ _ _ (⟨fun c11 => hc _ tX8_nameOnWay_27 _ _ _ (hc _ tX8_nameOnWay_28 _ _ _ (hc _ tX8_nameOnWay_30 _ _ _ (hc _ tX8_nameOnWay_32 _ _ _ (⟨fun c13 => hc _ tX8_nameOnWay_53 _ _ _ (hc _ tX8_nameOnWay_55 _ _ _ (⟨nofun, rfl, rfl, ((((h.2 c2).2 c4).1 (zb_e c11)).1 c13)⟩)), fun c14 => hc _ tX8_nameOnWay_35 _ _ _ (hc _ tX8_nameOnWay_37 _ _ _ (hc _ tX8_nameOnWay_39 _ _ _ (⟨fun c15 => hc _ tX8_nameOnWay_53 _ _ _ (hc _ tX8_nameOnWay_55 _ _ _ (⟨nofun, rfl, rfl, (((((h.2 c2).2 c4).1 (zb_e c11)).2 c14).1 c15)⟩)), fun c16 => hc _ tX8_nameOnWay_42 _ _ _ (hc _ tX8_nameOnWay_43 _ _ _ (⟨_, _, sh62, (by decide), rfl, hc _ tX8_nameOnWay_46 _ _ _ (hc _ tX8_nameOnWay_47 _ _ _ (⟨_, _, _, sh64, Or.inl ⟨rfl, (by decide)⟩, (((((h.2 c2).2 c4).1 (zb_e c11)).2 c14).2 c16).1, hc _ tX8_nameOnWay_48 _ _ _ (hc _ tX8_nameOnWay_50 _ _ _ (⟨fun c17 => hc _ tX8_nameOnWay_56 _ _ _ (hc _ tX8_nameOnWay_57 _ _ _ (⟨_, _, sh62, (by decide), rfl, hc _ tX8_nameOnWay_60 _ _ _ (hc _ tX8_nameOnWay_61 _ _ _ (⟨_, _, _, sh64, Or.inl ⟨rfl, (by decide)⟩, (((((h.2 c2).2 c4).1 (zb_e c11)).2 c14).2 c16).1, hc _ tX8_nameOnWay_62 _ _ _ (hc _ tX8_nameOnWay_63 _ _ _ (hc _ tX8_nameOnWay_66 _ _ _ (hw _ _ _ _ _ (zwk_s (zwk_s (zwk_s (zwk_s (zwk_s (zwk_n zwk_nil)))))) (((((((h.2 c2).2 c4).1 (zb_e c11)).2 c14).2 c16).2.1 c17) P hw hc))))⟩))⟩)), fun c18 => hc _ tX8_nameOnWay_53 _ _ _ (hc _ tX8_nameOnWay_55 _ _ _ (⟨nofun, rfl, rfl, ((((((h.2 c2).2 c4).1 (zb_e c11)).2 c14).2 c16).2.2 c18)⟩))⟩))⟩))⟩))⟩)))⟩)))), fun c12 => hc _ tX8_nameOnWay_23 _ _ _ (hc _ tX8_nameOnWay_24 _ _ _ (hc _ tX8_nameOnWay_28 _ _ _ (hc _ tX8_nameOnWay_30 _ _ _ (hc _ tX8_nameOnWay_32 _ _ _ (⟨fun c19 => hc _ tX8_nameOnWay_53 _ _ _ (hc _ tX8_nameOnWay_55 _ _ _ (⟨nofun, rfl, rfl, ((((h.2 c2).2 c4).2 (zb_n c12)).1 c19)⟩)), fun c20 => hc _ tX8_nameOnWay_35 _ _ _ (hc _ tX8_nameOnWay_37 _ _ _ (hc _ tX8_nameOnWay_39 _ _ _ (⟨fun c21 => hc _ tX8_nameOnWay_53 _ _ _ (hc _ tX8_nameOnWay_55 _ _ _ (⟨nofun, rfl, rfl, (((((h.2 c2).2 c4).2 (zb_n c12)).2 c20).1 c21)⟩)), fun c22 => hc _ tX8_nameOnWay_42 _ _ _ (hc _ tX8_nameOnWay_43 _ _ _ (⟨_, _, sh62, (by decide), rfl, hc _ tX8_nameOnWay_46 _ _ _ (hc _ tX8_nameOnWay_47 _ _ _ (⟨_, _, _, sh64, Or.inl ⟨rfl, (by decide)⟩, (((((h.2 c2).2 c4).2 (zb_n c12)).2 c20).2 c22).1, hc _ tX8_nameOnWay_48 _ _ _ (hc _ tX8_nameOnWay_50 _ _ _ (⟨fun c23 => hc _ tX8_nameOnWay_56 _ _ _ (hc _ tX8_nameOnWay_57 _ _ _ (⟨_, _, sh62, (by decide), rfl, hc _ tX8_nameOnWay_60 _ _ _ (hc _ tX8_nameOnWay_61 _ _ _ (⟨_, _, _, sh64, Or.inl ⟨rfl, (by decide)⟩, (((((h.2 c2).2 c4).2 (zb_n c12)).2 c20).2 c22).1, hc _ tX8_nameOnWay_62 _ _ _ (hc _ tX8_nameOnWay_63 _ _ _ (hc _ tX8_nameOnWay_66 _ _ _ (hw _ _ _ _ _ (zwk_s (zwk_s (zwk_s (zwk_s (zwk_s (zwk_n zwk_nil)))))) (((((((h.2 c2).2 c4).2 (zb_n c12)).2 c20).2 c22).2.1 c23) P hw hc))))⟩))⟩)), fun c24 => hc _ tX8_nameOnWay_53 _ _ _ (hc _ tX8_nameOnWay_55 _ _ _ (⟨nofun, rfl, rfl, ((((((h.2 c2).2 c4).2 (zb_n c12)).2 c20).2 c22).2.2 c24)⟩))⟩))⟩))⟩))⟩)))⟩)))))⟩)⟩⟩))⟩))⟩)))
theorem ctX8_nameOnWay {zn d : Nat} (x1 : Int32) (x2 : Int32) (I : Nat → Nat → Int32) (L : Nat → Nat → Int64) (V : zVw) (os : List Nat) (w : Nat) (i : Nat) (q0 : okV V) (q1 : topc V os) (q2 : ∀ n ks, V n = some ks → ((I 64 n = 19 ∨ I 64 n = 20) ∨ ∃ u, u < 19 ∧ u ∈ ks ∧ I 64 n = nI u)) (q3 : x1 = nI w ∧ w < 19 ∧ (V w).isSome = true) (q4 : x2 = nI i ∧ i < 2 ^ 31) : zcal zty zcd false (d + 2) 67 [.ref 62, .int x1, .int x2] (zSH zn, I, L) 0 0 (fun r u => r = some (.int (way (wC I) (nI w) i)) ∧ u = (zSH zn, I, L)) := by
  obtain ⟨rfl, hw19, hws⟩ := q3
  obtain ⟨rfl, hi31⟩ := q4
  obtain ⟨t1, t2, t3⟩ := id q1
  have step : ∀ (k n : Nat), n < 19 → way (wC I) (nI w) k = nI n → (k = 0 ∧ n = w ∨ 1 ≤ k ∧ ((6 ≤ n ∧ n < 15) → ∃ j, os[j]? = some n ∧ cwN os j + k ≤ 10)) → (k = 0 ∨ (6 ≤ n ∧ n < 15)) → ((I 64 n = 19 ∨ I 64 n = 20) ∨ ∃ u, u < 19 ∧ I 64 n = nI u ∧ ((6 ≤ u ∧ u < 15) → ∃ j, os[j]? = some u ∧ cwN os j + (k + 1) ≤ 10)) ∧ k < 11 := by
    intro k n hn hway hcase hgo
    have hsome : ∃ i0, os[i0]? = some n ∧ cwN os i0 + k ≤ 10 := by
      rcases hcase with ⟨hk, hnw⟩ | ⟨hk, hj⟩
      · subst hnw
        obtain ⟨i0, hi0⟩ := List.getElem?_of_mem ((t1 n).mpr hws)
        exact ⟨i0, hi0, by have := cwN_le q1 i0; omega⟩
      · exact hj (hgo.resolve_left (by omega))
    obtain ⟨i0, hi0, hc⟩ := hsome
    have hs : (V n).isSome = true := (t1 n).mp (List.mem_of_getElem? hi0)
    obtain ⟨ks, hk⟩ := Option.isSome_iff_exists.mp hs
    refine ⟨?_, by omega⟩
    rcases q2 n ks hk with h | ⟨u, u19, um, eu⟩
    · exact Or.inl h
    · refine Or.inr ⟨u, u19, eu, fun ⟨u6, u15⟩ => ?_⟩
      have hm := t3 i0 n ks u hi0 hk um u6 u15
      obtain ⟨j, hj⟩ := List.getElem?_of_mem hm
      have hji : j < i0 := by
        have := (List.getElem?_eq_some_iff.mp hj).1
        rw [List.length_take] at this
        omega
      rw [List.getElem?_take_of_lt hji] at hj
      exact ⟨j, hj, by have := cwN_lt hj hji u6 u15; omega⟩
  have loop : ∀ (m k n : Nat), k + m = i → n < 19 → way (wC I) (nI w) k = nI n → (k = 0 ∧ n = w ∨ 1 ≤ k ∧ ((6 ≤ n ∧ n < 15) → ∃ j, os[j]? = some n ∧ cwN os j + k ≤ 10)) → RX8_nameOnWay zn d (fun r u => r = some (.int (way (wC I) (nI w) i)) ∧ u = (zSH zn, I, L)) 5 [some (.ref 62), some (.int (nI w)), some (.int (nI i)), some (.int (nI n)), some (.int (nI k)), none] [] (zSH zn, I, L) := by
    intro m
    induction m with
    | zero =>
      intro k n hk hn hway hcase
      have : k = i := by omega
      subst this
      exact gX8_nameOnWay_5 _ _ _ _ I L ⟨fun _ => ⟨by rw [hway], rfl⟩, fun hc => absurd (by rw [nI_leI hi31 hi31]; exact Nat.le_refl _) hc⟩
    | succ m ih =>
      intro k n hk hn hway hcase
      have hnn4 : way (wC I) (nI w) k ≠ -4 := by rw [hway]; exact nI_n4 (by omega)
      have tnn : tn (nI n) = n := tn_nI (by omega)
      have tnn' : (nI n).toNatClampNeg = n := tnn
      have hwn : ∀ (_ : k = 0 ∨ (6 ≤ n ∧ n < 15)), way (wC I) (nI w) (k + 1) = wC I n := fun hg => by
        rw [way, if_neg hnn4, if_pos, hway, tnn]
        rw [hway]
        exact hg.imp id (fun z => (wire_nI (by omega)).mpr z)
      have bad : way (wC I) (nI w) (k + 1) = -4 → way (wC I) (nI w) i = -4 := fun z => by
        have := way_4 z (i - (k + 1))
        rw [show k + 1 + (i - (k + 1)) = i by omega] at this
        exact this
      have go : ∀ (_ : k = 0 ∨ (6 ≤ n ∧ n < 15)), ((11 ≤ nI k → (fun r u => r = some (Value.int (way (wC I) (nI w) i)) ∧ u = (zSH zn, I, L) : zP) (some (.int (-4))) (zSH zn, I, L)) ∧ (¬ 11 ≤ nI k → vp_in (nI n) 19 ∧ ((I 64 (nI n).toNatClampNeg < 19 → RX8_nameOnWay zn d (fun r u => r = some (Value.int (way (wC I) (nI w) i)) ∧ u = (zSH zn, I, L)) 5 [some (.ref 62), some (.int (nI w)), some (.int (nI i)), some (.int (I 64 (nI n).toNatClampNeg)), some (.int (nI k + 1)), none] [] (zSH zn, I, L)) ∧ (¬ I 64 (nI n).toNatClampNeg < 19 → (fun r u => r = some (Value.int (way (wC I) (nI w) i)) ∧ u = (zSH zn, I, L) : zP) (some (.int (-4))) (zSH zn, I, L))))) := fun hg => by
        obtain ⟨hcs, hk11⟩ := step k n hn hway hcase hg
        refine ⟨fun h11 => absurd h11 (by rw [nl 11, nI_leI (by decide) (by omega)]; omega), fun _ => ⟨vin_nI hn (by decide), fun hlt => ?_, fun hlt => ?_⟩⟩
        · rw [tnn'] at hlt ⊢
          rcases hcs with hz | ⟨u, u19, eu, hu⟩
          · rcases hz with hz | hz
            · rw [hz] at hlt; exact absurd hlt (by decide)
            · rw [hz] at hlt; exact absurd hlt (by decide)
          · rw [eu, nI_1]
            refine ih (k + 1) u (by omega) u19 ?_ (Or.inr ⟨by omega, hu⟩)
            rw [hwn hg]; unfold wC; rw [if_pos hlt, eu]
        · rw [tnn'] at hlt
          exact ⟨by rw [bad (by rw [hwn hg]; unfold wC; rw [if_neg hlt])], rfl⟩
      refine gX8_nameOnWay_5 _ _ _ _ I L ⟨fun hc => absurd hc (by rw [nI_leI hi31 (by omega)]; omega), fun _ => ⟨fun hk0 => ?_, fun hk0 => ?_⟩⟩
      · have hk0' : k = 0 := nI_inj (by omega) (by decide) hk0
        exact ⟨fun z => absurd z (by decide), fun _ => go (Or.inl hk0')⟩
      · have hk0' : k ≠ 0 := fun z => hk0 (by rw [z]; rfl)
        rw [wire_nI (by omega)]
        refine ⟨fun hnw => ⟨fun _ => ?_, fun z => absurd rfl z⟩, fun hw => ⟨fun z => absurd z (by decide), fun _ => go (Or.inr hw)⟩⟩
        have hb : way (wC I) (nI w) (k + 1) = -4 := by
          rw [way, if_neg hnn4, if_neg]
          rw [hway, wire_nI (by omega)]
          exact fun z => z.elim hk0' hnw
        exact ⟨by rw [bad hb], rfl⟩
  exact eX8_nameOnWay _ _ I L (gX8_nameOnWay_0 _ _ I L (loop i 0 w (by omega) hw19 rfl (Or.inl ⟨rfl, rfl⟩)))
def arvS (A : Nat → Int32) (x y z : Int32) : Int32 := if (x = 0 ∨ x = 1) ∧ (0 ≤ y ∧ y < 19) ∧ 0 ≤ z ∧ z < 3 then A (tn y) else -1
def wrsS (V : zVw) (A cc : Nat → Int32) (clk x z i : Int32) : Int32 := if (x = 0 ∨ x = 1) ∧ (0 ≤ z ∧ z < 3) ∧ ¬ i < -2 then (match latN V A 19 with
  | none => if i = -2 then -10000 else -4
  | some w => if i = -2 then clk - A w else if i = -1 then nI w else way cc (nI w) (tn i)) else -10001
abbrev RX11_arrival (zn d : Nat) (post : zP) : zK := zRun (zcal zty zcd false (d + 4)) kX11_arrival (zLM zn) post
theorem eX11_arrival {zn d : Nat} {post : zP} (x1 : Int32) (x2 : Int32) (x3 : Int32) (I : Nat → Nat → Int32) (L : Nat → Nat → Int64) (h : RX11_arrival zn d post 0 [some (.ref 5), some (.int x1), some (.int x2), some (.int x3)] [] (zSH zn, I, L)) : zcal zty zcd false (d + 5) 108 [.ref 5, .int x1, .int x2, .int x3] (zSH zn, I, L) 0 0 post := zcal_of (d := d + 4) zmt108 zmc108 rfl (Nat.le_of_ble_eq_true rfl) h
theorem gX11_arrival_0 {zn d : Nat} {post : zP} (x1 : Int32) (x2 : Int32) (x3 : Int32) (I : Nat → Nat → Int32) (L : Nat → Nat → Int64) (h : (¬ ((x1 = 0 ∨ x1 = 1)) → post (some (.int (-1 : Int32))) (zSH zn, I, L)) ∧ ((x1 = 0 ∨ x1 = 1) → (¬ ((0 ≤ x2 ∧ x2 < (19 : Int32))) → post (some (.int (-1 : Int32))) (zSH zn, I, L)) ∧ ((0 ≤ x2 ∧ x2 < (19 : Int32)) → ((0 ≤ x3 ∧ x3 < (3 : Int32)) → vp_in x1 2 ∧ ((∃ (V8 : zVw) (os9 : List Nat) (c10 : Nat), (cVw I (12 + 7 * (x1).toNatClampNeg) V8 os9) ∧ (x3 = nI c10 ∧ c10 < 5) ∧ (∀ (J7 : Nat → Nat → Int32), (fr [63, 64, 65, 66] I J7 ∧ arrS V8 (dtm (I 57) (I 58 c10)) nI (I 58 3) J7 63 64) → vp_in x2 19 ∧ (post (some (.int (J7 63 (x2).toNatClampNeg))) (zSH zn, J7, L)))))) ∧ (¬ ((0 ≤ x3 ∧ x3 < (3 : Int32))) → post (some (.int (-1 : Int32))) (zSH zn, I, L))))) : RX11_arrival zn d post 0 [some (.ref 5), some (.int x1), some (.int x2), some (.int x3)] [] (zSH zn, I, L) := fun P hw hc => hc _ tX11_arrival_0 _ _ _ (hc _ tX11_arrival_1 _ _ _ (⟨Nat.le_of_ble_eq_true rfl, Nat.le_of_ble_eq_true rfl, zl1, zl2, _, ctX11_isView x1 I L, fun r u k16 => by obtain ⟨rfl, rfl⟩ := k16; exact ⟨zl3, zl4, hc _ tX11_arrival_4 _ _ _ (⟨fun c1 => hc _ tX11_arrival_24 _ _ _ (hc _ tX11_arrival_25 _ _ _ (⟨nofun, rfl, rfl, (h.1 (zb_e c1))⟩)), fun c2 => hc _ tX11_arrival_7 _ _ _ (hc _ tX11_arrival_8 _ _ _ (hc _ tX11_arrival_10 _ _ _ (⟨Nat.le_of_ble_eq_true rfl, Nat.le_of_ble_eq_true rfl, zl1, zl2, _, ctX11_isBelow x2 (19 : Int32) I L, fun r u k15 => by obtain ⟨rfl, rfl⟩ := k15; exact ⟨zl3, zl4, hc _ tX11_arrival_13 _ _ _ (⟨fun c3 => hc _ tX11_arrival_24 _ _ _ (hc _ tX11_arrival_25 _ _ _ (⟨nofun, rfl, rfl, ((h.2 (zb_n c2)).1 (zb_e c3))⟩)), fun c4 => hc _ tX11_arrival_16 _ _ _ (hc _ tX11_arrival_17 _ _ _ (hc _ tX11_arrival_18 _ _ _ (⟨Nat.le_of_ble_eq_true rfl, Nat.le_of_ble_eq_true rfl, zl1, zl2, _, ctX11_isBelow x3 (3 : Int32) I L, fun r u k14 => by obtain ⟨rfl, rfl⟩ := k14; exact ⟨zl3, zl4, hc _ tX11_arrival_21 _ _ _ (⟨fun c5 => hc _ tX11_arrival_26 _ _ _ (hc _ tX11_arrival_27 _ _ _ (⟨_, _, sh5, (by decide), rfl, hc _ tX11_arrival_30 _ _ _ (hc _ tX11_arrival_31 _ _ _ (⟨_, _, sh5, (by decide), rfl, hc _ tX11_arrival_34 _ _ _ (hc _ tX11_arrival_35 _ _ _ (⟨_, _, _, sh11, (by decide), by decide, (((h.2 (zb_n c2)).2 (zb_n c4)).1 (zb_n c5)).1, ae11 (((h.2 (zb_n c2)).2 (zb_n c4)).1 (zb_n c5)).1, hc _ tX11_arrival_36 _ _ _ (hc _ tX11_arrival_37 _ _ _ (⟨_, _, sh5, (by decide), rfl, hc _ tX11_arrival_40 _ _ _ ((by obtain ⟨V8, os9, c10, hg11⟩ := (((h.2 (zb_n c2)).2 (zb_n c4)).1 (zb_n c5)).2; exact hc _ tX11_arrival_41 _ _ _ (⟨⟨_, _, _, rfl, (by decide), sh62⟩, ⟨Nat.le_of_ble_eq_true rfl, Nat.le_of_ble_eq_true rfl, zl1, zl2, _, ctX8_find (12 + 7 * (x1).toNatClampNeg) x3 I L V8 os9 c10 (ar11 (((h.2 (zb_n c2)).2 (zb_n c4)).1 (zb_n c5)).1) hg11.1 hg11.2.1, fun r u k13 => by obtain ⟨J7, rfl, rfl, p12⟩ := k13; exact ⟨zl3, zl4, hc _ tX11_arrival_44 _ _ _ (hc _ tX11_arrival_45 _ _ _ (⟨_, _, sh5, (by decide), rfl, hc _ tX11_arrival_48 _ _ _ (⟨_, _, sh62, (by decide), rfl, hc _ tX11_arrival_51 _ _ _ (hc _ tX11_arrival_52 _ _ _ (⟨_, _, _, sh63, Or.inl ⟨rfl, (by decide)⟩, (hg11.2.2 J7 p12).1, hc _ tX11_arrival_53 _ _ _ (⟨nofun, rfl, rfl, (hg11.2.2 J7 p12).2⟩)⟩))⟩)⟩))⟩⟩⟩)))⟩))⟩))⟩))⟩)), fun c6 => hc _ tX11_arrival_24 _ _ _ (hc _ tX11_arrival_25 _ _ _ (⟨nofun, rfl, rfl, (((h.2 (zb_n c2)).2 (zb_n c4)).2 (zb_e c6))⟩))⟩)⟩⟩)))⟩)⟩⟩)))⟩)⟩⟩))
theorem ctX11_arrival {zn d : Nat} (x1 : Int32) (x2 : Int32) (x3 : Int32) (I : Nat → Nat → Int32) (L : Nat → Nat → Int64) (V : Nat → zVw) (os : Nat → List Nat) (q0 : ∀ w, w < 2 → cVw I (12 + 7 * w) (V w) (os w)) : zcal zty zcd false (d + 5) 108 [.ref 5, .int x1, .int x2, .int x3] (zSH zn, I, L) 0 0 (fun r u => ∃ (J : Nat → Nat → Int32), r = some (.int (arvS (J 63) x1 x2 x3)) ∧ u = (zSH zn, J, L) ∧ (fr [63, 64, 65, 66] I J ∧ (((x1 = 0 ∨ x1 = 1) ∧ (0 ≤ x2 ∧ x2 < 19) ∧ 0 ≤ x3 ∧ x3 < 3) → arrS (V (tn x1)) (dtm (I 57) (I 58 (tn x3))) nI (I 58 3) J 63 64))) := by
  refine eX11_arrival _ _ _ I L (gX11_arrival_0 _ _ _ I L ⟨fun h => ⟨I, by rw [arvS, if_neg (fun z => h z.1)], rfl, fr_rf, fun z => absurd z.1 h⟩, fun h => ⟨fun h2 => ⟨I, by rw [arvS, if_neg (fun z => h2 z.2.1)], rfl, fr_rf, fun z => absurd z.2.1 h2⟩, fun h2 => ⟨fun h3 => ?_, fun h3 => ⟨I, by rw [arvS, if_neg (fun z => h3 z.2.2)], rfl, fr_rf, fun z => absurd z.2.2 h3⟩⟩⟩⟩)
  obtain ⟨w, hw, ew, tw', tw, hv⟩ := x01 h
  obtain ⟨n, rfl, -, n19, tnn, tnn'⟩ := nm_of (a := 0) (b := 19) (by decide) (by decide) h2
  obtain ⟨c, rfl, -, hc, tc, tc'⟩ := nm_of (a := 0) (b := 3) (by decide) (by decide) h3
  rw [tw']
  refine ⟨hv, V w, os w, c, q0 w hw, ⟨rfl, by omega⟩, fun J ⟨j1, j2⟩ => ⟨vin_nI n19 (by decide), J, ?_, rfl, j1, fun _ => ?_⟩⟩
  · rw [arvS, if_pos ⟨h, h2, h3⟩]; rfl
  · rw [tw, tc]; exact j2
abbrev RX12_arrival (zn d : Nat) (post : zP) : zK := zRun (zcal zty zcd false (d + 4)) kX12_arrival (zLM zn) post
theorem eX12_arrival {zn d : Nat} {post : zP} (x1 : Int32) (x2 : Int32) (x3 : Int32) (I : Nat → Nat → Int32) (L : Nat → Nat → Int64) (h : RX12_arrival zn d post 0 [some (.ref 115), some (.int x1), some (.int x2), some (.int x3)] [] (zSH zn, I, L)) : zcal zty zcd false (d + 5) 182 [.ref 115, .int x1, .int x2, .int x3] (zSH zn, I, L) 0 0 post := zcal_of (d := d + 4) zmt182 zmc182 rfl (Nat.le_of_ble_eq_true rfl) h
theorem gX12_arrival_0 {zn d : Nat} {post : zP} (x1 : Int32) (x2 : Int32) (x3 : Int32) (I : Nat → Nat → Int32) (L : Nat → Nat → Int64) (h : (¬ ((0 : Int32) ≤ x1 ∧ x1 ≤ (1 : Int32)) → post (some (.int (-1 : Int32))) (zSH zn, I, L)) ∧ ((0 : Int32) ≤ x1 ∧ x1 ≤ (1 : Int32) → (¬ ((0 : Int32) ≤ x2 ∧ x2 ≤ (18 : Int32)) → post (some (.int (-1 : Int32))) (zSH zn, I, L)) ∧ ((0 : Int32) ≤ x2 ∧ x2 ≤ (18 : Int32) → ((0 : Int32) ≤ x3 ∧ x3 ≤ (2 : Int32) → (∃ (V8 : zVw) (ps9 : List Nat) (c10 : Nat), (rEv I (tn x1) V8 ps9) ∧ (zs x1 6) ∧ (x3 = nI c10 ∧ c10 < 5) ∧ (nlk V8) ∧ (∀ (J7 : Nat → Nat → Int32), (fr [135, 136, 137, 138] I J7 ∧ arrS V8 (dtm (I 128) (I 129 c10)) (fun _ => -4) (I 129 3) J7 135 136) → vp_in x2 19 ∧ (post (some (.int (J7 135 (x2).toNatClampNeg))) (zSH zn, J7, L))))) ∧ (¬ ((0 : Int32) ≤ x3 ∧ x3 ≤ (2 : Int32)) → post (some (.int (-1 : Int32))) (zSH zn, I, L))))) : RX12_arrival zn d post 0 [some (.ref 115), some (.int x1), some (.int x2), some (.int x3)] [] (zSH zn, I, L) := fun P hw hc => hc _ tX12_arrival_0 _ _ _ (hc _ tX12_arrival_1 _ _ _ (hc _ tX12_arrival_2 _ _ _ (hc _ tX12_arrival_3 _ _ _ (⟨Nat.le_of_ble_eq_true rfl, Nat.le_of_ble_eq_true rfl, zl1, zl2, _, ctX12_in x1 (0 : Int32) (1 : Int32) I L, fun r u k16 => by obtain ⟨rfl, rfl⟩ := k16; exact ⟨zl3, zl4, hc _ tX12_arrival_6 _ _ _ (⟨fun c1 => hc _ tX12_arrival_28 _ _ _ (hc _ tX12_arrival_29 _ _ _ (⟨nofun, rfl, rfl, (h.1 (zb_e c1))⟩)), fun c2 => hc _ tX12_arrival_9 _ _ _ (hc _ tX12_arrival_10 _ _ _ (hc _ tX12_arrival_11 _ _ _ (hc _ tX12_arrival_13 _ _ _ (⟨Nat.le_of_ble_eq_true rfl, Nat.le_of_ble_eq_true rfl, zl1, zl2, _, ctX12_in x2 (0 : Int32) (18 : Int32) I L, fun r u k15 => by obtain ⟨rfl, rfl⟩ := k15; exact ⟨zl3, zl4, hc _ tX12_arrival_16 _ _ _ (⟨fun c3 => hc _ tX12_arrival_28 _ _ _ (hc _ tX12_arrival_29 _ _ _ (⟨nofun, rfl, rfl, ((h.2 (zb_n c2)).1 (zb_e c3))⟩)), fun c4 => hc _ tX12_arrival_19 _ _ _ (hc _ tX12_arrival_20 _ _ _ (hc _ tX12_arrival_21 _ _ _ (hc _ tX12_arrival_22 _ _ _ (⟨Nat.le_of_ble_eq_true rfl, Nat.le_of_ble_eq_true rfl, zl1, zl2, _, ctX12_in x3 (0 : Int32) (2 : Int32) I L, fun r u k14 => by obtain ⟨rfl, rfl⟩ := k14; exact ⟨zl3, zl4, hc _ tX12_arrival_25 _ _ _ (⟨fun c5 => hc _ tX12_arrival_30 _ _ _ (hc _ tX12_arrival_31 _ _ _ (hc _ tX12_arrival_32 _ _ _ ((by obtain ⟨V8, ps9, c10, hg11⟩ := (((h.2 (zb_n c2)).2 (zb_n c4)).1 (zb_n c5)); exact hc _ tX12_arrival_33 _ _ _ (⟨⟨_, _, _, rfl, (by decide), sh115⟩, ⟨Nat.le_of_ble_eq_true rfl, Nat.le_of_ble_eq_true rfl, zl1, zl2, _, ctX12_layArrivals x1 x3 I L V8 ps9 c10 hg11.1 hg11.2.1 hg11.2.2.1 hg11.2.2.2.1, fun r u k13 => by obtain ⟨J7, rfl, rfl, p12⟩ := k13; exact ⟨zl3, zl4, hc _ tX12_arrival_36 _ _ _ (hc _ tX12_arrival_37 _ _ _ (⟨_, _, sh115, (by decide), rfl, hc _ tX12_arrival_40 _ _ _ (hc _ tX12_arrival_41 _ _ _ (⟨_, _, _, sh135, Or.inl ⟨rfl, (by decide)⟩, (hg11.2.2.2.2 J7 p12).1, hc _ tX12_arrival_42 _ _ _ (⟨nofun, rfl, rfl, (hg11.2.2.2.2 J7 p12).2⟩)⟩))⟩))⟩⟩⟩))))), fun c6 => hc _ tX12_arrival_28 _ _ _ (hc _ tX12_arrival_29 _ _ _ (⟨nofun, rfl, rfl, (((h.2 (zb_n c2)).2 (zb_n c4)).2 (zb_e c6))⟩))⟩)⟩⟩))))⟩)⟩⟩))))⟩)⟩⟩))))
theorem ctX12_arrival {zn d : Nat} (x1 : Int32) (x2 : Int32) (x3 : Int32) (I : Nat → Nat → Int32) (L : Nat → Nat → Int64) (V : Nat → zVw) (ps : Nat → List Nat) (q0 : ∀ w, w < 2 → rEv I w (V w) (ps w) ∧ nlk (V w)) : zcal zty zcd false (d + 5) 182 [.ref 115, .int x1, .int x2, .int x3] (zSH zn, I, L) 0 0 (fun r u => ∃ (J : Nat → Nat → Int32), r = some (.int (arvS (J 135) x1 x2 x3)) ∧ u = (zSH zn, J, L) ∧ (fr [135, 136, 137, 138] I J ∧ (((x1 = 0 ∨ x1 = 1) ∧ (0 ≤ x2 ∧ x2 < 19) ∧ 0 ≤ x3 ∧ x3 < 3) → arrS (V (tn x1)) (dtm (I 128) (I 129 (tn x3))) (fun _ => -4) (I 129 3) J 135 136))) := by
  have e19' : ∀ x : Int32, (0 ≤ x ∧ x ≤ 18) ↔ (0 ≤ x ∧ x < 19) := fun x => le256 (b := 18) (by decide)
  have e2 : ∀ x : Int32, (0 ≤ x ∧ x ≤ 2) ↔ (0 ≤ x ∧ x < 3) := fun x => le256 (b := 2) (by decide)
  refine eX12_arrival _ _ _ I L (gX12_arrival_0 _ _ _ I L ⟨fun h => ⟨I, by rw [arvS, if_neg (fun z => h (in01.mpr z.1))], rfl, fr_rf, fun z => absurd (in01.mpr z.1) h⟩, fun h => ⟨fun h2 => ⟨I, by rw [arvS, if_neg (fun z => h2 ((e19' _).mpr z.2.1))], rfl, fr_rf, fun z => absurd ((e19' _).mpr z.2.1) h2⟩, fun h2 => ⟨fun h3 => ?_, fun h3 => ⟨I, by rw [arvS, if_neg (fun z => h3 ((e2 _).mpr z.2.2))], rfl, fr_rf, fun z => absurd ((e2 _).mpr z.2.2) h3⟩⟩⟩⟩)
  obtain ⟨w, hw, ew, tw', tw, hv⟩ := x01 (in01.mp h)
  have h2' := (e19' _).mp h2
  have h3' := (e2 _).mp h3
  obtain ⟨n, rfl, -, n19, tnn, tnn'⟩ := nm_of (a := 0) (b := 19) (by decide) (by decide) h2'
  obtain ⟨c, rfl, -, hc, tc, tc'⟩ := nm_of (a := 0) (b := 3) (by decide) (by decide) h3'
  rw [tw]
  refine ⟨V w, ps w, c, (q0 w hw).1, ⟨w, by omega, ew⟩, ⟨rfl, by omega⟩, (q0 w hw).2, fun J ⟨j1, j2⟩ => ⟨vin_nI n19 (by decide), J, ?_, rfl, j1, fun _ => ?_⟩⟩
  · rw [arvS, if_pos ⟨in01.mp h, h2', h3'⟩]; rfl
  · rw [tc]; exact j2
abbrev RX11_worst (zn d : Nat) (post : zP) : zK := zRun (zcal zty zcd false (d + 4)) kX11_worst (zLM zn) post
theorem eX11_worst {zn d : Nat} {post : zP} (x1 : Int32) (x2 : Int32) (x3 : Int32) (I : Nat → Nat → Int32) (L : Nat → Nat → Int64) (h : RX11_worst zn d post 0 [some (.ref 5), some (.int x1), some (.int x2), some (.int x3), none] [] (zSH zn, I, L)) : zcal zty zcd false (d + 5) 109 [.ref 5, .int x1, .int x2, .int x3] (zSH zn, I, L) 0 0 post := zcal_of (d := d + 4) zmt109 zmc109 rfl (Nat.le_of_ble_eq_true rfl) h
theorem gX11_worst_0 {zn d : Nat} {post : zP} (x1 : Int32) (x2 : Int32) (x3 : Int32) (I : Nat → Nat → Int32) (L : Nat → Nat → Int64) (h : (¬ ((x1 = 0 ∨ x1 = 1)) → post (some (.int (-10001 : Int32))) (zSH zn, I, L)) ∧ ((x1 = 0 ∨ x1 = 1) → (¬ ((0 ≤ x2 ∧ x2 < (3 : Int32))) → post (some (.int (-10001 : Int32))) (zSH zn, I, L)) ∧ ((0 ≤ x2 ∧ x2 < (3 : Int32)) → ((-2 : Int32) ≤ x3 → vp_in x1 2 ∧ ((∃ (V8 : zVw) (os9 : List Nat) (c10 : Nat), (cVw I (12 + 7 * (x1).toNatClampNeg) V8 os9) ∧ (x2 = nI c10 ∧ c10 < 5) ∧ (∀ (J7 : Nat → Nat → Int32), (fr [63, 64, 65, 66] I J7 ∧ arrS V8 (dtm (I 57) (I 58 c10)) nI (I 58 3) J7 63 64) → (∃ (V13 : zVw), (okV V13) ∧ (J7 (12 + 7 * (x1).toNatClampNeg) 6 = nI (tlV V13)) ∧ ((¬ x3 = (-2 : Int32) → ((oI (latN V13 (J7 63) 19)) = (-4 : Int32) → post (some (.int (oI (latN V13 (J7 63) 19)))) (zSH zn, J7, L)) ∧ (¬ (oI (latN V13 (J7 63) 19)) = (-4 : Int32) → (¬ x3 = (-1 : Int32) → (∃ (V21 : zVw) (os22 : List Nat) (w23 : Nat) (i24 : Nat), (okV V21) ∧ (topc V21 os22) ∧ (∀ n ks, V21 n = some ks → ((J7 64 n = 19 ∨ J7 64 n = 20) ∨ ∃ u, u < 19 ∧ u ∈ ks ∧ J7 64 n = nI u)) ∧ ((oI (latN V13 (J7 63) 19)) = nI w23 ∧ w23 < 19 ∧ (V21 w23).isSome = true) ∧ (x3 = nI i24 ∧ i24 < 2 ^ 31) ∧ (post (some (.int (way (wC J7) (nI w23) i24))) (zSH zn, J7, L)))) ∧ (x3 = (-1 : Int32) → post (some (.int (oI (latN V13 (J7 63) 19)))) (zSH zn, J7, L)))) ∧ (x3 = (-2 : Int32) → (¬ (oI (latN V13 (J7 63) 19)) = (-4 : Int32) → vp_in (oI (latN V13 (J7 63) 19)) 19 ∧ (post (some (.int ((J7 58 4) - (J7 63 ((oI (latN V13 (J7 63) 19))).toNatClampNeg)))) (zSH zn, J7, L))) ∧ ((oI (latN V13 (J7 63) 19)) = (-4 : Int32) → post (some (.int (-10000 : Int32))) (zSH zn, J7, L))))))))) ∧ (¬ (-2 : Int32) ≤ x3 → post (some (.int (-10001 : Int32))) (zSH zn, I, L))))) : RX11_worst zn d post 0 [some (.ref 5), some (.int x1), some (.int x2), some (.int x3), none] [] (zSH zn, I, L) := fun P hw hc => hc _ tX11_worst_0 _ _ _ (hc _ tX11_worst_1 _ _ _ (⟨Nat.le_of_ble_eq_true rfl, Nat.le_of_ble_eq_true rfl, zl1, zl2, _, ctX11_isView x1 I L, fun r u k33 => by obtain ⟨rfl, rfl⟩ := k33; exact ⟨zl3, zl4, hc _ tX11_worst_4 _ _ _ (⟨fun c1 => hc _ tX11_worst_21 _ _ _ (hc _ tX11_worst_24 _ _ _ (⟨nofun, rfl, rfl, (h.1 (zb_e c1))⟩)), fun c2 => hc _ tX11_worst_7 _ _ _ (hc _ tX11_worst_8 _ _ _ (hc _ tX11_worst_9 _ _ _ (⟨Nat.le_of_ble_eq_true rfl, Nat.le_of_ble_eq_true rfl, zl1, zl2, _, ctX11_isBelow x2 (3 : Int32) I L, fun r u k32 => by obtain ⟨rfl, rfl⟩ := k32; exact ⟨zl3, zl4, hc _ tX11_worst_12 _ _ _ (⟨fun c3 => hc _ tX11_worst_21 _ _ _ (hc _ tX11_worst_24 _ _ _ (⟨nofun, rfl, rfl, ((h.2 (zb_n c2)).1 (zb_e c3))⟩)), fun c4 => hc _ tX11_worst_15 _ _ _ (hc _ tX11_worst_16 _ _ _ (hc _ tX11_worst_18 _ _ _ (⟨fun c5 => hc _ tX11_worst_25 _ _ _ (hc _ tX11_worst_26 _ _ _ (⟨_, _, sh5, (by decide), rfl, hc _ tX11_worst_29 _ _ _ (hc _ tX11_worst_30 _ _ _ (⟨_, _, sh5, (by decide), rfl, hc _ tX11_worst_33 _ _ _ (hc _ tX11_worst_34 _ _ _ (⟨_, _, _, sh11, (by decide), by decide, (((h.2 (zb_n c2)).2 (zb_n c4)).1 c5).1, ae11 (((h.2 (zb_n c2)).2 (zb_n c4)).1 c5).1, hc _ tX11_worst_35 _ _ _ (hc _ tX11_worst_36 _ _ _ (⟨_, _, sh5, (by decide), rfl, hc _ tX11_worst_39 _ _ _ ((by obtain ⟨V8, os9, c10, hg11⟩ := (((h.2 (zb_n c2)).2 (zb_n c4)).1 c5).2; exact hc _ tX11_worst_40 _ _ _ (⟨⟨_, _, _, rfl, (by decide), sh62⟩, ⟨Nat.le_of_ble_eq_true rfl, Nat.le_of_ble_eq_true rfl, zl1, zl2, _, ctX8_find (12 + 7 * (x1).toNatClampNeg) x2 I L V8 os9 c10 (ar11 (((h.2 (zb_n c2)).2 (zb_n c4)).1 c5).1) hg11.1 hg11.2.1, fun r u k31 => by obtain ⟨J7, rfl, rfl, p12⟩ := k31; exact ⟨zl3, zl4, hc _ tX11_worst_43 _ _ _ (hc _ tX11_worst_44 _ _ _ (⟨_, _, sh5, (by decide), rfl, hc _ tX11_worst_47 _ _ _ (hc _ tX11_worst_48 _ _ _ (⟨_, _, sh5, (by decide), rfl, hc _ tX11_worst_51 _ _ _ (hc _ tX11_worst_52 _ _ _ (⟨_, _, _, sh11, (by decide), by decide, (((h.2 (zb_n c2)).2 (zb_n c4)).1 c5).1, ae11 (((h.2 (zb_n c2)).2 (zb_n c4)).1 c5).1, (by obtain ⟨V13, hg14⟩ := (hg11.2.2 J7 p12); exact hc _ tX11_worst_53 _ _ _ (⟨⟨_, _, _, rfl, (by decide), sh62⟩, ⟨Nat.le_of_ble_eq_true rfl, Nat.le_of_ble_eq_true rfl, zl1, zl2, _, ctX8_latest (12 + 7 * (x1).toNatClampNeg) J7 L V13 (ar11 (((h.2 (zb_n c2)).2 (zb_n c4)).1 c5).1) hg14.1 hg14.2.1, fun r u k30 => by obtain ⟨rfl, rfl⟩ := k30; exact ⟨zl3, zl4, hc _ tX11_worst_56 _ _ _ (hc _ tX11_worst_58 _ _ _ (hc _ tX11_worst_59 _ _ _ (hc _ tX11_worst_61 _ _ _ (⟨fun c15 => hc _ tX11_worst_96 _ _ _ (hc _ tX11_worst_98 _ _ _ (hc _ tX11_worst_100 _ _ _ (⟨fun c17 => hc _ tX11_worst_108 _ _ _ (hc _ tX11_worst_110 _ _ _ (⟨nofun, rfl, rfl, ((hg14.2.2.1 c15).1 c17)⟩)), fun c18 => hc _ tX11_worst_103 _ _ _ (hc _ tX11_worst_104 _ _ _ (hc _ tX11_worst_105 _ _ _ (⟨fun c19 => hc _ tX11_worst_111 _ _ _ (hc _ tX11_worst_112 _ _ _ (⟨_, _, sh5, (by decide), rfl, hc _ tX11_worst_115 _ _ _ (hc _ tX11_worst_117 _ _ _ ((by obtain ⟨V21, os22, w23, i24, hg25⟩ := (((hg14.2.2.1 c15).2 c18).1 c19); exact hc _ tX11_worst_118 _ _ _ (⟨⟨_, _, _, rfl, (by decide), sh62⟩, ⟨Nat.le_of_ble_eq_true rfl, Nat.le_of_ble_eq_true rfl, zl1, zl2, _, ctX8_nameOnWay (oI (latN V13 (J7 63) 19)) x3 J7 L V21 os22 w23 i24 hg25.1 hg25.2.1 hg25.2.2.1 hg25.2.2.2.1 hg25.2.2.2.2.1, fun r u k26 => by obtain ⟨rfl, rfl⟩ := k26; exact ⟨zl3, zl4, hc _ tX11_worst_121 _ _ _ (⟨nofun, rfl, rfl, hg25.2.2.2.2.2⟩)⟩⟩⟩))))⟩)), fun c20 => hc _ tX11_worst_108 _ _ _ (hc _ tX11_worst_110 _ _ _ (⟨nofun, rfl, rfl, (((hg14.2.2.1 c15).2 c18).2 c20)⟩))⟩)))⟩))), fun c16 => hc _ tX11_worst_64 _ _ _ (hc _ tX11_worst_66 _ _ _ (hc _ tX11_worst_68 _ _ _ (⟨fun c27 => hc _ tX11_worst_77 _ _ _ (hc _ tX11_worst_78 _ _ _ (⟨_, _, sh5, (by decide), rfl, hc _ tX11_worst_81 _ _ _ (⟨⟨_, _, _, rfl, (by decide), sh55⟩, ⟨Nat.le_of_ble_eq_true rfl, Nat.le_of_ble_eq_true rfl, zl1, zl2, _, ctX2_clock J7 L, fun r u k29 => by obtain ⟨rfl, rfl⟩ := k29; exact ⟨zl3, zl4, hc _ tX11_worst_84 _ _ _ (hc _ tX11_worst_85 _ _ _ (⟨_, _, sh5, (by decide), rfl, hc _ tX11_worst_88 _ _ _ (⟨_, _, sh62, (by decide), rfl, hc _ tX11_worst_91 _ _ _ (hc _ tX11_worst_93 _ _ _ (⟨_, _, _, sh63, Or.inl ⟨rfl, (by decide)⟩, ((hg14.2.2.2 c16).1 c27).1, hc _ tX11_worst_94 _ _ _ (hc _ tX11_worst_95 _ _ _ (⟨nofun, rfl, rfl, ((hg14.2.2.2 c16).1 c27).2⟩))⟩))⟩)⟩))⟩⟩⟩)⟩)), fun c28 => hc _ tX11_worst_71 _ _ _ (hc _ tX11_worst_74 _ _ _ (hc _ tX11_worst_95 _ _ _ (⟨nofun, rfl, rfl, ((hg14.2.2.2 c16).2 c28)⟩)))⟩)))⟩))))⟩⟩⟩))⟩))⟩))⟩))⟩⟩⟩)))⟩))⟩))⟩))⟩)), fun c6 => hc _ tX11_worst_21 _ _ _ (hc _ tX11_worst_24 _ _ _ (⟨nofun, rfl, rfl, (((h.2 (zb_n c2)).2 (zb_n c4)).2 c6)⟩))⟩)))⟩)⟩⟩)))⟩)⟩⟩))
theorem oI_some {o : Option Nat} {w : Nat} (h : o = some w) : oI o = nI w := by rw [h]; rfl
theorem ctX11_worst {zn d : Nat} (x1 : Int32) (x2 : Int32) (x3 : Int32) (I : Nat → Nat → Int32) (L : Nat → Nat → Int64) (V : Nat → zVw) (os : Nat → List Nat) (q0 : ∀ w, w < 2 → cVw I (12 + 7 * w) (V w) (os w)) : zcal zty zcd false (d + 5) 109 [.ref 5, .int x1, .int x2, .int x3] (zSH zn, I, L) 0 0 (fun r u => ∃ (J : Nat → Nat → Int32), r = some (.int (wrsS (V (tn x1)) (J 63) (wC J) (I 58 4) x1 x2 x3)) ∧ u = (zSH zn, J, L) ∧ (fr [63, 64, 65, 66] I J ∧ (((x1 = 0 ∨ x1 = 1) ∧ (0 ≤ x2 ∧ x2 < 3) ∧ ¬ x3 < -2) → arrS (V (tn x1)) (dtm (I 57) (I 58 (tn x2))) nI (I 58 3) J 63 64))) := by
  refine eX11_worst _ _ _ I L (gX11_worst_0 _ _ _ I L ⟨fun h => ⟨I, by rw [wrsS, if_neg (fun z => h z.1)], rfl, fr_rf, fun z => absurd z.1 h⟩, fun h => ⟨fun h2 => ⟨I, by rw [wrsS, if_neg (fun z => h2 z.2.1)], rfl, fr_rf, fun z => absurd z.2.1 h2⟩, fun h2 => ⟨fun h3 => ?_, fun h3 => ⟨I, by rw [wrsS, if_neg (fun z => h3 (Int32.not_lt.mp z.2.2))], rfl, fr_rf, fun z => absurd (Int32.not_lt.mp z.2.2) h3⟩⟩⟩⟩)
  obtain ⟨w, hw, ew, tw', tw, hv⟩ := x01 h
  obtain ⟨c, rfl, -, hc, tc, tc'⟩ := nm_of (a := 0) (b := 3) (by decide) (by decide) h2
  have h3' := Int32.not_lt.mpr h3
  have cv := q0 w hw
  rw [tw']
  refine ⟨hv, V w, os w, c, cv, ⟨rfl, by omega⟩, fun J ⟨j1, j2⟩ => ?_⟩
  have hk6 : J (12 + 7 * w) = I (12 + 7 * w) := j1 _ (by simp only [List.mem_cons, List.not_mem_nil, or_false, not_or]; omega)
  refine ⟨V w, cv.1.1, by rw [hk6]; exact cv.1.2.2.2.1, ?_⟩
  have phi : fr [63, 64, 65, 66] I J ∧ (((x1 = 0 ∨ x1 = 1) ∧ (0 ≤ nI c ∧ nI c < 3) ∧ ¬ x3 < -2) → arrS (V (tn x1)) (dtm (I 57) (I 58 (tn (nI c)))) nI (I 58 3) J 63 64) := ⟨j1, fun _ => by rw [tw, tc]; exact j2⟩
  have hcond : (x1 = 0 ∨ x1 = 1) ∧ (0 ≤ nI c ∧ nI c < 3) ∧ ¬ x3 < -2 := ⟨h, h2, h3'⟩
  have hlt : ∀ u, latN (V w) (J 63) 19 = some u → u < 200 := fun u hu => by have := (latN_in hu).1; omega
  rw [oI_n4 hlt]
  have h58 : J 58 = I 58 := j1 58 (by decide)
  cases hl : latN (V w) (J 63) 19 with
  | none =>
    refine ⟨fun h4 => ⟨fun _ => ⟨J, ?_, rfl, phi⟩, fun z => absurd rfl z⟩, fun h4 => ⟨fun z => absurd rfl z, fun _ => ⟨J, ?_, rfl, phi⟩⟩⟩
    · rw [wrsS, if_pos hcond, tw, hl]; simp only; rw [if_neg h4]; rfl
    · rw [wrsS, if_pos hcond, tw, hl]; simp only; rw [if_pos h4]
  | some u =>
    obtain ⟨u19, hu⟩ := latN_in hl
    have tu : (oI (some u)).toNatClampNeg = u := nI_clamp (n := u) (by omega)
    refine ⟨fun h4 => ⟨fun z => by (cases z), fun _ => ⟨fun h5 => ?_, fun h5 => ⟨J, ?_, rfl, phi⟩⟩⟩, fun h4 => ⟨fun _ => ⟨vin_nI (j := u) u19 (by decide), J, ?_, rfl, phi⟩, fun z => by (cases z)⟩⟩
    · have h0 : ¬ x3 < 0 := by
        intro z
        rcases fa_three x3 (-2) with y | y | y
        · exact h3' y
        · exact h4 y
        · rcases fa_three x3 (-1) with w1 | w1 | w1
          · rw [fa_lt] at y w1
            have e1 : (-2 : Int32).toInt = -2 := by decide
            have e2 : (-1 : Int32).toInt = -1 := by decide
            omega
          · exact h5 w1
          · rw [fa_lt] at z w1
            have e1 : (0 : Int32).toInt = 0 := by decide
            have e2 : (-1 : Int32).toInt = -1 := by decide
            omega
      obtain ⟨i, hi, rfl⟩ := nI_of h0
      refine ⟨V w, os w, u, i, cv.1.1, cv.2.1, fun n ks hk => arr_cause cv.1.1 j2 hk, ⟨rfl, u19, hu⟩, ⟨rfl, hi⟩, J, ?_, rfl, phi⟩
      rw [wrsS, if_pos hcond, tw, hl]; simp only; rw [if_neg h4, if_neg h5, tn_nI hi]
    · rw [wrsS, if_pos hcond, tw, hl]; simp only; rw [if_neg h4, if_pos h5]; rfl
    · rw [wrsS, if_pos hcond, tw, hl]; simp only; rw [if_pos h4, tu, h58]
abbrev RX12_worst (zn d : Nat) (post : zP) : zK := zRun (zcal zty zcd false (d + 4)) kX12_worst (zLM zn) post
theorem eX12_worst {zn d : Nat} {post : zP} (x1 : Int32) (x2 : Int32) (x3 : Int32) (I : Nat → Nat → Int32) (L : Nat → Nat → Int64) (h : RX12_worst zn d post 0 [some (.ref 115), some (.int x1), some (.int x2), some (.int x3), none, none, none] [] (zSH zn, I, L)) : zcal zty zcd false (d + 5) 183 [.ref 115, .int x1, .int x2, .int x3] (zSH zn, I, L) 0 0 post := zcal_of (d := d + 4) zmt183 zmc183 rfl (Nat.le_of_ble_eq_true rfl) h
theorem gX12_worst_0 {zn d : Nat} {post : zP} (x1 : Int32) (x2 : Int32) (x3 : Int32) (I : Nat → Nat → Int32) (L : Nat → Nat → Int64) (h : (¬ ((0 : Int32) ≤ x1 ∧ x1 ≤ (1 : Int32)) → post (some (.int (-10001 : Int32))) (zSH zn, I, L)) ∧ ((0 : Int32) ≤ x1 ∧ x1 ≤ (1 : Int32) → (¬ ((0 : Int32) ≤ x2 ∧ x2 ≤ (2 : Int32)) → post (some (.int (-10001 : Int32))) (zSH zn, I, L)) ∧ ((0 : Int32) ≤ x2 ∧ x2 ≤ (2 : Int32) → ((-2 : Int32) ≤ x3 → (∃ (V8 : zVw) (ps9 : List Nat) (c10 : Nat), (rEv I (tn x1) V8 ps9) ∧ (zs x1 6) ∧ (x2 = nI c10 ∧ c10 < 5) ∧ (nlk V8) ∧ (∀ (J7 : Nat → Nat → Int32), (fr [135, 136, 137, 138] I J7 ∧ arrS V8 (dtm (I 128) (I 129 c10)) (fun _ => -4) (I 129 3) J7 135 136) → RX12_worst zn d post 42 [some (.ref 115), some (.int x1), some (.int x2), some (.int x3), some (.int (-4 : Int32)), some (.int (6 : Int32)), none] [] (zSH zn, J7, L)))) ∧ (¬ (-2 : Int32) ≤ x3 → post (some (.int (-10001 : Int32))) (zSH zn, I, L))))) : RX12_worst zn d post 0 [some (.ref 115), some (.int x1), some (.int x2), some (.int x3), none, none, none] [] (zSH zn, I, L) := fun P hw hc => hc _ tX12_worst_0 _ _ _ (hc _ tX12_worst_1 _ _ _ (hc _ tX12_worst_2 _ _ _ (hc _ tX12_worst_3 _ _ _ (⟨Nat.le_of_ble_eq_true rfl, Nat.le_of_ble_eq_true rfl, zl1, zl2, _, ctX12_in x1 (0 : Int32) (1 : Int32) I L, fun r u k15 => by obtain ⟨rfl, rfl⟩ := k15; exact ⟨zl3, zl4, hc _ tX12_worst_6 _ _ _ (⟨fun c1 => hc _ tX12_worst_24 _ _ _ (hc _ tX12_worst_27 _ _ _ (⟨nofun, rfl, rfl, (h.1 (zb_e c1))⟩)), fun c2 => hc _ tX12_worst_9 _ _ _ (hc _ tX12_worst_10 _ _ _ (hc _ tX12_worst_11 _ _ _ (hc _ tX12_worst_12 _ _ _ (⟨Nat.le_of_ble_eq_true rfl, Nat.le_of_ble_eq_true rfl, zl1, zl2, _, ctX12_in x2 (0 : Int32) (2 : Int32) I L, fun r u k14 => by obtain ⟨rfl, rfl⟩ := k14; exact ⟨zl3, zl4, hc _ tX12_worst_15 _ _ _ (⟨fun c3 => hc _ tX12_worst_24 _ _ _ (hc _ tX12_worst_27 _ _ _ (⟨nofun, rfl, rfl, ((h.2 (zb_n c2)).1 (zb_e c3))⟩)), fun c4 => hc _ tX12_worst_18 _ _ _ (hc _ tX12_worst_19 _ _ _ (hc _ tX12_worst_21 _ _ _ (⟨fun c5 => hc _ tX12_worst_28 _ _ _ (hc _ tX12_worst_29 _ _ _ (hc _ tX12_worst_30 _ _ _ ((by obtain ⟨V8, ps9, c10, hg11⟩ := (((h.2 (zb_n c2)).2 (zb_n c4)).1 c5); exact hc _ tX12_worst_31 _ _ _ (⟨⟨_, _, _, rfl, (by decide), sh115⟩, ⟨Nat.le_of_ble_eq_true rfl, Nat.le_of_ble_eq_true rfl, zl1, zl2, _, ctX12_layArrivals x1 x2 I L V8 ps9 c10 hg11.1 hg11.2.1 hg11.2.2.1 hg11.2.2.2.1, fun r u k13 => by obtain ⟨J7, rfl, rfl, p12⟩ := k13; exact ⟨zl3, zl4, hc _ tX12_worst_34 _ _ _ (hc _ tX12_worst_36 _ _ _ (hc _ tX12_worst_38 _ _ _ (hc _ tX12_worst_40 _ _ _ ((hg11.2.2.2.2 J7 p12) P hw hc))))⟩⟩⟩))))), fun c6 => hc _ tX12_worst_24 _ _ _ (hc _ tX12_worst_27 _ _ _ (⟨nofun, rfl, rfl, (((h.2 (zb_n c2)).2 (zb_n c4)).2 c6)⟩))⟩)))⟩)⟩⟩))))⟩)⟩⟩))))
theorem gX12_worst_42 {zn d : Nat} {post : zP} (x1 : Int32) (x2 : Int32) (x3 : Int32) (x4 : Int32) (x5 : Int32) (I : Nat → Nat → Int32) (L : Nat → Nat → Int64) (h : ((19 : Int32) ≤ x5 → (¬ x4 = (-4 : Int32) → (0 ≤ x3 → RX12_worst zn d post 156 [some (.ref 115), some (.int x1), some (.int x2), some (.int x3), some (.int x4), some (.int x4), some (.int (0 : Int32))] [] (zSH zn, I, L)) ∧ (¬ 0 ≤ x3 → (¬ x3 = (-1 : Int32) → vp_in x4 19 ∧ (post (some (.int ((I 129 4) - (I 135 (x4).toNatClampNeg)))) (zSH zn, I, L))) ∧ (x3 = (-1 : Int32) → post (some (.int x4)) (zSH zn, I, L)))) ∧ (x4 = (-4 : Int32) → (¬ x3 = (-2 : Int32) → post (some (.int (-4 : Int32))) (zSH zn, I, L)) ∧ (x3 = (-2 : Int32) → post (some (.int (-10000 : Int32))) (zSH zn, I, L)))) ∧ (¬ (19 : Int32) ≤ x5 → (zs x1 6) ∧ (zs x5 18) ∧ ((¬ ((¬ I 120 (19 * tn x1 + tn x5) = -4)) → RX12_worst zn d post 42 [some (.ref 115), some (.int x1), some (.int x2), some (.int x3), some (.int x4), some (.int (x5 + (1 : Int32))), none] [] (zSH zn, I, L)) ∧ ((¬ I 120 (19 * tn x1 + tn x5) = -4) → (x4 = (-4 : Int32) → RX12_worst zn d post 42 [some (.ref 115), some (.int x1), some (.int x2), some (.int x3), some (.int x5), some (.int (x5 + (1 : Int32))), none] [] (zSH zn, I, L)) ∧ (¬ x4 = (-4 : Int32) → vp_in x5 19 ∧ (vp_in x4 19 ∧ (((I 135 (x5).toNatClampNeg) ≤ (I 135 (x4).toNatClampNeg) → RX12_worst zn d post 42 [some (.ref 115), some (.int x1), some (.int x2), some (.int x3), some (.int x4), some (.int (x5 + (1 : Int32))), none] [] (zSH zn, I, L)) ∧ (¬ (I 135 (x5).toNatClampNeg) ≤ (I 135 (x4).toNatClampNeg) → RX12_worst zn d post 42 [some (.ref 115), some (.int x1), some (.int x2), some (.int x3), some (.int x5), some (.int (x5 + (1 : Int32))), none] [] (zSH zn, I, L))))))))) : RX12_worst zn d post 42 [some (.ref 115), some (.int x1), some (.int x2), some (.int x3), some (.int x4), some (.int x5), none] [] (zSH zn, I, L) := fun P hw hc => hc _ tX12_worst_42 _ _ _ (hc _ tX12_worst_44 _ _ _ (hc _ tX12_worst_46 _ _ _ (⟨fun c1 => hc _ tX12_worst_98 _ _ _ (hc _ tX12_worst_100 _ _ _ (hc _ tX12_worst_102 _ _ _ (⟨fun c3 => hc _ tX12_worst_120 _ _ _ (hc _ tX12_worst_121 _ _ _ (⟨fun c5 => hc _ tX12_worst_149 _ _ _ (hc _ tX12_worst_151 _ _ _ (hc _ tX12_worst_153 _ _ _ (hc _ tX12_worst_154 _ _ _ ((((h.1 c1).1 c3).1 c5) P hw hc)))), fun c6 => hc _ tX12_worst_124 _ _ _ (hc _ tX12_worst_125 _ _ _ (hc _ tX12_worst_126 _ _ _ (⟨fun c7 => hc _ tX12_worst_134 _ _ _ (hc _ tX12_worst_135 _ _ _ (⟨_, _, sh115, (by decide), rfl, hc _ tX12_worst_138 _ _ _ (hc _ tX12_worst_139 _ _ _ (⟨_, _, _, sh129, Or.inl ⟨rfl, (by decide)⟩, zvin (by decide), hc _ tX12_worst_140 _ _ _ (hc _ tX12_worst_141 _ _ _ (⟨_, _, sh115, (by decide), rfl, hc _ tX12_worst_144 _ _ _ (hc _ tX12_worst_146 _ _ _ (⟨_, _, _, sh135, Or.inl ⟨rfl, (by decide)⟩, ((((h.1 c1).1 c3).2 c6).1 c7).1, hc _ tX12_worst_147 _ _ _ (hc _ tX12_worst_148 _ _ _ (⟨nofun, rfl, rfl, ((((h.1 c1).1 c3).2 c6).1 c7).2⟩))⟩))⟩))⟩))⟩)), fun c8 => hc _ tX12_worst_129 _ _ _ (hc _ tX12_worst_131 _ _ _ (hc _ tX12_worst_148 _ _ _ (⟨nofun, rfl, rfl, ((((h.1 c1).1 c3).2 c6).2 c8)⟩)))⟩)))⟩)), fun c4 => hc _ tX12_worst_105 _ _ _ (hc _ tX12_worst_106 _ _ _ (hc _ tX12_worst_108 _ _ _ (⟨fun c9 => hc _ tX12_worst_117 _ _ _ (hc _ tX12_worst_119 _ _ _ (⟨nofun, rfl, rfl, (((h.1 c1).2 c4).1 c9)⟩)), fun c10 => hc _ tX12_worst_111 _ _ _ (hc _ tX12_worst_114 _ _ _ (hc _ tX12_worst_119 _ _ _ (⟨nofun, rfl, rfl, (((h.1 c1).2 c4).2 c10)⟩)))⟩)))⟩))), fun c2 => hc _ tX12_worst_49 _ _ _ (hc _ tX12_worst_50 _ _ _ (hc _ tX12_worst_51 _ _ _ (hc _ tX12_worst_53 _ _ _ (⟨⟨_, _, _, rfl, (by decide), sh115⟩, ⟨Nat.le_of_ble_eq_true rfl, Nat.le_of_ble_eq_true rfl, zl1, zl2, _, ctX12_has x1 x5 I L ((h.2 c2).1) ((h.2 c2).2.1), fun r u k17 => by obtain ⟨rfl, rfl⟩ := k17; exact ⟨zl3, zl4, hc _ tX12_worst_56 _ _ _ (⟨fun c11 => hc _ tX12_worst_88 _ _ _ (hc _ tX12_worst_90 _ _ _ (hc _ tX12_worst_92 _ _ _ (hc _ tX12_worst_95 _ _ _ (((h.2 c2).2.2.1 (zb_e c11)) P hw hc)))), fun c12 => hc _ tX12_worst_59 _ _ _ (hc _ tX12_worst_61 _ _ _ (hc _ tX12_worst_63 _ _ _ (⟨fun c13 => hc _ tX12_worst_83 _ _ _ (hc _ tX12_worst_85 _ _ _ (hc _ tX12_worst_90 _ _ _ (hc _ tX12_worst_92 _ _ _ (hc _ tX12_worst_95 _ _ _ ((((h.2 c2).2.2.2 (zb_n c12)).1 c13) P hw hc))))), fun c14 => hc _ tX12_worst_66 _ _ _ (hc _ tX12_worst_67 _ _ _ (⟨_, _, sh115, (by decide), rfl, hc _ tX12_worst_70 _ _ _ (hc _ tX12_worst_72 _ _ _ (⟨_, _, _, sh135, Or.inl ⟨rfl, (by decide)⟩, (((h.2 c2).2.2.2 (zb_n c12)).2 c14).1, hc _ tX12_worst_73 _ _ _ (hc _ tX12_worst_74 _ _ _ (⟨_, _, sh115, (by decide), rfl, hc _ tX12_worst_77 _ _ _ (hc _ tX12_worst_79 _ _ _ (⟨_, _, _, sh135, Or.inl ⟨rfl, (by decide)⟩, (((h.2 c2).2.2.2 (zb_n c12)).2 c14).2.1, hc _ tX12_worst_80 _ _ _ (⟨fun c15 => hc _ tX12_worst_88 _ _ _ (hc _ tX12_worst_90 _ _ _ (hc _ tX12_worst_92 _ _ _ (hc _ tX12_worst_95 _ _ _ (((((h.2 c2).2.2.2 (zb_n c12)).2 c14).2.2.1 c15) P hw hc)))), fun c16 => hc _ tX12_worst_83 _ _ _ (hc _ tX12_worst_85 _ _ _ (hc _ tX12_worst_90 _ _ _ (hc _ tX12_worst_92 _ _ _ (hc _ tX12_worst_95 _ _ _ (((((h.2 c2).2.2.2 (zb_n c12)).2 c14).2.2.2 c16) P hw hc)))))⟩)⟩))⟩))⟩))⟩))⟩)))⟩)⟩⟩⟩))))⟩)))
theorem gX12_worst_156 {zn d : Nat} {post : zP} (x1 : Int32) (x2 : Int32) (x3 : Int32) (x4 : Int32) (x5 : Int32) (x6 : Int32) (I : Nat → Nat → Int32) (L : Nat → Nat → Int64) (h : (x3 ≤ x6 → post (some (.int x5)) (zSH zn, I, L)) ∧ (¬ x3 ≤ x6 → (x5 = (-4 : Int32) → post (some (.int x5)) (zSH zn, I, L)) ∧ (¬ x5 = (-4 : Int32) → (x6 = 0 → vp_in x5 19 ∧ (RX12_worst zn d post 156 [some (.ref 115), some (.int x1), some (.int x2), some (.int x3), some (.int x4), some (.int (I 136 (x5).toNatClampNeg)), some (.int (x6 + (1 : Int32)))] [] (zSH zn, I, L))) ∧ (¬ x6 = 0 → (¬ ((6 : Int32) ≤ x5 ∧ x5 ≤ (14 : Int32)) → RX12_worst zn d post 156 [some (.ref 115), some (.int x1), some (.int x2), some (.int x3), some (.int x4), some (.int (-4 : Int32)), some (.int (x6 + (1 : Int32)))] [] (zSH zn, I, L)) ∧ ((6 : Int32) ≤ x5 ∧ x5 ≤ (14 : Int32) → vp_in x5 19 ∧ (RX12_worst zn d post 156 [some (.ref 115), some (.int x1), some (.int x2), some (.int x3), some (.int x4), some (.int (I 136 (x5).toNatClampNeg)), some (.int (x6 + (1 : Int32)))] [] (zSH zn, I, L))))))) : RX12_worst zn d post 156 [some (.ref 115), some (.int x1), some (.int x2), some (.int x3), some (.int x4), some (.int x5), some (.int x6)] [] (zSH zn, I, L) := fun P hw hc => hc _ tX12_worst_156 _ _ _ (hc _ tX12_worst_158 _ _ _ (hc _ tX12_worst_159 _ _ _ (⟨fun c1 => hc _ tX12_worst_206 _ _ _ (hc _ tX12_worst_208 _ _ _ (⟨nofun, rfl, rfl, (h.1 c1)⟩)), fun c2 => hc _ tX12_worst_162 _ _ _ (hc _ tX12_worst_164 _ _ _ (hc _ tX12_worst_166 _ _ _ (⟨fun c3 => hc _ tX12_worst_206 _ _ _ (hc _ tX12_worst_208 _ _ _ (⟨nofun, rfl, rfl, ((h.2 c2).1 c3)⟩)), fun c4 => hc _ tX12_worst_169 _ _ _ (hc _ tX12_worst_171 _ _ _ (⟨fun c5 => hc _ tX12_worst_186 _ _ _ (hc _ tX12_worst_187 _ _ _ (⟨_, _, sh115, (by decide), rfl, hc _ tX12_worst_190 _ _ _ (hc _ tX12_worst_192 _ _ _ (⟨_, _, _, sh136, Or.inl ⟨rfl, (by decide)⟩, (((h.2 c2).2 c4).1 c5).1, hc _ tX12_worst_193 _ _ _ (hc _ tX12_worst_198 _ _ _ (hc _ tX12_worst_200 _ _ _ (hc _ tX12_worst_203 _ _ _ ((((h.2 c2).2 c4).1 c5).2 P hw hc))))⟩))⟩)), fun c6 => hc _ tX12_worst_174 _ _ _ (hc _ tX12_worst_176 _ _ _ (hc _ tX12_worst_178 _ _ _ (hc _ tX12_worst_180 _ _ _ (⟨Nat.le_of_ble_eq_true rfl, Nat.le_of_ble_eq_true rfl, zl1, zl2, _, ctX12_in x5 (6 : Int32) (14 : Int32) I L, fun r u k9 => by obtain ⟨rfl, rfl⟩ := k9; exact ⟨zl3, zl4, hc _ tX12_worst_183 _ _ _ (⟨fun c7 => hc _ tX12_worst_196 _ _ _ (hc _ tX12_worst_198 _ _ _ (hc _ tX12_worst_200 _ _ _ (hc _ tX12_worst_203 _ _ _ (((((h.2 c2).2 c4).2 c6).1 (zb_e c7)) P hw hc)))), fun c8 => hc _ tX12_worst_186 _ _ _ (hc _ tX12_worst_187 _ _ _ (⟨_, _, sh115, (by decide), rfl, hc _ tX12_worst_190 _ _ _ (hc _ tX12_worst_192 _ _ _ (⟨_, _, _, sh136, Or.inl ⟨rfl, (by decide)⟩, ((((h.2 c2).2 c4).2 c6).2 (zb_n c8)).1, hc _ tX12_worst_193 _ _ _ (hc _ tX12_worst_198 _ _ _ (hc _ tX12_worst_200 _ _ _ (hc _ tX12_worst_203 _ _ _ (((((h.2 c2).2 c4).2 c6).2 (zb_n c8)).2 P hw hc))))⟩))⟩))⟩)⟩⟩))))⟩))⟩)))⟩)))
theorem arr_causeR {V : zVw} (hV : okV V) {dt : Nat → Int32} {ld : Int32} {J : Nat → Nat → Int32} {c e : Nat} (h : arrS V dt (fun _ => -4) ld J c e) {n : Nat} {ks : List Nat} (hk : V n = some ks) : J e n = -4 ∨ ∃ u, u < 19 ∧ u ∈ ks ∧ J e n = nI u := by
  have hev : RA (fun u => u ∈ ks) (ev (opG dt nI) (enT J c) (0, 0) ks) (ev (opG dt (fun _ => -4)) (enT J c) (0, 0) ks) := ev_rel (RA_op _ dt) (hV n ks hk).2.2 (fun k hkk hk2 => ⟨rfl, Or.inr ⟨k, hk2, hkk, rfl, rfl⟩⟩) _ _
  rw [(h.2.1 n ks hk).2]
  rcases hev.2 with z | ⟨u, h1, h2, -, h3⟩
  · exact Or.inl z.1
  · exact Or.inr ⟨u, h1, h2, h3⟩
theorem lt14 {y : Int32} : (6 ≤ y ∧ y ≤ 14) ↔ (6 ≤ y ∧ y < 15) := by
  constructor
  · rintro ⟨h1, h2⟩; exact ⟨h1, Int32.lt_of_le_of_lt h2 (by decide)⟩
  · intro h
    obtain ⟨n, rfl, n6, n19, -, -⟩ := nm_of (a := 6) (b := 15) (by decide) (by decide) h
    exact ⟨h.1, by rw [nl 14, nI_leI (by omega) (by decide)]; omega⟩
theorem ctX12_worst {zn d : Nat} (x1 : Int32) (x2 : Int32) (x3 : Int32) (I : Nat → Nat → Int32) (L : Nat → Nat → Int64) (V : Nat → zVw) (ps : Nat → List Nat) (q0 : ∀ w, w < 2 → rEv I w (V w) (ps w) ∧ nlk (V w)) : zcal zty zcd false (d + 5) 183 [.ref 115, .int x1, .int x2, .int x3] (zSH zn, I, L) 0 0 (fun r u => ∃ (J : Nat → Nat → Int32), r = some (.int (wrsS (V (tn x1)) (J 135) (J 136) (I 129 4) x1 x2 x3)) ∧ u = (zSH zn, J, L) ∧ (fr [135, 136, 137, 138] I J ∧ (((x1 = 0 ∨ x1 = 1) ∧ (0 ≤ x2 ∧ x2 < 3) ∧ ¬ x3 < -2) → arrS (V (tn x1)) (dtm (I 128) (I 129 (tn x2))) (fun _ => -4) (I 129 3) J 135 136))) := by
  have e2 : ∀ x : Int32, (0 ≤ x ∧ x ≤ 2) ↔ (0 ≤ x ∧ x < 3) := fun x => le256 (b := 2) (by decide)
  refine eX12_worst _ _ _ I L (gX12_worst_0 _ _ _ I L ⟨fun h => ⟨I, by rw [wrsS, if_neg (fun z => h (in01.mpr z.1))], rfl, fr_rf, fun z => absurd (in01.mpr z.1) h⟩, fun h => ⟨fun h2 => ⟨I, by rw [wrsS, if_neg (fun z => h2 ((e2 _).mpr z.2.1))], rfl, fr_rf, fun z => absurd ((e2 _).mpr z.2.1) h2⟩, fun h2 => ⟨fun h3 => ?_, fun h3 => ⟨I, by rw [wrsS, if_neg (fun z => h3 (Int32.not_lt.mp z.2.2))], rfl, fr_rf, fun z => absurd (Int32.not_lt.mp z.2.2) h3⟩⟩⟩⟩)
  have hx := in01.mp h
  have h2' := (e2 _).mp h2
  obtain ⟨w, hw, ew, tw', tw, hv⟩ := x01 hx
  obtain ⟨c, rfl, -, hc, tc, tc'⟩ := nm_of (a := 0) (b := 3) (by decide) (by decide) h2'
  have h3' := Int32.not_lt.mpr h3
  obtain ⟨cv, hnl⟩ := q0 w hw
  have zx : zs x1 6 := ⟨w, by omega, ew⟩
  rw [tw]
  refine ⟨V w, ps w, c, cv, zx, ⟨rfl, by omega⟩, hnl, fun J ⟨j1, j2⟩ => ?_⟩
  have phi : fr [135, 136, 137, 138] I J ∧ (((x1 = 0 ∨ x1 = 1) ∧ (0 ≤ nI c ∧ nI c < 3) ∧ ¬ x3 < -2) → arrS (V w) (dtm (I 128) (I 129 (tn (nI c)))) (fun _ => -4) (I 129 3) J 135 136) := ⟨j1, fun _ => by rw [tc]; exact j2⟩
  have hcond : (x1 = 0 ∨ x1 = 1) ∧ (0 ≤ nI c ∧ nI c < 3) ∧ ¬ x3 < -2 := ⟨hx, h2', h3'⟩
  have h129 : J 129 = I 129 := j1 129 (by decide)
  have cJ := rEv_any cv (j1 118 (by decide)) (j1 119 (by decide)) (j1 120 (by decide)) (j1 122 (by decide)) (j1 123 (by decide))
  have loop : ∀ n (u : Unit), n ≤ 19 → 6 ≤ n → RX12_worst zn d (fun r u => ∃ (J : Nat → Nat → Int32), r = some (.int (wrsS (V w) (J 135) (J 136) (I 129 4) x1 (nI c) x3)) ∧ u = (zSH zn, J, L) ∧ (fr [135, 136, 137, 138] I J ∧ (((x1 = 0 ∨ x1 = 1) ∧ (0 ≤ (nI c) ∧ (nI c) < 3) ∧ ¬ x3 < -2) → arrS (V w) (dtm (I 128) (I 129 (tn (nI c)))) (fun _ => -4) (I 129 3) J 135 136))) 42 [some (.ref 115), some (.int x1), some (.int (nI c)), some (.int x3), some (.int (oI (latN (V w) (J 135) n))), some (.int (nI n)), none] [] (zSH zn, J, L) := by
    refine zup (fun _ _ => ?_) (fun n _ hn h6 ih => ?_)
    · have hlt : ∀ u, latN (V w) (J 135) 19 = some u → u < 200 := fun u hu => by have := (latN_in hu).1; omega
      refine gX12_worst_42 _ _ _ _ _ J L ⟨fun _ => ?_, fun hc => absurd (by decide) hc⟩
      rw [oI_n4 hlt]
      cases hl : latN (V w) (J 135) 19 with
      | none =>
        refine ⟨fun z => absurd rfl z, fun _ => ⟨fun h4 => ⟨J, ?_, rfl, phi⟩, fun h4 => ⟨J, ?_, rfl, phi⟩⟩⟩
        · rw [wrsS, if_pos hcond, hl]; simp only; rw [if_neg h4]
        · rw [wrsS, if_pos hcond, hl]; simp only; rw [if_pos h4]
      | some u =>
        obtain ⟨u19, hu⟩ := latN_in hl
        have tu : (oI (some u)).toNatClampNeg = u := nI_clamp (n := u) (by omega)
        refine ⟨fun _ => ⟨fun h0 => ?_, fun h0 => ⟨fun h5 => ⟨vin_nI (j := u) u19 (by decide), J, ?_, rfl, phi⟩, fun h5 => ⟨J, ?_, rfl, phi⟩⟩⟩, fun z => by (cases z)⟩
        · obtain ⟨i, hi, rfl⟩ := nI_of (Int32.not_lt.mpr h0)
          have hres : wrsS (V w) (J 135) (J 136) (I 129 4) x1 (nI c) (nI i) = way (J 136) (nI u) i := by
            rw [wrsS, if_pos hcond, hl]; simp only
            rw [if_neg (fun z => absurd (by rw [← z]; exact h0 : (0 : Int32) ≤ -2) (by decide)), if_neg (fun z => absurd (by rw [← z]; exact h0 : (0 : Int32) ≤ -1) (by decide)), tn_nI hi]
          have wl : ∀ (m k : Nat) (y : Int32), k + m = i → y = way (J 136) (nI u) k → (y = -4 ∨ ∃ n, n < 19 ∧ y = nI n ∧ ((k = 0 ∧ n = u) ∨ (1 ≤ k ∧ ((6 ≤ n ∧ n < 15) → (V w n).isSome = true)))) → RX12_worst zn d (fun r u_1 => ∃ (J_1 : Nat → Nat → Int32), r = some (.int (wrsS (V w) (J_1 135) (J_1 136) (I 129 4) x1 (nI c) (nI i))) ∧ u_1 = (zSH zn, J_1, L) ∧ (fr [135, 136, 137, 138] I J_1 ∧ (((x1 = 0 ∨ x1 = 1) ∧ (0 ≤ nI c ∧ nI c < 3) ∧ ¬ nI i < -2) → arrS (V w) (dtm (I 128) (I 129 (tn (nI c)))) (fun _ => -4) (I 129 3) J_1 135 136))) 156 [some (.ref 115), some (.int x1), some (.int (nI c)), some (.int (nI i)), some (.int (oI (some u))), some (.int y), some (.int (nI k))] [] (zSH zn, J, L) := by
            intro m
            induction m with
            | zero =>
              intro k y hk hy hcs
              have : k = i := by omega
              subst this
              exact gX12_worst_156 _ _ _ _ _ _ J L ⟨fun _ => ⟨J, by rw [hres, hy], rfl, phi⟩, fun hc => absurd (by rw [nI_leI hi hi]; exact Nat.le_refl _) hc⟩
            | succ m ihm =>
              intro k y hk hy hcs
              refine gX12_worst_156 _ _ _ _ _ _ J L ⟨fun hc => absurd hc (by rw [nI_leI hi (by omega)]; omega), fun _ => ⟨fun h4 => ?_, fun h4 => ?_⟩⟩
              · have := way_4 (hy ▸ h4 : way (J 136) (nI u) k = -4) (i - k)
                rw [show k + (i - k) = i by omega] at this
                exact ⟨J, by rw [hres, this, h4], rfl, phi⟩
              · obtain ⟨n, hn, en, hn2⟩ := hcs.resolve_left h4
                subst en
                have tnn : (nI n).toNatClampNeg = n := nI_clamp (by omega)
                have tnn2 : tn (nI n) = n := tnn
                have hwk : way (J 136) (nI u) k ≠ -4 := by rw [← hy]; exact h4
                have go : ∀ (_ : k = 0 ∨ (6 ≤ n ∧ n < 15)), RX12_worst zn d (fun r u_1 => ∃ (J_1 : Nat → Nat → Int32), r = some (.int (wrsS (V w) (J_1 135) (J_1 136) (I 129 4) x1 (nI c) (nI i))) ∧ u_1 = (zSH zn, J_1, L) ∧ (fr [135, 136, 137, 138] I J_1 ∧ (((x1 = 0 ∨ x1 = 1) ∧ (0 ≤ nI c ∧ nI c < 3) ∧ ¬ nI i < -2) → arrS (V w) (dtm (I 128) (I 129 (tn (nI c)))) (fun _ => -4) (I 129 3) J_1 135 136))) 156 [some (.ref 115), some (.int x1), some (.int (nI c)), some (.int (nI i)), some (.int (oI (some u))), some (.int (J 136 (nI n).toNatClampNeg)), some (.int (nI k + 1))] [] (zSH zn, J, L) := fun hg => by
                  have hs : (V w n).isSome = true := by
                    rcases hn2 with ⟨_, rfl⟩ | ⟨h1, h2⟩
                    · exact hu
                    · exact h2 (hg.resolve_left (by omega))
                  obtain ⟨ks, hks⟩ := Option.isSome_iff_exists.mp hs
                  rw [nI_1, tnn]
                  refine ihm (k + 1) _ (by omega) ?_ ?_
                  · rw [way, if_neg hwk, if_pos, ← hy, tnn2]
                    rw [← hy]
                    exact hg.imp id (fun z => (wire_nI (by omega)).mpr z)
                  · rcases arr_causeR cv.1 j2 hks with z | ⟨q, q19, qm, eq⟩
                    · exact Or.inl z
                    · exact Or.inr ⟨q, q19, eq, Or.inr ⟨by omega, fun hq => hnl n ks q hks qm hq.1 hq.2⟩⟩
                refine ⟨fun hk0 => ⟨vin_nI hn (by decide), go (Or.inl (nI_inj (by omega) (by decide) hk0))⟩, fun hk0 => ?_⟩
                have hk0' : k ≠ 0 := fun z => hk0 (by rw [z]; rfl)
                rw [lt14, wire_nI (by omega)]
                refine ⟨fun hnw => ?_, fun hw' => ⟨vin_nI hn (by decide), go (Or.inr hw')⟩⟩
                rw [nI_1]
                refine ihm (k + 1) _ (by omega) ?_ (Or.inl rfl)
                rw [way, if_neg hwk, if_neg]
                rw [← hy, wire_nI (by omega)]
                exact fun z => z.elim hk0' hnw
          exact wl i 0 _ (by omega) rfl (Or.inr ⟨u, u19, rfl, Or.inl ⟨rfl, rfl⟩⟩)
        · rw [wrsS, if_pos hcond, hl]; simp only
          have h4 : x3 = -2 := by
            rcases fa_three x3 (-2) with y | y | y
            · exact absurd y h3'
            · exact y
            · rcases fa_three x3 (-1) with w1 | w1 | w1
              · rw [fa_lt] at y w1
                have e1 : (-2 : Int32).toInt = -2 := by decide
                have e2 : (-1 : Int32).toInt = -1 := by decide
                omega
              · exact absurd w1 h5
              · refine absurd ?_ h0
                rw [fa_lt] at w1
                rw [fa_le]
                have e1 : (0 : Int32).toInt = 0 := by decide
                have e2 : (-1 : Int32).toInt = -1 := by decide
                omega
          rw [if_pos h4, tu, h129]
        · rw [wrsS, if_pos hcond, hl]; simp only
          rw [if_neg (by rw [h5]; decide), if_pos h5]; rfl
    · have tnn : tn (nI n) = n := tn_nI (by omega)
      have tnn' : (nI n).toNatClampNeg = n := tnn
      have zn' : zs (nI n) 18 := ⟨n, by omega, rfl⟩
      refine gX12_worst_42 _ _ _ _ _ J L ⟨fun hc => absurd hc (by rw [nl 19, nI_leI (by decide) (by omega)]; omega), fun _ => ⟨zx, zn', ?_⟩⟩
      have hih := ih () (by omega)
      have hlt : ∀ w_1, latN (V w) (J 135) n = some w_1 → w_1 < 200 := fun w hw => by have := (latN_in hw).1; omega
      rw [tw, tnn, rLn_has cJ.2.1 hn, nI_1, oI_n4 hlt, tnn']
      refine ⟨fun hv => ?_, fun hv => ⟨fun hl => ?_, fun hl => ⟨vin_nI hn (by decide), ?_⟩⟩⟩
      · have e : latN (V w) (J 135) (n + 1) = latN (V w) (J 135) n := by rw [latN, if_neg hv]
        rw [e] at hih; exact hih
      · have e : latN (V w) (J 135) (n + 1) = some n := by rw [latN, if_pos hv, hl]
        rw [e] at hih; exact hih
      · cases hl2 : latN (V w) (J 135) n with
        | none => exact absurd hl2 hl
        | some q =>
          have hw := (latN_in hl2).1
          have tq : (oI (some q)).toNatClampNeg = q := nI_clamp (n := q) (by omega)
          rw [tq]
          refine ⟨vin_nI (j := q) (by omega) (by decide), fun hc => ?_, fun hc => ?_⟩
          · have e : latN (V w) (J 135) (n + 1) = some q := by rw [latN, if_pos hv, hl2]; simp only; rw [if_pos hc]
            rw [e] at hih; exact hih
          · have e : latN (V w) (J 135) (n + 1) = some n := by rw [latN, if_pos hv, hl2]; simp only; rw [if_neg hc]
            rw [e] at hih; exact hih
  have h0 := loop 6 () (by decide) (by decide)
  rw [latN_6 cv.1] at h0
  exact h0

