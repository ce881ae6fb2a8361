/-! READING: the class's reader keeps step with the spec -/
def tlS (s : zRs) : Nat := bm (fun n => (s.2.2.2 n).isSome || (decide (s.1 ≠ 0) && decide (n = s.2.1))) 19
def dM (s : zRs) (n : Nat) : Nat := bm (fun m => (decide (n = s.2.1) && decide (m ∈ s.2.2.1)) || inO (s.2.2.2 n) m) 19
def curC (I : Nat → Nat → Int32) (s : zRs) : Prop := I 26 2 = nI s.2.1 ∧ I 26 4 = nI (depd 0 s.2.2.1) ∧ ∃ f, I 29 s.2.1 = nI f ∧ f + s.2.2.1.length = szS s ∧ ∀ (i x : Nat), s.2.2.1[i]? = some x → I 28 (f + i) = nI (tokv s.2.2.1 i)
def cRd (I : Nat → Nat → Int32) (s : zRs) : Prop := I 26 1 = nI s.1 ∧ I 26 3 = nI (szS s) ∧ I 27 6 = nI (tlS s) ∧ (∀ n, n < 19 → I 31 n = nI (dM s n) ∧ I 32 n = nI (cntU s.2.2.2 n + s.2.2.1.count n)) ∧ (∀ n ks, s.2.2.2 n = some ks → ∃ f, lnC I 27 n ks f ∧ f + ks.length ≤ szS s) ∧ (s.1 ≠ 0 → curC I s)
def rdP (I J : Nat → Nat → Int32) (s : zRs) (t : Nat) : Prop := fr [26, 27, 28, 29, 30, 31, 32] I J ∧ ∀ s', rdn s t = some s' → cRd J s'
theorem tlS_lt {s : zRs} : tlS s < 2 ^ 19 := bm_lt _ _
theorem rdP_no {I J : Nat → Nat → Int32} {s : zRs} {t : Nat} (h : rdn s t = none) (hf : fr [26, 27, 28, 29, 30, 31, 32] I J) : rdP I J s t := ⟨hf, fun s' hs => by rw [h] at hs; cases hs⟩
theorem lnC_cong {I J : Nat → Nat → Int32} {k n f : Nat} {ks : List Nat} (h : lnC I k n ks f) (h2 : J (k + 2) n = I (k + 2) n) (h3 : J (k + 3) n = I (k + 3) n) (h1 : ∀ i, i < ks.length → J (k + 1) (f + i) = I (k + 1) (f + i)) : lnC J k n ks f := ⟨h.1, h2.trans h.2.1, h3.trans h.2.2.1, fun i x hx => (h1 i (by obtain ⟨hi, _⟩ := List.getElem?_eq_some_iff.mp hx; exact hi)).trans (h.2.2.2 i x hx)⟩
theorem tlS_new {nm n : Nat} {V : zVw} (hn : n < 19) : tlS (0, nm, [], V) ||| 2 ^ n = tlS (1, n, [], V) := by
  unfold tlS
  rw [bm_pow hn, bm_or]
  exact bm_cong (fun i _ => by simp)
theorem dM_nil (a b nm n : Nat) {V : zVw} (m : Nat) : dM (a, nm, [], V) m = dM (b, n, [], V) m := by
  unfold dM
  exact bm_cong (fun i _ => by simp)
theorem let_in : ∀ t, t < 256 → ((6 ≤ nI t - 97 ∧ nI t - 97 < 19) ↔ (103 ≤ t ∧ t < 116)) := by decide +kernel
abbrev RX5_takesLetter (zn d : Nat) (post : zP) : zK := zRun (zcal zty zcd false (d + 2)) kX5_takesLetter (zLM zn) post
theorem eX5_takesLetter {zn d : Nat} {post : zP} (x1 : Int32) (I : Nat → Nat → Int32) (L : Nat → Nat → Int64) (h : RX5_takesLetter zn d post 0 [some (.ref 26), some (.int x1)] [] (zSH zn, I, L)) : zcal zty zcd false (d + 3) 46 [.ref 26, .int x1] (zSH zn, I, L) 0 0 post := zcal_of (d := d + 2) zmt46 zmc46 rfl (Nat.le_of_ble_eq_true rfl) h
theorem gX5_takesLetter_0 {zn d : Nat} {post : zP} (x1 : Int32) (I : Nat → Nat → Int32) (L : Nat → Nat → Int64) (h : (¬ ((6 ≤ x1 ∧ x1 < 19)) → post (some (.int (0 : Int32))) (zSH zn, I, L)) ∧ ((6 ≤ x1 ∧ x1 < 19) → (¬ ((¬ ((I 27 6) >>> (x1 &&& 31)) &&& 1 = 0)) → vp_in ((zi (zi I 26 2 x1) 27 6 (((zi I 26 2 x1) 27 6) ||| ((1 : Int32) <<< (((zi I 26 2 x1) 26 2) &&& 31)))) 26 2) 19 ∧ (post (some (.int (1 : Int32))) (zSH zn, (zi (zi (zi (zi (zi I 26 2 x1) 27 6 (((zi I 26 2 x1) 27 6) ||| ((1 : Int32) <<< (((zi I 26 2 x1) 26 2) &&& 31)))) 29 (((zi (zi I 26 2 x1) 27 6 (((zi I 26 2 x1) 27 6) ||| ((1 : Int32) <<< (((zi I 26 2 x1) 26 2) &&& 31)))) 26 2)).toNatClampNeg ((zi (zi I 26 2 x1) 27 6 (((zi I 26 2 x1) 27 6) ||| ((1 : Int32) <<< (((zi I 26 2 x1) 26 2) &&& 31)))) 26 3)) 26 4 (0 : Int32)) 26 1 (1 : Int32)), L))) ∧ ((¬ ((I 27 6) >>> (x1 &&& 31)) &&& 1 = 0) → post (some (.int (0 : Int32))) (zSH zn, I, L)))) : RX5_takesLetter zn d post 0 [some (.ref 26), some (.int x1)] [] (zSH zn, I, L) := fun P hw hc => hc _ tX5_takesLetter_0 _ _ _ (hc _ tX5_takesLetter_1 _ _ _ (⟨Nat.le_of_ble_eq_true rfl, Nat.le_of_ble_eq_true rfl, zl1, zl2, _, ctX11_mayHaveLine x1 I L, fun r u k6 => by obtain ⟨rfl, rfl⟩ := k6; exact ⟨zl3, zl4, hc _ tX5_takesLetter_4 _ _ _ (⟨fun c1 => hc _ tX5_takesLetter_18 _ _ _ (hc _ tX5_takesLetter_19 _ _ _ (⟨fun _ => by decide, rfl, rfl, (h.1 (zb_e c1))⟩)), fun c2 => hc _ tX5_takesLetter_7 _ _ _ (hc _ tX5_takesLetter_8 _ _ _ (⟨_, _, sh26, (by decide), rfl, hc _ tX5_takesLetter_11 _ _ _ (hc _ tX5_takesLetter_12 _ _ _ (⟨⟨_, _, _, rfl, (by decide), sh27⟩, ⟨Nat.le_of_ble_eq_true rfl, Nat.le_of_ble_eq_true rfl, zl1, zl2, _, ctX10_hasLine 27 x1 I L isX10_27, fun r u k5 => by obtain ⟨rfl, rfl⟩ := k5; exact ⟨zl3, zl4, hc _ tX5_takesLetter_15 _ _ _ (⟨fun c3 => hc _ tX5_takesLetter_20 _ _ _ (hc _ tX5_takesLetter_21 _ _ _ (hc _ tX5_takesLetter_22 _ _ _ (⟨_, sh26, (by decide), nofun, hc _ tX5_takesLetter_25 _ _ _ (hc _ tX5_takesLetter_26 _ _ _ (⟨_, _, sh26, (by decide), rfl, hc _ tX5_takesLetter_29 _ _ _ (⟨rfl, hc _ tX5_takesLetter_30 _ _ _ (⟨_, sh27, (by decide), hc _ tX5_takesLetter_33 _ _ _ (hc _ tX5_takesLetter_34 _ _ _ (hc _ tX5_takesLetter_35 _ _ _ (⟨_, sh26, (by decide), hc _ tX5_takesLetter_38 _ _ _ (hc _ tX5_takesLetter_39 _ _ _ (hc _ tX5_takesLetter_40 _ _ _ (⟨_, sh27, (by decide), nofun, hc _ tX5_takesLetter_43 _ _ _ (hc _ tX5_takesLetter_44 _ _ _ (⟨_, _, sh26, (by decide), rfl, hc _ tX5_takesLetter_47 _ _ _ (⟨_, _, sh27, (by decide), rfl, hc _ tX5_takesLetter_50 _ _ _ (hc _ tX5_takesLetter_51 _ _ _ (⟨_, sh26, (by decide), hc _ tX5_takesLetter_54 _ _ _ (hc _ tX5_takesLetter_55 _ _ _ (⟨_, sh26, (by decide), hc _ tX5_takesLetter_58 _ _ _ (⟨_, _, sh29, (by decide), ((h.2 (zb_n c2)).1 (zb_e c3)).1, hc _ tX5_takesLetter_59 _ _ _ (hc _ tX5_takesLetter_60 _ _ _ (hc _ tX5_takesLetter_61 _ _ _ (⟨_, sh26, (by decide), nofun, hc _ tX5_takesLetter_64 _ _ _ (hc _ tX5_takesLetter_65 _ _ _ (hc _ tX5_takesLetter_66 _ _ _ (⟨_, sh26, (by decide), nofun, hc _ tX5_takesLetter_69 _ _ _ (hc _ tX5_takesLetter_70 _ _ _ (⟨fun _ => by decide, rfl, rfl, ((h.2 (zb_n c2)).1 (zb_e c3)).2⟩))⟩)))⟩)))⟩)⟩))⟩))⟩)⟩))⟩)))⟩)))⟩)⟩)⟩))⟩))), fun c4 => hc _ tX5_takesLetter_18 _ _ _ (hc _ tX5_takesLetter_19 _ _ _ (⟨fun _ => by decide, rfl, rfl, ((h.2 (zb_n c2)).2 (zb_n c4))⟩))⟩)⟩⟩⟩))⟩))⟩)⟩⟩))
theorem ctX5_takesLetter {zn d : Nat} (x1 : Int32) (I : Nat → Nat → Int32) (L : Nat → Nat → Int64) (s : zRs) (t : Nat) (q0 : okS s) (q1 : s.1 = 0) (q2 : t < 256) (q3 : x1 = nI t - 97) (q4 : cRd I s) (q5 : szS s < 200) : zcal zty zcd false (d + 3) 46 [.ref 26, .int x1] (zSH zn, I, L) 0 0 (fun r u => ∃ (J : Nat → Nat → Int32), r = some (.int (if (rdn s t).isSome = true then 1 else 0)) ∧ u = (zSH zn, J, L) ∧ (rdP I J s t)) := by
  subst q3
  obtain ⟨aw, nm, cur, V⟩ := s
  obtain ⟨c1, c2, c3, c4, c5, c6⟩ := q4
  obtain ⟨o1, o2, o3, o4, o5⟩ := q0
  dsimp only at q1 c1 c2 c3 c4 c5 c6 o1 o2 o3 o4 o5
  subst q1
  have hcur : cur = [] := o4 (by decide)
  subst hcur
  refine eX5_takesLetter _ I L (gX5_takesLetter_0 _ I L ⟨fun h => ?_, fun h => ?_⟩)
  · have hr : rdn (0, nm, [], V) t = none := by
      unfold rdn
      dsimp only
      rw [if_pos rfl, if_neg]
      exact fun z => h ((let_in t q2).mpr ⟨z.1, z.2.1⟩)
    refine ⟨I, by rw [hr]; rfl, rfl, rdP_no hr fr_rf⟩
  · have h1 := (let_in t q2).mp h
    obtain ⟨n, rfl⟩ : ∃ n, t = n + 97 := ⟨t - 97, by omega⟩
    have e1 : nI (n + 97) - 97 = nI n := by rw [nl 97, pk_sub (by omega)]; rfl
    have hn : n < 19 := by omega
    rw [e1]
    have hb : (¬ ((I 27 6) >>> (nI n &&& 31)) &&& 1 = 0) ↔ (V n).isSome = true := by
      rw [c3, nI_has (Nat.lt_trans tlS_lt (by decide)) (by omega)]
      unfold tlS
      rw [bm_test]
      simp [hn]
    refine ⟨fun h2 => ?_, fun h2 => ?_⟩
    · rw [hb] at h2
      have hv : V n = none := by cases hV : V n with
        | none => rfl
        | some _ => rw [hV] at h2; exact absurd rfl h2
      have hr : rdn (0, nm, [], V) (n + 97) = some (1, n, [], V) := by
        unfold rdn
        dsimp only
        rw [if_pos rfl, if_pos ⟨by omega, by omega, by rw [Nat.add_sub_cancel, hv]; rfl⟩, Nat.add_sub_cancel]
      rw [hr]
      have v1 : ∀ (x : Int32), (zi (zi I 26 2 (nI n)) 27 6 x) 26 2 = nI n := fun x => by rw [zi_at, zi_at]; simp
      have v2 : ∀ (x : Int32), (zi (zi I 26 2 (nI n)) 27 6 x) 26 3 = I 26 3 := fun x => by rw [zi_at, zi_at]; simp
      have v3 : (zi I 26 2 (nI n)) 27 6 = I 27 6 := by rw [zi_at]; simp
      have v4 : (zi I 26 2 (nI n)) 26 2 = nI n := by rw [zi_at]; simp
      have hcl : (nI n).toNatClampNeg = n := nI_clamp (by omega)
      rw [v1, v2, v3, v4, hcl, nI_shl1 (by omega), c3, fa_or]
      refine ⟨vin_nI hn (by decide), _, rfl, rfl, ?_, fun s' hs => ?_⟩
      · intro j hj
        simp only [List.mem_cons, List.not_mem_nil, or_false, not_or] at hj
        funext a
        simp only [zi_at]
        simp [hj]
      · rw [hr] at hs
        cases hs
        refine ⟨?_, ?_, ?_, ?_, ?_, ?_⟩
        · simp only [zi_at]; rfl
        · simp only [zi_at]; simp; exact c2
        · simp only [zi_at]
          simp
          rw [tlS_new hn]
        · intro m hm
          simp only [zi_at]
          simp
          obtain ⟨d1, d2⟩ := c4 m hm
          exact ⟨by rw [d1, dM_nil 0 1 nm n], d2⟩
        · intro m ks hm
          dsimp only at hm
          have hmn : m ≠ n := fun z => by rw [z, hv] at hm; cases hm
          obtain ⟨f, hf, hle⟩ := c5 m ks hm
          refine ⟨f, lnC_cong hf ?_ ?_ (fun i hi => ?_), hle⟩
          · simp only [zi_at]; simp [hmn]
          · simp only [zi_at]; simp
          · simp only [zi_at]; simp
        · intro _
          refine ⟨?_, ?_, szV V, ?_, rfl, fun i x hx => by cases hx⟩
          · simp only [zi_at]; simp
          · simp only [zi_at]; simp; rfl
          · simp only [zi_at]; simp; exact c2
    · have hr : rdn (0, nm, [], V) (n + 97) = none := by
        unfold rdn
        dsimp only
        rw [if_pos rfl, if_neg]
        rw [Nat.add_sub_cancel, hb.mp h2]
        exact fun z => absurd z.2.2 (by decide)
      exact ⟨I, by rw [hr]; rfl, rfl, rdP_no hr fr_rf⟩

