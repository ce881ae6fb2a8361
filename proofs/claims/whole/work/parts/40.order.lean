/-! THE ORDER: by the number of wires that a wire leans on -/
theorem nod_len : ∀ {os : List Nat} {N : Nat}, os.Nodup → (∀ o ∈ os, o < N) → os.length = fb_sm (fun n => if n ∈ os then 1 else 0) N
  | [], N, _, _ => by
    rw [fb_sm_cong (g := fun _ => 0) (fun k _ => by simp), fb_sm_const]; simp
  | a :: r, N, hn, hb => by
    obtain ⟨h1, h2⟩ := List.nodup_cons.mp hn
    have ih := nod_len h2 (fun o ho => hb o (List.mem_cons_of_mem _ ho))
    have hu := fb_sm_upd (fun n => if n ∈ r then 1 else 0) 1 (hb a List.mem_cons_self)
    rw [if_neg h1, Nat.add_zero] at hu
    rw [List.length_cons, ih, ← hu]
    refine fb_sm_cong (fun k _ => ?_)
    by_cases hk : k = a
    · rw [if_pos hk, if_pos (by rw [hk]; exact List.mem_cons_self)]
    · rw [if_neg hk]
      by_cases h3 : k ∈ r
      · rw [if_pos h3, if_pos (List.mem_cons_of_mem _ h3)]
      · rw [if_neg h3, if_neg (fun z => (List.mem_cons.mp z).elim hk h3)]
def oOk (os : List Nat) : Prop := os.Nodup ∧ ∀ o ∈ os, 6 ≤ o ∧ o < 19
theorem oOk_len {os : List Nat} (h : oOk os) : os.length ≤ 13 := by
  rw [nod_len (N := 6 + 13) h.1 (fun o ho => (h.2 o ho).2), fb_sm_split]
  have h0 : fb_sm (fun n => if n ∈ os then 1 else 0) 6 ≤ 6 * 0 := fb_sm_bound (fun k hk => by
    rw [if_neg (fun z => by have := (h.2 k z).1; omega)]; exact Nat.le_refl _)
  have h1 : fb_sm (fun k => if 6 + k ∈ os then 1 else 0) 13 ≤ 13 * 1 := fb_sm_bound (fun k hk => by split <;> omega)
  omega
theorem oOk_app {os : List Nat} {n : Nat} (h : oOk os) (hn : n ∉ os) (h6 : 6 ≤ n) (h19 : n < 19) : oOk (os ++ [n]) := by
  refine ⟨?_, fun o ho => ?_⟩
  · rw [List.nodup_append]
    exact ⟨h.1, by simp, fun a ha b hb => by rw [List.mem_singleton] at hb; intro z; exact hn (by rw [← hb, ← z]; exact ha)⟩
  · rcases List.mem_append.mp ho with h1 | h1
    · exact h.2 o h1
    · rw [List.mem_singleton] at h1; omega
theorem tlV_lt {V : zVw} : tlV V < 2 ^ 19 := bm_lt _ _
def oSt (I : Nat → Nat → Int32) (k : Nat) (os : List Nat) : Prop := I k 7 = nI os.length ∧ ∀ (i o : Nat), os[i]? = some o → I (k + 6) i = nI o
def addO (V : zVw) (n : Nat) (os : List Nat) : List Nat := if (V n).isSome = true then os ++ [n] else os
abbrev RX10_orderNext (zn d : Nat) (post : zP) : zK := zRun (zcal zty zcd false (d + 2)) kX10_orderNext (zLM zn) post
theorem eX10_orderNext {zn d : Nat} {post : zP} (k0 : Nat) (x1 : Int32) (I : Nat → Nat → Int32) (L : Nat → Nat → Int64) (h0 : isX10 k0) (h : RX10_orderNext zn d post 0 [some (.ref k0), some (.int x1)] [] (zSH zn, I, L)) : zcal zty zcd false (d + 3) 88 [.ref k0, .int x1] (zSH zn, I, L) 0 0 post := zcal_of (d := d + 2) zmt88 zmc88 rfl (Nat.le_of_ble_eq_true rfl) h
theorem gX10_orderNext_0 {zn d : Nat} {post : zP} (k0 : Nat) (x1 : Int32) (I : Nat → Nat → Int32) (L : Nat → Nat → Int64) (h0 : isX10 k0) (h : (¬ ((¬ ((I k0 6) >>> (x1 &&& 31)) &&& 1 = 0)) → post none (zSH zn, I, L)) ∧ ((¬ ((I k0 6) >>> (x1 &&& 31)) &&& 1 = 0) → ((13 : Int32) ≤ (I k0 7) → post none (zSH zn, I, L)) ∧ (¬ (13 : Int32) ≤ (I k0 7) → vp_in (I k0 7) 13 ∧ (post none (zSH zn, (zi (zi I (k0 + 6) ((I k0 7)).toNatClampNeg x1) k0 7 (((zi I (k0 + 6) ((I k0 7)).toNatClampNeg x1) k0 7) + (1 : Int32))), L))))) : RX10_orderNext zn d post 0 [some (.ref k0), some (.int x1)] [] (zSH zn, I, L) := fun P hw hc => hc _ tX10_orderNext_0 _ _ _ (hc _ tX10_orderNext_1 _ _ _ (hc _ tX10_orderNext_2 _ _ _ (⟨⟨_, _, _, rfl, (geX10 h0), (shX10 h0)⟩, ⟨Nat.le_of_ble_eq_true rfl, Nat.le_of_ble_eq_true rfl, zl1, zl2, _, ctX10_hasLine k0 x1 I L h0, fun r u k5 => by obtain ⟨rfl, rfl⟩ := k5; exact ⟨zl3, zl4, hc _ tX10_orderNext_5 _ _ _ (⟨fun c1 => hc _ tX10_orderNext_37 _ _ _ (⟨rfl, rfl, (h.1 (zb_e c1))⟩), fun c2 => hc _ tX10_orderNext_8 _ _ _ (hc _ tX10_orderNext_9 _ _ _ (⟨_, (shX10 h0), (geX10 h0), hc _ tX10_orderNext_12 _ _ _ (hc _ tX10_orderNext_14 _ _ _ (⟨fun c3 => hc _ tX10_orderNext_37 _ _ _ (⟨rfl, rfl, ((h.2 (zb_n c2)).1 c3)⟩), fun c4 => hc _ tX10_orderNext_17 _ _ _ (hc _ tX10_orderNext_18 _ _ _ (⟨_, _, (shX10 h0), (geX10 h0), rfl, hc _ tX10_orderNext_21 _ _ _ (hc _ tX10_orderNext_22 _ _ _ (⟨_, (shX10 h0), (geX10 h0), hc _ tX10_orderNext_25 _ _ _ (hc _ tX10_orderNext_26 _ _ _ (⟨_, _, (shX10_5 h0), (geX10_5 h0), ((h.2 (zb_n c2)).2 c4).1, hc _ tX10_orderNext_27 _ _ _ (hc _ tX10_orderNext_28 _ _ _ (⟨rfl, hc _ tX10_orderNext_29 _ _ _ (⟨_, (shX10 h0), (geX10 h0), hc _ tX10_orderNext_32 _ _ _ (hc _ tX10_orderNext_33 _ _ _ (hc _ tX10_orderNext_34 _ _ _ (⟨_, (shX10 h0), (geX10 h0), nofun, hc _ tX10_orderNext_37 _ _ _ (⟨rfl, rfl, ((h.2 (zb_n c2)).2 c4).2⟩)⟩)))⟩)⟩))⟩))⟩))⟩))⟩))⟩))⟩)⟩⟩⟩)))
theorem ctX10_orderNext {zn d : Nat} (k0 : Nat) (x1 : Int32) (I : Nat → Nat → Int32) (L : Nat → Nat → Int64) (V : zVw) (os : List Nat) (n : Nat) (h0 : isX10 k0) (q0 : I k0 6 = nI (tlV V)) (q1 : oSt I k0 os) (q2 : oOk os) (q3 : x1 = nI n) (q4 : 6 ≤ n ∧ n < 19 ∧ n ∉ os) : zcal zty zcd false (d + 3) 88 [.ref k0, .int x1] (zSH zn, I, L) 0 0 (fun r u => ∃ (J : Nat → Nat → Int32), r = none ∧ u = (zSH zn, J, L) ∧ (fr [k0, k0 + 6] I J ∧ (∀ s, s ≠ 7 → J k0 s = I k0 s) ∧ oSt J k0 (addO V n os))) := by
  subst q3
  obtain ⟨n6, n19, nn⟩ := q4
  have hl := oOk_len (oOk_app q2 nn n6 n19)
  rw [List.length_append] at hl
  have hl2 : os.length < 13 := Nat.lt_of_succ_le hl
  have hbit : (¬ ((I k0 6) >>> (nI n &&& 31)) &&& 1 = 0) ↔ (V n).isSome = true := by
    rw [q0, nI_has (Nat.lt_trans tlV_lt (by decide)) (by omega)]
    unfold tlV
    rw [bm_test]
    simp [n19]
  refine eX10_orderNext _ _ I L h0 (gX10_orderNext_0 _ _ I L h0 ?_)
  rw [hbit]
  refine ⟨fun h => ⟨I, rfl, rfl, fr_rf, fun _ _ => rfl, by unfold addO; rw [if_neg h]; exact q1⟩, fun h => ⟨fun h2 => absurd h2 ?_, fun _ => ⟨?_, ?_⟩⟩⟩
  · rw [q1.1, nl 13, nI_leI (by decide) (by omega)]; omega
  · rw [q1.1]; exact vin_nI hl2 (by decide)
  · have ec : (I k0 7).toNatClampNeg = os.length := by rw [q1.1]; exact nI_clamp (by omega)
    have e7 : (zi I (k0 + 6) os.length (nI n)) k0 7 = nI os.length := by rw [zi_ne (by omega)]; exact q1.1
    rw [ec, e7, nI_1]
    refine ⟨_, rfl, rfl, ?_, fun s hs => ?_, ?_⟩
    · exact fr_trans (fr_zi (by simp)) (fr_zi (by simp))
    · rw [zi_at, if_neg (fun z => hs z.2), zi_ne (by omega)]
    · unfold addO
      rw [if_pos h]
      refine ⟨?_, fun i o ho => ?_⟩
      · rw [zi_at, if_pos ⟨rfl, rfl⟩, List.length_append]; rfl
      · rw [zi_ne (by omega), zi_at]
        by_cases hi : i = os.length
        · subst hi
          rw [if_pos ⟨rfl, rfl⟩]
          rw [List.getElem?_append_right (Nat.le_refl _), Nat.sub_self] at ho
          cases ho; rfl
        · rw [if_neg (fun z => hi z.2)]
          refine q1.2 i o ?_
          have hlt : i < (os ++ [n]).length := by
            obtain ⟨hi, _⟩ := List.getElem?_eq_some_iff.mp ho; exact hi
          rw [List.length_append, List.length_singleton] at hlt
          rw [List.getElem?_append_left (by omega)] at ho
          exact ho
/-! a wire's rank -/
def rk (X : Nat) : Nat := fb_sm (fun j => if X.testBit (6 + j) = true then 1 else 0) 9
theorem rk_le (X : Nat) : rk X ≤ 9 := by
  have := fb_sm_bound (f := fun j => if X.testBit (6 + j) = true then 1 else 0) (c := 1) (n := 9) (fun k _ => by split <;> omega)
  unfold rk; omega
theorem fb_strict {f g : Nat → Nat} {n i : Nat} (h : ∀ k, k < n → f k ≤ g k) (hi : i < n) (hs : f i < g i) : fb_sm f n < fb_sm g n := by
  have h1 := fb_sm_upd f (g i) hi
  have h2 : fb_sm (fun k => if k = i then g i else f k) n ≤ fb_sm g n := fb_sm_le (fun k hk => by
    by_cases hki : k = i
    · subst hki; rw [if_pos rfl]; exact Nat.le_refl _
    · rw [if_neg hki]; exact h k hk)
  omega
theorem rk_lt {X Y w : Nat} (h6 : 6 ≤ w) (h15 : w < 15) (hs : ∀ m, X.testBit m = true → Y.testBit m = true) (hy : Y.testBit w = true) (hx : ¬ X.testBit w = true) : rk X < rk Y := by
  unfold rk
  refine fb_strict (i := w - 6) (fun k _ => ?_) (by omega) ?_
  · by_cases h : X.testBit (6 + k) = true
    · rw [if_pos h, if_pos (hs _ h)]; exact Nat.le_refl _
    · rw [if_neg h]; exact Nat.zero_le _
  · rw [show 6 + (w - 6) = w by omega, if_neg hx, if_pos hy]; decide
theorem rk_8 {X w : Nat} (h6 : 6 ≤ w) (h15 : w < 15) (hx : ¬ X.testBit w = true) : rk X < 9 := by
  have := rk_lt (X := X) (Y := X ||| 2 ^ w) h6 h15 (fun m hm => by rw [Nat.testBit_or, hm]; rfl) (by rw [Nat.testBit_or, Nat.testBit_two_pow_self]; simp) hx
  have := rk_le (X ||| 2 ^ w)
  omega
theorem mask_w {X : Nat} : X &&& 32704 = 64 * (X / 64 % 512) := by
  have e : (32704 : Nat) = 64 * 511 := by decide
  refine Nat.eq_of_testBit_eq (fun i => ?_)
  have h1 : (X &&& 32704).testBit i = (X.testBit i && Nat.testBit 32704 i) := Nat.testBit_and _ _ _
  rw [h1, e, show (64 : Nat) = 2 ^ 6 by decide, show (512 : Nat) = 2 ^ 9 by decide, show (511 : Nat) = 2 ^ 9 - 1 by decide, Nat.testBit_two_pow_mul, Nat.testBit_two_pow_mul, Nat.testBit_two_pow_sub_one, Nat.testBit_mod_two_pow, Nat.testBit_div_two_pow]
  by_cases h : 6 ≤ i
  · have : i - 6 + 6 = i := by omega
    rw [this]
    by_cases h2 : i - 6 < 9 <;> simp [h, h2]
  · simp [h]
theorem bc_tab : ∀ m, m < 512 → fJ6_bitCount_0f7a4 (nI (64 * m)) = nI (fb_sm (fun j => if m.testBit j = true then 1 else 0) 9) := by decide +kernel
theorem rk_bc {X : Nat} : fJ6_bitCount_0f7a4 (nI X &&& 32704) = nI (rk X) := by
  rw [nl 32704, fa_and, mask_w, bc_tab _ (Nat.mod_lt _ (by decide))]
  unfold rk
  congr 1
  refine fb_sm_cong (fun j hj => ?_)
  rw [show (512 : Nat) = 2 ^ 9 by decide, show (64 : Nat) = 2 ^ 6 by decide, Nat.testBit_mod_two_pow, Nat.testBit_div_two_pow, Nat.add_comm j 6]
  simp [hj]

