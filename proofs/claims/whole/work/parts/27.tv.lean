/-! one lane of the class is one ROW of the reference -/
def bt (v : Int64) (t : Nat) : Bool := v.toBitVec.getLsbD t
def tri (b : Bool) : Int32 := if b then 1 else 0
def RT (t : Nat) (v : Int64) (x : Int32) : Prop := x = tri (bt v t)
theorem bt_and (a b : Int64) (t : Nat) : bt (a &&& b) t = (bt a t && bt b t) := by unfold bt; rw [Int64.toBitVec_and, BitVec.getLsbD_and]
theorem bt_or (a b : Int64) (t : Nat) : bt (a ||| b) t = (bt a t || bt b t) := by unfold bt; rw [Int64.toBitVec_or, BitVec.getLsbD_or]
theorem bt_xor (a b : Int64) (t : Nat) : bt (a ^^^ b) t = (bt a t ^^ bt b t) := by unfold bt; rw [Int64.toBitVec_xor, BitVec.getLsbD_xor]
theorem bt_0 (t : Nat) : bt 0 t = false := by unfold bt; simp
theorem bt_m1 {t : Nat} (h : t < 64) : bt (-1) t = true := by
  have : ∀ t, t < 64 → bt (-1) t = true := by decide +kernel
  exact this t h
theorem bt_not {t : Nat} (a : Int64) (h : t < 64) : bt (a ^^^ (-1)) t = !(bt a t) := by rw [bt_xor, bt_m1 h]; simp
theorem RT_op {t : Nat} (ht : t < 64) : opRel (RT t) opL opT := by
  intro k a b c a' b' c' h1 h2 ha hb hc
  rcases (show k = 19 ∨ k = 20 ∨ k = 21 ∨ k = 22 ∨ k = 23 ∨ k = 24 ∨ k = 25 by omega) with rfl | rfl | rfl | rfl | rfl | rfl | rfl
  · show opT 19 a' b' c' = tri (bt 0 t); rw [bt_0]; rfl
  · show opT 20 a' b' c' = tri (bt (-1) t); rw [bt_m1 ht]; rfl
  · have e := ha (by decide); unfold RT at e; subst e
    show opT 21 _ b' c' = tri (bt (a ^^^ (-1)) t)
    rw [bt_not a ht]; cases bt a t <;> rfl
  · have e := ha (by decide); unfold RT at e; subst e
    have e := hb (by decide); unfold RT at e; subst e
    show opT 22 _ _ c' = tri (bt (a &&& b) t)
    rw [bt_and]; cases bt a t <;> cases bt b t <;> rfl
  · have e := ha (by decide); unfold RT at e; subst e
    have e := hb (by decide); unfold RT at e; subst e
    show opT 23 _ _ c' = tri (bt (a ||| b) t)
    rw [bt_or]; cases bt a t <;> cases bt b t <;> rfl
  · have e := ha (by decide); unfold RT at e; subst e
    have e := hb (by decide); unfold RT at e; subst e
    show opT 24 _ _ c' = tri (bt (a ^^^ b) t)
    rw [bt_xor]; cases bt a t <;> cases bt b t <;> rfl
  · have e := ha (by decide); unfold RT at e; subst e
    have e := hb (by decide); unfold RT at e; subst e
    have e := hc (by decide); unfold RT at e; subst e
    show opT 25 _ _ _ = tri (bt ((a &&& b) ||| ((a ^^^ (-1)) &&& c)) t)
    rw [bt_or, bt_and, bt_and, bt_not a ht]; cases bt a t <;> cases bt b t <;> cases bt c t <;> decide
/-! what a name is in a ROW, with a name STUCK or none -/
def pq (q : Option (Nat × Int32)) (w : Nat) (v : Int32) : Int32 := match q with
  | none => v
  | some (nm, y) => if w = nm then y else v
def rowS (V : zVw) (q : Option (Nat × Int32)) (x : Nat) (env : Nat → Int32) : Prop := (∀ n, n < 6 → env n = pq q n (bit (nI x) n)) ∧ (∀ n, 15 ≤ n → n < 19 → env n = pq q n (bit (nI x) (n - 9))) ∧ sol opT 0 V (pq q) 0 env
theorem rowS_one {V : zVw} (hV : okV V) {os : List Nat} (ht : topw V os) {q : Option (Nat × Int32)} {x : Nat} {e1 e2 : Nat → Int32} (h1 : rowS V q x e1) (h2 : rowS V q x e2) : ∀ n, n < 19 → e1 n = e2 n :=
  sol_rel opT_eq hV ht h1.2.2 h2.2.2 (fun _ _ _ _ _ h => by rw [h]) rfl (fun n hn hw => by
    by_cases h6 : n < 6
    · rw [h1.1 n h6, h2.1 n h6]
    · rw [h1.2.1 n (by omega) hn, h2.2.1 n (by omega) hn])
def shv (V : zVw) (env : Nat → Int32) (n : Nat) : Int32 := match V n with
  | some ks => if 15 ≤ n then ev opT env 0 ks else env n
  | none => env n
theorem shv_cong {V : zVw} (hV : okV V) {e1 e2 : Nat → Int32} (h : ∀ n, n < 19 → e1 n = e2 n) {n : Nat} (hn : n < 19) : shv V e1 n = shv V e2 n := by
  unfold shv
  cases hv : V n with
  | none => exact h n hn
  | some ks =>
    simp only
    by_cases h15 : 15 ≤ n
    · rw [if_pos h15, if_pos h15]
      exact ev_rel opT_eq (hV n ks hv).2.2 (fun k _ hk => h k hk) 0 0
    · rw [if_neg h15, if_neg h15]; exact h n hn
noncomputable def tvE (V : zVw) (q : Option (Nat × Int32)) (x : Nat) : Nat → Int32 := Classical.epsilon (fun env => rowS V q x env)
noncomputable def tv (V : zVw) (q : Option (Nat × Int32)) (x n : Nat) : Int32 := shv V (tvE V q x) n
theorem tv_eq {V : zVw} (hV : okV V) {os : List Nat} (ht : topw V os) {q : Option (Nat × Int32)} {x : Nat} {env : Nat → Int32} (h : rowS V q x env) {n : Nat} (hn : n < 19) : tv V q x n = shv V env n := by
  have h2 : rowS V q x (tvE V q x) := Classical.epsilon_spec (p := fun env => rowS V q x env) ⟨env, h⟩
  exact shv_cong hV (rowS_one hV ht h2 h) hn
theorem RT_fun {t : Nat} {v : Int64} {x y : Int32} (h : RT t v x) (h2 : RT t v y) : x = y := by unfold RT at h h2; rw [h, h2]
/-- a lane's values -/
theorem lane_row {L K : Nat → Nat → Int64} {k0 : Nat} {V : zVw} {b : Nat → Int64} {t x : Nat} {q : Option (Nat × Int32)} (ht : t < 64) (hV : okV V) (h : evL L K k0 V b) (hb : ∀ n, n < 19 → ¬ (6 ≤ n ∧ n < 15) → RT t (b n) (bit (nI x) (if n < 6 then n else n - 9))) (hs : ∀ n, n < 19 → ∀ v y, RT t v y → RT t (stkL L k0 n v) (pq q n y)) : rowS V q x (fun n => tri (bt (K (k0 + 1) n) t)) := by
  obtain ⟨-, h2, h3, -⟩ := h
  refine ⟨fun n hn => ?_, fun n h15 hn => ?_, fun w h6 h15 => ?_⟩
  · have := hs n (by omega) _ _ (hb n (by omega) (by omega))
    rw [if_pos hn] at this
    show tri (bt (K (k0 + 1) n) t) = _
    rw [h2 n (by omega) (by omega)]
    exact this.symm
  · have := hs n (by omega) _ _ (hb n (by omega) (by omega))
    rw [if_neg (by omega)] at this
    show tri (bt (K (k0 + 1) n) t) = _
    rw [h2 n (by omega) (by omega)]
    exact this.symm
  · show tri (bt (K (k0 + 1) w) t) = _
    rw [h3 w h6 h15]
    cases hv : V w with
    | none => exact (hs w (by omega) _ _ (show RT t 0 0 by unfold RT; rw [bt_0]; rfl)).symm
    | some ks => exact (hs w (by omega) _ _ (ev_rel (RT_op ht) (hV w ks hv).2.2 (fun k _ _ => rfl) 0 0)).symm
theorem lane_tv {L K : Nat → Nat → Int64} {k0 : Nat} {V : zVw} {b : Nat → Int64} {t x : Nat} {q : Option (Nat × Int32)} (ht : t < 64) (hV : okV V) {os : List Nat} (hto : topw V os) (h : evL L K k0 V b) (hb : ∀ n, n < 19 → ¬ (6 ≤ n ∧ n < 15) → RT t (b n) (bit (nI x) (if n < 6 then n else n - 9))) (hs : ∀ n, n < 19 → ∀ v y, RT t v y → RT t (stkL L k0 n v) (pq q n y)) {n : Nat} (hn : n < 19) (hq : (V n).isSome = true ∨ q = none) : RT t (K (k0 + 2) n) (tv V q x n) := by
  have hr := lane_row ht hV h hb hs
  rw [tv_eq hV hto hr hn, h.2.2.2 n hn]
  unfold shw shv
  cases hv : V n with
  | some ks =>
    simp only
    by_cases hw : 6 ≤ n ∧ n < 15
    · rw [if_pos hw, if_neg (by omega)]; rfl
    · have h15 : 15 ≤ n := by have := (hV n ks hv).1; omega
      rw [if_neg hw, if_pos h15]
      exact ev_rel (RT_op ht) (hV n ks hv).2.2 (fun k _ _ => rfl) 0 0
  | none =>
    rcases hq with hq | hq
    · rw [hv] at hq; cases hq
    · subst hq
      simp only
      by_cases hw : 6 ≤ n ∧ n < 15
      · have e := hr.2.2 n hw.1 hw.2
        rw [hv] at e
        rw [if_pos hw]
        have e2 : tri (bt (K (k0 + 1) n) t) = 0 := e
        rw [e2]
        show (0 : Int32) = tri (bt 0 t)
        rw [bt_0]; rfl
      · rw [if_neg hw]
        by_cases h6 : n < 6
        · have := hb n hn hw
          rw [if_pos h6] at this
          have e : tri (bt (K (k0 + 1) n) t) = _ := hr.1 n h6
          rw [e]; exact this
        · have := hb n hn hw
          rw [if_neg h6] at this
          have e : tri (bt (K (k0 + 1) n) t) = _ := hr.2.1 n (by omega) hn
          rw [e]; exact this
/-! the three ways in which lanes are STUCK -/
theorem stk_none {L : Nat → Nat → Int64} {k0 t : Nat} (ht : t < 64) (h : ∀ n, n < 19 → L (k0 + 3) n = 0 ∧ L (k0 + 4) n = 0) : ∀ n, n < 19 → ∀ v y, RT t v y → RT t (stkL L k0 n v) (pq none n y) := by
  intro n hn v y hv
  unfold RT stkL at *
  rw [(h n hn).1, (h n hn).2, bt_or, bt_and, bt_not _ ht, bt_0]
  show y = _
  rw [hv]; simp
theorem stk_one {L : Nat → Nat → Int64} {k0 t nm : Nat} {w : Int32} (ht : t < 64) (hw : w = 0 ∨ w = 1) (h : ∀ n, n < 19 → (L (k0 + 3) n = if n = nm ∧ w = 0 then -1 else 0) ∧ (L (k0 + 4) n = if n = nm ∧ ¬ w = 0 then -1 else 0)) : ∀ n, n < 19 → ∀ v y, RT t v y → RT t (stkL L k0 n v) (pq (some (nm, w)) n y) := by
  intro n hn v y hv
  unfold RT stkL pq at *
  rw [(h n hn).1, (h n hn).2, bt_or, bt_and, bt_not _ ht]
  by_cases hnm : n = nm
  · rcases hw with rfl | rfl
    · simp [hnm, bt_m1 ht, bt_0]; rfl
    · simp [hnm, bt_m1 ht, bt_0]; rfl
  · simp [hnm, bt_0, hv]
def stkE (L : Nat → Nat → Int64) (k0 : Nat) : Prop := ∀ n, n < 19 → L (k0 + 3) n = (1 : Int64) <<< (((2 : Int32) * nI n).toInt64 &&& 63) ∧ L (k0 + 4) n = (2 : Int64) <<< (((2 : Int32) * nI n).toInt64 &&& 63)
def qOf (t : Nat) : Option (Nat × Int32) := if t < 38 then some (t / 2, nI (t % 2)) else none
theorem stkE_bits {n t : Nat} (hn : n < 19) (ht : t < 64) : bt ((1 : Int64) <<< (((2 : Int32) * nI n).toInt64 &&& 63)) t = decide (t = 2 * n) ∧ bt ((2 : Int64) <<< (((2 : Int32) * nI n).toInt64 &&& 63)) t = decide (t = 2 * n + 1) := by
  have : ∀ n, n < 19 → ∀ t, t < 64 → bt ((1 : Int64) <<< (((2 : Int32) * nI n).toInt64 &&& 63)) t = decide (t = 2 * n) ∧ bt ((2 : Int64) <<< (((2 : Int32) * nI n).toInt64 &&& 63)) t = decide (t = 2 * n + 1) := by decide +kernel
  exact this n hn t ht
theorem stk_each {L : Nat → Nat → Int64} {k0 t : Nat} (ht : t < 64) (h : stkE L k0) : ∀ n, n < 19 → ∀ v y, RT t v y → RT t (stkL L k0 n v) (pq (qOf t) n y) := by
  intro n hn v y hv
  unfold RT stkL at *
  obtain ⟨b1, b2⟩ := stkE_bits hn ht
  rw [(h n hn).1, (h n hn).2, bt_or, bt_and, bt_not _ ht, b1, b2]
  unfold qOf pq
  by_cases h38 : t < 38
  · rw [if_pos h38]
    simp only
    by_cases hnt : n = t / 2
    · rw [if_pos hnt]
      rcases (show t % 2 = 0 ∨ t % 2 = 1 by omega) with hm | hm
      · have e1 : t = 2 * n := by omega
        have e2 : ¬ t = 2 * n + 1 := by omega
        rw [hm]; simp [e1]; rfl
      · have e1 : t = 2 * n + 1 := by omega
        rw [hm]; simp [e1]; rfl
    · rw [if_neg hnt]
      have e1 : ¬ t = 2 * n := by omega
      have e2 : ¬ t = 2 * n + 1 := by omega
      simp [e1, e2, hv]
  · rw [if_neg h38]
    have e1 : ¬ t = 2 * n := by omega
    have e2 : ¬ t = 2 * n + 1 := by omega
    simp [e1, e2, hv]
/-! inputs and registers of a lane -/
theorem bit_n {x j : Nat} (hx : x < 2 ^ 31) (hj : j < 32) : bit (nI x) j = tri (x.testBit j) := by
  unfold bit
  rw [nI_bit hx hj, Nat.testBit_eq_decide_div_mod_eq]
  rcases (show x / 2 ^ j % 2 = 0 ∨ x / 2 ^ j % 2 = 1 by omega) with h | h <;> rw [h] <;> rfl
theorem inAll_bt {x j t : Nat} (hx : x < 2 ^ 31) (hj : j < 32) (ht : t < 64) : bt (fX4_inAllLanes (nI x >>> (nI j &&& 31))) t = x.testBit j := by
  unfold fX4_inAllLanes
  rw [nI_bit hx hj, Nat.testBit_eq_decide_div_mod_eq]
  rcases (show x / 2 ^ j % 2 = 0 ∨ x / 2 ^ j % 2 = 1 by omega) with h | h <;> rw [h]
  · rw [show -(nI 0).toInt64 = 0 by decide, bt_0]; rfl
  · rw [show -(nI 1).toInt64 = -1 by decide, bt_m1 ht]; rfl
def inL (n : Nat) : Int64 := ([-6148914691236517206, -3689348814741910324, -1085102592571150096, -71777214294589696, -281470681808896, -4294967296] : List Int64).getD n 0
theorem inL_bt {n t : Nat} (hn : n < 6) (ht : t < 64) : bt (inL n) t = t.testBit n := by
  have : ∀ n, n < 6 → ∀ t, t < 64 → bt (inL n) t = t.testBit n := by decide +kernel
  exact this n hn t ht
theorem tb_hi {s t j : Nat} (ht : t < 64) : (64 * s + t).testBit (6 + j) = s.testBit j := by
  rw [show 64 * s + t = 2 ^ 6 * s + t by omega, Nat.testBit_two_pow_mul_add s (by omega), if_neg (by omega), show 6 + j - 6 = j by omega]
theorem tb_lo {s t j : Nat} (ht : t < 64) (hj : j < 6) : (64 * s + t).testBit j = t.testBit j := by
  rw [show 64 * s + t = 2 ^ 6 * s + t by omega, Nat.testBit_two_pow_mul_add s (by omega), if_pos hj]
theorem hb_state {L : Nat → Nat → Int64} (hL : ∀ n, n < 6 → L 1 n = inL n) {s t : Nat} (hs : s < 16) (ht : t < 64) : ∀ n, n < 19 → ¬ (6 ≤ n ∧ n < 15) → RT t (bSt L (nI s) n) (bit (nI (64 * s + t)) (if n < 6 then n else n - 9)) := by
  intro n hn hw
  unfold RT bSt
  by_cases h6 : n < 6
  · rw [if_pos h6, if_pos h6, bit_n (by omega) (by omega), hL n h6, inL_bt h6 ht, tb_lo ht h6]
  · rw [if_neg h6, if_neg h6, bit_n (by omega) (by omega), inAll_bt (by omega) (by omega) ht, show n - 9 = 6 + (n - 15) by omega, tb_hi ht]
theorem hb_row {x t : Nat} (hx : x < 2 ^ 31) (ht : t < 64) : ∀ n, n < 19 → ¬ (6 ≤ n ∧ n < 15) → RT t (bRw (nI x) n) (bit (nI x) (if n < 6 then n else n - 9)) := by
  intro n hn hw
  unfold RT bRw
  by_cases h6 : n < 6
  · rw [if_pos h6, if_pos h6, bit_n hx (by omega), inAll_bt hx (by omega) ht]
  · rw [if_neg h6, if_neg h6, bit_n hx (by omega), inAll_bt hx (by omega) ht]
/-! the reference's ROW -/
theorem ref_row {I J : Nat → Nat → Int32} {V : zVw} {x : Nat} {q : Option (Nat × Int32)} (h : rRow I J V (nI x)) (hq : ∀ w y, w < 19 → pstR I w y = pq q w y) : rowS V q x (usR J) := by
  obtain ⟨h1, h2, h3, h4, h5⟩ := h
  refine ⟨fun n hn => ?_, fun n h15 hn => ?_, fun w h6 h15 => ?_⟩
  · rw [usR_p h1, hq n _ (by omega), h2 n hn]
  · rw [usR_p h1, hq n _ (by omega), h3 n h15 hn]
  · rw [h4 w h6 h15, hq w _ (by omega)]
theorem pq_none {I : Nat → Nat → Int32} (h : I 115 18 = -4) : ∀ w y, w < 19 → pstR I w y = pq none w y := by
  intro w y hw
  unfold pstR pq
  rw [h, if_neg]
  intro z
  have := congrArg Int32.toInt z
  rw [nI_toInt (by omega)] at this
  have h4 : (-4 : Int32).toInt = -4 := by decide
  rw [h4] at this; omega
theorem pq_some {I : Nat → Nat → Int32} {nm : Nat} {v : Int32} (hn : nm < 19) (h : I 115 18 = nI nm) (h2 : I 115 19 = v) : ∀ w y, w < 19 → pstR I w y = pq (some (nm, v)) w y := by
  intro w y hw
  unfold pstR pq
  rw [h, h2]
  by_cases hwn : w = nm
  · subst hwn; simp
  · rw [if_neg (fun z => hwn (nI_inj (by omega) (by omega) z))]; simp [hwn]
/-- told() is the value, when nothing is STUCK -/
theorem told_tv {I J : Nat → Nat → Int32} {V : zVw} (hV : okV V) {os : List Nat} (hto : topw V os) {x : Nat} (h : rRow I J V (nI x)) (hq : I 115 18 = -4) {n : Nat} (hn : n < 19) : tolR J V n = tv V none x n := by
  have hr := ref_row h (pq_none hq)
  rw [tv_eq hV hto hr hn]
  have hu : ∀ m, m < 19 → usR J m = J 130 m := fun m hm => by rw [usR_p h.1, pq_none hq m _ hm]; rfl
  unfold tolR shv
  by_cases h15 : 15 ≤ n
  · rw [if_pos h15]
    cases V n with
    | none => simp only; rw [hu n hn]
    | some ks => simp only; rw [if_pos h15]
  · rw [if_neg h15]
    cases V n with
    | none => simp only; rw [hu n hn]
    | some ks => simp only; rw [if_neg h15, hu n hn]

