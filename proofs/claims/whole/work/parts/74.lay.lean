/-! the first of those with the least WIRE -/
def lex (B : Nat) (q q' : Nat → Nat) : Prop := ∃ i, i < B ∧ (∀ j, j < i → q j = q' j) ∧ q i < q' i
def bef (b : Nat) (q q' : Nat → Nat) : Prop := ∃ i, i < b ∧ (∀ j, j < i → q' j = q j) ∧ q' i < q i
def Bst (B M : Nat) (nb : Nat → Nat) (W0 : Nat) (S : (Nat → Nat) → Prop) (W : Nat) (lp : Nat → Nat) : Prop := (W = W0 ∧ ∀ q, okA B q → ¬ S q) ∨ (okA B lp ∧ S lp ∧ wa B M nb lp = W ∧ ∀ q, okA B q → S q → (W < wa B M nb q ∨ (W = wa B M nb q ∧ ((∀ j, j < B → lp j = q j) ∨ lex B lp q))))
theorem Bst_set {B M : Nat} {nb : Nat → Nat} {W0 W : Nat} {S T : (Nat → Nat) → Prop} {lp : Nat → Nat} (h : Bst B M nb W0 S W lp) (he : ∀ q, okA B q → (S q ↔ T q)) : Bst B M nb W0 T W lp := by
  rcases h with ⟨a, b⟩ | ⟨a, b, c, d⟩
  · exact Or.inl ⟨a, fun q hq z => b q hq ((he q hq).mpr z)⟩
  · exact Or.inr ⟨a, (he lp a).mp b, c, fun q hq z => d q hq ((he q hq).mpr z)⟩
/-- what can't be less, and comes behind, changes nothing -/
theorem Bst_more {B M : Nat} {nb : Nat → Nat} {W0 W : Nat} {S T : (Nat → Nat) → Prop} {lp : Nat → Nat} (h : Bst B M nb W0 S W lp) (hs : ∀ q, S q → T q) (hw : W = W0 → ∀ q, okA B q → ¬ (T q ∧ ¬ S q)) (ht : ∀ q, okA B q → T q → ¬ S q → W ≤ wa B M nb q) (hl : ∀ q q', okA B q → S q → T q' → ¬ S q' → lex B q q') : Bst B M nb W0 T W lp := by
  rcases h with ⟨a, b⟩ | ⟨a, b, c, d⟩
  · exact Or.inl ⟨a, fun q hq z => hw a q hq ⟨z, b q hq⟩⟩
  · refine Or.inr ⟨a, hs lp b, c, fun q hq z => ?_⟩
    by_cases hS : S q
    · exact d q hq hS
    · have h1 := ht q hq z hS
      by_cases h2 : W = wa B M nb q
      · exact Or.inr ⟨h2, Or.inr (hl lp q a b z hS)⟩
      · exact Or.inl (by omega)
/-- one that is less is the best -/
theorem Bst_new {B M : Nat} {nb : Nat → Nat} {W0 W : Nat} {S T : (Nat → Nat) → Prop} {lp q : Nat → Nat} (h : Bst B M nb W0 S W lp) (hq : okA B q) (hw : wa B M nb q < W) (hT : ∀ q', okA B q' → (T q' ↔ S q' ∨ ∀ j, j < B → q j = q' j)) : Bst B M nb W0 T (wa B M nb q) q := by
  refine Or.inr ⟨hq, (hT q hq).mpr (Or.inr (fun _ _ => rfl)), rfl, fun q' hq' z => ?_⟩
  rcases (hT q' hq').mp z with hS | hE
  · rcases h with ⟨a, b⟩ | ⟨a, b, c, d⟩
    · exact absurd hS (b q' hq')
    · have := d q' hq' hS
      exact Or.inl (by omega)
  · exact Or.inr ⟨wa_cong hE, Or.inl hE⟩
def qy (b y : Nat) (q : Nat → Nat) (j : Nat) : Nat := if j = b then y else q j
theorem qy_b (b y : Nat) (q : Nat → Nat) : qy b y q b = y := if_pos rfl
theorem qy_n {b y : Nat} {q : Nat → Nat} {j : Nat} (h : j ≠ b) : qy b y q j = q j := if_neg h
theorem bef_s {b : Nat} {q q' : Nat → Nat} {y : Nat} : bef (b + 1) (qy b y q) q' ↔ bef b q q' ∨ (ext b q q' ∧ q' b < y) := by
  constructor
  · rintro ⟨i, h1, h2, h3⟩
    by_cases hib : i = b
    · subst hib
      rw [qy_b] at h3
      exact Or.inr ⟨fun j hj => by have := h2 j hj; rw [qy_n (by omega)] at this; exact this, h3⟩
    · rw [qy_n hib] at h3
      exact Or.inl ⟨i, by omega, fun j hj => by have := h2 j hj; rw [qy_n (by omega)] at this; exact this, h3⟩
  · rintro (⟨i, h1, h2, h3⟩ | ⟨h2, h3⟩)
    · exact ⟨i, by omega, fun j hj => by rw [qy_n (by omega)]; exact h2 j hj, by rw [qy_n (by omega)]; exact h3⟩
    · exact ⟨b, by omega, fun j hj => by rw [qy_n (by omega)]; exact h2 j hj, by rw [qy_b]; exact h3⟩
theorem ext_s {b : Nat} {q q' : Nat → Nat} {y : Nat} : ext (b + 1) (qy b y q) q' ↔ ext b q q' ∧ q' b = y := by
  constructor
  · intro h
    refine ⟨fun j hj => ?_, ?_⟩
    · have := h j (by omega); rw [qy_n (by omega)] at this; exact this
    · have := h b (by omega); rw [qy_b] at this; exact this
  · rintro ⟨h, h2⟩ j hj
    by_cases hjb : j = b
    · rw [hjb, qy_b]; exact h2
    · rw [qy_n hjb]; exact h j (by omega)
theorem pm_all {p q : Nat → Nat} {X Y : Nat} : ∀ {n : Nat}, (∀ j, j < n → X.testBit j = Y.testBit j ∧ p j = q j) → pm p X n = pm q Y n
  | 0, _ => rfl
  | n + 1, h => by rw [pm, pm, pm_all (fun j hj => h j (by omega)), (h n (by omega)).1, (h n (by omega)).2]
theorem pm_qy {b y : Nat} {q : Nat → Nat} {X : Nat} : pm (qy b y q) X (b + 1) = if X.testBit b = true then pm q X b ||| 2 ^ y else pm q X b := by
  rw [pm, qy_b, pm_cong (p := qy b y q) (q := q) (fun j hj => qy_n (by omega))]
theorem pm_qyA {b y : Nat} {q : Nat → Nat} : pm (qy b y q) (2 ^ (b + 1) - 1) (b + 1) = pm q (2 ^ b - 1) b ||| 2 ^ y := by
  rw [pm_qy, if_pos (by rw [Nat.testBit_two_pow_sub_one]; exact decide_eq_true (by omega))]
  congr 1
  exact pm_all (fun j hj => ⟨by
    rw [Nat.testBit_two_pow_sub_one, Nat.testBit_two_pow_sub_one, decide_eq_true (show j < b + 1 by omega), decide_eq_true hj], rfl⟩)
theorem okA_qy {b y : Nat} {q : Nat → Nat} (h : okA b q) (hy : y < 8) (hf : ∀ j, j < b → q j ≠ y) : okA (b + 1) (qy b y q) := by
  refine ⟨fun j hj => ?_, fun i j hi hj e => ?_⟩
  · by_cases hjb : j = b
    · rw [hjb, qy_b]; exact hy
    · rw [qy_n hjb]; exact h.1 j (by omega)
  · by_cases hib : i = b
    · by_cases hjb : j = b
      · omega
      · rw [hib, qy_b, qy_n hjb] at e; exact absurd e.symm (hf j (by omega))
    · by_cases hjb : j = b
      · rw [hjb, qy_b, qy_n hib] at e; exact absurd e (hf i (by omega))
      · rw [qy_n hib, qy_n hjb] at e; exact h.2 i j (by omega) (by omega) e
theorem bef_lex {B b : Nat} {q a c : Nat → Nat} (hb : b ≤ B) (ha : bef b q a) (hc : ext b q c) : lex B a c := by
  obtain ⟨i, h1, h2, h3⟩ := ha
  exact ⟨i, by omega, fun j hj => by rw [h2 j hj, hc j (by omega)], by rw [hc i h1]; exact h3⟩
theorem bef_ext {b : Nat} {q c : Nat → Nat} (h : bef b q c) (h2 : ext b q c) : False := by
  obtain ⟨i, h1, h3, h4⟩ := h
  have := h2 i h1
  omega
def lyS (I : Nat → Nat → Int32) (B M : Nat) (nb : Nat → Nat) : Prop := (I 67 2 = nI B ∧ B ≤ 7) ∧ (I 67 3 = nI M ∧ M ≤ 8) ∧ (∀ k, k < M → I 69 k = nI (nb k) ∧ nb k < 2 ^ B) ∧ lsc I
def lyB (I : Nat → Nat → Int32) (B M : Nat) (nb : Nat → Nat) (S : (Nat → Nat) → Prop) (W : Nat) (lp : Nat → Nat) : Prop := I 67 5 = nI W ∧ W ≤ 1000 ∧ Bst B M nb 1000 S W lp ∧ ∀ j, j < B → I 70 j = nI (lp j)
def lyP (I : Nat → Nat → Int32) (M : Nat) (nb q : Nat → Nat) (b : Nat) : Prop := okA b q ∧ (∀ j, j < b → I 71 j = nI (q j)) ∧ ∀ k, k < M → I 72 k = nI (pm q (nb k) b)
def lyF (B b : Nat) (q q' : Nat → Nat) : Prop := bef b q q' ∨ (ext b q q' ∧ (b = 0 → 0 < B → q' 0 < 2))
def lyR (I J : Nat → Nat → Int32) (M b : Nat) : Prop := fr [67, 70, 71, 72] I J ∧ (∀ s, s ≠ 5 → J 67 s = I 67 s) ∧ (∀ j, j < b → J 71 j = I 71 j) ∧ ∀ k, J 72 k = I 72 k
abbrev RX1_layFrom (zn d : Nat) (post : zP) : zK := zRun (zcal zty zcd false (d + 3)) kX1_layFrom (zLM zn) post
theorem eX1_layFrom {zn d : Nat} {post : zP} (x1 : Int32) (x2 : Int32) (I : Nat → Nat → Int32) (L : Nat → Nat → Int64) (h : RX1_layFrom zn d post 0 [some (.ref 67), some (.int x1), some (.int x2), none, none] [] (zSH zn, I, L)) : zcal zty zcd false (d + 4) 15 [.ref 67, .int x1, .int x2] (zSH zn, I, L) 0 0 post := zcal_of (d := d + 3) zmt15 zmc15 rfl (Nat.le_of_ble_eq_true rfl) h
theorem gX1_layFrom_0 {zn d : Nat} {post : zP} (x1 : Int32) (x2 : Int32) (I : Nat → Nat → Int32) (L : Nat → Nat → Int64) (h : ((I 67 2) ≤ x1 → (∃ (M3 : Nat) (nb4 : Nat → Nat) (S5 : Nat → Nat), (I 67 3 = nI M3 ∧ M3 ≤ 8) ∧ (ntC I 69 M3 nb4) ∧ (∀ k, k < M3 → I 72 k = nI (S5 k) ∧ S5 k < 256) ∧ (lsc I) ∧ (post none (zSH zn, (zcp (zi I 67 5 (nI (wtc M3 nb4 S5))) 71 70 (0 : Int32) (0 : Int32) (7 : Int32)), L)))) ∧ (¬ (I 67 2) ≤ x1 → (x1 < (7 : Int32) → RX1_layFrom zn d post 52 [some (.ref 67), some (.int x1), some (.int x2), some (.int (if x1 = 0 then (2 : Int32) else (8 : Int32))), some (.int (0 : Int32))] [] (zSH zn, I, L)) ∧ (¬ x1 < (7 : Int32) → (∃ (M13 : Nat) (nb14 : Nat → Nat) (S15 : Nat → Nat), (I 67 3 = nI M13 ∧ M13 ≤ 8) ∧ (ntC I 69 M13 nb14) ∧ (∀ k, k < M13 → I 72 k = nI (S15 k) ∧ S15 k < 256) ∧ (lsc I) ∧ (post none (zSH zn, (zcp (zi I 67 5 (nI (wtc M13 nb14 S15))) 71 70 (0 : Int32) (0 : Int32) (7 : Int32)), L)))))) : RX1_layFrom zn d post 0 [some (.ref 67), some (.int x1), some (.int x2), none, none] [] (zSH zn, I, L) := fun P hw hc => hc _ tX1_layFrom_0 _ _ _ (hc _ tX1_layFrom_1 _ _ _ (hc _ tX1_layFrom_2 _ _ _ (⟨_, sh67, (by decide), hc _ tX1_layFrom_5 _ _ _ (⟨fun c1 => hc _ tX1_layFrom_14 _ _ _ (hc _ tX1_layFrom_15 _ _ _ ((by obtain ⟨M3, nb4, S5, hg6⟩ := (h.1 c1); exact hc _ tX1_layFrom_16 _ _ _ (⟨⟨_, _, _, rfl, (by decide), sh67⟩, ⟨Nat.le_of_ble_eq_true rfl, Nat.le_of_ble_eq_true rfl, zl1, zl2, _, ctX1_wireToCome I L M3 nb4 S5 hg6.1 hg6.2.1 hg6.2.2.1 hg6.2.2.2.1, fun r u k7 => by obtain ⟨rfl, rfl⟩ := k7; exact ⟨zl3, zl4, hc _ tX1_layFrom_19 _ _ _ (⟨_, sh67, (by decide), nofun, hc _ tX1_layFrom_22 _ _ _ (hc _ tX1_layFrom_23 _ _ _ (⟨_, _, sh67, (by decide), rfl, hc _ tX1_layFrom_26 _ _ _ (hc _ tX1_layFrom_27 _ _ _ (hc _ tX1_layFrom_28 _ _ _ (⟨_, _, sh67, (by decide), rfl, hc _ tX1_layFrom_31 _ _ _ (hc _ tX1_layFrom_32 _ _ _ (hc _ tX1_layFrom_34 _ _ _ (⟨_, _, _, _, sh71, (by decide), sh70, (by decide), by decide, by decide, by decide, by decide, by decide, Nat.le_of_ble_eq_true rfl, hc _ tX1_layFrom_37 _ _ _ (⟨rfl, rfl, hg6.2.2.2.2⟩)⟩)))⟩)))⟩))⟩)⟩⟩⟩)))), fun c2 => hc _ tX1_layFrom_8 _ _ _ (hc _ tX1_layFrom_9 _ _ _ (hc _ tX1_layFrom_11 _ _ _ (⟨fun c8 => hc _ tX1_layFrom_38 _ _ _ ((have r12 : P 48 [some (.ref 67), some (.int x1), some (.int x2), none, none] [.int (if x1 = 0 then (2 : Int32) else (8 : Int32))] (zSH zn, I, L) := hc _ tX1_layFrom_48 _ _ _ (hc _ tX1_layFrom_49 _ _ _ (hc _ tX1_layFrom_50 _ _ _ (((h.2 c2).1 c8) P hw hc))); hc _ tX1_layFrom_39 _ _ _ (⟨fun c10 => hc _ tX1_layFrom_46 _ _ _ ((zmg_f (fun z_ : Int32 => P 48 [some (.ref 67), some (.int x1), some (.int x2), none, none] [.int z_] (zSH zn, I, L)) c10 r12)), fun c11 => hc _ tX1_layFrom_42 _ _ _ (hc _ tX1_layFrom_43 _ _ _ ((zmg_t (fun z_ : Int32 => P 48 [some (.ref 67), some (.int x1), some (.int x2), none, none] [.int z_] (zSH zn, I, L)) c11 r12)))⟩))), fun c9 => hc _ tX1_layFrom_14 _ _ _ (hc _ tX1_layFrom_15 _ _ _ ((by obtain ⟨M13, nb14, S15, hg16⟩ := ((h.2 c2).2 c9); exact hc _ tX1_layFrom_16 _ _ _ (⟨⟨_, _, _, rfl, (by decide), sh67⟩, ⟨Nat.le_of_ble_eq_true rfl, Nat.le_of_ble_eq_true rfl, zl1, zl2, _, ctX1_wireToCome I L M13 nb14 S15 hg16.1 hg16.2.1 hg16.2.2.1 hg16.2.2.2.1, fun r u k17 => by obtain ⟨rfl, rfl⟩ := k17; exact ⟨zl3, zl4, hc _ tX1_layFrom_19 _ _ _ (⟨_, sh67, (by decide), nofun, hc _ tX1_layFrom_22 _ _ _ (hc _ tX1_layFrom_23 _ _ _ (⟨_, _, sh67, (by decide), rfl, hc _ tX1_layFrom_26 _ _ _ (hc _ tX1_layFrom_27 _ _ _ (hc _ tX1_layFrom_28 _ _ _ (⟨_, _, sh67, (by decide), rfl, hc _ tX1_layFrom_31 _ _ _ (hc _ tX1_layFrom_32 _ _ _ (hc _ tX1_layFrom_34 _ _ _ (⟨_, _, _, _, sh71, (by decide), sh70, (by decide), by decide, by decide, by decide, by decide, by decide, Nat.le_of_ble_eq_true rfl, hc _ tX1_layFrom_37 _ _ _ (⟨rfl, rfl, hg16.2.2.2.2⟩)⟩)))⟩)))⟩))⟩)⟩⟩⟩))))⟩)))⟩)⟩)))
theorem gX1_layFrom_52 {zn d : Nat} {post : zP} (x1 : Int32) (x2 : Int32) (x3 : Int32) (x4 : Int32) (I : Nat → Nat → Int32) (L : Nat → Nat → Int64) (nrec : Nat) (hrec : ∀ (x1 : Int32) (x2 : Int32) (I : Nat → Nat → Int32) (L : Nat → Nat → Int64) (B : Nat) (M : Nat) (nb : Nat → Nat) (q : Nat → Nat) (b : Nat) (W : Nat) (lp : Nat → Nat) (q0 : lyS I B M nb) (q1 : lyP I M nb q b) (q2 : x1 = nI b ∧ b ≤ B) (q3 : x2 = nI (pm q (2 ^ b - 1) b)) (q4 : lyB I B M nb (bef b q) W lp) (q5 : wtc M nb (fun k => pm q (nb k) b) < W) (q99 : B - b = nrec), zcal zty zcd false (d + 3) 15 [.ref 67, .int x1, .int x2] (zSH zn, I, L) 0 0 (fun r u => ∃ (J : Nat → Nat → Int32), ∃ (V : Nat), ∃ (mp : Nat → Nat), r = none ∧ u = (zSH zn, J, L) ∧ (lyR I J M b ∧ lyB J B M nb (lyF B b q) V mp))) (h : (x3 ≤ x4 → post none (zSH zn, I, L)) ∧ (¬ x3 ≤ x4 → ((¬ (x2 >>> (x4 &&& 31)) &&& 1 = 0) → RX1_layFrom zn d post 52 [some (.ref 67), some (.int x1), some (.int x2), some (.int x3), some (.int (x4 + (1 : Int32)))] [] (zSH zn, I, L)) ∧ (¬ ((¬ (x2 >>> (x4 &&& 31)) &&& 1 = 0)) → vp_in x1 7 ∧ ((∃ (M6 : Nat) (nb7 : Nat → Nat) (S8 : Nat → Nat) (b9 : Nat) (y10 : Nat), ((zi I 71 (x1).toNatClampNeg x4) 67 3 = nI M6 ∧ M6 ≤ 8) ∧ (ntC (zi I 71 (x1).toNatClampNeg x4) 69 M6 nb7) ∧ (∀ k, k < M6 → (zi I 71 (x1).toNatClampNeg x4) 72 k = nI (S8 k)) ∧ (x1 = nI b9 ∧ b9 < 7) ∧ (x4 = nI y10 ∧ y10 < 8) ∧ (∀ (J5 : Nat → Nat → Int32), (fr [72] (zi I 71 (x1).toNatClampNeg x4) J5 ∧ (∀ k, k < M6 → J5 72 k = nI (if (nb7 k).testBit b9 = true then S8 k ^^^ 2 ^ y10 else S8 k)) ∧ ∀ k, M6 ≤ k → J5 72 k = (zi I 71 (x1).toNatClampNeg x4) 72 k) → (∃ (M13 : Nat) (nb14 : Nat → Nat) (S15 : Nat → Nat), (J5 67 3 = nI M13 ∧ M13 ≤ 8) ∧ (ntC J5 69 M13 nb14) ∧ (∀ k, k < M13 → J5 72 k = nI (S15 k) ∧ S15 k < 256) ∧ (lsc J5) ∧ (((J5 67 5) ≤ (nI (wtc M13 nb14 S15)) → (∃ (M20 : Nat) (nb21 : Nat → Nat) (S22 : Nat → Nat) (b23 : Nat) (y24 : Nat), (J5 67 3 = nI M20 ∧ M20 ≤ 8) ∧ (ntC J5 69 M20 nb21) ∧ (∀ k, k < M20 → J5 72 k = nI (S22 k)) ∧ (x1 = nI b23 ∧ b23 < 7) ∧ (x4 = nI y24 ∧ y24 < 8) ∧ (∀ (J19 : Nat → Nat → Int32), (fr [72] J5 J19 ∧ (∀ k, k < M20 → J19 72 k = nI (if (nb21 k).testBit b23 = true then S22 k ^^^ 2 ^ y24 else S22 k)) ∧ ∀ k, M20 ≤ k → J19 72 k = J5 72 k) → RX1_layFrom zn d post 52 [some (.ref 67), some (.int x1), some (.int x2), some (.int x3), some (.int (x4 + (1 : Int32)))] [] (zSH zn, J19, L)))) ∧ (¬ (J5 67 5) ≤ (nI (wtc M13 nb14 S15)) → (∃ (B31 : Nat) (M32 : Nat) (nb33 : Nat → Nat) (q34 : Nat → Nat) (b35 : Nat) (W36 : Nat) (lp37 : Nat → Nat), (lyS J5 B31 M32 nb33) ∧ (lyP J5 M32 nb33 q34 b35) ∧ ((x1 + (1 : Int32)) = nI b35 ∧ b35 ≤ B31) ∧ ((x2 ||| ((1 : Int32) <<< (x4 &&& 31))) = nI (pm q34 (2 ^ b35 - 1) b35)) ∧ (lyB J5 B31 M32 nb33 (bef b35 q34) W36 lp37) ∧ (wtc M32 nb33 (fun k => pm q34 (nb33 k) b35) < W36) ∧ (B31 - b35 = nrec) ∧ (∀ (J28 : Nat → Nat → Int32) (V29 : Nat) (mp30 : Nat → Nat), (lyR J5 J28 M32 b35 ∧ lyB J28 B31 M32 nb33 (lyF B31 b35 q34) V29 mp30) → (∃ (M41 : Nat) (nb42 : Nat → Nat) (S43 : Nat → Nat) (b44 : Nat) (y45 : Nat), (J28 67 3 = nI M41 ∧ M41 ≤ 8) ∧ (ntC J28 69 M41 nb42) ∧ (∀ k, k < M41 → J28 72 k = nI (S43 k)) ∧ (x1 = nI b44 ∧ b44 < 7) ∧ (x4 = nI y45 ∧ y45 < 8) ∧ (∀ (J40 : Nat → Nat → Int32), (fr [72] J28 J40 ∧ (∀ k, k < M41 → J40 72 k = nI (if (nb42 k).testBit b44 = true then S43 k ^^^ 2 ^ y45 else S43 k)) ∧ ∀ k, M41 ≤ k → J40 72 k = J28 72 k) → RX1_layFrom zn d post 52 [some (.ref 67), some (.int x1), some (.int x2), some (.int x3), some (.int (x4 + (1 : Int32)))] [] (zSH zn, J40, L)))))))))))))) : RX1_layFrom zn d post 52 [some (.ref 67), some (.int x1), some (.int x2), some (.int x3), some (.int x4)] [] (zSH zn, I, L) := fun P hw hc => hc _ tX1_layFrom_52 _ _ _ (hc _ tX1_layFrom_54 _ _ _ (hc _ tX1_layFrom_55 _ _ _ (⟨fun c1 => hc _ tX1_layFrom_119 _ _ _ (⟨rfl, rfl, (h.1 c1)⟩), fun c2 => hc _ tX1_layFrom_58 _ _ _ (hc _ tX1_layFrom_59 _ _ _ (hc _ tX1_layFrom_61 _ _ _ (⟨Nat.le_of_ble_eq_true rfl, Nat.le_of_ble_eq_true rfl, zl1, zl2, _, ctX11_hasBit x2 x4 I L, fun r u k52 => by obtain ⟨rfl, rfl⟩ := k52; exact ⟨zl3, zl4, hc _ tX1_layFrom_64 _ _ _ (⟨fun c3 => hc _ tX1_layFrom_113 _ _ _ (hc _ tX1_layFrom_116 _ _ _ (((h.2 c2).1 (zb_n c3)) P hw hc)), fun c4 => hc _ tX1_layFrom_67 _ _ _ (hc _ tX1_layFrom_68 _ _ _ (⟨_, _, sh67, (by decide), rfl, hc _ tX1_layFrom_71 _ _ _ (hc _ tX1_layFrom_72 _ _ _ (hc _ tX1_layFrom_74 _ _ _ (⟨_, _, sh71, (by decide), ((h.2 c2).2 (zb_e c4)).1, hc _ tX1_layFrom_75 _ _ _ (hc _ tX1_layFrom_76 _ _ _ (hc _ tX1_layFrom_77 _ _ _ ((by obtain ⟨M6, nb7, S8, b9, y10, hg11⟩ := ((h.2 c2).2 (zb_e c4)).2; exact hc _ tX1_layFrom_79 _ _ _ (⟨⟨_, _, _, rfl, (by decide), sh67⟩, ⟨Nat.le_of_ble_eq_true rfl, Nat.le_of_ble_eq_true rfl, zl1, zl2, _, ctX1_turnNetPlaces x1 x4 (zi I 71 (x1).toNatClampNeg x4) L M6 nb7 S8 b9 y10 hg11.1 hg11.2.1 hg11.2.2.1 hg11.2.2.2.1 hg11.2.2.2.2.1, fun r u k51 => by obtain ⟨J5, rfl, rfl, p12⟩ := k51; exact ⟨zl3, zl4, hc _ tX1_layFrom_82 _ _ _ ((by obtain ⟨M13, nb14, S15, hg16⟩ := (hg11.2.2.2.2.2 J5 p12); exact hc _ tX1_layFrom_83 _ _ _ (⟨⟨_, _, _, rfl, (by decide), sh67⟩, ⟨Nat.le_of_ble_eq_true rfl, Nat.le_of_ble_eq_true rfl, zl1, zl2, _, ctX1_wireToCome J5 L M13 nb14 S15 hg16.1 hg16.2.1 hg16.2.2.1 hg16.2.2.2.1, fun r u k50 => by obtain ⟨rfl, rfl⟩ := k50; exact ⟨zl3, zl4, hc _ tX1_layFrom_86 _ _ _ (hc _ tX1_layFrom_87 _ _ _ (⟨_, sh67, (by decide), hc _ tX1_layFrom_90 _ _ _ (⟨fun c17 => hc _ tX1_layFrom_106 _ _ _ (hc _ tX1_layFrom_107 _ _ _ (hc _ tX1_layFrom_108 _ _ _ ((by obtain ⟨M20, nb21, S22, b23, y24, hg25⟩ := (hg16.2.2.2.2.1 c17); exact hc _ tX1_layFrom_110 _ _ _ (⟨⟨_, _, _, rfl, (by decide), sh67⟩, ⟨Nat.le_of_ble_eq_true rfl, Nat.le_of_ble_eq_true rfl, zl1, zl2, _, ctX1_turnNetPlaces x1 x4 J5 L M20 nb21 S22 b23 y24 hg25.1 hg25.2.1 hg25.2.2.1 hg25.2.2.2.1 hg25.2.2.2.2.1, fun r u k27 => by obtain ⟨J19, rfl, rfl, p26⟩ := k27; exact ⟨zl3, zl4, hc _ tX1_layFrom_113 _ _ _ (hc _ tX1_layFrom_116 _ _ _ ((hg25.2.2.2.2.2 J19 p26) P hw hc))⟩⟩⟩))))), fun c18 => hc _ tX1_layFrom_93 _ _ _ (hc _ tX1_layFrom_94 _ _ _ (hc _ tX1_layFrom_95 _ _ _ (hc _ tX1_layFrom_96 _ _ _ (hc _ tX1_layFrom_97 _ _ _ (hc _ tX1_layFrom_98 _ _ _ (hc _ tX1_layFrom_99 _ _ _ (hc _ tX1_layFrom_101 _ _ _ (hc _ tX1_layFrom_102 _ _ _ ((by obtain ⟨B31, M32, nb33, q34, b35, W36, lp37, hg38⟩ := (hg16.2.2.2.2.2 c18); exact hc _ tX1_layFrom_103 _ _ _ (⟨Nat.le_of_ble_eq_true rfl, Nat.le_of_ble_eq_true rfl, zl1, zl2, _, hrec (x1 + (1 : Int32)) (x2 ||| ((1 : Int32) <<< (x4 &&& 31))) J5 L B31 M32 nb33 q34 b35 W36 lp37 hg38.1 hg38.2.1 hg38.2.2.1 hg38.2.2.2.1 hg38.2.2.2.2.1 hg38.2.2.2.2.2.1 hg38.2.2.2.2.2.2.1, fun r u k49 => by obtain ⟨J28, V29, mp30, rfl, rfl, p39⟩ := k49; exact ⟨zl3, zl4, hc _ tX1_layFrom_106 _ _ _ (hc _ tX1_layFrom_107 _ _ _ (hc _ tX1_layFrom_108 _ _ _ ((by obtain ⟨M41, nb42, S43, b44, y45, hg46⟩ := (hg38.2.2.2.2.2.2.2 J28 V29 mp30 p39); exact hc _ tX1_layFrom_110 _ _ _ (⟨⟨_, _, _, rfl, (by decide), sh67⟩, ⟨Nat.le_of_ble_eq_true rfl, Nat.le_of_ble_eq_true rfl, zl1, zl2, _, ctX1_turnNetPlaces x1 x4 J28 L M41 nb42 S43 b44 y45 hg46.1 hg46.2.1 hg46.2.2.1 hg46.2.2.2.1 hg46.2.2.2.2.1, fun r u k48 => by obtain ⟨J40, rfl, rfl, p47⟩ := k48; exact ⟨zl3, zl4, hc _ tX1_layFrom_113 _ _ _ (hc _ tX1_layFrom_116 _ _ _ ((hg46.2.2.2.2.2 J40 p47) P hw hc))⟩⟩⟩)))))⟩⟩)))))))))))⟩)⟩))⟩⟩⟩)))⟩⟩⟩)))))⟩)))⟩))⟩)⟩⟩)))⟩)))
theorem lyS_fr {I J : Nat → Nat → Int32} {B M b : Nat} {nb : Nat → Nat} (h : lyS I B M nb) (hr : lyR I J M b) : lyS J B M nb := by
  obtain ⟨h1, h2, h3, h4⟩ := h
  refine ⟨by rw [hr.2.1 2 (by decide)]; exact h1, by rw [hr.2.1 3 (by decide)]; exact h2, fun k hk => by rw [hr.1 69 (by decide)]; exact h3 k hk, fun c hc => by rw [hr.1 4 (by decide)]; exact h4 c hc⟩
theorem lyS_nt {I : Nat → Nat → Int32} {B M : Nat} {nb : Nat → Nat} (h : lyS I B M nb) : ntC I 69 M nb := fun k hk => ⟨(h.2.2.1 k hk).1, B128 h.1.2 (h.2.2.1 k hk).2⟩
theorem layR {zn : Nat} : ∀ (n d : Nat) (x1 x2 : Int32) (I : Nat → Nat → Int32) (L : Nat → Nat → Int64) (B M : Nat) (nb q : Nat → Nat) (b W : Nat) (lp : Nat → Nat), B - b = n → lyS I B M nb → lyP I M nb q b → (x1 = nI b ∧ b ≤ B) → x2 = nI (pm q (2 ^ b - 1) b) → lyB I B M nb (bef b q) W lp → wtc M nb (fun k => pm q (nb k) b) < W → zcal zty zcd false (d + n + 4) 15 [.ref 67, .int x1, .int x2] (zSH zn, I, L) 0 0 (fun r u => ∃ (J : Nat → Nat → Int32), ∃ (V : Nat), ∃ (mp : Nat → Nat), r = none ∧ u = (zSH zn, J, L) ∧ (lyR I J M b ∧ lyB J B M nb (lyF B b q) V mp)) := by
  intro n
  induction n with
  | zero =>
    intro d x1 x2 I L B M nb q b W lp hn q0 q1 q2 q3 q4 q5
    obtain ⟨rfl, hb⟩ := q2
    have hbB : b = B := by omega
    subst hbB
    obtain ⟨⟨eB, hB⟩, ⟨eM, hM⟩, hnt, hls⟩ := id q0
    obtain ⟨p1, p2, p3⟩ := q1
    obtain ⟨b1, b2, b3, b4⟩ := q4
    refine eX1_layFrom (d := d + 0) _ _ I L (gX1_layFrom_0 _ _ I L ⟨fun _ => ⟨M, nb, fun k => pm q (nb k) b, ⟨eM, hM⟩, lyS_nt q0, fun k hk => ⟨p3 k hk, pm_lt p1.1⟩, hls, ?_⟩, fun hc => absurd (by rw [eB, nI_leI (by omega) (by omega)]; exact Nat.le_refl _) hc⟩)
    have hw := wtc_full (q := q) hB (fun k hk => (hnt k hk).2) p1
    rw [hw] at q5 ⊢
    have hz : ∀ j, j ≠ 70 → (zcp (zi I 67 5 (nI (wa b M nb q))) 71 70 0 0 7) j = (zi I 67 5 (nI (wa b M nb q))) j := fun j hj => zcp_ne hj
    refine ⟨_, wa b M nb q, q, rfl, rfl, ⟨fun j hj => ?_, fun s hs => ?_, fun j hj => ?_, fun k => ?_⟩, ?_, by omega, ?_, fun j hj => ?_⟩
    · simp only [List.mem_cons, List.not_mem_nil, or_false, not_or] at hj
      rw [hz j hj.2.1, zi_ne hj.1]
    · rw [hz 67 (by decide), zi_at, if_neg (fun z => hs z.2)]
    · rw [hz 71 (by decide), zi_ne (by decide)]
    · rw [hz 72 (by decide), zi_ne (by decide)]
    · rw [hz 67 (by decide), zi_at, if_pos ⟨rfl, rfl⟩]
    · refine Bst_new b3 p1 q5 (fun q' hq' => ?_)
      unfold lyF
      constructor
      · rintro (z | z)
        · exact Or.inl z
        · exact Or.inr (fun j hj => (z.1 j hj).symm)
      · rintro (z | z)
        · exact Or.inl z
        · exact Or.inr ⟨fun j hj => (z j hj).symm, fun h1 h2 => by omega⟩
    · rw [nl 7, zcp_at (by decide), if_pos (by omega), zi_ne (by decide)]
      exact p2 j hj
  | succ n ihn =>
    intro d x1 x2 I L B M nb q b W lp hn q0 q1 q2 q3 q4 q5
    obtain ⟨rfl, hb⟩ := q2
    obtain rfl := q3
    have hbB : b < B := by omega
    obtain ⟨⟨eB, hB⟩, ⟨eM, hM⟩, hnt, hls⟩ := id q0
    obtain ⟨p1, p2, p3⟩ := id q1
    have h256 : ∀ X, pm q X b < 256 := fun X => pm_lt p1.1
    generalize hbd : (if b = 0 then 2 else 8) = bd
    have hbd8 : bd ≤ 8 := by rw [← hbd]; split <;> omega
    have ebd : (if nI b = 0 then (2 : Int32) else 8) = nI bd := by
      rw [← hbd]
      by_cases h0 : b = 0
      · rw [if_pos h0, if_pos (by rw [h0]; rfl)]; rfl
      · have hne : ¬ nI b = (0 : Int32) := fun z => h0 (nI_inj (by omega) (by decide) z)
        rw [if_neg h0, if_neg hne]; rfl
    have loop : ∀ y (p : (Nat → Nat → Int32) × Nat × (Nat → Nat)), y ≤ bd → (lyR I p.1 M b ∧ lyB p.1 B M nb (bef (b + 1) (qy b y q)) p.2.1 p.2.2) → RX1_layFrom zn (d + (n + 1)) (fun r u => ∃ (J : Nat → Nat → Int32), ∃ (V : Nat), ∃ (mp : Nat → Nat), r = none ∧ u = (zSH zn, J, L) ∧ (lyR I J M b ∧ lyB J B M nb (lyF B b q) V mp)) 52 [some (.ref 67), some (.int (nI b)), some (.int (nI (pm q (2 ^ b - 1) b))), some (.int (nI bd)), some (.int (nI y))] [] (zSH zn, p.1, L) := by
      have edp : d + (n + 1) + 3 = d + n + 4 := by omega
      have hrec : ∀ (x1 : Int32) (x2 : Int32) (I : Nat → Nat → Int32) (L : Nat → Nat → Int64) (B : Nat) (M : Nat) (nb : Nat → Nat) (q : Nat → Nat) (b : Nat) (W : Nat) (lp : Nat → Nat) (q0 : lyS I B M nb) (q1 : lyP I M nb q b) (q2 : x1 = nI b ∧ b ≤ B) (q3 : x2 = nI (pm q (2 ^ b - 1) b)) (q4 : lyB I B M nb (bef b q) W lp) (q5 : wtc M nb (fun k => pm q (nb k) b) < W) (q99 : B - b = n), zcal zty zcd false (d + (n + 1) + 3) 15 [.ref 67, .int x1, .int x2] (zSH zn, I, L) 0 0 (fun r u => ∃ (J : Nat → Nat → Int32), ∃ (V : Nat), ∃ (mp : Nat → Nat), r = none ∧ u = (zSH zn, J, L) ∧ (lyR I J M b ∧ lyB J B M nb (lyF B b q) V mp)) := fun x1 x2 I L B M nb q b W lp a0 a1 a2 a3 a4 a5 a6 => by
        rw [edp]
        exact ihn d x1 x2 I L B M nb q b W lp a6 a0 a1 a2 a3 a4 a5
      refine zup (fun p hp => ?_) (fun y p hy hp ih => ?_)
      · obtain ⟨J, V, mp⟩ := p
        obtain ⟨f1, c1, c2, c3, c4⟩ := hp
        dsimp only at f1 c1 c2 c3 c4
        refine gX1_layFrom_52 _ _ _ _ J L n hrec ⟨fun _ => ⟨J, V, mp, rfl, rfl, f1, c1, c2, Bst_set c3 (fun q' hq' => ?_), c4⟩, fun hc => absurd (by rw [nI_leI (by omega) (by omega)]; exact Nat.le_refl _) hc⟩
        rw [bef_s]
        unfold lyF
        constructor
        · rintro (z | ⟨z1, z2⟩)
          · exact Or.inl z
          · exact Or.inr ⟨z1, fun h0 _ => by rw [← hbd, if_pos h0] at z2; rw [h0] at z2; exact z2⟩
        · rintro (z | ⟨z1, z2⟩)
          · exact Or.inl z
          · refine Or.inr ⟨z1, ?_⟩
            rw [← hbd]
            by_cases h0 : b = 0
            · rw [if_pos h0]; have := z2 h0 (by omega); rw [h0]; exact this
            · rw [if_neg h0]; exact hq'.1 b hbB
      · obtain ⟨J, V, mp⟩ := p
        obtain ⟨f1, c1, c2, c3, c4⟩ := hp
        dsimp only at f1 c1 c2 c3 c4
        have sJ := lyS_fr q0 f1
        have s72 : ∀ k, k < M → J 72 k = nI (pm q (nb k) b) := fun k hk => by rw [f1.2.2.2 k]; exact p3 k hk
        refine gX1_layFrom_52 _ _ _ _ J L n hrec ⟨fun hc => absurd hc (by rw [nI_leI (by omega) (by omega)]; omega), fun _ => ⟨fun ht => ?_, fun ht => ?_⟩⟩
        · rw [nI_has (by have := h256 (2 ^ b - 1); omega) (by omega), pmA] at ht
          rw [nI_1]
          refine ih (J, V, mp) ⟨f1, c1, c2, Bst_set c3 (fun q' hq' => ?_), c4⟩
          rw [bef_s, bef_s]
          obtain ⟨j, hj, ej⟩ := ht
          constructor
          · rintro (z | ⟨z1, z2⟩)
            · exact Or.inl z
            · exact Or.inr ⟨z1, by omega⟩
          · rintro (z | ⟨z1, z2⟩)
            · exact Or.inl z
            · refine Or.inr ⟨z1, ?_⟩
              have : q' b ≠ y := fun z => by
                have := hq'.2 j b (by omega) hbB (by rw [z1 j hj, ej, z])
                omega
              omega
        · rw [nI_has (by have := h256 (2 ^ b - 1); omega) (by omega), pmA] at ht
          have hfree : ∀ j, j < b → q j ≠ y := fun j hj z => ht ⟨j, hj, z⟩
          have hoky := okA_qy p1 (by omega) hfree
          have hbit : ∀ X, (pm q X b).testBit y = false := fun X => by
            cases hx : (pm q X b).testBit y with
            | false => rfl
            | true =>
              obtain ⟨j, h1, -, h3⟩ := pm_bit.mp hx
              exact absurd h3 (hfree j h1)
          have hS5 : ∀ k, (if (nb k).testBit b = true then pm q (nb k) b ^^^ 2 ^ y else pm q (nb k) b) = pm (qy b y q) (nb k) (b + 1) := fun k => by
            rw [pm_qy, (xor_or _ (h256 (nb k)) y (by omega) (hbit (nb k))).1]
          have hS6 : ∀ k, (if (nb k).testBit b = true then pm (qy b y q) (nb k) (b + 1) ^^^ 2 ^ y else pm (qy b y q) (nb k) (b + 1)) = pm q (nb k) b := fun k => by
            rw [pm_qy]
            by_cases hx : (nb k).testBit b = true
            · rw [if_pos hx, if_pos hx, (xor_or _ (h256 (nb k)) y (by omega) (hbit (nb k))).2]
            · rw [if_neg hx, if_neg hx]
          have tb : (nI b).toNatClampNeg = b := nI_clamp (by omega)
          rw [tb]
          generalize hJ1 : zi J 71 b (nI y) = J1
          have j1f : fr [71] J J1 := by rw [← hJ1]; exact fr_zi (by decide)
          have j1b : J1 71 b = nI y := by rw [← hJ1, zi_at, if_pos ⟨rfl, rfl⟩]
          have j1o : ∀ j, j ≠ b → J1 71 j = J 71 j := fun j hj => by rw [← hJ1, zi_at, if_neg (fun z => hj z.2)]
          obtain ⟨sB, sM, sN, sL⟩ := sJ
          refine ⟨vin_nI (by omega) (by omega), M, nb, fun k => pm q (nb k) b, b, y, by rw [j1f 67 (by decide)]; exact sM, fun k hk => by rw [j1f 69 (by decide)]; exact ⟨(sN k hk).1, B128 hB (sN k hk).2⟩, fun k hk => by rw [j1f 72 (by decide)]; exact s72 k hk, ⟨rfl, by omega⟩, ⟨rfl, by omega⟩, fun J5 ⟨j5, j5s, j5t⟩ => ?_⟩
          have s5 : ∀ k, k < M → J5 72 k = nI (pm (qy b y q) (nb k) (b + 1)) := fun k hk => by rw [j5s k hk, hS5 k]
          have f5 : fr [71, 72] J J5 := fr_trans (fr_sub j1f (by decide)) (fr_sub j5 (by decide))
          have m5 : J5 67 3 = nI M ∧ M ≤ 8 := by rw [f5 67 (by decide)]; exact sM
          have n5 : ntC J5 69 M nb := fun k hk => by rw [f5 69 (by decide)]; exact ⟨(sN k hk).1, B128 hB (sN k hk).2⟩
          have l5 : lsc J5 := fun c hc => by rw [f5 4 (by decide)]; exact sL c hc
          have w5 : J5 67 5 = nI V := by rw [f5 67 (by decide)]; exact c1
          have hlt5 : ∀ k, k < M → pm (qy b y q) (nb k) (b + 1) < 256 := fun k _ => pm_lt hoky.1
          have hw32 := wtc_le (M := M) (nb := nb) (S := fun k => pm (qy b y q) (nb k) (b + 1)) hlt5
          have r5 : ∀ J9, fr [72] J5 J9 → (∀ k, k < M → J9 72 k = nI (pm q (nb k) b)) → (∀ k, M ≤ k → J9 72 k = J5 72 k) → lyR I J9 M b := fun J9 h9 h9s h9t => by
            refine ⟨fr_trans f1.1 (fr_trans (fr_sub f5 (by decide)) (fr_sub h9 (by decide))), fun s hs => ?_, fun j hj => ?_, fun k => ?_⟩
            · rw [h9 67 (by decide), f5 67 (by decide)]; exact f1.2.1 s hs
            · rw [h9 71 (by decide), j5 71 (by decide), j1o j (by omega)]; exact f1.2.2.1 j hj
            · by_cases hk : k < M
              · rw [h9s k hk]; exact (p3 k hk).symm
              · rw [h9t k (by omega), j5t k (by omega), j1f 72 (by decide)]; exact f1.2.2.2 k
          refine ⟨M, nb, fun k => pm (qy b y q) (nb k) (b + 1), m5, n5, fun k hk => ⟨s5 k hk, hlt5 k hk⟩, l5, ?_⟩
          rw [w5, nI_leI (by omega) (by omega), nI_1]
          refine ⟨fun hpr => ⟨M, nb, fun k => pm (qy b y q) (nb k) (b + 1), b, y, m5, n5, s5, ⟨rfl, by omega⟩, ⟨rfl, by omega⟩, fun J9 ⟨j9, j9s, j9t⟩ => ?_⟩, fun hpr => ?_⟩
          · refine ih (J9, V, mp) ⟨r5 J9 j9 (fun k hk => by rw [j9s k hk, hS6 k]) j9t, ?_, c2, ?_, fun j hj => ?_⟩
            · dsimp only
              rw [j9 67 (by decide)]; exact w5
            · dsimp only
              refine Bst_more c3 (fun q' z => ?_) (fun z => by omega) (fun q' hq' z1 z2 => ?_) (fun q' q'' hq' z1 z2 z3 => ?_)
              · rw [bef_s] at z ⊢
                rcases z with z | ⟨z1, z2⟩
                · exact Or.inl z
                · exact Or.inr ⟨z1, by omega⟩
              · rw [bef_s] at z1 z2
                have hx : ext (b + 1) (qy b y q) q' := by
                  rw [ext_s]
                  rcases z1 with z | ⟨z3, z4⟩
                  · exact absurd (Or.inl z) z2
                  · refine ⟨z3, ?_⟩
                    have : ¬ q' b < y := fun z => z2 (Or.inr ⟨z3, z⟩)
                    omega
                exact Nat.le_trans hpr (wtc_wa hB (by omega) (fun k hk => (hnt k hk).2) hq' hx)
              · have hx : ext (b + 1) (qy b y q) q'' := by
                  rw [ext_s]
                  rw [bef_s] at z2 z3
                  rcases z2 with z | ⟨z4, z5⟩
                  · exact absurd (Or.inl z) z3
                  · refine ⟨z4, ?_⟩
                    have : ¬ q'' b < y := fun z => z3 (Or.inr ⟨z4, z⟩)
                    omega
                exact bef_lex (by omega) z1 hx
            · dsimp only
              rw [j9 70 (by decide), f5 70 (by decide)]; exact c4 j hj
          · refine ⟨B, M, nb, qy b y q, b + 1, V, mp, ⟨by rw [f5 67 (by decide)]; exact sB, m5, fun k hk => by rw [f5 69 (by decide)]; exact sN k hk, l5⟩, ⟨hoky, fun j hj => ?_, s5⟩, ⟨nI_1 b, by omega⟩, ?_, ⟨w5, c2, c3, fun j hj => by rw [f5 70 (by decide)]; exact c4 j hj⟩, by omega, by omega, fun J8 V8 mp8 ⟨r8, b8⟩ => ?_⟩
            · rw [j5 71 (by decide)]
              by_cases hjb : j = b
              · rw [hjb, j1b, qy_b]
              · rw [j1o j hjb, f1.2.2.1 j (by omega), qy_n hjb]; exact p2 j (by omega)
            · rw [nI_shl1 (by omega), fa_or, pm_qyA]
            · have s8 : ∀ k, k < M → J8 72 k = nI (pm (qy b y q) (nb k) (b + 1)) := fun k hk => by rw [r8.2.2.2 k]; exact s5 k hk
              refine ⟨M, nb, fun k => pm (qy b y q) (nb k) (b + 1), b, y, by rw [r8.2.1 3 (by decide)]; exact m5, fun k hk => by rw [r8.1 69 (by decide)]; exact n5 k hk, s8, ⟨rfl, by omega⟩, ⟨rfl, by omega⟩, fun J9 ⟨j9, j9s, j9t⟩ => ?_⟩
              obtain ⟨g1, g2, g3, g4⟩ := b8
              refine ih (J9, V8, mp8) ⟨⟨fr_trans f1.1 (fr_trans (fr_sub f5 (by decide)) (fr_trans r8.1 (fr_sub j9 (by decide)))), fun s hs => ?_, fun j hj => ?_, fun k => ?_⟩, ?_, g2, ?_, fun j hj => ?_⟩
              · dsimp only
                rw [j9 67 (by decide), r8.2.1 s hs, f5 67 (by decide)]; exact f1.2.1 s hs
              · dsimp only
                rw [j9 71 (by decide), r8.2.2.1 j (by omega), j5 71 (by decide), j1o j (by omega)]; exact f1.2.2.1 j hj
              · dsimp only
                by_cases hk : k < M
                · rw [j9s k hk, hS6 k]; exact (p3 k hk).symm
                · rw [j9t k (by omega), r8.2.2.2 k, j5t k (by omega), j1f 72 (by decide)]; exact f1.2.2.2 k
              · dsimp only
                rw [j9 67 (by decide)]; exact g1
              · dsimp only
                refine Bst_set g3 (fun q' hq' => ?_)
                unfold lyF
                rw [bef_s, bef_s, ext_s]
                constructor
                · rintro ((z | ⟨z1, z2⟩) | ⟨⟨z1, z2⟩, -⟩)
                  · exact Or.inl z
                  · exact Or.inr ⟨z1, by omega⟩
                  · exact Or.inr ⟨z1, by omega⟩
                · rintro (z | ⟨z1, z2⟩)
                  · exact Or.inl (Or.inl z)
                  · by_cases hqy : q' b = y
                    · exact Or.inr ⟨⟨z1, hqy⟩, fun h => by omega⟩
                    · exact Or.inl (Or.inr ⟨z1, by omega⟩)
              · dsimp only
                rw [j9 70 (by decide)]; exact g4 j hj
    have h0 := loop 0 (I, W, lp) (Nat.zero_le _) ⟨⟨fr_rf, fun _ _ => rfl, fun _ _ => rfl, fun _ => rfl⟩, q4.1, q4.2.1, Bst_set q4.2.2.1 (fun q' hq' => by
      rw [bef_s]
      exact ⟨fun z => Or.inl z, fun z => z.elim id (fun y => absurd y.2 (by omega))⟩), q4.2.2.2⟩
    refine eX1_layFrom (d := d + (n + 1)) _ _ I L (gX1_layFrom_0 _ _ I L ⟨fun hc => absurd hc (by rw [eB, nI_leI (by omega) (by omega)]; omega), fun _ => ⟨fun _ => ?_, fun hc => absurd (by rw [nl 7, nI_ltI (by omega) (by decide)]; omega) hc⟩⟩)
    rw [ebd]
    exact h0

