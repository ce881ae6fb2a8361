/-! LEAST, the class's -/
theorem ctX1_layFrom {zn d : Nat} (x1 : Int32) (x2 : Int32) (I : Nat → Nat → Int32) (L : Nat → Nat → Int64) (B : Nat) (M : Nat) (nb : Nat → Nat) (q : Nat → Nat) (b : Nat) (W : Nat) (lp : Nat → Nat) (q0 : lyS I B M nb) (q1 : lyP I M nb q b) (q2 : x1 = nI b ∧ b ≤ B) (q3 : x2 = nI (pm q (2 ^ b - 1) b)) (q4 : lyB I B M nb (bef b q) W lp) (q5 : wtc M nb (fun k => pm q (nb k) b) < W) : zcal zty zcd false (d + 12) 15 [.ref 67, .int x1, .int x2] (zSH zn, I, L) 0 0 (fun r u => ∃ (J : Nat → Nat → Int32), ∃ (V : Nat), ∃ (mp : Nat → Nat), r = none ∧ u = (zSH zn, J, L) ∧ (lyR I J M b ∧ lyB J B M nb (lyF B b q) V mp)) := by
  have h := layR (zn := zn) (B - b) (d + (8 - (B - b))) x1 x2 I L B M nb q b W lp rfl q0 q1 q2 q3 q4 q5
  have e : d + (8 - (B - b)) + (B - b) + 4 = d + 12 := by have := q0.1.2; omega
  rw [e] at h
  exact h
/-- LEAST, as it is kept -/
def lsK (I : Nat → Nat → Int32) (B M : Nat) (nb : Nat → Nat) : Prop := ∃ W lp, lyB I B M nb (fun q => 0 < B → q 0 < 2) W lp
abbrev RX1_findLeast (zn d : Nat) (post : zP) : zK := zRun (zcal zty zcd false (d + 12)) kX1_findLeast (zLM zn) post
theorem eX1_findLeast {zn d : Nat} {post : zP} (I : Nat → Nat → Int32) (L : Nat → Nat → Int64) (h : RX1_findLeast zn d post 0 [some (.ref 67)] [] (zSH zn, I, L)) : zcal zty zcd false (d + 13) 14 [.ref 67] (zSH zn, I, L) 0 0 post := zcal_of (d := d + 12) zmt14 zmc14 rfl (Nat.le_of_ble_eq_true rfl) h
theorem gX1_findLeast_0 {zn d : Nat} {post : zP} (I : Nat → Nat → Int32) (L : Nat → Nat → Int64) (h : ((I 67 6) = 0 → (∃ (B6 : Nat) (M7 : Nat) (nb8 : Nat → Nat) (q9 : Nat → Nat) (b10 : Nat) (W11 : Nat) (lp12 : Nat → Nat), (lyS (zi I 67 5 (1000 : Int32)) B6 M7 nb8) ∧ (lyP (zi I 67 5 (1000 : Int32)) M7 nb8 q9 b10) ∧ ((0 : Int32) = nI b10 ∧ b10 ≤ B6) ∧ ((0 : Int32) = nI (pm q9 (2 ^ b10 - 1) b10)) ∧ (lyB (zi I 67 5 (1000 : Int32)) B6 M7 nb8 (bef b10 q9) W11 lp12) ∧ (wtc M7 nb8 (fun k => pm q9 (nb8 k) b10) < W11) ∧ (∀ (J3 : Nat → Nat → Int32) (V4 : Nat) (mp5 : Nat → Nat), (lyR (zi I 67 5 (1000 : Int32)) J3 M7 b10 ∧ lyB J3 B6 M7 nb8 (lyF B6 b10 q9) V4 mp5) → post none (zSH zn, (zi J3 67 6 (1 : Int32)), L)))) ∧ (¬ (I 67 6) = 0 → post none (zSH zn, I, L))) : RX1_findLeast zn d post 0 [some (.ref 67)] [] (zSH zn, I, L) := fun P hw hc => hc _ tX1_findLeast_0 _ _ _ (hc _ tX1_findLeast_1 _ _ _ (⟨_, sh67, (by decide), hc _ tX1_findLeast_4 _ _ _ (⟨fun c1 => hc _ tX1_findLeast_8 _ _ _ (hc _ tX1_findLeast_9 _ _ _ (hc _ tX1_findLeast_12 _ _ _ (⟨_, sh67, (by decide), nofun, hc _ tX1_findLeast_15 _ _ _ (hc _ tX1_findLeast_16 _ _ _ (hc _ tX1_findLeast_17 _ _ _ ((by obtain ⟨B6, M7, nb8, q9, b10, W11, lp12, hg13⟩ := (h.1 c1); exact hc _ tX1_findLeast_18 _ _ _ (⟨Nat.le_of_ble_eq_true rfl, Nat.le_of_ble_eq_true rfl, zl1, zl2, _, ctX1_layFrom (0 : Int32) (0 : Int32) (zi I 67 5 (1000 : Int32)) L B6 M7 nb8 q9 b10 W11 lp12 hg13.1 hg13.2.1 hg13.2.2.1 hg13.2.2.2.1 hg13.2.2.2.2.1 hg13.2.2.2.2.2.1, fun r u k15 => by obtain ⟨J3, V4, mp5, rfl, rfl, p14⟩ := k15; exact ⟨zl3, zl4, hc _ tX1_findLeast_21 _ _ _ (hc _ tX1_findLeast_22 _ _ _ (hc _ tX1_findLeast_23 _ _ _ (⟨_, sh67, (by decide), fun _ => by decide, hc _ tX1_findLeast_26 _ _ _ (⟨rfl, rfl, (hg13.2.2.2.2.2.2 J3 V4 mp5 p14)⟩)⟩)))⟩⟩)))))⟩))), fun c2 => hc _ tX1_findLeast_7 _ _ _ (⟨rfl, rfl, (h.2 c2)⟩)⟩)⟩))
theorem nI_any (x : Int32) : x = nI x.toBitVec.toNat := by
  apply Int32.toBitVec_inj.1
  show x.toBitVec = BitVec.ofNat 32 x.toBitVec.toNat
  rw [BitVec.ofNat_toNat, BitVec.setWidth_eq]
theorem ctX1_findLeast {zn d : Nat} (I : Nat → Nat → Int32) (L : Nat → Nat → Int64) (B : Nat) (M : Nat) (nb : Nat → Nat) (q0 : lyS I B M nb) (q1 : I 67 6 = 0 ∨ (I 67 6 = 1 ∧ lsK I B M nb)) (q2 : ∀ k, I 72 k = 0) : zcal zty zcd false (d + 13) 14 [.ref 67] (zSH zn, I, L) 0 0 (fun r u => ∃ (J : Nat → Nat → Int32), r = none ∧ u = (zSH zn, J, L) ∧ (fr [67, 70, 71, 72] I J ∧ (∀ s, s ≠ 5 → s ≠ 6 → J 67 s = I 67 s) ∧ J 67 6 = 1 ∧ lsK J B M nb ∧ ∀ k, J 72 k = 0)) := by
  obtain ⟨⟨eB, hB⟩, ⟨eM, hM⟩, hnt, hls⟩ := id q0
  refine eX1_findLeast I L (gX1_findLeast_0 I L ⟨fun h => ?_, fun h => ⟨I, rfl, rfl, fr_rf, fun _ _ _ => rfl, (q1.resolve_left h).1, (q1.resolve_left h).2, q2⟩⟩)
  generalize hI1 : zi I 67 5 1000 = I1
  have f1 : fr [67] I I1 := by rw [← hI1]; exact fr_zi (by decide)
  have s1 : ∀ s, s ≠ 5 → I1 67 s = I 67 s := fun s hs => by rw [← hI1, zi_at, if_neg (fun z => hs z.2)]
  have w1 : I1 67 5 = nI 1000 := by rw [← hI1, zi_at, if_pos ⟨rfl, rfl⟩]; rfl
  have sp0 : spN 0 = 0 := by decide
  have hw0 : wtc M nb (fun k => pm (fun _ => 0) (nb k) 0) < 1000 := by
    have := wtc_le (M := M) (nb := nb) (S := fun k => pm (fun _ => 0) (nb k) 0) (fun k _ => Nat.two_pow_pos 8)
    omega
  refine ⟨B, M, nb, fun _ => 0, 0, 1000, fun j => (I1 70 j).toBitVec.toNat, ⟨by rw [s1 2 (by decide)]; exact ⟨eB, hB⟩, by rw [s1 3 (by decide)]; exact ⟨eM, hM⟩, fun k hk => by rw [f1 69 (by decide)]; exact hnt k hk, fun c hc => by rw [f1 4 (by decide)]; exact hls c hc⟩, ⟨⟨fun b hb => absurd hb (by omega), fun a b ha => absurd ha (by omega)⟩, fun j hj => absurd hj (by omega), fun k hk => by rw [f1 72 (by decide), q2 k]; rfl⟩, ⟨rfl, Nat.zero_le _⟩, rfl, ⟨w1, Nat.le_refl _, Or.inl ⟨rfl, fun q _ ⟨i, hi, _⟩ => absurd hi (by omega)⟩, fun j _ => nI_any _⟩, hw0, fun J V mp ⟨r1, b1, b2, b3, b4⟩ => ⟨_, rfl, rfl, ?_, fun s h5 h6 => ?_, ?_, ⟨V, mp, ?_, b2, Bst_set b3 (fun q _ => ?_), fun j hj => ?_⟩, fun k => ?_⟩⟩
  · exact fr_trans (fr_sub f1 (by decide)) (fr_trans r1.1 (fr_zi (by decide)))
  · rw [zi_at, if_neg (fun z => h6 z.2), r1.2.1 s h5]; exact s1 s h5
  · rw [zi_at, if_pos ⟨rfl, rfl⟩]
  · rw [zi_at, if_neg (by decide)]; exact b1
  · unfold lyF
    constructor
    · rintro (⟨i, hi, _⟩ | ⟨-, z⟩)
      · exact absurd hi (by omega)
      · exact fun h0 => z rfl h0
    · intro z
      exact Or.inr ⟨fun j hj => absurd hj (by omega), fun _ h0 => z h0⟩
  · rw [zi_ne (by decide)]; exact b4 j hj
  · rw [zi_ne (by decide), r1.2.2.2 k, f1 72 (by decide)]; exact q2 k
def mf (c p : Nat) : Nat := if c = 0 then p else if c = 1 then 4 * (p / 4) + (3 - p % 4) else if c = 2 then (p + 4) % 8 else 4 * ((p + 4) % 8 / 4) + (3 - (p + 4) % 8 % 4)
def mc (p : Nat) : Nat := if p < 2 then 0 else if p < 4 then 1 else if p < 6 then 2 else 3
theorem mf_t : ∀ c, c < 4 → ∀ p, p < 8 → mf c p < 8 ∧ ∀ q, q < 8 → mf c p = mf c q → p = q := by decide +kernel
theorem mc_t : ∀ p, p < 8 → mc p < 4 ∧ mf (mc p) p < 2 := by decide +kernel
theorem mf_or : ∀ c, c < 4 → ∀ S, S < 256 → ∀ k, k < 8 → pm (mf c) (S ||| 2 ^ k) 8 = pm (mf c) S 8 ||| 2 ^ mf c k := by decide +kernel
theorem mf_sp : ∀ c, c < 4 → ∀ S, S < 256 → spN (pm (mf c) S 8) = spN S := by decide +kernel
theorem mf_0 : ∀ c, c < 4 → pm (mf c) 0 8 = 0 := by decide +kernel
theorem pm_mf {c : Nat} (hc : c < 4) {q : Nat → Nat} {X : Nat} : ∀ {n : Nat}, (∀ b, b < n → q b < 8) → pm (fun i => mf c (q i)) X n = pm (mf c) (pm q X n) 8
  | 0, _ => (mf_0 c hc).symm
  | n + 1, h => by
    have ih := pm_mf hc (q := q) (X := X) (n := n) (fun b hb => h b (by omega))
    have e1 : pm (fun i => mf c (q i)) X (n + 1) = if X.testBit n = true then pm (fun i => mf c (q i)) X n ||| 2 ^ mf c (q n) else pm (fun i => mf c (q i)) X n := rfl
    have e2 : pm q X (n + 1) = if X.testBit n = true then pm q X n ||| 2 ^ q n else pm q X n := rfl
    rw [e1, e2, ih]
    by_cases hx : X.testBit n = true
    · rw [if_pos hx, if_pos hx, mf_or c hc _ (pm_lt (fun b hb => h b (by omega))) _ (h n (by omega))]
    · rw [if_neg hx, if_neg hx]
theorem wa_mf {c B M : Nat} (hc : c < 4) {nb q : Nat → Nat} (hq : ∀ b, b < B → q b < 8) : wa B M nb (fun i => mf c (q i)) = wa B M nb q := fb_sm_cong (fun k _ => by rw [pm_mf hc hq, mf_sp c hc _ (pm_lt hq)])
/-- the best of all -/
def Bov (B M : Nat) (nb : Nat → Nat) (W : Nat) (lp : Nat → Nat) : Prop := okA B lp ∧ wa B M nb lp = W ∧ ∀ q, okA B q → (W < wa B M nb q ∨ (W = wa B M nb q ∧ ((∀ j, j < B → lp j = q j) ∨ lex B lp q)))
theorem lex_no {B : Nat} {a b : Nat → Nat} (h : lex B a b) (h2 : lex B b a) : False := by
  obtain ⟨i, h1, h3, h4⟩ := h
  obtain ⟨j, g1, g3, g4⟩ := h2
  rcases Nat.lt_trichotomy i j with z | z | z
  · have := g3 i z; omega
  · subst z; omega
  · have := h3 j z; omega
theorem lex_ne {B : Nat} {a b : Nat → Nat} (h : lex B a b) (h2 : ∀ j, j < B → b j = a j) : False := by
  obtain ⟨i, h1, h3, h4⟩ := h
  have := h2 i h1
  omega
theorem Bov_one {B M : Nat} {nb : Nat → Nat} {W V : Nat} {lp mp : Nat → Nat} (h : Bov B M nb W lp) (h2 : Bov B M nb V mp) : W = V ∧ ∀ j, j < B → lp j = mp j := by
  have a := h.2.2 mp h2.1
  have b := h2.2.2 lp h.1
  have e1 := h.2.1
  have e2 := h2.2.1
  have hWV : W = V := by omega
  refine ⟨hWV, ?_⟩
  have a' : (∀ j, j < B → lp j = mp j) ∨ lex B lp mp := by
    rcases a with z | z
    · omega
    · exact z.2
  have b' : (∀ j, j < B → mp j = lp j) ∨ lex B mp lp := by
    rcases b with z | z
    · omega
    · exact z.2
  rcases a' with z | z
  · exact z
  · rcases b' with y | y
    · exact absurd z (fun z => lex_ne z y)
    · exact absurd y (fun y => lex_no z y)
theorem okA_id {B : Nat} (hB : B ≤ 7) : okA B (fun i => i) := ⟨fun b hb => by show b < 8; omega, fun a b _ _ h => h⟩
theorem lsK_ov {I : Nat → Nat → Int32} {B M : Nat} {nb : Nat → Nat} (hB : B ≤ 7) {W : Nat} {lp : Nat → Nat} (h : lyB I B M nb (fun q => 0 < B → q 0 < 2) W lp) : Bov B M nb W lp := by
  obtain ⟨-, -, hb, -⟩ := h
  rcases hb with ⟨-, z⟩ | ⟨a, b, c, d⟩
  · exact absurd (fun _ => by decide) (z (fun i => i) (okA_id hB))
  · refine ⟨a, c, fun q hq => ?_⟩
    by_cases h0 : 0 < B → q 0 < 2
    · exact d q hq h0
    · have hB0 : 0 < B := Decidable.byContradiction fun z => h0 (fun y => absurd y z)
      have hq0 : ¬ q 0 < 2 := fun z => h0 (fun _ => z)
      obtain ⟨m1, m2⟩ := mc_t (q 0) (hq.1 0 hB0)
      have hok : okA B (fun i => mf (mc (q 0)) (q i)) := ⟨fun b hb => (mf_t _ m1 _ (hq.1 b hb)).1, fun i j hi hj e => hq.2 i j hi hj ((mf_t _ m1 _ (hq.1 i hi)).2 _ (hq.1 j hj) e)⟩
      have := d _ hok (fun _ => m2)
      rw [wa_mf m1 hq.1] at this
      rcases this with z | z
      · exact Or.inl z
      · exact Or.inr ⟨z.1, Or.inr ⟨0, hB0, fun j hj => absurd hj (by omega), by have := b hB0; omega⟩⟩
def lstR (B M : Nat) (nb : Nat → Nat) (x y : Int32) : Prop := (¬ (x = -1 ∨ (0 ≤ x ∧ x < nI B)) → y = -1) ∧ (x = -1 → ∃ W lp, Bov B M nb W lp ∧ y = nI W) ∧ ((0 ≤ x ∧ x < nI B) → ∃ W lp, Bov B M nb W lp ∧ y = nI (lp (tn x)))
theorem lstR_one {B M : Nat} {nb : Nat → Nat} {x y z : Int32} (hB : B ≤ 7) (h : lstR B M nb x y) (h2 : lstR B M nb x z) : y = z := by
  by_cases h1 : x = -1
  · obtain ⟨W, lp, a, e⟩ := h.2.1 h1
    obtain ⟨V, mp, a2, e2⟩ := h2.2.1 h1
    rw [e, e2, (Bov_one a a2).1]
  · by_cases h3 : 0 ≤ x ∧ x < nI B
    · obtain ⟨W, lp, a, e⟩ := h.2.2 h3
      obtain ⟨V, mp, a2, e2⟩ := h2.2.2 h3
      obtain ⟨n, rfl, -, hn, tn', -⟩ := nm_of (a := 0) (b := B) (by omega) (by decide) h3
      rw [e, e2, tn', (Bov_one a a2).2 n hn]
    · rw [h.1 (fun z => z.elim h1 h3), h2.1 (fun z => z.elim h1 h3)]
abbrev RX11_least (zn d : Nat) (post : zP) : zK := zRun (zcal zty zcd false (d + 13)) kX11_least (zLM zn) post
theorem eX11_least {zn d : Nat} {post : zP} (x1 : Int32) (I : Nat → Nat → Int32) (L : Nat → Nat → Int64) (h : RX11_least zn d post 0 [some (.ref 5), some (.int x1)] [] (zSH zn, I, L)) : zcal zty zcd false (d + 14) 114 [.ref 5, .int x1] (zSH zn, I, L) 0 0 post := zcal_of (d := d + 13) zmt114 zmc114 rfl (Nat.le_of_ble_eq_true rfl) h
theorem gX11_least_0 {zn d : Nat} {post : zP} (x1 : Int32) (I : Nat → Nat → Int32) (L : Nat → Nat → Int64) (h : (x1 = (-1 : Int32) → (∃ (B4 : Nat) (M5 : Nat) (nb6 : Nat → Nat), (lyS I B4 M5 nb6) ∧ (I 67 6 = 0 ∨ (I 67 6 = 1 ∧ lsK I B4 M5 nb6)) ∧ (∀ k, I 72 k = 0) ∧ (∀ (J3 : Nat → Nat → Int32), (fr [67, 70, 71, 72] I J3 ∧ (∀ s, s ≠ 5 → s ≠ 6 → J3 67 s = I 67 s) ∧ J3 67 6 = 1 ∧ lsK J3 B4 M5 nb6 ∧ ∀ k, J3 72 k = 0) → (¬ x1 = (-1 : Int32) → vp_in x1 7 ∧ (post (some (.int (J3 70 (x1).toNatClampNeg))) (zSH zn, J3, L))) ∧ (x1 = (-1 : Int32) → post (some (.int (J3 67 5))) (zSH zn, J3, L))))) ∧ (¬ x1 = (-1 : Int32) → ((0 ≤ x1 ∧ x1 < (I 67 2)) → (∃ (B15 : Nat) (M16 : Nat) (nb17 : Nat → Nat), (lyS I B15 M16 nb17) ∧ (I 67 6 = 0 ∨ (I 67 6 = 1 ∧ lsK I B15 M16 nb17)) ∧ (∀ k, I 72 k = 0) ∧ (∀ (J14 : Nat → Nat → Int32), (fr [67, 70, 71, 72] I J14 ∧ (∀ s, s ≠ 5 → s ≠ 6 → J14 67 s = I 67 s) ∧ J14 67 6 = 1 ∧ lsK J14 B15 M16 nb17 ∧ ∀ k, J14 72 k = 0) → (¬ x1 = (-1 : Int32) → vp_in x1 7 ∧ (post (some (.int (J14 70 (x1).toNatClampNeg))) (zSH zn, J14, L))) ∧ (x1 = (-1 : Int32) → post (some (.int (J14 67 5))) (zSH zn, J14, L))))) ∧ (¬ ((0 ≤ x1 ∧ x1 < (I 67 2))) → post (some (.int (-1 : Int32))) (zSH zn, I, L)))) : RX11_least zn d post 0 [some (.ref 5), some (.int x1)] [] (zSH zn, I, L) := fun P hw hc => hc _ tX11_least_0 _ _ _ (hc _ tX11_least_1 _ _ _ (hc _ tX11_least_2 _ _ _ (⟨fun c1 => hc _ tX11_least_21 _ _ _ (hc _ tX11_least_22 _ _ _ (⟨_, _, sh5, (by decide), rfl, (by obtain ⟨B4, M5, nb6, hg7⟩ := (h.1 c1); exact hc _ tX11_least_25 _ _ _ (⟨⟨_, _, _, rfl, (by decide), sh67⟩, ⟨Nat.le_of_ble_eq_true rfl, Nat.le_of_ble_eq_true rfl, zl1, zl2, _, ctX1_findLeast I L B4 M5 nb6 hg7.1 hg7.2.1 hg7.2.2.1, fun r u k11 => by obtain ⟨J3, rfl, rfl, p8⟩ := k11; exact ⟨zl3, zl4, hc _ tX11_least_28 _ _ _ (hc _ tX11_least_29 _ _ _ (hc _ tX11_least_30 _ _ _ (⟨fun c9 => hc _ tX11_least_43 _ _ _ (hc _ tX11_least_44 _ _ _ (⟨_, _, sh5, (by decide), rfl, hc _ tX11_least_47 _ _ _ (⟨_, _, sh67, (by decide), rfl, hc _ tX11_least_50 _ _ _ (hc _ tX11_least_51 _ _ _ (⟨_, _, _, sh70, Or.inl ⟨rfl, (by decide)⟩, ((hg7.2.2.2 J3 p8).1 c9).1, hc _ tX11_least_52 _ _ _ (⟨nofun, rfl, rfl, ((hg7.2.2.2 J3 p8).1 c9).2⟩)⟩))⟩)⟩)), fun c10 => hc _ tX11_least_33 _ _ _ (hc _ tX11_least_34 _ _ _ (⟨_, _, sh5, (by decide), rfl, hc _ tX11_least_37 _ _ _ (⟨_, sh67, (by decide), hc _ tX11_least_40 _ _ _ (hc _ tX11_least_52 _ _ _ (⟨nofun, rfl, rfl, ((hg7.2.2.2 J3 p8).2 c10)⟩))⟩)⟩))⟩)))⟩⟩⟩))⟩)), fun c2 => hc _ tX11_least_5 _ _ _ (hc _ tX11_least_6 _ _ _ (hc _ tX11_least_7 _ _ _ (⟨_, _, sh5, (by decide), rfl, hc _ tX11_least_10 _ _ _ (⟨_, sh67, (by decide), hc _ tX11_least_13 _ _ _ (⟨Nat.le_of_ble_eq_true rfl, Nat.le_of_ble_eq_true rfl, zl1, zl2, _, ctX11_isBelow x1 (I 67 2) I L, fun r u k23 => by obtain ⟨rfl, rfl⟩ := k23; exact ⟨zl3, zl4, hc _ tX11_least_16 _ _ _ (⟨fun c12 => hc _ tX11_least_21 _ _ _ (hc _ tX11_least_22 _ _ _ (⟨_, _, sh5, (by decide), rfl, (by obtain ⟨B15, M16, nb17, hg18⟩ := ((h.2 c2).1 (zb_n c12)); exact hc _ tX11_least_25 _ _ _ (⟨⟨_, _, _, rfl, (by decide), sh67⟩, ⟨Nat.le_of_ble_eq_true rfl, Nat.le_of_ble_eq_true rfl, zl1, zl2, _, ctX1_findLeast I L B15 M16 nb17 hg18.1 hg18.2.1 hg18.2.2.1, fun r u k22 => by obtain ⟨J14, rfl, rfl, p19⟩ := k22; exact ⟨zl3, zl4, hc _ tX11_least_28 _ _ _ (hc _ tX11_least_29 _ _ _ (hc _ tX11_least_30 _ _ _ (⟨fun c20 => hc _ tX11_least_43 _ _ _ (hc _ tX11_least_44 _ _ _ (⟨_, _, sh5, (by decide), rfl, hc _ tX11_least_47 _ _ _ (⟨_, _, sh67, (by decide), rfl, hc _ tX11_least_50 _ _ _ (hc _ tX11_least_51 _ _ _ (⟨_, _, _, sh70, Or.inl ⟨rfl, (by decide)⟩, ((hg18.2.2.2 J14 p19).1 c20).1, hc _ tX11_least_52 _ _ _ (⟨nofun, rfl, rfl, ((hg18.2.2.2 J14 p19).1 c20).2⟩)⟩))⟩)⟩)), fun c21 => hc _ tX11_least_33 _ _ _ (hc _ tX11_least_34 _ _ _ (⟨_, _, sh5, (by decide), rfl, hc _ tX11_least_37 _ _ _ (⟨_, sh67, (by decide), hc _ tX11_least_40 _ _ _ (hc _ tX11_least_52 _ _ _ (⟨nofun, rfl, rfl, ((hg18.2.2.2 J14 p19).2 c21)⟩))⟩)⟩))⟩)))⟩⟩⟩))⟩)), fun c13 => hc _ tX11_least_19 _ _ _ (hc _ tX11_least_20 _ _ _ (⟨nofun, rfl, rfl, ((h.2 c2).2 (zb_e c13))⟩))⟩)⟩⟩)⟩)⟩)))⟩)))
theorem ctX11_least {zn d : Nat} (x1 : Int32) (I : Nat → Nat → Int32) (L : Nat → Nat → Int64) (B : Nat) (M : Nat) (nb : Nat → Nat) (q0 : lyS I B M nb) (q1 : I 67 6 = 0 ∨ (I 67 6 = 1 ∧ lsK I B M nb)) (q2 : ∀ k, I 72 k = 0) : zcal zty zcd false (d + 14) 114 [.ref 5, .int x1] (zSH zn, I, L) 0 0 (fun r u => ∃ (J : Nat → Nat → Int32), ∃ (y : Int32), r = some (.int y) ∧ u = (zSH zn, J, L) ∧ (fr [67, 70, 71, 72] I J ∧ (∀ s, s ≠ 5 → s ≠ 6 → J 67 s = I 67 s) ∧ (J 67 6 = 0 ∨ (J 67 6 = 1 ∧ lsK J B M nb)) ∧ (∀ k, J 72 k = 0) ∧ lstR B M nb x1 y)) := by
  have hB := q0.1.2
  have hB0 : ¬ (0 ≤ (-1 : Int32) ∧ (-1 : Int32) < nI B) := fun z => absurd z.1 (by decide)
  refine eX11_least _ I L (gX11_least_0 _ I L ?_)
  rw [q0.1.1]
  refine ⟨fun h => ⟨B, M, nb, q0, q1, q2, fun J ⟨j1, j2, j3, j4, j5⟩ => ⟨fun z => absurd h z, fun _ => ⟨J, _, rfl, rfl, j1, j2, Or.inr ⟨j3, j4⟩, j5, ?_⟩⟩⟩, fun h => ⟨fun h2 => ⟨B, M, nb, q0, q1, q2, fun J ⟨j1, j2, j3, j4, j5⟩ => ⟨fun _ => ?_, fun z => absurd z h⟩⟩, fun h2 => ⟨I, _, rfl, rfl, fr_rf, fun _ _ _ => rfl, q1, q2, fun _ => rfl, fun z => absurd z h, fun z => absurd z h2⟩⟩⟩
  · obtain ⟨W, lp, hl⟩ := j4
    refine ⟨fun z => absurd (Or.inl h) z, fun _ => ⟨W, lp, lsK_ov hB hl, hl.1⟩, fun z => absurd (by rw [h] at z; exact z) hB0⟩
  · obtain ⟨n, rfl, -, hn, tn', tn2⟩ := nm_of (a := 0) (b := B) (by omega) (by decide) h2
    obtain ⟨W, lp, hl⟩ := id j4
    refine ⟨vin_nI (by omega) (by decide), J, _, rfl, rfl, j1, j2, Or.inr ⟨j3, j4⟩, j5, fun z => absurd (Or.inr h2) z, fun z => absurd z h, fun _ => ⟨W, lp, lsK_ov hB hl, ?_⟩⟩
    rw [tn2, tn']; exact hl.2.2.2 n hn

