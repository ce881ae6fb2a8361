/-! ARRIVALS: what a gate takes, and by which TOKEN the greatest comes -/
abbrev RX2_load (zn d : Nat) (post : zP) : zK := zRun (zcal zty zcd false (d + 0)) kX2_load (zLM zn) post
theorem eX2_load {zn d : Nat} {post : zP} (I : Nat → Nat → Int32) (L : Nat → Nat → Int64) (h : RX2_load zn d post 0 [some (.ref 55)] [] (zSH zn, I, L)) : zcal zty zcd false (d + 1) 24 [.ref 55] (zSH zn, I, L) 0 0 post := zcal_of (d := d + 0) zmt24 zmc24 rfl (Nat.le_of_ble_eq_true rfl) h
theorem gX2_load_0 {zn d : Nat} {post : zP} (I : Nat → Nat → Int32) (L : Nat → Nat → Int64) (h : post (some (.int (I 58 3))) (zSH zn, I, L)) : RX2_load zn d post 0 [some (.ref 55)] [] (zSH zn, I, L) := fun P hw hc => hc _ tX2_load_0 _ _ _ (hc _ tX2_load_1 _ _ _ (⟨_, _, sh55, (by decide), rfl, hc _ tX2_load_4 _ _ _ (hc _ tX2_load_5 _ _ _ (⟨_, _, _, sh58, Or.inl ⟨rfl, (by decide)⟩, zvin (by decide), hc _ tX2_load_6 _ _ _ (⟨nofun, rfl, rfl, h⟩)⟩))⟩))
theorem ctX2_load {zn d : Nat} (I : Nat → Nat → Int32) (L : Nat → Nat → Int64)  : zcal zty zcd false (d + 1) 24 [.ref 55] (zSH zn, I, L) 0 0 (fun r u => r = some (.int (I 58 3)) ∧ u = (zSH zn, I, L)) := by
  exact eX2_load I L (gX2_load_0 I L ⟨rfl, rfl⟩)
abbrev RX2_clock (zn d : Nat) (post : zP) : zK := zRun (zcal zty zcd false (d + 0)) kX2_clock (zLM zn) post
theorem eX2_clock {zn d : Nat} {post : zP} (I : Nat → Nat → Int32) (L : Nat → Nat → Int64) (h : RX2_clock zn d post 0 [some (.ref 55)] [] (zSH zn, I, L)) : zcal zty zcd false (d + 1) 25 [.ref 55] (zSH zn, I, L) 0 0 post := zcal_of (d := d + 0) zmt25 zmc25 rfl (Nat.le_of_ble_eq_true rfl) h
theorem gX2_clock_0 {zn d : Nat} {post : zP} (I : Nat → Nat → Int32) (L : Nat → Nat → Int64) (h : post (some (.int (I 58 4))) (zSH zn, I, L)) : RX2_clock zn d post 0 [some (.ref 55)] [] (zSH zn, I, L) := fun P hw hc => hc _ tX2_clock_0 _ _ _ (hc _ tX2_clock_1 _ _ _ (⟨_, _, sh55, (by decide), rfl, hc _ tX2_clock_4 _ _ _ (hc _ tX2_clock_5 _ _ _ (⟨_, _, _, sh58, Or.inl ⟨rfl, (by decide)⟩, zvin (by decide), hc _ tX2_clock_6 _ _ _ (⟨nofun, rfl, rfl, h⟩)⟩))⟩))
theorem ctX2_clock {zn d : Nat} (I : Nat → Nat → Int32) (L : Nat → Nat → Int64)  : zcal zty zcd false (d + 1) 25 [.ref 55] (zSH zn, I, L) 0 0 (fun r u => r = some (.int (I 58 4)) ∧ u = (zSH zn, I, L)) := by
  exact eX2_clock I L (gX2_clock_0 I L ⟨rfl, rfl⟩)
def gk (k : Nat) : Nat := if k = 22 then 1 else if k = 23 then 2 else if k = 24 then 5 else if k = 25 then 6 else 0
def dtm (dl : Nat → Int32) (f : Int32) (k : Nat) : Int32 := (dl (gk k) * f + 99) / 100
theorem gk_C : ∀ k, k < 26 → fX2_gateFor (nI k) = nI (gk k) := by decide +kernel
theorem gk_R : ∀ k, k < 26 → 21 ≤ k → fX12_kindOf (nI (byt k)) = nI (gk k) := by decide +kernel
theorem gk_lt : ∀ k, k < 26 → gk k < 7 := by decide +kernel
abbrev RX2_takes (zn d : Nat) (post : zP) : zK := zRun (zcal zty zcd false (d + 1)) kX2_takes (zLM zn) post
theorem eX2_takes {zn d : Nat} {post : zP} (x1 : Int32) (x2 : Int32) (I : Nat → Nat → Int32) (L : Nat → Nat → Int64) (h : RX2_takes zn d post 0 [some (.ref 55), some (.int x1), some (.int x2)] [] (zSH zn, I, L)) : zcal zty zcd false (d + 2) 26 [.ref 55, .int x1, .int x2] (zSH zn, I, L) 0 0 post := zcal_of (d := d + 1) zmt26 zmc26 rfl (Nat.le_of_ble_eq_true rfl) h
theorem gX2_takes_0 {zn d : Nat} {post : zP} (x1 : Int32) (x2 : Int32) (I : Nat → Nat → Int32) (L : Nat → Nat → Int64) (h : vp_in (fX2_gateFor x1) 7 ∧ (vp_in x2 5 ∧ (post (some (.int ((((I 57 ((fX2_gateFor x1)).toNatClampNeg) * (I 58 (x2).toNatClampNeg)) + (99 : Int32)) / (100 : Int32)))) (zSH zn, I, L)))) : RX2_takes zn d post 0 [some (.ref 55), some (.int x1), some (.int x2)] [] (zSH zn, I, L) := fun P hw hc => hc _ tX2_takes_0 _ _ _ (hc _ tX2_takes_1 _ _ _ (⟨_, _, sh55, (by decide), rfl, hc _ tX2_takes_4 _ _ _ (hc _ tX2_takes_5 _ _ _ (⟨Nat.le_of_ble_eq_true rfl, Nat.le_of_ble_eq_true rfl, zl1, zl2, _, ctX2_gateFor x1 I L, fun r u k1 => by obtain ⟨rfl, rfl⟩ := k1; exact ⟨zl3, zl4, hc _ tX2_takes_8 _ _ _ (⟨_, _, _, sh57, Or.inl ⟨rfl, (by decide)⟩, h.1, hc _ tX2_takes_9 _ _ _ (hc _ tX2_takes_10 _ _ _ (⟨_, _, sh55, (by decide), rfl, hc _ tX2_takes_13 _ _ _ (hc _ tX2_takes_14 _ _ _ (⟨_, _, _, sh58, Or.inl ⟨rfl, (by decide)⟩, h.2.1, hc _ tX2_takes_15 _ _ _ (hc _ tX2_takes_16 _ _ _ (hc _ tX2_takes_18 _ _ _ (hc _ tX2_takes_19 _ _ _ (hc _ tX2_takes_21 _ _ _ (⟨by decide, hc _ tX2_takes_22 _ _ _ (⟨nofun, rfl, rfl, h.2.2⟩)⟩)))))⟩))⟩))⟩)⟩⟩))⟩))
theorem ctX2_takes {zn d : Nat} (x1 : Int32) (x2 : Int32) (I : Nat → Nat → Int32) (L : Nat → Nat → Int64) (k : Nat) (c : Nat) (q0 : x1 = nI k ∧ k < 26) (q1 : x2 = nI c ∧ c < 5) : zcal zty zcd false (d + 2) 26 [.ref 55, .int x1, .int x2] (zSH zn, I, L) 0 0 (fun r u => r = some (.int (dtm (I 57) (I 58 c) k)) ∧ u = (zSH zn, I, L)) := by
  obtain ⟨rfl, hk⟩ := q0
  obtain ⟨rfl, hc⟩ := q1
  refine eX2_takes _ _ I L (gX2_takes_0 _ _ I L ?_)
  have hg := gk_lt k hk
  rw [gk_C k hk, nI_clamp (by omega), nI_clamp (by omega)]
  exact ⟨vin_nI hg (by decide), vin_nI hc (by decide), rfl, rfl⟩
def wr2 (I : Nat → Nat → Int32) (p q : Nat) (N : Nat → Int32 × Int32) : Nat → Nat → Int32 := zrI (zrI I p (fun j => (N j).1)) q (fun j => (N j).2)
theorem wr2_p {I : Nat → Nat → Int32} {p q : Nat} {N : Nat → Int32 × Int32} (h : p ≠ q) {j : Nat} : wr2 I p q N p j = (N j).1 := by unfold wr2; rw [zrI_n h, zrI_s]
theorem wr2_q {I : Nat → Nat → Int32} {p q : Nat} {N : Nat → Int32 × Int32} {j : Nat} : wr2 I p q N q j = (N j).2 := by unfold wr2; rw [zrI_s]
theorem wr2_n {I : Nat → Nat → Int32} {p q : Nat} {N : Nat → Int32 × Int32} {j : Nat} (h : j ≠ p) (h2 : j ≠ q) : wr2 I p q N j = I j := by unfold wr2; rw [zrI_n h2, zrI_n h]
theorem wr2_set {I : Nat → Nat → Int32} {p q : Nat} {N : Nat → Int32 × Int32} (h : p ≠ q) {s : Nat} {x y : Int32} : zi (zi (wr2 I p q N) p s x) q s y = wr2 I p q (fun j => if j = s then (x, y) else N j) := by
  funext a b
  rw [zi_at, zi_at]
  by_cases hq : a = q
  · subst hq
    rw [wr2_q, wr2_q]
    by_cases hb : b = s
    · subst hb; simp
    · have : ¬ (a = p ∧ b = s) := fun z => hb z.2
      rw [if_neg (fun z => hb z.2), if_neg this, if_neg hb]
  · by_cases hp : a = p
    · subst hp
      rw [wr2_p h, wr2_p h]
      by_cases hb : b = s
      · subst hb; simp [hq]
      · rw [if_neg (fun z => hb z.2), if_neg (fun z => hb z.2), if_neg hb]
    · rw [if_neg (fun z => hq z.1), if_neg (fun z => hp z.1), wr2_n hp hq, wr2_n hp hq]
theorem wr2_self {I : Nat → Nat → Int32} {p q : Nat} (h : p ≠ q) : wr2 I p q (fun j => (I p j, I q j)) = I := by
  funext a
  by_cases hq : a = q
  · subst hq; funext b; rw [wr2_q]
  · by_cases hp : a = p
    · subst hp; funext b; rw [wr2_p h]
    · rw [wr2_n hp hq]
theorem zi_sf {I : Nat → Nat → Int32} {k i : Nat} : zi I k i (I k i) = I := by
  funext a b
  rw [zi_at]
  by_cases h : a = k ∧ b = i
  · rw [if_pos h, h.1, h.2]
  · rw [if_neg h]
def lt2 (a b : Int32 × Int32) : Int32 × Int32 := if b.1 ≤ a.1 then a else b
def at2 (I : Nat → Nat → Int32) (p q s : Nat) : Int32 × Int32 := (I p s, I q s)
def pkT (I : Nat → Nat → Int32) (k s : Nat) : Int32 × Int32 := if k = 21 then at2 I 65 66 s else if k = 25 then lt2 (lt2 (at2 I 65 66 s) (at2 I 65 66 (s + 1))) (at2 I 65 66 (s + 2)) else lt2 (at2 I 65 66 s) (at2 I 65 66 (s + 1))
def up1 (I : Nat → Nat → Int32) (p q s j : Nat) : Nat → Nat → Int32 := zi (zi I p s (lt2 (at2 I p q s) (at2 I p q (s + j))).1) q s (lt2 (at2 I p q s) (at2 I p q (s + j))).2
theorem up1_le {I : Nat → Nat → Int32} {p q s j : Nat} (h : p ≠ q) (hc : I p (s + j) ≤ I p s) : up1 I p q s j = I := by
  unfold up1 lt2 at2
  rw [if_pos hc]
  dsimp only
  rw [zi_sf, zi_sf]
theorem up1_gt {I : Nat → Nat → Int32} {p q s j : Nat} (h : q ≠ p) (hc : ¬ I p (s + j) ≤ I p s) : up1 I p q s j = zi (zi I p s (I p (s + j))) q s ((zi I p s (I p (s + j))) q (s + j)) := by
  unfold up1 lt2 at2
  rw [if_neg hc, zi_ne h]
theorem up1_2 {I : Nat → Nat → Int32} {p q s : Nat} (h : p ≠ q) : up1 (up1 I p q s 1) p q s 2 = zi (zi I p s (lt2 (lt2 (at2 I p q s) (at2 I p q (s + 1))) (at2 I p q (s + 2))).1) q s (lt2 (lt2 (at2 I p q s) (at2 I p q (s + 1))) (at2 I p q (s + 2))).2 := by
  have e1 : at2 (up1 I p q s 1) p q s = lt2 (at2 I p q s) (at2 I p q (s + 1)) := by
    unfold up1
    unfold at2
    rw [zi_ne h, zi_at, if_pos ⟨rfl, rfl⟩, zi_at, if_pos ⟨rfl, rfl⟩]
  have e2 : at2 (up1 I p q s 1) p q (s + 2) = at2 I p q (s + 2) := by
    unfold up1
    unfold at2
    rw [zi_ne h, zi_at, if_neg (by omega), zi_at, if_neg (by omega), zi_ne h.symm]
  have e3 : up1 (up1 I p q s 1) p q s 2 = zi (zi (up1 I p q s 1) p s (lt2 (at2 (up1 I p q s 1) p q s) (at2 (up1 I p q s 1) p q (s + 2))).1) q s (lt2 (at2 (up1 I p q s 1) p q s) (at2 (up1 I p q s 1) p q (s + 2))).2 := rfl
  rw [e3, e1, e2]
  generalize lt2 (lt2 (at2 I p q s) (at2 I p q (s + 1))) (at2 I p q (s + 2)) = w
  unfold up1
  funext a b
  simp only [zi_at]
  by_cases h1 : a = q ∧ b = s
  · simp only [if_pos h1]
  · by_cases h2 : a = p ∧ b = s
    · simp only [if_neg h1, if_pos h2]
    · simp only [if_neg h1, if_neg h2]
abbrev RX8_takeLatest (zn d : Nat) (post : zP) : zK := zRun (zcal zty zcd false (d + 0)) kX8_takeLatest (zLM zn) post
theorem eX8_takeLatest {zn d : Nat} {post : zP} (x1 : Int32) (x2 : Int32) (I : Nat → Nat → Int32) (L : Nat → Nat → Int64) (h : RX8_takeLatest zn d post 0 [some (.ref 62), some (.int x1), some (.int x2), none, none] [] (zSH zn, I, L)) : zcal zty zcd false (d + 1) 65 [.ref 62, .int x1, .int x2] (zSH zn, I, L) 0 0 post := zcal_of (d := d + 0) zmt65 zmc65 rfl (Nat.le_of_ble_eq_true rfl) h
theorem gX8_takeLatest_0 {zn d : Nat} {post : zP} (x1 : Int32) (x2 : Int32) (I : Nat → Nat → Int32) (L : Nat → Nat → Int64) (h : (¬ x1 = (21 : Int32) → (¬ x1 = (25 : Int32) → RX8_takeLatest zn d post 25 [some (.ref 62), some (.int x1), some (.int x2), some (.int (1 : Int32)), some (.int (1 : Int32))] [] (zSH zn, I, L)) ∧ (x1 = (25 : Int32) → RX8_takeLatest zn d post 25 [some (.ref 62), some (.int x1), some (.int x2), some (.int (2 : Int32)), some (.int (1 : Int32))] [] (zSH zn, I, L))) ∧ (x1 = (21 : Int32) → RX8_takeLatest zn d post 25 [some (.ref 62), some (.int x1), some (.int x2), some (.int (0 : Int32)), some (.int (1 : Int32))] [] (zSH zn, I, L))) : RX8_takeLatest zn d post 0 [some (.ref 62), some (.int x1), some (.int x2), none, none] [] (zSH zn, I, L) := fun P hw hc => hc _ tX8_takeLatest_0 _ _ _ (hc _ tX8_takeLatest_1 _ _ _ (hc _ tX8_takeLatest_3 _ _ _ (⟨fun c1 => hc _ tX8_takeLatest_10 _ _ _ (hc _ tX8_takeLatest_11 _ _ _ (hc _ tX8_takeLatest_13 _ _ _ (⟨fun c3 => hc _ tX8_takeLatest_20 _ _ _ (hc _ tX8_takeLatest_21 _ _ _ (hc _ tX8_takeLatest_22 _ _ _ (hc _ tX8_takeLatest_23 _ _ _ (((h.1 c1).1 c3) P hw hc)))), fun c4 => hc _ tX8_takeLatest_16 _ _ _ (hc _ tX8_takeLatest_17 _ _ _ (hc _ tX8_takeLatest_21 _ _ _ (hc _ tX8_takeLatest_22 _ _ _ (hc _ tX8_takeLatest_23 _ _ _ (((h.1 c1).2 c4) P hw hc)))))⟩))), fun c2 => hc _ tX8_takeLatest_6 _ _ _ (hc _ tX8_takeLatest_7 _ _ _ (hc _ tX8_takeLatest_21 _ _ _ (hc _ tX8_takeLatest_22 _ _ _ (hc _ tX8_takeLatest_23 _ _ _ ((h.2 c2) P hw hc)))))⟩)))
theorem gX8_takeLatest_25 {zn d : Nat} {post : zP} (x1 : Int32) (x2 : Int32) (x3 : Int32) (x4 : Int32) (I : Nat → Nat → Int32) (L : Nat → Nat → Int64) (h : (x3 < x4 → post none (zSH zn, I, L)) ∧ (¬ x3 < x4 → vp_in (x2 + x4) 18 ∧ (vp_in x2 18 ∧ (((I 65 ((x2 + x4)).toNatClampNeg) ≤ (I 65 (x2).toNatClampNeg) → RX8_takeLatest zn d post 25 [some (.ref 62), some (.int x1), some (.int x2), some (.int x3), some (.int (x4 + (1 : Int32)))] [] (zSH zn, I, L)) ∧ (¬ (I 65 ((x2 + x4)).toNatClampNeg) ≤ (I 65 (x2).toNatClampNeg) → RX8_takeLatest zn d post 25 [some (.ref 62), some (.int x1), some (.int x2), some (.int x3), some (.int (x4 + (1 : Int32)))] [] (zSH zn, (zi (zi I 65 (x2).toNatClampNeg (I 65 ((x2 + x4)).toNatClampNeg)) 66 (x2).toNatClampNeg ((zi I 65 (x2).toNatClampNeg (I 65 ((x2 + x4)).toNatClampNeg)) 66 ((x2 + x4)).toNatClampNeg)), L)))))) : RX8_takeLatest zn d post 25 [some (.ref 62), some (.int x1), some (.int x2), some (.int x3), some (.int x4)] [] (zSH zn, I, L) := fun P hw hc => hc _ tX8_takeLatest_25 _ _ _ (hc _ tX8_takeLatest_27 _ _ _ (hc _ tX8_takeLatest_28 _ _ _ (⟨fun c1 => hc _ tX8_takeLatest_85 _ _ _ (⟨rfl, rfl, (h.1 c1)⟩), fun c2 => hc _ tX8_takeLatest_31 _ _ _ (hc _ tX8_takeLatest_32 _ _ _ (⟨_, _, sh62, (by decide), rfl, hc _ tX8_takeLatest_35 _ _ _ (hc _ tX8_takeLatest_36 _ _ _ (hc _ tX8_takeLatest_38 _ _ _ (hc _ tX8_takeLatest_39 _ _ _ (⟨_, _, _, sh65, Or.inl ⟨rfl, (by decide)⟩, (h.2 c2).1, hc _ tX8_takeLatest_40 _ _ _ (hc _ tX8_takeLatest_41 _ _ _ (⟨_, _, sh62, (by decide), rfl, hc _ tX8_takeLatest_44 _ _ _ (hc _ tX8_takeLatest_45 _ _ _ (⟨_, _, _, sh65, Or.inl ⟨rfl, (by decide)⟩, (h.2 c2).2.1, hc _ tX8_takeLatest_46 _ _ _ (⟨fun c3 => hc _ tX8_takeLatest_79 _ _ _ (hc _ tX8_takeLatest_82 _ _ _ (((h.2 c2).2.2.1 c3) P hw hc)), fun c4 => hc _ tX8_takeLatest_49 _ _ _ (hc _ tX8_takeLatest_50 _ _ _ (⟨_, _, sh62, (by decide), rfl, hc _ tX8_takeLatest_53 _ _ _ (hc _ tX8_takeLatest_54 _ _ _ (hc _ tX8_takeLatest_55 _ _ _ (⟨_, _, sh62, (by decide), rfl, hc _ tX8_takeLatest_58 _ _ _ (hc _ tX8_takeLatest_59 _ _ _ (hc _ tX8_takeLatest_61 _ _ _ (hc _ tX8_takeLatest_62 _ _ _ (⟨_, _, _, sh65, Or.inl ⟨rfl, (by decide)⟩, (h.2 c2).1, hc _ tX8_takeLatest_63 _ _ _ (⟨_, _, sh65, (by decide), (h.2 c2).2.1, hc _ tX8_takeLatest_64 _ _ _ (hc _ tX8_takeLatest_65 _ _ _ (⟨_, _, sh62, (by decide), rfl, hc _ tX8_takeLatest_68 _ _ _ (hc _ tX8_takeLatest_69 _ _ _ (hc _ tX8_takeLatest_70 _ _ _ (⟨_, _, sh62, (by decide), rfl, hc _ tX8_takeLatest_73 _ _ _ (hc _ tX8_takeLatest_74 _ _ _ (hc _ tX8_takeLatest_76 _ _ _ (hc _ tX8_takeLatest_77 _ _ _ (⟨_, _, _, sh66, Or.inl ⟨rfl, (by decide)⟩, (h.2 c2).1, hc _ tX8_takeLatest_78 _ _ _ (⟨_, _, sh66, (by decide), (h.2 c2).2.1, hc _ tX8_takeLatest_79 _ _ _ (hc _ tX8_takeLatest_82 _ _ _ (((h.2 c2).2.2.2 c4) P hw hc))⟩)⟩))))⟩)))⟩))⟩)⟩))))⟩)))⟩))⟩)⟩))⟩))⟩))))⟩))⟩)))
theorem ctX8_takeLatest {zn d : Nat} (x1 : Int32) (x2 : Int32) (I : Nat → Nat → Int32) (L : Nat → Nat → Int64) (k : Nat) (s : Nat) (q0 : x1 = nI k ∧ k < 26) (q1 : x2 = nI s ∧ s < 16) : zcal zty zcd false (d + 1) 65 [.ref 62, .int x1, .int x2] (zSH zn, I, L) 0 0 (fun r u => r = none ∧ u = (zSH zn, (zi (zi I 65 s (pkT I k s).1) 66 s (pkT I k s).2), L)) := by
  obtain ⟨rfl, hk⟩ := q0
  obtain ⟨rfl, hs⟩ := q1
  have hvs : vp_in (nI s) 18 := vin_nI (by omega) (by decide)
  have stp : ∀ (J : Nat → Nat → Int32) (o j : Nat), j ≤ o → o ≤ 2 → RX8_takeLatest zn d (fun r u => r = none ∧ u = (zSH zn, (zi (zi I 65 s (pkT I k s).1) 66 s (pkT I k s).2), L)) 25 [some (.ref 62), some (.int (nI k)), some (.int (nI s)), some (.int (nI o)), some (.int (nI (j + 1)))] [] (zSH zn, up1 J 65 66 s j, L) → RX8_takeLatest zn d (fun r u => r = none ∧ u = (zSH zn, (zi (zi I 65 s (pkT I k s).1) 66 s (pkT I k s).2), L)) 25 [some (.ref 62), some (.int (nI k)), some (.int (nI s)), some (.int (nI o)), some (.int (nI j))] [] (zSH zn, J, L) := fun J o j hj ho hR => by
    refine gX8_takeLatest_25 _ _ _ _ J L ⟨fun h => absurd h (by rw [nI_ltI (by omega) (by omega)]; omega), fun _ => ?_⟩
    rw [nI_add, nI_clamp (by omega), nI_clamp (by omega), nI_1]
    refine ⟨vin_nI (by omega) (by decide), hvs, fun h => ?_, fun h => ?_⟩
    · rw [up1_le (by decide) h] at hR; exact hR
    · rw [up1_gt (by decide) h] at hR; exact hR
  have fin : ∀ (J : Nat → Nat → Int32) (o : Nat), o ≤ 2 → J = zi (zi I 65 s (pkT I k s).1) 66 s (pkT I k s).2 → RX8_takeLatest zn d (fun r u => r = none ∧ u = (zSH zn, (zi (zi I 65 s (pkT I k s).1) 66 s (pkT I k s).2), L)) 25 [some (.ref 62), some (.int (nI k)), some (.int (nI s)), some (.int (nI o)), some (.int (nI (o + 1)))] [] (zSH zn, J, L) := fun J o ho e => by
    refine gX8_takeLatest_25 _ _ _ _ J L ⟨fun _ => ⟨rfl, by rw [e]⟩, fun h => absurd (by rw [nI_ltI (by omega) (by omega)]; omega) h⟩
  refine eX8_takeLatest _ _ I L (gX8_takeLatest_0 _ _ I L ⟨fun h => ⟨fun h2 => ?_, fun h2 => ?_⟩, fun h => ?_⟩)
  · have k1 : k ≠ 21 := fun z => h (by rw [z]; rfl)
    have k2 : k ≠ 25 := fun z => h2 (by rw [z]; rfl)
    refine stp I 1 1 (by decide) (by decide) (fin _ 1 (by decide) ?_)
    unfold pkT
    rw [if_neg k1, if_neg k2]; rfl
  · have k2 : k = 25 := nI_inj (by omega) (by decide) h2
    refine stp I 2 1 (by decide) (by decide) (stp _ 2 2 (by decide) (by decide) (fin _ 2 (by decide) ?_))
    rw [up1_2 (by decide)]
    unfold pkT
    rw [if_neg (by omega), if_pos k2]
  · have k2 : k = 21 := nI_inj (by omega) (by decide) h
    refine fin I 0 (by decide) ?_
    unfold pkT
    rw [if_pos k2]
    unfold at2
    dsimp only
    rw [zi_sf, zi_sf]
def opG (dt : Nat → Int32) (zc : Nat → Int32) (k : Nat) (a b c : Int32 × Int32) : Int32 × Int32 := if k = 19 then (0, zc 19) else if k = 20 then (0, zc 20) else if k = 21 then (a.1 + dt 21, a.2) else if k = 25 then ((lt2 (lt2 a b) c).1 + dt 25, (lt2 (lt2 a b) c).2) else ((lt2 a b).1 + dt k, (lt2 a b).2)
theorem opG_19 (dt zc : Nat → Int32) (a b c : Int32 × Int32) : opG dt zc 19 a b c = (0, zc 19) := by unfold opG; rw [if_pos rfl]
theorem opG_20 (dt zc : Nat → Int32) (a b c : Int32 × Int32) : opG dt zc 20 a b c = (0, zc 20) := by unfold opG; rw [if_neg (by decide), if_pos rfl]
theorem opG_21 (dt zc : Nat → Int32) (a b c : Int32 × Int32) : opG dt zc 21 a b c = (a.1 + dt 21, a.2) := by unfold opG; rw [if_neg (by decide), if_neg (by decide), if_pos rfl]
theorem opG_25 (dt zc : Nat → Int32) (a b c : Int32 × Int32) : opG dt zc 25 a b c = ((lt2 (lt2 a b) c).1 + dt 25, (lt2 (lt2 a b) c).2) := by unfold opG; rw [if_neg (by decide), if_neg (by decide), if_neg (by decide), if_pos rfl]
theorem opG_m (dt zc : Nat → Int32) {k : Nat} (h : k = 22 ∨ k = 23 ∨ k = 24) (a b c : Int32 × Int32) : opG dt zc k a b c = ((lt2 a b).1 + dt k, (lt2 a b).2) := by unfold opG; rw [if_neg (by omega), if_neg (by omega), if_neg (by omega), if_neg (by omega)]
theorem opG_eq (dt zc : Nat → Int32) : opRel Eq (opG dt zc) (opG dt zc) := opRel_eq (fun k a b c a' b' c' h1 h2 ha hb hc => by
  rcases (show k = 19 ∨ k = 20 ∨ k = 21 ∨ (k = 22 ∨ k = 23 ∨ k = 24) ∨ k = 25 by omega) with rfl | rfl | rfl | h | rfl
  · rw [opG_19, opG_19]
  · rw [opG_20, opG_20]
  · rw [ha (by decide), opG_21, opG_21]
  · have : ar k = 2 := by rcases h with rfl | rfl | rfl <;> rfl
    rw [ha (by omega), hb (by omega), opG_m _ _ h, opG_m _ _ h]
  · rw [ha (by decide), hb (by decide), hc (by decide)])
def enT (I : Nat → Nat → Int32) (c n : Nat) : Int32 × Int32 := (if 6 ≤ n ∧ n < 15 then I c n else 0, nI n)
abbrev RX8_findLine (zn d : Nat) (post : zP) : zK := zRun (zcal zty zcd false (d + 2)) kX8_findLine (zLM zn) post
theorem eX8_findLine {zn d : Nat} {post : zP} (k1 : Nat) (x2 : Int32) (x4 : Int32) (I : Nat → Nat → Int32) (L : Nat → Nat → Int64) (h1 : isX10 k1) (h : RX8_findLine zn d post 0 [some (.ref 62), some (.ref k1), some (.int x2), some (.ref 55), some (.int x4), none, none, none] [] (zSH zn, I, L)) : zcal zty zcd false (d + 3) 64 [.ref 62, .ref k1, .int x2, .ref 55, .int x4] (zSH zn, I, L) 0 0 post := zcal_of (d := d + 2) zmt64 zmc64 rfl (Nat.le_of_ble_eq_true rfl) h
theorem gX8_findLine_0 {zn d : Nat} {post : zP} (k1 : Nat) (x2 : Int32) (x4 : Int32) (I : Nat → Nat → Int32) (L : Nat → Nat → Int64) (h1 : isX10 k1) (h : vp_in x2 19 ∧ (RX8_findLine zn d post 8 [some (.ref 62), some (.ref k1), some (.int x2), some (.ref 55), some (.int x4), some (.int (I (k1 + 2) (x2).toNatClampNeg)), none, none] [] (zSH zn, I, L))) : RX8_findLine zn d post 0 [some (.ref 62), some (.ref k1), some (.int x2), some (.ref 55), some (.int x4), none, none, none] [] (zSH zn, I, L) := fun P hw hc => hc _ tX8_findLine_0 _ _ _ (hc _ tX8_findLine_1 _ _ _ (⟨_, _, (shX10 h1), (geX10 h1), rfl, hc _ tX8_findLine_4 _ _ _ (hc _ tX8_findLine_5 _ _ _ (⟨_, _, _, (shX10_1 h1), Or.inl ⟨rfl, (geX10_1 h1)⟩, h.1, hc _ tX8_findLine_6 _ _ _ (h.2 P hw hc)⟩))⟩))
theorem gX8_findLine_8 {zn d : Nat} {post : zP} (k1 : Nat) (x2 : Int32) (x4 : Int32) (x5 : Int32) (I : Nat → Nat → Int32) (L : Nat → Nat → Int64) (h1 : isX10 k1) (h : vp_in x2 19 ∧ (((I (k1 + 3) (x2).toNatClampNeg) ≤ x5 → post none (zSH zn, I, L)) ∧ (¬ (I (k1 + 3) (x2).toNatClampNeg) ≤ x5 → vp_in x5 200 ∧ (((20 : Int32) < (fX11_kindOf (I (k1 + 1) (x5).toNatClampNeg)) → (∃ (k5 : Nat) (s6 : Nat), ((fX11_kindOf (I (k1 + 1) (x5).toNatClampNeg)) = nI k5 ∧ k5 < 26) ∧ ((fX11_slotOf (I (k1 + 1) (x5).toNatClampNeg)) = nI s6 ∧ s6 < 16) ∧ (vp_in (fX11_slotOf (I (k1 + 1) (x5).toNatClampNeg)) 18 ∧ ((∃ (k8 : Nat) (c9 : Nat), ((fX11_kindOf (I (k1 + 1) (x5).toNatClampNeg)) = nI k8 ∧ k8 < 26) ∧ (x4 = nI c9 ∧ c9 < 5) ∧ (RX8_findLine zn d post 8 [some (.ref 62), some (.ref k1), some (.int x2), some (.ref 55), some (.int x4), some (.int (x5 + (1 : Int32))), none, none] [] (zSH zn, (zi (zi (zi I 65 s6 (pkT I k5 s6).1) 66 s6 (pkT I k5 s6).2) 65 ((fX11_slotOf (I (k1 + 1) (x5).toNatClampNeg))).toNatClampNeg (((zi (zi I 65 s6 (pkT I k5 s6).1) 66 s6 (pkT I k5 s6).2) 65 ((fX11_slotOf (I (k1 + 1) (x5).toNatClampNeg))).toNatClampNeg) + (dtm ((zi (zi I 65 s6 (pkT I k5 s6).1) 66 s6 (pkT I k5 s6).2) 57) ((zi (zi I 65 s6 (pkT I k5 s6).1) 66 s6 (pkT I k5 s6).2) 58 c9) k8))), L))))))) ∧ (¬ (20 : Int32) < (fX11_kindOf (I (k1 + 1) (x5).toNatClampNeg)) → (¬ ((6 ≤ (fX11_kindOf (I (k1 + 1) (x5).toNatClampNeg)) ∧ (fX11_kindOf (I (k1 + 1) (x5).toNatClampNeg)) < 15)) → vp_in (fX11_slotOf (I (k1 + 1) (x5).toNatClampNeg)) 18 ∧ (RX8_findLine zn d post 8 [some (.ref 62), some (.ref k1), some (.int x2), some (.ref 55), some (.int x4), some (.int (x5 + (1 : Int32))), none, none] [] (zSH zn, (zi (zi I 65 ((fX11_slotOf (I (k1 + 1) (x5).toNatClampNeg))).toNatClampNeg (0 : Int32)) 66 ((fX11_slotOf (I (k1 + 1) (x5).toNatClampNeg))).toNatClampNeg (fX11_kindOf (I (k1 + 1) (x5).toNatClampNeg))), L))) ∧ ((6 ≤ (fX11_kindOf (I (k1 + 1) (x5).toNatClampNeg)) ∧ (fX11_kindOf (I (k1 + 1) (x5).toNatClampNeg)) < 15) → vp_in (fX11_kindOf (I (k1 + 1) (x5).toNatClampNeg)) 19 ∧ (vp_in (fX11_slotOf (I (k1 + 1) (x5).toNatClampNeg)) 18 ∧ (RX8_findLine zn d post 8 [some (.ref 62), some (.ref k1), some (.int x2), some (.ref 55), some (.int x4), some (.int (x5 + (1 : Int32))), none, none] [] (zSH zn, (zi (zi I 65 ((fX11_slotOf (I (k1 + 1) (x5).toNatClampNeg))).toNatClampNeg (I 63 ((fX11_kindOf (I (k1 + 1) (x5).toNatClampNeg))).toNatClampNeg)) 66 ((fX11_slotOf (I (k1 + 1) (x5).toNatClampNeg))).toNatClampNeg (fX11_kindOf (I (k1 + 1) (x5).toNatClampNeg))), L))))))))) : RX8_findLine zn d post 8 [some (.ref 62), some (.ref k1), some (.int x2), some (.ref 55), some (.int x4), some (.int x5), none, none] [] (zSH zn, I, L) := fun P hw hc => hc _ tX8_findLine_8 _ _ _ (hc _ tX8_findLine_10 _ _ _ (hc _ tX8_findLine_11 _ _ _ (⟨_, _, (shX10 h1), (geX10 h1), rfl, hc _ tX8_findLine_14 _ _ _ (hc _ tX8_findLine_15 _ _ _ (⟨_, _, _, (shX10_2 h1), Or.inl ⟨rfl, (geX10_2 h1)⟩, h.1, hc _ tX8_findLine_16 _ _ _ (⟨fun c1 => hc _ tX8_findLine_120 _ _ _ (⟨rfl, rfl, (h.2.1 c1)⟩), fun c2 => hc _ tX8_findLine_19 _ _ _ (hc _ tX8_findLine_20 _ _ _ (⟨_, _, (shX10 h1), (geX10 h1), rfl, hc _ tX8_findLine_23 _ _ _ (hc _ tX8_findLine_25 _ _ _ (⟨_, _, _, (shX10_0 h1), Or.inl ⟨rfl, (geX10_0 h1)⟩, (h.2.2 c2).1, hc _ tX8_findLine_26 _ _ _ (⟨Nat.le_of_ble_eq_true rfl, Nat.le_of_ble_eq_true rfl, zl1, zl2, _, ctX11_kindOf (I (k1 + 1) (x5).toNatClampNeg) I L, fun r u k17 => by obtain ⟨rfl, rfl⟩ := k17; exact ⟨zl3, zl4, hc _ tX8_findLine_29 _ _ _ (hc _ tX8_findLine_31 _ _ _ (hc _ tX8_findLine_32 _ _ _ (⟨_, _, (shX10 h1), (geX10 h1), rfl, hc _ tX8_findLine_35 _ _ _ (hc _ tX8_findLine_37 _ _ _ (⟨_, _, _, (shX10_0 h1), Or.inl ⟨rfl, (geX10_0 h1)⟩, (h.2.2 c2).1, hc _ tX8_findLine_38 _ _ _ (⟨Nat.le_of_ble_eq_true rfl, Nat.le_of_ble_eq_true rfl, zl1, zl2, _, ctX11_slotOf (I (k1 + 1) (x5).toNatClampNeg) I L, fun r u k16 => by obtain ⟨rfl, rfl⟩ := k16; exact ⟨zl3, zl4, hc _ tX8_findLine_41 _ _ _ (hc _ tX8_findLine_43 _ _ _ (hc _ tX8_findLine_45 _ _ _ (hc _ tX8_findLine_47 _ _ _ (⟨fun c3 => hc _ tX8_findLine_88 _ _ _ (hc _ tX8_findLine_89 _ _ _ (hc _ tX8_findLine_91 _ _ _ ((by obtain ⟨k5, s6, hg7⟩ := ((h.2.2 c2).2.1 c3); exact hc _ tX8_findLine_93 _ _ _ (⟨⟨_, _, _, rfl, (by decide), sh62⟩, ⟨Nat.le_of_ble_eq_true rfl, Nat.le_of_ble_eq_true rfl, zl1, zl2, _, ctX8_takeLatest (fX11_kindOf (I (k1 + 1) (x5).toNatClampNeg)) (fX11_slotOf (I (k1 + 1) (x5).toNatClampNeg)) I L k5 s6 hg7.1 hg7.2.1, fun r u k12 => by obtain ⟨rfl, rfl⟩ := k12; exact ⟨zl3, zl4, hc _ tX8_findLine_96 _ _ _ (hc _ tX8_findLine_97 _ _ _ (⟨_, _, sh62, (by decide), rfl, hc _ tX8_findLine_100 _ _ _ (hc _ tX8_findLine_102 _ _ _ (⟨⟨rfl, rfl⟩, hc _ tX8_findLine_103 _ _ _ (⟨_, _, _, sh65, Or.inl ⟨rfl, (by decide)⟩, hg7.2.2.1, hc _ tX8_findLine_104 _ _ _ (hc _ tX8_findLine_105 _ _ _ (hc _ tX8_findLine_107 _ _ _ ((by obtain ⟨k8, c9, hg10⟩ := hg7.2.2.2; exact hc _ tX8_findLine_109 _ _ _ (⟨⟨_, _, _, rfl, (by decide), sh55⟩, ⟨Nat.le_of_ble_eq_true rfl, Nat.le_of_ble_eq_true rfl, zl1, zl2, _, ctX2_takes (fX11_kindOf (I (k1 + 1) (x5).toNatClampNeg)) x4 (zi (zi I 65 s6 (pkT I k5 s6).1) 66 s6 (pkT I k5 s6).2) L k8 c9 hg10.1 hg10.2.1, fun r u k11 => by obtain ⟨rfl, rfl⟩ := k11; exact ⟨zl3, zl4, hc _ tX8_findLine_112 _ _ _ (hc _ tX8_findLine_113 _ _ _ (⟨_, _, sh65, (by decide), hg7.2.2.1, hc _ tX8_findLine_114 _ _ _ (hc _ tX8_findLine_117 _ _ _ (hw _ _ _ _ _ (zwk_s (zwk_s (zwk_s (zwk_s (zwk_s (zwk_s (zwk_n (zwk_n zwk_nil)))))))) (hg10.2.2 P hw hc)))⟩))⟩⟩⟩)))))⟩)⟩))⟩))⟩⟩⟩))))), fun c4 => hc _ tX8_findLine_50 _ _ _ (hc _ tX8_findLine_51 _ _ _ (⟨_, _, sh62, (by decide), rfl, hc _ tX8_findLine_54 _ _ _ (hc _ tX8_findLine_56 _ _ _ (hc _ tX8_findLine_58 _ _ _ (⟨Nat.le_of_ble_eq_true rfl, Nat.le_of_ble_eq_true rfl, zl1, zl2, _, ctX11_isWire (fX11_kindOf (I (k1 + 1) (x5).toNatClampNeg)) I L, fun r u k15 => by obtain ⟨rfl, rfl⟩ := k15; exact ⟨zl3, zl4, hc _ tX8_findLine_61 _ _ _ (⟨fun c13 => hc _ tX8_findLine_74 _ _ _ (hc _ tX8_findLine_75 _ _ _ (⟨_, _, sh65, (by decide), (((h.2.2 c2).2.2 c4).1 (zb_e c13)).1, hc _ tX8_findLine_76 _ _ _ (hc _ tX8_findLine_77 _ _ _ (⟨_, _, sh62, (by decide), rfl, hc _ tX8_findLine_80 _ _ _ (hc _ tX8_findLine_82 _ _ _ (hc _ tX8_findLine_84 _ _ _ (⟨_, _, sh66, (by decide), (((h.2.2 c2).2.2 c4).1 (zb_e c13)).1, hc _ tX8_findLine_85 _ _ _ (hc _ tX8_findLine_114 _ _ _ (hc _ tX8_findLine_117 _ _ _ (hw _ _ _ _ _ (zwk_s (zwk_s (zwk_s (zwk_s (zwk_s (zwk_s (zwk_n (zwk_n zwk_nil)))))))) ((((h.2.2 c2).2.2 c4).1 (zb_e c13)).2 P hw hc))))⟩)))⟩))⟩)), fun c14 => hc _ tX8_findLine_64 _ _ _ (hc _ tX8_findLine_65 _ _ _ (⟨_, _, sh62, (by decide), rfl, hc _ tX8_findLine_68 _ _ _ (hc _ tX8_findLine_70 _ _ _ (⟨_, _, _, sh63, Or.inl ⟨rfl, (by decide)⟩, (((h.2.2 c2).2.2 c4).2 (zb_n c14)).1, hc _ tX8_findLine_71 _ _ _ (hc _ tX8_findLine_75 _ _ _ (⟨_, _, sh65, (by decide), (((h.2.2 c2).2.2 c4).2 (zb_n c14)).2.1, hc _ tX8_findLine_76 _ _ _ (hc _ tX8_findLine_77 _ _ _ (⟨_, _, sh62, (by decide), rfl, hc _ tX8_findLine_80 _ _ _ (hc _ tX8_findLine_82 _ _ _ (hc _ tX8_findLine_84 _ _ _ (⟨_, _, sh66, (by decide), (((h.2.2 c2).2.2 c4).2 (zb_n c14)).2.1, hc _ tX8_findLine_85 _ _ _ (hc _ tX8_findLine_114 _ _ _ (hc _ tX8_findLine_117 _ _ _ (hw _ _ _ _ _ (zwk_s (zwk_s (zwk_s (zwk_s (zwk_s (zwk_s (zwk_n (zwk_n zwk_nil)))))))) ((((h.2.2 c2).2.2 c4).2 (zb_n c14)).2.2 P hw hc))))⟩)))⟩))⟩))⟩))⟩))⟩)⟩⟩)))⟩))⟩))))⟩⟩)⟩))⟩)))⟩⟩)⟩))⟩))⟩)⟩))⟩)))
theorem pk_op {dt : Nat → Int32} {k : Nat} (h1 : 21 ≤ k) (h2 : k < 26) (a b c : Int32 × Int32) : opG dt nI k a b c = ((if k = 21 then a else if k = 25 then lt2 (lt2 a b) c else lt2 a b).1 + dt k, (if k = 21 then a else if k = 25 then lt2 (lt2 a b) c else lt2 a b).2) := by
  rcases (show k = 21 ∨ (k = 22 ∨ k = 23 ∨ k = 24) ∨ k = 25 by omega) with rfl | h | rfl
  · rw [opG_21]; rfl
  · rw [opG_m _ _ h, if_neg (by omega), if_neg (by omega)]
  · rw [opG_25, if_neg (by decide), if_pos rfl]
theorem k10_nt {k j : Nat} (h : isX10 k) (hj : j ≤ 6) : k + j ≠ 62 ∧ k + j ≠ 63 ∧ k + j ≠ 64 ∧ k + j ≠ 65 ∧ k + j ≠ 66 := by
  unfold isX10 at h
  simp only [List.mem_cons, List.not_mem_nil, or_false] at h
  omega
theorem zi3 {I : Nat → Nat → Int32} {p q s : Nat} (h : p ≠ q) {a b d : Int32} : zi (zi (zi I p s a) q s b) p s ((zi (zi I p s a) q s b) p s + d) = zi (zi I p s (a + d)) q s b := by
  have e : (zi (zi I p s a) q s b) p s = a := by rw [zi_ne h, zi_at, if_pos ⟨rfl, rfl⟩]
  rw [e]
  funext x y
  simp only [zi_at]
  by_cases h1 : x = p ∧ y = s
  · have : ¬ (x = q ∧ y = s) := fun z => h (h1.1.symm.trans z.1)
    simp only [if_pos h1, if_neg this]
  · simp only [if_neg h1]
theorem ctX8_findLine {zn d : Nat} (k1 : Nat) (x2 : Int32) (x4 : Int32) (I : Nat → Nat → Int32) (L : Nat → Nat → Int64) (ks : List Nat) (f : Nat) (c : Nat) (h1 : isX10 k1) (q0 : lnC I k1 (tn x2) ks f) (q1 : wfl ks) (q2 : zs x2 18) (q3 : x4 = nI c ∧ c < 5) : zcal zty zcd false (d + 3) 64 [.ref 62, .ref k1, .int x2, .ref 55, .int x4] (zSH zn, I, L) 0 0 (fun r u => ∃ (N : Nat → Int32 × Int32), r = none ∧ u = (zSH zn, (wr2 I 65 66 N), L) ∧ (N 0 = ev (opG (dtm (I 57) (I 58 c)) nI) (enT I 63) (0, 0) ks)) := by
  obtain ⟨n, hn, rfl⟩ := q2
  obtain ⟨rfl, hc⟩ := q3
  have tnn : tn (nI n) = n := tn_nI (by omega)
  have tnn2 : (nI n).toNatClampNeg = n := tnn
  rw [tnn] at q0
  obtain ⟨l1, l2, l3, l4⟩ := q0
  have hv : vp_in (nI n) 19 := vin_nI (by omega) (by omega)
  have hk := fun j hj => k10_nt (k := k1) (j := j) h1 hj
  refine eX8_findLine _ _ _ I L h1 (gX8_findLine_0 _ _ _ I L h1 ⟨hv, ?_⟩)
  rw [tnn2, l2]
  generalize hdt : dtm (I 57) (I 58 c) = dt
  have loop : ∀ (m i : Nat), i + m = ks.length → RX8_findLine zn d (fun r u => ∃ (N : Nat → Int32 × Int32), r = none ∧ u = (zSH zn, (wr2 I 65 66 N), L) ∧ (N 0 = ev (opG dt nI) (enT I 63) (0, 0) ks)) 8 [some (.ref 62), some (.ref k1), some (.int (nI n)), some (.ref 55), some (.int (nI c)), some (.int (nI (f + i))), none, none] [] (zSH zn, wr2 I 65 66 (rpn (opG dt nI) (enT I 63) (0, fun j => (I 65 j, I 66 j)) (ks.take i)).2, L) := by
    intro m
    induction m with
    | zero =>
      intro i hi
      refine gX8_findLine_8 _ _ _ _ _ L h1 ⟨hv, fun _ => ⟨_, rfl, rfl, ?_⟩, fun hc => absurd ?_ hc⟩
      · rw [List.take_of_length_le (by omega), ev_any (opG_eq dt nI) q1 _ (0, 0)]
      · rw [tnn2, wr2_n (hk 3 (by decide)).2.2.2.1 (hk 3 (by decide)).2.2.2.2, l3, nI_leI (by omega) (by omega)]; omega
    | succ m ih =>
      intro i hi
      have hil : i < ks.length := by omega
      obtain ⟨x, hx⟩ : ∃ x, ks[i]? = some x := ⟨_, List.getElem?_eq_getElem hil⟩
      obtain ⟨x1, x2, x3⟩ := okd_at q1.1 hx
      have e0 : (nI (f + i)).toNatClampNeg = f + i := nI_clamp (by omega)
      obtain ⟨e2, e3⟩ := tok_k q1.1 hx
      have hd : (rpn (opG dt nI) (enT I 63) (0, fun j => (I 65 j, I 66 j)) (ks.take i)).1 = depd 0 (ks.take i) := rpn_dep _ _ _ _
      have hih := ih (i + 1) (by omega)
      rw [rpn_succ hx] at hih
      unfold stp at hih
      rw [hd] at hih
      dsimp only at hih
      generalize (rpn (opG dt nI) (enT I 63) (0, fun j => (I 65 j, I 66 j)) (ks.take i)).2 = N at hih ⊢
      have e1 : (wr2 I 65 66 N) (k1 + 1) (f + i) = nI (tokv ks i) := by rw [wr2_n (hk 1 (by decide)).2.2.2.1 (hk 1 (by decide)).2.2.2.2]; exact l4 i x hx
      generalize hS : depd 0 (ks.take i) - ar x = S at e3 x3 hih
      have e4 : (nI S).toNatClampNeg = S := nI_clamp (by omega)
      have hvS : vp_in (nI S) 18 := vin_nI (by omega) (by omega)
      refine gX8_findLine_8 _ _ _ _ _ L h1 ⟨hv, fun hc => absurd hc ?_, fun _ => ⟨vin_nI (by omega) (by omega), ?_⟩⟩
      · rw [tnn2, wr2_n (hk 3 (by decide)).2.2.2.1 (hk 3 (by decide)).2.2.2.2, l3, nI_leI (by omega) (by omega)]; omega
      · have e8 : nI (f + i) + 1 = nI (f + (i + 1)) := nI_1 _
        rw [e0, e1, e2, e3, e4, e8]
        refine ⟨fun h20 => ⟨x, S, ⟨rfl, x1⟩, ⟨rfl, by omega⟩, hvS, x, c, ⟨rfl, x1⟩, ⟨rfl, hc⟩, ?_⟩, fun h20 => ?_⟩
        · have hx20 : 20 < x := by rw [nl 20, nI_ltI (by decide) (by omega)] at h20; omega
          have ed : dtm ((zi (zi (wr2 I 65 66 N) 65 S (pkT (wr2 I 65 66 N) x S).1) 66 S (pkT (wr2 I 65 66 N) x S).2) 57) ((zi (zi (wr2 I 65 66 N) 65 S (pkT (wr2 I 65 66 N) x S).1) 66 S (pkT (wr2 I 65 66 N) x S).2) 58 c) x = dt x := by
            rw [zi_ne (by decide), zi_ne (by decide), wr2_n (by decide) (by decide), zi_ne (by decide), zi_ne (by decide), wr2_n (by decide) (by decide), hdt]
          rw [ed, zi3 (by decide), wr2_set (by decide)]
          rw [if_neg (by omega), pk_op (by omega) x1] at hih
          have ea : ∀ j, at2 (wr2 I 65 66 N) 65 66 j = N j := fun j => by unfold at2; rw [wr2_p (by decide), wr2_q]
          have ep : pkT (wr2 I 65 66 N) x S = (if x = 21 then N S else if x = 25 then lt2 (lt2 (N S) (N (S + 1))) (N (S + 2)) else lt2 (N S) (N (S + 1))) := by
            unfold pkT
            rw [ea, ea, ea]
          rw [ep]
          exact hih
        · have hx20 : x ≤ 20 := by
            refine Nat.le_of_not_lt (fun z => h20 ?_)
            rw [nl 20, nI_ltI (by decide) (by omega)]; exact z
          have e7 : (nI x).toNatClampNeg = x := nI_clamp (by omega)
          have hstep : (if x < 19 then enT I 63 x else opG dt nI x (N S) (N (S + 1)) (N (S + 2))) = (if 6 ≤ x ∧ x < 15 then I 63 x else 0, nI x) := by
            by_cases hx19 : x < 19
            · rw [if_pos hx19]; rfl
            · rw [if_neg hx19, if_neg (by omega)]
              rcases (show x = 19 ∨ x = 20 by omega) with rfl | rfl
              · rw [opG_19]
              · rw [opG_20]
          rw [hstep] at hih
          rw [wire_nI (by omega)]
          refine ⟨fun h15 => ⟨hvS, ?_⟩, fun h15 => ⟨vin_nI (by omega) (by omega), hvS, ?_⟩⟩
          · rw [wr2_set (by decide)]
            rw [if_neg h15] at hih
            exact hih
          · rw [wr2_set (by decide), e7, wr2_n (by decide) (by decide)]
            rw [if_pos h15] at hih
            exact hih
  have h00 := loop ks.length 0 (by omega)
  rw [Nat.add_zero] at h00
  have e9 : (rpn (opG dt nI) (enT I 63) (0, fun j => (I 65 j, I 66 j)) (ks.take 0)).2 = fun j => (I 65 j, I 66 j) := rfl
  rw [e9, wr2_self (by decide)] at h00
  exact h00

