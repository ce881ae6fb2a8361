/-! PARTS -/
noncomputable def sm (V : zVw) (e : Nat) (C : Nat → Bool) (x t u : Nat) : Bool := C u && decide (FM V e u x = FM V e t x)
noncomputable def grp (V : zVw) (e : Nat) (C : Nat → Bool) (x t : Nat) : Nat := cnt (sm V e C x t) 39
theorem grp_cong {V : zVw} {e : Nat} {C : Nat → Bool} {x t w : Nat} (h : FM V e t x = FM V e w x) : grp V e C x t = grp V e C x w := by
  unfold grp sm
  rw [h]
theorem grp_le {V : zVw} {e : Nat} {C : Nat → Bool} {x t : Nat} : grp V e C x t ≤ 39 := cnt_le _ _
def mxT (V : zVw) (e : Nat) (C : Nat → Bool) (x n g : Nat) : Prop := (∀ w, w < n → C w = true → grp V e C x w ≤ g) ∧ (g = 0 ∨ ∃ w, w < n ∧ C w = true ∧ grp V e C x w = g)
theorem mxT_one {V : zVw} {e : Nat} {C : Nat → Bool} {x n g k : Nat} (h : mxT V e C x n g) (h2 : mxT V e C x n k) : g = k := by
  have a : g ≤ k := by
    rcases h.2 with z | ⟨w, a, b, c⟩
    · omega
    · rw [← c]; exact h2.1 w a b
  have b : k ≤ g := by
    rcases h2.2 with z | ⟨w, a, b, c⟩
    · omega
    · rw [← c]; exact h.1 w a b
  omega
theorem mxT_le {V : zVw} {e : Nat} {C : Nat → Bool} {x n g : Nat} (h : mxT V e C x n g) : g ≤ 39 := by
  rcases h.2 with z | ⟨w, a, b, c⟩
  · omega
  · rw [← c]; exact grp_le
theorem mxT_up {V : zVw} {e : Nat} {C : Nat → Bool} {x n g : Nat} (h : mxT V e C x n g) (hc : C n = true) : mxT V e C x (n + 1) (if g < grp V e C x n then grp V e C x n else g) := by
  refine ⟨fun w hw hcw => ?_, ?_⟩
  · by_cases hwn : w = n
    · subst hwn
      split <;> omega
    · have := h.1 w (by omega) hcw
      split <;> omega
  · split
    · exact Or.inr ⟨n, by omega, hc, rfl⟩
    · rcases h.2 with z | ⟨w, a, b, c⟩
      · exact Or.inl z
      · exact Or.inr ⟨w, by omega, b, c⟩
theorem mxT_no {V : zVw} {e : Nat} {C : Nat → Bool} {x n g : Nat} (h : mxT V e C x n g) (hc : C n = true → grp V e C x n ≤ g) : mxT V e C x (n + 1) g := by
  refine ⟨fun w hw hcw => ?_, ?_⟩
  · by_cases hwn : w = n
    · subst hwn; exact hc hcw
    · exact h.1 w (by omega) hcw
  · rcases h.2 with z | ⟨w, a, b, c⟩
    · exact Or.inl z
    · exact Or.inr ⟨w, by omega, b, c⟩
theorem lsb_0 {x : Int64} {t : Nat} (ht : t < 64) : (lg_cmp (((x).toUInt64 >>> ((nI t).toInt64.toUInt64 &&& Int64.toUInt64 63)).toInt64 &&& (1 : Int64)) (0 : Int64) = 0) ↔ ¬ bt x t = true := by
  rw [lg_cmp_eq, and_1, shr_bt (shT64 t ht) ht, Nat.add_zero]
  cases bt x t <;> decide
abbrev RX9_greatestAlike (zn d : Nat) (post : zP) : zK := zRun (zcal zty zcd false (d + 2)) kX9_greatestAlike (zLM zn) post
theorem eX9_greatestAlike {zn d : Nat} {post : zP} (x1 : Int64) (I : Nat → Nat → Int32) (L : Nat → Nat → Int64) (h : RX9_greatestAlike zn d post 0 [some (.ref 73), some (.long x1), none, none, none, none, none, none, none] [] (zSH zn, I, L)) : zcal zty zcd false (d + 3) 78 [.ref 73, .long x1] (zSH zn, I, L) 0 0 post := zcal_of (d := d + 2) zmt78 zmc78 rfl (Nat.le_of_ble_eq_true rfl) h
theorem gX9_greatestAlike_0 {zn d : Nat} {post : zP} (x1 : Int64) (I : Nat → Nat → Int32) (L : Nat → Nat → Int64) (h : RX9_greatestAlike zn d post 8 [some (.ref 73), some (.long x1), none, some (.int (0 : Int32)), some (.long x1), none, some (.int (0 : Int32)), none, none] [] (zSH zn, I, L)) : RX9_greatestAlike zn d post 0 [some (.ref 73), some (.long x1), none, none, none, none, none, none, none] [] (zSH zn, I, L) := fun P hw hc => hc _ tX9_greatestAlike_0 _ _ _ (hc _ tX9_greatestAlike_1 _ _ _ (hc _ tX9_greatestAlike_2 _ _ _ (hc _ tX9_greatestAlike_3 _ _ _ (hc _ tX9_greatestAlike_5 _ _ _ (hc _ tX9_greatestAlike_6 _ _ _ (h P hw hc))))))
theorem gX9_greatestAlike_8 {zn d : Nat} {post : zP} (x1 : Int64) (x3 : Int32) (x4 : Int64) (x6 : Int32) (I : Nat → Nat → Int32) (L : Nat → Nat → Int64) (h : ((38 : Int32) < x6 → post (some (.int x3)) (zSH zn, I, L)) ∧ (¬ (38 : Int32) < x6 → ((lg_cmp (((x4).toUInt64 >>> ((x6).toInt64.toUInt64 &&& Int64.toUInt64 63)).toInt64 &&& (1 : Int64)) (0 : Int64)) = 0 → RX9_greatestAlike zn d post 8 [some (.ref 73), some (.long x1), none, some (.int x3), some (.long x4), none, some (.int (x6 + (1 : Int32))), none, none] [] (zSH zn, I, L)) ∧ (¬ (lg_cmp (((x4).toUInt64 >>> ((x6).toInt64.toUInt64 &&& Int64.toUInt64 63)).toInt64 &&& (1 : Int64)) (0 : Int64)) = 0 → (∃ (V5 : zVw) (e6 : Nat) (x7 : Nat) (t8 : Nat), (okV V5) ∧ (mdL L V5 e6 x7) ∧ (x6 = nI t8 ∧ t8 < 39) ∧ ((∃ (V11 : zVw) (e12 : Nat) (x13 : Nat) (F14 : Nat), (okV V11) ∧ (mdL L V11 e12 x13) ∧ ((nI (FM V5 e6 t8 x7)) = nI F14 ∧ okF F14) ∧ (∀ (v10 : Int64), (∀ t, t < 64 → (bt v10 t = true ↔ t < 39 ∧ FM V11 e12 t x13 = F14)) → RX9_greatestAlike zn d post 8 [some (.ref 73), some (.long x1), none, some (.int (if x3 < (fJ13_bitCount_95d88 (x4 &&& v10)) then (fJ13_bitCount_95d88 (x4 &&& v10)) else x3)), some (.long (x4 &&& ((x4 &&& v10) ^^^ (-1 : Int64)))), none, some (.int (x6 + (1 : Int32))), none, none] [] (zSH zn, I, L)))))))) : RX9_greatestAlike zn d post 8 [some (.ref 73), some (.long x1), none, some (.int x3), some (.long x4), none, some (.int x6), none, none] [] (zSH zn, I, L) := fun P hw hc => hc _ tX9_greatestAlike_8 _ _ _ (hc _ tX9_greatestAlike_10 _ _ _ (hc _ tX9_greatestAlike_12 _ _ _ (⟨fun c1 => hc _ tX9_greatestAlike_69 _ _ _ (hc _ tX9_greatestAlike_70 _ _ _ (⟨nofun, rfl, rfl, (h.1 c1)⟩)), fun c2 => hc _ tX9_greatestAlike_15 _ _ _ (hc _ tX9_greatestAlike_17 _ _ _ (hc _ tX9_greatestAlike_19 _ _ _ (hc _ tX9_greatestAlike_20 _ _ _ (hc _ tX9_greatestAlike_21 _ _ _ (hc _ tX9_greatestAlike_22 _ _ _ (hc _ tX9_greatestAlike_23 _ _ _ (hc _ tX9_greatestAlike_24 _ _ _ (⟨fun c3 => hc _ tX9_greatestAlike_63 _ _ _ (hc _ tX9_greatestAlike_66 _ _ _ (((h.2 c2).1 c3) P hw hc)), fun c4 => hc _ tX9_greatestAlike_27 _ _ _ (hc _ tX9_greatestAlike_29 _ _ _ (hc _ tX9_greatestAlike_30 _ _ _ (hc _ tX9_greatestAlike_31 _ _ _ ((by obtain ⟨V5, e6, x7, t8, hg9⟩ := ((h.2 c2).2 c4); exact hc _ tX9_greatestAlike_33 _ _ _ (⟨⟨_, _, _, rfl, (by decide), sh73⟩, ⟨Nat.le_of_ble_eq_true rfl, Nat.le_of_ble_eq_true rfl, zl1, zl2, _, ctX9_failsOf x6 I L V5 e6 x7 t8 hg9.1 hg9.2.1 hg9.2.2.1, fun r u k19 => by obtain ⟨rfl, rfl⟩ := k19; exact ⟨zl3, zl4, (by obtain ⟨V11, e12, x13, F14, hg15⟩ := hg9.2.2.2; exact hc _ tX9_greatestAlike_36 _ _ _ (⟨⟨_, _, _, rfl, (by decide), sh73⟩, ⟨Nat.le_of_ble_eq_true rfl, Nat.le_of_ble_eq_true rfl, zl1, zl2, _, ctX9_lanesFailing (nI (FM V5 e6 t8 x7)) I L V11 e12 x13 F14 hg15.1 hg15.2.1 hg15.2.2.1, fun r u k18 => by obtain ⟨v10, rfl, rfl, p16⟩ := k18; exact ⟨zl3, zl4, hc _ tX9_greatestAlike_39 _ _ _ (hc _ tX9_greatestAlike_40 _ _ _ (hc _ tX9_greatestAlike_42 _ _ _ (hc _ tX9_greatestAlike_43 _ _ _ (hc _ tX9_greatestAlike_45 _ _ _ (⟨Nat.le_of_ble_eq_true rfl, Nat.le_of_ble_eq_true rfl, zl1, zl2, _, ctJ13_bitCount_95d88 (x4 &&& v10) I L, fun r u k17 => by obtain ⟨rfl, rfl⟩ := k17; exact ⟨zl3, zl4, hc _ tX9_greatestAlike_48 _ _ _ (⟨Nat.le_of_ble_eq_true rfl, Nat.le_refl _, Nat.le_refl _, hc _ tX9_greatestAlike_51 _ _ _ (hc _ tX9_greatestAlike_52 _ _ _ (hc _ tX9_greatestAlike_54 _ _ _ (hc _ tX9_greatestAlike_56 _ _ _ (hc _ tX9_greatestAlike_59 _ _ _ (hc _ tX9_greatestAlike_60 _ _ _ (hc _ tX9_greatestAlike_61 _ _ _ (hc _ tX9_greatestAlike_63 _ _ _ (hc _ tX9_greatestAlike_66 _ _ _ (hw _ _ _ _ _ (zwk_s (zwk_s (zwk_s (zwk_s (zwk_s (zwk_s (zwk_s (zwk_n (zwk_s zwk_nil))))))))) ((hg15.2.2.2 v10 p16) P hw hc))))))))))⟩)⟩⟩)))))⟩⟩⟩))⟩⟩⟩))))))⟩))))))))⟩)))
theorem ctX9_greatestAlike {zn d : Nat} (x1 : Int64) (I : Nat → Nat → Int32) (L : Nat → Nat → Int64) (V : zVw) (e : Nat) (x : Nat) (C : Nat → Bool) (q0 : okV V) (q1 : mdL L V e x) (q2 : ∀ t, t < 64 → (bt x1 t = true ↔ t < 39 ∧ C t = true)) : zcal zty zcd false (d + 3) 78 [.ref 73, .long x1] (zSH zn, I, L) 0 0 (fun r u => ∃ (g : Nat), r = some (.int (nI g)) ∧ u = (zSH zn, I, L) ∧ (mxT V e C x 39 g)) := by
  have loop : ∀ t (p : Nat × Int64), t ≤ 39 → (mxT V e C x t p.1 ∧ ∀ u, u < 64 → (bt p.2 u = true ↔ u < 39 ∧ C u = true ∧ ∀ w, w < t → C w = true → FM V e u x ≠ FM V e w x)) → RX9_greatestAlike zn d (fun r u => ∃ (g : Nat), r = some (.int (nI g)) ∧ u = (zSH zn, I, L) ∧ (mxT V e C x 39 g)) 8 [some (.ref 73), some (.long x1), none, some (.int (nI p.1)), some (.long p.2), none, some (.int (nI t)), none, none] [] (zSH zn, I, L) := by
    refine zup (fun p hp => ?_) (fun t p ht hp ih => ?_)
    · obtain ⟨g, v⟩ := p
      exact gX9_greatestAlike_8 _ _ _ _ I L ⟨fun _ => ⟨g, rfl, rfl, hp.1⟩, fun hc => absurd (by decide) hc⟩
    · obtain ⟨g, v⟩ := p
      obtain ⟨h1, h2⟩ := hp
      dsimp only at h1 h2
      have hg := mxT_le h1
      refine gX9_greatestAlike_8 _ _ _ _ I L ⟨fun hc => absurd hc (by rw [nl 38, nI_ltI (by decide) (by omega)]; omega), fun _ => ?_⟩
      rw [lsb_0 (by omega), nI_1]
      refine ⟨fun hb => ih (g, v) ⟨mxT_no h1 (fun hc => ?_), fun u hu => ?_⟩, fun hb => ?_⟩
      · have : ¬ ∀ w, w < t → C w = true → FM V e t x ≠ FM V e w x := fun z => hb ((h2 t (by omega)).mpr ⟨ht, hc, z⟩)
        obtain ⟨w, hw⟩ := Classical.not_forall.mp this
        obtain ⟨hwt, hw2⟩ := Classical.not_imp.mp hw
        obtain ⟨hcw, hw3⟩ := Classical.not_imp.mp hw2
        rw [grp_cong (Classical.not_not.mp hw3)]
        exact h1.1 w hwt hcw
      · dsimp only
        rw [h2 u hu]
        constructor
        · rintro ⟨a, b, c⟩
          refine ⟨a, b, fun w hw hcw z => ?_⟩
          by_cases hwt : w = t
          · subst hwt
            have : ¬ ∀ w', w' < w → C w' = true → FM V e w x ≠ FM V e w' x := fun z => hb ((h2 w (by omega)).mpr ⟨ht, hcw, z⟩)
            exact this (fun w' hw' hcw' => by rw [← z]; exact c w' hw' hcw')
          · exact c w (by omega) hcw z
        · rintro ⟨a, b, c⟩; exact ⟨a, b, fun w hw => c w (by omega)⟩
      · have hb' : bt v t = true := Classical.not_not.mp hb
        obtain ⟨-, hct, hun⟩ := (h2 t (by omega)).mp hb'
        refine ⟨V, e, x, t, q0, q1, ⟨rfl, ht⟩, V, e, x, FM V e t x, q0, q1, ⟨rfl, okF_FM q0⟩, fun w hw => ?_⟩
        have hal : ∀ u, u < 64 → (bt (v &&& w) u = true ↔ u < 39 ∧ sm V e C x t u = true) := fun u hu => by
          unfold sm
          rw [bt_and, Bool.and_eq_true, h2 u hu, hw u hu, Bool.and_eq_true, decide_eq_true_iff]
          constructor
          · rintro ⟨⟨a, b, _⟩, _, c⟩; exact ⟨a, b, c⟩
          · rintro ⟨a, b, c⟩; exact ⟨⟨a, b, fun w' hw' hcw' => by rw [c]; exact hun w' hw' hcw'⟩, a, c⟩
        have hcnt : fJ13_bitCount_95d88 (v &&& w) = nI (grp V e C x t) := by rw [bc_bt, cnt_64 hal]; rfl
        have hgl := grp_le (V := V) (e := e) (C := C) (x := x) (t := t)
        rw [hcnt]
        have hm : (if nI g < nI (grp V e C x t) then nI (grp V e C x t) else nI g) = nI (if g < grp V e C x t then grp V e C x t else g) := by
          by_cases hlt : g < grp V e C x t
          · rw [if_pos hlt, if_pos (by rw [nI_ltI (by omega) (by omega)]; exact hlt)]
          · rw [if_neg hlt, if_neg (by rw [nI_ltI (by omega) (by omega)]; exact hlt)]
        rw [hm]
        refine ih (_, _) ⟨mxT_up h1 hct, fun u hu => ?_⟩
        dsimp only
        rw [bt_and, bt_not _ hu, Bool.and_eq_true, h2 u hu]
        constructor
        · rintro ⟨⟨a, b, c⟩, d⟩
          refine ⟨a, b, fun w' hw' hcw' z => ?_⟩
          by_cases hwt : w' = t
          · subst hwt
            have := (hal u hu).mpr ⟨a, by unfold sm; rw [b, Bool.true_and]; exact decide_eq_true z⟩
            rw [this] at d
            cases d
          · exact c w' (by omega) hcw' z
        · rintro ⟨a, b, c⟩
          refine ⟨⟨a, b, fun w' hw' => c w' (by omega)⟩, ?_⟩
          cases hx : bt (v &&& w) u with
          | false => rfl
          | true =>
            have := ((hal u hu).mp hx).2
            unfold sm at this
            rw [Bool.and_eq_true] at this
            exact absurd (of_decide_eq_true this.2) (c t (by omega) hct)
  exact eX9_greatestAlike _ I L (gX9_greatestAlike_0 _ I L (loop 0 (0, _) (by decide) ⟨⟨fun w hw => absurd hw (by omega), Or.inl rfl⟩, fun u hu => by
    dsimp only
    rw [q2 u hu]
    exact ⟨fun z => ⟨z.1, z.2, fun w hw => absurd hw (by omega)⟩, fun z => ⟨z.1, z.2.1⟩⟩⟩))
noncomputable def gmx (V : zVw) (e : Nat) (C : Nat → Bool) (x : Nat) : Nat := Classical.epsilon (fun g => mxT V e C x 39 g)
theorem gmx_eq {V : zVw} {e : Nat} {C : Nat → Bool} {x g : Nat} (h : mxT V e C x 39 g) : gmx V e C x = g := mxT_one (Classical.epsilon_spec (p := fun g => mxT V e C x 39 g) ⟨g, h⟩) h
noncomputable def pf (V : zVw) (e : Nat) (C : Nat → Bool) (ro : Nat → Nat) (sn : Nat → Int32) : Nat → Nat × Int32
  | 0 => (40, -4)
  | i + 1 => @ite _ (sn i = -1 ∧ gmx V e C (ro i) < (pf V e C ro sn i).1) (Classical.propDecidable _) (gmx V e C (ro i), nI i) (pf V e C ro sn i)
theorem pf_y {V : zVw} {e : Nat} {C : Nat → Bool} {ro : Nat → Nat} {sn : Nat → Int32} {i : Nat} (h : sn i = -1) (h2 : gmx V e C (ro i) < (pf V e C ro sn i).1) : pf V e C ro sn (i + 1) = (gmx V e C (ro i), nI i) := by
  rw [pf, if_pos ⟨h, h2⟩]
theorem pf_n {V : zVw} {e : Nat} {C : Nat → Bool} {ro : Nat → Nat} {sn : Nat → Int32} {i : Nat} (h : ¬ (sn i = -1 ∧ gmx V e C (ro i) < (pf V e C ro sn i).1)) : pf V e C ro sn (i + 1) = pf V e C ro sn i := by
  rw [pf, if_neg h]
theorem pf_le {V : zVw} {e : Nat} {C : Nat → Bool} {ro : Nat → Nat} {sn : Nat → Int32} : ∀ i, (pf V e C ro sn i).1 ≤ 40
  | 0 => Nat.le_refl _
  | i + 1 => by
    have ih := pf_le (V := V) (e := e) (C := C) (ro := ro) (sn := sn) i
    by_cases h : sn i = -1 ∧ gmx V e C (ro i) < (pf V e C ro sn i).1
    · rw [pf_y h.1 h.2]; dsimp only; omega
    · rw [pf_n h]; exact ih
noncomputable def parS (V : zVw) (e : Nat) (ro : Nat → Nat) (sn : Nat → Int32) (N : Nat) : Int32 := if 1 < cnt (cB V e ro sn N) 39 then (pf V e (cB V e ro sn N) ro sn N).2 else -4
abbrev RX9_bestToPart (zn d : Nat) (post : zP) : zK := zRun (zcal zty zcd false (d + 6)) kX9_bestToPart (zLM zn) post
theorem eX9_bestToPart {zn d : Nat} {post : zP} (k1 : Nat) (x2 : Int32) (I : Nat → Nat → Int32) (L : Nat → Nat → Int64) (h1 : isX10 k1) (h : RX9_bestToPart zn d post 0 [some (.ref 73), some (.ref k1), some (.int x2), none, none, none, none, none, none] [] (zSH zn, I, L)) : zcal zty zcd false (d + 7) 77 [.ref 73, .ref k1, .int x2] (zSH zn, I, L) 0 0 post := zcal_of (d := d + 6) zmt77 zmc77 rfl (Nat.le_of_ble_eq_true rfl) h
theorem gX9_bestToPart_0 {zn d : Nat} {post : zP} (k1 : Nat) (x2 : Int32) (I : Nat → Nat → Int32) (L : Nat → Nat → Int64) (h1 : isX10 k1) (h : (∃ (V3 : zVw) (os4 : List Nat) (e5 : Nat) (N6 : Nat) (ro7 : Nat → Nat) (sn8 : Nat → Int32), (cVw I k1 V3 os4) ∧ (x2 = nI e5 ∧ e5 < 2 ^ 19) ∧ (I 73 2 = nI N6 ∧ N6 ≤ 10) ∧ (trO I 74 N6 ro7) ∧ (snO I 75 N6 sn8) ∧ (stkE L 77) ∧ (∀ (K1 : Nat → Nat → Int64) (v2 : Int64), (fr [78, 79, 82, 83] L K1 ∧ ∀ t, t < 64 → (bt v2 t = true ↔ t < 39 ∧ isC V3 e5 ro7 sn8 N6 t)) → ((1 : Int32) < (fJ13_bitCount_95d88 v2) → RX9_bestToPart zn d post 29 [some (.ref 73), some (.ref k1), some (.int x2), some (.long v2), none, some (.int (-4 : Int32)), some (.int (40 : Int32)), some (.int (0 : Int32)), none] [] (zSH zn, I, K1)) ∧ (¬ (1 : Int32) < (fJ13_bitCount_95d88 v2) → post (some (.int (-4 : Int32))) (zSH zn, I, K1))))) : RX9_bestToPart zn d post 0 [some (.ref 73), some (.ref k1), some (.int x2), none, none, none, none, none, none] [] (zSH zn, I, L) := fun P hw hc => hc _ tX9_bestToPart_0 _ _ _ (hc _ tX9_bestToPart_1 _ _ _ (hc _ tX9_bestToPart_2 _ _ _ ((by obtain ⟨V3, os4, e5, N6, ro7, sn8, hg9⟩ := h; exact hc _ tX9_bestToPart_3 _ _ _ (⟨⟨_, _, _, rfl, (by decide), sh73⟩, ⟨Nat.le_of_ble_eq_true rfl, Nat.le_of_ble_eq_true rfl, zl1, zl2, _, ctX9_thatCouldBe k1 x2 I L V3 os4 e5 N6 ro7 sn8 h1 hg9.1 hg9.2.1 hg9.2.2.1 hg9.2.2.2.1 hg9.2.2.2.2.1 hg9.2.2.2.2.2.1, fun r u k14 => by obtain ⟨K1, v2, rfl, rfl, p10⟩ := k14; exact ⟨zl3, zl4, hc _ tX9_bestToPart_6 _ _ _ (hc _ tX9_bestToPart_7 _ _ _ (hc _ tX9_bestToPart_8 _ _ _ (⟨Nat.le_of_ble_eq_true rfl, Nat.le_of_ble_eq_true rfl, zl1, zl2, _, ctJ13_bitCount_95d88 v2 I K1, fun r u k13 => by obtain ⟨rfl, rfl⟩ := k13; exact ⟨zl3, zl4, hc _ tX9_bestToPart_11 _ _ _ (hc _ tX9_bestToPart_12 _ _ _ (⟨fun c11 => hc _ tX9_bestToPart_18 _ _ _ (hc _ tX9_bestToPart_20 _ _ _ (hc _ tX9_bestToPart_22 _ _ _ (hc _ tX9_bestToPart_24 _ _ _ (hc _ tX9_bestToPart_26 _ _ _ (hc _ tX9_bestToPart_27 _ _ _ (((hg9.2.2.2.2.2.2 K1 v2 p10).1 c11) P hw hc)))))), fun c12 => hc _ tX9_bestToPart_15 _ _ _ (hc _ tX9_bestToPart_17 _ _ _ (⟨nofun, rfl, rfl, ((hg9.2.2.2.2.2.2 K1 v2 p10).2 c12)⟩))⟩))⟩⟩)))⟩⟩⟩)))))
theorem gX9_bestToPart_29 {zn d : Nat} {post : zP} (k1 : Nat) (x2 : Int32) (x3 : Int64) (x5 : Int32) (x6 : Int32) (x7 : Int32) (I : Nat → Nat → Int32) (L : Nat → Nat → Int64) (h1 : isX10 k1) (h : ((I 73 2) ≤ x7 → post (some (.int x5)) (zSH zn, I, L)) ∧ (¬ (I 73 2) ≤ x7 → vp_in x7 10 ∧ ((¬ (I 75 (x7).toNatClampNeg) = (-1 : Int32) → RX9_bestToPart zn d post 29 [some (.ref 73), some (.ref k1), some (.int x2), some (.long x3), none, some (.int x5), some (.int x6), some (.int (x7 + (1 : Int32))), none] [] (zSH zn, I, L)) ∧ ((I 75 (x7).toNatClampNeg) = (-1 : Int32) → (∃ (V6 : zVw) (os7 : List Nat) (e8 : Nat) (x9 : Nat), (cVw I k1 V6 os7) ∧ (x2 = nI e8 ∧ e8 < 2 ^ 19) ∧ ((I 74 (x7).toNatClampNeg) = nI x9 ∧ x9 < 1024) ∧ (stkE L 77) ∧ (∀ (K5 : Nat → Nat → Int64), (fr [78, 79, 82, 83] L K5 ∧ mdL K5 V6 e8 x9) → (∃ (V13 : zVw) (e14 : Nat) (x15 : Nat) (C16 : Nat → Bool), (okV V13) ∧ (mdL K5 V13 e14 x15) ∧ (∀ t, t < 64 → (bt x3 t = true ↔ t < 39 ∧ C16 t = true)) ∧ (∀ (g12 : Nat), (mxT V13 e14 C16 x15 39 g12) → (x6 ≤ (nI g12) → RX9_bestToPart zn d post 29 [some (.ref 73), some (.ref k1), some (.int x2), some (.long x3), none, some (.int x5), some (.int x6), some (.int (x7 + (1 : Int32))), none] [] (zSH zn, I, K5)) ∧ (¬ x6 ≤ (nI g12) → RX9_bestToPart zn d post 29 [some (.ref 73), some (.ref k1), some (.int x2), some (.long x3), none, some (.int x7), some (.int (nI g12)), some (.int (x7 + (1 : Int32))), none] [] (zSH zn, I, K5)))))))))) : RX9_bestToPart zn d post 29 [some (.ref 73), some (.ref k1), some (.int x2), some (.long x3), none, some (.int x5), some (.int x6), some (.int x7), none] [] (zSH zn, I, L) := fun P hw hc => hc _ tX9_bestToPart_29 _ _ _ (hc _ tX9_bestToPart_31 _ _ _ (hc _ tX9_bestToPart_32 _ _ _ (⟨_, sh73, (by decide), hc _ tX9_bestToPart_35 _ _ _ (⟨fun c1 => hc _ tX9_bestToPart_90 _ _ _ (hc _ tX9_bestToPart_92 _ _ _ (⟨nofun, rfl, rfl, (h.1 c1)⟩)), fun c2 => hc _ tX9_bestToPart_38 _ _ _ (hc _ tX9_bestToPart_39 _ _ _ (⟨_, _, sh73, (by decide), rfl, hc _ tX9_bestToPart_42 _ _ _ (hc _ tX9_bestToPart_44 _ _ _ (⟨_, _, _, sh75, Or.inl ⟨rfl, (by decide)⟩, (h.2 c2).1, hc _ tX9_bestToPart_45 _ _ _ (hc _ tX9_bestToPart_46 _ _ _ (⟨fun c3 => hc _ tX9_bestToPart_84 _ _ _ (hc _ tX9_bestToPart_87 _ _ _ (((h.2 c2).2.1 c3) P hw hc)), fun c4 => hc _ tX9_bestToPart_49 _ _ _ (hc _ tX9_bestToPart_50 _ _ _ (hc _ tX9_bestToPart_51 _ _ _ (hc _ tX9_bestToPart_52 _ _ _ (hc _ tX9_bestToPart_53 _ _ _ (⟨_, _, sh73, (by decide), rfl, hc _ tX9_bestToPart_56 _ _ _ (hc _ tX9_bestToPart_58 _ _ _ (⟨_, _, _, sh74, Or.inl ⟨rfl, (by decide)⟩, (h.2 c2).1, (by obtain ⟨V6, os7, e8, x9, hg10⟩ := ((h.2 c2).2.2 c4); exact hc _ tX9_bestToPart_59 _ _ _ (⟨⟨_, _, _, rfl, (by decide), sh73⟩, ⟨Nat.le_of_ble_eq_true rfl, Nat.le_of_ble_eq_true rfl, zl1, zl2, _, ctX9_make k1 x2 (I 74 (x7).toNatClampNeg) I L V6 os7 e8 x9 h1 hg10.1 hg10.2.1 hg10.2.2.1 hg10.2.2.2.1, fun r u k22 => by obtain ⟨K5, rfl, rfl, p11⟩ := k22; exact ⟨zl3, zl4, hc _ tX9_bestToPart_62 _ _ _ (hc _ tX9_bestToPart_63 _ _ _ ((by obtain ⟨V13, e14, x15, C16, hg17⟩ := (hg10.2.2.2.2 K5 p11); exact hc _ tX9_bestToPart_64 _ _ _ (⟨⟨_, _, _, rfl, (by decide), sh73⟩, ⟨Nat.le_of_ble_eq_true rfl, Nat.le_of_ble_eq_true rfl, zl1, zl2, _, ctX9_greatestAlike x3 I K5 V13 e14 x15 C16 hg17.1 hg17.2.1 hg17.2.2.1, fun r u k21 => by obtain ⟨g12, rfl, rfl, p18⟩ := k21; exact ⟨zl3, zl4, hc _ tX9_bestToPart_67 _ _ _ (hc _ tX9_bestToPart_69 _ _ _ (hc _ tX9_bestToPart_71 _ _ _ (hc _ tX9_bestToPart_73 _ _ _ (⟨fun c19 => hc _ tX9_bestToPart_84 _ _ _ (hc _ tX9_bestToPart_87 _ _ _ (hw _ _ _ _ _ (zwk_s (zwk_s (zwk_s (zwk_s (zwk_s (zwk_s (zwk_s (zwk_s (zwk_n zwk_nil))))))))) (((hg17.2.2.2 g12 p18).1 c19) P hw hc))), fun c20 => hc _ tX9_bestToPart_76 _ _ _ (hc _ tX9_bestToPart_78 _ _ _ (hc _ tX9_bestToPart_80 _ _ _ (hc _ tX9_bestToPart_82 _ _ _ (hc _ tX9_bestToPart_84 _ _ _ (hc _ tX9_bestToPart_87 _ _ _ (hw _ _ _ _ _ (zwk_s (zwk_s (zwk_s (zwk_s (zwk_s (zwk_s (zwk_s (zwk_s (zwk_n zwk_nil))))))))) (((hg17.2.2.2 g12 p18).2 c20) P hw hc)))))))⟩))))⟩⟩⟩))))⟩⟩⟩))⟩))⟩)))))⟩))⟩))⟩))⟩)⟩)))
theorem ctX9_bestToPart {zn d : Nat} (k1 : Nat) (x2 : Int32) (I : Nat → Nat → Int32) (L : Nat → Nat → Int64) (V : zVw) (os : List Nat) (e : Nat) (N : Nat) (ro : Nat → Nat) (sn : Nat → Int32) (h1 : isX10 k1) (q0 : cVw I k1 V os) (q1 : x2 = nI e ∧ e < 2 ^ 19) (q2 : I 73 2 = nI N ∧ N ≤ 10) (q3 : trO I 74 N ro) (q4 : snO I 75 N sn) (q5 : stkE L 77) : zcal zty zcd false (d + 7) 77 [.ref 73, .ref k1, .int x2] (zSH zn, I, L) 0 0 (fun r u => ∃ (K : Nat → Nat → Int64), r = some (.int (parS V e ro sn N)) ∧ u = (zSH zn, I, K) ∧ (fr [78, 79, 82, 83] L K)) := by
  obtain ⟨rfl, he⟩ := q1
  obtain ⟨eN, hN⟩ := id q2
  refine eX9_bestToPart _ _ I L h1 (gX9_bestToPart_0 _ _ I L h1 ⟨V, os, e, N, ro, sn, q0, ⟨rfl, he⟩, q2, q3, q4, q5, fun K v ⟨y1, k2⟩ => ?_⟩)
  have hv : ∀ t, t < 64 → (bt v t = true ↔ t < 39 ∧ cB V e ro sn N t = true) := fun t ht => by rw [k2 t ht, cB_i]
  have hc39 := cnt_le (cB V e ro sn N) 39
  rw [bc_bt, cnt_64 hv, nl1, nI_ltI (by decide) (by omega)]
  refine ⟨fun h => ?_, fun h => ⟨K, by rw [parS, if_neg h], rfl, y1⟩⟩
  have loop : ∀ i K, i ≤ N → fr [78, 79, 82, 83] L K → RX9_bestToPart zn d (fun r u => ∃ (K : Nat → Nat → Int64), r = some (.int (parS V e ro sn N)) ∧ u = (zSH zn, I, K) ∧ (fr [78, 79, 82, 83] L K)) 29 [some (.ref 73), some (.ref k1), some (.int (nI e)), some (.long v), none, some (.int ((pf V e (cB V e ro sn N) ro sn i).2)), some (.int (nI (pf V e (cB V e ro sn N) ro sn i).1)), some (.int (nI i)), none] [] (zSH zn, I, K) := by
    refine zup (fun K hK => ?_) (fun i K hi hK ih => ?_)
    · exact gX9_bestToPart_29 _ _ _ _ _ _ I K h1 ⟨fun _ => ⟨K, by rw [parS, if_pos h], rfl, hK⟩, fun hc => absurd (by rw [eN, nI_leI (by omega) (by omega)]; exact Nat.le_refl _) hc⟩
    · have hs := q4 i hi
      have hp := pf_le (V := V) (e := e) (C := cB V e ro sn N) (ro := ro) (sn := sn) i
      refine gX9_bestToPart_29 _ _ _ _ _ _ I K h1 ⟨fun hc => absurd hc (by rw [eN, nI_leI (by omega) (by omega)]; omega), fun _ => ⟨vin_nI (by omega) (by omega), ?_⟩⟩
      rw [nI_clamp (by omega), hs.1, nI_1]
      refine ⟨fun hz => ?_, fun hz => ⟨V, os, e, ro i, q0, ⟨rfl, he⟩, q3 i hi, fun m hm => by rw [hK 80 (by decide), hK 81 (by decide)]; exact q5 m hm, fun K1 ⟨m1, m2⟩ => ⟨V, e, ro i, cB V e ro sn N, q0.1.1, m2, hv, fun g hg => ?_⟩⟩⟩
      · have := ih K hK
        rw [pf_n (fun z => hz z.1)] at this
        exact this
      · have hgm := gmx_eq hg
        have hgl := mxT_le hg
        have := ih K1 (fr_trans hK m1)
        rw [nI_leI (by omega) (by omega)]
        refine ⟨fun hc => ?_, fun hc => ?_⟩
        · rw [pf_n (fun z => by have := z.2; omega)] at this
          exact this
        · rw [pf_y hz (by omega), hgm] at this
          exact this
  exact loop 0 K (Nat.zero_le _) y1
abbrev RX11_parts (zn d : Nat) (post : zP) : zK := zRun (zcal zty zcd false (d + 7)) kX11_parts (zLM zn) post
theorem eX11_parts {zn d : Nat} {post : zP} (I : Nat → Nat → Int32) (L : Nat → Nat → Int64) (h : RX11_parts zn d post 0 [some (.ref 5)] [] (zSH zn, I, L)) : zcal zty zcd false (d + 8) 124 [.ref 5] (zSH zn, I, L) 0 0 post := zcal_of (d := d + 7) zmt124 zmc124 rfl (Nat.le_of_ble_eq_true rfl) h
theorem gX11_parts_0 {zn d : Nat} {post : zP} (I : Nat → Nat → Int32) (L : Nat → Nat → Int64) (h : (∃ (V2 : zVw) (os3 : List Nat) (e4 : Nat) (N5 : Nat) (ro6 : Nat → Nat) (sn7 : Nat → Int32), (cVw I 19 V2 os3) ∧ ((I 5 15) = nI e4 ∧ e4 < 2 ^ 19) ∧ (I 73 2 = nI N5 ∧ N5 ≤ 10) ∧ (trO I 74 N5 ro6) ∧ (snO I 75 N5 sn7) ∧ (stkE L 77) ∧ (∀ (K1 : Nat → Nat → Int64), (fr [78, 79, 82, 83] L K1) → post (some (.int (parS V2 e4 ro6 sn7 N5))) (zSH zn, I, K1)))) : RX11_parts zn d post 0 [some (.ref 5)] [] (zSH zn, I, L) := fun P hw hc => hc _ tX11_parts_0 _ _ _ (hc _ tX11_parts_1 _ _ _ (⟨_, _, sh5, (by decide), rfl, hc _ tX11_parts_4 _ _ _ (hc _ tX11_parts_5 _ _ _ (⟨_, _, sh5, (by decide), rfl, hc _ tX11_parts_8 _ _ _ (hc _ tX11_parts_9 _ _ _ (⟨_, _, _, sh11, (by decide), by decide, zvin (by decide), rfl, hc _ tX11_parts_10 _ _ _ (hc _ tX11_parts_11 _ _ _ (⟨_, sh5, (by decide), (by obtain ⟨V2, os3, e4, N5, ro6, sn7, hg8⟩ := h; exact hc _ tX11_parts_14 _ _ _ (⟨⟨_, _, _, rfl, (by decide), sh73⟩, ⟨Nat.le_of_ble_eq_true rfl, Nat.le_of_ble_eq_true rfl, zl1, zl2, _, ctX9_bestToPart 19 (I 5 15) I L V2 os3 e4 N5 ro6 sn7 isX10_19 hg8.1 hg8.2.1 hg8.2.2.1 hg8.2.2.2.1 hg8.2.2.2.2.1 hg8.2.2.2.2.2.1, fun r u k10 => by obtain ⟨K1, rfl, rfl, p9⟩ := k10; exact ⟨zl3, zl4, hc _ tX11_parts_17 _ _ _ (⟨nofun, rfl, rfl, (hg8.2.2.2.2.2.2 K1 p9)⟩)⟩⟩⟩))⟩))⟩))⟩))⟩))
theorem ctX11_parts {zn d : Nat} (I : Nat → Nat → Int32) (L : Nat → Nat → Int64) (V : zVw) (os : List Nat) (e : Nat) (N : Nat) (ro : Nat → Nat) (sn : Nat → Int32) (q0 : cVw I 19 V os) (q1 : I 5 15 = nI e ∧ e < 2 ^ 19) (q2 : I 73 2 = nI N ∧ N ≤ 10) (q3 : trO I 74 N ro) (q4 : snO I 75 N sn) (q5 : stkE L 77) : zcal zty zcd false (d + 8) 124 [.ref 5] (zSH zn, I, L) 0 0 (fun r u => ∃ (K : Nat → Nat → Int64), r = some (.int (parS V e ro sn N)) ∧ u = (zSH zn, I, K) ∧ (fr [78, 79, 82, 83] L K)) := by
  exact eX11_parts I L (gX11_parts_0 I L ⟨V, os, e, N, ro, sn, q0, q1, q2, q3, q4, q5, fun K hK => ⟨K, rfl, rfl, hK⟩⟩)
theorem fb_cnt {C : Nat → Bool} {h : Nat → Nat} : ∀ n, fb_sm h (cnt C n) = fb_sm (fun u => if C u = true then h (cnt C u) else 0) n
  | 0 => rfl
  | n + 1 => by
    have ih := fb_cnt (C := C) (h := h) n
    rw [cnt_s, fb_sm_succ, ← ih]
    by_cases hc : C n = true
    · rw [if_pos hc, if_pos hc, fb_sm_succ]
    · rw [if_neg hc, if_neg hc]; rfl
def kpP (I J : Nat → Nat → Int32) : Prop := fr [115, 130, 131, 146, 147] I J ∧ ∀ s, s ≠ 19 → s ≠ 37 → J 115 s = I 115 s
abbrev RX12_parts (zn d : Nat) (post : zP) : zK := zRun (zcal zty zcd false (d + 9)) kX12_parts (zLM zn) post
theorem eX12_parts {zn d : Nat} {post : zP} (I : Nat → Nat → Int32) (L : Nat → Nat → Int64) (h : RX12_parts zn d post 0 [some (.ref 115), none, none, none, none, none, none, none] [] (zSH zn, I, L)) : zcal zty zcd false (d + 10) 210 [.ref 115] (zSH zn, I, L) 0 0 post := zcal_of (d := d + 9) zmt210 zmc210 rfl (Nat.le_of_ble_eq_true rfl) h
theorem gX12_parts_0 {zn d : Nat} {post : zP} (I : Nat → Nat → Int32) (L : Nat → Nat → Int64) (h : RX12_parts zn d post 7 [some (.ref 115), some (.int (0 : Int32)), none, none, none, none, none, none] [] (zSH zn, (zi I 115 37 (0 : Int32)), L)) : RX12_parts zn d post 0 [some (.ref 115), none, none, none, none, none, none, none] [] (zSH zn, I, L) := fun P hw hc => hc _ tX12_parts_0 _ _ _ (hc _ tX12_parts_1 _ _ _ (hc _ tX12_parts_2 _ _ _ (⟨_, sh115, (by decide), nofun, hc _ tX12_parts_5 _ _ _ (hc _ tX12_parts_6 _ _ _ (h P hw hc))⟩)))
theorem gX12_parts_7 {zn d : Nat} {post : zP} (x1 : Int32) (I : Nat → Nat → Int32) (L : Nat → Nat → Int64) (h : ((38 : Int32) < x1 → RX12_parts zn d post 55 [some (.ref 115), some (.int (-4 : Int32)), some (.int (40 : Int32)), some (.int (0 : Int32)), none, none, none, none] [] (zSH zn, I, L)) ∧ (¬ (38 : Int32) < x1 → (∃ (V4 : zVw) (ps5 : List Nat) (e6 : Nat) (N7 : Nat) (ro8 : Nat → Nat) (sn9 : Nat → Int32) (f10 : Nat) (b11 : Bool), (rEv I 1 V4 ps5) ∧ (I 126 0 = nI e6 ∧ e6 < 2 ^ 19) ∧ (I 115 18 = -4) ∧ (I 115 33 = nI N7 ∧ N7 ≤ 10) ∧ (trO I 143 N7 ro8) ∧ (snO I 144 N7 sn9) ∧ (x1 = nI f10 ∧ f10 < 39) ∧ (b11 = true ↔ isC V4 e6 ro8 sn9 N7 f10) ∧ (∀ (J3 : Nat → Nat → Int32), (fr [115, 130, 131] I J3 ∧ ∀ s, s ≠ 19 → J3 115 s = I 115 s) → (¬ ((b11 = true)) → RX12_parts zn d post 7 [some (.ref 115), some (.int (x1 + (1 : Int32))), none, none, none, none, none, none] [] (zSH zn, J3, L)) ∧ ((b11 = true) → vp_in (J3 115 37) 39 ∧ (RX12_parts zn d post 7 [some (.ref 115), some (.int (x1 + (1 : Int32))), none, none, none, none, none, none] [] (zSH zn, (zi (zi J3 146 ((J3 115 37)).toNatClampNeg x1) 115 37 (((zi J3 146 ((J3 115 37)).toNatClampNeg x1) 115 37) + (1 : Int32))), L))))))) : RX12_parts zn d post 7 [some (.ref 115), some (.int x1), none, none, none, none, none, none] [] (zSH zn, I, L) := fun P hw hc => hc _ tX12_parts_7 _ _ _ (hc _ tX12_parts_8 _ _ _ (hc _ tX12_parts_10 _ _ _ (⟨fun c1 => hc _ tX12_parts_47 _ _ _ (hc _ tX12_parts_49 _ _ _ (hc _ tX12_parts_50 _ _ _ (hc _ tX12_parts_52 _ _ _ (hc _ tX12_parts_53 _ _ _ (hc _ tX12_parts_54 _ _ _ ((h.1 c1) P hw hc)))))), fun c2 => hc _ tX12_parts_13 _ _ _ (hc _ tX12_parts_14 _ _ _ ((by obtain ⟨V4, ps5, e6, N7, ro8, sn9, f10, b11, hg12⟩ := (h.2 c2); exact hc _ tX12_parts_15 _ _ _ (⟨⟨_, _, _, rfl, (by decide), sh115⟩, ⟨Nat.le_of_ble_eq_true rfl, Nat.le_of_ble_eq_true rfl, zl1, zl2, _, ctX12_isSo x1 I L V4 ps5 e6 N7 ro8 sn9 f10 b11 hg12.1 hg12.2.1 hg12.2.2.1 hg12.2.2.2.1 hg12.2.2.2.2.1 hg12.2.2.2.2.2.1 hg12.2.2.2.2.2.2.1 hg12.2.2.2.2.2.2.2.1, fun r u k16 => by obtain ⟨J3, rfl, rfl, p13⟩ := k16; exact ⟨zl3, zl4, hc _ tX12_parts_18 _ _ _ (⟨fun c14 => hc _ tX12_parts_41 _ _ _ (hc _ tX12_parts_44 _ _ _ (((hg12.2.2.2.2.2.2.2.2 J3 p13).1 (zb_e c14)) P hw hc)), fun c15 => hc _ tX12_parts_21 _ _ _ (hc _ tX12_parts_22 _ _ _ (⟨_, _, sh115, (by decide), rfl, hc _ tX12_parts_25 _ _ _ (hc _ tX12_parts_26 _ _ _ (⟨_, sh115, (by decide), hc _ tX12_parts_29 _ _ _ (hc _ tX12_parts_30 _ _ _ (⟨_, _, sh146, (by decide), ((hg12.2.2.2.2.2.2.2.2 J3 p13).2 (zb_n c15)).1, hc _ tX12_parts_31 _ _ _ (hc _ tX12_parts_32 _ _ _ (⟨rfl, hc _ tX12_parts_33 _ _ _ (⟨_, sh115, (by decide), hc _ tX12_parts_36 _ _ _ (hc _ tX12_parts_37 _ _ _ (hc _ tX12_parts_38 _ _ _ (⟨_, sh115, (by decide), nofun, hc _ tX12_parts_41 _ _ _ (hc _ tX12_parts_44 _ _ _ (((hg12.2.2.2.2.2.2.2.2 J3 p13).2 (zb_n c15)).2 P hw hc))⟩)))⟩)⟩))⟩))⟩))⟩))⟩)⟩⟩⟩))))⟩)))
theorem gX12_parts_55 {zn d : Nat} {post : zP} (x1 : Int32) (x2 : Int32) (x3 : Int32) (I : Nat → Nat → Int32) (L : Nat → Nat → Int64) (h : ((I 115 33) ≤ x3 → post (some (.int x1)) (zSH zn, I, L)) ∧ (¬ (I 115 33) ≤ x3 → ((I 115 37) ≤ (1 : Int32) → post (some (.int x1)) (zSH zn, I, L)) ∧ (¬ (I 115 37) ≤ (1 : Int32) → vp_in x3 10 ∧ ((¬ (I 144 (x3).toNatClampNeg) = (-1 : Int32) → RX12_parts zn d post 55 [some (.ref 115), some (.int x1), some (.int x2), some (.int (x3 + (1 : Int32))), none, none, none, none] [] (zSH zn, I, L)) ∧ ((I 144 (x3).toNatClampNeg) = (-1 : Int32) → RX12_parts zn d post 84 [some (.ref 115), some (.int x1), some (.int x2), some (.int x3), some (.int (0 : Int32)), none, none, none] [] (zSH zn, I, L)))))) : RX12_parts zn d post 55 [some (.ref 115), some (.int x1), some (.int x2), some (.int x3), none, none, none, none] [] (zSH zn, I, L) := fun P hw hc => hc _ tX12_parts_55 _ _ _ (hc _ tX12_parts_56 _ _ _ (hc _ tX12_parts_57 _ _ _ (⟨_, sh115, (by decide), hc _ tX12_parts_60 _ _ _ (⟨fun c1 => hc _ tX12_parts_220 _ _ _ (hc _ tX12_parts_221 _ _ _ (⟨nofun, rfl, rfl, (h.1 c1)⟩)), fun c2 => hc _ tX12_parts_63 _ _ _ (hc _ tX12_parts_64 _ _ _ (⟨_, sh115, (by decide), hc _ tX12_parts_67 _ _ _ (hc _ tX12_parts_68 _ _ _ (⟨fun c3 => hc _ tX12_parts_220 _ _ _ (hc _ tX12_parts_221 _ _ _ (⟨nofun, rfl, rfl, ((h.2 c2).1 c3)⟩)), fun c4 => hc _ tX12_parts_71 _ _ _ (hc _ tX12_parts_72 _ _ _ (⟨_, _, sh115, (by decide), rfl, hc _ tX12_parts_75 _ _ _ (hc _ tX12_parts_76 _ _ _ (⟨_, _, _, sh144, Or.inl ⟨rfl, (by decide)⟩, ((h.2 c2).2 c4).1, hc _ tX12_parts_77 _ _ _ (hc _ tX12_parts_78 _ _ _ (⟨fun c5 => hc _ tX12_parts_214 _ _ _ (hc _ tX12_parts_217 _ _ _ ((((h.2 c2).2 c4).2.1 c5) P hw hc)), fun c6 => hc _ tX12_parts_81 _ _ _ (hc _ tX12_parts_82 _ _ _ ((((h.2 c2).2 c4).2.2 c6) P hw hc))⟩))⟩))⟩))⟩))⟩))⟩)⟩)))
theorem gX12_parts_84 {zn d : Nat} {post : zP} (x1 : Int32) (x2 : Int32) (x3 : Int32) (x4 : Int32) (I : Nat → Nat → Int32) (L : Nat → Nat → Int64) (h : ((I 115 37) ≤ x4 → RX12_parts zn d post 124 [some (.ref 115), some (.int x1), some (.int x2), some (.int x3), some (.int (0 : Int32)), some (.int (0 : Int32)), none, none] [] (zSH zn, I, L)) ∧ (¬ (I 115 37) ≤ x4 → vp_in x4 39 ∧ ((∃ (V4 : zVw) (ps5 : List Nat) (e6 : Nat) (N7 : Nat) (ro8 : Nat → Nat) (f9 : Nat) (i10 : Nat), (rEv I 1 V4 ps5) ∧ (I 126 0 = nI e6 ∧ e6 < 2 ^ 19) ∧ (I 115 18 = -4) ∧ (trO I 143 N7 ro8) ∧ ((I 146 (x4).toNatClampNeg) = nI f9 ∧ f9 < 39) ∧ (x3 = nI i10 ∧ i10 < N7 ∧ N7 ≤ 10) ∧ (∀ (J3 : Nat → Nat → Int32), (fr [115, 130, 131] I J3 ∧ ∀ s, s ≠ 19 → J3 115 s = I 115 s) → RX12_parts zn d post 84 [some (.ref 115), some (.int x1), some (.int x2), some (.int x3), some (.int (x4 + (1 : Int32))), none, none, none] [] (zSH zn, (zi J3 147 (x4).toNatClampNeg (nI (FM V4 e6 f9 (ro8 i10)))), L)))))) : RX12_parts zn d post 84 [some (.ref 115), some (.int x1), some (.int x2), some (.int x3), some (.int x4), none, none, none] [] (zSH zn, I, L) := fun P hw hc => hc _ tX12_parts_84 _ _ _ (hc _ tX12_parts_86 _ _ _ (hc _ tX12_parts_87 _ _ _ (⟨_, sh115, (by decide), hc _ tX12_parts_90 _ _ _ (⟨fun c1 => hc _ tX12_parts_118 _ _ _ (hc _ tX12_parts_119 _ _ _ (hc _ tX12_parts_121 _ _ _ (hc _ tX12_parts_122 _ _ _ ((h.1 c1) P hw hc)))), fun c2 => hc _ tX12_parts_93 _ _ _ (hc _ tX12_parts_94 _ _ _ (⟨_, _, sh115, (by decide), rfl, hc _ tX12_parts_97 _ _ _ (hc _ tX12_parts_99 _ _ _ (hc _ tX12_parts_100 _ _ _ (hc _ tX12_parts_101 _ _ _ (⟨_, _, sh115, (by decide), rfl, hc _ tX12_parts_104 _ _ _ (hc _ tX12_parts_106 _ _ _ (⟨_, _, _, sh146, Or.inl ⟨rfl, (by decide)⟩, (h.2 c2).1, hc _ tX12_parts_107 _ _ _ ((by obtain ⟨V4, ps5, e6, N7, ro8, f9, i10, hg11⟩ := (h.2 c2).2; exact hc _ tX12_parts_108 _ _ _ (⟨⟨_, _, _, rfl, (by decide), sh115⟩, ⟨Nat.le_of_ble_eq_true rfl, Nat.le_of_ble_eq_true rfl, zl1, zl2, _, ctX12_failsAt (I 146 (x4).toNatClampNeg) x3 I L V4 ps5 e6 N7 ro8 f9 i10 hg11.1 hg11.2.1 hg11.2.2.1 hg11.2.2.2.1 hg11.2.2.2.2.1 hg11.2.2.2.2.2.1, fun r u k13 => by obtain ⟨J3, rfl, rfl, p12⟩ := k13; exact ⟨zl3, zl4, hc _ tX12_parts_111 _ _ _ (⟨_, _, sh147, (by decide), (h.2 c2).1, hc _ tX12_parts_112 _ _ _ (hc _ tX12_parts_115 _ _ _ ((hg11.2.2.2.2.2.2 J3 p12) P hw hc))⟩)⟩⟩⟩)))⟩))⟩))))⟩))⟩)⟩)))
theorem gX12_parts_124 {zn d : Nat} {post : zP} (x1 : Int32) (x2 : Int32) (x3 : Int32) (x4 : Int32) (x5 : Int32) (I : Nat → Nat → Int32) (L : Nat → Nat → Int64) (h : ((I 115 37) ≤ x5 → (x2 ≤ x4 → RX12_parts zn d post 55 [some (.ref 115), some (.int x1), some (.int x2), some (.int (x3 + (1 : Int32))), none, none, none, none] [] (zSH zn, I, L)) ∧ (¬ x2 ≤ x4 → RX12_parts zn d post 55 [some (.ref 115), some (.int x3), some (.int x4), some (.int (x3 + (1 : Int32))), none, none, none, none] [] (zSH zn, I, L))) ∧ (¬ (I 115 37) ≤ x5 → RX12_parts zn d post 139 [some (.ref 115), some (.int x1), some (.int x2), some (.int x3), some (.int x4), some (.int x5), some (.int (0 : Int32)), some (.int (0 : Int32))] [] (zSH zn, I, L))) : RX12_parts zn d post 124 [some (.ref 115), some (.int x1), some (.int x2), some (.int x3), some (.int x4), some (.int x5), none, none] [] (zSH zn, I, L) := fun P hw hc => hc _ tX12_parts_124 _ _ _ (hc _ tX12_parts_126 _ _ _ (hc _ tX12_parts_127 _ _ _ (⟨_, sh115, (by decide), hc _ tX12_parts_130 _ _ _ (⟨fun c1 => hc _ tX12_parts_203 _ _ _ (hc _ tX12_parts_205 _ _ _ (hc _ tX12_parts_206 _ _ _ (⟨fun c3 => hc _ tX12_parts_214 _ _ _ (hc _ tX12_parts_217 _ _ _ (hw _ _ _ _ _ (zwk_s (zwk_s (zwk_s (zwk_s (zwk_n (zwk_n (zwk_s (zwk_s zwk_nil)))))))) (((h.1 c1).1 c3) P hw hc))), fun c4 => hc _ tX12_parts_209 _ _ _ (hc _ tX12_parts_211 _ _ _ (hc _ tX12_parts_212 _ _ _ (hc _ tX12_parts_213 _ _ _ (hc _ tX12_parts_214 _ _ _ (hc _ tX12_parts_217 _ _ _ (hw _ _ _ _ _ (zwk_s (zwk_s (zwk_s (zwk_s (zwk_n (zwk_n (zwk_s (zwk_s zwk_nil)))))))) (((h.1 c1).2 c4) P hw hc)))))))⟩))), fun c2 => hc _ tX12_parts_133 _ _ _ (hc _ tX12_parts_134 _ _ _ (hc _ tX12_parts_136 _ _ _ (hc _ tX12_parts_137 _ _ _ ((h.2 c2) P hw hc))))⟩)⟩)))
theorem gX12_parts_139 {zn d : Nat} {post : zP} (x1 : Int32) (x2 : Int32) (x3 : Int32) (x4 : Int32) (x5 : Int32) (x6 : Int32) (x7 : Int32) (I : Nat → Nat → Int32) (L : Nat → Nat → Int64) (h : ((I 115 37) ≤ x7 → (x6 ≤ x4 → RX12_parts zn d post 124 [some (.ref 115), some (.int x1), some (.int x2), some (.int x3), some (.int x4), some (.int (x5 + (1 : Int32))), none, none] [] (zSH zn, I, L)) ∧ (¬ x6 ≤ x4 → RX12_parts zn d post 124 [some (.ref 115), some (.int x1), some (.int x2), some (.int x3), some (.int x6), some (.int (x5 + (1 : Int32))), none, none] [] (zSH zn, I, L))) ∧ (¬ (I 115 37) ≤ x7 → vp_in x7 39 ∧ (vp_in x5 39 ∧ ((¬ (I 147 (x7).toNatClampNeg) = (I 147 (x5).toNatClampNeg) → RX12_parts zn d post 139 [some (.ref 115), some (.int x1), some (.int x2), some (.int x3), some (.int x4), some (.int x5), some (.int (x6 + (0 : Int32))), some (.int (x7 + (1 : Int32)))] [] (zSH zn, I, L)) ∧ ((I 147 (x7).toNatClampNeg) = (I 147 (x5).toNatClampNeg) → RX12_parts zn d post 139 [some (.ref 115), some (.int x1), some (.int x2), some (.int x3), some (.int x4), some (.int x5), some (.int (x6 + (1 : Int32))), some (.int (x7 + (1 : Int32)))] [] (zSH zn, I, L)))))) : RX12_parts zn d post 139 [some (.ref 115), some (.int x1), some (.int x2), some (.int x3), some (.int x4), some (.int x5), some (.int x6), some (.int x7)] [] (zSH zn, I, L) := fun P hw hc => hc _ tX12_parts_139 _ _ _ (hc _ tX12_parts_141 _ _ _ (hc _ tX12_parts_142 _ _ _ (⟨_, sh115, (by decide), hc _ tX12_parts_145 _ _ _ (⟨fun c1 => hc _ tX12_parts_181 _ _ _ (hc _ tX12_parts_183 _ _ _ (hc _ tX12_parts_185 _ _ _ (⟨fun c3 => hc _ tX12_parts_193 _ _ _ (hc _ tX12_parts_195 _ _ _ (hc _ tX12_parts_197 _ _ _ (hc _ tX12_parts_200 _ _ _ (hw _ _ _ _ _ (zwk_s (zwk_s (zwk_s (zwk_s (zwk_s (zwk_s (zwk_n (zwk_n zwk_nil)))))))) (((h.1 c1).1 c3) P hw hc))))), fun c4 => hc _ tX12_parts_188 _ _ _ (hc _ tX12_parts_190 _ _ _ (hc _ tX12_parts_195 _ _ _ (hc _ tX12_parts_197 _ _ _ (hc _ tX12_parts_200 _ _ _ (hw _ _ _ _ _ (zwk_s (zwk_s (zwk_s (zwk_s (zwk_s (zwk_s (zwk_n (zwk_n zwk_nil)))))))) (((h.1 c1).2 c4) P hw hc))))))⟩))), fun c2 => hc _ tX12_parts_148 _ _ _ (hc _ tX12_parts_150 _ _ _ (hc _ tX12_parts_151 _ _ _ (⟨_, _, sh115, (by decide), rfl, hc _ tX12_parts_154 _ _ _ (hc _ tX12_parts_156 _ _ _ (⟨_, _, _, sh147, Or.inl ⟨rfl, (by decide)⟩, (h.2 c2).1, hc _ tX12_parts_157 _ _ _ (hc _ tX12_parts_158 _ _ _ (⟨_, _, sh115, (by decide), rfl, hc _ tX12_parts_161 _ _ _ (hc _ tX12_parts_163 _ _ _ (⟨_, _, _, sh147, Or.inl ⟨rfl, (by decide)⟩, (h.2 c2).2.1, hc _ tX12_parts_164 _ _ _ (⟨fun c5 => hc _ tX12_parts_171 _ _ _ (hc _ tX12_parts_172 _ _ _ (hc _ tX12_parts_173 _ _ _ (hc _ tX12_parts_175 _ _ _ (hc _ tX12_parts_178 _ _ _ (((h.2 c2).2.2.1 c5) P hw hc))))), fun c6 => hc _ tX12_parts_167 _ _ _ (hc _ tX12_parts_168 _ _ _ (hc _ tX12_parts_172 _ _ _ (hc _ tX12_parts_173 _ _ _ (hc _ tX12_parts_175 _ _ _ (hc _ tX12_parts_178 _ _ _ (((h.2 c2).2.2.2 c6) P hw hc))))))⟩)⟩))⟩))⟩))⟩)))⟩)⟩)))
theorem ctX12_parts {zn d : Nat} (I : Nat → Nat → Int32) (L : Nat → Nat → Int64) (V : zVw) (ps : List Nat) (e : Nat) (N : Nat) (ro : Nat → Nat) (sn : Nat → Int32) (q0 : rEv I 1 V ps) (q1 : I 126 0 = nI e ∧ e < 2 ^ 19) (q2 : I 115 18 = -4) (q3 : I 115 33 = nI N ∧ N ≤ 10) (q4 : trO I 143 N ro) (q5 : snO I 144 N sn) : zcal zty zcd false (d + 10) 210 [.ref 115] (zSH zn, I, L) 0 0 (fun r u => ∃ (J : Nat → Nat → Int32), r = some (.int (parS V e ro sn N)) ∧ u = (zSH zn, J, L) ∧ (kpP I J)) := by
  obtain ⟨eN, hN⟩ := id q3
  generalize hC : cB V e ro sn N = C
  have hC' : ∀ t, C t = true ↔ isC V e ro sn N t := fun t => by rw [← hC]; exact cB_i
  have hres : parS V e ro sn N = if 1 < cnt C 39 then (pf V e C ro sn N).2 else -4 := by rw [parS, hC]
  have hc39 := cnt_le C 39
  have env : ∀ J, kpP I J → rEv J 1 V ps ∧ (J 126 0 = nI e ∧ e < 2 ^ 19) ∧ J 115 18 = -4 ∧ (J 115 33 = nI N ∧ N ≤ 10) ∧ trO J 143 N ro ∧ snO J 144 N sn := fun J ⟨f1, f2⟩ => ⟨rEv_any q0 (f1 118 (by decide)) (f1 119 (by decide)) (f1 120 (by decide)) (f1 122 (by decide)) (f1 123 (by decide)), by rw [f1 126 (by decide)]; exact q1, by rw [f2 18 (by decide) (by decide)]; exact q2, by rw [f2 33 (by decide) (by decide)]; exact q3, fun i hi => by rw [f1 143 (by decide)]; exact q4 i hi, fun i hi => by rw [f1 144 (by decide)]; exact q5 i hi⟩
  have step : ∀ J K, kpP I J → (fr [115, 130, 131] J K ∧ ∀ s, s ≠ 19 → K 115 s = J 115 s) → kpP I K := fun J K h h2 => ⟨fr_trans h.1 (fr_sub h2.1 (by decide)), fun s h3 h4 => (h2.2 s h3).trans (h.2 s h3 h4)⟩
  have main : ∀ i J, i ≤ N → (kpP I J ∧ J 115 37 = nI (cnt C 39) ∧ ∀ t, t < 39 → C t = true → J 146 (cnt C t) = nI t) → 1 < cnt C 39 → RX12_parts zn d (fun r u => ∃ (J : Nat → Nat → Int32), r = some (.int (parS V e ro sn N)) ∧ u = (zSH zn, J, L) ∧ (kpP I J)) 55 [some (.ref 115), some (.int ((pf V e C ro sn i).2)), some (.int (nI (pf V e C ro sn i).1)), some (.int (nI i)), none, none, none, none] [] (zSH zn, J, L) := by
    refine zup (fun J hJ h1 => ?_) (fun i J hi hJ ih h1 => ?_)
    · obtain ⟨kp, -, -⟩ := hJ
      exact gX12_parts_55 _ _ _ J L ⟨fun _ => ⟨J, by rw [hres, if_pos h1], rfl, kp⟩, fun hc => absurd (by rw [(env J kp).2.2.2.1.1, nI_leI (by omega) (by omega)]; exact Nat.le_refl _) hc⟩
    · obtain ⟨kp, e37, s146⟩ := hJ
      obtain ⟨v1, v2, v3, v4, v5, v6⟩ := env J kp
      have hs := v6 i hi
      have hp := pf_le (V := V) (e := e) (C := C) (ro := ro) (sn := sn) i
      refine gX12_parts_55 _ _ _ J L ⟨fun hc => absurd hc (by rw [v4.1, nI_leI (by omega) (by omega)]; omega), fun _ => ⟨fun hc => absurd hc (by rw [e37, nl1, nI_leI (by omega) (by decide)]; omega), fun _ => ⟨vin_nI (by omega) (by omega), ?_⟩⟩⟩
      rw [nI_clamp (by omega), hs.1]
      refine ⟨fun hz => ?_, fun hz => ?_⟩
      · have := ih J ⟨kp, e37, s146⟩ h1
        rw [pf_n (fun z => hz z.1)] at this
        rw [nI_1]
        exact this
      · have lst : ∀ k K, k ≤ cnt C 39 → (kpP I K ∧ K 115 37 = nI (cnt C 39) ∧ (∀ t, t < 39 → C t = true → K 146 (cnt C t) = nI t) ∧ ∀ t, t < 39 → C t = true → cnt C t < k → K 147 (cnt C t) = nI (FM V e t (ro i))) → RX12_parts zn d (fun r u => ∃ (J : Nat → Nat → Int32), r = some (.int (parS V e ro sn N)) ∧ u = (zSH zn, J, L) ∧ (kpP I J)) 84 [some (.ref 115), some (.int ((pf V e C ro sn i).2)), some (.int (nI (pf V e C ro sn i).1)), some (.int (nI i)), some (.int (nI k)), none, none, none] [] (zSH zn, K, L) := by
          refine zup (fun K hK => ?_) (fun k K hk hK ihk => ?_)
          · obtain ⟨kK, k37, k146, k147⟩ := hK
            refine gX12_parts_84 _ _ _ _ K L ⟨fun _ => ?_, fun hc => absurd (by rw [k37, nI_leI (by omega) (by omega)]; exact Nat.le_refl _) hc⟩
            have outer : ∀ t g, t ≤ 39 → mxT V e C (ro i) t g → RX12_parts zn d (fun r u => ∃ (J : Nat → Nat → Int32), r = some (.int (parS V e ro sn N)) ∧ u = (zSH zn, J, L) ∧ (kpP I J)) 124 [some (.ref 115), some (.int ((pf V e C ro sn i).2)), some (.int (nI (pf V e C ro sn i).1)), some (.int (nI i)), some (.int (nI g)), some (.int (nI (cnt C t))), none, none] [] (zSH zn, K, L) := by
              refine zup (fun g hg => ?_) (fun t g ht hg iht => ?_)
              · have hgm := gmx_eq hg
                have hgl := mxT_le hg
                refine gX12_parts_124 _ _ _ _ _ K L ⟨fun _ => ?_, fun hc => absurd (by rw [k37, nI_leI (by omega) (by omega)]; exact Nat.le_refl _) hc⟩
                rw [nI_leI (by omega) (by omega), nI_1]
                have := ih K ⟨kK, k37, k146⟩ h1
                refine ⟨fun hc => ?_, fun hc => ?_⟩
                · rw [pf_n (fun z => by have := z.2; omega)] at this
                  exact this
                · rw [pf_y hz (by omega), hgm] at this
                  exact this
              · by_cases hct : C t = true
                · have hlt : cnt C t < cnt C 39 := cnt_lt ht hct
                  have hgl := mxT_le hg
                  refine gX12_parts_124 _ _ _ _ _ K L ⟨fun hc => absurd hc (by rw [k37, nI_leI (by omega) (by omega)]; omega), fun _ => ?_⟩
                  have hn : fb_sm (fun o => if K 147 o = K 147 (cnt C t) then 1 else 0) (cnt C 39) = grp V e C (ro i) t := by
                    rw [fb_cnt]
                    refine fb_sm_cong (fun u hu => ?_)
                    unfold sm
                    by_cases hcu : C u = true
                    · rw [if_pos hcu, hcu, Bool.true_and]
                      have a1 := FM_lt V e u (ro i)
                      have a2 := FM_lt V e t (ro i)
                      have : (K 147 (cnt C u) = K 147 (cnt C t)) ↔ FM V e u (ro i) = FM V e t (ro i) := by
                        rw [k147 u hu hcu (cnt_lt hu hcu), k147 t ht hct hlt, nI_eq (by omega) (by omega)]
                      by_cases hf : FM V e u (ro i) = FM V e t (ro i)
                      · rw [if_pos (this.mpr hf), if_pos (decide_eq_true hf)]
                      · rw [if_neg (fun z => hf (this.mp z)), if_neg (by rw [decide_eq_false hf]; decide)]
                    · rw [if_neg hcu]
                      have : C u = false := by simpa using hcu
                      rw [this]; rfl
                  have inner : ∀ o (_ : Unit), o ≤ cnt C 39 → True → RX12_parts zn d (fun r u => ∃ (J : Nat → Nat → Int32), r = some (.int (parS V e ro sn N)) ∧ u = (zSH zn, J, L) ∧ (kpP I J)) 139 [some (.ref 115), some (.int ((pf V e C ro sn i).2)), some (.int (nI (pf V e C ro sn i).1)), some (.int (nI i)), some (.int (nI g)), some (.int (nI (cnt C t))), some (.int (nI (fb_sm (fun o => if K 147 o = K 147 (cnt C t) then 1 else 0) o))), some (.int (nI o))] [] (zSH zn, K, L) := by
                    refine zup (fun _ _ => ?_) (fun o _ ho _ iho => ?_)
                    · refine gX12_parts_139 _ _ _ _ _ _ _ K L ⟨fun _ => ?_, fun hc => absurd (by rw [k37, nI_leI (by omega) (by omega)]; exact Nat.le_refl _) hc⟩
                      have hgr := grp_le (V := V) (e := e) (C := C) (x := ro i) (t := t)
                      rw [hn, nI_leI (by omega) (by omega), nI_1]
                      have hcs : cnt C t + 1 = cnt C (t + 1) := by rw [cnt_s, if_pos hct]
                      rw [hcs]
                      have hup := mxT_up hg hct
                      refine ⟨fun hc => ?_, fun hc => ?_⟩
                      · rw [if_neg (by omega)] at hup
                        exact iht g hup
                      · rw [if_pos (by omega)] at hup
                        exact iht _ hup
                    · refine gX12_parts_139 _ _ _ _ _ _ _ K L ⟨fun hc => absurd hc (by rw [k37, nI_leI (by omega) (by omega)]; omega), fun _ => ⟨vin_nI (by omega) (by omega), vin_nI (by omega) (by omega), ?_⟩⟩
                      have := iho () trivial
                      rw [fb_sm_succ] at this
                      rw [nI_clamp (by omega), nI_clamp (by omega), add_0, nI_1, nI_1]
                      refine ⟨fun hc => ?_, fun hc => ?_⟩
                      · rw [if_neg hc] at this; exact this
                      · rw [if_pos hc] at this; exact this
                  exact inner 0 () (Nat.zero_le _) trivial
                · have := iht g (mxT_no hg (fun z => absurd z hct))
                  rw [cnt_s, if_neg hct] at this
                  exact this
            exact outer 0 0 (Nat.zero_le _) ⟨fun w hw => absurd hw (by omega), Or.inl rfl⟩
          · obtain ⟨kK, k37, k146, k147⟩ := hK
            obtain ⟨w1, w2, w3, w4, w5, w6⟩ := env K kK
            obtain ⟨t, ht, hct, hck⟩ := cnt_ex hk
            refine gX12_parts_84 _ _ _ _ K L ⟨fun hc => absurd hc (by rw [k37, nI_leI (by omega) (by omega)]; omega), fun _ => ⟨vin_nI (by omega) (by omega), V, ps, e, N, ro, t, i, w1, w2, w3, w5, ?_, ⟨rfl, hi, hN⟩, fun K3 h3 => ?_⟩⟩
            · rw [nI_clamp (by omega), ← hck]; exact ⟨k146 t ht hct, ht⟩
            · have kK3 := step K K3 kK h3
              rw [nI_clamp (by omega), nI_1]
              refine ihk _ ⟨⟨fr_trans kK3.1 (fr_zi (by decide)), fun s h4 h5 => by rw [zi_ne (by decide)]; exact kK3.2 s h4 h5⟩, by rw [zi_ne (by decide), h3.2 37 (by decide)]; exact k37, fun u hu hcu => by rw [zi_ne (by decide), h3.1 146 (by decide)]; exact k146 u hu hcu, fun u hu hcu hlt => ?_⟩
              rw [zi_at]
              by_cases huk : cnt C u = k
              · rw [if_pos ⟨rfl, huk⟩, cnt_inj hcu hct (by omega)]
              · rw [if_neg (fun z => huk z.2), h3.1 147 (by decide)]; exact k147 u hu hcu (by omega)
        exact lst 0 J (Nat.zero_le _) ⟨kp, e37, s146, fun t _ _ h => absurd h (by omega)⟩
  have gather : ∀ f J, f ≤ 39 → (kpP I J ∧ J 115 37 = nI (cnt C f) ∧ ∀ t, t < f → C t = true → J 146 (cnt C t) = nI t) → RX12_parts zn d (fun r u => ∃ (J : Nat → Nat → Int32), r = some (.int (parS V e ro sn N)) ∧ u = (zSH zn, J, L) ∧ (kpP I J)) 7 [some (.ref 115), some (.int (nI f)), none, none, none, none, none, none] [] (zSH zn, J, L) := by
    refine zup (fun J hJ => ?_) (fun f J hf hJ ih => ?_)
    · refine gX12_parts_7 _ J L ⟨fun _ => ?_, fun hc => absurd (by decide) hc⟩
      by_cases h1 : 1 < cnt C 39
      · exact main 0 J (Nat.zero_le _) hJ h1
      · have ev := env J hJ.1
        refine gX12_parts_55 _ _ _ J L ⟨fun _ => ⟨J, by rw [hres, if_neg h1], rfl, hJ.1⟩, fun _ => ⟨fun _ => ⟨J, by rw [hres, if_neg h1], rfl, hJ.1⟩, fun hc => absurd (by rw [hJ.2.1, nl1, nI_leI (by omega) (by decide)]; omega) hc⟩⟩
    · obtain ⟨kp, e37, s146⟩ := hJ
      obtain ⟨v1, v2, v3, v4, v5, v6⟩ := env J kp
      have hcf := cnt_le C f
      refine gX12_parts_7 _ J L ⟨fun hc => absurd hc (by rw [nl 38, nI_ltI (by decide) (by omega)]; omega), fun _ => ⟨V, ps, e, N, ro, sn, f, C f, v1, v2, v3, v4, v5, v6, ⟨rfl, hf⟩, hC' f, fun J3 h3 => ?_⟩⟩
      have k3 := step J J3 kp h3
      have e3 : J3 115 37 = nI (cnt C f) := by rw [h3.2 37 (by decide)]; exact e37
      have s3 : ∀ t, t < f → C t = true → J3 146 (cnt C t) = nI t := fun t ht hc => by rw [h3.1 146 (by decide)]; exact s146 t ht hc
      rw [nI_1]
      refine ⟨fun hb => ih J3 ⟨k3, by rw [cnt_s, if_neg hb]; exact e3, fun t ht hc => ?_⟩, fun hb => ?_⟩
      · by_cases htf : t = f
        · rw [htf] at hc; exact absurd hc hb
        · exact s3 t (by omega) hc
      · have e37' : ∀ v, (zi J3 146 (cnt C f) v) 115 37 = nI (cnt C f) := fun v => by rw [zi_ne (by decide)]; exact e3
        rw [e3, nI_clamp (by omega), e37', nI_1]
        refine ⟨vin_nI (by omega) (by omega), ih _ ⟨⟨fr_trans k3.1 (fr_trans (fr_zi (by decide)) (fr_zi (by decide))), fun s h4 h5 => ?_⟩, ?_, fun t ht hc => ?_⟩⟩
        · rw [zi_at, if_neg (fun z => h5 z.2), zi_ne (by decide)]; exact k3.2 s h4 h5
        · rw [zi_at, if_pos ⟨rfl, rfl⟩, cnt_s, if_pos hb]
        · rw [zi_ne (by decide), zi_at]
          by_cases htf : t = f
          · rw [htf, if_pos ⟨rfl, rfl⟩]
          · have : cnt C t ≠ cnt C f := fun z => htf (cnt_inj hc hb z)
            rw [if_neg (fun z => this z.2)]; exact s3 t (by omega) hc
  refine eX12_parts I L (gX12_parts_0 I L (gather 0 _ (Nat.zero_le _) ⟨⟨fr_zi (by decide), fun s h4 h5 => by rw [zi_at, if_neg (fun z => h5 z.2)]⟩, by rw [zi_at, if_pos ⟨rfl, rfl⟩]; rfl, fun t ht => absurd ht (by omega)⟩))

