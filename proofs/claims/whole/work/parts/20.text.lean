/-! TEXTS: bytes behind one another -/
def byC (v : Int64) (k : Nat) : Int32 := ((v.toUInt64 >>> (((8 : Int32) * nI k).toInt64.toUInt64 &&& Int64.toUInt64 63)).toInt64).toInt32 &&& (255 : Int32)
def byM (v : Int64) (k : Nat) : Int32 := ((v >>> (((8 : Int32) * nI k).toInt64 &&& 63)) &&& (255 : Int64)).toInt32
/-- behind the call a text is longer by n bytes of v, or as it was -/
def apT (I J : Nat → Nat → Int32) (k : Nat) (n l : Nat) (v : Int64) : Prop := fr [k, k + 1] I J ∧ (∀ s, s ≠ 1 → J k s = I k s) ∧ J k 1 = nI (l + n) ∧ (∀ i, i < l → J (k + 1) i = I (k + 1) i) ∧ ∀ j, j < n → J (k + 1) (l + j) = byC v (n - 1 - j)
abbrev RX7_append (zn d : Nat) (post : zP) : zK := zRun (zcal zty zcd false (d + 0)) kX7_append (zLM zn) post
theorem eX7_append {zn d : Nat} {post : zP} (k0 : Nat) (x1 : Int32) (x2 : Int64) (I : Nat → Nat → Int32) (L : Nat → Nat → Int64) (h0 : isX7 k0) (h : RX7_append zn d post 0 [some (.ref k0), some (.int x1), some (.long x2), none, none] [] (zSH zn, I, L)) : zcal zty zcd false (d + 1) 61 [.ref k0, .int x1, .long x2] (zSH zn, I, L) 0 0 post := zcal_of (d := d + 0) zmt61 zmc61 rfl (Nat.le_of_ble_eq_true rfl) h
theorem gX7_append_0 {zn d : Nat} {post : zP} (k0 : Nat) (x1 : Int32) (x2 : Int64) (I : Nat → Nat → Int32) (L : Nat → Nat → Int64) (h0 : isX7 k0) (h : (x1 ≤ ((200 : Int32) - (I k0 1)) → RX7_append zn d post 20 [some (.ref k0), some (.int x1), some (.long x2), none, some (.int (x1 - (1 : Int32)))] [] (zSH zn, I, L)) ∧ (¬ x1 ≤ ((200 : Int32) - (I k0 1)) → post (some (.int (-3 : Int32))) (zSH zn, I, L))) : RX7_append zn d post 0 [some (.ref k0), some (.int x1), some (.long x2), none, none] [] (zSH zn, I, L) := fun P hw hc => hc _ tX7_append_0 _ _ _ (hc _ tX7_append_1 _ _ _ (hc _ tX7_append_4 _ _ _ (hc _ tX7_append_5 _ _ _ (⟨_, (shX7 h0), (geX7 h0), hc _ tX7_append_8 _ _ _ (hc _ tX7_append_9 _ _ _ (⟨fun c1 => hc _ tX7_append_15 _ _ _ (hc _ tX7_append_16 _ _ _ (hc _ tX7_append_17 _ _ _ (hc _ tX7_append_18 _ _ _ ((h.1 c1) P hw hc)))), fun c2 => hc _ tX7_append_12 _ _ _ (hc _ tX7_append_14 _ _ _ (⟨nofun, rfl, rfl, (h.2 c2)⟩))⟩))⟩))))
theorem gX7_append_20 {zn d : Nat} {post : zP} (k0 : Nat) (x1 : Int32) (x2 : Int64) (x4 : Int32) (I : Nat → Nat → Int32) (L : Nat → Nat → Int64) (h0 : isX7 k0) (h : (x4 < 0 → post (some (.int (I k0 1))) (zSH zn, I, L)) ∧ (¬ x4 < 0 → vp_in (I k0 1) 200 ∧ (RX7_append zn d post 20 [some (.ref k0), some (.int x1), some (.long x2), none, some (.int (x4 + (-1 : Int32)))] [] (zSH zn, (zi (zi I (k0 + 1) ((I k0 1)).toNatClampNeg ((((x2).toUInt64 >>> ((((8 : Int32) * x4)).toInt64.toUInt64 &&& Int64.toUInt64 63)).toInt64).toInt32 &&& (255 : Int32))) k0 1 (((zi I (k0 + 1) ((I k0 1)).toNatClampNeg ((((x2).toUInt64 >>> ((((8 : Int32) * x4)).toInt64.toUInt64 &&& Int64.toUInt64 63)).toInt64).toInt32 &&& (255 : Int32))) k0 1) + (1 : Int32))), L)))) : RX7_append zn d post 20 [some (.ref k0), some (.int x1), some (.long x2), none, some (.int x4)] [] (zSH zn, I, L) := fun P hw hc => hc _ tX7_append_20 _ _ _ (hc _ tX7_append_22 _ _ _ (⟨fun c1 => hc _ tX7_append_62 _ _ _ (hc _ tX7_append_63 _ _ _ (⟨_, (shX7 h0), (geX7 h0), hc _ tX7_append_66 _ _ _ (⟨nofun, rfl, rfl, (h.1 c1)⟩)⟩)), fun c2 => hc _ tX7_append_25 _ _ _ (hc _ tX7_append_26 _ _ _ (⟨_, _, (shX7 h0), (geX7 h0), rfl, hc _ tX7_append_29 _ _ _ (hc _ tX7_append_30 _ _ _ (⟨_, (shX7 h0), (geX7 h0), hc _ tX7_append_33 _ _ _ (hc _ tX7_append_34 _ _ _ (hc _ tX7_append_36 _ _ _ (hc _ tX7_append_38 _ _ _ (hc _ tX7_append_39 _ _ _ (hc _ tX7_append_40 _ _ _ (hc _ tX7_append_41 _ _ _ (hc _ tX7_append_44 _ _ _ (hc _ tX7_append_45 _ _ _ (⟨_, _, (shX7_0 h0), (geX7_0 h0), (h.2 c2).1, hc _ tX7_append_46 _ _ _ (hc _ tX7_append_47 _ _ _ (⟨rfl, hc _ tX7_append_48 _ _ _ (⟨_, (shX7 h0), (geX7 h0), hc _ tX7_append_51 _ _ _ (hc _ tX7_append_52 _ _ _ (hc _ tX7_append_53 _ _ _ (⟨_, (shX7 h0), (geX7 h0), nofun, hc _ tX7_append_56 _ _ _ (hc _ tX7_append_59 _ _ _ ((h.2 c2).2 P hw hc))⟩)))⟩)⟩))⟩)))))))))⟩))⟩))⟩))
theorem ctX7_append {zn d : Nat} (k0 : Nat) (x1 : Int32) (x2 : Int64) (I : Nat → Nat → Int32) (L : Nat → Nat → Int64) (h0 : isX7 k0) (q0 : zs (I k0 1) 200) (q1 : zs x1 8) : zcal zty zcd false (d + 1) 61 [.ref k0, .int x1, .long x2] (zSH zn, I, L) 0 0 (fun r u => ∃ (J : Nat → Nat → Int32), r = some (.int (if tn (I k0 1) + tn x1 ≤ 200 then nI (tn (I k0 1) + tn x1) else -3)) ∧ u = (zSH zn, J, L) ∧ (if tn (I k0 1) + tn x1 ≤ 200 then apT I J k0 (tn x1) (tn (I k0 1)) x2 else J = I)) := by
  obtain ⟨l, hl, el⟩ := q0
  obtain ⟨n, hn, en⟩ := q1
  have t1 : tn (I k0 1) = l := by rw [el]; exact tn_nI (by omega)
  have t2 : tn x1 = n := by rw [en]; exact tn_nI (by omega)
  rw [t1, t2]
  have hk : k0 + 1 ≠ k0 := by omega
  have hcmp : (x1 ≤ (200 : Int32) - I k0 1) ↔ l + n ≤ 200 := by
    rw [en, el, nl 200, pk_sub hl, nI_leI (by omega) (by omega)]; omega
  refine eX7_append k0 x1 x2 I L h0 (gX7_append_0 k0 x1 x2 I L h0 ⟨fun hc => ?_, fun hc => ?_⟩)
  · have hc2 := hcmp.mp hc
    simp only [if_pos hc2]
    have loop : ∀ (j : Nat) (J : Nat → Nat → Int32) (y : Int32), j ≤ n → y = nI j + (-1) → fr [k0, k0 + 1] I J → (∀ s, s ≠ 1 → J k0 s = I k0 s) → J k0 1 = nI (l + (n - j)) → (∀ i, i < l → J (k0 + 1) i = I (k0 + 1) i) → (∀ i, i < n - j → J (k0 + 1) (l + i) = byC x2 (n - 1 - i)) →
        RX7_append zn d (fun r u => ∃ (J : Nat → Nat → Int32), r = some (.int (nI (l + n))) ∧ u = (zSH zn, J, L) ∧ apT I J k0 n l x2) 20 [some (.ref k0), some (.int x1), some (.long x2), none, some (.int y)] [] (zSH zn, J, L) := by
      intro j
      induction j with
      | zero =>
        intro J y hj ey f1 f2 f3 f4 f5
        refine gX7_append_20 k0 x1 x2 y J L h0 ⟨fun _ => ⟨J, ?_, rfl, f1, f2, ?_, f4, fun i hi => f5 i (by omega)⟩, fun h => absurd (by rw [ey]; decide) h⟩
        · rw [f3, Nat.sub_zero]
        · rw [f3, Nat.sub_zero]
      | succ j ih =>
        intro J y hj ey f1 f2 f3 f4 f5
        rw [nI_sub1] at ey
        refine gX7_append_20 k0 x1 x2 y J L h0 ⟨fun h => absurd h (by rw [ey]; exact nI_pos (by omega)), fun _ => ⟨by rw [f3]; exact vin_nI (by omega) (by omega), ?_⟩⟩
        have e1 : (J k0 1).toNatClampNeg = l + (n - (j + 1)) := by rw [f3]; exact nI_clamp (by omega)
        refine ih _ _ (by omega) (by rw [ey]) (fr_trans f1 (fr_trans (fr_zi (by simp)) (fr_zi (by simp)))) (fun s hs => ?_) ?_ (fun i hi => ?_) (fun i hi => ?_)
        · rw [zi_at, if_neg (by simp [hs]), zi_at, if_neg (by omega)]; exact f2 s hs
        · rw [zi_at, if_pos ⟨rfl, rfl⟩, zi_at, if_neg (by omega), f3, nI_1]; congr 1; omega
        · rw [zi_at, if_neg (by omega), zi_at, if_neg (by rw [e1]; omega)]; exact f4 i hi
        · rw [zi_at, if_neg (by omega), zi_at]
          by_cases hi2 : i = n - (j + 1)
          · rw [if_pos ⟨rfl, by rw [e1]; omega⟩, ey, show n - 1 - i = j by omega]; rfl
          · rw [if_neg (by rw [e1]; omega)]; exact f5 i (by omega)
    refine loop n I _ (Nat.le_refl _) (by rw [en, Int32.sub_eq_add_neg]) fr_rf (fun _ _ => rfl) (by rw [el]; congr 1; omega) (fun _ _ => rfl) (fun i hi => absurd hi (by omega))
  · have hc2 : ¬ l + n ≤ 200 := fun z => hc (hcmp.mpr z)
    simp only [if_neg hc2]
    simp
/-- the text of a view, as the class has it -/
def kT (x : Int32) : Nat := 7 + 2 * tn x
abbrev RX11_write (zn d : Nat) (post : zP) : zK := zRun (zcal zty zcd false (d + 1)) kX11_write (zLM zn) post
theorem eX11_write {zn d : Nat} {post : zP} (x1 : Int32) (x2 : Int32) (x3 : Int64) (I : Nat → Nat → Int32) (L : Nat → Nat → Int64) (h : RX11_write zn d post 0 [some (.ref 5), some (.int x1), some (.int x2), some (.long x3), none] [] (zSH zn, I, L)) : zcal zty zcd false (d + 2) 90 [.ref 5, .int x1, .int x2, .long x3] (zSH zn, I, L) 0 0 post := zcal_of (d := d + 1) zmt90 zmc90 rfl (Nat.le_of_ble_eq_true rfl) h
theorem gX11_write_0 {zn d : Nat} {post : zP} (x1 : Int32) (x2 : Int32) (x3 : Int64) (I : Nat → Nat → Int32) (L : Nat → Nat → Int64) (h : (¬ ((x1 = 0 ∨ x1 = 1)) → post (some (.int (-1 : Int32))) (zSH zn, I, L)) ∧ ((x1 = 0 ∨ x1 = 1) → (x2 < (1 : Int32) → post (some (.int (-1 : Int32))) (zSH zn, I, L)) ∧ (¬ x2 < (1 : Int32) → (x2 ≤ (8 : Int32) → vp_in x1 2 ∧ ((zs (I (7 + 2 * (x1).toNatClampNeg) 1) 200) ∧ (zs x2 8) ∧ (∀ (J7 : Nat → Nat → Int32), (if tn (I (7 + 2 * (x1).toNatClampNeg) 1) + tn x2 ≤ 200 then apT I J7 (7 + 2 * (x1).toNatClampNeg) (tn x2) (tn (I (7 + 2 * (x1).toNatClampNeg) 1)) x3 else J7 = I) → post (some (.int (if tn (I (7 + 2 * (x1).toNatClampNeg) 1) + tn x2 ≤ 200 then nI (tn (I (7 + 2 * (x1).toNatClampNeg) 1) + tn x2) else -3))) (zSH zn, J7, L)))) ∧ (¬ x2 ≤ (8 : Int32) → post (some (.int (-1 : Int32))) (zSH zn, I, L))))) : RX11_write zn d post 0 [some (.ref 5), some (.int x1), some (.int x2), some (.long x3), none] [] (zSH zn, I, L) := fun P hw hc => hc _ tX11_write_0 _ _ _ (hc _ tX11_write_1 _ _ _ (⟨Nat.le_of_ble_eq_true rfl, Nat.le_of_ble_eq_true rfl, zl1, zl2, _, ctX11_isView x1 I L, fun r u k10 => by obtain ⟨rfl, rfl⟩ := k10; exact ⟨zl3, zl4, hc _ tX11_write_4 _ _ _ (⟨fun c1 => hc _ tX11_write_18 _ _ _ (hc _ tX11_write_19 _ _ _ (⟨nofun, rfl, rfl, (h.1 (zb_e c1))⟩)), fun c2 => hc _ tX11_write_7 _ _ _ (hc _ tX11_write_8 _ _ _ (hc _ tX11_write_9 _ _ _ (⟨fun c3 => hc _ tX11_write_18 _ _ _ (hc _ tX11_write_19 _ _ _ (⟨nofun, rfl, rfl, ((h.2 (zb_n c2)).1 c3)⟩)), fun c4 => hc _ tX11_write_12 _ _ _ (hc _ tX11_write_13 _ _ _ (hc _ tX11_write_15 _ _ _ (⟨fun c5 => hc _ tX11_write_20 _ _ _ (hc _ tX11_write_21 _ _ _ (⟨_, _, sh5, (by decide), rfl, hc _ tX11_write_24 _ _ _ (hc _ tX11_write_25 _ _ _ (⟨_, _, _, sh6, (by decide), by decide, (((h.2 (zb_n c2)).2 c4).1 c5).1, ae6 (((h.2 (zb_n c2)).2 c4).1 c5).1, hc _ tX11_write_26 _ _ _ (hc _ tX11_write_27 _ _ _ (hc _ tX11_write_28 _ _ _ (⟨⟨_, _, _, rfl, (geX7 (ar6 (((h.2 (zb_n c2)).2 c4).1 c5).1)), (shX7 (ar6 (((h.2 (zb_n c2)).2 c4).1 c5).1))⟩, ⟨Nat.le_of_ble_eq_true rfl, Nat.le_of_ble_eq_true rfl, zl1, zl2, _, ctX7_append (7 + 2 * (x1).toNatClampNeg) x2 x3 I L (ar6 (((h.2 (zb_n c2)).2 c4).1 c5).1) ((((h.2 (zb_n c2)).2 c4).1 c5).2.1) ((((h.2 (zb_n c2)).2 c4).1 c5).2.2.1), fun r u k9 => by obtain ⟨J7, rfl, rfl, p8⟩ := k9; exact ⟨zl3, zl4, hc _ tX11_write_31 _ _ _ (⟨nofun, rfl, rfl, ((((h.2 (zb_n c2)).2 c4).1 c5).2.2.2 J7 p8)⟩)⟩⟩⟩)))⟩))⟩)), fun c6 => hc _ tX11_write_18 _ _ _ (hc _ tX11_write_19 _ _ _ (⟨nofun, rfl, rfl, (((h.2 (zb_n c2)).2 c4).2 c6)⟩))⟩)))⟩)))⟩)⟩⟩))
theorem ctX11_write {zn d : Nat} (x1 : Int32) (x2 : Int32) (x3 : Int64) (I : Nat → Nat → Int32) (L : Nat → Nat → Int64) (q0 : zs (I 7 1) 200) (q1 : zs (I 9 1) 200) : zcal zty zcd false (d + 2) 90 [.ref 5, .int x1, .int x2, .long x3] (zSH zn, I, L) 0 0 (fun r u => ∃ (J : Nat → Nat → Int32), ∃ (v : Int32), r = some (.int v) ∧ u = (zSH zn, J, L) ∧ (if (x1 = 0 ∨ x1 = 1) ∧ 1 ≤ x2 ∧ x2 ≤ 8 then (if tn (I (kT x1) 1) + tn x2 ≤ 200 then v = nI (tn (I (kT x1) 1) + tn x2) ∧ apT I J (kT x1) (tn x2) (tn (I (kT x1) 1)) x3 else v = -3 ∧ J = I) else v = -1 ∧ J = I)) := by
  have hv : (x1 = 0 ∨ x1 = 1) → vp_in x1 2 ∧ zs (I (7 + 2 * x1.toNatClampNeg) 1) 200 := fun h => by
    rcases h with rfl | rfl
    · exact ⟨zvin (by decide), q0⟩
    · exact ⟨zvin (by decide), q1⟩
  refine eX11_write x1 x2 x3 I L (gX11_write_0 x1 x2 x3 I L ⟨fun h => ?_, fun h => ⟨fun h1 => ?_, fun h1 => ⟨fun h2 => ⟨(hv h).1, (hv h).2, ?_, fun J hJ => ?_⟩, fun h2 => ?_⟩⟩⟩)
  · exact ⟨I, -1, rfl, rfl, by rw [if_neg (fun z => h z.1)]; exact ⟨rfl, rfl⟩⟩
  · exact ⟨I, -1, rfl, rfl, by rw [if_neg (fun z => Int32.not_lt.mpr z.2.1 h1)]; exact ⟨rfl, rfl⟩⟩
  · exact nI_of2 (M := 8) (by decide) (fun z => h1 (Int32.lt_trans z (by decide))) h2
  · refine ⟨J, _, rfl, rfl, ?_⟩
    rw [if_pos ⟨h, Int32.not_lt.mp h1, h2⟩]
    have ek : 7 + 2 * x1.toNatClampNeg = kT x1 := rfl
    rw [ek] at hJ ⊢
    split at hJ
    · next hc => rw [if_pos hc, if_pos hc]; exact ⟨rfl, hJ⟩
    · next hc => rw [if_neg hc, if_neg hc]; exact ⟨rfl, hJ⟩
  · exact ⟨I, -1, rfl, rfl, by rw [if_neg (fun z => h2 z.2.2)]; exact ⟨rfl, rfl⟩⟩
abbrev RX11_clear (zn d : Nat) (post : zP) : zK := zRun (zcal zty zcd false (d + 1)) kX11_clear (zLM zn) post
theorem eX11_clear {zn d : Nat} {post : zP} (x1 : Int32) (I : Nat → Nat → Int32) (L : Nat → Nat → Int64) (h : RX11_clear zn d post 0 [some (.ref 5), some (.int x1), none] [] (zSH zn, I, L)) : zcal zty zcd false (d + 2) 91 [.ref 5, .int x1] (zSH zn, I, L) 0 0 post := zcal_of (d := d + 1) zmt91 zmc91 rfl (Nat.le_of_ble_eq_true rfl) h
theorem gX11_clear_0 {zn d : Nat} {post : zP} (x1 : Int32) (I : Nat → Nat → Int32) (L : Nat → Nat → Int64) (h : ((x1 = 0 ∨ x1 = 1) → vp_in x1 2 ∧ (post (some (.int (I (7 + 2 * (x1).toNatClampNeg) 1))) (zSH zn, (zi I (7 + 2 * (x1).toNatClampNeg) 1 (0 : Int32)), L))) ∧ (¬ ((x1 = 0 ∨ x1 = 1)) → post (some (.int (-1 : Int32))) (zSH zn, I, L))) : RX11_clear zn d post 0 [some (.ref 5), some (.int x1), none] [] (zSH zn, I, L) := fun P hw hc => hc _ tX11_clear_0 _ _ _ (hc _ tX11_clear_1 _ _ _ (⟨Nat.le_of_ble_eq_true rfl, Nat.le_of_ble_eq_true rfl, zl1, zl2, _, ctX11_isView x1 I L, fun r u k3 => by obtain ⟨rfl, rfl⟩ := k3; exact ⟨zl3, zl4, hc _ tX11_clear_4 _ _ _ (⟨fun c1 => hc _ tX11_clear_9 _ _ _ (hc _ tX11_clear_10 _ _ _ (⟨_, _, sh5, (by decide), rfl, hc _ tX11_clear_13 _ _ _ (hc _ tX11_clear_14 _ _ _ (⟨_, _, _, sh6, (by decide), by decide, (h.1 (zb_n c1)).1, ae6 (h.1 (zb_n c1)).1, hc _ tX11_clear_15 _ _ _ (⟨_, (shX7 (ar6 (h.1 (zb_n c1)).1)), (geX7 (ar6 (h.1 (zb_n c1)).1)), hc _ tX11_clear_18 _ _ _ (hc _ tX11_clear_19 _ _ _ (hc _ tX11_clear_20 _ _ _ (⟨_, _, sh5, (by decide), rfl, hc _ tX11_clear_23 _ _ _ (hc _ tX11_clear_24 _ _ _ (⟨_, _, _, sh6, (by decide), by decide, (h.1 (zb_n c1)).1, ae6 (h.1 (zb_n c1)).1, hc _ tX11_clear_25 _ _ _ (hc _ tX11_clear_26 _ _ _ (⟨_, (shX7 (ar6 (h.1 (zb_n c1)).1)), (geX7 (ar6 (h.1 (zb_n c1)).1)), nofun, hc _ tX11_clear_29 _ _ _ (hc _ tX11_clear_30 _ _ _ (⟨nofun, rfl, rfl, (h.1 (zb_n c1)).2⟩))⟩))⟩))⟩)))⟩)⟩))⟩)), fun c2 => hc _ tX11_clear_7 _ _ _ (hc _ tX11_clear_8 _ _ _ (⟨nofun, rfl, rfl, (h.2 (zb_e c2))⟩))⟩)⟩⟩))
theorem ctX11_clear {zn d : Nat} (x1 : Int32) (I : Nat → Nat → Int32) (L : Nat → Nat → Int64) (q0 : zs (I 7 1) 200) (q1 : zs (I 9 1) 200) : zcal zty zcd false (d + 2) 91 [.ref 5, .int x1] (zSH zn, I, L) 0 0 (fun r u => ∃ (J : Nat → Nat → Int32), ∃ (v : Int32), r = some (.int v) ∧ u = (zSH zn, J, L) ∧ (if x1 = 0 ∨ x1 = 1 then v = I (kT x1) 1 ∧ J = zi I (kT x1) 1 0 else v = -1 ∧ J = I)) := by
  refine eX11_clear x1 I L (gX11_clear_0 x1 I L ⟨fun h => ⟨?_, ?_⟩, fun h => ?_⟩)
  · rcases h with rfl | rfl <;> exact zvin (by decide)
  · exact ⟨_, _, rfl, rfl, by rw [if_pos h]; exact ⟨rfl, rfl⟩⟩
  · exact ⟨_, _, rfl, rfl, by rw [if_neg h]; exact ⟨rfl, rfl⟩⟩
/-! the reference's -/
def apM (I J : Nat → Nat → Int32) (x : Int32) (n l : Nat) (v : Int64) : Prop := fr [116, 117] I J ∧ (∀ s, s ≠ tn x → J 117 s = I 117 s) ∧ J 117 (tn x) = nI (l + n) ∧ (∀ i, ¬ (200 * tn x + l ≤ i ∧ i < 200 * tn x + l + n) → J 116 i = I 116 i) ∧ ∀ j, j < n → J 116 (200 * tn x + l + j) = byM v (n - 1 - j)
abbrev RX12_write (zn d : Nat) (post : zP) : zK := zRun (zcal zty zcd false (d + 1)) kX12_write (zLM zn) post
theorem eX12_write {zn d : Nat} {post : zP} (x1 : Int32) (x2 : Int32) (x3 : Int64) (I : Nat → Nat → Int32) (L : Nat → Nat → Int64) (h : RX12_write zn d post 0 [some (.ref 115), some (.int x1), some (.int x2), some (.long x3), none, none] [] (zSH zn, I, L)) : zcal zty zcd false (d + 2) 139 [.ref 115, .int x1, .int x2, .long x3] (zSH zn, I, L) 0 0 post := zcal_of (d := d + 1) zmt139 zmc139 rfl (Nat.le_of_ble_eq_true rfl) h
theorem gX12_write_0 {zn d : Nat} {post : zP} (x1 : Int32) (x2 : Int32) (x3 : Int64) (I : Nat → Nat → Int32) (L : Nat → Nat → Int64) (h : (¬ ((0 : Int32) ≤ x1 ∧ x1 ≤ (1 : Int32)) → post (some (.int (-1 : Int32))) (zSH zn, I, L)) ∧ ((0 : Int32) ≤ x1 ∧ x1 ≤ (1 : Int32) → ((1 : Int32) ≤ x2 ∧ x2 ≤ (8 : Int32) → vp_in x1 2 ∧ ((((I 117 (x1).toNatClampNeg) + x2) ≤ (200 : Int32) → RX12_write zn d post 43 [some (.ref 115), some (.int x1), some (.int x2), some (.long x3), none, some (.int (x2 - (1 : Int32)))] [] (zSH zn, I, L)) ∧ (¬ ((I 117 (x1).toNatClampNeg) + x2) ≤ (200 : Int32) → post (some (.int (-3 : Int32))) (zSH zn, I, L)))) ∧ (¬ ((1 : Int32) ≤ x2 ∧ x2 ≤ (8 : Int32)) → post (some (.int (-1 : Int32))) (zSH zn, I, L)))) : RX12_write zn d post 0 [some (.ref 115), some (.int x1), some (.int x2), some (.long x3), none, none] [] (zSH zn, I, L) := fun P hw hc => hc _ tX12_write_0 _ _ _ (hc _ tX12_write_1 _ _ _ (hc _ tX12_write_2 _ _ _ (hc _ tX12_write_3 _ _ _ (⟨Nat.le_of_ble_eq_true rfl, Nat.le_of_ble_eq_true rfl, zl1, zl2, _, ctX12_in x1 (0 : Int32) (1 : Int32) I L, fun r u k8 => by obtain ⟨rfl, rfl⟩ := k8; exact ⟨zl3, zl4, hc _ tX12_write_6 _ _ _ (⟨fun c1 => hc _ tX12_write_19 _ _ _ (hc _ tX12_write_20 _ _ _ (⟨nofun, rfl, rfl, (h.1 (zb_e c1))⟩)), fun c2 => hc _ tX12_write_9 _ _ _ (hc _ tX12_write_10 _ _ _ (hc _ tX12_write_11 _ _ _ (hc _ tX12_write_13 _ _ _ (⟨Nat.le_of_ble_eq_true rfl, Nat.le_of_ble_eq_true rfl, zl1, zl2, _, ctX12_in x2 (1 : Int32) (8 : Int32) I L, fun r u k7 => by obtain ⟨rfl, rfl⟩ := k7; exact ⟨zl3, zl4, hc _ tX12_write_16 _ _ _ (⟨fun c3 => hc _ tX12_write_21 _ _ _ (hc _ tX12_write_22 _ _ _ (⟨_, _, sh115, (by decide), rfl, hc _ tX12_write_25 _ _ _ (hc _ tX12_write_26 _ _ _ (⟨_, _, _, sh117, Or.inl ⟨rfl, (by decide)⟩, ((h.2 (zb_n c2)).1 (zb_n c3)).1, hc _ tX12_write_27 _ _ _ (hc _ tX12_write_28 _ _ _ (hc _ tX12_write_29 _ _ _ (hc _ tX12_write_32 _ _ _ (⟨fun c5 => hc _ tX12_write_38 _ _ _ (hc _ tX12_write_39 _ _ _ (hc _ tX12_write_40 _ _ _ (hc _ tX12_write_41 _ _ _ ((((h.2 (zb_n c2)).1 (zb_n c3)).2.1 c5) P hw hc)))), fun c6 => hc _ tX12_write_35 _ _ _ (hc _ tX12_write_37 _ _ _ (⟨nofun, rfl, rfl, (((h.2 (zb_n c2)).1 (zb_n c3)).2.2 c6)⟩))⟩))))⟩))⟩)), fun c4 => hc _ tX12_write_19 _ _ _ (hc _ tX12_write_20 _ _ _ (⟨nofun, rfl, rfl, ((h.2 (zb_n c2)).2 (zb_e c4))⟩))⟩)⟩⟩))))⟩)⟩⟩))))
theorem gX12_write_43 {zn d : Nat} {post : zP} (x1 : Int32) (x2 : Int32) (x3 : Int64) (x5 : Int32) (I : Nat → Nat → Int32) (L : Nat → Nat → Int64) (h : (x5 < 0 → vp_in x1 2 ∧ (post (some (.int (I 117 (x1).toNatClampNeg))) (zSH zn, I, L))) ∧ (¬ x5 < 0 → vp_in x1 2 ∧ (vp_in (((200 : Int32) * x1) + (I 117 (x1).toNatClampNeg)) 400 ∧ (RX12_write zn d post 43 [some (.ref 115), some (.int x1), some (.int x2), some (.long x3), none, some (.int (x5 + (-1 : Int32)))] [] (zSH zn, (zi (zi I 116 ((((200 : Int32) * x1) + (I 117 (x1).toNatClampNeg))).toNatClampNeg (((x3 >>> ((((8 : Int32) * x5)).toInt64 &&& 63)) &&& (255 : Int64))).toInt32) 117 (x1).toNatClampNeg (((zi I 116 ((((200 : Int32) * x1) + (I 117 (x1).toNatClampNeg))).toNatClampNeg (((x3 >>> ((((8 : Int32) * x5)).toInt64 &&& 63)) &&& (255 : Int64))).toInt32) 117 (x1).toNatClampNeg) + (1 : Int32))), L))))) : RX12_write zn d post 43 [some (.ref 115), some (.int x1), some (.int x2), some (.long x3), none, some (.int x5)] [] (zSH zn, I, L) := fun P hw hc => hc _ tX12_write_43 _ _ _ (hc _ tX12_write_45 _ _ _ (⟨fun c1 => hc _ tX12_write_93 _ _ _ (hc _ tX12_write_94 _ _ _ (⟨_, _, sh115, (by decide), rfl, hc _ tX12_write_97 _ _ _ (hc _ tX12_write_98 _ _ _ (⟨_, _, _, sh117, Or.inl ⟨rfl, (by decide)⟩, (h.1 c1).1, hc _ tX12_write_99 _ _ _ (⟨nofun, rfl, rfl, (h.1 c1).2⟩)⟩))⟩)), fun c2 => hc _ tX12_write_48 _ _ _ (hc _ tX12_write_49 _ _ _ (⟨_, _, sh115, (by decide), rfl, hc _ tX12_write_52 _ _ _ (hc _ tX12_write_55 _ _ _ (hc _ tX12_write_56 _ _ _ (hc _ tX12_write_57 _ _ _ (hc _ tX12_write_58 _ _ _ (⟨_, _, sh115, (by decide), rfl, hc _ tX12_write_61 _ _ _ (hc _ tX12_write_62 _ _ _ (⟨_, _, _, sh117, Or.inl ⟨rfl, (by decide)⟩, (h.2 c2).1, hc _ tX12_write_63 _ _ _ (hc _ tX12_write_64 _ _ _ (hc _ tX12_write_65 _ _ _ (hc _ tX12_write_67 _ _ _ (hc _ tX12_write_69 _ _ _ (hc _ tX12_write_70 _ _ _ (hc _ tX12_write_71 _ _ _ (hc _ tX12_write_74 _ _ _ (hc _ tX12_write_75 _ _ _ (hc _ tX12_write_76 _ _ _ (⟨_, _, sh116, (by decide), (h.2 c2).2.1, hc _ tX12_write_77 _ _ _ (hc _ tX12_write_78 _ _ _ (⟨_, _, sh115, (by decide), rfl, hc _ tX12_write_81 _ _ _ (hc _ tX12_write_82 _ _ _ (⟨⟨rfl, rfl⟩, hc _ tX12_write_83 _ _ _ (⟨_, _, _, sh117, Or.inl ⟨rfl, (by decide)⟩, (h.2 c2).1, hc _ tX12_write_84 _ _ _ (hc _ tX12_write_85 _ _ _ (hc _ tX12_write_86 _ _ _ (⟨_, _, sh117, (by decide), (h.2 c2).1, hc _ tX12_write_87 _ _ _ (hc _ tX12_write_90 _ _ _ ((h.2 c2).2.2 P hw hc))⟩)))⟩)⟩))⟩))⟩))))))))))⟩))⟩)))))⟩))⟩))
theorem in01 {x : Int32} : (0 ≤ x ∧ x ≤ 1) ↔ (x = 0 ∨ x = 1) := by
  constructor
  · rintro ⟨h1, h2⟩
    obtain ⟨j, hj, rfl⟩ := nI_of2 (M := 1) (n := 1) (by decide) (Int32.not_lt.mpr h1) h2
    rcases (show j = 0 ∨ j = 1 by omega) with rfl | rfl
    · exact Or.inl rfl
    · exact Or.inr rfl
  · rintro (rfl | rfl) <;> decide
theorem ctX12_write {zn d : Nat} (x1 : Int32) (x2 : Int32) (x3 : Int64) (I : Nat → Nat → Int32) (L : Nat → Nat → Int64) (q0 : zs (I 117 0) 200) (q1 : zs (I 117 1) 200) : zcal zty zcd false (d + 2) 139 [.ref 115, .int x1, .int x2, .long x3] (zSH zn, I, L) 0 0 (fun r u => ∃ (J : Nat → Nat → Int32), ∃ (v : Int32), r = some (.int v) ∧ u = (zSH zn, J, L) ∧ (if (x1 = 0 ∨ x1 = 1) ∧ 1 ≤ x2 ∧ x2 ≤ 8 then (if tn (I 117 (tn x1)) + tn x2 ≤ 200 then v = nI (tn (I 117 (tn x1)) + tn x2) ∧ apM I J x1 (tn x2) (tn (I 117 (tn x1))) x3 else v = -3 ∧ J = I) else v = -1 ∧ J = I)) := by
  have hv : (x1 = 0 ∨ x1 = 1) → vp_in x1 2 ∧ zs (I 117 (tn x1)) 200 := fun h => by
    rcases h with rfl | rfl
    · exact ⟨zvin (by decide), q0⟩
    · exact ⟨zvin (by decide), q1⟩
  refine eX12_write x1 x2 x3 I L (gX12_write_0 x1 x2 x3 I L ⟨fun h => ?_, fun h => ⟨fun h1 => ⟨(hv (in01.mp h)).1, fun h2 => ?_, fun h2 => ?_⟩, fun h1 => ?_⟩⟩)
  · exact ⟨I, -1, rfl, rfl, by rw [if_neg (fun z => h (in01.mpr z.1))]; exact ⟨rfl, rfl⟩⟩
  · have hx := in01.mp h
    obtain ⟨l, hl, el⟩ := (hv hx).2
    obtain ⟨n, hn, en⟩ := nI_of2 (M := 8) (n := 8) (by decide) (fun z => Int32.not_lt.mpr h1.1 (Int32.lt_trans z (by decide))) h1.2
    have ex : ∃ w, w < 2 ∧ x1 = nI w ∧ tn x1 = w := by rcases hx with rfl | rfl; exact ⟨0, by decide, rfl, by decide⟩; exact ⟨1, by decide, rfl, by decide⟩
    obtain ⟨w, hw, ew, tw⟩ := ex
    have t1 : tn (I 117 (tn x1)) = l := by rw [el]; exact tn_nI (by omega)
    have t2 : tn x2 = n := by rw [en]; exact tn_nI (by omega)
    have hc2 : l + n ≤ 200 := by
      have h3 : I 117 (tn x1) + x2 ≤ 200 := h2
      rw [el, en, nI_add, nl 200, nI_leI (by omega) (by omega)] at h3
      exact h3
    have hl117 : x1.toNatClampNeg = w := tw
    simp only [if_pos (show (x1 = 0 ∨ x1 = 1) ∧ 1 ≤ x2 ∧ x2 ≤ 8 from ⟨hx, h1⟩), t1, t2, if_pos hc2]
    have loop : ∀ (j : Nat) (J : Nat → Nat → Int32) (y : Int32), j ≤ n → y = nI j + (-1) → fr [116, 117] I J → (∀ s, s ≠ tn x1 → J 117 s = I 117 s) → J 117 (tn x1) = nI (l + (n - j)) → (∀ i, ¬ (200 * tn x1 + l ≤ i ∧ i < 200 * tn x1 + l + n) → J 116 i = I 116 i) → (∀ i, i < n - j → J 116 (200 * tn x1 + l + i) = byM x3 (n - 1 - i)) →
        RX12_write zn d (fun r u => ∃ (J : Nat → Nat → Int32) (v : Int32), r = some (.int v) ∧ u = (zSH zn, J, L) ∧ (v = nI (l + n) ∧ apM I J x1 n l x3)) 43 [some (.ref 115), some (.int x1), some (.int x2), some (.long x3), none, some (.int y)] [] (zSH zn, J, L) := by
      intro j
      induction j with
      | zero =>
        intro J y hj ey f1 f2 f3 f4 f5
        refine gX12_write_43 x1 x2 x3 y J L ⟨fun _ => ⟨(hv hx).1, J, _, rfl, rfl, f3, f1, f2, f3, f4, fun i hi => f5 i (by omega)⟩, fun h => absurd (by rw [ey]; decide) h⟩
      | succ j ih =>
        intro J y hj ey f1 f2 f3 f4 f5
        rw [nI_sub1] at ey
        have e0 : J 117 x1.toNatClampNeg = nI (l + (n - (j + 1))) := f3
        have e2 : (200 : Int32) * x1 + J 117 x1.toNatClampNeg = nI (200 * w + (l + (n - (j + 1)))) := by rw [e0, ew, nl 200, pk_mul, nI_add]
        have e1 : ((200 : Int32) * x1 + J 117 x1.toNatClampNeg).toNatClampNeg = 200 * tn x1 + (l + (n - (j + 1))) := by rw [e2, tw]; exact nI_clamp (by omega)
        refine gX12_write_43 x1 x2 x3 y J L ⟨fun h => absurd h (by rw [ey]; exact nI_pos (by omega)), fun _ => ⟨(hv hx).1, by rw [e2]; exact vin_nI (by omega) (by omega), ?_⟩⟩
        refine ih _ _ (by omega) (by rw [ey]) (fr_trans f1 (fr_trans (fr_zi (by simp)) (fr_zi (by simp)))) (fun s hs => ?_) ?_ (fun i hi => ?_) (fun i hi => ?_)
        · rw [zi_at, if_neg (fun z => hs z.2), zi_at, if_neg (by omega)]; exact f2 s hs
        · rw [zi_at, if_pos ⟨rfl, rfl⟩, zi_at, if_neg (by omega), e0, nI_1]; congr 1; omega
        · rw [zi_at, if_neg (by omega), zi_at, if_neg (by rw [e1]; omega)]; exact f4 i hi
        · rw [zi_at, if_neg (by omega), zi_at]
          by_cases hi2 : i = n - (j + 1)
          · rw [if_pos ⟨rfl, by rw [e1]; omega⟩, ey, show n - 1 - i = j by omega]; rfl
          · rw [if_neg (by rw [e1]; omega)]; exact f5 i (by omega)
    refine loop n I _ (Nat.le_refl _) (by rw [en, Int32.sub_eq_add_neg]) fr_rf (fun _ _ => rfl) (by rw [el]; congr 1; omega) (fun _ _ => rfl) (fun i hi => absurd hi (by omega))
  · have hx := in01.mp h
    obtain ⟨l, hl, el⟩ := (hv hx).2
    obtain ⟨n, hn, en⟩ := nI_of2 (M := 8) (n := 8) (by decide) (fun z => Int32.not_lt.mpr h1.1 (Int32.lt_trans z (by decide))) h1.2
    have t1 : tn (I 117 (tn x1)) = l := by rw [el]; exact tn_nI (by omega)
    have t2 : tn x2 = n := by rw [en]; exact tn_nI (by omega)
    refine ⟨I, -3, rfl, rfl, ?_⟩
    rw [if_pos ⟨hx, h1⟩, t1, t2, if_neg]
    · exact ⟨rfl, rfl⟩
    · intro hc
      refine h2 ?_
      show I 117 (tn x1) + x2 ≤ 200
      rw [el, en, nI_add, nl 200, nI_leI (by omega) (by omega)]
      exact hc
  · exact ⟨I, -1, rfl, rfl, by rw [if_neg (fun z => h1 z.2)]; exact ⟨rfl, rfl⟩⟩
abbrev RX12_clear (zn d : Nat) (post : zP) : zK := zRun (zcal zty zcd false (d + 1)) kX12_clear (zLM zn) post
theorem eX12_clear {zn d : Nat} {post : zP} (x1 : Int32) (I : Nat → Nat → Int32) (L : Nat → Nat → Int64) (h : RX12_clear zn d post 0 [some (.ref 115), some (.int x1), none] [] (zSH zn, I, L)) : zcal zty zcd false (d + 2) 140 [.ref 115, .int x1] (zSH zn, I, L) 0 0 post := zcal_of (d := d + 1) zmt140 zmc140 rfl (Nat.le_of_ble_eq_true rfl) h
theorem gX12_clear_0 {zn d : Nat} {post : zP} (x1 : Int32) (I : Nat → Nat → Int32) (L : Nat → Nat → Int64) (h : ((0 : Int32) ≤ x1 ∧ x1 ≤ (1 : Int32) → vp_in x1 2 ∧ (post (some (.int (I 117 (x1).toNatClampNeg))) (zSH zn, (zi I 117 (x1).toNatClampNeg (0 : Int32)), L))) ∧ (¬ ((0 : Int32) ≤ x1 ∧ x1 ≤ (1 : Int32)) → post (some (.int (-1 : Int32))) (zSH zn, I, L))) : RX12_clear zn d post 0 [some (.ref 115), some (.int x1), none] [] (zSH zn, I, L) := fun P hw hc => hc _ tX12_clear_0 _ _ _ (hc _ tX12_clear_1 _ _ _ (hc _ tX12_clear_2 _ _ _ (hc _ tX12_clear_3 _ _ _ (⟨Nat.le_of_ble_eq_true rfl, Nat.le_of_ble_eq_true rfl, zl1, zl2, _, ctX12_in x1 (0 : Int32) (1 : Int32) I L, fun r u k3 => by obtain ⟨rfl, rfl⟩ := k3; exact ⟨zl3, zl4, hc _ tX12_clear_6 _ _ _ (⟨fun c1 => hc _ tX12_clear_11 _ _ _ (hc _ tX12_clear_12 _ _ _ (⟨_, _, sh115, (by decide), rfl, hc _ tX12_clear_15 _ _ _ (hc _ tX12_clear_16 _ _ _ (⟨_, _, _, sh117, Or.inl ⟨rfl, (by decide)⟩, (h.1 (zb_n c1)).1, hc _ tX12_clear_17 _ _ _ (hc _ tX12_clear_18 _ _ _ (hc _ tX12_clear_19 _ _ _ (⟨_, _, sh115, (by decide), rfl, hc _ tX12_clear_22 _ _ _ (hc _ tX12_clear_23 _ _ _ (hc _ tX12_clear_24 _ _ _ (⟨_, _, sh117, (by decide), (h.1 (zb_n c1)).1, hc _ tX12_clear_25 _ _ _ (hc _ tX12_clear_26 _ _ _ (⟨nofun, rfl, rfl, (h.1 (zb_n c1)).2⟩))⟩)))⟩)))⟩))⟩)), fun c2 => hc _ tX12_clear_9 _ _ _ (hc _ tX12_clear_10 _ _ _ (⟨nofun, rfl, rfl, (h.2 (zb_e c2))⟩))⟩)⟩⟩))))
theorem ctX12_clear {zn d : Nat} (x1 : Int32) (I : Nat → Nat → Int32) (L : Nat → Nat → Int64)  : zcal zty zcd false (d + 2) 140 [.ref 115, .int x1] (zSH zn, I, L) 0 0 (fun r u => ∃ (J : Nat → Nat → Int32), ∃ (v : Int32), r = some (.int v) ∧ u = (zSH zn, J, L) ∧ (if x1 = 0 ∨ x1 = 1 then v = I 117 (tn x1) ∧ J = zi I 117 (tn x1) 0 else v = -1 ∧ J = I)) := by
  refine eX12_clear x1 I L (gX12_clear_0 x1 I L ⟨fun h => ⟨?_, ?_⟩, fun h => ?_⟩)
  · rcases in01.mp h with rfl | rfl <;> exact zvin (by decide)
  · exact ⟨_, _, rfl, rfl, by rw [if_pos (in01.mp h)]; exact ⟨rfl, rfl⟩⟩
  · exact ⟨_, _, rfl, rfl, by rw [if_neg (fun z => h (in01.mpr z))]; exact ⟨rfl, rfl⟩⟩

