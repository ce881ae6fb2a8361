/-! READING: one byte -/
abbrev RX5_takes (zn d : Nat) (post : zP) : zK := zRun (zcal zty zcd false (d + 3)) kX5_takes (zLM zn) post
theorem eX5_takes {zn d : Nat} {post : zP} (x1 : Int32) (I : Nat → Nat → Int32) (L : Nat → Nat → Int64) (h : RX5_takes zn d post 0 [some (.ref 26), some (.int x1)] [] (zSH zn, I, L)) : zcal zty zcd false (d + 4) 45 [.ref 26, .int x1] (zSH zn, I, L) 0 0 post := zcal_of (d := d + 3) zmt45 zmc45 rfl (Nat.le_of_ble_eq_true rfl) h
theorem gX5_takes_0 {zn d : Nat} {post : zP} (x1 : Int32) (I : Nat → Nat → Int32) (L : Nat → Nat → Int64) (h : (¬ (I 26 1) = 0 → (¬ (I 26 1) = (1 : Int32) → (¬ x1 = (59 : Int32) → (∃ (s8 : zRs) (t9 : Nat), (okS s8) ∧ (s8.1 = 2) ∧ (t9 < 256) ∧ (t9 ≠ 59) ∧ ((fX5_kindOfSign x1) = fX5_kindOfSign (nI t9)) ∧ (cRd I s8) ∧ (szS s8 < 200) ∧ (∀ (J7 : Nat → Nat → Int32), (rdP I J7 s8 t9) → post (some (.int (if (rdn s8 t9).isSome = true then 1 else 0))) (zSH zn, J7, L)))) ∧ (x1 = (59 : Int32) → (∃ (s15 : zRs), (okS s15) ∧ (s15.1 = 2) ∧ (cRd I s15) ∧ (szS s15 ≤ 200) ∧ (∀ (J14 : Nat → Nat → Int32), (rdP I J14 s15 59) → post (some (.int (if (rdn s15 59).isSome = true then 1 else 0))) (zSH zn, J14, L))))) ∧ ((I 26 1) = (1 : Int32) → (¬ x1 = (61 : Int32) → post (some (.int (0 : Int32))) (zSH zn, (zi I 26 1 (2 : Int32)), L)) ∧ (x1 = (61 : Int32) → post (some (.int (1 : Int32))) (zSH zn, (zi I 26 1 (2 : Int32)), L)))) ∧ ((I 26 1) = 0 → (∃ (s22 : zRs) (t23 : Nat), (okS s22) ∧ (s22.1 = 0) ∧ (t23 < 256) ∧ ((x1 - (97 : Int32)) = nI t23 - 97) ∧ (cRd I s22) ∧ (szS s22 < 200) ∧ (∀ (J21 : Nat → Nat → Int32), (rdP I J21 s22 t23) → post (some (.int (if (rdn s22 t23).isSome = true then 1 else 0))) (zSH zn, J21, L))))) : RX5_takes zn d post 0 [some (.ref 26), some (.int x1)] [] (zSH zn, I, L) := fun P hw hc => hc _ tX5_takes_0 _ _ _ (hc _ tX5_takes_1 _ _ _ (⟨_, sh26, (by decide), hc _ tX5_takes_4 _ _ _ (⟨fun c1 => hc _ tX5_takes_16 _ _ _ (hc _ tX5_takes_17 _ _ _ (⟨_, sh26, (by decide), hc _ tX5_takes_20 _ _ _ (hc _ tX5_takes_21 _ _ _ (⟨fun c3 => hc _ tX5_takes_41 _ _ _ (hc _ tX5_takes_42 _ _ _ (hc _ tX5_takes_44 _ _ _ (⟨fun c5 => hc _ tX5_takes_54 _ _ _ (hc _ tX5_takes_55 _ _ _ (hc _ tX5_takes_56 _ _ _ (⟨Nat.le_of_ble_eq_true rfl, Nat.le_of_ble_eq_true rfl, zl1, zl2, _, ctX5_kindOfSign x1 I L, fun r u k13 => by obtain ⟨rfl, rfl⟩ := k13; exact ⟨zl3, zl4, (by obtain ⟨s8, t9, hg10⟩ := (((h.1 c1).1 c3).1 c5); exact hc _ tX5_takes_59 _ _ _ (⟨⟨_, _, _, rfl, (by decide), sh26⟩, ⟨Nat.le_of_ble_eq_true rfl, Nat.le_of_ble_eq_true rfl, zl1, zl2, _, ctX5_takesToken (fX5_kindOfSign x1) I L s8 t9 hg10.1 hg10.2.1 hg10.2.2.1 hg10.2.2.2.1 hg10.2.2.2.2.1 hg10.2.2.2.2.2.1 hg10.2.2.2.2.2.2.1, fun r u k12 => by obtain ⟨J7, rfl, rfl, p11⟩ := k12; exact ⟨zl3, zl4, hc _ tX5_takes_62 _ _ _ (⟨fun _ => zb_01, rfl, rfl, (hg10.2.2.2.2.2.2.2 J7 p11)⟩)⟩⟩⟩))⟩⟩))), fun c6 => hc _ tX5_takes_47 _ _ _ ((by obtain ⟨s15, hg16⟩ := (((h.1 c1).1 c3).2 c6); exact hc _ tX5_takes_48 _ _ _ (⟨⟨_, _, _, rfl, (by decide), sh26⟩, ⟨Nat.le_of_ble_eq_true rfl, Nat.le_of_ble_eq_true rfl, zl1, zl2, _, ctX5_takesEnd I L s15 hg16.1 hg16.2.1 hg16.2.2.1 hg16.2.2.2.1, fun r u k18 => by obtain ⟨J14, rfl, rfl, p17⟩ := k18; exact ⟨zl3, zl4, hc _ tX5_takes_51 _ _ _ (hc _ tX5_takes_62 _ _ _ (⟨fun _ => zb_01, rfl, rfl, (hg16.2.2.2.2 J14 p17)⟩))⟩⟩⟩)))⟩))), fun c4 => hc _ tX5_takes_24 _ _ _ (hc _ tX5_takes_25 _ _ _ (hc _ tX5_takes_26 _ _ _ (⟨_, sh26, (by decide), nofun, hc _ tX5_takes_29 _ _ _ (hc _ tX5_takes_30 _ _ _ (hc _ tX5_takes_32 _ _ _ (⟨fun c19 => hc _ tX5_takes_39 _ _ _ (hc _ tX5_takes_40 _ _ _ (⟨fun _ => by decide, rfl, rfl, (((h.1 c1).2 c4).1 c19)⟩)), fun c20 => hc _ tX5_takes_35 _ _ _ (hc _ tX5_takes_36 _ _ _ (hc _ tX5_takes_40 _ _ _ (⟨fun _ => by decide, rfl, rfl, (((h.1 c1).2 c4).2 c20)⟩)))⟩)))⟩)))⟩))⟩)), fun c2 => hc _ tX5_takes_7 _ _ _ (hc _ tX5_takes_8 _ _ _ (hc _ tX5_takes_9 _ _ _ (hc _ tX5_takes_11 _ _ _ ((by obtain ⟨s22, t23, hg24⟩ := (h.2 c2); exact hc _ tX5_takes_12 _ _ _ (⟨⟨_, _, _, rfl, (by decide), sh26⟩, ⟨Nat.le_of_ble_eq_true rfl, Nat.le_of_ble_eq_true rfl, zl1, zl2, _, ctX5_takesLetter (x1 - (97 : Int32)) I L s22 t23 hg24.1 hg24.2.1 hg24.2.2.1 hg24.2.2.2.1 hg24.2.2.2.2.1 hg24.2.2.2.2.2.1, fun r u k26 => by obtain ⟨J21, rfl, rfl, p25⟩ := k26; exact ⟨zl3, zl4, hc _ tX5_takes_15 _ _ _ (⟨fun _ => zb_01, rfl, rfl, (hg24.2.2.2.2.2.2 J21 p25)⟩)⟩⟩⟩))))))⟩)⟩))
theorem ctX5_takes {zn d : Nat} (x1 : Int32) (I : Nat → Nat → Int32) (L : Nat → Nat → Int64) (s : zRs) (t : Nat) (q0 : okS s) (q1 : t < 256) (q2 : x1 = nI t) (q3 : cRd I s) (q4 : szS s < 200) : zcal zty zcd false (d + 4) 45 [.ref 26, .int x1] (zSH zn, I, L) 0 0 (fun r u => ∃ (J : Nat → Nat → Int32), r = some (.int (if (rdn s t).isSome = true then 1 else 0)) ∧ u = (zSH zn, J, L) ∧ (rdP I J s t)) := by
  subst q2
  refine eX5_takes _ I L (gX5_takes_0 _ I L ?_)
  have haw : s.1 = 0 ∨ s.1 = 1 ∨ s.1 = 2 := by have := q0.1; omega
  have c1 := q3.1
  refine ⟨fun h0 => ⟨fun h1 => ?_, fun h1 => ?_⟩, fun h0 => ?_⟩
  · have h2 : s.1 = 2 := by
      rcases haw with e | e | e
      · rw [c1, e] at h0; exact absurd rfl h0
      · rw [c1, e] at h1; exact absurd rfl h1
      · exact e
    refine ⟨fun h3 => ⟨s, t, q0, h2, q1, fun z => h3 (by rw [z]; rfl), rfl, q3, q4, fun J hJ => ⟨J, rfl, rfl, hJ⟩⟩, fun h3 => ?_⟩
    have : t = 59 := nI_inj (by omega) (by decide) h3
    subst this
    exact ⟨s, q0, h2, q3, by omega, fun J hJ => ⟨J, rfl, rfl, hJ⟩⟩
  · have h2 : s.1 = 1 := by
      rcases haw with e | e | e
      · rw [c1, e] at h1; exact absurd h1 (by decide)
      · exact e
      · rw [c1, e] at h1; exact absurd h1 (by decide)
    obtain ⟨aw, nm, cur, V⟩ := s
    dsimp only at h2
    subst h2
    have hcur : cur = [] := q0.2.2.2.1 (by show (1 : Nat) ≠ 2; decide)
    subst hcur
    have hfr : fr [26, 27, 28, 29, 30, 31, 32] I (zi I 26 1 2) := fr_zi (by decide)
    refine ⟨fun h3 => ?_, fun h3 => ?_⟩
    · have hr : rdn (1, nm, [], V) t = none := by
        unfold rdn
        dsimp only
        rw [if_neg (by decide), if_pos rfl, if_neg (fun z => h3 (by rw [z]; rfl))]
      exact ⟨_, by rw [hr]; rfl, rfl, rdP_no hr hfr⟩
    · have ht : t = 61 := nI_inj (by omega) (by decide) h3
      have hr : rdn (1, nm, [], V) t = some (2, nm, [], V) := by
        unfold rdn
        dsimp only
        rw [if_neg (by decide), if_pos rfl, if_pos ht]
      refine ⟨_, by rw [hr]; rfl, rfl, hfr, fun s' hs => ?_⟩
      rw [hr] at hs
      cases hs
      obtain ⟨c1, c2, c3, c4, c5, c6⟩ := q3
      obtain ⟨k1, k2, f, k3, k4, k5⟩ := c6 (by show (1 : Nat) ≠ 0; decide)
      refine ⟨?_, ?_, ?_, fun n hn => ?_, fun n ks hn => ?_, fun _ => ⟨?_, ?_, f, ?_, k4, fun i x hx => by cases hx⟩⟩
      · simp only [zi_at]; rfl
      · simp only [zi_at]; simp; exact c2
      · simp only [zi_at]; simp; exact c3
      · simp only [zi_at]; simp; exact c4 n hn
      · obtain ⟨g, hg, hle⟩ := c5 n ks hn
        refine ⟨g, lnC_cong hg ?_ ?_ (fun i hi => ?_), hle⟩
        · simp only [zi_at]; simp
        · simp only [zi_at]; simp
        · simp only [zi_at]; simp
      · simp only [zi_at]; simp; exact k1
      · simp only [zi_at]; simp; exact k2
      · simp only [zi_at]; simp; exact k3
  · have h2 : s.1 = 0 := by
      rcases haw with e | e | e
      · exact e
      · rw [c1, e] at h0; exact absurd h0 (by decide)
      · rw [c1, e] at h0; exact absurd h0 (by decide)
    exact ⟨s, t, q0, h2, q1, rfl, q3, q4, fun J hJ => ⟨J, rfl, rfl, hJ⟩⟩
abbrev RX10_forget (zn d : Nat) (post : zP) : zK := zRun (zcal zty zcd false (d + 1)) kX10_forget (zLM zn) post
theorem eX10_forget {zn d : Nat} {post : zP} (k0 : Nat) (I : Nat → Nat → Int32) (L : Nat → Nat → Int64) (h0 : isX10 k0) (h : RX10_forget zn d post 0 [some (.ref k0)] [] (zSH zn, I, L)) : zcal zty zcd false (d + 2) 82 [.ref k0] (zSH zn, I, L) 0 0 post := zcal_of (d := d + 1) zmt82 zmc82 rfl (Nat.le_of_ble_eq_true rfl) h
theorem gX10_forget_0 {zn d : Nat} {post : zP} (k0 : Nat) (I : Nat → Nat → Int32) (L : Nat → Nat → Int64) (h0 : isX10 k0) (h : (19 ≤ 1000) ∧ (∀ (J1 : Nat → Nat → Int32), (fr [(k0 + 4)] (zi I k0 6 (0 : Int32)) J1 ∧ ∀ i, i < 19 → J1 (k0 + 4) i = (0 : Int32)) → (19 ≤ 1000) ∧ (∀ (J3 : Nat → Nat → Int32), (fr [(k0 + 5)] J1 J3 ∧ ∀ i, i < 19 → J3 (k0 + 5) i = (0 : Int32)) → post none (zSH zn, J3, L)))) : RX10_forget zn d post 0 [some (.ref k0)] [] (zSH zn, I, L) := fun P hw hc => hc _ tX10_forget_0 _ _ _ (hc _ tX10_forget_1 _ _ _ (hc _ tX10_forget_2 _ _ _ (⟨_, (shX10 h0), (geX10 h0), nofun, hc _ tX10_forget_5 _ _ _ (hc _ tX10_forget_6 _ _ _ (⟨_, _, (shX10 h0), (geX10 h0), rfl, hc _ tX10_forget_9 _ _ _ (hc _ tX10_forget_10 _ _ _ (⟨Nat.le_of_ble_eq_true rfl, Nat.le_of_ble_eq_true rfl, zl1, zl2, _, ctJ7_fill_53178 (k0 + 4) 19 (0 : Int32) (zi I k0 6 (0 : Int32)) L (shX10_3 h0) (geX10_3 h0) h.1, fun r u k6 => by obtain ⟨J1, rfl, rfl, p2⟩ := k6; exact ⟨zl3, zl4, hc _ tX10_forget_13 _ _ _ (hc _ tX10_forget_14 _ _ _ (⟨_, _, (shX10 h0), (geX10 h0), rfl, hc _ tX10_forget_17 _ _ _ (hc _ tX10_forget_18 _ _ _ (⟨Nat.le_of_ble_eq_true rfl, Nat.le_of_ble_eq_true rfl, zl1, zl2, _, ctJ7_fill_53178 (k0 + 5) 19 (0 : Int32) J1 L (shX10_4 h0) (geX10_4 h0) ((h.2 J1 p2).1), fun r u k5 => by obtain ⟨J3, rfl, rfl, p4⟩ := k5; exact ⟨zl3, zl4, hc _ tX10_forget_21 _ _ _ (⟨rfl, rfl, ((h.2 J1 p2).2 J3 p4)⟩)⟩⟩))⟩))⟩⟩))⟩))⟩)))
theorem ctX10_forget {zn d : Nat} (k0 : Nat) (I : Nat → Nat → Int32) (L : Nat → Nat → Int64) (h0 : isX10 k0)  : zcal zty zcd false (d + 2) 82 [.ref k0] (zSH zn, I, L) 0 0 (fun r u => ∃ (J : Nat → Nat → Int32), r = none ∧ u = (zSH zn, J, L) ∧ (fr [k0, k0 + 4, k0 + 5] I J ∧ J k0 6 = 0 ∧ (∀ i, i < 19 → J (k0 + 4) i = 0) ∧ ∀ i, i < 19 → J (k0 + 5) i = 0)) := by
  refine eX10_forget _ I L h0 (gX10_forget_0 _ I L h0 ⟨by decide, fun J1 ⟨a1, a2⟩ => ⟨by decide, fun J2 ⟨b1, b2⟩ => ⟨J2, rfl, rfl, ?_, ?_, ?_, b2⟩⟩⟩)
  · intro j hj
    simp only [List.mem_cons, List.not_mem_nil, or_false, not_or] at hj
    rw [b1 j (by simp [hj]), a1 j (by simp [hj]), zi_ne hj.1]
  · rw [b1 k0 (by simp), a1 k0 (by simp), zi_at, if_pos ⟨rfl, rfl⟩]
  · intro i hi
    rw [b1 (k0 + 4) (by simp)]
    exact a2 i hi

