/-! SOUND TEXTS -/
def wAll (M : Nat → Nat) : Nat → Nat → Nat
  | 0 => M
  | j + 1 => fun n => if 6 ≤ n ∧ n < 19 then wS (wAll M j) (6 + j) n else wAll M j n
theorem wAll_I {M : Nat → Nat} : ∀ j, j ≤ 9 → wI M (wAll M j) (6 + j)
  | 0, _ => wI_0
  | j + 1, h => wI_step (by omega) (by omega) (wAll_I j (by omega))
def lea (V : zVw) (n : Nat) : Nat := wAll (dV V) 9 n
theorem lea_clo (V : zVw) {n : Nat} (h6 : 6 ≤ n) (h19 : n < 19) : isClo (dV V) n (lea V n) := wI_clo (wAll_I 9 (by decide)) h6 h19
theorem lea_eq {V : zVw} {A : Nat → Nat} (h : wI (dV V) A 15) {n : Nat} (h6 : 6 ≤ n) (h19 : n < 19) : A n = lea V n := isClo_eq (wI_clo h h6 h19) (lea_clo V h6 h19)
def ringV (V : zVw) : Int32 := lsW (fun w => (lea V w).testBit w) 9 6
def lackV (V : zVw) : Int32 := lsW (fun w => decide (0 < cntU V w) && !(V w).isSome) 9 6
abbrev sdT (T : Nat → Nat) (l : Nat) : Prop := (rdf T l 0 zr0).1 = -4 ∧ ringV (rdf T l 0 zr0).2 = -4 ∧ lackV (rdf T l 0 zr0).2 = -4
theorem lsW_none {p : Nat → Bool} : ∀ (m w : Nat), w + m ≤ 200 → lsW p m w = -4 → ∀ i, w ≤ i → i < w + m → p i = false
  | 0, w, _, _, i, h1, h2 => by omega
  | m + 1, w, hb, h, i, h1, h2 => by
    unfold lsW at h
    by_cases hp : p w = true
    · rw [if_pos hp] at h
      exact absurd h (nI_n4 (by omega))
    · rw [if_neg hp] at h
      by_cases hi : i = w
      · subst hi; exact Bool.eq_false_iff.mpr hp
      · exact lsW_none m (w + 1) (by omega) h i (by omega) (by omega)
theorem cntU_pos {V : zVw} {n w : Nat} {ks : List Nat} (hn : n < 19) (hv : V n = some ks) (hw : w ∈ ks) : 0 < cntU V w := by
  have h := fb_sm_part (fun l => cntO (V l) w) hn
  have h2 : 0 < cntO (V n) w := by rw [hv]; exact List.count_pos_iff.mpr hw
  unfold cntU
  omega
theorem cntU_le {V : zVw} {w : Nat} : cntU V w ≤ szV V := fb_sm_le (fun k _ => by
  cases V k with
  | none => exact Nat.le_refl _
  | some ks => exact List.count_le_length)
theorem tlV_bit {V : zVw} {w : Nat} (h : w < 19) : (tlV V).testBit w = (V w).isSome := by
  unfold tlV; rw [bm_test]; simp [h]
theorem snV_of {V : zVw} {A : Nat → Nat} (hV : okV V) (hA : wI (dV V) A 15) (h1 : ringV V = -4) (h2 : lackV V = -4) : snV V A := by
  refine ⟨hV, hA, fun w h6 h15 => ?_, fun n ks w hn hw h6 h15 => ?_⟩
  · rw [lea_eq hA h6 (by omega)]
    have := lsW_none 9 6 (by decide) h1 w h6 (by omega)
    rw [this]; decide
  · have := lsW_none 9 6 (by decide) h2 w h6 (by omega)
    have hc := cntU_pos (hV n ks hn).2.1 hn hw
    rw [decide_eq_true hc, Bool.true_and] at this
    cases hv : (V w).isSome with
    | true => rfl
    | false => rw [hv] at this; cases this
def cVw (I : Nat → Nat → Int32) (k : Nat) (V : zVw) (os : List Nat) : Prop := cDr I k V ∧ cOrd I k V os
theorem cVw_ev {I : Nat → Nat → Int32} {k : Nat} {V : zVw} {os : List Nat} (h : cVw I k V os) : cEv I k V os := ⟨h.1.1, h.1.2.2.1, h.2⟩
abbrev RX5_readsSound (zn d : Nat) (post : zP) : zK := zRun (zcal zty zcd false (d + 5)) kX5_readsSound (zLM zn) post
theorem eX5_readsSound {zn d : Nat} {post : zP} (k1 : Nat) (I : Nat → Nat → Int32) (L : Nat → Nat → Int64) (h1 : isX7 k1) (h : RX5_readsSound zn d post 0 [some (.ref 26), some (.ref k1)] [] (zSH zn, I, L)) : zcal zty zcd false (d + 6) 44 [.ref 26, .ref k1] (zSH zn, I, L) 0 0 post := zcal_of (d := d + 5) zmt44 zmc44 rfl (Nat.le_of_ble_eq_true rfl) h
theorem gX5_readsSound_0 {zn d : Nat} {post : zP} (k1 : Nat) (I : Nat → Nat → Int32) (L : Nat → Nat → Int64) (h1 : isX7 k1) (h : (∃ (T2 : Nat → Nat) (l3 : Nat), (I k1 1 = nI l3) ∧ (l3 ≤ 200) ∧ (∀ i, i < l3 → T2 i < 256 ∧ I (k1 + 1) i = nI (T2 i)) ∧ (∀ (J1 : Nat → Nat → Int32), (fr [26, 27, 28, 29, 30, 31, 32] I J1 ∧ ((rdf T2 l3 0 zr0).1 = -4 → cDr J1 27 (rdf T2 l3 0 zr0).2)) → (¬ (rdf T2 l3 0 zr0).1 = (-4 : Int32) → post (some (.int (0 : Int32))) (zSH zn, J1, L)) ∧ ((rdf T2 l3 0 zr0).1 = (-4 : Int32) → (∃ (A8 : Nat → Nat), (zMk J1 (27 + 4) A8) ∧ ((¬ (lsW (fun w => (A8 w).testBit w) 9 6) = (-4 : Int32) → post (some (.int (0 : Int32))) (zSH zn, J1, L)) ∧ ((lsW (fun w => (A8 w).testBit w) 9 6) = (-4 : Int32) → (∃ (c12 : Nat → Nat) (b13 : Nat), (∀ n, n < 19 → J1 (27 + 5) n = nI (c12 n) ∧ c12 n < 2 ^ 19) ∧ (J1 27 6 = nI b13) ∧ (b13 < 2 ^ 19) ∧ (((lsW (fun w => decide (0 < c12 w) && !(b13).testBit w) 9 6) = (-4 : Int32) → (∃ (V19 : zVw) (A20 : Nat → Nat), (J1 27 6 = nI (tlV V19)) ∧ (zMk J1 (27 + 4) A20) ∧ (snV V19 A20) ∧ (∀ (J17 : Nat → Nat → Int32) (os18 : List Nat), (poS J1 J17 27 ∧ cOrd J17 27 V19 os18) → post (some (.int (1 : Int32))) (zSH zn, J17, L)))) ∧ (¬ (lsW (fun w => decide (0 < c12 w) && !(b13).testBit w) 9 6) = (-4 : Int32) → post (some (.int (0 : Int32))) (zSH zn, J1, L))))))))))) : RX5_readsSound zn d post 0 [some (.ref 26), some (.ref k1)] [] (zSH zn, I, L) := fun P hw hc => hc _ tX5_readsSound_0 _ _ _ (hc _ tX5_readsSound_1 _ _ _ ((by obtain ⟨T2, l3, hg4⟩ := h; exact hc _ tX5_readsSound_2 _ _ _ (⟨⟨_, _, _, rfl, (by decide), sh26⟩, ⟨Nat.le_of_ble_eq_true rfl, Nat.le_of_ble_eq_true rfl, zl1, zl2, _, ctX5_read k1 I L T2 l3 h1 hg4.1 hg4.2.1 hg4.2.2.1, fun r u k26 => by obtain ⟨J1, rfl, rfl, p5⟩ := k26; exact ⟨zl3, zl4, hc _ tX5_readsSound_5 _ _ _ (hc _ tX5_readsSound_7 _ _ _ (⟨fun c6 => hc _ tX5_readsSound_34 _ _ _ (hc _ tX5_readsSound_35 _ _ _ (⟨fun _ => by decide, rfl, rfl, ((hg4.2.2.2 J1 p5).1 c6)⟩)), fun c7 => hc _ tX5_readsSound_10 _ _ _ (hc _ tX5_readsSound_11 _ _ _ (⟨_, _, sh26, (by decide), rfl, (by obtain ⟨A8, hg9⟩ := ((hg4.2.2.2 J1 p5).2 c7); exact hc _ tX5_readsSound_14 _ _ _ (⟨⟨_, _, _, rfl, (by decide), sh27⟩, ⟨Nat.le_of_ble_eq_true rfl, Nat.le_of_ble_eq_true rfl, zl1, zl2, _, ctX10_leastInRing 27 J1 L A8 isX10_27 hg9.1, fun r u k25 => by obtain ⟨rfl, rfl⟩ := k25; exact ⟨zl3, zl4, hc _ tX5_readsSound_17 _ _ _ (hc _ tX5_readsSound_19 _ _ _ (⟨fun c10 => hc _ tX5_readsSound_34 _ _ _ (hc _ tX5_readsSound_35 _ _ _ (⟨fun _ => by decide, rfl, rfl, (hg9.2.1 c10)⟩)), fun c11 => hc _ tX5_readsSound_22 _ _ _ (hc _ tX5_readsSound_23 _ _ _ (⟨_, _, sh26, (by decide), rfl, (by obtain ⟨c12, b13, hg14⟩ := (hg9.2.2 c11); exact hc _ tX5_readsSound_26 _ _ _ (⟨⟨_, _, _, rfl, (by decide), sh27⟩, ⟨Nat.le_of_ble_eq_true rfl, Nat.le_of_ble_eq_true rfl, zl1, zl2, _, ctX10_leastLacking 27 J1 L c12 b13 isX10_27 hg14.1 hg14.2.1 hg14.2.2.1, fun r u k24 => by obtain ⟨rfl, rfl⟩ := k24; exact ⟨zl3, zl4, hc _ tX5_readsSound_29 _ _ _ (hc _ tX5_readsSound_31 _ _ _ (⟨fun c15 => hc _ tX5_readsSound_36 _ _ _ (hc _ tX5_readsSound_37 _ _ _ (⟨_, _, sh26, (by decide), rfl, (by obtain ⟨V19, A20, hg21⟩ := (hg14.2.2.2.1 c15); exact hc _ tX5_readsSound_40 _ _ _ (⟨⟨_, _, _, rfl, (by decide), sh27⟩, ⟨Nat.le_of_ble_eq_true rfl, Nat.le_of_ble_eq_true rfl, zl1, zl2, _, ctX10_putInOrder 27 J1 L V19 A20 isX10_27 hg21.1 hg21.2.1 hg21.2.2.1, fun r u k23 => by obtain ⟨J17, os18, rfl, rfl, p22⟩ := k23; exact ⟨zl3, zl4, hc _ tX5_readsSound_43 _ _ _ (hc _ tX5_readsSound_44 _ _ _ (⟨fun _ => by decide, rfl, rfl, (hg21.2.2.2 J17 os18 p22)⟩))⟩⟩⟩))⟩)), fun c16 => hc _ tX5_readsSound_34 _ _ _ (hc _ tX5_readsSound_35 _ _ _ (⟨fun _ => by decide, rfl, rfl, (hg14.2.2.2.2 c16)⟩))⟩))⟩⟩⟩))⟩))⟩))⟩⟩⟩))⟩))⟩))⟩⟩⟩))))
theorem ctX5_readsSound {zn d : Nat} (k1 : Nat) (I : Nat → Nat → Int32) (L : Nat → Nat → Int64) (T : Nat → Nat) (l : Nat) (h1 : isX7 k1) (q0 : I k1 1 = nI l) (q1 : l ≤ 200) (q2 : ∀ i, i < l → T i < 256 ∧ I (k1 + 1) i = nI (T i)) : zcal zty zcd false (d + 6) 44 [.ref 26, .ref k1] (zSH zn, I, L) 0 0 (fun r u => ∃ (J : Nat → Nat → Int32), r = some (.int (if sdT T l then 1 else 0)) ∧ u = (zSH zn, J, L) ∧ (fr [26, 27, 28, 29, 30, 31, 32, 33] I J ∧ (sdT T l → ∃ os, cVw J 27 (rdf T l 0 zr0).2 os))) := by
  refine eX5_readsSound _ I L h1 (gX5_readsSound_0 _ I L h1 ⟨T, l, q0, q1, q2, fun J1 ⟨f1, f2⟩ => ⟨fun h => ?_, fun h => ?_⟩⟩)
  · have hn : ¬ sdT T l := fun z => h z.1
    exact ⟨J1, by rw [if_neg hn], rfl, fr_sub f1 (by decide), fun z => absurd z hn⟩
  · have hd := f2 h
    obtain ⟨d1, d2, d3, d4, ⟨A, d5, d6⟩, d7⟩ := hd
    have er : lsW (fun w => (A w).testBit w) 9 6 = ringV (rdf T l 0 zr0).2 := lsW_cong 9 6 (fun i h1 h2 => by rw [lea_eq d6 h1 (by omega)])
    have el : lsW (fun w => decide (0 < cntU (rdf T l 0 zr0).2 w) && !(tlV (rdf T l 0 zr0).2).testBit w) 9 6 = lackV (rdf T l 0 zr0).2 := lsW_cong 9 6 (fun i h1 h2 => by rw [tlV_bit (by omega)])
    refine ⟨A, d5, ?_⟩
    rw [er]
    refine ⟨fun h2 => ?_, fun h2 => ⟨cntU (rdf T l 0 zr0).2, tlV (rdf T l 0 zr0).2, fun n hn => ⟨d7 n hn, ?_⟩, d4, tlV_lt, ?_⟩⟩
    · have hn : ¬ sdT T l := fun z => h2 z.2.1
      exact ⟨J1, by rw [if_neg hn], rfl, fr_sub f1 (by decide), fun z => absurd z hn⟩
    · have := cntU_le (V := (rdf T l 0 zr0).2) (w := n); omega
    · rw [el]
      refine ⟨fun h3 => ⟨_, A, d4, d5, snV_of d1 d6 h2 h3, fun J2 os ⟨p1, p2⟩ => ?_⟩, fun h3 => ?_⟩
      · have hs : sdT T l := ⟨h, h2, h3⟩
        refine ⟨J2, by rw [if_pos hs], rfl, fr_trans (fr_sub f1 (by decide)) (fr_sub p1.1 (by decide)), fun _ => ⟨os, ⟨d1, d2, fun n ks hn => ?_, ?_, ⟨A, ?_, d6⟩, fun n hn => ?_⟩, p2⟩⟩
        · obtain ⟨f, hf⟩ := d3 n ks hn
          exact ⟨f, lnC_cong hf (by rw [p1.1 _ (by decide)]) (by rw [p1.1 _ (by decide)]) (fun i _ => by rw [p1.1 _ (by decide)])⟩
        · rw [p1.2 6 (by decide)]; exact d4
        · intro n hn
          rw [p1.1 _ (by decide)]; exact d5 n hn
        · rw [p1.1 _ (by decide)]; exact d7 n hn
      · have hn : ¬ sdT T l := fun z => h3 z.2.2
        exact ⟨J1, by rw [if_neg hn], rfl, fr_sub f1 (by decide), fun z => absurd z hn⟩

