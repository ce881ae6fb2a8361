/-! READING: the whole TEXT -/
def zr0 : zRs := (0, 6, [], fun _ => none)
def rdf (T : Nat → Nat) : Nat → Nat → zRs → Int32 × zVw
  | 0, i, s => (if s.1 = 0 then -4 else nI i, s.2.2.2)
  | m + 1, i, s => match rdn s (T i) with
    | none => (nI i, s.2.2.2)
    | some s' => rdf T m (i + 1) s'
def tlV (V : zVw) : Nat := bm (fun n => (V n).isSome) 19
def dV (V : zVw) (n : Nat) : Nat := bm (fun m => inO (V n) m) 19
def cDr (I : Nat → Nat → Int32) (k : Nat) (V : zVw) : Prop := okV V ∧ szV V ≤ 200 ∧ (∀ n ks, V n = some ks → ∃ f, lnC I k n ks f) ∧ I k 6 = nI (tlV V) ∧ (∃ A, zMk I (k + 4) A ∧ wI (dV V) A 15) ∧ ∀ n, n < 19 → I (k + 5) n = nI (cntU V n)
theorem nI_n4 {i : Nat} (h : i ≤ 200) : nI i ≠ -4 := by
  have : ∀ i, i ≤ 200 → nI i ≠ -4 := by decide +kernel
  exact this i h
theorem zr0_ok : okS zr0 := ⟨Nat.zero_le _, nofun, fun h => absurd rfl h, fun _ => rfl, trivial⟩
theorem tlS_0 {nm : Nat} {V : zVw} : tlS (0, nm, [], V) = tlV V := by
  unfold tlS tlV
  exact bm_cong (fun i _ => by simp)
theorem dM_0 {a nm n : Nat} {V : zVw} : dM (a, nm, [], V) n = dV V n := by
  unfold dM dV
  exact bm_cong (fun i _ => by simp)
abbrev RX5_read (zn d : Nat) (post : zP) : zK := zRun (zcal zty zcd false (d + 4)) kX5_read (zLM zn) post
theorem eX5_read {zn d : Nat} {post : zP} (k1 : Nat) (I : Nat → Nat → Int32) (L : Nat → Nat → Int64) (h1 : isX7 k1) (h : RX5_read zn d post 0 [some (.ref 26), some (.ref k1), none] [] (zSH zn, I, L)) : zcal zty zcd false (d + 5) 43 [.ref 26, .ref k1] (zSH zn, I, L) 0 0 post := zcal_of (d := d + 4) zmt43 zmc43 rfl (Nat.le_of_ble_eq_true rfl) h
theorem gX5_read_0 {zn d : Nat} {post : zP} (k1 : Nat) (I : Nat → Nat → Int32) (L : Nat → Nat → Int64) (h1 : isX7 k1) (h : (∀ (J1 : Nat → Nat → Int32), (fr [27, 27 + 4, 27 + 5] I J1 ∧ J1 27 6 = 0 ∧ (∀ i, i < 19 → J1 (27 + 4) i = 0) ∧ ∀ i, i < 19 → J1 (27 + 5) i = 0) → RX5_read zn d post 19 [some (.ref 26), some (.ref k1), some (.int (0 : Int32))] [] (zSH zn, (zi (zi J1 26 1 (0 : Int32)) 26 3 (0 : Int32)), L))) : RX5_read zn d post 0 [some (.ref 26), some (.ref k1), none] [] (zSH zn, I, L) := fun P hw hc => hc _ tX5_read_0 _ _ _ (hc _ tX5_read_1 _ _ _ (⟨_, _, sh26, (by decide), rfl, hc _ tX5_read_4 _ _ _ (⟨⟨_, _, _, rfl, (by decide), sh27⟩, ⟨Nat.le_of_ble_eq_true rfl, Nat.le_of_ble_eq_true rfl, zl1, zl2, _, ctX10_forget 27 I L isX10_27, fun r u k3 => by obtain ⟨J1, rfl, rfl, p2⟩ := k3; exact ⟨zl3, zl4, hc _ tX5_read_7 _ _ _ (hc _ tX5_read_8 _ _ _ (hc _ tX5_read_9 _ _ _ (⟨_, sh26, (by decide), nofun, hc _ tX5_read_12 _ _ _ (hc _ tX5_read_13 _ _ _ (hc _ tX5_read_14 _ _ _ (⟨_, sh26, (by decide), nofun, hc _ tX5_read_17 _ _ _ (hc _ tX5_read_18 _ _ _ ((h J1 p2) P hw hc))⟩)))⟩)))⟩⟩⟩)⟩))
theorem gX5_read_19 {zn d : Nat} {post : zP} (k1 : Nat) (x2 : Int32) (I : Nat → Nat → Int32) (L : Nat → Nat → Int64) (h1 : isX7 k1) (h : ((I k1 1) ≤ x2 → ((I 26 1) = 0 → (∃ (M7 : Nat → Nat), (zMk I (27 + 4) M7) ∧ (∀ (J5 : Nat → Nat → Int32) (A6 : Nat → Nat), (fr [27 + 4] I J5 ∧ zMk J5 (27 + 4) A6 ∧ wI M7 A6 15) → post (some (.int (-4 : Int32))) (zSH zn, J5, L)))) ∧ (¬ (I 26 1) = 0 → post (some (.int (I k1 1))) (zSH zn, I, L))) ∧ (¬ (I k1 1) ≤ x2 → vp_in x2 200 ∧ ((∃ (s12 : zRs) (t13 : Nat), (okS s12) ∧ (t13 < 256) ∧ ((I (k1 + 1) (x2).toNatClampNeg) = nI t13) ∧ (cRd I s12) ∧ (szS s12 < 200) ∧ (∀ (J11 : Nat → Nat → Int32), (rdP I J11 s12 t13) → ((rdn s12 t13).isSome = true → RX5_read zn d post 19 [some (.ref 26), some (.ref k1), some (.int (x2 + (1 : Int32)))] [] (zSH zn, J11, L)) ∧ (¬ ((rdn s12 t13).isSome = true) → post (some (.int x2)) (zSH zn, J11, L))))))) : RX5_read zn d post 19 [some (.ref 26), some (.ref k1), some (.int x2)] [] (zSH zn, I, L) := fun P hw hc => hc _ tX5_read_19 _ _ _ (hc _ tX5_read_20 _ _ _ (hc _ tX5_read_21 _ _ _ (⟨_, (shX7 h1), (geX7 h1), hc _ tX5_read_24 _ _ _ (⟨fun c1 => hc _ tX5_read_48 _ _ _ (hc _ tX5_read_49 _ _ _ (⟨_, sh26, (by decide), hc _ tX5_read_52 _ _ _ (⟨fun c3 => hc _ tX5_read_60 _ _ _ (hc _ tX5_read_61 _ _ _ (⟨_, _, sh26, (by decide), rfl, (by obtain ⟨M7, hg8⟩ := ((h.1 c1).1 c3); exact hc _ tX5_read_64 _ _ _ (⟨⟨_, _, _, rfl, (by decide), sh27⟩, ⟨Nat.le_of_ble_eq_true rfl, Nat.le_of_ble_eq_true rfl, zl1, zl2, _, ctX10_leanThroughWires 27 I L M7 isX10_27 hg8.1, fun r u k10 => by obtain ⟨J5, A6, rfl, rfl, p9⟩ := k10; exact ⟨zl3, zl4, hc _ tX5_read_67 _ _ _ (hc _ tX5_read_69 _ _ _ (⟨nofun, rfl, rfl, (hg8.2 J5 A6 p9)⟩))⟩⟩⟩))⟩)), fun c4 => hc _ tX5_read_55 _ _ _ (hc _ tX5_read_56 _ _ _ (⟨_, (shX7 h1), (geX7 h1), hc _ tX5_read_59 _ _ _ (⟨nofun, rfl, rfl, ((h.1 c1).2 c4)⟩)⟩))⟩)⟩)), fun c2 => hc _ tX5_read_27 _ _ _ (hc _ tX5_read_28 _ _ _ (hc _ tX5_read_29 _ _ _ (⟨_, _, (shX7 h1), (geX7 h1), rfl, hc _ tX5_read_32 _ _ _ (hc _ tX5_read_33 _ _ _ (⟨_, _, _, (shX7_0 h1), Or.inl ⟨rfl, (geX7_0 h1)⟩, (h.2 c2).1, (by obtain ⟨s12, t13, hg14⟩ := (h.2 c2).2; exact hc _ tX5_read_34 _ _ _ (⟨⟨_, _, _, rfl, (by decide), sh26⟩, ⟨Nat.le_of_ble_eq_true rfl, Nat.le_of_ble_eq_true rfl, zl1, zl2, _, ctX5_takes (I (k1 + 1) (x2).toNatClampNeg) I L s12 t13 hg14.1 hg14.2.1 hg14.2.2.1 hg14.2.2.2.1 hg14.2.2.2.2.1, fun r u k18 => by obtain ⟨J11, rfl, rfl, p15⟩ := k18; exact ⟨zl3, zl4, hc _ tX5_read_37 _ _ _ (⟨fun c16 => hc _ tX5_read_42 _ _ _ (hc _ tX5_read_45 _ _ _ (((hg14.2.2.2.2.2 J11 p15).1 (zb_n c16)) P hw hc)), fun c17 => hc _ tX5_read_40 _ _ _ (hc _ tX5_read_41 _ _ _ (⟨nofun, rfl, rfl, ((hg14.2.2.2.2.2 J11 p15).2 (zb_e c17))⟩))⟩)⟩⟩⟩))⟩))⟩)))⟩)⟩)))
theorem ctX5_read {zn d : Nat} (k1 : Nat) (I : Nat → Nat → Int32) (L : Nat → Nat → Int64) (T : Nat → Nat) (l : Nat) (h1 : isX7 k1) (q0 : I k1 1 = nI l) (q1 : l ≤ 200) (q2 : ∀ i, i < l → T i < 256 ∧ I (k1 + 1) i = nI (T i)) : zcal zty zcd false (d + 5) 43 [.ref 26, .ref k1] (zSH zn, I, L) 0 0 (fun r u => ∃ (J : Nat → Nat → Int32), r = some (.int (rdf T l 0 zr0).1) ∧ u = (zSH zn, J, L) ∧ (fr [26, 27, 28, 29, 30, 31, 32] I J ∧ ((rdf T l 0 zr0).1 = -4 → cDr J 27 (rdf T l 0 zr0).2))) := by
  have hk : k1 = 7 ∨ k1 = 9 := by
    have := h1
    unfold isX7 at this
    simpa using this
  have hk0 : k1 ∉ [26, 27, 28, 29, 30, 31, 32] := by rcases hk with rfl | rfl <;> decide
  have hk2 : k1 + 1 ∉ [26, 27, 28, 29, 30, 31, 32] := by rcases hk with rfl | rfl <;> decide
  refine eX5_read _ I L h1 (gX5_read_0 _ I L h1 (fun J1 hJ1 => ?_))
  obtain ⟨a1, a2, a3, a4⟩ := hJ1
  have loop : ∀ (m i : Nat) (s : zRs) (J : Nat → Nat → Int32), i + m = l → okS s → szS s ≤ i → cRd J s → fr [26, 27, 28, 29, 30, 31, 32] I J → RX5_read zn d (fun r u => ∃ (J : Nat → Nat → Int32), r = some (.int (rdf T m i s).1) ∧ u = (zSH zn, J, L) ∧ (fr [26, 27, 28, 29, 30, 31, 32] I J ∧ ((rdf T m i s).1 = -4 → cDr J 27 (rdf T m i s).2))) 19 [some (.ref 26), some (.ref k1), some (.int (nI i))] [] (zSH zn, J, L) := by
    intro m
    induction m with
    | zero =>
      intro i s J hi ho hs hc hf
      have hil : i = l := by omega
      subst hil
      have el : J k1 1 = nI i := by rw [hf k1 hk0]; exact q0
      refine gX5_read_19 _ _ J L h1 ⟨fun _ => ?_, fun h => absurd ?_ h⟩
      · rw [hc.1]
        obtain ⟨aw, nm, cur, V⟩ := s
        refine ⟨fun h2 => ?_, fun h2 => ?_⟩
        · have haw : aw = 0 := nI_inj (by have := ho.1; dsimp only at this; omega) (by decide) h2
          subst haw
          have hcur : cur = [] := ho.2.2.2.1 (by show (0 : Nat) ≠ 2; decide)
          subst hcur
          obtain ⟨c1, c2, c3, c4, c5, c6⟩ := hc
          refine ⟨dV V, fun n hn => ⟨?_, bm_lt _ _⟩, fun J5 A ⟨b1, b2, b3⟩ => ⟨J5, rfl, rfl, fr_trans hf (fr_sub b1 (by decide)), fun _ => ⟨ho.2.1, ?_, fun n ks hn => ?_, ?_, ⟨A, b2, b3⟩, fun n hn => ?_⟩⟩⟩
          · rw [← dM_0 (a := 0) (nm := nm)]; exact (c4 n hn).1
          · exact Nat.le_trans (show szV V ≤ szS (0, nm, [], V) from Nat.le_add_right _ _) (Nat.le_trans hs q1)
          · obtain ⟨f, hf, _⟩ := c5 n ks hn
            exact ⟨f, lnC_cong hf (by rw [b1 _ (by decide)]) (by rw [b1 _ (by decide)]) (fun i _ => by rw [b1 _ (by decide)])⟩
          · rw [b1 _ (by decide), c3, tlS_0]; rfl
          · rw [b1 _ (by decide)]; exact (c4 n hn).2
        · have haw : aw ≠ 0 := fun z => h2 (by dsimp only; rw [z]; rfl)
          have hr : (rdf T 0 i (aw, nm, cur, V)).1 = nI i := by
            show (if aw = 0 then (-4 : Int32) else nI i) = nI i
            rw [if_neg haw]
          exact ⟨J, by rw [hr, el], rfl, hf, fun z => by rw [hr] at z; exact absurd z (nI_n4 q1)⟩
      · rw [el]; exact Int32.le_refl _
    | succ m ih =>
      intro i s J hi ho hs hc hf
      have el : J k1 1 = nI l := by rw [hf k1 hk0]; exact q0
      obtain ⟨t1, t2⟩ := q2 i (by omega)
      have e1 : (nI i).toNatClampNeg = i := nI_clamp (by omega)
      refine gX5_read_19 _ _ J L h1 ⟨fun h => absurd h ?_, fun _ => ⟨vin_nI (by omega) (by decide), s, T i, ho, t1, ?_, hc, by omega, fun J2 hJ2 => ?_⟩⟩
      · rw [el, nI_leI (by omega) (by omega)]; omega
      · rw [e1, hf (k1 + 1) hk2]; exact t2
      · rw [nI_1]
        cases hr : rdn s (T i) with
        | none =>
          refine ⟨fun h => absurd h (by decide), fun _ => ?_⟩
          have hr2 : rdf T (m + 1) i s = (nI i, s.2.2.2) := by
            show (match rdn s (T i) with
              | none => (nI i, s.2.2.2)
              | some s' => rdf T m (i + 1) s') = _
            rw [hr]
          rw [hr2]
          exact ⟨J2, rfl, rfl, fr_trans hf hJ2.1, fun z => absurd z (nI_n4 (by omega))⟩
        | some s' =>
          refine ⟨fun _ => ?_, fun h => absurd rfl h⟩
          have hr2 : rdf T (m + 1) i s = rdf T m (i + 1) s' := by
            show (match rdn s (T i) with
              | none => (nI i, s.2.2.2)
              | some s' => rdf T m (i + 1) s') = _
            rw [hr]
          rw [hr2]
          obtain ⟨ho2, hs2⟩ := okS_step t1 ho hr
          exact ih (i + 1) s' J2 (by omega) ho2 (by omega) (hJ2.2 s' hr) (fr_trans hf hJ2.1)
  refine loop l 0 zr0 _ (by omega) zr0_ok (Nat.le_refl _) ⟨?_, ?_, ?_, fun n hn => ?_, nofun, fun h => absurd rfl h⟩ ?_
  · simp only [zi_at]; rfl
  · simp only [zi_at]; rfl
  · simp only [zi_at]; simp; rw [a2]; rfl
  · simp only [zi_at]; simp
    rw [a3 n hn, a4 n hn]
    refine ⟨?_, ?_⟩
    · have : ∀ n, n < 19 → dM zr0 n = 0 := by decide +kernel
      rw [this n hn]; rfl
    · have : ∀ n, n < 19 → cntU zr0.2.2.2 n + zr0.2.2.1.count n = 0 := by decide +kernel
      rw [this n hn]; rfl
  · intro j hj
    simp only [List.mem_cons, List.not_mem_nil, or_false, not_or] at hj
    rw [zi_ne hj.1, zi_ne hj.1]
    exact a1 j (by simp [hj])

