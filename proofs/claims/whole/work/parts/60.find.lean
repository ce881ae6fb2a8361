/-! ARRIVALS of all LINES -/
def ldU (V : zVw) (ld : Int32) (n : Nat) : Int32 := if 6 ≤ n ∧ n < 15 then ld * nI (cntU V n) else 0
def pstT (V : zVw) (ld : Int32) (w : Nat) (x : Int32 × Int32) : Int32 × Int32 := match V w with
  | some _ => (x.1 + ldU V ld w, nI w)
  | none => (0, nI w)
/-- ARRIVALS in cell c, causes in cell e, by gates that take dt, constants told as zc -/
def arrS (V : zVw) (dt zc : Nat → Int32) (ld : Int32) (J : Nat → Nat → Int32) (c e : Nat) : Prop := sol (opG dt zc) (0, 0) V (pstT V ld) (0, 0) (enT J c) ∧ (∀ n ks, V n = some ks → J c n = (ev (opG dt zc) (enT J c) (0, 0) ks).1 + ldU V ld n ∧ J e n = (ev (opG dt zc) (enT J c) (0, 0) ks).2) ∧ ∀ n, n < 19 → V n = none → J c n = 0
def aI (V : zVw) (dt zc : Nat → Int32) (ld : Int32) (J : Nat → Nat → Int32) (c e : Nat) (ds : List Nat) : Prop := (∀ n ks, n ∈ ds → V n = some ks → J c n = (ev (opG dt zc) (enT J c) (0, 0) ks).1 + ldU V ld n ∧ J e n = (ev (opG dt zc) (enT J c) (0, 0) ks).2) ∧ (∀ n, n < 19 → n ∉ ds → J c n = 0) ∧ ∀ n ks w, n ∈ ds → V n = some ks → w ∈ ks → 6 ≤ w → w < 15 → w ∈ ds
theorem aI_step {V : zVw} (hV : okV V) {dt zc : Nat → Int32} {ld : Int32} {J K : Nat → Nat → Int32} {c e : Nat} {ds : List Nat} (h : aI V dt zc ld J c e ds) {o : Nat} {ks : List Nat} (ho : o ∉ ds) (hk : V o = some ks) (hw : ∀ w, w ∈ ks → 6 ≤ w → w < 15 → w ∈ ds) (e1 : K c o = (ev (opG dt zc) (enT J c) (0, 0) ks).1 + ldU V ld o) (e2 : K e o = (ev (opG dt zc) (enT J c) (0, 0) ks).2) (hn : ∀ n, n ≠ o → K c n = J c n ∧ K e n = J e n) : aI V dt zc ld K c e (ds ++ [o]) := by
  obtain ⟨h1, h2, h3⟩ := h
  have hev : ∀ ks', wfl ks' → (∀ w, w ∈ ks' → 6 ≤ w → w < 15 → w ∈ ds) → ev (opG dt zc) (enT K c) (0, 0) ks' = ev (opG dt zc) (enT J c) (0, 0) ks' := fun ks' hwf hw' => ev_rel (opG_eq dt zc) hwf (fun k hkk _ => by
    unfold enT
    by_cases hkw : 6 ≤ k ∧ k < 15
    · have hko : k ≠ o := fun z => ho (z ▸ hw' k hkk hkw.1 hkw.2)
      rw [if_pos hkw, if_pos hkw, (hn k hko).1]
    · rw [if_neg hkw, if_neg hkw]) _ _
  refine ⟨fun n ks' hm hk' => ?_, fun n h19 hm => ?_, fun n ks' w hm hk' hw' w6 w15 => ?_⟩
  · by_cases hno : n = o
    · subst hno
      rw [hk] at hk'; cases hk'
      rw [hev ks (hV n ks hk).2.2 hw]
      exact ⟨e1, e2⟩
    · have hm' : n ∈ ds := by simpa [hno] using hm
      rw [hev ks' (hV n ks' hk').2.2 (fun w hw' => h3 n ks' w hm' hk' hw'), (hn n hno).1, (hn n hno).2]
      exact h1 n ks' hm' hk'
  · rw [(hn n (fun z => hm (by simp [z]))).1]
    exact h2 n h19 (fun z => hm (by simp [z]))
  · by_cases hno : n = o
    · subst hno
      rw [hk] at hk'; cases hk'
      exact List.mem_append_left _ (hw w hw' w6 w15)
    · have hm' : n ∈ ds := by simpa [hno] using hm
      exact List.mem_append_left _ (h3 n ks' w hm' hk' hw' w6 w15)
theorem aI_end {V : zVw} (hV : okV V) {dt zc : Nat → Int32} {ld : Int32} {J : Nat → Nat → Int32} {c e : Nat} {ds : List Nat} (h : aI V dt zc ld J c e ds) (hd : ∀ n, n ∈ ds ↔ (V n).isSome = true) : arrS V dt zc ld J c e := by
  obtain ⟨h1, h2, h3⟩ := h
  refine ⟨fun w h6 h15 => ?_, fun n ks hk => h1 n ks ((hd n).mpr (by rw [hk]; rfl)) hk, fun n h19 hk => h2 n h19 (fun z => by have := (hd n).mp z; rw [hk] at this; cases this)⟩
  cases hk : V w with
  | none =>
    unfold pstT enT
    rw [if_pos ⟨h6, h15⟩, hk, h2 w (by omega) (fun z => by have := (hd w).mp z; rw [hk] at this; cases this)]
  | some ks =>
    have := h1 w ks ((hd w).mpr (by rw [hk]; rfl)) hk
    unfold pstT
    rw [hk]
    simp only
    rw [← this.1]
    unfold enT
    rw [if_pos ⟨h6, h15⟩]
abbrev RX8_find (zn d : Nat) (post : zP) : zK := zRun (zcal zty zcd false (d + 3)) kX8_find (zLM zn) post
theorem eX8_find {zn d : Nat} {post : zP} (k1 : Nat) (x3 : Int32) (I : Nat → Nat → Int32) (L : Nat → Nat → Int64) (h1 : isX10 k1) (h : RX8_find zn d post 0 [some (.ref 62), some (.ref k1), some (.ref 55), some (.int x3), none, none] [] (zSH zn, I, L)) : zcal zty zcd false (d + 4) 63 [.ref 62, .ref k1, .ref 55, .int x3] (zSH zn, I, L) 0 0 post := zcal_of (d := d + 3) zmt63 zmc63 rfl (Nat.le_of_ble_eq_true rfl) h
theorem gX8_find_0 {zn d : Nat} {post : zP} (k1 : Nat) (x3 : Int32) (I : Nat → Nat → Int32) (L : Nat → Nat → Int64) (h1 : isX10 k1) (h : (19 ≤ 1000) ∧ (∀ (J1 : Nat → Nat → Int32), (fr [63] I J1 ∧ ∀ i, i < 19 → J1 63 i = (0 : Int32)) → RX8_find zn d post 11 [some (.ref 62), some (.ref k1), some (.ref 55), some (.int x3), some (.int (0 : Int32)), none] [] (zSH zn, J1, L))) : RX8_find zn d post 0 [some (.ref 62), some (.ref k1), some (.ref 55), some (.int x3), none, none] [] (zSH zn, I, L) := fun P hw hc => hc _ tX8_find_0 _ _ _ (hc _ tX8_find_1 _ _ _ (⟨_, _, sh62, (by decide), rfl, hc _ tX8_find_4 _ _ _ (hc _ tX8_find_5 _ _ _ (⟨Nat.le_of_ble_eq_true rfl, Nat.le_of_ble_eq_true rfl, zl1, zl2, _, ctJ7_fill_53178 63 19 (0 : Int32) I L sh63 (by decide) h.1, fun r u k3 => by obtain ⟨J1, rfl, rfl, p2⟩ := k3; exact ⟨zl3, zl4, hc _ tX8_find_8 _ _ _ (hc _ tX8_find_9 _ _ _ ((h.2 J1 p2) P hw hc))⟩⟩))⟩))
theorem gX8_find_11 {zn d : Nat} {post : zP} (k1 : Nat) (x3 : Int32) (x4 : Int32) (I : Nat → Nat → Int32) (L : Nat → Nat → Int64) (h1 : isX10 k1) (h : ((I k1 7) ≤ x4 → post none (zSH zn, I, L)) ∧ (¬ (I k1 7) ≤ x4 → vp_in x4 13 ∧ ((∃ (ks4 : List Nat) (f5 : Nat) (c6 : Nat), (lnC I k1 (tn (I (k1 + 6) (x4).toNatClampNeg)) ks4 f5) ∧ (wfl ks4) ∧ (zs (I (k1 + 6) (x4).toNatClampNeg) 18) ∧ (x3 = nI c6 ∧ c6 < 5) ∧ (∀ (N3 : Nat → Int32 × Int32), (N3 0 = ev (opG (dtm (I 57) (I 58 c6)) nI) (enT I 63) (0, 0) ks4) → vp_in (I (k1 + 6) (x4).toNatClampNeg) 19 ∧ ((¬ ((6 ≤ (I (k1 + 6) (x4).toNatClampNeg) ∧ (I (k1 + 6) (x4).toNatClampNeg) < 15)) → RX8_find zn d post 11 [some (.ref 62), some (.ref k1), some (.ref 55), some (.int x3), some (.int (x4 + (1 : Int32))), none] [] (zSH zn, (zi (zi (wr2 I 65 66 N3) 64 ((I (k1 + 6) (x4).toNatClampNeg)).toNatClampNeg ((wr2 I 65 66 N3) 66 0)) 63 ((I (k1 + 6) (x4).toNatClampNeg)).toNatClampNeg (((zi (wr2 I 65 66 N3) 64 ((I (k1 + 6) (x4).toNatClampNeg)).toNatClampNeg ((wr2 I 65 66 N3) 66 0)) 65 0) + (0 : Int32))), L)) ∧ ((6 ≤ (I (k1 + 6) (x4).toNatClampNeg) ∧ (I (k1 + 6) (x4).toNatClampNeg) < 15) → RX8_find zn d post 11 [some (.ref 62), some (.ref k1), some (.ref 55), some (.int x3), some (.int (x4 + (1 : Int32))), none] [] (zSH zn, (zi (zi (wr2 I 65 66 N3) 64 ((I (k1 + 6) (x4).toNatClampNeg)).toNatClampNeg ((wr2 I 65 66 N3) 66 0)) 63 ((I (k1 + 6) (x4).toNatClampNeg)).toNatClampNeg (((zi (wr2 I 65 66 N3) 64 ((I (k1 + 6) (x4).toNatClampNeg)).toNatClampNeg ((wr2 I 65 66 N3) 66 0)) 65 0) + (((zi (wr2 I 65 66 N3) 64 ((I (k1 + 6) (x4).toNatClampNeg)).toNatClampNeg ((wr2 I 65 66 N3) 66 0)) 58 3) * ((zi (wr2 I 65 66 N3) 64 ((I (k1 + 6) (x4).toNatClampNeg)).toNatClampNeg ((wr2 I 65 66 N3) 66 0)) (k1 + 5) ((I (k1 + 6) (x4).toNatClampNeg)).toNatClampNeg)))), L)))))))) : RX8_find zn d post 11 [some (.ref 62), some (.ref k1), some (.ref 55), some (.int x3), some (.int x4), none] [] (zSH zn, I, L) := fun P hw hc => hc _ tX8_find_11 _ _ _ (hc _ tX8_find_13 _ _ _ (hc _ tX8_find_14 _ _ _ (⟨_, (shX10 h1), (geX10 h1), hc _ tX8_find_17 _ _ _ (⟨fun c1 => hc _ tX8_find_95 _ _ _ (⟨rfl, rfl, (h.1 c1)⟩), fun c2 => hc _ tX8_find_20 _ _ _ (hc _ tX8_find_21 _ _ _ (⟨_, _, (shX10 h1), (geX10 h1), rfl, hc _ tX8_find_24 _ _ _ (hc _ tX8_find_26 _ _ _ (⟨_, _, _, (shX10_5 h1), Or.inl ⟨rfl, (geX10_5 h1)⟩, (h.2 c2).1, hc _ tX8_find_27 _ _ _ (hc _ tX8_find_29 _ _ _ (hc _ tX8_find_30 _ _ _ (hc _ tX8_find_31 _ _ _ (hc _ tX8_find_33 _ _ _ (hc _ tX8_find_34 _ _ _ ((by obtain ⟨ks4, f5, c6, hg7⟩ := (h.2 c2).2; exact hc _ tX8_find_35 _ _ _ (⟨⟨_, _, _, rfl, (by decide), sh62⟩, ⟨Nat.le_of_ble_eq_true rfl, Nat.le_of_ble_eq_true rfl, zl1, zl2, _, ctX8_findLine k1 (I (k1 + 6) (x4).toNatClampNeg) x3 I L ks4 f5 c6 h1 hg7.1 hg7.2.1 hg7.2.2.1 hg7.2.2.2.1, fun r u k13 => by obtain ⟨N3, rfl, rfl, p8⟩ := k13; exact ⟨zl3, zl4, hc _ tX8_find_38 _ _ _ (hc _ tX8_find_39 _ _ _ (⟨_, _, sh62, (by decide), rfl, hc _ tX8_find_42 _ _ _ (hc _ tX8_find_44 _ _ _ (hc _ tX8_find_45 _ _ _ (⟨_, _, sh62, (by decide), rfl, hc _ tX8_find_48 _ _ _ (hc _ tX8_find_49 _ _ _ (⟨_, _, _, sh66, Or.inl ⟨rfl, (by decide)⟩, zvin (by decide), hc _ tX8_find_50 _ _ _ (⟨_, _, sh64, (by decide), (hg7.2.2.2.2 N3 p8).1, hc _ tX8_find_51 _ _ _ (hc _ tX8_find_52 _ _ _ (⟨_, _, sh62, (by decide), rfl, hc _ tX8_find_55 _ _ _ (hc _ tX8_find_57 _ _ _ (hc _ tX8_find_58 _ _ _ (⟨_, _, sh62, (by decide), rfl, hc _ tX8_find_61 _ _ _ (hc _ tX8_find_62 _ _ _ (⟨_, _, _, sh65, Or.inl ⟨rfl, (by decide)⟩, zvin (by decide), hc _ tX8_find_63 _ _ _ (hc _ tX8_find_65 _ _ _ (⟨Nat.le_of_ble_eq_true rfl, Nat.le_of_ble_eq_true rfl, zl1, zl2, _, ctX11_isWire (I (k1 + 6) (x4).toNatClampNeg) (zi (wr2 I 65 66 N3) 64 ((I (k1 + 6) (x4).toNatClampNeg)).toNatClampNeg ((wr2 I 65 66 N3) 66 0)) L, fun r u k12 => by obtain ⟨rfl, rfl⟩ := k12; exact ⟨zl3, zl4, hc _ tX8_find_68 _ _ _ (⟨fun c9 => hc _ tX8_find_86 _ _ _ (hc _ tX8_find_87 _ _ _ (hc _ tX8_find_88 _ _ _ (⟨_, _, sh63, (by decide), (hg7.2.2.2.2 N3 p8).1, hc _ tX8_find_89 _ _ _ (hc _ tX8_find_92 _ _ _ (hw _ _ _ _ _ (zwk_s (zwk_s (zwk_s (zwk_s (zwk_s (zwk_n zwk_nil)))))) (((hg7.2.2.2.2 N3 p8).2.1 (zb_e c9)) P hw hc)))⟩))), fun c10 => hc _ tX8_find_71 _ _ _ (hc _ tX8_find_72 _ _ _ (⟨⟨_, _, _, rfl, (by decide), sh55⟩, ⟨Nat.le_of_ble_eq_true rfl, Nat.le_of_ble_eq_true rfl, zl1, zl2, _, ctX2_load (zi (wr2 I 65 66 N3) 64 ((I (k1 + 6) (x4).toNatClampNeg)).toNatClampNeg ((wr2 I 65 66 N3) 66 0)) L, fun r u k11 => by obtain ⟨rfl, rfl⟩ := k11; exact ⟨zl3, zl4, hc _ tX8_find_75 _ _ _ (hc _ tX8_find_76 _ _ _ (⟨_, _, (shX10 h1), (geX10 h1), rfl, hc _ tX8_find_79 _ _ _ (hc _ tX8_find_81 _ _ _ (⟨_, _, _, (shX10_4 h1), Or.inl ⟨rfl, (geX10_4 h1)⟩, (hg7.2.2.2.2 N3 p8).1, hc _ tX8_find_82 _ _ _ (hc _ tX8_find_83 _ _ _ (hc _ tX8_find_87 _ _ _ (hc _ tX8_find_88 _ _ _ (⟨_, _, sh63, (by decide), (hg7.2.2.2.2 N3 p8).1, hc _ tX8_find_89 _ _ _ (hc _ tX8_find_92 _ _ _ (hw _ _ _ _ _ (zwk_s (zwk_s (zwk_s (zwk_s (zwk_s (zwk_n zwk_nil)))))) (((hg7.2.2.2.2 N3 p8).2.2 (zb_n c10)) P hw hc)))⟩))))⟩))⟩))⟩⟩⟩))⟩)⟩⟩))⟩))⟩)))⟩))⟩)⟩))⟩)))⟩))⟩⟩⟩))))))))⟩))⟩))⟩)⟩)))
theorem ctX8_find {zn d : Nat} (k1 : Nat) (x3 : Int32) (I : Nat → Nat → Int32) (L : Nat → Nat → Int64) (V : zVw) (os : List Nat) (c : Nat) (h1 : isX10 k1) (q0 : cVw I k1 V os) (q1 : x3 = nI c ∧ c < 5) : zcal zty zcd false (d + 4) 63 [.ref 62, .ref k1, .ref 55, .int x3] (zSH zn, I, L) 0 0 (fun r u => ∃ (J : Nat → Nat → Int32), r = none ∧ u = (zSH zn, J, L) ∧ (fr [63, 64, 65, 66] I J ∧ arrS V (dtm (I 57) (I 58 c)) nI (I 58 3) J 63 64)) := by
  obtain ⟨rfl, hc⟩ := q1
  obtain ⟨⟨hV, -, -, -, -, -⟩, ⟨t1, t2, t3⟩, o2, o3, o4⟩ := id q0
  have hk := fun j hj => k10_nt (k := k1) (j := j) h1 hj
  have hkf : ∀ J, fr [63, 64, 65, 66] I J → ∀ j, j ≤ 6 → J (k1 + j) = I (k1 + j) := fun J hJ j hj => hJ _ (by have := hk j hj; simp only [List.mem_cons, List.not_mem_nil, or_false, not_or]; exact ⟨this.2.1, this.2.2.1, this.2.2.2.1, this.2.2.2.2⟩)
  generalize hdt : dtm (I 57) (I 58 c) = dt
  generalize hld : I 58 3 = ld
  have loop : ∀ i J, i ≤ os.length → (fr [63, 64, 65, 66] I J ∧ aI V dt nI ld J 63 64 (os.take i)) → RX8_find zn d (fun r u => ∃ (J : Nat → Nat → Int32), r = none ∧ u = (zSH zn, J, L) ∧ (fr [63, 64, 65, 66] I J ∧ arrS V dt nI ld J 63 64)) 11 [some (.ref 62), some (.ref k1), some (.ref 55), some (.int (nI c)), some (.int (nI i)), none] [] (zSH zn, J, L) := by
    refine zup (fun J hJ => ?_) (fun i J hi hJ ih => ?_)
    · obtain ⟨f1, f2⟩ := hJ
      have e0 := hkf J f1 0 (by decide)
      rw [Nat.add_zero] at e0
      rw [List.take_length] at f2
      refine gX8_find_11 _ _ _ J L h1 ⟨fun _ => ⟨J, rfl, rfl, f1, aI_end hV f2 t1⟩, fun hc => absurd ?_ hc⟩
      rw [e0, o2, nI_leI (by omega) (by omega)]; omega
    · obtain ⟨f1, f2⟩ := hJ
      have cJ := cVw_fr q0 (hkf J f1)
      have e0 := hkf J f1 0 (by decide)
      rw [Nat.add_zero] at e0
      obtain ⟨o, ho⟩ : ∃ o, os[i]? = some o := ⟨_, List.getElem?_eq_getElem hi⟩
      have hos : (V o).isSome = true := (t1 o).mp (List.mem_of_getElem? ho)
      obtain ⟨ks, hks⟩ := Option.isSome_iff_exists.mp hos
      obtain ⟨hn6, hn19, hwf⟩ := hV o ks hks
      obtain ⟨f, hf⟩ := cJ.1.2.2.1 o ks hks
      have e2 : tn (nI o) = o := tn_nI (by omega)
      have e2' : (nI o).toNatClampNeg = o := e2
      have eo : J (k1 + 6) i = nI o := cJ.2.2.2.2 i o ho
      refine gX8_find_11 _ _ _ J L h1 ⟨fun hc => absurd hc ?_, fun _ => ⟨vin_nI (by omega) (by omega), ks, f, c, ?_⟩⟩
      · rw [e0, o2, nI_leI (by omega) (by omega)]; omega
      · rw [nI_clamp (by omega), eo, e2, e2', nI_1, wire_nI (by omega)]
        refine ⟨hf, hwf, ⟨o, by omega, rfl⟩, ⟨rfl, hc⟩, fun N hN => ⟨vin_nI (by omega) (by omega), ?_⟩⟩
        have ej : dtm (J 57) (J 58 c) = dt := by rw [f1 57 (by decide), f1 58 (by decide), hdt]
        rw [ej] at hN
        have hu : (zi (wr2 J 65 66 N) 64 o ((wr2 J 65 66 N) 66 0)) (k1 + 5) o = nI (cntU V o) := by
          rw [zi_ne (hk 5 (by decide)).2.2.1, wr2_n (hk 5 (by decide)).2.2.2.1 (hk 5 (by decide)).2.2.2.2]
          exact cJ.1.2.2.2.2.2 o hn19
        have hl : (zi (wr2 J 65 66 N) 64 o ((wr2 J 65 66 N) 66 0)) 58 3 = ld := by
          rw [zi_ne (by decide), wr2_n (by decide) (by decide), f1 58 (by decide), hld]
        have h65 : (zi (wr2 J 65 66 N) 64 o ((wr2 J 65 66 N) 66 0)) 65 0 = (N 0).1 := by
          rw [zi_ne (by decide), wr2_p (by decide)]
        have h66 : (wr2 J 65 66 N) 66 0 = (N 0).2 := by rw [wr2_q]
        have key : ∀ v : Int32, v = ldU V ld o → RX8_find zn d (fun r u => ∃ (J : Nat → Nat → Int32), r = none ∧ u = (zSH zn, J, L) ∧ (fr [63, 64, 65, 66] I J ∧ arrS V dt nI ld J 63 64)) 11 [some (.ref 62), some (.ref k1), some (.ref 55), some (.int (nI c)), some (.int (nI (i + 1))), none] [] (zSH zn, zi (zi (wr2 J 65 66 N) 64 o ((wr2 J 65 66 N) 66 0)) 63 o ((zi (wr2 J 65 66 N) 64 o ((wr2 J 65 66 N) 66 0)) 65 0 + v), L) := fun v hv => by
          refine ih _ ⟨fun j hj => ?_, ?_⟩
          · simp only [List.mem_cons, List.not_mem_nil, or_false, not_or] at hj
            rw [zi_ne hj.1, zi_ne hj.2.1, wr2_n hj.2.2.1 hj.2.2.2]
            exact f1 j (by simp only [List.mem_cons, List.not_mem_nil, or_false, not_or]; exact hj)
          · rw [take_s ho]
            refine aI_step hV f2 (nodup_take t2 ho) hks (fun w hw w6 w15 => t3 i o ks w ho hks hw w6 w15) ?_ ?_ (fun n hn => ⟨?_, ?_⟩)
            · rw [zi_at, if_pos ⟨rfl, rfl⟩, h65, hv, hN]
            · rw [zi_ne (by decide), zi_at, if_pos ⟨rfl, rfl⟩, h66, hN]
            · rw [zi_at, if_neg (fun z => hn z.2), zi_ne (by decide), wr2_n (by decide) (by decide)]
            · rw [zi_ne (by decide), zi_at, if_neg (fun z => hn z.2), wr2_n (by decide) (by decide)]
        refine ⟨fun h15 => key 0 (by unfold ldU; rw [if_neg h15]), fun h15 => ?_⟩
        rw [hu, hl]
        exact key _ (by unfold ldU; rw [if_pos h15])
  refine eX8_find _ _ I L h1 (gX8_find_0 _ _ I L h1 ⟨by decide, fun J ⟨j1, j2⟩ => ?_⟩)
  exact loop 0 J (by omega) ⟨fr_sub j1 (by decide), fun n ks hn => by simp at hn, fun n hn _ => j2 n hn, fun n ks w hn => by simp at hn⟩
abbrev RX12_arrive (zn d : Nat) (post : zP) : zK := zRun (zcal zty zcd false (d + 2)) kX12_arrive (zLM zn) post
theorem eX12_arrive {zn d : Nat} {post : zP} (x1 : Int32) (x2 : Int32) (x3 : Int32) (I : Nat → Nat → Int32) (L : Nat → Nat → Int64) (h : RX12_arrive zn d post 0 [some (.ref 115), some (.int x1), some (.int x2), some (.int x3), none, none, none, none, none] [] (zSH zn, I, L)) : zcal zty zcd false (d + 3) 180 [.ref 115, .int x1, .int x2, .int x3] (zSH zn, I, L) 0 0 post := zcal_of (d := d + 2) zmt180 zmc180 rfl (Nat.le_of_ble_eq_true rfl) h
theorem gX12_arrive_0 {zn d : Nat} {post : zP} (x1 : Int32) (x2 : Int32) (x3 : Int32) (I : Nat → Nat → Int32) (L : Nat → Nat → Int64) (h : RX12_arrive zn d post 6 [some (.ref 115), some (.int x1), some (.int x2), some (.int x3), some (.int (0 : Int32)), some (.int (0 : Int32)), none, none, none] [] (zSH zn, I, L)) : RX12_arrive zn d post 0 [some (.ref 115), some (.int x1), some (.int x2), some (.int x3), none, none, none, none, none] [] (zSH zn, I, L) := fun P hw hc => hc _ tX12_arrive_0 _ _ _ (hc _ tX12_arrive_1 _ _ _ (hc _ tX12_arrive_3 _ _ _ (hc _ tX12_arrive_4 _ _ _ (h P hw hc))))
theorem gX12_arrive_6 {zn d : Nat} {post : zP} (x1 : Int32) (x2 : Int32) (x3 : Int32) (x4 : Int32) (x5 : Int32) (I : Nat → Nat → Int32) (L : Nat → Nat → Int64) (h : vp_in (((19 : Int32) * x1) + x2) 133 ∧ (((I 120 ((((19 : Int32) * x1) + x2)).toNatClampNeg) ≤ x5 → ((15 : Int32) ≤ x2 → vp_in x2 19 ∧ (post none (zSH zn, (zi (zi I 135 (x2).toNatClampNeg ((I 137 0) + (0 : Int32))) 136 (x2).toNatClampNeg ((zi I 135 (x2).toNatClampNeg ((I 137 0) + (0 : Int32))) 138 0)), L))) ∧ (¬ (15 : Int32) ≤ x2 → (∃ (V5 : zVw), (okV V5) ∧ (rLn I (tn x1) V5) ∧ (zs x1 6) ∧ (zs x2 18) ∧ (vp_in x2 19 ∧ (post none (zSH zn, (zi (zi I 135 (x2).toNatClampNeg ((I 137 0) + ((I 129 3) * (nI (cntU V5 (tn x2)))))) 136 (x2).toNatClampNeg ((zi I 135 (x2).toNatClampNeg ((I 137 0) + ((I 129 3) * (nI (cntU V5 (tn x2)))))) 138 0)), L)))))) ∧ (¬ (I 120 ((((19 : Int32) * x1) + x2)).toNatClampNeg) ≤ x5 → vp_in ((((200 : Int32) * x1) + (I 119 ((((19 : Int32) * x1) + x2)).toNatClampNeg)) + x5) 1400 ∧ ((¬ (fX12_takes (I 118 (((((200 : Int32) * x1) + (I 119 ((((19 : Int32) * x1) + x2)).toNatClampNeg)) + x5)).toNatClampNeg)) = 0 → RX12_arrive zn d post 137 [some (.ref 115), some (.int x1), some (.int x2), some (.int x3), some (.int (x4 - (fX12_takes (I 118 (((((200 : Int32) * x1) + (I 119 ((((19 : Int32) * x1) + x2)).toNatClampNeg)) + x5)).toNatClampNeg)))), some (.int x5), some (.int (I 118 (((((200 : Int32) * x1) + (I 119 ((((19 : Int32) * x1) + x2)).toNatClampNeg)) + x5)).toNatClampNeg)), some (.int (fX12_takes (I 118 (((((200 : Int32) * x1) + (I 119 ((((19 : Int32) * x1) + x2)).toNatClampNeg)) + x5)).toNatClampNeg))), some (.int (1 : Int32))] [] (zSH zn, I, L)) ∧ ((fX12_takes (I 118 (((((200 : Int32) * x1) + (I 119 ((((19 : Int32) * x1) + x2)).toNatClampNeg)) + x5)).toNatClampNeg)) = 0 → ((50 : Int32) ≤ (I 118 (((((200 : Int32) * x1) + (I 119 ((((19 : Int32) * x1) + x2)).toNatClampNeg)) + x5)).toNatClampNeg) → ((I 118 (((((200 : Int32) * x1) + (I 119 ((((19 : Int32) * x1) + x2)).toNatClampNeg)) + x5)).toNatClampNeg) ≤ (111 : Int32) → vp_in ((I 118 (((((200 : Int32) * x1) + (I 119 ((((19 : Int32) * x1) + x2)).toNatClampNeg)) + x5)).toNatClampNeg) - (97 : Int32)) 19 ∧ (vp_in x4 10 ∧ (((50 : Int32) ≤ (I 118 (((((200 : Int32) * x1) + (I 119 ((((19 : Int32) * x1) + x2)).toNatClampNeg)) + x5)).toNatClampNeg) → RX12_arrive zn d post 6 [some (.ref 115), some (.int x1), some (.int x2), some (.int x3), some (.int (x4 + (1 : Int32))), some (.int (x5 + (1 : Int32))), none, none, none] [] (zSH zn, (zi (zi I 137 (x4).toNatClampNeg (I 135 (((I 118 (((((200 : Int32) * x1) + (I 119 ((((19 : Int32) * x1) + x2)).toNatClampNeg)) + x5)).toNatClampNeg) - (97 : Int32))).toNatClampNeg)) 138 (x4).toNatClampNeg ((I 118 (((((200 : Int32) * x1) + (I 119 ((((19 : Int32) * x1) + x2)).toNatClampNeg)) + x5)).toNatClampNeg) - (97 : Int32))), L)) ∧ (¬ (50 : Int32) ≤ (I 118 (((((200 : Int32) * x1) + (I 119 ((((19 : Int32) * x1) + x2)).toNatClampNeg)) + x5)).toNatClampNeg) → RX12_arrive zn d post 6 [some (.ref 115), some (.int x1), some (.int x2), some (.int x3), some (.int (x4 + (1 : Int32))), some (.int (x5 + (1 : Int32))), none, none, none] [] (zSH zn, (zi (zi I 137 (x4).toNatClampNeg (I 135 (((I 118 (((((200 : Int32) * x1) + (I 119 ((((19 : Int32) * x1) + x2)).toNatClampNeg)) + x5)).toNatClampNeg) - (97 : Int32))).toNatClampNeg)) 138 (x4).toNatClampNeg (-4 : Int32)), L))))) ∧ (¬ (I 118 (((((200 : Int32) * x1) + (I 119 ((((19 : Int32) * x1) + x2)).toNatClampNeg)) + x5)).toNatClampNeg) ≤ (111 : Int32) → vp_in x4 10 ∧ (((50 : Int32) ≤ (I 118 (((((200 : Int32) * x1) + (I 119 ((((19 : Int32) * x1) + x2)).toNatClampNeg)) + x5)).toNatClampNeg) → RX12_arrive zn d post 6 [some (.ref 115), some (.int x1), some (.int x2), some (.int x3), some (.int (x4 + (1 : Int32))), some (.int (x5 + (1 : Int32))), none, none, none] [] (zSH zn, (zi (zi I 137 (x4).toNatClampNeg (0 : Int32)) 138 (x4).toNatClampNeg ((I 118 (((((200 : Int32) * x1) + (I 119 ((((19 : Int32) * x1) + x2)).toNatClampNeg)) + x5)).toNatClampNeg) - (97 : Int32))), L)) ∧ (¬ (50 : Int32) ≤ (I 118 (((((200 : Int32) * x1) + (I 119 ((((19 : Int32) * x1) + x2)).toNatClampNeg)) + x5)).toNatClampNeg) → RX12_arrive zn d post 6 [some (.ref 115), some (.int x1), some (.int x2), some (.int x3), some (.int (x4 + (1 : Int32))), some (.int (x5 + (1 : Int32))), none, none, none] [] (zSH zn, (zi (zi I 137 (x4).toNatClampNeg (0 : Int32)) 138 (x4).toNatClampNeg (-4 : Int32)), L))))) ∧ (¬ (50 : Int32) ≤ (I 118 (((((200 : Int32) * x1) + (I 119 ((((19 : Int32) * x1) + x2)).toNatClampNeg)) + x5)).toNatClampNeg) → vp_in x4 10 ∧ (((50 : Int32) ≤ (I 118 (((((200 : Int32) * x1) + (I 119 ((((19 : Int32) * x1) + x2)).toNatClampNeg)) + x5)).toNatClampNeg) → RX12_arrive zn d post 6 [some (.ref 115), some (.int x1), some (.int x2), some (.int x3), some (.int (x4 + (1 : Int32))), some (.int (x5 + (1 : Int32))), none, none, none] [] (zSH zn, (zi (zi I 137 (x4).toNatClampNeg (0 : Int32)) 138 (x4).toNatClampNeg ((I 118 (((((200 : Int32) * x1) + (I 119 ((((19 : Int32) * x1) + x2)).toNatClampNeg)) + x5)).toNatClampNeg) - (97 : Int32))), L)) ∧ (¬ (50 : Int32) ≤ (I 118 (((((200 : Int32) * x1) + (I 119 ((((19 : Int32) * x1) + x2)).toNatClampNeg)) + x5)).toNatClampNeg) → RX12_arrive zn d post 6 [some (.ref 115), some (.int x1), some (.int x2), some (.int x3), some (.int (x4 + (1 : Int32))), some (.int (x5 + (1 : Int32))), none, none, none] [] (zSH zn, (zi (zi I 137 (x4).toNatClampNeg (0 : Int32)) 138 (x4).toNatClampNeg (-4 : Int32)), L))))))))) : RX12_arrive zn d post 6 [some (.ref 115), some (.int x1), some (.int x2), some (.int x3), some (.int x4), some (.int x5), none, none, none] [] (zSH zn, I, L) := fun P hw hc => hc _ tX12_arrive_6 _ _ _ (hc _ tX12_arrive_8 _ _ _ (hc _ tX12_arrive_9 _ _ _ (⟨_, _, sh115, (by decide), rfl, hc _ tX12_arrive_12 _ _ _ (hc _ tX12_arrive_14 _ _ _ (hc _ tX12_arrive_15 _ _ _ (hc _ tX12_arrive_16 _ _ _ (hc _ tX12_arrive_17 _ _ _ (hc _ tX12_arrive_18 _ _ _ (⟨_, _, _, sh120, Or.inl ⟨rfl, (by decide)⟩, h.1, hc _ tX12_arrive_19 _ _ _ (⟨fun c1 => hc _ tX12_arrive_246 _ _ _ (hc _ tX12_arrive_247 _ _ _ (⟨_, _, sh115, (by decide), rfl, hc _ tX12_arrive_250 _ _ _ (hc _ tX12_arrive_251 _ _ _ (hc _ tX12_arrive_252 _ _ _ (⟨_, _, sh115, (by decide), rfl, hc _ tX12_arrive_255 _ _ _ (hc _ tX12_arrive_256 _ _ _ (⟨_, _, _, sh137, Or.inl ⟨rfl, (by decide)⟩, zvin (by decide), hc _ tX12_arrive_257 _ _ _ (hc _ tX12_arrive_258 _ _ _ (hc _ tX12_arrive_260 _ _ _ (⟨fun c3 => hc _ tX12_arrive_279 _ _ _ (hc _ tX12_arrive_280 _ _ _ (hc _ tX12_arrive_281 _ _ _ (⟨_, _, sh135, (by decide), ((h.2.1 c1).1 c3).1, hc _ tX12_arrive_282 _ _ _ (hc _ tX12_arrive_283 _ _ _ (⟨_, _, sh115, (by decide), rfl, hc _ tX12_arrive_286 _ _ _ (hc _ tX12_arrive_287 _ _ _ (hc _ tX12_arrive_288 _ _ _ (⟨_, _, sh115, (by decide), rfl, hc _ tX12_arrive_291 _ _ _ (hc _ tX12_arrive_292 _ _ _ (⟨_, _, _, sh138, Or.inl ⟨rfl, (by decide)⟩, zvin (by decide), hc _ tX12_arrive_293 _ _ _ (⟨_, _, sh136, (by decide), ((h.2.1 c1).1 c3).1, hc _ tX12_arrive_294 _ _ _ (⟨rfl, rfl, ((h.2.1 c1).1 c3).2⟩)⟩)⟩))⟩)))⟩))⟩))), fun c4 => hc _ tX12_arrive_263 _ _ _ (hc _ tX12_arrive_264 _ _ _ (⟨_, _, sh115, (by decide), rfl, hc _ tX12_arrive_267 _ _ _ (hc _ tX12_arrive_268 _ _ _ (⟨_, _, _, sh129, Or.inl ⟨rfl, (by decide)⟩, zvin (by decide), hc _ tX12_arrive_269 _ _ _ (hc _ tX12_arrive_270 _ _ _ (hc _ tX12_arrive_271 _ _ _ ((by obtain ⟨V5, hg6⟩ := ((h.2.1 c1).2 c4); exact hc _ tX12_arrive_272 _ _ _ (⟨⟨_, _, _, rfl, (by decide), sh115⟩, ⟨Nat.le_of_ble_eq_true rfl, Nat.le_of_ble_eq_true rfl, zl1, zl2, _, ctX12_uses x1 x2 I L V5 hg6.1 hg6.2.1 hg6.2.2.1 hg6.2.2.2.1, fun r u k7 => by obtain ⟨rfl, rfl⟩ := k7; exact ⟨zl3, zl4, hc _ tX12_arrive_275 _ _ _ (hc _ tX12_arrive_276 _ _ _ (hc _ tX12_arrive_280 _ _ _ (hc _ tX12_arrive_281 _ _ _ (⟨_, _, sh135, (by decide), hg6.2.2.2.2.1, hc _ tX12_arrive_282 _ _ _ (hc _ tX12_arrive_283 _ _ _ (⟨_, _, sh115, (by decide), rfl, hc _ tX12_arrive_286 _ _ _ (hc _ tX12_arrive_287 _ _ _ (hc _ tX12_arrive_288 _ _ _ (⟨_, _, sh115, (by decide), rfl, hc _ tX12_arrive_291 _ _ _ (hc _ tX12_arrive_292 _ _ _ (⟨_, _, _, sh138, Or.inl ⟨rfl, (by decide)⟩, zvin (by decide), hc _ tX12_arrive_293 _ _ _ (⟨_, _, sh136, (by decide), hg6.2.2.2.2.1, hc _ tX12_arrive_294 _ _ _ (⟨rfl, rfl, hg6.2.2.2.2.2⟩)⟩)⟩))⟩)))⟩))⟩))))⟩⟩⟩)))))⟩))⟩))⟩)))⟩))⟩)))⟩)), fun c2 => hc _ tX12_arrive_22 _ _ _ (hc _ tX12_arrive_23 _ _ _ (⟨_, _, sh115, (by decide), rfl, hc _ tX12_arrive_26 _ _ _ (hc _ tX12_arrive_29 _ _ _ (hc _ tX12_arrive_30 _ _ _ (hc _ tX12_arrive_31 _ _ _ (hc _ tX12_arrive_32 _ _ _ (⟨_, _, sh115, (by decide), rfl, hc _ tX12_arrive_35 _ _ _ (hc _ tX12_arrive_37 _ _ _ (hc _ tX12_arrive_38 _ _ _ (hc _ tX12_arrive_39 _ _ _ (hc _ tX12_arrive_40 _ _ _ (hc _ tX12_arrive_41 _ _ _ (⟨_, _, _, sh119, Or.inl ⟨rfl, (by decide)⟩, h.1, hc _ tX12_arrive_42 _ _ _ (hc _ tX12_arrive_43 _ _ _ (hc _ tX12_arrive_45 _ _ _ (hc _ tX12_arrive_46 _ _ _ (⟨_, _, _, sh118, Or.inl ⟨rfl, (by decide)⟩, (h.2.2 c2).1, hc _ tX12_arrive_47 _ _ _ (hc _ tX12_arrive_49 _ _ _ (hc _ tX12_arrive_51 _ _ _ (⟨Nat.le_of_ble_eq_true rfl, Nat.le_of_ble_eq_true rfl, zl1, zl2, _, ctX12_takes (I 118 (((((200 : Int32) * x1) + (I 119 ((((19 : Int32) * x1) + x2)).toNatClampNeg)) + x5)).toNatClampNeg) I L, fun r u k20 => by obtain ⟨rfl, rfl⟩ := k20; exact ⟨zl3, zl4, hc _ tX12_arrive_54 _ _ _ (hc _ tX12_arrive_56 _ _ _ (hc _ tX12_arrive_58 _ _ _ (⟨fun c8 => hc _ tX12_arrive_127 _ _ _ (hc _ tX12_arrive_129 _ _ _ (hc _ tX12_arrive_131 _ _ _ (hc _ tX12_arrive_132 _ _ _ (hc _ tX12_arrive_134 _ _ _ (hc _ tX12_arrive_135 _ _ _ (((h.2.2 c2).2.1 c8) P hw hc)))))), fun c9 => hc _ tX12_arrive_61 _ _ _ (hc _ tX12_arrive_62 _ _ _ (⟨_, _, sh115, (by decide), rfl, hc _ tX12_arrive_65 _ _ _ (hc _ tX12_arrive_67 _ _ _ (hc _ tX12_arrive_69 _ _ _ (hc _ tX12_arrive_71 _ _ _ (⟨fun c10 => hc _ tX12_arrive_78 _ _ _ (hc _ tX12_arrive_80 _ _ _ (hc _ tX12_arrive_82 _ _ _ (⟨fun c12 => hc _ tX12_arrive_89 _ _ _ (hc _ tX12_arrive_90 _ _ _ (⟨_, _, sh115, (by decide), rfl, hc _ tX12_arrive_93 _ _ _ (hc _ tX12_arrive_95 _ _ _ (hc _ tX12_arrive_97 _ _ _ (hc _ tX12_arrive_98 _ _ _ (⟨_, _, _, sh135, Or.inl ⟨rfl, (by decide)⟩, ((((h.2.2 c2).2.2 c9).1 c10).1 c12).1, hc _ tX12_arrive_99 _ _ _ (⟨_, _, sh137, (by decide), ((((h.2.2 c2).2.2 c9).1 c10).1 c12).2.1, hc _ tX12_arrive_100 _ _ _ (hc _ tX12_arrive_101 _ _ _ (⟨_, _, sh115, (by decide), rfl, hc _ tX12_arrive_104 _ _ _ (hc _ tX12_arrive_106 _ _ _ (hc _ tX12_arrive_108 _ _ _ (hc _ tX12_arrive_110 _ _ _ (⟨fun c14 => hc _ tX12_arrive_118 _ _ _ (hc _ tX12_arrive_120 _ _ _ (hc _ tX12_arrive_122 _ _ _ (hc _ tX12_arrive_123 _ _ _ (⟨_, _, sh138, (by decide), ((((h.2.2 c2).2.2 c9).1 c10).1 c12).2.1, hc _ tX12_arrive_124 _ _ _ (hc _ tX12_arrive_237 _ _ _ (hc _ tX12_arrive_240 _ _ _ (hc _ tX12_arrive_243 _ _ _ (hw _ _ _ _ _ (zwk_s (zwk_s (zwk_s (zwk_s (zwk_s (zwk_s (zwk_n (zwk_n (zwk_s zwk_nil))))))))) ((((((h.2.2 c2).2.2 c9).1 c10).1 c12).2.2.1 c14) P hw hc)))))⟩)))), fun c15 => hc _ tX12_arrive_113 _ _ _ (hc _ tX12_arrive_115 _ _ _ (hc _ tX12_arrive_123 _ _ _ (⟨_, _, sh138, (by decide), ((((h.2.2 c2).2.2 c9).1 c10).1 c12).2.1, hc _ tX12_arrive_124 _ _ _ (hc _ tX12_arrive_237 _ _ _ (hc _ tX12_arrive_240 _ _ _ (hc _ tX12_arrive_243 _ _ _ (hw _ _ _ _ _ (zwk_s (zwk_s (zwk_s (zwk_s (zwk_s (zwk_s (zwk_n (zwk_n (zwk_s zwk_nil))))))))) ((((((h.2.2 c2).2.2 c9).1 c10).1 c12).2.2.2 c15) P hw hc)))))⟩)))⟩))))⟩))⟩)⟩))))⟩)), fun c13 => hc _ tX12_arrive_85 _ _ _ (hc _ tX12_arrive_86 _ _ _ (hc _ tX12_arrive_99 _ _ _ (⟨_, _, sh137, (by decide), ((((h.2.2 c2).2.2 c9).1 c10).2 c13).1, hc _ tX12_arrive_100 _ _ _ (hc _ tX12_arrive_101 _ _ _ (⟨_, _, sh115, (by decide), rfl, hc _ tX12_arrive_104 _ _ _ (hc _ tX12_arrive_106 _ _ _ (hc _ tX12_arrive_108 _ _ _ (hc _ tX12_arrive_110 _ _ _ (⟨fun c16 => hc _ tX12_arrive_118 _ _ _ (hc _ tX12_arrive_120 _ _ _ (hc _ tX12_arrive_122 _ _ _ (hc _ tX12_arrive_123 _ _ _ (⟨_, _, sh138, (by decide), ((((h.2.2 c2).2.2 c9).1 c10).2 c13).1, hc _ tX12_arrive_124 _ _ _ (hc _ tX12_arrive_237 _ _ _ (hc _ tX12_arrive_240 _ _ _ (hc _ tX12_arrive_243 _ _ _ (hw _ _ _ _ _ (zwk_s (zwk_s (zwk_s (zwk_s (zwk_s (zwk_s (zwk_n (zwk_n (zwk_s zwk_nil))))))))) ((((((h.2.2 c2).2.2 c9).1 c10).2 c13).2.1 c16) P hw hc)))))⟩)))), fun c17 => hc _ tX12_arrive_113 _ _ _ (hc _ tX12_arrive_115 _ _ _ (hc _ tX12_arrive_123 _ _ _ (⟨_, _, sh138, (by decide), ((((h.2.2 c2).2.2 c9).1 c10).2 c13).1, hc _ tX12_arrive_124 _ _ _ (hc _ tX12_arrive_237 _ _ _ (hc _ tX12_arrive_240 _ _ _ (hc _ tX12_arrive_243 _ _ _ (hw _ _ _ _ _ (zwk_s (zwk_s (zwk_s (zwk_s (zwk_s (zwk_s (zwk_n (zwk_n (zwk_s zwk_nil))))))))) ((((((h.2.2 c2).2.2 c9).1 c10).2 c13).2.2 c17) P hw hc)))))⟩)))⟩))))⟩))⟩)))⟩))), fun c11 => hc _ tX12_arrive_74 _ _ _ (hc _ tX12_arrive_75 _ _ _ (hc _ tX12_arrive_99 _ _ _ (⟨_, _, sh137, (by decide), (((h.2.2 c2).2.2 c9).2 c11).1, hc _ tX12_arrive_100 _ _ _ (hc _ tX12_arrive_101 _ _ _ (⟨_, _, sh115, (by decide), rfl, hc _ tX12_arrive_104 _ _ _ (hc _ tX12_arrive_106 _ _ _ (hc _ tX12_arrive_108 _ _ _ (hc _ tX12_arrive_110 _ _ _ (⟨fun c18 => hc _ tX12_arrive_118 _ _ _ (hc _ tX12_arrive_120 _ _ _ (hc _ tX12_arrive_122 _ _ _ (hc _ tX12_arrive_123 _ _ _ (⟨_, _, sh138, (by decide), (((h.2.2 c2).2.2 c9).2 c11).1, hc _ tX12_arrive_124 _ _ _ (hc _ tX12_arrive_237 _ _ _ (hc _ tX12_arrive_240 _ _ _ (hc _ tX12_arrive_243 _ _ _ (hw _ _ _ _ _ (zwk_s (zwk_s (zwk_s (zwk_s (zwk_s (zwk_s (zwk_n (zwk_n (zwk_s zwk_nil))))))))) (((((h.2.2 c2).2.2 c9).2 c11).2.1 c18) P hw hc)))))⟩)))), fun c19 => hc _ tX12_arrive_113 _ _ _ (hc _ tX12_arrive_115 _ _ _ (hc _ tX12_arrive_123 _ _ _ (⟨_, _, sh138, (by decide), (((h.2.2 c2).2.2 c9).2 c11).1, hc _ tX12_arrive_124 _ _ _ (hc _ tX12_arrive_237 _ _ _ (hc _ tX12_arrive_240 _ _ _ (hc _ tX12_arrive_243 _ _ _ (hw _ _ _ _ _ (zwk_s (zwk_s (zwk_s (zwk_s (zwk_s (zwk_s (zwk_n (zwk_n (zwk_s zwk_nil))))))))) (((((h.2.2 c2).2.2 c9).2 c11).2.2 c19) P hw hc)))))⟩)))⟩))))⟩))⟩)))⟩))))⟩))⟩)))⟩⟩)))⟩))))⟩))))))⟩)))))⟩))⟩)⟩))))))⟩)))
theorem gX12_arrive_137 {zn d : Nat} {post : zP} (x1 : Int32) (x2 : Int32) (x3 : Int32) (x4 : Int32) (x5 : Int32) (x6 : Int32) (x7 : Int32) (x8 : Int32) (I : Nat → Nat → Int32) (L : Nat → Nat → Int64) (h : (x7 ≤ x8 → vp_in x4 10 ∧ (vp_in (fX12_kindOf x6) 7 ∧ (vp_in x3 5 ∧ (RX12_arrive zn d post 6 [some (.ref 115), some (.int x1), some (.int x2), some (.int x3), some (.int (x4 + (1 : Int32))), some (.int (x5 + (1 : Int32))), none, none, none] [] (zSH zn, (zi I 137 (x4).toNatClampNeg ((I 137 (x4).toNatClampNeg) + ((((I 128 ((fX12_kindOf x6)).toNatClampNeg) * (I 129 (x3).toNatClampNeg)) + (99 : Int32)) / (100 : Int32)))), L))))) ∧ (¬ x7 ≤ x8 → vp_in (x4 + x8) 10 ∧ (vp_in x4 10 ∧ (((I 137 ((x4 + x8)).toNatClampNeg) ≤ (I 137 (x4).toNatClampNeg) → RX12_arrive zn d post 137 [some (.ref 115), some (.int x1), some (.int x2), some (.int x3), some (.int x4), some (.int x5), some (.int x6), some (.int x7), some (.int (x8 + (1 : Int32)))] [] (zSH zn, I, L)) ∧ (¬ (I 137 ((x4 + x8)).toNatClampNeg) ≤ (I 137 (x4).toNatClampNeg) → RX12_arrive zn d post 137 [some (.ref 115), some (.int x1), some (.int x2), some (.int x3), some (.int x4), some (.int x5), some (.int x6), some (.int x7), some (.int (x8 + (1 : Int32)))] [] (zSH zn, (zi (zi I 137 (x4).toNatClampNeg (I 137 ((x4 + x8)).toNatClampNeg)) 138 (x4).toNatClampNeg ((zi I 137 (x4).toNatClampNeg (I 137 ((x4 + x8)).toNatClampNeg)) 138 ((x4 + x8)).toNatClampNeg)), L)))))) : RX12_arrive zn d post 137 [some (.ref 115), some (.int x1), some (.int x2), some (.int x3), some (.int x4), some (.int x5), some (.int x6), some (.int x7), some (.int x8)] [] (zSH zn, I, L) := fun P hw hc => hc _ tX12_arrive_137 _ _ _ (hc _ tX12_arrive_139 _ _ _ (hc _ tX12_arrive_141 _ _ _ (⟨fun c1 => hc _ tX12_arrive_204 _ _ _ (hc _ tX12_arrive_205 _ _ _ (⟨_, _, sh115, (by decide), rfl, hc _ tX12_arrive_208 _ _ _ (hc _ tX12_arrive_210 _ _ _ (⟨⟨rfl, rfl⟩, hc _ tX12_arrive_211 _ _ _ (⟨_, _, _, sh137, Or.inl ⟨rfl, (by decide)⟩, (h.1 c1).1, hc _ tX12_arrive_212 _ _ _ (hc _ tX12_arrive_213 _ _ _ (⟨_, _, sh115, (by decide), rfl, hc _ tX12_arrive_216 _ _ _ (hc _ tX12_arrive_218 _ _ _ (⟨Nat.le_of_ble_eq_true rfl, Nat.le_of_ble_eq_true rfl, zl1, zl2, _, ctX12_kindOf x6 I L, fun r u k3 => by obtain ⟨rfl, rfl⟩ := k3; exact ⟨zl3, zl4, hc _ tX12_arrive_221 _ _ _ (⟨_, _, _, sh128, Or.inl ⟨rfl, (by decide)⟩, (h.1 c1).2.1, hc _ tX12_arrive_222 _ _ _ (hc _ tX12_arrive_223 _ _ _ (⟨_, _, sh115, (by decide), rfl, hc _ tX12_arrive_226 _ _ _ (hc _ tX12_arrive_227 _ _ _ (⟨_, _, _, sh129, Or.inl ⟨rfl, (by decide)⟩, (h.1 c1).2.2.1, hc _ tX12_arrive_228 _ _ _ (hc _ tX12_arrive_229 _ _ _ (hc _ tX12_arrive_231 _ _ _ (hc _ tX12_arrive_232 _ _ _ (hc _ tX12_arrive_234 _ _ _ (⟨by decide, hc _ tX12_arrive_235 _ _ _ (hc _ tX12_arrive_236 _ _ _ (⟨_, _, sh137, (by decide), (h.1 c1).1, hc _ tX12_arrive_237 _ _ _ (hc _ tX12_arrive_240 _ _ _ (hc _ tX12_arrive_243 _ _ _ (hw _ _ _ _ _ (zwk_s (zwk_s (zwk_s (zwk_s (zwk_s (zwk_s (zwk_n (zwk_n (zwk_n zwk_nil))))))))) ((h.1 c1).2.2.2 P hw hc))))⟩))⟩)))))⟩))⟩))⟩)⟩⟩))⟩))⟩)⟩))⟩)), fun c2 => hc _ tX12_arrive_144 _ _ _ (hc _ tX12_arrive_145 _ _ _ (⟨_, _, sh115, (by decide), rfl, hc _ tX12_arrive_148 _ _ _ (hc _ tX12_arrive_150 _ _ _ (hc _ tX12_arrive_152 _ _ _ (hc _ tX12_arrive_153 _ _ _ (⟨_, _, _, sh137, Or.inl ⟨rfl, (by decide)⟩, (h.2 c2).1, hc _ tX12_arrive_154 _ _ _ (hc _ tX12_arrive_155 _ _ _ (⟨_, _, sh115, (by decide), rfl, hc _ tX12_arrive_158 _ _ _ (hc _ tX12_arrive_160 _ _ _ (⟨_, _, _, sh137, Or.inl ⟨rfl, (by decide)⟩, (h.2 c2).2.1, hc _ tX12_arrive_161 _ _ _ (⟨fun c4 => hc _ tX12_arrive_198 _ _ _ (hc _ tX12_arrive_201 _ _ _ (((h.2 c2).2.2.1 c4) P hw hc)), fun c5 => hc _ tX12_arrive_164 _ _ _ (hc _ tX12_arrive_165 _ _ _ (⟨_, _, sh115, (by decide), rfl, hc _ tX12_arrive_168 _ _ _ (hc _ tX12_arrive_170 _ _ _ (hc _ tX12_arrive_171 _ _ _ (⟨_, _, sh115, (by decide), rfl, hc _ tX12_arrive_174 _ _ _ (hc _ tX12_arrive_176 _ _ _ (hc _ tX12_arrive_178 _ _ _ (hc _ tX12_arrive_179 _ _ _ (⟨_, _, _, sh137, Or.inl ⟨rfl, (by decide)⟩, (h.2 c2).1, hc _ tX12_arrive_180 _ _ _ (⟨_, _, sh137, (by decide), (h.2 c2).2.1, hc _ tX12_arrive_181 _ _ _ (hc _ tX12_arrive_182 _ _ _ (⟨_, _, sh115, (by decide), rfl, hc _ tX12_arrive_185 _ _ _ (hc _ tX12_arrive_187 _ _ _ (hc _ tX12_arrive_188 _ _ _ (⟨_, _, sh115, (by decide), rfl, hc _ tX12_arrive_191 _ _ _ (hc _ tX12_arrive_193 _ _ _ (hc _ tX12_arrive_195 _ _ _ (hc _ tX12_arrive_196 _ _ _ (⟨_, _, _, sh138, Or.inl ⟨rfl, (by decide)⟩, (h.2 c2).1, hc _ tX12_arrive_197 _ _ _ (⟨_, _, sh138, (by decide), (h.2 c2).2.1, hc _ tX12_arrive_198 _ _ _ (hc _ tX12_arrive_201 _ _ _ (((h.2 c2).2.2.2 c5) P hw hc))⟩)⟩))))⟩)))⟩))⟩)⟩))))⟩)))⟩))⟩)⟩))⟩))⟩))))⟩))⟩)))
theorem byt_50 : ∀ x, x < 26 → ar x = 0 → ((50 ≤ nI (byt x)) ↔ x < 19) := by decide +kernel
theorem byt_111 : ∀ x, x < 19 → ((nI (byt x) ≤ 111) ↔ x < 15) := by decide +kernel
theorem ar_0 : ∀ x, x < 26 → (nI (ar x) = 0 ↔ x < 21) := by decide +kernel
theorem ar_z : ∀ x, x < 21 → ar x = 0 := by decide +kernel
theorem ar_3 : ∀ x, x < 26 → 21 ≤ x → (1 ≤ ar x ∧ ar x ≤ 3) := by decide +kernel
theorem zi4 {J : Nat → Nat → Int32} {p q s : Nat} (h : p ≠ q) {a b d : Int32} : zi (zi (zi J p s a) q s b) p s ((zi (zi J p s a) q s b) p s + d) = zi (zi J p s (a + d)) q s b := zi3 h
theorem ctX12_arrive {zn d : Nat} (x1 : Int32) (x2 : Int32) (x3 : Int32) (I : Nat → Nat → Int32) (L : Nat → Nat → Int64) (V : zVw) (ks : List Nat) (c : Nat) (q0 : okV V) (q1 : rLn I (tn x1) V) (q2 : V (tn x2) = some ks) (q3 : zs x1 6) (q4 : zs x2 18) (q5 : x3 = nI c ∧ c < 5) (q6 : ∀ n, n < 6 → I 135 n = 0) : zcal zty zcd false (d + 3) 180 [.ref 115, .int x1, .int x2, .int x3] (zSH zn, I, L) 0 0 (fun r u => ∃ (J : Nat → Nat → Int32), r = none ∧ u = (zSH zn, J, L) ∧ (fr [135, 136, 137, 138] I J ∧ (∀ n, n ≠ tn x2 → J 135 n = I 135 n ∧ J 136 n = I 136 n) ∧ J 135 (tn x2) = (ev (opG (dtm (I 128) (I 129 c)) (fun _ => -4)) (enT I 135) (0, 0) ks).1 + ldU V (I 129 3) (tn x2) ∧ J 136 (tn x2) = (ev (opG (dtm (I 128) (I 129 c)) (fun _ => -4)) (enT I 135) (0, 0) ks).2)) := by
  obtain ⟨v, hv, rfl⟩ := id q3
  obtain ⟨n, hn, rfl⟩ := id q4
  obtain ⟨rfl, hc⟩ := q5
  obtain ⟨e0, e0', tv, tnn, hv0⟩ := e19 hv hn
  have tnn2 : (nI n).toNatClampNeg = n := tnn
  have hq1 := q1
  rw [tv] at hq1
  rw [tnn] at q2 ⊢
  have hl := hq1 n (by omega)
  rw [q2] at hl
  obtain ⟨f, l1, l2, l3, l4⟩ := hl
  have hw := (q0 n ks q2).2.2
  have hvn : vp_in (nI n) 19 := vin_nI (by omega) (by omega)
  refine eX12_arrive _ _ _ I L (gX12_arrive_0 _ _ _ I L ?_)
  generalize hdt : dtm (I 128) (I 129 c) = dt
  generalize hld : I 129 3 = ld
  have loop : ∀ (m i : Nat), i + m = ks.length → RX12_arrive zn d (fun r u => ∃ (J : Nat → Nat → Int32), r = none ∧ u = (zSH zn, J, L) ∧ (fr [135, 136, 137, 138] I J ∧ (∀ k, k ≠ n → J 135 k = I 135 k ∧ J 136 k = I 136 k) ∧ J 135 n = (ev (opG dt (fun _ => -4)) (enT I 135) (0, 0) ks).1 + ldU V ld n ∧ J 136 n = (ev (opG dt (fun _ => -4)) (enT I 135) (0, 0) ks).2)) 6 [some (.ref 115), some (.int (nI v)), some (.int (nI n)), some (.int (nI c)), some (.int (nI (depd 0 (ks.take i)))), some (.int (nI i)), none, none, none] [] (zSH zn, wr2 I 137 138 (rpn (opG dt (fun _ => -4)) (enT I 135) (0, fun j => (I 137 j, I 138 j)) (ks.take i)).2, L) := by
    intro m
    induction m with
    | zero =>
      intro i hi
      have hR : (rpn (opG dt (fun _ => -4)) (enT I 135) (0, fun j => (I 137 j, I 138 j)) (ks.take i)).2 0 = ev (opG dt (fun _ => -4)) (enT I 135) (0, 0) ks := by
        rw [List.take_of_length_le (by omega), ev_any (opG_eq dt _) hw _ (0, 0)]
      generalize (rpn (opG dt (fun _ => -4)) (enT I 135) (0, fun j => (I 137 j, I 138 j)) (ks.take i)).2 = N at hR ⊢
      have key : ∀ y : Int32, y = ldU V ld n → ∃ (J : Nat → Nat → Int32), (none : Option Value) = none ∧ ((zSH zn, zi (zi (wr2 I 137 138 N) 135 n ((wr2 I 137 138 N) 137 0 + y)) 136 n ((zi (wr2 I 137 138 N) 135 n ((wr2 I 137 138 N) 137 0 + y)) 138 0), L) : zU) = (zSH zn, J, L) ∧ (fr [135, 136, 137, 138] I J ∧ (∀ k, k ≠ n → J 135 k = I 135 k ∧ J 136 k = I 136 k) ∧ J 135 n = (ev (opG dt (fun _ => -4)) (enT I 135) (0, 0) ks).1 + ldU V ld n ∧ J 136 n = (ev (opG dt (fun _ => -4)) (enT I 135) (0, 0) ks).2) := fun y hy => by
        refine ⟨_, rfl, rfl, fun j hj => ?_, fun k hk => ⟨?_, ?_⟩, ?_, ?_⟩
        · simp only [List.mem_cons, List.not_mem_nil, or_false, not_or] at hj
          rw [zi_ne hj.2.1, zi_ne hj.1, wr2_n hj.2.2.1 hj.2.2.2]
        · rw [zi_ne (by decide), zi_at, if_neg (fun z => hk z.2), wr2_n (by decide) (by decide)]
        · rw [zi_at, if_neg (fun z => hk z.2), zi_ne (by decide), wr2_n (by decide) (by decide)]
        · rw [zi_ne (by decide), zi_at, if_pos ⟨rfl, rfl⟩, wr2_p (by decide), hR, hy]
        · rw [zi_at, if_pos ⟨rfl, rfl⟩, zi_ne (by decide), wr2_q, hR]
      refine gX12_arrive_6 _ _ _ _ _ _ L ⟨by rw [e0]; exact hv0, fun _ => ?_, fun hc => absurd ?_ hc⟩
      · rw [tnn2, nl 15, nI_leI (by decide) (by omega)]
        refine ⟨fun h15 => ⟨hvn, key 0 (by unfold ldU; rw [if_neg (by omega)])⟩, fun h15 => ⟨V, q0, ?_, q3, q4, hvn, ?_⟩⟩
        · rw [tv]; exact rLn_fr hq1 (wr2_n (by decide) (by decide)) (wr2_n (by decide) (by decide)) (wr2_n (by decide) (by decide))
        · rw [tnn]
          have hl3 : (wr2 I 137 138 N) 129 3 = ld := by rw [wr2_n (by decide) (by decide), hld]
          rw [hl3]
          exact key _ (by unfold ldU; rw [if_pos ⟨(q0 n ks q2).1, by omega⟩])
      · rw [e0, e0', wr2_n (by decide) (by decide), l3, nI_leI (by omega) (by omega)]; omega
    | succ m ih =>
      intro i hi
      have hil : i < ks.length := by omega
      obtain ⟨x, hx⟩ : ∃ x, ks[i]? = some x := ⟨_, List.getElem?_eq_getElem hil⟩
      obtain ⟨x1, x2, x3⟩ := okd_at hw.1 hx
      have hd : (rpn (opG dt (fun _ => -4)) (enT I 135) (0, fun j => (I 137 j, I 138 j)) (ks.take i)).1 = depd 0 (ks.take i) := rpn_dep _ _ _ _
      have hd10 : depd 0 (ks.take i) ≤ 10 := okd_le _ 0 (by decide) (okd_take hw.1 i)
      have hih := ih (i + 1) (by omega)
      rw [rpn_succ hx, depd_succ hx] at hih
      unfold stp at hih
      rw [hd] at hih
      dsimp only at hih
      generalize (rpn (opG dt (fun _ => -4)) (enT I 135) (0, fun j => (I 137 j, I 138 j)) (ks.take i)).2 = N at hih ⊢
      generalize hdd : depd 0 (ks.take i) = D at hih x2 x3 hd10 ⊢
      have ei : (200 : Int32) * nI v + (wr2 I 137 138 N) 119 ((19 : Int32) * nI v + nI n).toNatClampNeg + nI i = nI (200 * v + f + i) := by
        rw [e0, e0', wr2_n (by decide) (by decide), l2, nl 200, pk_mul, nI_add, nI_add]
      have ei' : (nI (200 * v + f + i)).toNatClampNeg = 200 * v + f + i := nI_clamp (by omega)
      have eb : (wr2 I 137 138 N) 118 (200 * v + f + i) = nI (byt x) := by rw [wr2_n (by decide) (by decide)]; exact l4 i x hx
      refine gX12_arrive_6 _ _ _ _ _ _ L ⟨by rw [e0]; exact hv0, fun hc => absurd hc ?_, fun _ => ⟨by rw [ei]; exact vin_nI (by omega) (by omega), ?_⟩⟩
      · rw [e0, e0', wr2_n (by decide) (by decide), l3, nI_leI (by omega) (by omega)]; omega
      · rw [ei, ei', eb, takes_b x1, ar_0 x x1]
        refine ⟨fun h21 => ?_, fun h21 => ?_⟩
        · have h21' : 21 ≤ x := by omega
          have ha3 := ar_3 x x1 h21'
          generalize hS : D - ar x = S at hih x3
          have eD : nI D - nI (ar x) = nI S := by rw [pk_sub (by omega), hS]
          have hvS : vp_in (nI S) 10 := vin_nI (by omega) (by omega)
          have tS : (nI S).toNatClampNeg = S := nI_clamp (by omega)
          rw [eD]
          rw [if_neg (by omega)] at hih
          have fin : ∀ (K : Nat → Nat → Int32) (j : Nat), ar x ≤ j → j ≤ 3 → (∃ w : Int32 × Int32, K = zi (zi (wr2 I 137 138 N) 137 S w.1) 138 S w.2 ∧ opG dt (fun _ => -4) x (N S) (N (S + 1)) (N (S + 2)) = (w.1 + dt x, w.2)) → RX12_arrive zn d (fun r u => ∃ (J : Nat → Nat → Int32), r = none ∧ u = (zSH zn, J, L) ∧ (fr [135, 136, 137, 138] I J ∧ (∀ k, k ≠ n → J 135 k = I 135 k ∧ J 136 k = I 136 k) ∧ J 135 n = (ev (opG dt (fun _ => -4)) (enT I 135) (0, 0) ks).1 + ldU V ld n ∧ J 136 n = (ev (opG dt (fun _ => -4)) (enT I 135) (0, 0) ks).2)) 137 [some (.ref 115), some (.int (nI v)), some (.int (nI n)), some (.int (nI c)), some (.int (nI S)), some (.int (nI i)), some (.int (nI (byt x))), some (.int (nI (ar x))), some (.int (nI j))] [] (zSH zn, K, L) := fun K j hj hj3 ⟨w, eK, ew⟩ => by
            refine gX12_arrive_137 _ _ _ _ _ _ _ _ K L ⟨fun _ => ⟨hvS, ?_⟩, fun hc => absurd (by rw [nI_leI (by omega) (by omega)]; omega) hc⟩
            have hg := gk_lt x x1
            rw [gk_R x x1 h21', tS, nI_clamp (by omega), nI_clamp (by omega), nI_1, nI_1]
            refine ⟨vin_nI hg (by decide), vin_nI hc (by decide), ?_⟩
            have ed : (K 128 (gk x) * K 129 c + 99) / 100 = dt x := by
              rw [eK, zi_ne (by decide), zi_ne (by decide), wr2_n (by decide) (by decide), zi_ne (by decide), zi_ne (by decide), wr2_n (by decide) (by decide), ← hdt]; rfl
            rw [ed, eK, zi4 (by decide), wr2_set (by decide)]
            rw [ew] at hih
            exact hih
          have stp : ∀ (K : Nat → Nat → Int32) (j : Nat), j < ar x → 1 ≤ j → RX12_arrive zn d (fun r u => ∃ (J : Nat → Nat → Int32), r = none ∧ u = (zSH zn, J, L) ∧ (fr [135, 136, 137, 138] I J ∧ (∀ k, k ≠ n → J 135 k = I 135 k ∧ J 136 k = I 136 k) ∧ J 135 n = (ev (opG dt (fun _ => -4)) (enT I 135) (0, 0) ks).1 + ldU V ld n ∧ J 136 n = (ev (opG dt (fun _ => -4)) (enT I 135) (0, 0) ks).2)) 137 [some (.ref 115), some (.int (nI v)), some (.int (nI n)), some (.int (nI c)), some (.int (nI S)), some (.int (nI i)), some (.int (nI (byt x))), some (.int (nI (ar x))), some (.int (nI (j + 1)))] [] (zSH zn, up1 K 137 138 S j, L) → RX12_arrive zn d (fun r u => ∃ (J : Nat → Nat → Int32), r = none ∧ u = (zSH zn, J, L) ∧ (fr [135, 136, 137, 138] I J ∧ (∀ k, k ≠ n → J 135 k = I 135 k ∧ J 136 k = I 136 k) ∧ J 135 n = (ev (opG dt (fun _ => -4)) (enT I 135) (0, 0) ks).1 + ldU V ld n ∧ J 136 n = (ev (opG dt (fun _ => -4)) (enT I 135) (0, 0) ks).2)) 137 [some (.ref 115), some (.int (nI v)), some (.int (nI n)), some (.int (nI c)), some (.int (nI S)), some (.int (nI i)), some (.int (nI (byt x))), some (.int (nI (ar x))), some (.int (nI j))] [] (zSH zn, K, L) := fun K j hj hj1 hR => by
            refine gX12_arrive_137 _ _ _ _ _ _ _ _ K L ⟨fun h => absurd h (by rw [nI_leI (by omega) (by omega)]; omega), fun _ => ?_⟩
            rw [nI_add, nI_clamp (by omega), nI_clamp (by omega), nI_1]
            refine ⟨vin_nI (by omega) (by omega), hvS, fun h => ?_, fun h => ?_⟩
            · rw [up1_le (by decide) h] at hR; exact hR
            · rw [up1_gt (by decide) h] at hR; exact hR
          have ea : ∀ j, at2 (wr2 I 137 138 N) 137 138 j = N j := fun j => by unfold at2; rw [wr2_p (by decide), wr2_q]
          rcases (show x = 21 ∨ (x = 22 ∨ x = 23 ∨ x = 24) ∨ x = 25 by omega) with rfl | h22 | rfl
          · refine fin _ 1 (by decide) (by decide) ⟨N S, ?_, opG_21 _ _ _ _ _⟩
            rw [wr2_set (by decide)]
            congr 1
            funext j
            by_cases hj : j = S
            · rw [if_pos hj, hj]
            · rw [if_neg hj]
          · have ha : ar x = 2 := by rcases h22 with rfl | rfl | rfl <;> rfl
            refine stp _ 1 (by omega) (by decide) (fin _ 2 (by omega) (by decide) ⟨lt2 (N S) (N (S + 1)), ?_, opG_m _ _ h22 _ _ _⟩)
            unfold up1
            rw [ea, ea]
          · refine stp _ 1 (by decide) (by decide) (stp _ 2 (by decide) (by decide) (fin _ 3 (by decide) (by decide) ⟨lt2 (lt2 (N S) (N (S + 1))) (N (S + 2)), ?_, opG_25 _ _ _ _ _⟩))
            rw [up1_2 (by decide), ea, ea, ea]
        · have a0 : ar x = 0 := ar_z x h21
          rw [a0, Nat.sub_zero] at hih x3
          have tD : (nI D).toNatClampNeg = D := nI_clamp (by omega)
          have hvD : vp_in (nI D) 10 := vin_nI x3 (by decide)
          rw [byt_50 x x1 a0, tD, nI_1, nI_1]
          refine ⟨fun h19 => ?_, fun h19 => ⟨hvD, fun z => absurd z h19, fun _ => ?_⟩⟩
          · rw [if_pos h19] at hih
            have ebs : nI (byt x) - 97 = nI x := byt_sub x h19
            rw [byt_111 x h19, ebs, nI_clamp (by omega)]
            refine ⟨fun h15 => ⟨vin_nI h19 (by decide), hvD, fun _ => ?_, fun z => absurd h19 z⟩, fun h15 => ⟨hvD, fun _ => ?_, fun z => absurd h19 z⟩⟩
            · rw [wr2_set (by decide), wr2_n (by decide) (by decide)]
              have een : enT I 135 x = (I 135 x, nI x) := by
                unfold enT
                by_cases h6 : 6 ≤ x
                · rw [if_pos ⟨h6, h15⟩]
                · rw [if_neg (fun z => h6 z.1), q6 x (by omega)]
              rw [een] at hih
              exact hih
            · rw [wr2_set (by decide)]
              have een : enT I 135 x = (0, nI x) := by
                unfold enT
                rw [if_neg (fun z => h15 z.2)]
              rw [een] at hih
              exact hih
          · rw [if_neg h19] at hih
            rw [wr2_set (by decide)]
            have eop : opG dt (fun _ => -4) x (N D) (N (D + 1)) (N (D + 2)) = (0, -4) := by
              rcases (show x = 19 ∨ x = 20 by omega) with rfl | rfl
              · rw [opG_19]
              · rw [opG_20]
            rw [eop] at hih
            exact hih
  have h00 := loop ks.length 0 (by omega)
  have e9 : (rpn (opG dt (fun _ => -4)) (enT I 135) (0, fun j => (I 137 j, I 138 j)) (ks.take 0)).2 = fun j => (I 137 j, I 138 j) := rfl
  rw [e9, wr2_self (by decide)] at h00
  exact h00

