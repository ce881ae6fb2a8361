/-! what a late wish touches -/
noncomputable def tch (V W : zVw) (m n : Nat) : Bool := decide (6 ≤ n) && (List.range m).any (fun x => tb V none x n != tb W none x n)
theorem tch_s (V W : zVw) (m n : Nat) : tch V W (m + 1) n = (tch V W m n || (decide (6 ≤ n) && (tb V none m n != tb W none m n))) := by
  unfold tch
  rw [List.range_succ, List.any_append]
  cases decide (6 ≤ n) <;> simp
theorem tch_mono {V W : zVw} {m n : Nat} : ∀ k, tch V W (m + k) n = (tch V W m n || (decide (6 ≤ n) && (List.range k).any (fun t => tb V none (m + t) n != tb W none (m + t) n)))
  | 0 => by simp
  | k + 1 => by
    rw [← Nat.add_assoc, tch_s, tch_mono k, List.range_succ, List.any_append]
    cases tch V W m n <;> cases decide (6 ≤ n) <;> simp
def mU (P Q : Nat → Bool) (n : Nat) : Nat := bm (fun k => if k < n then P k else Q k) 19
theorem mU_s {P Q : Nat → Bool} {n : Nat} {c : Bool} (hn : n < 19) (h : P n = (Q n || c)) : mU P Q (n + 1) = if c = true then mU P Q n ||| 2 ^ n else mU P Q n := by
  have hlt : mU P Q n < 2 ^ 19 := bm_lt _ _
  unfold mU at *
  by_cases hc : c = true
  · rw [if_pos hc]
    refine (bm_eq (Nat.or_lt_two_pow hlt (Nat.pow_lt_pow_right (by decide) hn)) (fun i hi => ?_)).symm
    rw [Nat.testBit_or, bm_test, Nat.testBit_two_pow]
    by_cases h1 : i = n
    · subst h1
      have h2 : i < i + 1 := by omega
      rw [if_pos h2, h, hc]; simp
    · have h3 : ¬ n = i := fun z => h1 z.symm
      have h4 : (i < n + 1) = (i < n) := by apply propext; omega
      simp [h3, h4, hi]
  · rw [if_neg hc]
    refine bm_cong (fun i hi => ?_)
    by_cases h1 : i = n
    · subst h1
      have : c = false := by simpa using hc
      rw [if_pos (by omega), if_neg (by omega), h, this, Bool.or_false]
    · have h4 : (i < n + 1) = (i < n) := by apply propext; omega
      simp only [h4]
theorem mU_lt {P Q : Nat → Bool} {n : Nat} : mU P Q n < 2 ^ 19 := bm_lt _ _
theorem mU_6 {V W : zVw} {a b : Nat} : mU (tch V W a) (tch V W b) 6 = bm (tch V W b) 19 := by
  refine bm_cong (fun i hi => ?_)
  by_cases h : i < 6
  · have h6 : decide (6 ≤ i) = false := decide_eq_false (by omega)
    rw [if_pos h]; unfold tch; rw [h6]; simp
  · rw [if_neg h]
theorem mU_19 {P Q : Nat → Bool} : mU P Q 19 = bm P 19 := bm_cong (fun i hi => by rw [if_pos hi])
noncomputable def tchS (V : zVw) (T : Nat → Nat) (l : Nat) : Int32 := if sdT T l then nI (bm (tch V (rdf T l 0 zr0).2 1024) 19) else -2
abbrev RX11_touched (zn d : Nat) (post : zP) : zK := zRun (zcal zty zcd false (d + 6)) kX11_touched (zLM zn) post
theorem eX11_touched {zn d : Nat} {post : zP} (I : Nat → Nat → Int32) (L : Nat → Nat → Int64) (h : RX11_touched zn d post 0 [some (.ref 5), none, none, none] [] (zSH zn, I, L)) : zcal zty zcd false (d + 7) 104 [.ref 5] (zSH zn, I, L) 0 0 post := zcal_of (d := d + 6) zmt104 zmc104 rfl (Nat.le_of_ble_eq_true rfl) h
theorem gX11_touched_0 {zn d : Nat} {post : zP} (I : Nat → Nat → Int32) (L : Nat → Nat → Int64) (h : (∃ (T2 : Nat → Nat) (l3 : Nat), (I 7 1 = nI l3) ∧ (l3 ≤ 200) ∧ (∀ i, i < l3 → T2 i < 256 ∧ I (7 + 1) i = nI (T2 i)) ∧ (∀ (J1 : Nat → Nat → Int32), (fr [26, 27, 28, 29, 30, 31, 32, 33] I J1 ∧ (sdT T2 l3 → ∃ os, cVw J1 27 (rdf T2 l3 0 zr0).2 os)) → ((sdT T2 l3) → RX11_touched zn d post 23 [some (.ref 5), some (.int (0 : Int32)), some (.int (0 : Int32)), none] [] (zSH zn, J1, L)) ∧ (¬ ((sdT T2 l3)) → post (some (.int (-2 : Int32))) (zSH zn, J1, L))))) : RX11_touched zn d post 0 [some (.ref 5), none, none, none] [] (zSH zn, I, L) := fun P hw hc => hc _ tX11_touched_0 _ _ _ (hc _ tX11_touched_1 _ _ _ (⟨_, _, sh5, (by decide), rfl, hc _ tX11_touched_4 _ _ _ (hc _ tX11_touched_5 _ _ _ (⟨_, _, sh5, (by decide), rfl, hc _ tX11_touched_8 _ _ _ (hc _ tX11_touched_9 _ _ _ (⟨_, _, _, sh6, (by decide), by decide, zvin (by decide), rfl, (by obtain ⟨T2, l3, hg4⟩ := h; exact hc _ tX11_touched_10 _ _ _ (⟨⟨_, _, _, rfl, (by decide), sh26⟩, ⟨Nat.le_of_ble_eq_true rfl, Nat.le_of_ble_eq_true rfl, zl1, zl2, _, ctX5_readsSound 7 I L T2 l3 isX7_7 hg4.1 hg4.2.1 hg4.2.2.1, fun r u k8 => by obtain ⟨J1, rfl, rfl, p5⟩ := k8; exact ⟨zl3, zl4, hc _ tX11_touched_13 _ _ _ (⟨fun c6 => hc _ tX11_touched_19 _ _ _ (hc _ tX11_touched_20 _ _ _ (hc _ tX11_touched_21 _ _ _ (hc _ tX11_touched_22 _ _ _ (((hg4.2.2.2 J1 p5).1 (zb_n c6)) P hw hc)))), fun c7 => hc _ tX11_touched_16 _ _ _ (hc _ tX11_touched_18 _ _ _ (⟨nofun, rfl, rfl, ((hg4.2.2.2 J1 p5).2 (zb_e c7))⟩))⟩)⟩⟩⟩))⟩))⟩))⟩))
theorem gX11_touched_23 {zn d : Nat} {post : zP} (x1 : Int32) (x2 : Int32) (I : Nat → Nat → Int32) (L : Nat → Nat → Int64) (h : ((16 : Int32) ≤ x2 → post (some (.int x1)) (zSH zn, I, L)) ∧ (¬ (16 : Int32) ≤ x2 → (∃ (V4 : zVw) (os5 : List Nat), (cEv I 12 V4 os5) ∧ (∀ (K3 : Nat → Nat → Int64), (evL L K3 37 V4 (bSt L x2)) → (∃ (V9 : zVw) (os10 : List Nat), (cEv I 27 V9 os10) ∧ (∀ (K8 : Nat → Nat → Int64), (evL K3 K8 43 V9 (bSt K3 x2)) → RX11_touched zn d post 61 [some (.ref 5), some (.int x1), some (.int x2), some (.int (6 : Int32))] [] (zSH zn, I, K8))))))) : RX11_touched zn d post 23 [some (.ref 5), some (.int x1), some (.int x2), none] [] (zSH zn, I, L) := fun P hw hc => hc _ tX11_touched_23 _ _ _ (hc _ tX11_touched_24 _ _ _ (hc _ tX11_touched_26 _ _ _ (⟨fun c1 => hc _ tX11_touched_104 _ _ _ (hc _ tX11_touched_105 _ _ _ (⟨nofun, rfl, rfl, (h.1 c1)⟩)), fun c2 => hc _ tX11_touched_29 _ _ _ (hc _ tX11_touched_30 _ _ _ (⟨_, _, sh5, (by decide), rfl, hc _ tX11_touched_33 _ _ _ (hc _ tX11_touched_34 _ _ _ (⟨_, _, sh5, (by decide), rfl, hc _ tX11_touched_37 _ _ _ (hc _ tX11_touched_38 _ _ _ (⟨_, _, _, sh11, (by decide), by decide, zvin (by decide), rfl, hc _ tX11_touched_39 _ _ _ ((by obtain ⟨V4, os5, hg6⟩ := (h.2 c2); exact hc _ tX11_touched_40 _ _ _ (⟨⟨_, _, _, rfl, (by decide), sh37⟩, ⟨Nat.le_of_ble_eq_true rfl, Nat.le_of_ble_eq_true rfl, zl1, zl2, _, ctX4_runState 37 12 x2 I L V4 os5 isX4_37 isX10_12 hg6.1, fun r u k14 => by obtain ⟨K3, rfl, rfl, p7⟩ := k14; exact ⟨zl3, zl4, hc _ tX11_touched_43 _ _ _ (hc _ tX11_touched_44 _ _ _ (⟨_, _, sh5, (by decide), rfl, hc _ tX11_touched_47 _ _ _ (hc _ tX11_touched_48 _ _ _ (⟨_, _, sh5, (by decide), rfl, hc _ tX11_touched_51 _ _ _ (⟨_, _, sh26, (by decide), rfl, hc _ tX11_touched_54 _ _ _ ((by obtain ⟨V9, os10, hg11⟩ := (hg6.2 K3 p7); exact hc _ tX11_touched_55 _ _ _ (⟨⟨_, _, _, rfl, (by decide), sh43⟩, ⟨Nat.le_of_ble_eq_true rfl, Nat.le_of_ble_eq_true rfl, zl1, zl2, _, ctX4_runState 43 27 x2 I K3 V9 os10 isX4_43 isX10_27 hg11.1, fun r u k13 => by obtain ⟨K8, rfl, rfl, p12⟩ := k13; exact ⟨zl3, zl4, hc _ tX11_touched_58 _ _ _ (hc _ tX11_touched_60 _ _ _ ((hg11.2 K8 p12) P hw hc))⟩⟩⟩)))⟩)⟩))⟩))⟩⟩⟩)))⟩))⟩))⟩))⟩)))
theorem gX11_touched_61 {zn d : Nat} {post : zP} (x1 : Int32) (x2 : Int32) (x3 : Int32) (I : Nat → Nat → Int32) (L : Nat → Nat → Int64) (h : ((19 : Int32) ≤ x3 → RX11_touched zn d post 23 [some (.ref 5), some (.int x1), some (.int (x2 + (1 : Int32))), none] [] (zSH zn, I, L)) ∧ (¬ (19 : Int32) ≤ x3 → ((lg_cmp (unl L 37 43 ((1 : Int32) <<< (x3 &&& 31)) 19) (0 : Int64)) = 0 → RX11_touched zn d post 61 [some (.ref 5), some (.int x1), some (.int x2), some (.int (x3 + (1 : Int32)))] [] (zSH zn, I, L)) ∧ (¬ (lg_cmp (unl L 37 43 ((1 : Int32) <<< (x3 &&& 31)) 19) (0 : Int64)) = 0 → RX11_touched zn d post 61 [some (.ref 5), some (.int (x1 ||| ((1 : Int32) <<< (x3 &&& 31)))), some (.int x2), some (.int (x3 + (1 : Int32)))] [] (zSH zn, I, L)))) : RX11_touched zn d post 61 [some (.ref 5), some (.int x1), some (.int x2), some (.int x3)] [] (zSH zn, I, L) := fun P hw hc => hc _ tX11_touched_61 _ _ _ (hc _ tX11_touched_62 _ _ _ (hc _ tX11_touched_64 _ _ _ (⟨fun c1 => hc _ tX11_touched_98 _ _ _ (hc _ tX11_touched_101 _ _ _ (hw _ _ _ _ _ (zwk_s (zwk_s (zwk_s (zwk_n zwk_nil)))) ((h.1 c1) P hw hc))), fun c2 => hc _ tX11_touched_67 _ _ _ (hc _ tX11_touched_68 _ _ _ (⟨_, _, sh5, (by decide), rfl, hc _ tX11_touched_71 _ _ _ (hc _ tX11_touched_72 _ _ _ (⟨_, _, sh5, (by decide), rfl, hc _ tX11_touched_75 _ _ _ (hc _ tX11_touched_76 _ _ _ (hc _ tX11_touched_77 _ _ _ (hc _ tX11_touched_78 _ _ _ (⟨⟨_, _, _, rfl, (by decide), sh37⟩, ⟨Nat.le_of_ble_eq_true rfl, Nat.le_of_ble_eq_true rfl, zl1, zl2, _, ctX4_unlike 37 43 ((1 : Int32) <<< (x3 &&& 31)) I L isX4_37 isX4_43, fun r u k5 => by obtain ⟨rfl, rfl⟩ := k5; exact ⟨zl3, zl4, hc _ tX11_touched_81 _ _ _ (hc _ tX11_touched_82 _ _ _ (hc _ tX11_touched_83 _ _ _ (⟨fun c3 => hc _ tX11_touched_92 _ _ _ (hc _ tX11_touched_95 _ _ _ (((h.2 c2).1 c3) P hw hc)), fun c4 => hc _ tX11_touched_86 _ _ _ (hc _ tX11_touched_87 _ _ _ (hc _ tX11_touched_88 _ _ _ (hc _ tX11_touched_89 _ _ _ (hc _ tX11_touched_90 _ _ _ (hc _ tX11_touched_91 _ _ _ (hc _ tX11_touched_92 _ _ _ (hc _ tX11_touched_95 _ _ _ (((h.2 c2).2 c4) P hw hc))))))))⟩)))⟩⟩⟩))))⟩))⟩))⟩)))
theorem ctX11_touched {zn d : Nat} (I : Nat → Nat → Int32) (L : Nat → Nat → Int64) (T : Nat → Nat) (l : Nat) (V : zVw) (os : List Nat) (q0 : txC I 0 T l) (q1 : cEv I 12 V os) (q2 : nSt L 37 ∧ nSt L 43) (q3 : inpL L) : zcal zty zcd false (d + 7) 104 [.ref 5] (zSH zn, I, L) 0 0 (fun r u => ∃ (J : Nat → Nat → Int32), ∃ (K : Nat → Nat → Int64), r = some (.int (tchS V T l)) ∧ u = (zSH zn, J, K) ∧ (fr [26, 27, 28, 29, 30, 31, 32, 33] I J ∧ fr [38, 39, 42, 44, 45, 48] L K)) := by
  obtain ⟨t1, t2, t3⟩ := q0
  refine eX11_touched I L (gX11_touched_0 I L ⟨T, l, t1, t2, t3, fun J ⟨j1, j2⟩ => ⟨fun h => ?_, fun h => ⟨J, L, by rw [tchS, if_neg h], rfl, j1, fr_rf⟩⟩⟩)
  obtain ⟨os2, ho⟩ := j2 h
  have c2 := cVw_ev ho
  generalize hW : (rdf T l 0 zr0).2 = W at c2
  have c1 : cEv J 12 V os := cEv_fr q1 (fun j hj => j1 _ (by simp only [List.mem_cons, List.not_mem_nil, or_false, not_or]; omega))
  have loop : ∀ s K, s ≤ 16 → fr [38, 39, 42, 44, 45, 48] L K → RX11_touched zn d (fun r u => ∃ (J : Nat → Nat → Int32), ∃ (K : Nat → Nat → Int64), r = some (.int (tchS V T l)) ∧ u = (zSH zn, J, K) ∧ (fr [26, 27, 28, 29, 30, 31, 32, 33] I J ∧ fr [38, 39, 42, 44, 45, 48] L K)) 23 [some (.ref 5), some (.int (nI (bm (tch V W (64 * s)) 19))), some (.int (nI s)), none] [] (zSH zn, J, K) := by
    refine zup (fun K hK => ?_) (fun s K hs hK ih => ?_)
    · exact gX11_touched_23 _ _ J K ⟨fun _ => ⟨J, K, by rw [tchS, if_pos h, hW], rfl, j1, hK⟩, fun hc => absurd (by decide) hc⟩
    · refine gX11_touched_23 _ _ J K ⟨fun hc => absurd hc (by rw [nl 16, nI_leI (by decide) (by omega)]; omega), fun _ => ⟨V, os, c1, fun K1 hK1 => ⟨W, os2, c2, fun K2 hK2 => ?_⟩⟩⟩
      have st37 : nSt K 37 := fun n hn => by rw [hK 40 (by decide), hK 41 (by decide)]; exact q2.1 n hn
      have st43 : nSt K1 43 := fun n hn => by rw [hK1.1 46 (by decide), hK1.1 47 (by decide), hK 46 (by decide), hK 47 (by decide)]; exact q2.2 n hn
      have in0 : inpL K := fun n hn => by rw [hK 1 (by decide)]; exact q3 n hn
      have in1 : inpL K1 := fun n hn => by rw [hK1.1 1 (by decide)]; exact in0 n hn
      have l0 := stL c1.1 (cEv_tw c1) st37 in0 hs hK1
      have l1 := stL c2.1 (cEv_tw c2) st43 in1 hs hK2
      have e39 : K2 39 = K1 39 := hK2.1 39 (by decide)
      have hfr : fr [38, 39, 42, 44, 45, 48] L K2 := fr_trans hK (fr_trans (fr_sub hK1.1 (by decide)) (fr_sub hK2.1 (by decide)))
      have hu : ∀ n, n < 19 → ∀ t, t < 64 → bt (unl K2 37 43 ((1 : Int32) <<< (nI n &&& 31)) 19) t = (tb V none (64 * s + t) n != tb W none (64 * s + t) n) := fun n n19 t ht => by
        rw [unl_1 n19, l0 t ht n n19, l1 t ht n n19, e39]
      have inner : ∀ n (u : Unit), n ≤ 19 → 6 ≤ n → RX11_touched zn d (fun r u => ∃ (J : Nat → Nat → Int32), ∃ (K : Nat → Nat → Int64), r = some (.int (tchS V T l)) ∧ u = (zSH zn, J, K) ∧ (fr [26, 27, 28, 29, 30, 31, 32, 33] I J ∧ fr [38, 39, 42, 44, 45, 48] L K)) 61 [some (.ref 5), some (.int (nI (mU (tch V W (64 * (s + 1))) (tch V W (64 * s)) n))), some (.int (nI s)), some (.int (nI n))] [] (zSH zn, J, K2) := by
        refine zup (fun u _ => ?_) (fun n u hn h6 ihn => ?_)
        · refine gX11_touched_61 _ _ _ J K2 ⟨fun _ => ?_, fun hc => absurd (by decide) hc⟩
          rw [mU_19, nI_1]
          exact ih K2 hfr
        · refine gX11_touched_61 _ _ _ J K2 ⟨fun hc => absurd hc (by rw [nl 19, nI_leI (by decide) (by omega)]; omega), fun _ => ?_⟩
          have hih := ihn u (by omega)
          rw [mU_s (c := (List.range 64).any (fun t => tb V none (64 * s + t) n != tb W none (64 * s + t) n)) hn (by
            rw [show 64 * (s + 1) = 64 * s + 64 by omega, tch_mono, decide_eq_true h6, Bool.true_and])] at hih
          rw [lg_cmp_eq, nI_1]
          refine ⟨fun hz => ?_, fun hz => ?_⟩
          · rw [if_neg] at hih
            · exact hih
            · intro ha
              rw [List.any_eq_true] at ha
              obtain ⟨t, ht, h2⟩ := ha
              have := hu n hn t (List.mem_range.mp ht)
              rw [hz, bt_0] at this
              rw [← this] at h2
              cases h2
          · rw [if_pos] at hih
            · rw [nI_shl1 (by omega), fa_or]; exact hih
            · refine Decidable.byContradiction fun ha => hz (bt_z (fun t ht => ?_))
              rw [hu n hn t ht]
              cases hb : (tb V none (64 * s + t) n != tb W none (64 * s + t) n) with
              | false => rfl
              | true => exact absurd (List.any_eq_true.mpr ⟨t, List.mem_range.mpr ht, hb⟩) ha
      have h6 := inner 6 () (by decide) (by decide)
      rw [mU_6] at h6
      exact h6
  have h0 := loop 0 L (by decide) fr_rf
  have e0 : bm (tch V W (64 * 0)) 19 = 0 := by
    rw [bm_cong (q := fun _ => false) (fun i _ => by unfold tch; simp)]; decide
  rw [e0] at h0
  exact h0
def rvT (I J : Nat → Nat → Int32) : Prop := fr [118, 119, 120, 121, 122, 123, 130, 131] I J ∧ ∀ u, u ≠ 2 → rvM I J u u
abbrev RX12_touched (zn d : Nat) (post : zP) : zK := zRun (zcal zty zcd false (d + 5)) kX12_touched (zLM zn) post
theorem eX12_touched {zn d : Nat} {post : zP} (I : Nat → Nat → Int32) (L : Nat → Nat → Int64) (h : RX12_touched zn d post 0 [some (.ref 115), none, none, none, none] [] (zSH zn, I, L)) : zcal zty zcd false (d + 6) 172 [.ref 115] (zSH zn, I, L) 0 0 post := zcal_of (d := d + 5) zmt172 zmc172 rfl (Nat.le_of_ble_eq_true rfl) h
theorem gX12_touched_0 {zn d : Nat} {post : zP} (I : Nat → Nat → Int32) (L : Nat → Nat → Int64) (h : (∃ (T2 : Nat → Nat) (l3 : Nat), (zs (0 : Int32) 1) ∧ (I 117 (tn (0 : Int32)) = nI l3) ∧ (l3 ≤ 200) ∧ (∀ i, i < l3 → T2 i < 256 ∧ I 116 (200 * tn (0 : Int32) + i) = nI (T2 i)) ∧ (∀ (J1 : Nat → Nat → Int32), (rvO I J1 ∧ (sdT T2 l3 → ∃ ps, rVw J1 2 (rdf T2 l3 0 zr0).2 ps)) → ((sdT T2 l3) → RX12_touched zn d post 15 [some (.ref 115), some (.int (0 : Int32)), some (.int (0 : Int32)), none, none] [] (zSH zn, J1, L)) ∧ (¬ ((sdT T2 l3)) → post (some (.int (-2 : Int32))) (zSH zn, J1, L))))) : RX12_touched zn d post 0 [some (.ref 115), none, none, none, none] [] (zSH zn, I, L) := fun P hw hc => hc _ tX12_touched_0 _ _ _ (hc _ tX12_touched_1 _ _ _ ((by obtain ⟨T2, l3, hg4⟩ := h; exact hc _ tX12_touched_2 _ _ _ (⟨⟨_, _, _, rfl, (by decide), sh115⟩, ⟨Nat.le_of_ble_eq_true rfl, Nat.le_of_ble_eq_true rfl, zl1, zl2, _, ctX12_reads (0 : Int32) I L T2 l3 hg4.1 hg4.2.1 hg4.2.2.1 hg4.2.2.2.1, fun r u k8 => by obtain ⟨J1, rfl, rfl, p5⟩ := k8; exact ⟨zl3, zl4, hc _ tX12_touched_5 _ _ _ (⟨fun c6 => hc _ tX12_touched_11 _ _ _ (hc _ tX12_touched_12 _ _ _ (hc _ tX12_touched_13 _ _ _ (hc _ tX12_touched_14 _ _ _ (((hg4.2.2.2.2 J1 p5).1 (zb_n c6)) P hw hc)))), fun c7 => hc _ tX12_touched_8 _ _ _ (hc _ tX12_touched_10 _ _ _ (⟨nofun, rfl, rfl, ((hg4.2.2.2.2 J1 p5).2 (zb_e c7))⟩))⟩)⟩⟩⟩))))
theorem gX12_touched_15 {zn d : Nat} {post : zP} (x1 : Int32) (x2 : Int32) (I : Nat → Nat → Int32) (L : Nat → Nat → Int64) (h : ((1024 : Int32) ≤ x2 → post (some (.int x1)) (zSH zn, I, L)) ∧ (¬ (1024 : Int32) ≤ x2 → (∃ (V4 : zVw) (os5 : List Nat), (zs (0 : Int32) 6) ∧ (rEv I (tn (0 : Int32)) V4 os5) ∧ (∀ (J3 : Nat → Nat → Int32), (rRow I J3 V4 x2) → RX12_touched zn d post 34 [some (.ref 115), some (.int x1), some (.int x2), some (.int (0 : Int32)), some (.int (6 : Int32))] [] (zSH zn, J3, L))))) : RX12_touched zn d post 15 [some (.ref 115), some (.int x1), some (.int x2), none, none] [] (zSH zn, I, L) := fun P hw hc => hc _ tX12_touched_15 _ _ _ (hc _ tX12_touched_16 _ _ _ (hc _ tX12_touched_19 _ _ _ (⟨fun c1 => hc _ tX12_touched_116 _ _ _ (hc _ tX12_touched_117 _ _ _ (⟨nofun, rfl, rfl, (h.1 c1)⟩)), fun c2 => hc _ tX12_touched_22 _ _ _ (hc _ tX12_touched_23 _ _ _ (hc _ tX12_touched_24 _ _ _ (hc _ tX12_touched_25 _ _ _ (hc _ tX12_touched_26 _ _ _ ((by obtain ⟨V4, os5, hg6⟩ := (h.2 c2); exact hc _ tX12_touched_27 _ _ _ (⟨⟨_, _, _, rfl, (by decide), sh115⟩, ⟨Nat.le_of_ble_eq_true rfl, Nat.le_of_ble_eq_true rfl, zl1, zl2, _, ctX12_layRow (0 : Int32) x2 I L V4 os5 hg6.1 hg6.2.1, fun r u k8 => by obtain ⟨J3, rfl, rfl, p7⟩ := k8; exact ⟨zl3, zl4, hc _ tX12_touched_30 _ _ _ (hc _ tX12_touched_32 _ _ _ ((hg6.2.2 J3 p7) P hw hc))⟩⟩⟩)))))))⟩)))
theorem gX12_touched_34 {zn d : Nat} {post : zP} (x1 : Int32) (x2 : Int32) (x3 : Int32) (x4 : Int32) (I : Nat → Nat → Int32) (L : Nat → Nat → Int64) (h : ((19 : Int32) ≤ x4 → (∃ (V4 : zVw) (os5 : List Nat), (zs (2 : Int32) 6) ∧ (rEv I (tn (2 : Int32)) V4 os5) ∧ (∀ (J3 : Nat → Nat → Int32), (rRow I J3 V4 x2) → RX12_touched zn d post 70 [some (.ref 115), some (.int x1), some (.int x2), some (.int x3), some (.int (6 : Int32))] [] (zSH zn, J3, L)))) ∧ (¬ (19 : Int32) ≤ x4 → (∃ (V10 : zVw), (okV V10) ∧ (rLn I (tn (0 : Int32)) V10) ∧ (zs (0 : Int32) 6) ∧ (zs x4 18) ∧ (∀ (M9 : Nat → Int32), RX12_touched zn d post 34 [some (.ref 115), some (.int x1), some (.int x2), some (.int (x3 ||| ((tolR I V10 (tn x4)) <<< (x4 &&& 31)))), some (.int (x4 + (1 : Int32)))] [] (zSH zn, (zrI I 131 M9), L))))) : RX12_touched zn d post 34 [some (.ref 115), some (.int x1), some (.int x2), some (.int x3), some (.int x4)] [] (zSH zn, I, L) := fun P hw hc => hc _ tX12_touched_34 _ _ _ (hc _ tX12_touched_36 _ _ _ (hc _ tX12_touched_38 _ _ _ (⟨fun c1 => hc _ tX12_touched_60 _ _ _ (hc _ tX12_touched_61 _ _ _ (hc _ tX12_touched_62 _ _ _ ((by obtain ⟨V4, os5, hg6⟩ := (h.1 c1); exact hc _ tX12_touched_63 _ _ _ (⟨⟨_, _, _, rfl, (by decide), sh115⟩, ⟨Nat.le_of_ble_eq_true rfl, Nat.le_of_ble_eq_true rfl, zl1, zl2, _, ctX12_layRow (2 : Int32) x2 I L V4 os5 hg6.1 hg6.2.1, fun r u k8 => by obtain ⟨J3, rfl, rfl, p7⟩ := k8; exact ⟨zl3, zl4, hc _ tX12_touched_66 _ _ _ (hc _ tX12_touched_68 _ _ _ ((hg6.2.2 J3 p7) P hw hc))⟩⟩⟩))))), fun c2 => hc _ tX12_touched_41 _ _ _ (hc _ tX12_touched_42 _ _ _ (hc _ tX12_touched_43 _ _ _ (hc _ tX12_touched_44 _ _ _ ((by obtain ⟨V10, hg11⟩ := (h.2 c2); exact hc _ tX12_touched_46 _ _ _ (⟨⟨_, _, _, rfl, (by decide), sh115⟩, ⟨Nat.le_of_ble_eq_true rfl, Nat.le_of_ble_eq_true rfl, zl1, zl2, _, ctX12_told (0 : Int32) x4 I L V10 hg11.1 hg11.2.1 hg11.2.2.1 hg11.2.2.2.1, fun r u k12 => by obtain ⟨M9, rfl, rfl⟩ := k12; exact ⟨zl3, zl4, hc _ tX12_touched_49 _ _ _ (hc _ tX12_touched_51 _ _ _ (hc _ tX12_touched_52 _ _ _ (hc _ tX12_touched_53 _ _ _ (hc _ tX12_touched_54 _ _ _ (hc _ tX12_touched_57 _ _ _ ((hg11.2.2.2.2 M9) P hw hc))))))⟩⟩⟩))))))⟩)))
theorem gX12_touched_70 {zn d : Nat} {post : zP} (x1 : Int32) (x2 : Int32) (x3 : Int32) (x4 : Int32) (I : Nat → Nat → Int32) (L : Nat → Nat → Int64) (h : ((19 : Int32) ≤ x4 → RX12_touched zn d post 15 [some (.ref 115), some (.int x1), some (.int (x2 + (1 : Int32))), none, none] [] (zSH zn, I, L)) ∧ (¬ (19 : Int32) ≤ x4 → (∃ (V4 : zVw), (okV V4) ∧ (rLn I (tn (2 : Int32)) V4) ∧ (zs (2 : Int32) 6) ∧ (zs x4 18) ∧ (∀ (M3 : Nat → Int32), ((tolR I V4 (tn x4)) = ((x3 >>> (x4 &&& 31)) &&& (1 : Int32)) → RX12_touched zn d post 70 [some (.ref 115), some (.int (x1 ||| (0 : Int32))), some (.int x2), some (.int x3), some (.int (x4 + (1 : Int32)))] [] (zSH zn, (zrI I 131 M3), L)) ∧ (¬ (tolR I V4 (tn x4)) = ((x3 >>> (x4 &&& 31)) &&& (1 : Int32)) → RX12_touched zn d post 70 [some (.ref 115), some (.int (x1 ||| ((1 : Int32) <<< (x4 &&& 31)))), some (.int x2), some (.int x3), some (.int (x4 + (1 : Int32)))] [] (zSH zn, (zrI I 131 M3), L)))))) : RX12_touched zn d post 70 [some (.ref 115), some (.int x1), some (.int x2), some (.int x3), some (.int x4)] [] (zSH zn, I, L) := fun P hw hc => hc _ tX12_touched_70 _ _ _ (hc _ tX12_touched_72 _ _ _ (hc _ tX12_touched_74 _ _ _ (⟨fun c1 => hc _ tX12_touched_110 _ _ _ (hc _ tX12_touched_113 _ _ _ (hw _ _ _ _ _ (zwk_s (zwk_s (zwk_s (zwk_n (zwk_n zwk_nil))))) ((h.1 c1) P hw hc))), fun c2 => hc _ tX12_touched_77 _ _ _ (hc _ tX12_touched_78 _ _ _ (hc _ tX12_touched_79 _ _ _ (hc _ tX12_touched_80 _ _ _ ((by obtain ⟨V4, hg5⟩ := (h.2 c2); exact hc _ tX12_touched_82 _ _ _ (⟨⟨_, _, _, rfl, (by decide), sh115⟩, ⟨Nat.le_of_ble_eq_true rfl, Nat.le_of_ble_eq_true rfl, zl1, zl2, _, ctX12_told (2 : Int32) x4 I L V4 hg5.1 hg5.2.1 hg5.2.2.1 hg5.2.2.2.1, fun r u k8 => by obtain ⟨M3, rfl, rfl⟩ := k8; exact ⟨zl3, zl4, hc _ tX12_touched_85 _ _ _ (hc _ tX12_touched_86 _ _ _ (hc _ tX12_touched_88 _ _ _ (hc _ tX12_touched_89 _ _ _ (hc _ tX12_touched_90 _ _ _ (hc _ tX12_touched_91 _ _ _ (⟨fun c6 => hc _ tX12_touched_101 _ _ _ (hc _ tX12_touched_102 _ _ _ (hc _ tX12_touched_103 _ _ _ (hc _ tX12_touched_104 _ _ _ (hc _ tX12_touched_107 _ _ _ (((hg5.2.2.2.2 M3).1 c6) P hw hc))))), fun c7 => hc _ tX12_touched_94 _ _ _ (hc _ tX12_touched_95 _ _ _ (hc _ tX12_touched_97 _ _ _ (hc _ tX12_touched_98 _ _ _ (hc _ tX12_touched_102 _ _ _ (hc _ tX12_touched_103 _ _ _ (hc _ tX12_touched_104 _ _ _ (hc _ tX12_touched_107 _ _ _ (((hg5.2.2.2.2 M3).2 c7) P hw hc))))))))⟩))))))⟩⟩⟩))))))⟩)))
theorem ctX12_touched {zn d : Nat} (I : Nat → Nat → Int32) (L : Nat → Nat → Int64) (T : Nat → Nat) (l : Nat) (V : zVw) (ps : List Nat) (q0 : txR I 0 T l) (q1 : rVw I 0 V ps) (q2 : I 115 18 = -4) : zcal zty zcd false (d + 6) 172 [.ref 115] (zSH zn, I, L) 0 0 (fun r u => ∃ (J : Nat → Nat → Int32), r = some (.int (tchS V T l)) ∧ u = (zSH zn, J, L) ∧ (rvT I J)) := by
  have t0 : tn (0 : Int32) = 0 := by decide
  have z0 : zs (0 : Int32) 6 := ⟨0, by decide, by decide⟩
  have e2 : tn (2 : Int32) = 2 := by decide
  have z2 : zs (2 : Int32) 6 := ⟨2, by decide, by decide⟩
  obtain ⟨t1, t2, t3⟩ := q0
  refine eX12_touched I L (gX12_touched_0 I L ⟨T, l, ⟨0, by decide, by decide⟩, by rw [t0]; exact t1, t2, by rw [t0]; exact t3, fun J ⟨j1, j2⟩ => ⟨fun h => ?_, fun h => ⟨J, by rw [tchS, if_neg h], rfl, fr_sub j1.1 (by decide), j1.2⟩⟩⟩)
  obtain ⟨ps2, ho⟩ := j2 h
  have c2 := rVw_ev ho
  generalize hW : (rdf T l 0 zr0).2 = W at c2
  have c1 : rEv J 0 V ps := rVw_ev (rvM_vw (j1.2 0 (by decide)) q1)
  have hq : J 115 18 = -4 := by rw [j1.1 115 (by decide)]; exact q2
  have fin : ∀ K, fr [130, 131] J K → rvT I K := fun K hK => ⟨fr_trans (fr_sub j1.1 (by decide)) (fr_sub hK (by decide)), fun u hu => rvM_t (j1.2 u hu) (rvM_fr (hK 118 (by decide)) (hK 119 (by decide)) (hK 120 (by decide)) (hK 121 (by decide)) (hK 122 (by decide)) (hK 123 (by decide)))⟩
  have loop : ∀ x K, x ≤ 1024 → fr [130, 131] J K → RX12_touched zn d (fun r u => ∃ (J : Nat → Nat → Int32), r = some (.int (tchS V T l)) ∧ u = (zSH zn, J, L) ∧ (rvT I J)) 15 [some (.ref 115), some (.int (nI (bm (tch V W x) 19))), some (.int (nI x)), none, none] [] (zSH zn, K, L) := by
    refine zup (fun K hK => ?_) (fun x K hx hK ih => ?_)
    · exact gX12_touched_15 _ _ K L ⟨fun _ => ⟨K, by rw [tchS, if_pos h, hW], rfl, fin K hK⟩, fun hc => absurd (by decide) hc⟩
    · have k1 := rEv_fr c1 hK
      have hqK : K 115 18 = -4 := by rw [hK 115 (by decide)]; exact hq
      refine gX12_touched_15 _ _ K L ⟨fun hc => absurd hc (by rw [nl 1024, nI_leI (by decide) (by omega)]; omega), fun _ => ⟨V, ps, z0, by rw [t0]; exact k1, fun K1 hK1 => ?_⟩⟩
      have told1 : ∀ n, n < 19 → tolR K1 V n = tri (tb V none x n) := fun n hn => toldB k1.1 (rEv_tw k1) (by omega) hK1 hqK hn
      have inner2 : ∀ (K3 : Nat → Nat → Int32) n K4, n ≤ 19 → (6 ≤ n ∧ fr [131] K3 K4 ∧ fr [130, 131] J K3 ∧ ∀ m, m < 19 → tolR K3 W m = tri (tb W none x m)) → RX12_touched zn d (fun r u => ∃ (J : Nat → Nat → Int32), r = some (.int (tchS V T l)) ∧ u = (zSH zn, J, L) ∧ (rvT I J)) 70 [some (.ref 115), some (.int (nI (mU (tch V W (x + 1)) (tch V W x) n))), some (.int (nI x)), some (.int (nI (bm (fun k => decide (6 ≤ k) && tb V none x k) 19))), some (.int (nI n))] [] (zSH zn, K4, L) := by
        intro K3
        refine zup (fun K4 h4 => ?_) (fun n K4 hn h4 ihn => ?_)
        · refine gX12_touched_70 _ _ _ _ K4 L ⟨fun _ => ?_, fun hc => absurd (by decide) hc⟩
          rw [mU_19, nI_1]
          exact ih K4 (fr_trans h4.2.2.1 (fr_sub h4.2.1 (by decide)))
        · obtain ⟨h6, f4, f3, told2⟩ := h4
          have fr4 : fr [130, 131] J K4 := fr_trans f3 (fr_sub f4 (by decide))
          have k4 := rEv_fr c2 fr4
          have ht : tolR K4 W n = tolR K3 W n := by
            unfold tolR usR
            rw [f4 130 (by decide), f4 115 (by decide)]
          have tnn : tn (nI n) = n := tn_nI (by omega)
          have hbt : (nI (bm (fun k => decide (6 ≤ k) && tb V none x k) 19) >>> (nI n &&& 31)) &&& 1 = tri (tb V none x n) := by
            have := bit_n (x := bm (fun k => decide (6 ≤ k) && tb V none x k) 19) (j := n) (by have := bm_lt (fun k => decide (6 ≤ k) && tb V none x k) 19; omega) (by omega)
            unfold bit at this
            rw [this, bm_test, decide_eq_true hn, decide_eq_true h6]; simp
          refine gX12_touched_70 _ _ _ _ K4 L ⟨fun hc => absurd hc (by rw [nl 19, nI_leI (by decide) (by omega)]; omega), fun _ => ⟨W, k4.1, by rw [e2]; exact k4.2.1, z2, ⟨n, by omega, rfl⟩, fun M => ?_⟩⟩
          rw [tnn, ht, told2 n hn, hbt, tri_inj, or_0, nI_1]
          have hih := ihn (zrI K4 131 M) ⟨by omega, zrI_fr f4 (by decide), f3, told2⟩
          rw [mU_s (c := (tb V none x n != tb W none x n)) hn (by rw [tch_s, decide_eq_true h6, Bool.true_and])] at hih
          refine ⟨fun he => ?_, fun he => ?_⟩
          · rw [if_neg (by rw [he]; simp)] at hih
            exact hih
          · rw [if_pos (by
              cases h1 : tb V none x n <;> cases h2 : tb W none x n <;> simp_all)] at hih
            rw [nI_shl1 (by omega), fa_or]; exact hih
      have inner1 : ∀ n K2, n ≤ 19 → (6 ≤ n ∧ fr [131] K1 K2) → RX12_touched zn d (fun r u => ∃ (J : Nat → Nat → Int32), r = some (.int (tchS V T l)) ∧ u = (zSH zn, J, L) ∧ (rvT I J)) 34 [some (.ref 115), some (.int (nI (bm (tch V W x) 19))), some (.int (nI x)), some (.int (nI (bm (fun k => decide (6 ≤ k) && tb V none x k) n))), some (.int (nI n))] [] (zSH zn, K2, L) := by
        refine zup (fun K2 h2 => ?_) (fun n K2 hn h2 ihn => ?_)
        · have fr2 : fr [130, 131] J K2 := fr_trans hK (fr_trans hK1.1 (fr_sub h2.2 (by decide)))
          have k2 := rEv_fr c2 fr2
          have hq2 : K2 115 18 = -4 := by rw [fr2 115 (by decide)]; exact hq
          refine gX12_touched_34 _ _ _ _ K2 L ⟨fun _ => ⟨W, ps2, z2, by rw [e2]; exact k2, fun K3 hK3 => ?_⟩, fun hc => absurd (by decide) hc⟩
          have h6 := inner2 K3 6 K3 (by decide) ⟨by decide, fr_rf, fr_trans fr2 hK3.1, fun m hm => toldB k2.1 (rEv_tw k2) (by omega) hK3 hq2 hm⟩
          rw [mU_6] at h6
          exact h6
        · obtain ⟨h6, f2⟩ := h2
          have fr2 : fr [130, 131] J K2 := fr_trans hK (fr_trans hK1.1 (fr_sub f2 (by decide)))
          have k2 := rEv_fr c1 fr2
          have tnn : tn (nI n) = n := tn_nI (by omega)
          have ht : tolR K2 V n = tolR K1 V n := by
            unfold tolR usR
            rw [f2 130 (by decide), f2 115 (by decide)]
          refine gX12_touched_34 _ _ _ _ K2 L ⟨fun hc => absurd hc (by rw [nl 19, nI_leI (by decide) (by omega)]; omega), fun _ => ⟨V, k2.1, by rw [t0]; exact k2.2.1, z0, ⟨n, by omega, rfl⟩, fun M => ?_⟩⟩
          have hb := bm_or1 (p := fun k => decide (6 ≤ k) && tb V none x k) (r := n) (by omega)
          rw [decide_eq_true h6, Bool.true_and] at hb
          rw [tnn, ht, told1 n hn, hb, nI_1]
          exact ihn _ ⟨by omega, zrI_fr f2 (by decide)⟩
      have h6 := inner1 6 K1 (by decide) ⟨by decide, fr_rf⟩
      have e0 : bm (fun k => decide (6 ≤ k) && tb V none x k) 6 = 0 := by
        rw [bm_cong (q := fun _ => false) (fun i hi => by rw [decide_eq_false (by omega)]; rfl)]; decide
      rw [e0] at h6
      exact h6
  have h0 := loop 0 J (by decide) fr_rf
  have e0 : bm (tch V W 0) 19 = 0 := by
    rw [bm_cong (q := fun _ => false) (fun i _ => by unfold tch; simp)]; decide
  rw [e0] at h0
  exact h0

