/-! COULD be -/
def snO (I : Nat → Nat → Int32) (c N : Nat) (sn : Nat → Int32) : Prop := ∀ i, i < N → I c i = sn i ∧ (sn i = -1 ∨ ∃ F, sn i = nI F ∧ okF F)
/-- FAILS are just what is SEEN -/
def isC (V : zVw) (e : Nat) (ro : Nat → Nat) (sn : Nat → Int32) (n t : Nat) : Prop := ∀ i, i < n → sn i = -1 ∨ nI (FM V e t (ro i)) = sn i
abbrev RX9_thatCouldBe (zn d : Nat) (post : zP) : zK := zRun (zcal zty zcd false (d + 5)) kX9_thatCouldBe (zLM zn) post
theorem eX9_thatCouldBe {zn d : Nat} {post : zP} (k1 : Nat) (x2 : Int32) (I : Nat → Nat → Int32) (L : Nat → Nat → Int64) (h1 : isX10 k1) (h : RX9_thatCouldBe zn d post 0 [some (.ref 73), some (.ref k1), some (.int x2), none, none, none] [] (zSH zn, I, L)) : zcal zty zcd false (d + 6) 76 [.ref 73, .ref k1, .int x2] (zSH zn, I, L) 0 0 post := zcal_of (d := d + 5) zmt76 zmc76 rfl (Nat.le_of_ble_eq_true rfl) h
theorem gX9_thatCouldBe_0 {zn d : Nat} {post : zP} (k1 : Nat) (x2 : Int32) (I : Nat → Nat → Int32) (L : Nat → Nat → Int64) (h1 : isX10 k1) (h : RX9_thatCouldBe zn d post 7 [some (.ref 73), some (.ref k1), some (.int x2), some (.long (549755813887 : Int64)), none, some (.int (0 : Int32))] [] (zSH zn, I, L)) : RX9_thatCouldBe zn d post 0 [some (.ref 73), some (.ref k1), some (.int x2), none, none, none] [] (zSH zn, I, L) := fun P hw hc => hc _ tX9_thatCouldBe_0 _ _ _ (hc _ tX9_thatCouldBe_3 _ _ _ (hc _ tX9_thatCouldBe_4 _ _ _ (hc _ tX9_thatCouldBe_5 _ _ _ (h P hw hc))))
theorem gX9_thatCouldBe_7 {zn d : Nat} {post : zP} (k1 : Nat) (x2 : Int32) (x3 : Int64) (x5 : Int32) (I : Nat → Nat → Int32) (L : Nat → Nat → Int64) (h1 : isX10 k1) (h : ((I 73 2) ≤ x5 → post (some (.long x3)) (zSH zn, I, L)) ∧ (¬ (I 73 2) ≤ x5 → vp_in x5 10 ∧ (((I 75 (x5).toNatClampNeg) = (-1 : Int32) → RX9_thatCouldBe zn d post 7 [some (.ref 73), some (.ref k1), some (.int x2), some (.long x3), none, some (.int (x5 + (1 : Int32)))] [] (zSH zn, I, L)) ∧ (¬ (I 75 (x5).toNatClampNeg) = (-1 : Int32) → (∃ (V6 : zVw) (os7 : List Nat) (e8 : Nat) (x9 : Nat), (cVw I k1 V6 os7) ∧ (x2 = nI e8 ∧ e8 < 2 ^ 19) ∧ ((I 74 (x5).toNatClampNeg) = nI x9 ∧ x9 < 1024) ∧ (stkE L 77) ∧ (∀ (K5 : Nat → Nat → Int64), (fr [78, 79, 82, 83] L K5 ∧ mdL K5 V6 e8 x9) → (∃ (V13 : zVw) (e14 : Nat) (x15 : Nat) (F16 : Nat), (okV V13) ∧ (mdL K5 V13 e14 x15) ∧ ((I 75 (x5).toNatClampNeg) = nI F16 ∧ okF F16) ∧ (∀ (v12 : Int64), (∀ t, t < 64 → (bt v12 t = true ↔ t < 39 ∧ FM V13 e14 t x15 = F16)) → RX9_thatCouldBe zn d post 7 [some (.ref 73), some (.ref k1), some (.int x2), some (.long (x3 &&& v12)), none, some (.int (x5 + (1 : Int32)))] [] (zSH zn, I, K5))))))))) : RX9_thatCouldBe zn d post 7 [some (.ref 73), some (.ref k1), some (.int x2), some (.long x3), none, some (.int x5)] [] (zSH zn, I, L) := fun P hw hc => hc _ tX9_thatCouldBe_7 _ _ _ (hc _ tX9_thatCouldBe_9 _ _ _ (hc _ tX9_thatCouldBe_10 _ _ _ (⟨_, sh73, (by decide), hc _ tX9_thatCouldBe_13 _ _ _ (⟨fun c1 => hc _ tX9_thatCouldBe_60 _ _ _ (hc _ tX9_thatCouldBe_61 _ _ _ (⟨rfl, rfl, (h.1 c1)⟩)), fun c2 => hc _ tX9_thatCouldBe_16 _ _ _ (hc _ tX9_thatCouldBe_17 _ _ _ (⟨_, _, sh73, (by decide), rfl, hc _ tX9_thatCouldBe_20 _ _ _ (hc _ tX9_thatCouldBe_22 _ _ _ (⟨_, _, _, sh75, Or.inl ⟨rfl, (by decide)⟩, (h.2 c2).1, hc _ tX9_thatCouldBe_23 _ _ _ (hc _ tX9_thatCouldBe_24 _ _ _ (⟨fun c3 => hc _ tX9_thatCouldBe_54 _ _ _ (hc _ tX9_thatCouldBe_57 _ _ _ (((h.2 c2).2.1 c3) P hw hc)), fun c4 => hc _ tX9_thatCouldBe_27 _ _ _ (hc _ tX9_thatCouldBe_28 _ _ _ (hc _ tX9_thatCouldBe_29 _ _ _ (hc _ tX9_thatCouldBe_30 _ _ _ (hc _ tX9_thatCouldBe_31 _ _ _ (⟨_, _, sh73, (by decide), rfl, hc _ tX9_thatCouldBe_34 _ _ _ (hc _ tX9_thatCouldBe_36 _ _ _ (⟨_, _, _, sh74, Or.inl ⟨rfl, (by decide)⟩, (h.2 c2).1, (by obtain ⟨V6, os7, e8, x9, hg10⟩ := ((h.2 c2).2.2 c4); exact hc _ tX9_thatCouldBe_37 _ _ _ (⟨⟨_, _, _, rfl, (by decide), sh73⟩, ⟨Nat.le_of_ble_eq_true rfl, Nat.le_of_ble_eq_true rfl, zl1, zl2, _, ctX9_make k1 x2 (I 74 (x5).toNatClampNeg) I L V6 os7 e8 x9 h1 hg10.1 hg10.2.1 hg10.2.2.1 hg10.2.2.2.1, fun r u k20 => by obtain ⟨K5, rfl, rfl, p11⟩ := k20; exact ⟨zl3, zl4, hc _ tX9_thatCouldBe_40 _ _ _ (hc _ tX9_thatCouldBe_41 _ _ _ (hc _ tX9_thatCouldBe_42 _ _ _ (hc _ tX9_thatCouldBe_43 _ _ _ (⟨_, _, sh73, (by decide), rfl, hc _ tX9_thatCouldBe_46 _ _ _ (hc _ tX9_thatCouldBe_48 _ _ _ (⟨_, _, _, sh75, Or.inl ⟨rfl, (by decide)⟩, (h.2 c2).1, (by obtain ⟨V13, e14, x15, F16, hg17⟩ := (hg10.2.2.2.2 K5 p11); exact hc _ tX9_thatCouldBe_49 _ _ _ (⟨⟨_, _, _, rfl, (by decide), sh73⟩, ⟨Nat.le_of_ble_eq_true rfl, Nat.le_of_ble_eq_true rfl, zl1, zl2, _, ctX9_lanesFailing (I 75 (x5).toNatClampNeg) I K5 V13 e14 x15 F16 hg17.1 hg17.2.1 hg17.2.2.1, fun r u k19 => by obtain ⟨v12, rfl, rfl, p18⟩ := k19; exact ⟨zl3, zl4, hc _ tX9_thatCouldBe_52 _ _ _ (hc _ tX9_thatCouldBe_53 _ _ _ (hc _ tX9_thatCouldBe_54 _ _ _ (hc _ tX9_thatCouldBe_57 _ _ _ ((hg17.2.2.2 v12 p18) P hw hc))))⟩⟩⟩))⟩))⟩))))⟩⟩⟩))⟩))⟩)))))⟩))⟩))⟩))⟩)⟩)))
theorem ctX9_thatCouldBe {zn d : Nat} (k1 : Nat) (x2 : Int32) (I : Nat → Nat → Int32) (L : Nat → Nat → Int64) (V : zVw) (os : List Nat) (e : Nat) (N : Nat) (ro : Nat → Nat) (sn : Nat → Int32) (h1 : isX10 k1) (q0 : cVw I k1 V os) (q1 : x2 = nI e ∧ e < 2 ^ 19) (q2 : I 73 2 = nI N ∧ N ≤ 10) (q3 : trO I 74 N ro) (q4 : snO I 75 N sn) (q5 : stkE L 77) : zcal zty zcd false (d + 6) 76 [.ref 73, .ref k1, .int x2] (zSH zn, I, L) 0 0 (fun r u => ∃ (K : Nat → Nat → Int64), ∃ (v : Int64), r = some (.long v) ∧ u = (zSH zn, I, K) ∧ (fr [78, 79, 82, 83] L K ∧ ∀ t, t < 64 → (bt v t = true ↔ t < 39 ∧ isC V e ro sn N t))) := by
  obtain ⟨rfl, he⟩ := q1
  obtain ⟨eN, hN⟩ := q2
  have loop : ∀ n (p : (Nat → Nat → Int64) × Int64), n ≤ N → (fr [78, 79, 82, 83] L p.1 ∧ ∀ t, t < 64 → (bt p.2 t = true ↔ t < 39 ∧ isC V e ro sn n t)) → RX9_thatCouldBe zn d (fun r u => ∃ (K : Nat → Nat → Int64), ∃ (v : Int64), r = some (.long v) ∧ u = (zSH zn, I, K) ∧ (fr [78, 79, 82, 83] L K ∧ ∀ t, t < 64 → (bt v t = true ↔ t < 39 ∧ isC V e ro sn N t))) 7 [some (.ref 73), some (.ref k1), some (.int (nI e)), some (.long p.2), none, some (.int (nI n))] [] (zSH zn, I, p.1) := by
    refine zup (fun p hp => ?_) (fun n p hn hp ih => ?_)
    · obtain ⟨K, v⟩ := p
      exact gX9_thatCouldBe_7 _ _ _ _ I K h1 ⟨fun _ => ⟨K, v, rfl, rfl, hp⟩, fun hc => absurd (by rw [eN, nI_leI (by omega) (by omega)]; exact Nat.le_refl _) hc⟩
    · obtain ⟨K, v⟩ := p
      obtain ⟨f1, f3⟩ := hp
      dsimp only at f1 f3
      have hs := q4 n hn
      have isC_s : ∀ t, isC V e ro sn (n + 1) t ↔ isC V e ro sn n t ∧ (sn n = -1 ∨ nI (FM V e t (ro n)) = sn n) := fun t => by
        constructor
        · intro h; exact ⟨fun i hi => h i (by omega), h n (by omega)⟩
        · rintro ⟨h, h2⟩ i hi
          by_cases hin : i = n
          · subst hin; exact h2
          · exact h i (by omega)
      refine gX9_thatCouldBe_7 _ _ _ _ I K h1 ⟨fun hc => absurd hc (by rw [eN, nI_leI (by omega) (by omega)]; omega), fun _ => ⟨vin_nI (by omega) (by omega), ?_⟩⟩
      rw [nI_clamp (by omega), hs.1, nI_1]
      refine ⟨fun hz => ih (K, v) ⟨f1, fun t ht => ?_⟩, fun hz => ⟨V, os, e, ro n, q0, ⟨rfl, he⟩, q3 n hn, fun m hm => by rw [f1 80 (by decide), f1 81 (by decide)]; exact q5 m hm, fun K1 ⟨k1, k2⟩ => ?_⟩⟩
      · dsimp only
        rw [f3 t ht, isC_s t]
        exact ⟨fun z => ⟨z.1, z.2, Or.inl hz⟩, fun z => ⟨z.1, z.2.1⟩⟩
      · obtain ⟨F, eF, oF⟩ := hs.2.resolve_left hz
        refine ⟨V, e, ro n, F, q0.1.1, k2, ⟨eF, oF⟩, fun w hw => ih (K1, v &&& w) ⟨fr_trans f1 k1, fun t ht => ?_⟩⟩
        dsimp only
        rw [bt_and, Bool.and_eq_true, f3 t ht, hw t ht, isC_s t]
        have hlt := FM_lt V e t (ro n)
        constructor
        · rintro ⟨⟨a, b⟩, _, c⟩; exact ⟨a, b, Or.inr (by rw [c, eF])⟩
        · rintro ⟨a, b, c⟩
          refine ⟨⟨a, b⟩, a, ?_⟩
          rcases c with c | c
          · exact absurd c hz
          · rw [eF] at c; exact nI_inj (by omega) (by have := oF.1; omega) c
  exact eX9_thatCouldBe _ _ I L h1 (gX9_thatCouldBe_0 _ _ I L h1 (loop 0 (L, 549755813887) (Nat.zero_le _) ⟨fr_rf, fun t ht => by
    dsimp only
    rw [all39 t ht, decide_eq_true_iff]
    exact ⟨fun z => ⟨z, fun i hi => absurd hi (by omega)⟩, fun z => z.1⟩⟩))
abbrev RX12_failsAt (zn d : Nat) (post : zP) : zK := zRun (zcal zty zcd false (d + 7)) kX12_failsAt (zLM zn) post
theorem eX12_failsAt {zn d : Nat} {post : zP} (x1 : Int32) (x2 : Int32) (I : Nat → Nat → Int32) (L : Nat → Nat → Int64) (h : RX12_failsAt zn d post 0 [some (.ref 115), some (.int x1), some (.int x2)] [] (zSH zn, I, L)) : zcal zty zcd false (d + 8) 207 [.ref 115, .int x1, .int x2] (zSH zn, I, L) 0 0 post := zcal_of (d := d + 7) zmt207 zmc207 rfl (Nat.le_of_ble_eq_true rfl) h
theorem gX12_failsAt_0 {zn d : Nat} {post : zP} (x1 : Int32) (x2 : Int32) (I : Nat → Nat → Int32) (L : Nat → Nat → Int64) (h : (¬ x1 = (38 : Int32) → vp_in x2 10 ∧ ((∃ (V4 : zVw) (ps5 : List Nat) (e6 : Nat) (f7 : Nat) (x8 : Nat), (rEv I 1 V4 ps5) ∧ (I 126 0 = nI e6 ∧ e6 < 2 ^ 19) ∧ (I 115 18 = -4) ∧ (x1 = nI f7 ∧ f7 < 38) ∧ ((I 143 (x2).toNatClampNeg) = nI x8 ∧ x8 < 1024) ∧ (∀ (J3 : Nat → Nat → Int32), (fr [115, 130, 131] I J3 ∧ ∀ s, s ≠ 19 → J3 115 s = I 115 s) → post (some (.int (nI (FM V4 e6 f7 x8)))) (zSH zn, J3, L))))) ∧ (x1 = (38 : Int32) → post (some (.int (0 : Int32))) (zSH zn, I, L))) : RX12_failsAt zn d post 0 [some (.ref 115), some (.int x1), some (.int x2)] [] (zSH zn, I, L) := fun P hw hc => hc _ tX12_failsAt_0 _ _ _ (hc _ tX12_failsAt_1 _ _ _ (hc _ tX12_failsAt_3 _ _ _ (⟨fun c1 => hc _ tX12_failsAt_10 _ _ _ (hc _ tX12_failsAt_11 _ _ _ (hc _ tX12_failsAt_12 _ _ _ (hc _ tX12_failsAt_13 _ _ _ (⟨_, _, sh115, (by decide), rfl, hc _ tX12_failsAt_16 _ _ _ (hc _ tX12_failsAt_17 _ _ _ (⟨_, _, _, sh143, Or.inl ⟨rfl, (by decide)⟩, (h.1 c1).1, (by obtain ⟨V4, ps5, e6, f7, x8, hg9⟩ := (h.1 c1).2; exact hc _ tX12_failsAt_18 _ _ _ (⟨⟨_, _, _, rfl, (by decide), sh115⟩, ⟨Nat.le_of_ble_eq_true rfl, Nat.le_of_ble_eq_true rfl, zl1, zl2, _, ctX12_failsOf x1 (I 143 (x2).toNatClampNeg) I L V4 ps5 e6 f7 x8 hg9.1 hg9.2.1 hg9.2.2.1 hg9.2.2.2.1 hg9.2.2.2.2.1, fun r u k11 => by obtain ⟨J3, rfl, rfl, p10⟩ := k11; exact ⟨zl3, zl4, hc _ tX12_failsAt_21 _ _ _ (⟨nofun, rfl, rfl, (hg9.2.2.2.2.2 J3 p10)⟩)⟩⟩⟩))⟩))⟩)))), fun c2 => hc _ tX12_failsAt_6 _ _ _ (hc _ tX12_failsAt_7 _ _ _ (hc _ tX12_failsAt_21 _ _ _ (⟨nofun, rfl, rfl, (h.2 c2)⟩)))⟩)))
theorem ctX12_failsAt {zn d : Nat} (x1 : Int32) (x2 : Int32) (I : Nat → Nat → Int32) (L : Nat → Nat → Int64) (V : zVw) (ps : List Nat) (e : Nat) (N : Nat) (ro : Nat → Nat) (f : Nat) (i : Nat) (q0 : rEv I 1 V ps) (q1 : I 126 0 = nI e ∧ e < 2 ^ 19) (q2 : I 115 18 = -4) (q3 : trO I 143 N ro) (q4 : x1 = nI f ∧ f < 39) (q5 : x2 = nI i ∧ i < N ∧ N ≤ 10) : zcal zty zcd false (d + 8) 207 [.ref 115, .int x1, .int x2] (zSH zn, I, L) 0 0 (fun r u => ∃ (J : Nat → Nat → Int32), r = some (.int (nI (FM V e f (ro i)))) ∧ u = (zSH zn, J, L) ∧ (fr [115, 130, 131] I J ∧ ∀ s, s ≠ 19 → J 115 s = I 115 s)) := by
  obtain ⟨rfl, hf⟩ := q4
  obtain ⟨rfl, hi, hN⟩ := q5
  refine eX12_failsAt _ _ I L (gX12_failsAt_0 _ _ I L ?_)
  rw [nl 38, nI_eq (by omega) (by decide)]
  refine ⟨fun h => ⟨vin_nI (by omega) (by omega), V, ps, e, f, ro i, q0, q1, q2, ⟨rfl, by omega⟩, by rw [nI_clamp (by omega)]; exact q3 i hi, fun J hJ => ⟨J, rfl, rfl, hJ⟩⟩, fun h => ⟨I, ?_, rfl, fr_rf, fun _ _ => rfl⟩⟩
  rw [FM_38 (by omega)]; rfl
abbrev RX12_isSo (zn d : Nat) (post : zP) : zK := zRun (zcal zty zcd false (d + 8)) kX12_isSo (zLM zn) post
theorem eX12_isSo {zn d : Nat} {post : zP} (x1 : Int32) (I : Nat → Nat → Int32) (L : Nat → Nat → Int64) (h : RX12_isSo zn d post 0 [some (.ref 115), some (.int x1), none, none] [] (zSH zn, I, L)) : zcal zty zcd false (d + 9) 208 [.ref 115, .int x1] (zSH zn, I, L) 0 0 post := zcal_of (d := d + 8) zmt208 zmc208 rfl (Nat.le_of_ble_eq_true rfl) h
theorem gX12_isSo_0 {zn d : Nat} {post : zP} (x1 : Int32) (I : Nat → Nat → Int32) (L : Nat → Nat → Int64) (h : RX12_isSo zn d post 4 [some (.ref 115), some (.int x1), some (.int (1 : Int32)), some (.int (0 : Int32))] [] (zSH zn, I, L)) : RX12_isSo zn d post 0 [some (.ref 115), some (.int x1), none, none] [] (zSH zn, I, L) := fun P hw hc => hc _ tX12_isSo_0 _ _ _ (hc _ tX12_isSo_1 _ _ _ (hc _ tX12_isSo_2 _ _ _ (hc _ tX12_isSo_3 _ _ _ (h P hw hc))))
theorem gX12_isSo_4 {zn d : Nat} {post : zP} (x1 : Int32) (x2 : Int32) (x3 : Int32) (I : Nat → Nat → Int32) (L : Nat → Nat → Int64) (h : ((I 115 33) ≤ x3 → (x2 = 0 ∨ x2 = 1) ∧ post (some (.int x2)) (zSH zn, I, L)) ∧ (¬ (I 115 33) ≤ x3 → (x2 = 0 → (x2 = 0 ∨ x2 = 1) ∧ post (some (.int x2)) (zSH zn, I, L)) ∧ (¬ x2 = 0 → vp_in x3 10 ∧ (((I 144 (x3).toNatClampNeg) = (-1 : Int32) → RX12_isSo zn d post 4 [some (.ref 115), some (.int x1), some (.int (1 : Int32)), some (.int (x3 + (1 : Int32)))] [] (zSH zn, I, L)) ∧ (¬ (I 144 (x3).toNatClampNeg) = (-1 : Int32) → (∃ (V8 : zVw) (ps9 : List Nat) (e10 : Nat) (N11 : Nat) (ro12 : Nat → Nat) (f13 : Nat) (i14 : Nat), (rEv I 1 V8 ps9) ∧ (I 126 0 = nI e10 ∧ e10 < 2 ^ 19) ∧ (I 115 18 = -4) ∧ (trO I 143 N11 ro12) ∧ (x1 = nI f13 ∧ f13 < 39) ∧ (x3 = nI i14 ∧ i14 < N11 ∧ N11 ≤ 10) ∧ (∀ (J7 : Nat → Nat → Int32), (fr [115, 130, 131] I J7 ∧ ∀ s, s ≠ 19 → J7 115 s = I 115 s) → (¬ (nI (FM V8 e10 f13 (ro12 i14))) = (J7 144 (x3).toNatClampNeg) → RX12_isSo zn d post 4 [some (.ref 115), some (.int x1), some (.int (0 : Int32)), some (.int (x3 + (1 : Int32)))] [] (zSH zn, J7, L)) ∧ ((nI (FM V8 e10 f13 (ro12 i14))) = (J7 144 (x3).toNatClampNeg) → RX12_isSo zn d post 4 [some (.ref 115), some (.int x1), some (.int (1 : Int32)), some (.int (x3 + (1 : Int32)))] [] (zSH zn, J7, L))))))))) : RX12_isSo zn d post 4 [some (.ref 115), some (.int x1), some (.int x2), some (.int x3)] [] (zSH zn, I, L) := fun P hw hc => hc _ tX12_isSo_4 _ _ _ (hc _ tX12_isSo_5 _ _ _ (hc _ tX12_isSo_6 _ _ _ (⟨_, sh115, (by decide), hc _ tX12_isSo_9 _ _ _ (⟨fun c1 => hc _ tX12_isSo_53 _ _ _ (hc _ tX12_isSo_54 _ _ _ (⟨fun _ => (h.1 c1).1, rfl, rfl, (h.1 c1).2⟩)), fun c2 => hc _ tX12_isSo_12 _ _ _ (hc _ tX12_isSo_13 _ _ _ (⟨fun c3 => hc _ tX12_isSo_53 _ _ _ (hc _ tX12_isSo_54 _ _ _ (⟨fun _ => ((h.2 c2).1 c3).1, rfl, rfl, ((h.2 c2).1 c3).2⟩)), fun c4 => hc _ tX12_isSo_16 _ _ _ (hc _ tX12_isSo_17 _ _ _ (⟨_, _, sh115, (by decide), rfl, hc _ tX12_isSo_20 _ _ _ (hc _ tX12_isSo_21 _ _ _ (⟨_, _, _, sh144, Or.inl ⟨rfl, (by decide)⟩, ((h.2 c2).2 c4).1, hc _ tX12_isSo_22 _ _ _ (hc _ tX12_isSo_23 _ _ _ (⟨fun c5 => hc _ tX12_isSo_41 _ _ _ (hc _ tX12_isSo_42 _ _ _ (hc _ tX12_isSo_46 _ _ _ (hc _ tX12_isSo_47 _ _ _ (hc _ tX12_isSo_50 _ _ _ ((((h.2 c2).2 c4).2.1 c5) P hw hc))))), fun c6 => hc _ tX12_isSo_26 _ _ _ (hc _ tX12_isSo_27 _ _ _ (hc _ tX12_isSo_28 _ _ _ ((by obtain ⟨V8, ps9, e10, N11, ro12, f13, i14, hg15⟩ := (((h.2 c2).2 c4).2.2 c6); exact hc _ tX12_isSo_29 _ _ _ (⟨⟨_, _, _, rfl, (by decide), sh115⟩, ⟨Nat.le_of_ble_eq_true rfl, Nat.le_of_ble_eq_true rfl, zl1, zl2, _, ctX12_failsAt x1 x3 I L V8 ps9 e10 N11 ro12 f13 i14 hg15.1 hg15.2.1 hg15.2.2.1 hg15.2.2.2.1 hg15.2.2.2.2.1 hg15.2.2.2.2.2.1, fun r u k19 => by obtain ⟨J7, rfl, rfl, p16⟩ := k19; exact ⟨zl3, zl4, hc _ tX12_isSo_32 _ _ _ (hc _ tX12_isSo_33 _ _ _ (⟨_, _, sh115, (by decide), rfl, hc _ tX12_isSo_36 _ _ _ (hc _ tX12_isSo_37 _ _ _ (⟨_, _, _, sh144, Or.inl ⟨rfl, (by decide)⟩, ((h.2 c2).2 c4).1, hc _ tX12_isSo_38 _ _ _ (⟨fun c17 => hc _ tX12_isSo_45 _ _ _ (hc _ tX12_isSo_46 _ _ _ (hc _ tX12_isSo_47 _ _ _ (hc _ tX12_isSo_50 _ _ _ (((hg15.2.2.2.2.2.2 J7 p16).1 c17) P hw hc)))), fun c18 => hc _ tX12_isSo_41 _ _ _ (hc _ tX12_isSo_42 _ _ _ (hc _ tX12_isSo_46 _ _ _ (hc _ tX12_isSo_47 _ _ _ (hc _ tX12_isSo_50 _ _ _ (((hg15.2.2.2.2.2.2 J7 p16).2 c18) P hw hc)))))⟩)⟩))⟩))⟩⟩⟩)))))⟩))⟩))⟩))⟩))⟩)⟩)))
theorem ctX12_isSo {zn d : Nat} (x1 : Int32) (I : Nat → Nat → Int32) (L : Nat → Nat → Int64) (V : zVw) (ps : List Nat) (e : Nat) (N : Nat) (ro : Nat → Nat) (sn : Nat → Int32) (f : Nat) (b : Bool) (q0 : rEv I 1 V ps) (q1 : I 126 0 = nI e ∧ e < 2 ^ 19) (q2 : I 115 18 = -4) (q3 : I 115 33 = nI N ∧ N ≤ 10) (q4 : trO I 143 N ro) (q5 : snO I 144 N sn) (q6 : x1 = nI f ∧ f < 39) (q7 : b = true ↔ isC V e ro sn N f) : zcal zty zcd false (d + 9) 208 [.ref 115, .int x1] (zSH zn, I, L) 0 0 (fun r u => ∃ (J : Nat → Nat → Int32), r = some (.int (if b = true then 1 else 0)) ∧ u = (zSH zn, J, L) ∧ (fr [115, 130, 131] I J ∧ ∀ s, s ≠ 19 → J 115 s = I 115 s)) := by
  obtain ⟨rfl, hf⟩ := q6
  obtain ⟨eN, hN⟩ := id q3
  have zero : ∀ (n : Nat) (J : Nat → Nat → Int32), n ≤ N → ¬ isC V e ro sn N f → (fr [115, 130, 131] I J ∧ ∀ s, s ≠ 19 → J 115 s = I 115 s) → RX12_isSo zn d (fun r u => ∃ (J : Nat → Nat → Int32), r = some (.int (if b = true then 1 else 0)) ∧ u = (zSH zn, J, L) ∧ (fr [115, 130, 131] I J ∧ ∀ s, s ≠ 19 → J 115 s = I 115 s)) 4 [some (.ref 115), some (.int (nI f)), some (.int 0), some (.int (nI n))] [] (zSH zn, J, L) := fun n J hn hno hJ => by
    have hb : ¬ b = true := fun z => hno (q7.mp z)
    exact gX12_isSo_4 _ _ _ J L ⟨fun _ => ⟨Or.inl rfl, J, by rw [if_neg hb], rfl, hJ⟩, fun _ => ⟨fun _ => ⟨Or.inl rfl, J, by rw [if_neg hb], rfl, hJ⟩, fun z => absurd rfl z⟩⟩
  have loop : ∀ n (J : Nat → Nat → Int32), n ≤ N → ((fr [115, 130, 131] I J ∧ ∀ s, s ≠ 19 → J 115 s = I 115 s) ∧ isC V e ro sn n f) → RX12_isSo zn d (fun r u => ∃ (J : Nat → Nat → Int32), r = some (.int (if b = true then 1 else 0)) ∧ u = (zSH zn, J, L) ∧ (fr [115, 130, 131] I J ∧ ∀ s, s ≠ 19 → J 115 s = I 115 s)) 4 [some (.ref 115), some (.int (nI f)), some (.int 1), some (.int (nI n))] [] (zSH zn, J, L) := by
    refine zup (fun J hJ => ?_) (fun n J hn hJ ih => ?_)
    · have hb : b = true := q7.mpr hJ.2
      exact gX12_isSo_4 _ _ _ J L ⟨fun _ => ⟨Or.inr rfl, J, by rw [if_pos hb], rfl, hJ.1⟩, fun hc => absurd (by rw [hJ.1.2 33 (by decide), eN, nI_leI (by omega) (by omega)]; exact Nat.le_refl _) hc⟩
    · obtain ⟨⟨f1, f2⟩, f3⟩ := hJ
      have hs := q5 n hn
      have cJ := rEv_any q0 (f1 118 (by decide)) (f1 119 (by decide)) (f1 120 (by decide)) (f1 122 (by decide)) (f1 123 (by decide))
      have nxt1 : (sn n = -1 ∨ nI (FM V e f (ro n)) = sn n) → isC V e ro sn (n + 1) f := fun h2 i hi => by
        by_cases hin : i = n
        · subst hin; exact h2
        · exact f3 i (by omega)
      refine gX12_isSo_4 _ _ _ J L ⟨fun hc => absurd hc (by rw [f2 33 (by decide), eN, nI_leI (by omega) (by omega)]; omega), fun _ => ⟨fun z => absurd z (by decide), fun _ => ⟨vin_nI (by omega) (by omega), ?_⟩⟩⟩
      rw [nI_clamp (by omega), f1 144 (by decide), hs.1, nI_1]
      refine ⟨fun hz => ih J ⟨⟨f1, f2⟩, nxt1 (Or.inl hz)⟩, fun hz => ⟨V, ps, e, N, ro, f, n, cJ, by rw [f1 126 (by decide)]; exact q1, by rw [f2 18 (by decide)]; exact q2, fun i hi => by rw [f1 143 (by decide)]; exact q4 i hi, ⟨rfl, hf⟩, ⟨rfl, hn, hN⟩, fun J3 ⟨b1, b2⟩ => ?_⟩⟩
      have c1 : fr [115, 130, 131] I J3 ∧ ∀ s, s ≠ 19 → J3 115 s = I 115 s := ⟨fr_trans f1 b1, fun s hs => (b2 s hs).trans (f2 s hs)⟩
      rw [c1.1 144 (by decide), hs.1]
      exact ⟨fun hne => zero (n + 1) J3 hn (fun z => (z n hn).elim hz hne) c1, fun heq => ih J3 ⟨c1, nxt1 (Or.inr heq)⟩⟩
  exact eX12_isSo _ I L (gX12_isSo_0 _ I L (loop 0 I (Nat.zero_le _) ⟨⟨fr_rf, fun _ _ => rfl⟩, fun i hi => absurd hi (by omega)⟩))
noncomputable def cB (V : zVw) (e : Nat) (ro : Nat → Nat) (sn : Nat → Int32) (N t : Nat) : Bool := @decide (isC V e ro sn N t) (Classical.propDecidable _)
theorem cB_i {V : zVw} {e : Nat} {ro : Nat → Nat} {sn : Nat → Int32} {N t : Nat} : cB V e ro sn N t = true ↔ isC V e ro sn N t := by
  unfold cB
  exact @decide_eq_true_iff _ (Classical.propDecidable _)
def cnt (C : Nat → Bool) (n : Nat) : Nat := fb_sm (fun t => if C t = true then 1 else 0) n
theorem cnt_s (C : Nat → Bool) (n : Nat) : cnt C (n + 1) = cnt C n + (if C n = true then 1 else 0) := rfl
theorem cnt_mono {C : Nat → Bool} {a : Nat} : ∀ {b : Nat}, a ≤ b → cnt C a ≤ cnt C b
  | 0, h => by have : a = 0 := by omega
               subst this; exact Nat.le_refl _
  | b + 1, h => by
    by_cases hab : a = b + 1
    · rw [hab]; exact Nat.le_refl _
    · have := cnt_mono (C := C) (a := a) (b := b) (by omega)
      rw [cnt_s]; omega
theorem cnt_lt {C : Nat → Bool} {a b : Nat} (h : a < b) (hc : C a = true) : cnt C a < cnt C b := by
  have := cnt_mono (C := C) (a := a + 1) (b := b) h
  rw [cnt_s, if_pos hc] at this
  omega
theorem cnt_inj {C : Nat → Bool} {a b : Nat} (ha : C a = true) (hb : C b = true) (h : cnt C a = cnt C b) : a = b := by
  rcases Nat.lt_trichotomy a b with z | z | z
  · have := cnt_lt z ha; omega
  · exact z
  · have := cnt_lt z hb; omega
theorem cnt_ex {C : Nat → Bool} {k : Nat} : ∀ {n : Nat}, k < cnt C n → ∃ t, t < n ∧ C t = true ∧ cnt C t = k
  | 0, h => absurd h (Nat.not_lt_zero _)
  | n + 1, h => by
    rw [cnt_s] at h
    by_cases hk : k < cnt C n
    · obtain ⟨t, a, b⟩ := cnt_ex hk
      exact ⟨t, by omega, b⟩
    · by_cases hc : C n = true
      · rw [if_pos hc] at h
        exact ⟨n, by omega, hc, by omega⟩
      · rw [if_neg hc] at h; omega
theorem cnt_le (C : Nat → Bool) : ∀ n, cnt C n ≤ n
  | 0 => Nat.le_refl _
  | n + 1 => by
    have := cnt_le C n
    rw [cnt_s]; split <;> omega
theorem clr_bt {x : Int64} {k : Nat} (hk : bt x k = true) (hl : ∀ i, i < k → bt x i = false) (hk64 : k < 64) {t : Nat} (ht : t < 64) : bt (x &&& (x - 1)) t = (bt x t && decide (t ≠ k)) := by
  have hx0 : x.toBitVec.toNat ≠ 0 := by
    intro z
    rw [bt_nat, z, Nat.zero_testBit] at hk
    cases hk
  obtain ⟨j, m, e⟩ := low_ex _ hx0
  have hb : ∀ i, bt x i = if i < j then false else if i = j then true else m.testBit (i - (j + 1)) := fun i => by
    rw [bt_nat, e, low_bit]
  have hjk : j = k := by
    rcases Nat.lt_trichotomy j k with z | z | z
    · have := hl j z
      rw [hb j, if_neg (by omega), if_pos rfl] at this
      cases this
    · exact z
    · rw [hb k, if_pos z] at hk; cases hk
  subst hjk
  have hsub : x - 1 = lN (x.toBitVec.toNat - 1) := by
    have := lN_sub (a := x.toBitVec.toNat) (b := 1) (by omega)
    rw [← lN_of] at this
    exact this
  have hp : bt (x - 1) t = if t < j then true else if t = j then false else m.testBit (t - (j + 1)) := by
    rw [hsub, ← low_pred, ← e]
    unfold bt
    show (BitVec.ofNat 64 (x.toBitVec.toNat - 1)).getLsbD t = _
    rw [BitVec.getLsbD_ofNat, decide_eq_true ht, Bool.true_and]
  rw [bt_and, hp, hb t]
  by_cases h1 : t < j
  · simp [h1]
  · by_cases h2 : t = j
    · simp [h2]
    · simp [h1, h2]
def nthR (C : Nat → Bool) (i : Nat) (y : Int32) : Prop := (∃ t, t < 39 ∧ C t = true ∧ cnt C t = i ∧ y = nI t) ∨ ((∀ t, t < 39 → C t = true → cnt C t ≠ i) ∧ y = -4)
theorem nthR_one {C : Nat → Bool} {i : Nat} {y z : Int32} (h : nthR C i y) (h2 : nthR C i z) : y = z := by
  rcases h with ⟨t, a, b, c, e⟩ | ⟨a, e⟩
  · rcases h2 with ⟨u, a2, b2, c2, e2⟩ | ⟨a2, e2⟩
    · rw [e, e2, cnt_inj b b2 (by omega)]
    · exact absurd c (a2 t a b)
  · rcases h2 with ⟨u, a2, b2, c2, e2⟩ | ⟨a2, e2⟩
    · exact absurd c2 (a u a2 b2)
    · rw [e, e2]
abbrev RX9_bitNumber (zn d : Nat) (post : zP) : zK := zRun (zcal zty zcd false (d + 2)) kX9_bitNumber (zLM zn) post
theorem eX9_bitNumber {zn d : Nat} {post : zP} (x0 : Int64) (x2 : Int32) (I : Nat → Nat → Int32) (L : Nat → Nat → Int64) (h : RX9_bitNumber zn d post 0 [some (.long x0), none, some (.int x2), none, none, none] [] (zSH zn, I, L)) : zcal zty zcd false (d + 3) 79 [.long x0, .int x2] (zSH zn, I, L) 0 0 post := zcal_of (d := d + 2) zmt79 zmc79 rfl (Nat.le_of_ble_eq_true rfl) h
theorem gX9_bitNumber_0 {zn d : Nat} {post : zP} (x0 : Int64) (x2 : Int32) (I : Nat → Nat → Int32) (L : Nat → Nat → Int64) (h : RX9_bitNumber zn d post 5 [some (.long x0), none, some (.int x2), some (.long x0), none, some (.int (0 : Int32))] [] (zSH zn, I, L)) : RX9_bitNumber zn d post 0 [some (.long x0), none, some (.int x2), none, none, none] [] (zSH zn, I, L) := fun P hw hc => hc _ tX9_bitNumber_0 _ _ _ (hc _ tX9_bitNumber_1 _ _ _ (hc _ tX9_bitNumber_2 _ _ _ (hc _ tX9_bitNumber_3 _ _ _ (h P hw hc))))
theorem gX9_bitNumber_5 {zn d : Nat} {post : zP} (x0 : Int64) (x2 : Int32) (x3 : Int64) (x5 : Int32) (I : Nat → Nat → Int32) (L : Nat → Nat → Int64) (h : (x2 ≤ x5 → (¬ (lg_cmp x3 (0 : Int64)) = 0 → post (some (.int (fJ13_numberOfTrailingZeros_95d88 x3))) (zSH zn, I, L)) ∧ ((lg_cmp x3 (0 : Int64)) = 0 → post (some (.int (-4 : Int32))) (zSH zn, I, L))) ∧ (¬ x2 ≤ x5 → ((lg_cmp x3 (0 : Int64)) = 0 → (¬ (lg_cmp x3 (0 : Int64)) = 0 → post (some (.int (fJ13_numberOfTrailingZeros_95d88 x3))) (zSH zn, I, L)) ∧ ((lg_cmp x3 (0 : Int64)) = 0 → post (some (.int (-4 : Int32))) (zSH zn, I, L))) ∧ (¬ (lg_cmp x3 (0 : Int64)) = 0 → RX9_bitNumber zn d post 5 [some (.long x0), none, some (.int x2), some (.long (x3 &&& (x3 - (1 : Int64)))), none, some (.int (x5 + (1 : Int32)))] [] (zSH zn, I, L)))) : RX9_bitNumber zn d post 5 [some (.long x0), none, some (.int x2), some (.long x3), none, some (.int x5)] [] (zSH zn, I, L) := fun P hw hc => hc _ tX9_bitNumber_5 _ _ _ (hc _ tX9_bitNumber_7 _ _ _ (hc _ tX9_bitNumber_8 _ _ _ (⟨fun c1 => hc _ tX9_bitNumber_29 _ _ _ (hc _ tX9_bitNumber_30 _ _ _ (hc _ tX9_bitNumber_31 _ _ _ (hc _ tX9_bitNumber_32 _ _ _ (⟨fun c3 => hc _ tX9_bitNumber_40 _ _ _ (hc _ tX9_bitNumber_41 _ _ _ (⟨Nat.le_of_ble_eq_true rfl, Nat.le_of_ble_eq_true rfl, zl1, zl2, _, ctJ13_numberOfTrailingZeros_95d88 x3 I L, fun r u k5 => by obtain ⟨rfl, rfl⟩ := k5; exact ⟨zl3, zl4, hc _ tX9_bitNumber_44 _ _ _ (⟨nofun, rfl, rfl, ((h.1 c1).1 c3)⟩)⟩⟩)), fun c4 => hc _ tX9_bitNumber_35 _ _ _ (hc _ tX9_bitNumber_37 _ _ _ (hc _ tX9_bitNumber_44 _ _ _ (⟨nofun, rfl, rfl, ((h.1 c1).2 c4)⟩)))⟩)))), fun c2 => hc _ tX9_bitNumber_11 _ _ _ (hc _ tX9_bitNumber_12 _ _ _ (hc _ tX9_bitNumber_13 _ _ _ (hc _ tX9_bitNumber_14 _ _ _ (⟨fun c6 => hc _ tX9_bitNumber_29 _ _ _ (hc _ tX9_bitNumber_30 _ _ _ (hc _ tX9_bitNumber_31 _ _ _ (hc _ tX9_bitNumber_32 _ _ _ (⟨fun c8 => hc _ tX9_bitNumber_40 _ _ _ (hc _ tX9_bitNumber_41 _ _ _ (⟨Nat.le_of_ble_eq_true rfl, Nat.le_of_ble_eq_true rfl, zl1, zl2, _, ctJ13_numberOfTrailingZeros_95d88 x3 I L, fun r u k10 => by obtain ⟨rfl, rfl⟩ := k10; exact ⟨zl3, zl4, hc _ tX9_bitNumber_44 _ _ _ (⟨nofun, rfl, rfl, (((h.2 c2).1 c6).1 c8)⟩)⟩⟩)), fun c9 => hc _ tX9_bitNumber_35 _ _ _ (hc _ tX9_bitNumber_37 _ _ _ (hc _ tX9_bitNumber_44 _ _ _ (⟨nofun, rfl, rfl, (((h.2 c2).1 c6).2 c9)⟩)))⟩)))), fun c7 => hc _ tX9_bitNumber_17 _ _ _ (hc _ tX9_bitNumber_18 _ _ _ (hc _ tX9_bitNumber_19 _ _ _ (hc _ tX9_bitNumber_20 _ _ _ (hc _ tX9_bitNumber_21 _ _ _ (hc _ tX9_bitNumber_22 _ _ _ (hc _ tX9_bitNumber_23 _ _ _ (hc _ tX9_bitNumber_26 _ _ _ (((h.2 c2).2 c7) P hw hc))))))))⟩))))⟩)))
theorem ctX9_bitNumber {zn d : Nat} (x0 : Int64) (x2 : Int32) (I : Nat → Nat → Int32) (L : Nat → Nat → Int64) (C : Nat → Bool) (i : Nat) (q0 : ∀ t, t < 64 → (bt x0 t = true ↔ t < 39 ∧ C t = true)) (q1 : x2 = nI i ∧ i < 2 ^ 31) : zcal zty zcd false (d + 3) 79 [.long x0, .int x2] (zSH zn, I, L) 0 0 (fun r u => ∃ (y : Int32), r = some (.int y) ∧ u = (zSH zn, I, L) ∧ (nthR C i y)) := by
  obtain ⟨rfl, hi⟩ := q1
  have loop : ∀ (m k : Nat) (w : Int64), k + m = i → (∀ t, t < 64 → (bt w t = true ↔ t < 39 ∧ C t = true ∧ k ≤ cnt C t)) → RX9_bitNumber zn d (fun r u => ∃ (y : Int32), r = some (.int y) ∧ u = (zSH zn, I, L) ∧ (nthR C i y)) 5 [some (.long x0), none, some (.int (nI i)), some (.long w), none, some (.int (nI k))] [] (zSH zn, I, L) := by
    have none : ∀ (k : Nat) (w : Int64), k ≤ i → (∀ t, t < 64 → (bt w t = true ↔ t < 39 ∧ C t = true ∧ k ≤ cnt C t)) → w = 0 → nthR C i (-4) := fun k w hki hw h0 => Or.inr ⟨fun t h39 hc z => absurd ((hw t (by omega)).mpr ⟨h39, hc, by omega⟩) (by rw [h0, bt_0]; decide), rfl⟩
    intro m
    induction m with
    | zero =>
      intro k w hk hw
      have : k = i := by omega
      subst this
      refine gX9_bitNumber_5 _ _ _ _ I L ⟨fun _ => ?_, fun hc => absurd (by rw [nI_leI hi hi]; exact Nat.le_refl _) hc⟩
      rw [lg_cmp_eq]
      refine ⟨fun h => ?_, fun h => ⟨_, rfl, rfl, none k w (Nat.le_refl _) hw h⟩⟩
      obtain ⟨t, ht, et, h3, h4⟩ := tz_64 h
      obtain ⟨a, b, c⟩ := (hw t ht).mp h3
      refine ⟨_, rfl, rfl, Or.inl ⟨t, a, b, ?_, et⟩⟩
      refine Nat.le_antisymm ?_ c
      refine Nat.le_of_not_lt (fun z => ?_)
      obtain ⟨u, hu, hc, hcu⟩ := cnt_ex z
      have := (hw u (by omega)).mpr ⟨by omega, hc, by omega⟩
      rw [h4 u hu] at this
      cases this
    | succ m ih =>
      intro k w hk hw
      refine gX9_bitNumber_5 _ _ _ _ I L ⟨fun hc => absurd hc (by rw [nI_leI hi (by omega)]; omega), fun _ => ?_⟩
      rw [lg_cmp_eq, nI_1]
      refine ⟨fun h => ⟨fun z => absurd h z, fun _ => ⟨_, rfl, rfl, none k w (by omega) hw h⟩⟩, fun h => ?_⟩
      obtain ⟨t, ht, et, h3, h4⟩ := tz_64 h
      obtain ⟨a, b, c⟩ := (hw t ht).mp h3
      have hck : cnt C t = k := by
        refine Nat.le_antisymm ?_ c
        refine Nat.le_of_not_lt (fun z => ?_)
        obtain ⟨u, hu, hc, hcu⟩ := cnt_ex z
        have := (hw u (by omega)).mpr ⟨by omega, hc, by omega⟩
        rw [h4 u hu] at this
        cases this
      refine ih (k + 1) _ (by omega) (fun u hu => ?_)
      rw [clr_bt h3 h4 ht hu, Bool.and_eq_true, hw u hu, decide_eq_true_iff]
      constructor
      · rintro ⟨⟨p, q, s⟩, z⟩
        refine ⟨p, q, ?_⟩
        have : cnt C u ≠ k := fun y => z (cnt_inj q b (by omega))
        omega
      · rintro ⟨p, q, s⟩
        exact ⟨⟨p, q, by omega⟩, fun z => by rw [z] at s; omega⟩
  exact eX9_bitNumber _ _ I L (gX9_bitNumber_0 _ _ I L (loop i 0 _ (by omega) (fun t ht => by rw [q0 t ht]; exact ⟨fun z => ⟨z.1, z.2, Nat.zero_le _⟩, fun z => ⟨z.1, z.2.1⟩⟩)))
def couR (C : Nat → Bool) (x y : Int32) : Prop := (x < -1 → y = -1) ∧ (x = -1 → y = nI (cnt C 39)) ∧ (0 ≤ x → nthR C (tn x) y)
theorem couR_one {C : Nat → Bool} {x y z : Int32} (h : couR C x y) (h2 : couR C x z) : y = z := by
  rcases fa_three x (-1) with a | a | a
  · rw [h.1 a, h2.1 a]
  · rw [h.2.1 a, h2.2.1 a]
  · have h0 : 0 ≤ x := by
      rw [fa_lt] at a
      rw [fa_le]
      have e1 : (0 : Int32).toInt = 0 := by decide
      have e2 : (-1 : Int32).toInt = -1 := by decide
      omega
    exact nthR_one (h.2.2 h0) (h2.2.2 h0)
theorem cnt_64 {C : Nat → Bool} {v : Int64} (h : ∀ t, t < 64 → (bt v t = true ↔ t < 39 ∧ C t = true)) : fb_sm (fun t => if bt v t = true then 1 else 0) 64 = cnt C 39 := by
  rw [show (64 : Nat) = 39 + 25 by rfl, fb_sm_cat]
  have h1 : fb_sm (fun t => if bt v t = true then 1 else 0) 39 = cnt C 39 := fb_sm_cong (fun t ht => by
    by_cases hc : C t = true
    · rw [if_pos hc, if_pos ((h t (by omega)).mpr ⟨ht, hc⟩)]
    · rw [if_neg hc, if_neg (fun z => hc ((h t (by omega)).mp z).2)])
  have h2 : fb_sm (fun i => if bt v (39 + i) = true then 1 else 0) 25 = fb_sm (fun _ => 0) 25 := fb_sm_cong (fun i hi => by
    rw [if_neg]
    intro z
    have := ((h (39 + i) (by omega)).mp z).1
    omega)
  have h3 : fb_sm (fun _ => 0) 25 = 0 := by decide
  rw [h1, h2, h3, Nat.add_zero]
abbrev RX11_could (zn d : Nat) (post : zP) : zK := zRun (zcal zty zcd false (d + 6)) kX11_could (zLM zn) post
theorem eX11_could {zn d : Nat} {post : zP} (x1 : Int32) (I : Nat → Nat → Int32) (L : Nat → Nat → Int64) (h : RX11_could zn d post 0 [some (.ref 5), some (.int x1), none, none] [] (zSH zn, I, L)) : zcal zty zcd false (d + 7) 123 [.ref 5, .int x1] (zSH zn, I, L) 0 0 post := zcal_of (d := d + 6) zmt123 zmc123 rfl (Nat.le_of_ble_eq_true rfl) h
theorem gX11_could_0 {zn d : Nat} {post : zP} (x1 : Int32) (I : Nat → Nat → Int32) (L : Nat → Nat → Int64) (h : ((-1 : Int32) ≤ x1 → (∃ (V5 : zVw) (os6 : List Nat) (e7 : Nat) (N8 : Nat) (ro9 : Nat → Nat) (sn10 : Nat → Int32), (cVw I 19 V5 os6) ∧ ((I 5 15) = nI e7 ∧ e7 < 2 ^ 19) ∧ (I 73 2 = nI N8 ∧ N8 ≤ 10) ∧ (trO I 74 N8 ro9) ∧ (snO I 75 N8 sn10) ∧ (stkE L 77) ∧ (∀ (K3 : Nat → Nat → Int64) (v4 : Int64), (fr [78, 79, 82, 83] L K3 ∧ ∀ t, t < 64 → (bt v4 t = true ↔ t < 39 ∧ isC V5 e7 ro9 sn10 N8 t)) → (¬ x1 = (-1 : Int32) → (∃ (C16 : Nat → Bool) (i17 : Nat), (∀ t, t < 64 → (bt v4 t = true ↔ t < 39 ∧ C16 t = true)) ∧ (x1 = nI i17 ∧ i17 < 2 ^ 31) ∧ (∀ (y15 : Int32), (nthR C16 i17 y15) → post (some (.int y15)) (zSH zn, I, K3)))) ∧ (x1 = (-1 : Int32) → post (some (.int (fJ13_bitCount_95d88 v4))) (zSH zn, I, K3))))) ∧ (¬ (-1 : Int32) ≤ x1 → post (some (.int (-1 : Int32))) (zSH zn, I, L))) : RX11_could zn d post 0 [some (.ref 5), some (.int x1), none, none] [] (zSH zn, I, L) := fun P hw hc => hc _ tX11_could_0 _ _ _ (hc _ tX11_could_1 _ _ _ (hc _ tX11_could_2 _ _ _ (⟨fun c1 => hc _ tX11_could_7 _ _ _ (hc _ tX11_could_8 _ _ _ (⟨_, _, sh5, (by decide), rfl, hc _ tX11_could_11 _ _ _ (hc _ tX11_could_12 _ _ _ (⟨_, _, sh5, (by decide), rfl, hc _ tX11_could_15 _ _ _ (hc _ tX11_could_16 _ _ _ (⟨_, _, _, sh11, (by decide), by decide, zvin (by decide), rfl, hc _ tX11_could_17 _ _ _ (hc _ tX11_could_18 _ _ _ (⟨_, sh5, (by decide), (by obtain ⟨V5, os6, e7, N8, ro9, sn10, hg11⟩ := (h.1 c1); exact hc _ tX11_could_21 _ _ _ (⟨⟨_, _, _, rfl, (by decide), sh73⟩, ⟨Nat.le_of_ble_eq_true rfl, Nat.le_of_ble_eq_true rfl, zl1, zl2, _, ctX9_thatCouldBe 19 (I 5 15) I L V5 os6 e7 N8 ro9 sn10 isX10_19 hg11.1 hg11.2.1 hg11.2.2.1 hg11.2.2.2.1 hg11.2.2.2.2.1 hg11.2.2.2.2.2.1, fun r u k22 => by obtain ⟨K3, v4, rfl, rfl, p12⟩ := k22; exact ⟨zl3, zl4, hc _ tX11_could_24 _ _ _ (hc _ tX11_could_25 _ _ _ (hc _ tX11_could_26 _ _ _ (hc _ tX11_could_27 _ _ _ (⟨fun c13 => hc _ tX11_could_37 _ _ _ (hc _ tX11_could_38 _ _ _ ((by obtain ⟨C16, i17, hg18⟩ := ((hg11.2.2.2.2.2.2 K3 v4 p12).1 c13); exact hc _ tX11_could_39 _ _ _ (⟨Nat.le_of_ble_eq_true rfl, Nat.le_of_ble_eq_true rfl, zl1, zl2, _, ctX9_bitNumber v4 x1 I K3 C16 i17 hg18.1 hg18.2.1, fun r u k20 => by obtain ⟨y15, rfl, rfl, p19⟩ := k20; exact ⟨zl3, zl4, hc _ tX11_could_42 _ _ _ (⟨nofun, rfl, rfl, (hg18.2.2 y15 p19)⟩)⟩⟩)))), fun c14 => hc _ tX11_could_30 _ _ _ (hc _ tX11_could_31 _ _ _ (⟨Nat.le_of_ble_eq_true rfl, Nat.le_of_ble_eq_true rfl, zl1, zl2, _, ctJ13_bitCount_95d88 v4 I K3, fun r u k21 => by obtain ⟨rfl, rfl⟩ := k21; exact ⟨zl3, zl4, hc _ tX11_could_34 _ _ _ (hc _ tX11_could_42 _ _ _ (⟨nofun, rfl, rfl, ((hg11.2.2.2.2.2.2 K3 v4 p12).2 c14)⟩))⟩⟩))⟩))))⟩⟩⟩))⟩))⟩))⟩))⟩)), fun c2 => hc _ tX11_could_5 _ _ _ (hc _ tX11_could_6 _ _ _ (⟨nofun, rfl, rfl, (h.2 c2)⟩))⟩)))
theorem ge_m1 {x : Int32} (h : -1 ≤ x) (h2 : ¬ x = -1) : ∃ i, x = nI i ∧ i < 2 ^ 31 ∧ tn x = i ∧ 0 ≤ x := by
  have h0 : 0 ≤ x := by
    have hne : x.toInt ≠ (-1 : Int32).toInt := fun z => h2 ((fa_eq x (-1)).mpr z)
    rw [fa_le] at h
    rw [fa_le]
    have e1 : (0 : Int32).toInt = 0 := by decide
    have e2 : (-1 : Int32).toInt = -1 := by decide
    omega
  obtain ⟨i, hi, rfl⟩ := nI_of (Int32.not_lt.mpr h0)
  exact ⟨i, rfl, hi, tn_nI hi, h0⟩
theorem ctX11_could {zn d : Nat} (x1 : Int32) (I : Nat → Nat → Int32) (L : Nat → Nat → Int64) (V : zVw) (os : List Nat) (e : Nat) (N : Nat) (ro : Nat → Nat) (sn : Nat → Int32) (q0 : cVw I 19 V os) (q1 : I 5 15 = nI e ∧ e < 2 ^ 19) (q2 : I 73 2 = nI N ∧ N ≤ 10) (q3 : trO I 74 N ro) (q4 : snO I 75 N sn) (q5 : stkE L 77) : zcal zty zcd false (d + 7) 123 [.ref 5, .int x1] (zSH zn, I, L) 0 0 (fun r u => ∃ (K : Nat → Nat → Int64), ∃ (y : Int32), r = some (.int y) ∧ u = (zSH zn, I, K) ∧ (fr [78, 79, 82, 83] L K ∧ couR (cB V e ro sn N) x1 y)) := by
  refine eX11_could _ I L (gX11_could_0 _ I L ⟨fun h => ⟨V, os, e, N, ro, sn, q0, q1, q2, q3, q4, q5, fun K v ⟨k1, k2⟩ => ?_⟩, fun h => ⟨L, _, rfl, rfl, fr_rf, fun _ => rfl, fun z => absurd (by rw [z]; decide) h, fun z => absurd (Int32.le_trans (by decide) z) h⟩⟩)
  have hv : ∀ t, t < 64 → (bt v t = true ↔ t < 39 ∧ cB V e ro sn N t = true) := fun t ht => by rw [k2 t ht, cB_i]
  refine ⟨fun h2 => ?_, fun h2 => ⟨K, _, rfl, rfl, k1, fun z => absurd (by rw [h2] at z; exact z) (by decide), fun _ => ?_, fun z => absurd (by rw [h2] at z; exact z : (0 : Int32) ≤ -1) (by decide)⟩⟩
  · obtain ⟨i, rfl, hi, ti, h0⟩ := ge_m1 h h2
    exact ⟨_, i, hv, ⟨rfl, hi⟩, fun y hy => ⟨K, y, rfl, rfl, k1, fun z => absurd z (Int32.not_lt.mpr h), fun z => absurd z h2, fun _ => by rw [ti]; exact hy⟩⟩
  · rw [bc_bt, cnt_64 hv]
abbrev RX12_could (zn d : Nat) (post : zP) : zK := zRun (zcal zty zcd false (d + 9)) kX12_could (zLM zn) post
theorem eX12_could {zn d : Nat} {post : zP} (x1 : Int32) (I : Nat → Nat → Int32) (L : Nat → Nat → Int64) (h : RX12_could zn d post 0 [some (.ref 115), some (.int x1), none, none] [] (zSH zn, I, L)) : zcal zty zcd false (d + 10) 209 [.ref 115, .int x1] (zSH zn, I, L) 0 0 post := zcal_of (d := d + 9) zmt209 zmc209 rfl (Nat.le_of_ble_eq_true rfl) h
theorem gX12_could_0 {zn d : Nat} {post : zP} (x1 : Int32) (I : Nat → Nat → Int32) (L : Nat → Nat → Int64) (h : ((-1 : Int32) ≤ x1 → RX12_could zn d post 11 [some (.ref 115), some (.int x1), some (.int (0 : Int32)), some (.int (0 : Int32))] [] (zSH zn, I, L)) ∧ (¬ (-1 : Int32) ≤ x1 → post (some (.int (-1 : Int32))) (zSH zn, I, L))) : RX12_could zn d post 0 [some (.ref 115), some (.int x1), none, none] [] (zSH zn, I, L) := fun P hw hc => hc _ tX12_could_0 _ _ _ (hc _ tX12_could_1 _ _ _ (hc _ tX12_could_2 _ _ _ (⟨fun c1 => hc _ tX12_could_7 _ _ _ (hc _ tX12_could_8 _ _ _ (hc _ tX12_could_9 _ _ _ (hc _ tX12_could_10 _ _ _ ((h.1 c1) P hw hc)))), fun c2 => hc _ tX12_could_5 _ _ _ (hc _ tX12_could_6 _ _ _ (⟨nofun, rfl, rfl, (h.2 c2)⟩))⟩)))
theorem gX12_could_11 {zn d : Nat} {post : zP} (x1 : Int32) (x2 : Int32) (x3 : Int32) (I : Nat → Nat → Int32) (L : Nat → Nat → Int64) (h : ((38 : Int32) < x3 → (0 ≤ x1 → post (some (.int (-4 : Int32))) (zSH zn, I, L)) ∧ (¬ 0 ≤ x1 → post (some (.int x2)) (zSH zn, I, L))) ∧ (¬ (38 : Int32) < x3 → (∃ (V6 : zVw) (ps7 : List Nat) (e8 : Nat) (N9 : Nat) (ro10 : Nat → Nat) (sn11 : Nat → Int32) (f12 : Nat) (b13 : Bool), (rEv I 1 V6 ps7) ∧ (I 126 0 = nI e8 ∧ e8 < 2 ^ 19) ∧ (I 115 18 = -4) ∧ (I 115 33 = nI N9 ∧ N9 ≤ 10) ∧ (trO I 143 N9 ro10) ∧ (snO I 144 N9 sn11) ∧ (x3 = nI f12 ∧ f12 < 39) ∧ (b13 = true ↔ isC V6 e8 ro10 sn11 N9 f12) ∧ (∀ (J5 : Nat → Nat → Int32), (fr [115, 130, 131] I J5 ∧ ∀ s, s ≠ 19 → J5 115 s = I 115 s) → (¬ ((b13 = true)) → RX12_could zn d post 11 [some (.ref 115), some (.int x1), some (.int x2), some (.int (x3 + (1 : Int32)))] [] (zSH zn, J5, L)) ∧ ((b13 = true) → (¬ x2 = x1 → RX12_could zn d post 11 [some (.ref 115), some (.int x1), some (.int (x2 + (1 : Int32))), some (.int (x3 + (1 : Int32)))] [] (zSH zn, J5, L)) ∧ (x2 = x1 → post (some (.int x3)) (zSH zn, J5, L))))))) : RX12_could zn d post 11 [some (.ref 115), some (.int x1), some (.int x2), some (.int x3)] [] (zSH zn, I, L) := fun P hw hc => hc _ tX12_could_11 _ _ _ (hc _ tX12_could_12 _ _ _ (hc _ tX12_could_14 _ _ _ (⟨fun c1 => hc _ tX12_could_41 _ _ _ (hc _ tX12_could_42 _ _ _ (⟨fun c3 => hc _ tX12_could_49 _ _ _ (hc _ tX12_could_51 _ _ _ (⟨nofun, rfl, rfl, ((h.1 c1).1 c3)⟩)), fun c4 => hc _ tX12_could_45 _ _ _ (hc _ tX12_could_46 _ _ _ (hc _ tX12_could_51 _ _ _ (⟨nofun, rfl, rfl, ((h.1 c1).2 c4)⟩)))⟩)), fun c2 => hc _ tX12_could_17 _ _ _ (hc _ tX12_could_18 _ _ _ ((by obtain ⟨V6, ps7, e8, N9, ro10, sn11, f12, b13, hg14⟩ := (h.2 c2); exact hc _ tX12_could_19 _ _ _ (⟨⟨_, _, _, rfl, (by decide), sh115⟩, ⟨Nat.le_of_ble_eq_true rfl, Nat.le_of_ble_eq_true rfl, zl1, zl2, _, ctX12_isSo x3 I L V6 ps7 e8 N9 ro10 sn11 f12 b13 hg14.1 hg14.2.1 hg14.2.2.1 hg14.2.2.2.1 hg14.2.2.2.2.1 hg14.2.2.2.2.2.1 hg14.2.2.2.2.2.2.1 hg14.2.2.2.2.2.2.2.1, fun r u k20 => by obtain ⟨J5, rfl, rfl, p15⟩ := k20; exact ⟨zl3, zl4, hc _ tX12_could_22 _ _ _ (⟨fun c16 => hc _ tX12_could_35 _ _ _ (hc _ tX12_could_38 _ _ _ (((hg14.2.2.2.2.2.2.2.2 J5 p15).1 (zb_e c16)) P hw hc)), fun c17 => hc _ tX12_could_25 _ _ _ (hc _ tX12_could_26 _ _ _ (hc _ tX12_could_27 _ _ _ (⟨fun c18 => hc _ tX12_could_32 _ _ _ (hc _ tX12_could_35 _ _ _ (hc _ tX12_could_38 _ _ _ ((((hg14.2.2.2.2.2.2.2.2 J5 p15).2 (zb_n c17)).1 c18) P hw hc))), fun c19 => hc _ tX12_could_30 _ _ _ (hc _ tX12_could_31 _ _ _ (⟨nofun, rfl, rfl, (((hg14.2.2.2.2.2.2.2.2 J5 p15).2 (zb_n c17)).2 c19)⟩))⟩)))⟩)⟩⟩⟩))))⟩)))
theorem ctX12_could {zn d : Nat} (x1 : Int32) (I : Nat → Nat → Int32) (L : Nat → Nat → Int64) (V : zVw) (ps : List Nat) (e : Nat) (N : Nat) (ro : Nat → Nat) (sn : Nat → Int32) (q0 : rEv I 1 V ps) (q1 : I 126 0 = nI e ∧ e < 2 ^ 19) (q2 : I 115 18 = -4) (q3 : I 115 33 = nI N ∧ N ≤ 10) (q4 : trO I 143 N ro) (q5 : snO I 144 N sn) : zcal zty zcd false (d + 10) 209 [.ref 115, .int x1] (zSH zn, I, L) 0 0 (fun r u => ∃ (J : Nat → Nat → Int32), ∃ (y : Int32), r = some (.int y) ∧ u = (zSH zn, J, L) ∧ ((fr [115, 130, 131] I J ∧ ∀ s, s ≠ 19 → J 115 s = I 115 s) ∧ couR (cB V e ro sn N) x1 y)) := by
  refine eX12_could _ I L (gX12_could_0 _ I L ⟨fun h => ?_, fun h => ⟨I, _, rfl, rfl, ⟨fr_rf, fun _ _ => rfl⟩, fun _ => rfl, fun z => absurd (by rw [z]; decide) h, fun z => absurd (Int32.le_trans (by decide) z) h⟩⟩)
  have loop : ∀ f (J : Nat → Nat → Int32), f ≤ 39 → ((fr [115, 130, 131] I J ∧ ∀ s, s ≠ 19 → J 115 s = I 115 s) ∧ ∀ t, t < f → cB V e ro sn N t = true → nI (cnt (cB V e ro sn N) t) ≠ x1) → RX12_could zn d (fun r u => ∃ (J : Nat → Nat → Int32), ∃ (y : Int32), r = some (.int y) ∧ u = (zSH zn, J, L) ∧ ((fr [115, 130, 131] I J ∧ ∀ s, s ≠ 19 → J 115 s = I 115 s) ∧ couR (cB V e ro sn N) x1 y)) 11 [some (.ref 115), some (.int x1), some (.int (nI (cnt (cB V e ro sn N) f))), some (.int (nI f))] [] (zSH zn, J, L) := by
    refine zup (fun J hJ => ?_) (fun f J hf hJ ih => ?_)
    · refine gX12_could_11 _ _ _ J L ⟨fun _ => ⟨fun h0 => ⟨J, _, rfl, rfl, hJ.1, fun z => absurd z (Int32.not_lt.mpr h), fun z => absurd (by rw [z] at h0; exact h0 : (0 : Int32) ≤ -1) (by decide), fun _ => Or.inr ⟨fun t h39 hc z => ?_, rfl⟩⟩, fun h0 => ⟨J, _, rfl, rfl, hJ.1, fun z => absurd z (Int32.not_lt.mpr h), fun _ => rfl, fun z => absurd z h0⟩⟩, fun hc => absurd (by decide) hc⟩
      obtain ⟨i, hi, rfl⟩ := nI_of (Int32.not_lt.mpr h0)
      exact hJ.2 t h39 hc (by rw [z, tn_nI hi])
    · obtain ⟨⟨f1, f2⟩, f3⟩ := hJ
      have cJ := rEv_any q0 (f1 118 (by decide)) (f1 119 (by decide)) (f1 120 (by decide)) (f1 122 (by decide)) (f1 123 (by decide))
      refine gX12_could_11 _ _ _ J L ⟨fun hc => absurd hc (by rw [nl 38, nI_ltI (by decide) (by omega)]; omega), fun _ => ⟨V, ps, e, N, ro, sn, f, cB V e ro sn N f, cJ, by rw [f1 126 (by decide)]; exact q1, by rw [f2 18 (by decide)]; exact q2, by rw [f2 33 (by decide)]; exact q3, fun i hi => by rw [f1 143 (by decide)]; exact q4 i hi, fun i hi => by rw [f1 144 (by decide)]; exact q5 i hi, ⟨rfl, hf⟩, cB_i, fun J3 ⟨b1, b2⟩ => ?_⟩⟩
      have c1 : fr [115, 130, 131] I J3 ∧ ∀ s, s ≠ 19 → J3 115 s = I 115 s := ⟨fr_trans f1 b1, fun s hs => (b2 s hs).trans (f2 s hs)⟩
      have hcl := cnt_le (cB V e ro sn N) f
      rw [nI_1, nI_1]
      refine ⟨fun hb => ?_, fun hb => ⟨fun hne => ?_, fun heq => ?_⟩⟩
      · have := ih J3 ⟨c1, fun t ht hc => ?_⟩
        · rw [cnt_s, if_neg hb] at this; exact this
        · by_cases htf : t = f
          · rw [htf] at hc; exact absurd hc hb
          · exact f3 t (by omega) hc
      · have := ih J3 ⟨c1, fun t ht hc => ?_⟩
        · rw [cnt_s, if_pos hb] at this; exact this
        · by_cases htf : t = f
          · rw [htf]; exact hne
          · exact f3 t (by omega) hc
      · refine ⟨J3, _, rfl, rfl, c1, fun z => absurd z (Int32.not_lt.mpr h), fun z => ?_, fun _ => Or.inl ⟨f, hf, hb, ?_, rfl⟩⟩
        · rw [z] at heq
          have := congrArg Int32.toInt heq
          rw [nI_toInt (by omega)] at this
          have e1 : (-1 : Int32).toInt = -1 := by decide
          rw [e1] at this; omega
        · rw [← heq, tn_nI (by omega)]
  exact loop 0 I (Nat.zero_le _) ⟨⟨fr_rf, fun _ _ => rfl⟩, fun t ht => absurd ht (by omega)⟩

