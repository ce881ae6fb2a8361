/-! ARRIVALS, the reference's; THE WORST and THE WAY -/
def nlk (V : zVw) : Prop := ∀ (n : Nat) (ks : List Nat) (w : Nat), V n = some ks → w ∈ ks → 6 ≤ w → w < 15 → (V w).isSome = true
theorem topc_nlk {V : zVw} {os : List Nat} (h : topc V os) : nlk V := fun n ks w hn hw w6 w15 => by
  obtain ⟨i, hi⟩ := List.getElem?_of_mem ((h.1 n).mpr (by rw [hn]; rfl))
  exact (h.1 w).mp (List.mem_of_mem_take (h.2.2 i n ks w hi hn hw w6 w15))
abbrev RX12_layArrivals (zn d : Nat) (post : zP) : zK := zRun (zcal zty zcd false (d + 3)) kX12_layArrivals (zLM zn) post
theorem eX12_layArrivals {zn d : Nat} {post : zP} (x1 : Int32) (x2 : Int32) (I : Nat → Nat → Int32) (L : Nat → Nat → Int64) (h : RX12_layArrivals zn d post 0 [some (.ref 115), some (.int x1), some (.int x2), none] [] (zSH zn, I, L)) : zcal zty zcd false (d + 4) 181 [.ref 115, .int x1, .int x2] (zSH zn, I, L) 0 0 post := zcal_of (d := d + 3) zmt181 zmc181 rfl (Nat.le_of_ble_eq_true rfl) h
theorem gX12_layArrivals_0 {zn d : Nat} {post : zP} (x1 : Int32) (x2 : Int32) (I : Nat → Nat → Int32) (L : Nat → Nat → Int64) (h : RX12_layArrivals zn d post 2 [some (.ref 115), some (.int x1), some (.int x2), some (.int (0 : Int32))] [] (zSH zn, I, L)) : RX12_layArrivals zn d post 0 [some (.ref 115), some (.int x1), some (.int x2), none] [] (zSH zn, I, L) := fun P hw hc => hc _ tX12_layArrivals_0 _ _ _ (hc _ tX12_layArrivals_1 _ _ _ (h P hw hc))
theorem gX12_layArrivals_2 {zn d : Nat} {post : zP} (x1 : Int32) (x2 : Int32) (x3 : Int32) (I : Nat → Nat → Int32) (L : Nat → Nat → Int64) (h : ((19 : Int32) ≤ x3 → RX12_layArrivals zn d post 23 [some (.ref 115), some (.int x1), some (.int x2), some (.int (0 : Int32))] [] (zSH zn, I, L)) ∧ (¬ (19 : Int32) ≤ x3 → vp_in x3 19 ∧ (RX12_layArrivals zn d post 2 [some (.ref 115), some (.int x1), some (.int x2), some (.int (x3 + (1 : Int32)))] [] (zSH zn, (zi I 135 (x3).toNatClampNeg (0 : Int32)), L)))) : RX12_layArrivals zn d post 2 [some (.ref 115), some (.int x1), some (.int x2), some (.int x3)] [] (zSH zn, I, L) := fun P hw hc => hc _ tX12_layArrivals_2 _ _ _ (hc _ tX12_layArrivals_3 _ _ _ (hc _ tX12_layArrivals_5 _ _ _ (⟨fun c1 => hc _ tX12_layArrivals_21 _ _ _ (hc _ tX12_layArrivals_22 _ _ _ ((h.1 c1) P hw hc)), fun c2 => hc _ tX12_layArrivals_8 _ _ _ (hc _ tX12_layArrivals_9 _ _ _ (⟨_, _, sh115, (by decide), rfl, hc _ tX12_layArrivals_12 _ _ _ (hc _ tX12_layArrivals_13 _ _ _ (hc _ tX12_layArrivals_14 _ _ _ (⟨_, _, sh135, (by decide), (h.2 c2).1, hc _ tX12_layArrivals_15 _ _ _ (hc _ tX12_layArrivals_18 _ _ _ ((h.2 c2).2 P hw hc))⟩)))⟩))⟩)))
theorem gX12_layArrivals_23 {zn d : Nat} {post : zP} (x1 : Int32) (x2 : Int32) (x3 : Int32) (I : Nat → Nat → Int32) (L : Nat → Nat → Int64) (h : vp_in x1 7 ∧ (((I 123 (x1).toNatClampNeg) ≤ x3 → RX12_layArrivals zn d post 59 [some (.ref 115), some (.int x1), some (.int x2), some (.int (15 : Int32))] [] (zSH zn, I, L)) ∧ (¬ (I 123 (x1).toNatClampNeg) ≤ x3 → vp_in (((9 : Int32) * x1) + x3) 63 ∧ ((∃ (V4 : zVw) (ks5 : List Nat) (c6 : Nat), (okV V4) ∧ (rLn I (tn x1) V4) ∧ (V4 (tn (I 122 ((((9 : Int32) * x1) + x3)).toNatClampNeg)) = some ks5) ∧ (zs x1 6) ∧ (zs (I 122 ((((9 : Int32) * x1) + x3)).toNatClampNeg) 18) ∧ (x2 = nI c6 ∧ c6 < 5) ∧ (∀ n, n < 6 → I 135 n = 0) ∧ (∀ (J3 : Nat → Nat → Int32), (fr [135, 136, 137, 138] I J3 ∧ (∀ n, n ≠ tn (I 122 ((((9 : Int32) * x1) + x3)).toNatClampNeg) → J3 135 n = I 135 n ∧ J3 136 n = I 136 n) ∧ J3 135 (tn (I 122 ((((9 : Int32) * x1) + x3)).toNatClampNeg)) = (ev (opG (dtm (I 128) (I 129 c6)) (fun _ => -4)) (enT I 135) (0, 0) ks5).1 + ldU V4 (I 129 3) (tn (I 122 ((((9 : Int32) * x1) + x3)).toNatClampNeg)) ∧ J3 136 (tn (I 122 ((((9 : Int32) * x1) + x3)).toNatClampNeg)) = (ev (opG (dtm (I 128) (I 129 c6)) (fun _ => -4)) (enT I 135) (0, 0) ks5).2) → RX12_layArrivals zn d post 23 [some (.ref 115), some (.int x1), some (.int x2), some (.int (x3 + (1 : Int32)))] [] (zSH zn, J3, L))))))) : RX12_layArrivals zn d post 23 [some (.ref 115), some (.int x1), some (.int x2), some (.int x3)] [] (zSH zn, I, L) := fun P hw hc => hc _ tX12_layArrivals_23 _ _ _ (hc _ tX12_layArrivals_24 _ _ _ (hc _ tX12_layArrivals_25 _ _ _ (⟨_, _, sh115, (by decide), rfl, hc _ tX12_layArrivals_28 _ _ _ (hc _ tX12_layArrivals_29 _ _ _ (⟨_, _, _, sh123, Or.inl ⟨rfl, (by decide)⟩, h.1, hc _ tX12_layArrivals_30 _ _ _ (⟨fun c1 => hc _ tX12_layArrivals_56 _ _ _ (hc _ tX12_layArrivals_58 _ _ _ ((h.2.1 c1) P hw hc)), fun c2 => hc _ tX12_layArrivals_33 _ _ _ (hc _ tX12_layArrivals_34 _ _ _ (hc _ tX12_layArrivals_35 _ _ _ (hc _ tX12_layArrivals_36 _ _ _ (⟨_, _, sh115, (by decide), rfl, hc _ tX12_layArrivals_39 _ _ _ (hc _ tX12_layArrivals_41 _ _ _ (hc _ tX12_layArrivals_42 _ _ _ (hc _ tX12_layArrivals_43 _ _ _ (hc _ tX12_layArrivals_44 _ _ _ (hc _ tX12_layArrivals_45 _ _ _ (⟨_, _, _, sh122, Or.inl ⟨rfl, (by decide)⟩, (h.2.2 c2).1, hc _ tX12_layArrivals_46 _ _ _ ((by obtain ⟨V4, ks5, c6, hg7⟩ := (h.2.2 c2).2; exact hc _ tX12_layArrivals_47 _ _ _ (⟨⟨_, _, _, rfl, (by decide), sh115⟩, ⟨Nat.le_of_ble_eq_true rfl, Nat.le_of_ble_eq_true rfl, zl1, zl2, _, ctX12_arrive x1 (I 122 ((((9 : Int32) * x1) + x3)).toNatClampNeg) x2 I L V4 ks5 c6 hg7.1 hg7.2.1 hg7.2.2.1 hg7.2.2.2.1 hg7.2.2.2.2.1 hg7.2.2.2.2.2.1 hg7.2.2.2.2.2.2.1, fun r u k9 => by obtain ⟨J3, rfl, rfl, p8⟩ := k9; exact ⟨zl3, zl4, hc _ tX12_layArrivals_50 _ _ _ (hc _ tX12_layArrivals_53 _ _ _ ((hg7.2.2.2.2.2.2.2 J3 p8) P hw hc))⟩⟩⟩)))⟩))))))⟩))))⟩)⟩))⟩)))
theorem gX12_layArrivals_59 {zn d : Nat} {post : zP} (x1 : Int32) (x2 : Int32) (x3 : Int32) (I : Nat → Nat → Int32) (L : Nat → Nat → Int64) (h : ((19 : Int32) ≤ x3 → post none (zSH zn, I, L)) ∧ (¬ (19 : Int32) ≤ x3 → (zs x1 6) ∧ (zs x3 18) ∧ ((¬ ((¬ I 120 (19 * tn x1 + tn x3) = -4)) → RX12_layArrivals zn d post 59 [some (.ref 115), some (.int x1), some (.int x2), some (.int (x3 + (1 : Int32)))] [] (zSH zn, I, L)) ∧ ((¬ I 120 (19 * tn x1 + tn x3) = -4) → (∃ (V6 : zVw) (ks7 : List Nat) (c8 : Nat), (okV V6) ∧ (rLn I (tn x1) V6) ∧ (V6 (tn x3) = some ks7) ∧ (zs x1 6) ∧ (zs x3 18) ∧ (x2 = nI c8 ∧ c8 < 5) ∧ (∀ n, n < 6 → I 135 n = 0) ∧ (∀ (J5 : Nat → Nat → Int32), (fr [135, 136, 137, 138] I J5 ∧ (∀ n, n ≠ tn x3 → J5 135 n = I 135 n ∧ J5 136 n = I 136 n) ∧ J5 135 (tn x3) = (ev (opG (dtm (I 128) (I 129 c8)) (fun _ => -4)) (enT I 135) (0, 0) ks7).1 + ldU V6 (I 129 3) (tn x3) ∧ J5 136 (tn x3) = (ev (opG (dtm (I 128) (I 129 c8)) (fun _ => -4)) (enT I 135) (0, 0) ks7).2) → RX12_layArrivals zn d post 59 [some (.ref 115), some (.int x1), some (.int x2), some (.int (x3 + (1 : Int32)))] [] (zSH zn, J5, L))))))) : RX12_layArrivals zn d post 59 [some (.ref 115), some (.int x1), some (.int x2), some (.int x3)] [] (zSH zn, I, L) := fun P hw hc => hc _ tX12_layArrivals_59 _ _ _ (hc _ tX12_layArrivals_60 _ _ _ (hc _ tX12_layArrivals_62 _ _ _ (⟨fun c1 => hc _ tX12_layArrivals_87 _ _ _ (⟨rfl, rfl, (h.1 c1)⟩), fun c2 => hc _ tX12_layArrivals_65 _ _ _ (hc _ tX12_layArrivals_66 _ _ _ (hc _ tX12_layArrivals_67 _ _ _ (hc _ tX12_layArrivals_68 _ _ _ (⟨⟨_, _, _, rfl, (by decide), sh115⟩, ⟨Nat.le_of_ble_eq_true rfl, Nat.le_of_ble_eq_true rfl, zl1, zl2, _, ctX12_has x1 x3 I L ((h.2 c2).1) ((h.2 c2).2.1), fun r u k12 => by obtain ⟨rfl, rfl⟩ := k12; exact ⟨zl3, zl4, hc _ tX12_layArrivals_71 _ _ _ (⟨fun c3 => hc _ tX12_layArrivals_81 _ _ _ (hc _ tX12_layArrivals_84 _ _ _ (((h.2 c2).2.2.1 (zb_e c3)) P hw hc)), fun c4 => hc _ tX12_layArrivals_74 _ _ _ (hc _ tX12_layArrivals_75 _ _ _ (hc _ tX12_layArrivals_76 _ _ _ (hc _ tX12_layArrivals_77 _ _ _ ((by obtain ⟨V6, ks7, c8, hg9⟩ := ((h.2 c2).2.2.2 (zb_n c4)); exact hc _ tX12_layArrivals_78 _ _ _ (⟨⟨_, _, _, rfl, (by decide), sh115⟩, ⟨Nat.le_of_ble_eq_true rfl, Nat.le_of_ble_eq_true rfl, zl1, zl2, _, ctX12_arrive x1 x3 x2 I L V6 ks7 c8 hg9.1 hg9.2.1 hg9.2.2.1 hg9.2.2.2.1 hg9.2.2.2.2.1 hg9.2.2.2.2.2.1 hg9.2.2.2.2.2.2.1, fun r u k11 => by obtain ⟨J5, rfl, rfl, p10⟩ := k11; exact ⟨zl3, zl4, hc _ tX12_layArrivals_81 _ _ _ (hc _ tX12_layArrivals_84 _ _ _ ((hg9.2.2.2.2.2.2.2 J5 p10) P hw hc))⟩⟩⟩))))))⟩)⟩⟩⟩))))⟩)))
theorem ctX12_layArrivals {zn d : Nat} (x1 : Int32) (x2 : Int32) (I : Nat → Nat → Int32) (L : Nat → Nat → Int64) (V : zVw) (ps : List Nat) (c : Nat) (q0 : rEv I (tn x1) V ps) (q1 : zs x1 6) (q2 : x2 = nI c ∧ c < 5) (q3 : nlk V) : zcal zty zcd false (d + 4) 181 [.ref 115, .int x1, .int x2] (zSH zn, I, L) 0 0 (fun r u => ∃ (J : Nat → Nat → Int32), r = none ∧ u = (zSH zn, J, L) ∧ (fr [135, 136, 137, 138] I J ∧ arrS V (dtm (I 128) (I 129 c)) (fun _ => -4) (I 129 3) J 135 136)) := by
  obtain ⟨v, hv, rfl⟩ := id q1
  obtain ⟨rfl, hc⟩ := q2
  have tv : tn (nI v) = v := tn_nI (by omega)
  have tv' : (nI v).toNatClampNeg = v := tv
  have hv7 : vp_in (nI v) 7 := vin_nI (by omega) (by omega)
  rw [tv] at q0
  obtain ⟨hV, hln, ⟨t1, t2, t3⟩, o2, o3, o4⟩ := id q0
  have cJ : ∀ J, fr [135, 136, 137, 138] I J → rEv J v V ps := fun J hJ => rEv_any q0 (hJ 118 (by decide)) (hJ 119 (by decide)) (hJ 120 (by decide)) (hJ 122 (by decide)) (hJ 123 (by decide))
  have ej : ∀ J, fr [135, 136, 137, 138] I J → dtm (J 128) (J 129 c) = dtm (I 128) (I 129 c) ∧ J 129 3 = I 129 3 := fun J hJ => ⟨by rw [hJ 128 (by decide), hJ 129 (by decide)], by rw [hJ 129 (by decide)]⟩
  generalize hdt : dtm (I 128) (I 129 c) = dt at ej
  generalize hld : I 129 3 = ld at ej
  have regs : ∀ n (p : (Nat → Nat → Int32) × List Nat), n ≤ 19 → (15 ≤ n ∧ fr [135, 136, 137, 138] I p.1 ∧ aI V dt (fun _ => -4) ld p.1 135 136 p.2 ∧ ∀ m, m ∈ p.2 ↔ (V m).isSome = true ∧ (m < 15 ∨ m < n)) → RX12_layArrivals zn d (fun r u => ∃ (J : Nat → Nat → Int32), r = none ∧ u = (zSH zn, J, L) ∧ (fr [135, 136, 137, 138] I J ∧ arrS V dt (fun _ => -4) ld J 135 136)) 59 [some (.ref 115), some (.int (nI v)), some (.int (nI c)), some (.int (nI n))] [] (zSH zn, p.1, L) := by
    refine zup (fun p hp => ?_) (fun n p hn hp ih => ?_)
    · obtain ⟨J, ds⟩ := p
      obtain ⟨h15, f1, f2, f3⟩ := hp
      exact gX12_layArrivals_59 _ _ _ J L ⟨fun _ => ⟨J, rfl, rfl, f1, aI_end hV f2 (fun m => by
        rw [f3 m]
        exact ⟨fun z => z.1, fun z => ⟨z, by
          obtain ⟨ks, hk⟩ := Option.isSome_iff_exists.mp z
          exact Or.inr (hV m ks hk).2.1⟩⟩)⟩, fun hc => absurd (by decide) hc⟩
    · obtain ⟨J, ds⟩ := p
      obtain ⟨h15, f1, f2, f3⟩ := hp
      dsimp only at f1 f2 f3
      have k1 := cJ J f1
      have tnn : tn (nI n) = n := tn_nI (by omega)
      have zn' : zs (nI n) 18 := ⟨n, by omega, rfl⟩
      refine gX12_layArrivals_59 _ _ _ J L ⟨fun hc => absurd hc (by rw [nl 19, nI_leI (by decide) (by omega)]; omega), fun _ => ⟨q1, zn', ?_⟩⟩
      rw [tv, tnn, rLn_has k1.2.1 hn, nI_1]
      refine ⟨fun h5 => ih (J, ds) ⟨by omega, f1, f2, fun m => ?_⟩, fun h5 => ?_⟩
      · rw [f3 m]
        constructor
        · rintro ⟨a, b⟩; exact ⟨a, by omega⟩
        · rintro ⟨a, b⟩
          refine ⟨a, ?_⟩
          have : m ≠ n := fun z => h5 (by rw [← z]; exact a)
          omega
      · obtain ⟨ks, hk⟩ := Option.isSome_iff_exists.mp h5
        have hno : n ∉ ds := fun z => by have := ((f3 n).mp z).2; omega
        have hw : ∀ w, w ∈ ks → 6 ≤ w → w < 15 → w ∈ ds := fun w hw w6 w15 => by
          rw [f3 w]
          exact ⟨q3 n ks w hk hw w6 w15, Or.inl w15⟩
        refine ⟨V, ks, c, hV, k1.2.1, hk, q1, zn', ⟨rfl, hc⟩, fun m hm => f2.2.1 m (by omega) (fun z => ?_), fun K ⟨g1, g2, g3, g4⟩ => ?_⟩
        · obtain ⟨ks', hk'⟩ := Option.isSome_iff_exists.mp ((f3 m).mp z).1
          have := (hV m ks' hk').1; omega
        · rw [(ej J f1).1, (ej J f1).2] at g3
          rw [(ej J f1).1] at g4
          refine ih (K, ds ++ [n]) ⟨by omega, fr_trans f1 g1, aI_step hV f2 hno hk hw g3 g4 g2, fun m => ?_⟩
          rw [List.mem_append, f3 m]
          constructor
          · rintro (⟨a, b⟩ | h)
            · exact ⟨a, by omega⟩
            · simp at h; subst h; exact ⟨h5, Or.inr (by omega)⟩
          · rintro ⟨a, b⟩
            by_cases hmn : m = n
            · exact Or.inr (by simp [hmn])
            · exact Or.inl ⟨a, by omega⟩
  have wires : ∀ i J, i ≤ ps.length → (fr [135, 136, 137, 138] I J ∧ aI V dt (fun _ => -4) ld J 135 136 (ps.take i)) → RX12_layArrivals zn d (fun r u => ∃ (J : Nat → Nat → Int32), r = none ∧ u = (zSH zn, J, L) ∧ (fr [135, 136, 137, 138] I J ∧ arrS V dt (fun _ => -4) ld J 135 136)) 23 [some (.ref 115), some (.int (nI v)), some (.int (nI c)), some (.int (nI i))] [] (zSH zn, J, L) := by
    refine zup (fun J hJ => ?_) (fun i J hi hJ ih => ?_)
    · obtain ⟨f1, f2⟩ := hJ
      rw [List.take_length] at f2
      refine gX12_layArrivals_23 _ _ _ J L ⟨hv7, fun _ => ?_, fun hc => absurd ?_ hc⟩
      · refine regs 15 (J, ps) (by decide) ⟨by decide, f1, f2, fun m => ?_⟩
        rw [t1 m]
        constructor
        · rintro ⟨a, b, c⟩; exact ⟨c, Or.inl b⟩
        · rintro ⟨a, b⟩
          obtain ⟨ks, hk⟩ := Option.isSome_iff_exists.mp a
          exact ⟨(hV m ks hk).1, by omega, a⟩
      · rw [tv', (cJ J f1).2.2.2.1, nI_leI (by omega) (by omega)]; omega
    · obtain ⟨f1, f2⟩ := hJ
      have k1 := cJ J f1
      obtain ⟨o, ho⟩ : ∃ o, ps[i]? = some o := ⟨_, List.getElem?_eq_getElem hi⟩
      obtain ⟨h6, h15, hos⟩ := (t1 o).mp (List.mem_of_getElem? ho)
      obtain ⟨ks, hk⟩ := Option.isSome_iff_exists.mp hos
      have e9 : (9 : Int32) * nI v + nI i = nI (9 * v + i) := by rw [nl 9, pk_mul, nI_add]
      have e9' : (nI (9 * v + i)).toNatClampNeg = 9 * v + i := nI_clamp (by omega)
      have e1 : J 122 (9 * v + i) = nI o := k1.2.2.2.2.2 i o ho
      have e3 : tn (nI o) = o := tn_nI (by omega)
      refine gX12_layArrivals_23 _ _ _ J L ⟨hv7, fun hc => absurd hc ?_, fun _ => ?_⟩
      · rw [tv', k1.2.2.2.1, nI_leI (by omega) (by omega)]; omega
      · rw [e9, e9', e1, e3, tv, nI_1]
        refine ⟨vin_nI (by omega) (by omega), V, ks, c, hV, k1.2.1, hk, q1, ⟨o, by omega, rfl⟩, ⟨rfl, hc⟩, fun m hm => f2.2.1 m (by omega) (fun z => ?_), fun K ⟨g1, g2, g3, g4⟩ => ?_⟩
        · have := (t1 m).mp (List.mem_of_mem_take z); omega
        · rw [(ej J f1).1, (ej J f1).2] at g3
          rw [(ej J f1).1] at g4
          refine ih K ⟨fr_trans f1 g1, ?_⟩
          rw [take_s ho]
          exact aI_step hV f2 (nodup_take t2 ho) hk (fun w hw w6 w15 => t3 i o ks w ho hk hw w6 w15) g3 g4 g2
  have zero : ∀ n J, n ≤ 19 → (fr [135, 136, 137, 138] I J ∧ ∀ m, m < n → J 135 m = 0) → RX12_layArrivals zn d (fun r u => ∃ (J : Nat → Nat → Int32), r = none ∧ u = (zSH zn, J, L) ∧ (fr [135, 136, 137, 138] I J ∧ arrS V dt (fun _ => -4) ld J 135 136)) 2 [some (.ref 115), some (.int (nI v)), some (.int (nI c)), some (.int (nI n))] [] (zSH zn, J, L) := by
    refine zup (fun J hJ => ?_) (fun n J hn hJ ih => ?_)
    · refine gX12_layArrivals_2 _ _ _ J L ⟨fun _ => ?_, fun hc => absurd (by decide) hc⟩
      exact wires 0 J (Nat.zero_le _) ⟨hJ.1, fun n ks hn => by simp at hn, fun n hn _ => hJ.2 n hn, fun n ks w hn => by simp at hn⟩
    · refine gX12_layArrivals_2 _ _ _ J L ⟨fun hc => absurd hc (by rw [nl 19, nI_leI (by decide) (by omega)]; omega), fun _ => ⟨vin_nI (by omega) (by omega), ?_⟩⟩
      rw [nI_clamp (by omega), nI_1]
      refine ih _ ⟨fr_trans hJ.1 (fr_zi (by decide)), fun m hm => ?_⟩
      rw [zi_at]
      by_cases hmn : m = n
      · rw [if_pos ⟨rfl, hmn⟩]
      · rw [if_neg (fun z => hmn z.2)]; exact hJ.2 m (by omega)
  exact eX12_layArrivals _ _ I L (gX12_layArrivals_0 _ _ I L (zero 0 I (by decide) ⟨fr_rf, fun m hm => absurd hm (by omega)⟩))
def RA (P : Nat → Prop) (x y : Int32 × Int32) : Prop := x.1 = y.1 ∧ ((y.2 = -4 ∧ (x.2 = 19 ∨ x.2 = 20)) ∨ ∃ u, u < 19 ∧ P u ∧ x.2 = nI u ∧ y.2 = nI u)
theorem RA_lt {P : Nat → Prop} {a b a' b' : Int32 × Int32} (h : RA P a a') (h2 : RA P b b') : RA P (lt2 a b) (lt2 a' b') := by
  unfold lt2
  rw [h.1, h2.1]
  split
  · exact h
  · exact h2
theorem RA_ad {P : Nat → Prop} {a a' : Int32 × Int32} (h : RA P a a') (d : Int32) : RA P (a.1 + d, a.2) (a'.1 + d, a'.2) := ⟨by show a.1 + d = a'.1 + d; rw [h.1], h.2⟩
theorem RA_op (P : Nat → Prop) (dt : Nat → Int32) : opRel (RA P) (opG dt nI) (opG dt (fun _ => -4)) := fun k a b c a' b' c' h1 h2 ha hb hc => by
  rcases (show k = 19 ∨ k = 20 ∨ k = 21 ∨ (k = 22 ∨ k = 23 ∨ k = 24) ∨ k = 25 by omega) with rfl | rfl | rfl | h | rfl
  · rw [opG_19, opG_19]; exact ⟨rfl, Or.inl ⟨rfl, Or.inl rfl⟩⟩
  · rw [opG_20, opG_20]; exact ⟨rfl, Or.inl ⟨rfl, Or.inr rfl⟩⟩
  · rw [opG_21, opG_21]; exact RA_ad (ha (by decide)) _
  · have : ar k = 2 := by rcases h with rfl | rfl | rfl <;> rfl
    rw [opG_m _ _ h, opG_m _ _ h]
    exact RA_ad (RA_lt (ha (by omega)) (hb (by omega))) _
  · rw [opG_25, opG_25]
    exact RA_ad (RA_lt (RA_lt (ha (by decide)) (hb (by decide))) (hc (by decide))) _
theorem arr_pair {V : zVw} (hV : okV V) {os : List Nat} (ht : topw V os) {dt : Nat → Int32} {ld : Int32} {J K : Nat → Nat → Int32} {c e c' e' : Nat} (h : arrS V dt nI ld J c e) (h' : arrS V dt (fun _ => -4) ld K c' e') : (∀ n, n < 19 → J c n = K c' n) ∧ ∀ n ks, V n = some ks → (K e' n = -4 ∧ (J e n = 19 ∨ J e n = 20)) ∨ ∃ u, u < 19 ∧ u ∈ ks ∧ J e n = nI u ∧ K e' n = nI u := by
  have hen : ∀ n, n < 19 → RA (fun _ => True) (enT J c n) (enT K c' n) := by
    refine sol_rel (RA_op _ dt) hV ht h.1 h'.1 (fun w a b w6 w15 hab => ?_) ⟨rfl, Or.inr ⟨0, by decide, trivial, rfl, rfl⟩⟩ (fun n hn hw => ?_)
    · unfold pstT
      cases V w with
      | none => exact ⟨rfl, Or.inr ⟨w, by omega, trivial, rfl, rfl⟩⟩
      | some ks => exact ⟨by show a.1 + _ = b.1 + _; rw [hab.1], Or.inr ⟨w, by omega, trivial, rfl, rfl⟩⟩
    · unfold enT
      rw [if_neg hw, if_neg hw]
      exact ⟨rfl, Or.inr ⟨n, hn, trivial, rfl, rfl⟩⟩
  have hev : ∀ n ks, V n = some ks → RA (fun u => u ∈ ks) (ev (opG dt nI) (enT J c) (0, 0) ks) (ev (opG dt (fun _ => -4)) (enT K c') (0, 0) ks) := fun n ks hk => ev_rel (RA_op _ dt) (hV n ks hk).2.2 (fun k hkk hk2 => ⟨(hen k hk2).1, Or.inr ⟨k, hk2, hkk, rfl, rfl⟩⟩) _ _
  refine ⟨fun n hn => ?_, fun n ks hk => ?_⟩
  · cases hk : V n with
    | none => rw [h.2.2 n hn hk, h'.2.2 n hn hk]
    | some ks => rw [(h.2.1 n ks hk).1, (h'.2.1 n ks hk).1, (hev n ks hk).1]
  · rw [(h.2.1 n ks hk).2, (h'.2.1 n ks hk).2]
    exact (hev n ks hk).2
theorem arr_cause {V : zVw} (hV : okV V) {dt : Nat → Int32} {ld : Int32} {J : Nat → Nat → Int32} {c e : Nat} (h : arrS V dt nI ld J c e) {n : Nat} {ks : List Nat} (hk : V n = some ks) : (J e n = 19 ∨ J e n = 20) ∨ ∃ u, u < 19 ∧ u ∈ ks ∧ J e n = nI u := by
  have hev : RA (fun u => u ∈ ks) (ev (opG dt nI) (enT J c) (0, 0) ks) (ev (opG dt (fun _ => -4)) (enT J c) (0, 0) ks) := ev_rel (RA_op _ dt) (hV n ks hk).2.2 (fun k hkk hk2 => ⟨rfl, Or.inr ⟨k, hk2, hkk, rfl, rfl⟩⟩) _ _
  rw [(h.2.1 n ks hk).2]
  rcases hev.2 with z | ⟨u, h1, h2, h3, -⟩
  · exact Or.inl z.2
  · exact Or.inr ⟨u, h1, h2, h3⟩

