/-! THE NAMES IN A LINE, the reference's -/
theorem byt_nm : ∀ x, x < 26 → ((97 ≤ nI (byt x) ∧ nI (byt x) ≤ 115) ↔ x < 19) := by decide +kernel
theorem byt_sub : ∀ x, x < 19 → nI (byt x) - 97 = nI x := by decide +kernel
def tkM (ks : List Nat) (i : Nat) : Nat := bm (fun m => decide (m ∈ ks.take i)) 19
theorem tkM_succ {ks : List Nat} {i x : Nat} (h : ks[i]? = some x) : tkM ks (i + 1) = if x < 19 then tkM ks i ||| 2 ^ x else tkM ks i := by
  have ht : ks.take (i + 1) = ks.take i ++ [x] := by
    rw [List.take_add_one, h]; rfl
  unfold tkM
  rw [ht]
  by_cases hx : x < 19
  · rw [if_pos hx, bm_pow hx, bm_or]
    refine bm_cong (fun m _ => ?_)
    by_cases h1 : m ∈ ks.take i <;> by_cases h2 : m = x <;> simp [h1, h2]
  · rw [if_neg hx]
    refine bm_cong (fun m hm => ?_)
    have : m ≠ x := by omega
    simp [this]
theorem or_0 (x : Int32) : x ||| 0 = x := by
  apply Int32.toBitVec_inj.mp
  simp
abbrev RX12_namesIn (zn d : Nat) (post : zP) : zK := zRun (zcal zty zcd false (d + 1)) kX12_namesIn (zLM zn) post
theorem eX12_namesIn {zn d : Nat} {post : zP} (x1 : Int32) (x2 : Int32) (I : Nat → Nat → Int32) (L : Nat → Nat → Int64) (h : RX12_namesIn zn d post 0 [some (.ref 115), some (.int x1), some (.int x2), none, none, none] [] (zSH zn, I, L)) : zcal zty zcd false (d + 2) 143 [.ref 115, .int x1, .int x2] (zSH zn, I, L) 0 0 post := zcal_of (d := d + 1) zmt143 zmc143 rfl (Nat.le_of_ble_eq_true rfl) h
theorem gX12_namesIn_0 {zn d : Nat} {post : zP} (x1 : Int32) (x2 : Int32) (I : Nat → Nat → Int32) (L : Nat → Nat → Int64) (h : RX12_namesIn zn d post 5 [some (.ref 115), some (.int x1), some (.int x2), some (.int (0 : Int32)), some (.int (0 : Int32)), none] [] (zSH zn, I, L)) : RX12_namesIn zn d post 0 [some (.ref 115), some (.int x1), some (.int x2), none, none, none] [] (zSH zn, I, L) := fun P hw hc => hc _ tX12_namesIn_0 _ _ _ (hc _ tX12_namesIn_1 _ _ _ (hc _ tX12_namesIn_2 _ _ _ (hc _ tX12_namesIn_3 _ _ _ (h P hw hc))))
theorem gX12_namesIn_5 {zn d : Nat} {post : zP} (x1 : Int32) (x2 : Int32) (x3 : Int32) (x4 : Int32) (I : Nat → Nat → Int32) (L : Nat → Nat → Int64) (h : vp_in (((19 : Int32) * x1) + x2) 133 ∧ (((I 120 ((((19 : Int32) * x1) + x2)).toNatClampNeg) ≤ x4 → post (some (.int x3)) (zSH zn, I, L)) ∧ (¬ (I 120 ((((19 : Int32) * x1) + x2)).toNatClampNeg) ≤ x4 → vp_in ((((200 : Int32) * x1) + (I 119 ((((19 : Int32) * x1) + x2)).toNatClampNeg)) + x4) 1400 ∧ ((¬ ((97 : Int32) ≤ (I 118 (((((200 : Int32) * x1) + (I 119 ((((19 : Int32) * x1) + x2)).toNatClampNeg)) + x4)).toNatClampNeg) ∧ (I 118 (((((200 : Int32) * x1) + (I 119 ((((19 : Int32) * x1) + x2)).toNatClampNeg)) + x4)).toNatClampNeg) ≤ (115 : Int32)) → RX12_namesIn zn d post 5 [some (.ref 115), some (.int x1), some (.int x2), some (.int (x3 ||| (0 : Int32))), some (.int (x4 + (1 : Int32))), none] [] (zSH zn, I, L)) ∧ ((97 : Int32) ≤ (I 118 (((((200 : Int32) * x1) + (I 119 ((((19 : Int32) * x1) + x2)).toNatClampNeg)) + x4)).toNatClampNeg) ∧ (I 118 (((((200 : Int32) * x1) + (I 119 ((((19 : Int32) * x1) + x2)).toNatClampNeg)) + x4)).toNatClampNeg) ≤ (115 : Int32) → RX12_namesIn zn d post 5 [some (.ref 115), some (.int x1), some (.int x2), some (.int (x3 ||| ((1 : Int32) <<< (((I 118 (((((200 : Int32) * x1) + (I 119 ((((19 : Int32) * x1) + x2)).toNatClampNeg)) + x4)).toNatClampNeg) - (97 : Int32)) &&& 31)))), some (.int (x4 + (1 : Int32))), none] [] (zSH zn, I, L)))))) : RX12_namesIn zn d post 5 [some (.ref 115), some (.int x1), some (.int x2), some (.int x3), some (.int x4), none] [] (zSH zn, I, L) := fun P hw hc => hc _ tX12_namesIn_5 _ _ _ (hc _ tX12_namesIn_7 _ _ _ (hc _ tX12_namesIn_8 _ _ _ (⟨_, _, sh115, (by decide), rfl, hc _ tX12_namesIn_11 _ _ _ (hc _ tX12_namesIn_13 _ _ _ (hc _ tX12_namesIn_14 _ _ _ (hc _ tX12_namesIn_15 _ _ _ (hc _ tX12_namesIn_16 _ _ _ (hc _ tX12_namesIn_17 _ _ _ (⟨_, _, _, sh120, Or.inl ⟨rfl, (by decide)⟩, h.1, hc _ tX12_namesIn_18 _ _ _ (⟨fun c1 => hc _ tX12_namesIn_80 _ _ _ (hc _ tX12_namesIn_81 _ _ _ (⟨nofun, rfl, rfl, (h.2.1 c1)⟩)), fun c2 => hc _ tX12_namesIn_21 _ _ _ (hc _ tX12_namesIn_22 _ _ _ (⟨_, _, sh115, (by decide), rfl, hc _ tX12_namesIn_25 _ _ _ (hc _ tX12_namesIn_28 _ _ _ (hc _ tX12_namesIn_29 _ _ _ (hc _ tX12_namesIn_30 _ _ _ (hc _ tX12_namesIn_31 _ _ _ (⟨_, _, sh115, (by decide), rfl, hc _ tX12_namesIn_34 _ _ _ (hc _ tX12_namesIn_36 _ _ _ (hc _ tX12_namesIn_37 _ _ _ (hc _ tX12_namesIn_38 _ _ _ (hc _ tX12_namesIn_39 _ _ _ (hc _ tX12_namesIn_40 _ _ _ (⟨_, _, _, sh119, Or.inl ⟨rfl, (by decide)⟩, h.1, hc _ tX12_namesIn_41 _ _ _ (hc _ tX12_namesIn_42 _ _ _ (hc _ tX12_namesIn_44 _ _ _ (hc _ tX12_namesIn_45 _ _ _ (⟨_, _, _, sh118, Or.inl ⟨rfl, (by decide)⟩, (h.2.2 c2).1, hc _ tX12_namesIn_46 _ _ _ (hc _ tX12_namesIn_48 _ _ _ (hc _ tX12_namesIn_49 _ _ _ (hc _ tX12_namesIn_51 _ _ _ (hc _ tX12_namesIn_53 _ _ _ (hc _ tX12_namesIn_55 _ _ _ (⟨Nat.le_of_ble_eq_true rfl, Nat.le_of_ble_eq_true rfl, zl1, zl2, _, ctX12_in (I 118 (((((200 : Int32) * x1) + (I 119 ((((19 : Int32) * x1) + x2)).toNatClampNeg)) + x4)).toNatClampNeg) (97 : Int32) (115 : Int32) I L, fun r u k5 => by obtain ⟨rfl, rfl⟩ := k5; exact ⟨zl3, zl4, hc _ tX12_namesIn_58 _ _ _ (⟨fun c3 => hc _ tX12_namesIn_71 _ _ _ (hc _ tX12_namesIn_72 _ _ _ (hc _ tX12_namesIn_73 _ _ _ (hc _ tX12_namesIn_74 _ _ _ (hc _ tX12_namesIn_77 _ _ _ (hw _ _ _ _ _ (zwk_s (zwk_s (zwk_s (zwk_s (zwk_s (zwk_n zwk_nil)))))) (((h.2.2 c2).2.1 (zb_e c3)) P hw hc)))))), fun c4 => hc _ tX12_namesIn_61 _ _ _ (hc _ tX12_namesIn_62 _ _ _ (hc _ tX12_namesIn_64 _ _ _ (hc _ tX12_namesIn_66 _ _ _ (hc _ tX12_namesIn_67 _ _ _ (hc _ tX12_namesIn_68 _ _ _ (hc _ tX12_namesIn_72 _ _ _ (hc _ tX12_namesIn_73 _ _ _ (hc _ tX12_namesIn_74 _ _ _ (hc _ tX12_namesIn_77 _ _ _ (hw _ _ _ _ _ (zwk_s (zwk_s (zwk_s (zwk_s (zwk_s (zwk_n zwk_nil)))))) (((h.2.2 c2).2.2 (zb_n c4)) P hw hc)))))))))))⟩)⟩⟩))))))⟩))))⟩))))))⟩)))))⟩))⟩)⟩))))))⟩)))
theorem ctX12_namesIn {zn d : Nat} (x1 : Int32) (x2 : Int32) (I : Nat → Nat → Int32) (L : Nat → Nat → Int64) (V : zVw) (q0 : okV V) (q1 : rLn I (tn x1) V) (q2 : zs x1 6) (q3 : zs x2 18) : zcal zty zcd false (d + 2) 143 [.ref 115, .int x1, .int x2] (zSH zn, I, L) 0 0 (fun r u => r = some (.int (nI (dV V (tn x2)))) ∧ u = (zSH zn, I, L)) := by
  obtain ⟨v, hv, rfl⟩ := q2
  obtain ⟨n, hn, rfl⟩ := q3
  obtain ⟨e0, e0', tv, tnn, hv0⟩ := e19 hv hn
  rw [tv] at q1
  rw [tnn]
  have hl := q1 n (by omega)
  refine eX12_namesIn _ _ I L (gX12_namesIn_0 _ _ I L ?_)
  cases hV : V n with
  | none =>
    rw [hV] at hl
    have hd : dV V n = 0 := by
      unfold dV
      rw [hV]
      exact (by decide : bm (fun m => inO none m) 19 = 0)
    rw [hd]
    refine gX12_namesIn_5 _ _ _ _ I L ⟨by rw [e0]; exact hv0, fun _ => ⟨rfl, rfl⟩, fun h => absurd ?_ h⟩
    rw [e0, e0', hl]; decide
  | some ks =>
    rw [hV] at hl
    obtain ⟨f, l1, l2, l3, l4⟩ := hl
    have hw := (q0 n ks hV).2.2
    have loop : ∀ (m i : Nat), i + m = ks.length → RX12_namesIn zn d (fun r u => r = some (.int (nI (dV V n))) ∧ u = (zSH zn, I, L)) 5 [some (.ref 115), some (.int (nI v)), some (.int (nI n)), some (.int (nI (tkM ks i))), some (.int (nI i)), none] [] (zSH zn, I, L) := by
      intro m
      induction m with
      | zero =>
        intro i hi
        refine gX12_namesIn_5 _ _ _ _ I L ⟨by rw [e0]; exact hv0, fun _ => ⟨?_, rfl⟩, fun h => absurd ?_ h⟩
        · unfold tkM dV
          rw [hV, List.take_of_length_le (by omega)]; rfl
        · rw [e0, e0', l3, nI_leI (by omega) (by omega)]; omega
      | succ m ih =>
        intro i hi
        obtain ⟨x, hx⟩ : ∃ x, ks[i]? = some x := ⟨_, List.getElem?_eq_getElem (show i < ks.length by omega)⟩
        obtain ⟨x1, _⟩ := okd_at hw.1 hx
        have hih := ih (i + 1) (by omega)
        rw [tkM_succ hx] at hih
        have ei : (200 : Int32) * nI v + nI f + nI i = nI (200 * v + f + i) := by rw [nl 200, pk_mul, nI_add, nI_add]
        have ei' : (nI (200 * v + f + i)).toNatClampNeg = 200 * v + f + i := nI_clamp (by omega)
        refine gX12_namesIn_5 _ _ _ _ I L ⟨by rw [e0]; exact hv0, fun h => absurd h ?_, fun _ => ⟨?_, ?_⟩⟩
        · rw [e0, e0', l3, nI_leI (by omega) (by omega)]; omega
        · rw [e0, e0', l2, ei]; exact vin_nI (by omega) (by omega)
        · rw [e0, e0', l2, ei, ei', l4 i x hx, byt_nm x x1, nI_1]
          refine ⟨fun h => ?_, fun h => ?_⟩
          · rw [if_neg h] at hih
            rw [or_0]; exact hih
          · rw [if_pos h] at hih
            rw [byt_sub x h, nI_shl1 (by omega), fa_or]; exact hih
    exact loop ks.length 0 (by omega)

