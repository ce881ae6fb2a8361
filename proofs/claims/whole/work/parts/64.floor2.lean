/-! BLOCKS and NETS come -/
def lf (S : Nat) : Nat := tn (fJ6_numberOfTrailingZeros_0f7a4 (nI S ^^^ (-1)))
theorem lf_t : ∀ S, S < 256 → S ≠ 255 → fJ6_numberOfTrailingZeros_0f7a4 (nI S ^^^ (-1)) = nI (lf S) ∧ lf S < 8 ∧ S.testBit (lf S) = false ∧ ∀ i, i < lf S → S.testBit i = true := by decide +kernel
theorem allB : ∀ B, B ≤ 7 → ((1 : Int32) <<< (nI B &&& 31)) - 1 = nI (2 ^ B - 1) ∧ (1 : Int32) <<< (nI B &&& 31) = nI (2 ^ B) := by decide +kernel
theorem pm_full {p : Nat → Nat} {B : Nat} (hB : B ≤ 7) (hp : ∀ b, b < B → p b < 8) : pm p (2 ^ B - 1) B ≠ 255 := by
  intro h
  have hall : ∀ m, m < 8 → ∃ b, b < B ∧ p b = m := fun m hm => by
    have hb : (pm p (2 ^ B - 1) B).testBit m = true := by
      rw [h]
      have : ∀ m, m < 8 → (255 : Nat).testBit m = true := by decide
      exact this m hm
    obtain ⟨b, h1, -, h3⟩ := pm_bit.mp hb
    exact ⟨b, h1, h3⟩
  have hf : ∃ f : Nat → Nat, ∀ m, m < 8 → f m < B ∧ p (f m) = m := by
    refine ⟨fun m => if hm : m < 8 then Classical.choose (hall m hm) else 0, fun m hm => ?_⟩
    have := Classical.choose_spec (hall m hm)
    simp only [dif_pos hm]
    exact this
  obtain ⟨f, hf⟩ := hf
  have hinj : ∀ a b, a < 8 → b < 8 → f a = f b → a = b := fun a b ha hb e => by rw [← (hf a ha).2, ← (hf b hb).2, e]
  have hnd : ((List.range 8).map f).Nodup := by
    rw [List.nodup_iff_pairwise_ne, List.pairwise_map]
    refine List.Pairwise.imp_of_mem ?_ (List.nodup_iff_pairwise_ne.mp (List.nodup_range (n := 8)))
    intro a b ha hb hab e
    exact hab (hinj a b (List.mem_range.mp ha) (List.mem_range.mp hb) e)
  have hlen := nod_len (N := B) hnd (fun o ho => by
    obtain ⟨m, hm, rfl⟩ := List.mem_map.mp ho
    exact (hf m (List.mem_range.mp hm)).1)
  have hle : fb_sm (fun n => if n ∈ (List.range 8).map f then 1 else 0) B ≤ fb_sm (fun _ => 1) B := fb_sm_le (fun k _ => by split <;> omega)
  have e1 : ∀ B, fb_sm (fun _ => 1) B = B := fun B => by
    induction B with
    | zero => rfl
    | succ B ih => rw [fb_sm_succ, ih]
  rw [e1] at hle
  rw [List.length_map, List.length_range] at hlen
  omega
theorem pmA {p : Nat → Nat} {B m : Nat} : (pm p (2 ^ B - 1) B).testBit m = true ↔ ∃ b, b < B ∧ p b = m := by
  rw [pm_bit]
  constructor
  · rintro ⟨b, h1, -, h3⟩; exact ⟨b, h1, h3⟩
  · rintro ⟨b, h1, h3⟩; exact ⟨b, h1, by rw [Nat.testBit_two_pow_sub_one]; exact decide_eq_true h1, h3⟩
def nfr (p : Nat → Nat) (B : Nat) : Nat := lf (pm p (2 ^ B - 1) B)
abbrev RX1_addBlock (zn d : Nat) (post : zP) : zK := zRun (zcal zty zcd false (d + 2)) kX1_addBlock (zLM zn) post
theorem eX1_addBlock {zn d : Nat} {post : zP} (I : Nat → Nat → Int32) (L : Nat → Nat → Int64) (h : RX1_addBlock zn d post 0 [some (.ref 67)] [] (zSH zn, I, L)) : zcal zty zcd false (d + 3) 6 [.ref 67] (zSH zn, I, L) 0 0 post := zcal_of (d := d + 2) zmt6 zmc6 rfl (Nat.le_of_ble_eq_true rfl) h
theorem gX1_addBlock_0 {zn d : Nat} {post : zP} (I : Nat → Nat → Int32) (L : Nat → Nat → Int64) (h : ((I 67 2) < (7 : Int32) → (∃ (B3 : Nat) (p4 : Nat → Nat) (X5 : Nat), (I 67 2 = nI B3 ∧ B3 ≤ 7) ∧ (plC I 68 B3 p4) ∧ ((((1 : Int32) <<< ((I 67 2) &&& 31)) - (1 : Int32)) = nI X5 ∧ X5 < 2 ^ 31) ∧ (vp_in (I 67 2) 7 ∧ (post (some (.int (((zi (zi (zi I 68 ((I 67 2)).toNatClampNeg (fJ6_numberOfTrailingZeros_0f7a4 ((nI (pm p4 X5 B3)) ^^^ (-1 : Int32)))) 67 2 (((zi I 68 ((I 67 2)).toNatClampNeg (fJ6_numberOfTrailingZeros_0f7a4 ((nI (pm p4 X5 B3)) ^^^ (-1 : Int32)))) 67 2) + (1 : Int32))) 67 6 (0 : Int32)) 67 2) - (1 : Int32)))) (zSH zn, (zi (zi (zi I 68 ((I 67 2)).toNatClampNeg (fJ6_numberOfTrailingZeros_0f7a4 ((nI (pm p4 X5 B3)) ^^^ (-1 : Int32)))) 67 2 (((zi I 68 ((I 67 2)).toNatClampNeg (fJ6_numberOfTrailingZeros_0f7a4 ((nI (pm p4 X5 B3)) ^^^ (-1 : Int32)))) 67 2) + (1 : Int32))) 67 6 (0 : Int32)), L))))) ∧ (¬ (I 67 2) < (7 : Int32) → post (some (.int (-3 : Int32))) (zSH zn, I, L))) : RX1_addBlock zn d post 0 [some (.ref 67)] [] (zSH zn, I, L) := fun P hw hc => hc _ tX1_addBlock_0 _ _ _ (hc _ tX1_addBlock_1 _ _ _ (⟨_, sh67, (by decide), hc _ tX1_addBlock_4 _ _ _ (hc _ tX1_addBlock_6 _ _ _ (⟨fun c1 => hc _ tX1_addBlock_12 _ _ _ (hc _ tX1_addBlock_13 _ _ _ (⟨_, _, sh67, (by decide), rfl, hc _ tX1_addBlock_16 _ _ _ (hc _ tX1_addBlock_17 _ _ _ (⟨_, sh67, (by decide), hc _ tX1_addBlock_20 _ _ _ (hc _ tX1_addBlock_21 _ _ _ (hc _ tX1_addBlock_22 _ _ _ (hc _ tX1_addBlock_23 _ _ _ (⟨_, sh67, (by decide), hc _ tX1_addBlock_26 _ _ _ (hc _ tX1_addBlock_27 _ _ _ (hc _ tX1_addBlock_28 _ _ _ ((by obtain ⟨B3, p4, X5, hg6⟩ := (h.1 c1); exact hc _ tX1_addBlock_29 _ _ _ (⟨⟨_, _, _, rfl, (by decide), sh67⟩, ⟨Nat.le_of_ble_eq_true rfl, Nat.le_of_ble_eq_true rfl, zl1, zl2, _, ctX1_placesOf (((1 : Int32) <<< ((I 67 2) &&& 31)) - (1 : Int32)) I L B3 p4 X5 hg6.1 hg6.2.1 hg6.2.2.1, fun r u k8 => by obtain ⟨rfl, rfl⟩ := k8; exact ⟨zl3, zl4, hc _ tX1_addBlock_32 _ _ _ (hc _ tX1_addBlock_33 _ _ _ (hc _ tX1_addBlock_34 _ _ _ (⟨Nat.le_of_ble_eq_true rfl, Nat.le_of_ble_eq_true rfl, zl1, zl2, _, ctJ6_numberOfTrailingZeros_0f7a4 ((nI (pm p4 X5 B3)) ^^^ (-1 : Int32)) I L, fun r u k7 => by obtain ⟨rfl, rfl⟩ := k7; exact ⟨zl3, zl4, hc _ tX1_addBlock_37 _ _ _ (⟨_, _, sh68, (by decide), hg6.2.2.2.1, hc _ tX1_addBlock_38 _ _ _ (hc _ tX1_addBlock_39 _ _ _ (⟨rfl, hc _ tX1_addBlock_40 _ _ _ (⟨_, sh67, (by decide), hc _ tX1_addBlock_43 _ _ _ (hc _ tX1_addBlock_44 _ _ _ (hc _ tX1_addBlock_45 _ _ _ (⟨_, sh67, (by decide), nofun, hc _ tX1_addBlock_48 _ _ _ (hc _ tX1_addBlock_49 _ _ _ (hc _ tX1_addBlock_50 _ _ _ (⟨_, sh67, (by decide), fun _ => by decide, hc _ tX1_addBlock_53 _ _ _ (hc _ tX1_addBlock_54 _ _ _ (⟨_, sh67, (by decide), hc _ tX1_addBlock_57 _ _ _ (hc _ tX1_addBlock_58 _ _ _ (hc _ tX1_addBlock_59 _ _ _ (⟨nofun, rfl, rfl, hg6.2.2.2.2⟩)))⟩))⟩)))⟩)))⟩)⟩))⟩)⟩⟩)))⟩⟩⟩)))))⟩))))⟩))⟩)), fun c2 => hc _ tX1_addBlock_9 _ _ _ (hc _ tX1_addBlock_11 _ _ _ (⟨nofun, rfl, rfl, (h.2 c2)⟩))⟩))⟩))
theorem ctX1_addBlock {zn d : Nat} (I : Nat → Nat → Int32) (L : Nat → Nat → Int64) (B : Nat) (p : Nat → Nat) (q0 : I 67 2 = nI B ∧ B ≤ 7) (q1 : plC I 68 B p) : zcal zty zcd false (d + 3) 6 [.ref 67] (zSH zn, I, L) 0 0 (fun r u => ∃ (J : Nat → Nat → Int32), r = some (.int (if B = 7 then -3 else nI B)) ∧ u = (zSH zn, J, L) ∧ (if B = 7 then J = I else fr [67, 68] I J ∧ (∀ s, s ≠ 2 → s ≠ 6 → J 67 s = I 67 s) ∧ J 67 2 = nI (B + 1) ∧ J 67 6 = 0 ∧ (∀ b, b ≠ B → J 68 b = I 68 b) ∧ J 68 B = nI (nfr p B))) := by
  obtain ⟨eB, hB⟩ := id q0
  have hc7 : (I 67 2 < 7) ↔ B ≠ 7 := by rw [eB, nl 7, nI_ltI (by omega) (by decide)]; omega
  refine eX1_addBlock I L (gX1_addBlock_0 I L ?_)
  rw [hc7]
  refine ⟨fun h => ?_, fun h => ?_⟩
  · have h256 := pm_lt (p := p) (X := 2 ^ B - 1) (fun b hb => (q1 b hb).2)
    obtain ⟨l1, l2, -, -⟩ := lf_t _ h256 (pm_full hB (fun b hb => (q1 b hb).2))
    have hX : 2 ^ B - 1 < 2 ^ 31 := by
      have : 2 ^ B ≤ 2 ^ 7 := Nat.pow_le_pow_right (by decide) hB
      omega
    refine ⟨B, p, 2 ^ B - 1, q0, q1, ⟨by rw [eB]; exact (allB B hB).1, hX⟩, by rw [eB]; exact vin_nI (by omega) (by omega), ?_⟩
    have e67 : ∀ v, (zi I 68 B v) 67 2 = nI B := fun v => by rw [zi_ne (by decide)]; exact eB
    rw [l1, eB, nI_clamp (by omega), e67, nI_1]
    refine ⟨_, ?_, rfl, ?_⟩
    · rw [if_neg h, zi_at, if_neg (by decide), zi_at, if_pos ⟨rfl, rfl⟩, nl1, pk_sub (by omega)]; rfl
    · rw [if_neg h]
      refine ⟨fr_trans (fr_trans (fr_zi (by decide)) (fr_zi (by decide))) (fr_zi (by decide)), fun s h2 h6 => ?_, ?_, ?_, fun b hb => ?_, ?_⟩
      · rw [zi_at, if_neg (fun z => h6 z.2), zi_at, if_neg (fun z => h2 z.2), zi_ne (by decide)]
      · rw [zi_at, if_neg (by decide), zi_at, if_pos ⟨rfl, rfl⟩]
      · rw [zi_at, if_pos ⟨rfl, rfl⟩]
      · rw [zi_ne (by decide), zi_ne (by decide), zi_at, if_neg (fun z => hb z.2)]
      · rw [zi_ne (by decide), zi_ne (by decide), zi_at, if_pos ⟨rfl, rfl⟩]; rfl
  · have h7 : B = 7 := by omega
    exact ⟨I, by rw [if_pos h7], rfl, by rw [if_pos h7]⟩
abbrev RX11_block (zn d : Nat) (post : zP) : zK := zRun (zcal zty zcd false (d + 3)) kX11_block (zLM zn) post
theorem eX11_block {zn d : Nat} {post : zP} (I : Nat → Nat → Int32) (L : Nat → Nat → Int64) (h : RX11_block zn d post 0 [some (.ref 5)] [] (zSH zn, I, L)) : zcal zty zcd false (d + 4) 110 [.ref 5] (zSH zn, I, L) 0 0 post := zcal_of (d := d + 3) zmt110 zmc110 rfl (Nat.le_of_ble_eq_true rfl) h
theorem gX11_block_0 {zn d : Nat} {post : zP} (I : Nat → Nat → Int32) (L : Nat → Nat → Int64) (h : (∃ (B2 : Nat) (p3 : Nat → Nat), (I 67 2 = nI B2 ∧ B2 ≤ 7) ∧ (plC I 68 B2 p3) ∧ (∀ (J1 : Nat → Nat → Int32), (if B2 = 7 then J1 = I else fr [67, 68] I J1 ∧ (∀ s, s ≠ 2 → s ≠ 6 → J1 67 s = I 67 s) ∧ J1 67 2 = nI (B2 + 1) ∧ J1 67 6 = 0 ∧ (∀ b, b ≠ B2 → J1 68 b = I 68 b) ∧ J1 68 B2 = nI (nfr p3 B2)) → post (some (.int (if B2 = 7 then -3 else nI B2))) (zSH zn, J1, L)))) : RX11_block zn d post 0 [some (.ref 5)] [] (zSH zn, I, L) := fun P hw hc => hc _ tX11_block_0 _ _ _ (hc _ tX11_block_1 _ _ _ (⟨_, _, sh5, (by decide), rfl, (by obtain ⟨B2, p3, hg4⟩ := h; exact hc _ tX11_block_4 _ _ _ (⟨⟨_, _, _, rfl, (by decide), sh67⟩, ⟨Nat.le_of_ble_eq_true rfl, Nat.le_of_ble_eq_true rfl, zl1, zl2, _, ctX1_addBlock I L B2 p3 hg4.1 hg4.2.1, fun r u k6 => by obtain ⟨J1, rfl, rfl, p5⟩ := k6; exact ⟨zl3, zl4, hc _ tX11_block_7 _ _ _ (⟨nofun, rfl, rfl, (hg4.2.2 J1 p5)⟩)⟩⟩⟩))⟩))
theorem ctX11_block {zn d : Nat} (I : Nat → Nat → Int32) (L : Nat → Nat → Int64) (B : Nat) (p : Nat → Nat) (q0 : I 67 2 = nI B ∧ B ≤ 7) (q1 : plC I 68 B p) : zcal zty zcd false (d + 4) 110 [.ref 5] (zSH zn, I, L) 0 0 (fun r u => ∃ (J : Nat → Nat → Int32), r = some (.int (if B = 7 then -3 else nI B)) ∧ u = (zSH zn, J, L) ∧ (if B = 7 then J = I else fr [67, 68] I J ∧ (∀ s, s ≠ 2 → s ≠ 6 → J 67 s = I 67 s) ∧ J 67 2 = nI (B + 1) ∧ J 67 6 = 0 ∧ (∀ b, b ≠ B → J 68 b = I 68 b) ∧ J 68 B = nI (nfr p B))) := by
  exact eX11_block I L (gX11_block_0 I L ⟨B, p, q0, q1, fun J hJ => ⟨J, rfl, rfl, hJ⟩⟩)
abbrev RX12_block (zn d : Nat) (post : zP) : zK := zRun (zcal zty zcd false (d + 1)) kX12_block (zLM zn) post
theorem eX12_block {zn d : Nat} {post : zP} (I : Nat → Nat → Int32) (L : Nat → Nat → Int64) (h : RX12_block zn d post 0 [some (.ref 115), none] [] (zSH zn, I, L)) : zcal zty zcd false (d + 2) 185 [.ref 115] (zSH zn, I, L) 0 0 post := zcal_of (d := d + 1) zmt185 zmc185 rfl (Nat.le_of_ble_eq_true rfl) h
theorem gX12_block_0 {zn d : Nat} {post : zP} (I : Nat → Nat → Int32) (L : Nat → Nat → Int64) (h : (¬ (I 115 27) = (7 : Int32) → RX12_block zn d post 14 [some (.ref 115), some (.int (0 : Int32))] [] (zSH zn, I, L)) ∧ ((I 115 27) = (7 : Int32) → post (some (.int (-3 : Int32))) (zSH zn, I, L))) : RX12_block zn d post 0 [some (.ref 115), none] [] (zSH zn, I, L) := fun P hw hc => hc _ tX12_block_0 _ _ _ (hc _ tX12_block_1 _ _ _ (⟨_, sh115, (by decide), hc _ tX12_block_4 _ _ _ (hc _ tX12_block_6 _ _ _ (⟨fun c1 => hc _ tX12_block_12 _ _ _ (hc _ tX12_block_13 _ _ _ ((h.1 c1) P hw hc)), fun c2 => hc _ tX12_block_9 _ _ _ (hc _ tX12_block_11 _ _ _ (⟨nofun, rfl, rfl, (h.2 c2)⟩))⟩))⟩))
theorem gX12_block_14 {zn d : Nat} {post : zP} (x1 : Int32) (I : Nat → Nat → Int32) (L : Nat → Nat → Int64) (h : (∃ (B1 : Nat) (p2 : Nat → Nat), (I 115 27 = nI B1 ∧ B1 ≤ 7) ∧ (plC I 139 B1 p2) ∧ (((blA p2 x1 B1 0) = (-4 : Int32) → vp_in (I 115 27) 7 ∧ (post (some (.int (((zi (zi I 139 ((I 115 27)).toNatClampNeg x1) 115 27 (((zi I 139 ((I 115 27)).toNatClampNeg x1) 115 27) + (1 : Int32))) 115 27) - (1 : Int32)))) (zSH zn, (zi (zi I 139 ((I 115 27)).toNatClampNeg x1) 115 27 (((zi I 139 ((I 115 27)).toNatClampNeg x1) 115 27) + (1 : Int32))), L))) ∧ (¬ (blA p2 x1 B1 0) = (-4 : Int32) → RX12_block zn d post 14 [some (.ref 115), some (.int (x1 + (1 : Int32)))] [] (zSH zn, I, L))))) : RX12_block zn d post 14 [some (.ref 115), some (.int x1)] [] (zSH zn, I, L) := fun P hw hc => hc _ tX12_block_14 _ _ _ (hc _ tX12_block_15 _ _ _ ((by obtain ⟨B1, p2, hg3⟩ := h; exact hc _ tX12_block_16 _ _ _ (⟨⟨_, _, _, rfl, (by decide), sh115⟩, ⟨Nat.le_of_ble_eq_true rfl, Nat.le_of_ble_eq_true rfl, zl1, zl2, _, ctX12_blockAt x1 I L B1 p2 hg3.1 hg3.2.1, fun r u k6 => by obtain ⟨rfl, rfl⟩ := k6; exact ⟨zl3, zl4, hc _ tX12_block_19 _ _ _ (hc _ tX12_block_21 _ _ _ (⟨fun c4 => hc _ tX12_block_30 _ _ _ (hc _ tX12_block_31 _ _ _ (⟨_, _, sh115, (by decide), rfl, hc _ tX12_block_34 _ _ _ (hc _ tX12_block_35 _ _ _ (⟨_, sh115, (by decide), hc _ tX12_block_38 _ _ _ (hc _ tX12_block_39 _ _ _ (⟨_, _, sh139, (by decide), (hg3.2.2.1 c4).1, hc _ tX12_block_40 _ _ _ (hc _ tX12_block_41 _ _ _ (⟨rfl, hc _ tX12_block_42 _ _ _ (⟨_, sh115, (by decide), hc _ tX12_block_45 _ _ _ (hc _ tX12_block_46 _ _ _ (hc _ tX12_block_47 _ _ _ (⟨_, sh115, (by decide), nofun, hc _ tX12_block_50 _ _ _ (hc _ tX12_block_51 _ _ _ (⟨_, sh115, (by decide), hc _ tX12_block_54 _ _ _ (hc _ tX12_block_55 _ _ _ (hc _ tX12_block_56 _ _ _ (⟨nofun, rfl, rfl, (hg3.2.2.1 c4).2⟩)))⟩))⟩)))⟩)⟩))⟩))⟩))⟩)), fun c5 => hc _ tX12_block_24 _ _ _ (hc _ tX12_block_27 _ _ _ ((hg3.2.2.2 c5) P hw hc))⟩))⟩⟩⟩))))
theorem ctX12_block {zn d : Nat} (I : Nat → Nat → Int32) (L : Nat → Nat → Int64) (B : Nat) (p : Nat → Nat) (q0 : I 115 27 = nI B ∧ B ≤ 7) (q1 : plC I 139 B p) : zcal zty zcd false (d + 2) 185 [.ref 115] (zSH zn, I, L) 0 0 (fun r u => ∃ (J : Nat → Nat → Int32), r = some (.int (if B = 7 then -3 else nI B)) ∧ u = (zSH zn, J, L) ∧ (if B = 7 then J = I else fr [115, 139] I J ∧ (∀ s, s ≠ 27 → J 115 s = I 115 s) ∧ J 115 27 = nI (B + 1) ∧ (∀ b, b ≠ B → J 139 b = I 139 b) ∧ J 139 B = nI (nfr p B))) := by
  obtain ⟨eB, hB⟩ := id q0
  have hc7 : (I 115 27 = 7) ↔ B = 7 := by rw [eB, nl 7, nI_eq (by omega) (by decide)]
  refine eX12_block I L (gX12_block_0 I L ?_)
  rw [hc7]
  refine ⟨fun h => ?_, fun h => ⟨I, by rw [if_pos h], rfl, by rw [if_pos h]⟩⟩
  have h256 := pm_lt (p := p) (X := 2 ^ B - 1) (fun b hb => (q1 b hb).2)
  obtain ⟨l1, l2, l3, l4⟩ := lf_t _ h256 (pm_full hB (fun b hb => (q1 b hb).2))
  have loop : ∀ (m x : Nat), x + m = nfr p B → RX12_block zn d (fun r u => ∃ (J : Nat → Nat → Int32), r = some (.int (if B = 7 then -3 else nI B)) ∧ u = (zSH zn, J, L) ∧ (if B = 7 then J = I else fr [115, 139] I J ∧ (∀ s, s ≠ 27 → J 115 s = I 115 s) ∧ J 115 27 = nI (B + 1) ∧ (∀ b, b ≠ B → J 139 b = I 139 b) ∧ J 139 B = nI (nfr p B))) 14 [some (.ref 115), some (.int (nI x))] [] (zSH zn, I, L) := by
    intro m
    induction m with
    | zero =>
      intro x hx
      have hx' : x = nfr p B := by omega
      have hnone : blA p (nI x) B 0 = -4 := by
        rw [blA_4 (by omega)]
        intro i _ hi z
        have hix : p i = x := nI_inj (by have := (q1 i (by omega)).2; omega) (by rw [hx']; unfold nfr; omega) z
        have : (pm p (2 ^ B - 1) B).testBit x = true := pmA.mpr ⟨i, by omega, hix⟩
        rw [hx'] at this
        unfold nfr at this
        rw [l3] at this
        cases this
      have e115 : ∀ v, (zi I 139 B v) 115 27 = nI B := fun v => by rw [zi_ne (by decide)]; exact eB
      refine gX12_block_14 _ I L ⟨B, p, q0, q1, fun _ => ⟨by rw [eB]; exact vin_nI (by omega) (by omega), ?_⟩, fun z => absurd hnone z⟩
      rw [eB, nI_clamp (by omega), e115, nI_1]
      refine ⟨_, ?_, rfl, ?_⟩
      · rw [if_neg h, zi_at, if_pos ⟨rfl, rfl⟩, nl1, pk_sub (by omega)]; rfl
      · rw [if_neg h]
        refine ⟨fr_trans (fr_zi (by decide)) (fr_zi (by decide)), fun s hs => ?_, ?_, fun b hb => ?_, ?_⟩
        · rw [zi_at, if_neg (fun z => hs z.2), zi_ne (by decide)]
        · rw [zi_at, if_pos ⟨rfl, rfl⟩]
        · rw [zi_ne (by decide), zi_at, if_neg (fun z => hb z.2)]
        · rw [zi_ne (by decide), zi_at, if_pos ⟨rfl, rfl⟩, hx']
    | succ m ih =>
      intro x hx
      have hsome : blA p (nI x) B 0 ≠ -4 := by
        rw [Ne, blA_4 (by omega)]
        intro hn
        have hb : (pm p (2 ^ B - 1) B).testBit x = true := l4 x (by unfold nfr at hx; omega)
        obtain ⟨i, hi, e⟩ := pmA.mp hb
        exact hn i (Nat.zero_le _) (by omega) (by rw [e])
      refine gX12_block_14 _ I L ⟨B, p, q0, q1, fun z => absurd z hsome, fun _ => ?_⟩
      rw [nI_1]
      exact ih (x + 1) (by omega)
  exact loop (nfr p B) 0 (by omega)
abbrev RX1_areBlocks (zn d : Nat) (post : zP) : zK := zRun (zcal zty zcd false (d + 1)) kX1_areBlocks (zLM zn) post
theorem eX1_areBlocks {zn d : Nat} {post : zP} (x1 : Int32) (I : Nat → Nat → Int32) (L : Nat → Nat → Int64) (h : RX1_areBlocks zn d post 0 [some (.ref 67), some (.int x1)] [] (zSH zn, I, L)) : zcal zty zcd false (d + 2) 7 [.ref 67, .int x1] (zSH zn, I, L) 0 0 post := zcal_of (d := d + 1) zmt7 zmc7 rfl (Nat.le_of_ble_eq_true rfl) h
theorem gX1_areBlocks_0 {zn d : Nat} {post : zP} (x1 : Int32) (I : Nat → Nat → Int32) (L : Nat → Nat → Int64) (h : post (some (.int (if (0 ≤ x1 ∧ x1 < ((1 : Int32) <<< ((I 67 2) &&& 31))) then 1 else 0))) (zSH zn, I, L)) : RX1_areBlocks zn d post 0 [some (.ref 67), some (.int x1)] [] (zSH zn, I, L) := fun P hw hc => hc _ tX1_areBlocks_0 _ _ _ (hc _ tX1_areBlocks_1 _ _ _ (hc _ tX1_areBlocks_2 _ _ _ (hc _ tX1_areBlocks_3 _ _ _ (⟨_, sh67, (by decide), hc _ tX1_areBlocks_6 _ _ _ (hc _ tX1_areBlocks_7 _ _ _ (⟨Nat.le_of_ble_eq_true rfl, Nat.le_of_ble_eq_true rfl, zl1, zl2, _, ctX11_isBelow x1 ((1 : Int32) <<< ((I 67 2) &&& 31)) I L, fun r u k1 => by obtain ⟨rfl, rfl⟩ := k1; exact ⟨zl3, zl4, hc _ tX1_areBlocks_10 _ _ _ (⟨fun _ => zb_01, rfl, rfl, h⟩)⟩⟩))⟩))))
theorem ctX1_areBlocks {zn d : Nat} (x1 : Int32) (I : Nat → Nat → Int32) (L : Nat → Nat → Int64) (B : Nat) (q0 : I 67 2 = nI B ∧ B ≤ 7) : zcal zty zcd false (d + 2) 7 [.ref 67, .int x1] (zSH zn, I, L) 0 0 (fun r u => r = some (.int (if 0 ≤ x1 ∧ x1 < nI (2 ^ B) then 1 else 0)) ∧ u = (zSH zn, I, L)) := by
  refine eX1_areBlocks _ I L (gX1_areBlocks_0 _ I L ?_)
  rw [q0.1, (allB B q0.2).2]
  exact ⟨rfl, rfl⟩
abbrev RX1_addNet (zn d : Nat) (post : zP) : zK := zRun (zcal zty zcd false (d + 0)) kX1_addNet (zLM zn) post
theorem eX1_addNet {zn d : Nat} {post : zP} (x1 : Int32) (I : Nat → Nat → Int32) (L : Nat → Nat → Int64) (h : RX1_addNet zn d post 0 [some (.ref 67), some (.int x1)] [] (zSH zn, I, L)) : zcal zty zcd false (d + 1) 8 [.ref 67, .int x1] (zSH zn, I, L) 0 0 post := zcal_of (d := d + 0) zmt8 zmc8 rfl (Nat.le_of_ble_eq_true rfl) h
theorem gX1_addNet_0 {zn d : Nat} {post : zP} (x1 : Int32) (I : Nat → Nat → Int32) (L : Nat → Nat → Int64) (h : ((I 67 3) < (8 : Int32) → vp_in (I 67 3) 8 ∧ (post (some (.int ((zi (zi (zi I 69 ((I 67 3)).toNatClampNeg x1) 67 3 (((zi I 69 ((I 67 3)).toNatClampNeg x1) 67 3) + (1 : Int32))) 67 6 (0 : Int32)) 67 3))) (zSH zn, (zi (zi (zi I 69 ((I 67 3)).toNatClampNeg x1) 67 3 (((zi I 69 ((I 67 3)).toNatClampNeg x1) 67 3) + (1 : Int32))) 67 6 (0 : Int32)), L))) ∧ (¬ (I 67 3) < (8 : Int32) → post (some (.int (-3 : Int32))) (zSH zn, I, L))) : RX1_addNet zn d post 0 [some (.ref 67), some (.int x1)] [] (zSH zn, I, L) := fun P hw hc => hc _ tX1_addNet_0 _ _ _ (hc _ tX1_addNet_1 _ _ _ (⟨_, sh67, (by decide), hc _ tX1_addNet_4 _ _ _ (hc _ tX1_addNet_6 _ _ _ (⟨fun c1 => hc _ tX1_addNet_12 _ _ _ (hc _ tX1_addNet_13 _ _ _ (⟨_, _, sh67, (by decide), rfl, hc _ tX1_addNet_16 _ _ _ (hc _ tX1_addNet_17 _ _ _ (⟨_, sh67, (by decide), hc _ tX1_addNet_20 _ _ _ (hc _ tX1_addNet_21 _ _ _ (⟨_, _, sh69, (by decide), (h.1 c1).1, hc _ tX1_addNet_22 _ _ _ (hc _ tX1_addNet_23 _ _ _ (⟨rfl, hc _ tX1_addNet_24 _ _ _ (⟨_, sh67, (by decide), hc _ tX1_addNet_27 _ _ _ (hc _ tX1_addNet_28 _ _ _ (hc _ tX1_addNet_29 _ _ _ (⟨_, sh67, (by decide), nofun, hc _ tX1_addNet_32 _ _ _ (hc _ tX1_addNet_33 _ _ _ (hc _ tX1_addNet_34 _ _ _ (⟨_, sh67, (by decide), fun _ => by decide, hc _ tX1_addNet_37 _ _ _ (hc _ tX1_addNet_38 _ _ _ (⟨_, sh67, (by decide), hc _ tX1_addNet_41 _ _ _ (⟨nofun, rfl, rfl, (h.1 c1).2⟩)⟩))⟩)))⟩)))⟩)⟩))⟩))⟩))⟩)), fun c2 => hc _ tX1_addNet_9 _ _ _ (hc _ tX1_addNet_11 _ _ _ (⟨nofun, rfl, rfl, (h.2 c2)⟩))⟩))⟩))
theorem ctX1_addNet {zn d : Nat} (x1 : Int32) (I : Nat → Nat → Int32) (L : Nat → Nat → Int64) (M : Nat) (q0 : I 67 3 = nI M ∧ M ≤ 8) : zcal zty zcd false (d + 1) 8 [.ref 67, .int x1] (zSH zn, I, L) 0 0 (fun r u => ∃ (J : Nat → Nat → Int32), r = some (.int (if M = 8 then -3 else nI (M + 1))) ∧ u = (zSH zn, J, L) ∧ (if M = 8 then J = I else fr [67, 69] I J ∧ (∀ s, s ≠ 3 → s ≠ 6 → J 67 s = I 67 s) ∧ J 67 3 = nI (M + 1) ∧ J 67 6 = 0 ∧ (∀ k, k ≠ M → J 69 k = I 69 k) ∧ J 69 M = x1)) := by
  obtain ⟨eM, hM⟩ := q0
  have hc : (I 67 3 < 8) ↔ M ≠ 8 := by rw [eM, nl 8, nI_ltI (by omega) (by decide)]; omega
  refine eX1_addNet _ I L (gX1_addNet_0 _ I L ?_)
  rw [hc]
  refine ⟨fun h => ?_, fun h => ?_⟩
  · have e67 : ∀ v, (zi I 69 M v) 67 3 = nI M := fun v => by rw [zi_ne (by decide)]; exact eM
    rw [eM, nI_clamp (by omega), e67, nI_1]
    refine ⟨vin_nI (by omega) (by omega), _, ?_, rfl, ?_⟩
    · rw [if_neg h, zi_at, if_neg (by decide), zi_at, if_pos ⟨rfl, rfl⟩]
    · rw [if_neg h]
      refine ⟨fr_trans (fr_trans (fr_zi (by decide)) (fr_zi (by decide))) (fr_zi (by decide)), fun s h2 h6 => ?_, ?_, ?_, fun b hb => ?_, ?_⟩
      · rw [zi_at, if_neg (fun z => h6 z.2), zi_at, if_neg (fun z => h2 z.2), zi_ne (by decide)]
      · rw [zi_at, if_neg (by decide), zi_at, if_pos ⟨rfl, rfl⟩]
      · rw [zi_at, if_pos ⟨rfl, rfl⟩]
      · rw [zi_ne (by decide), zi_ne (by decide), zi_at, if_neg (fun z => hb z.2)]
      · rw [zi_ne (by decide), zi_ne (by decide), zi_at, if_pos ⟨rfl, rfl⟩]
  · have h8 : M = 8 := by omega
    exact ⟨I, by rw [if_pos h8], rfl, by rw [if_pos h8]⟩
theorem bc_7 : ∀ X, X < 128 → fJ6_bitCount_0f7a4 (nI X) = nI (pcn X 7) := by decide +kernel
theorem pcn_le (X : Nat) : ∀ n, pcn X n ≤ n
  | 0 => Nat.le_refl _
  | n + 1 => by
    have := pcn_le X n
    have e : pcn X (n + 1) = pcn X n + (if X.testBit n = true then 1 else 0) := rfl
    rw [e]; split <;> omega
theorem B128 {B X : Nat} (hB : B ≤ 7) (hX : X < 2 ^ B) : X < 128 := Nat.lt_of_lt_of_le hX (Nat.pow_le_pow_right (n := 2) (by decide) hB)
abbrev netOk (B : Nat) (x : Int32) : Prop := (0 ≤ x ∧ x < nI (2 ^ B)) ∧ 2 ≤ pcn (tn x) 7
def netU (I J : Nat → Nat → Int32) (o c f g : Nat) (B M : Nat) (x v : Int32) : Prop := if netOk B x then (if M = 8 then v = -3 ∧ J = I else v = nI (M + 1) ∧ fr [o, c] I J ∧ (∀ s, s ≠ f → s ≠ g → J o s = I o s) ∧ J o f = nI (M + 1) ∧ (g ≠ f → J o g = 0) ∧ (∀ k, k ≠ M → J c k = I c k) ∧ J c M = x) else v = -1 ∧ J = I
abbrev RX11_net (zn d : Nat) (post : zP) : zK := zRun (zcal zty zcd false (d + 2)) kX11_net (zLM zn) post
theorem eX11_net {zn d : Nat} {post : zP} (x1 : Int32) (I : Nat → Nat → Int32) (L : Nat → Nat → Int64) (h : RX11_net zn d post 0 [some (.ref 5), some (.int x1)] [] (zSH zn, I, L)) : zcal zty zcd false (d + 3) 111 [.ref 5, .int x1] (zSH zn, I, L) 0 0 post := zcal_of (d := d + 2) zmt111 zmc111 rfl (Nat.le_of_ble_eq_true rfl) h
theorem gX11_net_0 {zn d : Nat} {post : zP} (x1 : Int32) (I : Nat → Nat → Int32) (L : Nat → Nat → Int64) (h : (∃ (B1 : Nat), (I 67 2 = nI B1 ∧ B1 ≤ 7) ∧ ((¬ ((0 ≤ x1 ∧ x1 < nI (2 ^ B1))) → post (some (.int (-1 : Int32))) (zSH zn, I, L)) ∧ ((0 ≤ x1 ∧ x1 < nI (2 ^ B1)) → ((2 : Int32) ≤ (fJ6_bitCount_0f7a4 x1) → (∃ (M8 : Nat), (I 67 3 = nI M8 ∧ M8 ≤ 8) ∧ (∀ (J7 : Nat → Nat → Int32), (if M8 = 8 then J7 = I else fr [67, 69] I J7 ∧ (∀ s, s ≠ 3 → s ≠ 6 → J7 67 s = I 67 s) ∧ J7 67 3 = nI (M8 + 1) ∧ J7 67 6 = 0 ∧ (∀ k, k ≠ M8 → J7 69 k = I 69 k) ∧ J7 69 M8 = x1) → post (some (.int (if M8 = 8 then -3 else nI (M8 + 1)))) (zSH zn, J7, L)))) ∧ (¬ (2 : Int32) ≤ (fJ6_bitCount_0f7a4 x1) → post (some (.int (-1 : Int32))) (zSH zn, I, L)))))) : RX11_net zn d post 0 [some (.ref 5), some (.int x1)] [] (zSH zn, I, L) := fun P hw hc => hc _ tX11_net_0 _ _ _ (hc _ tX11_net_1 _ _ _ (⟨_, _, sh5, (by decide), rfl, hc _ tX11_net_4 _ _ _ ((by obtain ⟨B1, hg2⟩ := h; exact hc _ tX11_net_5 _ _ _ (⟨⟨_, _, _, rfl, (by decide), sh67⟩, ⟨Nat.le_of_ble_eq_true rfl, Nat.le_of_ble_eq_true rfl, zl1, zl2, _, ctX1_areBlocks x1 I L B1 hg2.1, fun r u k13 => by obtain ⟨rfl, rfl⟩ := k13; exact ⟨zl3, zl4, hc _ tX11_net_8 _ _ _ (⟨fun c3 => hc _ tX11_net_19 _ _ _ (hc _ tX11_net_20 _ _ _ (⟨nofun, rfl, rfl, (hg2.2.1 (zb_e c3))⟩)), fun c4 => hc _ tX11_net_11 _ _ _ (hc _ tX11_net_12 _ _ _ (⟨Nat.le_of_ble_eq_true rfl, Nat.le_of_ble_eq_true rfl, zl1, zl2, _, ctJ6_bitCount_0f7a4 x1 I L, fun r u k12 => by obtain ⟨rfl, rfl⟩ := k12; exact ⟨zl3, zl4, hc _ tX11_net_15 _ _ _ (hc _ tX11_net_16 _ _ _ (⟨fun c5 => hc _ tX11_net_21 _ _ _ (hc _ tX11_net_22 _ _ _ (⟨_, _, sh5, (by decide), rfl, hc _ tX11_net_25 _ _ _ ((by obtain ⟨M8, hg9⟩ := ((hg2.2.2 (zb_n c4)).1 c5); exact hc _ tX11_net_26 _ _ _ (⟨⟨_, _, _, rfl, (by decide), sh67⟩, ⟨Nat.le_of_ble_eq_true rfl, Nat.le_of_ble_eq_true rfl, zl1, zl2, _, ctX1_addNet x1 I L M8 hg9.1, fun r u k11 => by obtain ⟨J7, rfl, rfl, p10⟩ := k11; exact ⟨zl3, zl4, hc _ tX11_net_29 _ _ _ (⟨nofun, rfl, rfl, (hg9.2 J7 p10)⟩)⟩⟩⟩)))⟩)), fun c6 => hc _ tX11_net_19 _ _ _ (hc _ tX11_net_20 _ _ _ (⟨nofun, rfl, rfl, ((hg2.2.2 (zb_n c4)).2 c6)⟩))⟩))⟩⟩))⟩)⟩⟩⟩)))⟩))
theorem ctX11_net {zn d : Nat} (x1 : Int32) (I : Nat → Nat → Int32) (L : Nat → Nat → Int64) (B : Nat) (M : Nat) (q0 : I 67 2 = nI B ∧ B ≤ 7) (q1 : I 67 3 = nI M ∧ M ≤ 8) : zcal zty zcd false (d + 3) 111 [.ref 5, .int x1] (zSH zn, I, L) 0 0 (fun r u => ∃ (J : Nat → Nat → Int32), ∃ (v : Int32), r = some (.int v) ∧ u = (zSH zn, J, L) ∧ (netU I J 67 69 3 6 B M x1 v)) := by
  refine eX11_net _ I L (gX11_net_0 _ I L ⟨B, q0, fun h => ⟨I, _, rfl, rfl, by rw [netU, if_neg (fun z => h z.1)]; exact ⟨rfl, rfl⟩⟩, fun h => ?_⟩)
  have hB2 : 2 ^ B ≤ 128 := Nat.pow_le_pow_right (n := 2) (by decide) q0.2
  obtain ⟨X, rfl, -, hX, tX, -⟩ := nm_of (a := 0) (b := 2 ^ B) (by omega) (by decide) h
  have h7 := pcn_le X 7
  rw [bc_7 X (by omega), nl 2, nI_leI (by decide) (by omega)]
  refine ⟨fun h2 => ⟨M, q1, fun J hJ => ⟨J, _, rfl, rfl, ?_⟩⟩, fun h2 => ⟨I, _, rfl, rfl, by rw [netU, if_neg (fun z => h2 (by have := z.2; rw [tX] at this; exact this))]; exact ⟨rfl, rfl⟩⟩⟩
  rw [netU, if_pos ⟨h, by rw [tX]; exact h2⟩]
  by_cases hM : M = 8
  · rw [if_pos hM] at hJ ⊢
    rw [if_pos hM]
    exact ⟨rfl, hJ⟩
  · rw [if_neg hM] at hJ ⊢
    rw [if_neg hM]
    exact ⟨rfl, hJ.1, hJ.2.1, hJ.2.2.1, fun _ => hJ.2.2.2.1, hJ.2.2.2.2.1, hJ.2.2.2.2.2⟩
abbrev RX12_net (zn d : Nat) (post : zP) : zK := zRun (zcal zty zcd false (d + 1)) kX12_net (zLM zn) post
theorem eX12_net {zn d : Nat} {post : zP} (x1 : Int32) (I : Nat → Nat → Int32) (L : Nat → Nat → Int64) (h : RX12_net zn d post 0 [some (.ref 115), some (.int x1), none, none] [] (zSH zn, I, L)) : zcal zty zcd false (d + 2) 186 [.ref 115, .int x1] (zSH zn, I, L) 0 0 post := zcal_of (d := d + 1) zmt186 zmc186 rfl (Nat.le_of_ble_eq_true rfl) h
theorem gX12_net_0 {zn d : Nat} {post : zP} (x1 : Int32) (I : Nat → Nat → Int32) (L : Nat → Nat → Int64) (h : RX12_net zn d post 4 [some (.ref 115), some (.int x1), some (.int (0 : Int32)), some (.int (0 : Int32))] [] (zSH zn, I, L)) : RX12_net zn d post 0 [some (.ref 115), some (.int x1), none, none] [] (zSH zn, I, L) := fun P hw hc => hc _ tX12_net_0 _ _ _ (hc _ tX12_net_1 _ _ _ (hc _ tX12_net_2 _ _ _ (hc _ tX12_net_3 _ _ _ (h P hw hc))))
theorem gX12_net_4 {zn d : Nat} {post : zP} (x1 : Int32) (x2 : Int32) (x3 : Int32) (I : Nat → Nat → Int32) (L : Nat → Nat → Int64) (h : ((7 : Int32) ≤ x3 → (¬ ((0 : Int32) ≤ x1 ∧ x1 ≤ (((1 : Int32) <<< ((I 115 27) &&& 31)) - (1 : Int32))) → post (some (.int (-1 : Int32))) (zSH zn, I, L)) ∧ ((0 : Int32) ≤ x1 ∧ x1 ≤ (((1 : Int32) <<< ((I 115 27) &&& 31)) - (1 : Int32)) → ((2 : Int32) ≤ x2 → (¬ (I 115 29) = (8 : Int32) → vp_in (I 115 29) 8 ∧ (post (some (.int ((zi (zi I 140 ((I 115 29)).toNatClampNeg x1) 115 29 (((zi I 140 ((I 115 29)).toNatClampNeg x1) 115 29) + (1 : Int32))) 115 29))) (zSH zn, (zi (zi I 140 ((I 115 29)).toNatClampNeg x1) 115 29 (((zi I 140 ((I 115 29)).toNatClampNeg x1) 115 29) + (1 : Int32))), L))) ∧ ((I 115 29) = (8 : Int32) → post (some (.int (-3 : Int32))) (zSH zn, I, L))) ∧ (¬ (2 : Int32) ≤ x2 → post (some (.int (-1 : Int32))) (zSH zn, I, L)))) ∧ (¬ (7 : Int32) ≤ x3 → RX12_net zn d post 4 [some (.ref 115), some (.int x1), some (.int (x2 + ((x1 >>> (x3 &&& 31)) &&& (1 : Int32)))), some (.int (x3 + (1 : Int32)))] [] (zSH zn, I, L))) : RX12_net zn d post 4 [some (.ref 115), some (.int x1), some (.int x2), some (.int x3)] [] (zSH zn, I, L) := fun P hw hc => hc _ tX12_net_4 _ _ _ (hc _ tX12_net_5 _ _ _ (hc _ tX12_net_7 _ _ _ (⟨fun c1 => hc _ tX12_net_24 _ _ _ (hc _ tX12_net_25 _ _ _ (hc _ tX12_net_26 _ _ _ (hc _ tX12_net_27 _ _ _ (hc _ tX12_net_28 _ _ _ (⟨_, sh115, (by decide), hc _ tX12_net_31 _ _ _ (hc _ tX12_net_32 _ _ _ (hc _ tX12_net_33 _ _ _ (hc _ tX12_net_34 _ _ _ (⟨Nat.le_of_ble_eq_true rfl, Nat.le_of_ble_eq_true rfl, zl1, zl2, _, ctX12_in x1 (0 : Int32) (((1 : Int32) <<< ((I 115 27) &&& 31)) - (1 : Int32)) I L, fun r u k9 => by obtain ⟨rfl, rfl⟩ := k9; exact ⟨zl3, zl4, hc _ tX12_net_37 _ _ _ (⟨fun c3 => hc _ tX12_net_45 _ _ _ (hc _ tX12_net_46 _ _ _ (⟨nofun, rfl, rfl, ((h.1 c1).1 (zb_e c3))⟩)), fun c4 => hc _ tX12_net_40 _ _ _ (hc _ tX12_net_41 _ _ _ (hc _ tX12_net_42 _ _ _ (⟨fun c5 => hc _ tX12_net_47 _ _ _ (hc _ tX12_net_48 _ _ _ (⟨_, sh115, (by decide), hc _ tX12_net_51 _ _ _ (hc _ tX12_net_53 _ _ _ (⟨fun c7 => hc _ tX12_net_59 _ _ _ (hc _ tX12_net_60 _ _ _ (⟨_, _, sh115, (by decide), rfl, hc _ tX12_net_63 _ _ _ (hc _ tX12_net_64 _ _ _ (⟨_, sh115, (by decide), hc _ tX12_net_67 _ _ _ (hc _ tX12_net_68 _ _ _ (⟨_, _, sh140, (by decide), ((((h.1 c1).2 (zb_n c4)).1 c5).1 c7).1, hc _ tX12_net_69 _ _ _ (hc _ tX12_net_70 _ _ _ (⟨rfl, hc _ tX12_net_71 _ _ _ (⟨_, sh115, (by decide), hc _ tX12_net_74 _ _ _ (hc _ tX12_net_75 _ _ _ (hc _ tX12_net_76 _ _ _ (⟨_, sh115, (by decide), nofun, hc _ tX12_net_79 _ _ _ (hc _ tX12_net_80 _ _ _ (⟨_, sh115, (by decide), hc _ tX12_net_83 _ _ _ (⟨nofun, rfl, rfl, ((((h.1 c1).2 (zb_n c4)).1 c5).1 c7).2⟩)⟩))⟩)))⟩)⟩))⟩))⟩))⟩)), fun c8 => hc _ tX12_net_56 _ _ _ (hc _ tX12_net_58 _ _ _ (⟨nofun, rfl, rfl, ((((h.1 c1).2 (zb_n c4)).1 c5).2 c8)⟩))⟩))⟩)), fun c6 => hc _ tX12_net_45 _ _ _ (hc _ tX12_net_46 _ _ _ (⟨nofun, rfl, rfl, (((h.1 c1).2 (zb_n c4)).2 c6)⟩))⟩)))⟩)⟩⟩))))⟩))))), fun c2 => hc _ tX12_net_10 _ _ _ (hc _ tX12_net_11 _ _ _ (hc _ tX12_net_12 _ _ _ (hc _ tX12_net_13 _ _ _ (hc _ tX12_net_14 _ _ _ (hc _ tX12_net_15 _ _ _ (hc _ tX12_net_16 _ _ _ (hc _ tX12_net_17 _ _ _ (hc _ tX12_net_18 _ _ _ (hc _ tX12_net_21 _ _ _ ((h.2 c2) P hw hc))))))))))⟩)))
theorem ctX12_net {zn d : Nat} (x1 : Int32) (I : Nat → Nat → Int32) (L : Nat → Nat → Int64) (B : Nat) (M : Nat) (q0 : I 115 27 = nI B ∧ B ≤ 7) (q1 : I 115 29 = nI M ∧ M ≤ 8) : zcal zty zcd false (d + 2) 186 [.ref 115, .int x1] (zSH zn, I, L) 0 0 (fun r u => ∃ (J : Nat → Nat → Int32), ∃ (v : Int32), r = some (.int v) ∧ u = (zSH zn, J, L) ∧ (netU I J 115 140 29 29 B M x1 v)) := by
  obtain ⟨eB, hB⟩ := q0
  obtain ⟨eM, hM⟩ := q1
  have hB2 : 2 ^ B ≤ 128 := Nat.pow_le_pow_right (n := 2) (by decide) hB
  have hB0 : 0 < 2 ^ B := Nat.two_pow_pos B
  have hr : (0 ≤ x1 ∧ x1 ≤ ((1 : Int32) <<< ((I 115 27) &&& 31)) - 1) ↔ (0 ≤ x1 ∧ x1 < nI (2 ^ B)) := by
    rw [eB, (allB B hB).1]
    have := le256 (x := x1) (b := 2 ^ B - 1) (by omega)
    rw [show 2 ^ B - 1 + 1 = 2 ^ B by omega] at this
    exact this
  refine eX12_net _ I L (gX12_net_0 _ I L ?_)
  by_cases h : 0 ≤ x1 ∧ x1 < nI (2 ^ B)
  · obtain ⟨X, rfl, -, hX, tX, -⟩ := nm_of (a := 0) (b := 2 ^ B) (by omega) (by decide) h
    have h7 := pcn_le X 7
    have loop : ∀ n (u : Unit), n ≤ 7 → True → RX12_net zn d (fun r u => ∃ (J : Nat → Nat → Int32), ∃ (v : Int32), r = some (.int v) ∧ u = (zSH zn, J, L) ∧ (netU I J 115 140 29 29 B M (nI X) v)) 4 [some (.ref 115), some (.int (nI X)), some (.int (nI (pcn X n))), some (.int (nI n))] [] (zSH zn, I, L) := by
      refine zup (fun u _ => ?_) (fun n u hn _ ih => ?_)
      · refine gX12_net_4 _ _ _ I L ⟨fun _ => ?_, fun hc => absurd (by decide) hc⟩
        rw [hr, nl 2, nI_leI (by decide) (by omega), eM, nl 8, nI_eq (by omega) (by decide)]
        refine ⟨fun z => absurd h z, fun _ => ⟨fun h2 => ⟨fun h8 => ⟨vin_nI (by omega) (by omega), ?_⟩, fun h8 => ⟨I, _, rfl, rfl, by rw [netU, if_pos ⟨h, by rw [tX]; exact h2⟩, if_pos h8]; exact ⟨rfl, rfl⟩⟩⟩, fun h2 => ⟨I, _, rfl, rfl, by rw [netU, if_neg (fun z => h2 (by have := z.2; rw [tX] at this; exact this))]; exact ⟨rfl, rfl⟩⟩⟩⟩
        have e115 : ∀ v, (zi I 140 M v) 115 29 = nI M := fun v => by rw [zi_ne (by decide)]; exact eM
        rw [nI_clamp (by omega), e115, nI_1]
        refine ⟨_, _, rfl, rfl, ?_⟩
        rw [netU, if_pos ⟨h, by rw [tX]; exact h2⟩, if_neg h8]
        refine ⟨by rw [zi_at, if_pos ⟨rfl, rfl⟩], fr_trans (fr_zi (by decide)) (fr_zi (by decide)), fun s hs _ => ?_, by rw [zi_at, if_pos ⟨rfl, rfl⟩], fun z => absurd rfl z, fun k hk => ?_, ?_⟩
        · rw [zi_at, if_neg (fun z => hs z.2), zi_ne (by decide)]
        · rw [zi_ne (by decide), zi_at, if_neg (fun z => hk z.2)]
        · rw [zi_ne (by decide), zi_at, if_pos ⟨rfl, rfl⟩]
      · refine gX12_net_4 _ _ _ I L ⟨fun hc => absurd hc (by rw [nl 7, nI_leI (by decide) (by omega)]; omega), fun _ => ?_⟩
        have hb := bit_n (x := X) (j := n) (by omega) (by omega)
        unfold bit at hb
        rw [hb, tri_nI, nI_add, nI_1]
        exact ih u trivial
    exact loop 0 () (by decide) trivial
  · have loop : ∀ n (y : Int32), n ≤ 7 → True → RX12_net zn d (fun r u => ∃ (J : Nat → Nat → Int32), ∃ (v : Int32), r = some (.int v) ∧ u = (zSH zn, J, L) ∧ (netU I J 115 140 29 29 B M x1 v)) 4 [some (.ref 115), some (.int x1), some (.int y), some (.int (nI n))] [] (zSH zn, I, L) := by
      refine zup (fun y _ => ?_) (fun n y hn _ ih => ?_)
      · refine gX12_net_4 _ _ _ I L ⟨fun _ => ⟨fun _ => ⟨I, _, rfl, rfl, by rw [netU, if_neg (fun z => h z.1)]; exact ⟨rfl, rfl⟩⟩, fun z => absurd (hr.mp z) h⟩, fun hc => absurd (by decide) hc⟩
      · refine gX12_net_4 _ _ _ I L ⟨fun hc => absurd hc (by rw [nl 7, nI_leI (by decide) (by omega)]; omega), fun _ => ?_⟩
        rw [nI_1]
        exact ih _ trivial
    exact loop 0 _ (by decide) trivial
def occ (p : Nat → Nat) (B b y : Nat) : Prop := ∃ i, i < B ∧ i ≠ b ∧ p i = y
def inj (p : Nat → Nat) (B : Nat) : Prop := ∀ a b, a < B → b < B → p a = p b → a = b
def plU (I J : Nat → Nat → Int32) (c B : Nat) (p : Nat → Nat) (x y v : Int32) : Prop := (¬ ((0 ≤ x ∧ x < nI B) ∧ 0 ≤ y ∧ y < 8) → v = -1 ∧ J = I) ∧ (((0 ≤ x ∧ x < nI B) ∧ 0 ≤ y ∧ y < 8) → (occ p B (tn x) (tn y) → v = -2 ∧ J = I) ∧ (¬ occ p B (tn x) (tn y) → v = nI (p (tn x)) ∧ J = zi I c (tn x) y))
abbrev RX1_move (zn d : Nat) (post : zP) : zK := zRun (zcal zty zcd false (d + 2)) kX1_move (zLM zn) post
theorem eX1_move {zn d : Nat} {post : zP} (x1 : Int32) (x2 : Int32) (I : Nat → Nat → Int32) (L : Nat → Nat → Int64) (h : RX1_move zn d post 0 [some (.ref 67), some (.int x1), some (.int x2), none] [] (zSH zn, I, L)) : zcal zty zcd false (d + 3) 9 [.ref 67, .int x1, .int x2] (zSH zn, I, L) 0 0 post := zcal_of (d := d + 2) zmt9 zmc9 rfl (Nat.le_of_ble_eq_true rfl) h
theorem gX1_move_0 {zn d : Nat} {post : zP} (x1 : Int32) (x2 : Int32) (I : Nat → Nat → Int32) (L : Nat → Nat → Int64) (h : vp_in x1 7 ∧ ((x2 = (I 68 (x1).toNatClampNeg) → post (some (.int (I 68 (x1).toNatClampNeg))) (zSH zn, (zi I 68 (x1).toNatClampNeg x2), L)) ∧ (¬ x2 = (I 68 (x1).toNatClampNeg) → (∃ (B3 : Nat) (p4 : Nat → Nat) (X5 : Nat), (I 67 2 = nI B3 ∧ B3 ≤ 7) ∧ (plC I 68 B3 p4) ∧ ((((1 : Int32) <<< ((I 67 2) &&& 31)) - (1 : Int32)) = nI X5 ∧ X5 < 2 ^ 31) ∧ ((¬ ((¬ ((nI (pm p4 X5 B3)) >>> (x2 &&& 31)) &&& 1 = 0)) → post (some (.int (I 68 (x1).toNatClampNeg))) (zSH zn, (zi I 68 (x1).toNatClampNeg x2), L)) ∧ ((¬ ((nI (pm p4 X5 B3)) >>> (x2 &&& 31)) &&& 1 = 0) → post (some (.int (-2 : Int32))) (zSH zn, I, L))))))) : RX1_move zn d post 0 [some (.ref 67), some (.int x1), some (.int x2), none] [] (zSH zn, I, L) := fun P hw hc => hc _ tX1_move_0 _ _ _ (hc _ tX1_move_1 _ _ _ (⟨_, _, sh67, (by decide), rfl, hc _ tX1_move_4 _ _ _ (hc _ tX1_move_5 _ _ _ (⟨_, _, _, sh68, Or.inl ⟨rfl, (by decide)⟩, h.1, hc _ tX1_move_6 _ _ _ (hc _ tX1_move_7 _ _ _ (hc _ tX1_move_8 _ _ _ (hc _ tX1_move_9 _ _ _ (⟨fun c1 => hc _ tX1_move_34 _ _ _ (hc _ tX1_move_35 _ _ _ (⟨_, _, sh67, (by decide), rfl, hc _ tX1_move_38 _ _ _ (hc _ tX1_move_39 _ _ _ (hc _ tX1_move_40 _ _ _ (⟨_, _, sh68, (by decide), h.1, hc _ tX1_move_41 _ _ _ (hc _ tX1_move_42 _ _ _ (⟨nofun, rfl, rfl, (h.2.1 c1)⟩))⟩)))⟩)), fun c2 => hc _ tX1_move_12 _ _ _ (hc _ tX1_move_13 _ _ _ (hc _ tX1_move_14 _ _ _ (hc _ tX1_move_15 _ _ _ (⟨_, sh67, (by decide), hc _ tX1_move_18 _ _ _ (hc _ tX1_move_19 _ _ _ (hc _ tX1_move_20 _ _ _ ((by obtain ⟨B3, p4, X5, hg6⟩ := (h.2.2 c2); exact hc _ tX1_move_21 _ _ _ (⟨⟨_, _, _, rfl, (by decide), sh67⟩, ⟨Nat.le_of_ble_eq_true rfl, Nat.le_of_ble_eq_true rfl, zl1, zl2, _, ctX1_placesOf (((1 : Int32) <<< ((I 67 2) &&& 31)) - (1 : Int32)) I L B3 p4 X5 hg6.1 hg6.2.1 hg6.2.2.1, fun r u k10 => by obtain ⟨rfl, rfl⟩ := k10; exact ⟨zl3, zl4, hc _ tX1_move_24 _ _ _ (hc _ tX1_move_25 _ _ _ (⟨Nat.le_of_ble_eq_true rfl, Nat.le_of_ble_eq_true rfl, zl1, zl2, _, ctX11_hasBit (nI (pm p4 X5 B3)) x2 I L, fun r u k9 => by obtain ⟨rfl, rfl⟩ := k9; exact ⟨zl3, zl4, hc _ tX1_move_28 _ _ _ (⟨fun c7 => hc _ tX1_move_34 _ _ _ (hc _ tX1_move_35 _ _ _ (⟨_, _, sh67, (by decide), rfl, hc _ tX1_move_38 _ _ _ (hc _ tX1_move_39 _ _ _ (hc _ tX1_move_40 _ _ _ (⟨_, _, sh68, (by decide), h.1, hc _ tX1_move_41 _ _ _ (hc _ tX1_move_42 _ _ _ (⟨nofun, rfl, rfl, (hg6.2.2.2.1 (zb_e c7))⟩))⟩)))⟩)), fun c8 => hc _ tX1_move_31 _ _ _ (hc _ tX1_move_33 _ _ _ (⟨nofun, rfl, rfl, (hg6.2.2.2.2 (zb_n c8))⟩))⟩)⟩⟩))⟩⟩⟩)))))⟩))))⟩))))⟩))⟩))
theorem ctX1_move {zn d : Nat} (x1 : Int32) (x2 : Int32) (I : Nat → Nat → Int32) (L : Nat → Nat → Int64) (B : Nat) (p : Nat → Nat) (b : Nat) (y : Nat) (q0 : I 67 2 = nI B ∧ B ≤ 7) (q1 : plC I 68 B p) (q2 : inj p B) (q3 : x1 = nI b ∧ b < B) (q4 : x2 = nI y ∧ y < 8) : zcal zty zcd false (d + 3) 9 [.ref 67, .int x1, .int x2] (zSH zn, I, L) 0 0 (fun r u => ∃ (J : Nat → Nat → Int32), ∃ (v : Int32), r = some (.int v) ∧ u = (zSH zn, J, L) ∧ ((occ p B b y → v = -2 ∧ J = I) ∧ (¬ occ p B b y → v = nI (p b) ∧ J = zi I 68 b (nI y)))) := by
  obtain ⟨eB, hB⟩ := id q0
  obtain ⟨rfl, hb⟩ := q3
  obtain ⟨rfl, hy⟩ := q4
  have hp := q1 b hb
  refine eX1_move _ _ I L (gX1_move_0 _ _ I L ⟨vin_nI (by omega) (by omega), ?_⟩)
  have hX : 2 ^ B - 1 < 2 ^ 31 := by
    have : 2 ^ B ≤ 2 ^ 7 := Nat.pow_le_pow_right (by decide) hB
    omega
  rw [nI_clamp (by omega), hp.1, nI_eq (by omega) (by omega)]
  refine ⟨fun h => ⟨_, _, rfl, rfl, fun ⟨i, h1, h2, h3⟩ => absurd (q2 i b h1 hb (by rw [h3, h])) h2, fun _ => ⟨rfl, rfl⟩⟩, fun h => ⟨B, p, 2 ^ B - 1, q0, q1, ⟨by rw [eB]; exact (allB B hB).1, hX⟩, ?_⟩⟩
  have h256 := pm_lt (p := p) (X := 2 ^ B - 1) (fun b hb => (q1 b hb).2)
  rw [nI_has (by omega) (by omega), pmA]
  refine ⟨fun h2 => ⟨_, _, rfl, rfl, fun ⟨i, h3, h4, h5⟩ => absurd ⟨i, h3, h5⟩ h2, fun _ => ⟨rfl, rfl⟩⟩, fun h2 => ⟨_, _, rfl, rfl, fun _ => ⟨rfl, rfl⟩, fun h3 => ?_⟩⟩
  obtain ⟨i, h4, h5⟩ := h2
  exact absurd ⟨i, h4, fun z => h (by rw [← h5, z]), h5⟩ h3
abbrev RX11_place (zn d : Nat) (post : zP) : zK := zRun (zcal zty zcd false (d + 3)) kX11_place (zLM zn) post
theorem eX11_place {zn d : Nat} {post : zP} (x1 : Int32) (x2 : Int32) (I : Nat → Nat → Int32) (L : Nat → Nat → Int64) (h : RX11_place zn d post 0 [some (.ref 5), some (.int x1), some (.int x2)] [] (zSH zn, I, L)) : zcal zty zcd false (d + 4) 112 [.ref 5, .int x1, .int x2] (zSH zn, I, L) 0 0 post := zcal_of (d := d + 3) zmt112 zmc112 rfl (Nat.le_of_ble_eq_true rfl) h
theorem gX11_place_0 {zn d : Nat} {post : zP} (x1 : Int32) (x2 : Int32) (I : Nat → Nat → Int32) (L : Nat → Nat → Int64) (h : (¬ ((0 ≤ x1 ∧ x1 < (I 67 2))) → post (some (.int (-1 : Int32))) (zSH zn, I, L)) ∧ ((0 ≤ x1 ∧ x1 < (I 67 2)) → ((0 ≤ x2 ∧ x2 < (8 : Int32)) → (∃ (B7 : Nat) (p8 : Nat → Nat) (b9 : Nat) (y10 : Nat), (I 67 2 = nI B7 ∧ B7 ≤ 7) ∧ (plC I 68 B7 p8) ∧ (inj p8 B7) ∧ (x1 = nI b9 ∧ b9 < B7) ∧ (x2 = nI y10 ∧ y10 < 8) ∧ (∀ (J5 : Nat → Nat → Int32) (v6 : Int32), ((occ p8 B7 b9 y10 → v6 = -2 ∧ J5 = I) ∧ (¬ occ p8 B7 b9 y10 → v6 = nI (p8 b9) ∧ J5 = zi I 68 b9 (nI y10))) → post (some (.int v6)) (zSH zn, J5, L)))) ∧ (¬ ((0 ≤ x2 ∧ x2 < (8 : Int32))) → post (some (.int (-1 : Int32))) (zSH zn, I, L)))) : RX11_place zn d post 0 [some (.ref 5), some (.int x1), some (.int x2)] [] (zSH zn, I, L) := fun P hw hc => hc _ tX11_place_0 _ _ _ (hc _ tX11_place_1 _ _ _ (hc _ tX11_place_2 _ _ _ (⟨_, _, sh5, (by decide), rfl, hc _ tX11_place_5 _ _ _ (⟨_, sh67, (by decide), hc _ tX11_place_8 _ _ _ (⟨Nat.le_of_ble_eq_true rfl, Nat.le_of_ble_eq_true rfl, zl1, zl2, _, ctX11_isBelow x1 (I 67 2) I L, fun r u k15 => by obtain ⟨rfl, rfl⟩ := k15; exact ⟨zl3, zl4, hc _ tX11_place_11 _ _ _ (⟨fun c1 => hc _ tX11_place_23 _ _ _ (hc _ tX11_place_24 _ _ _ (⟨nofun, rfl, rfl, (h.1 (zb_e c1))⟩)), fun c2 => hc _ tX11_place_14 _ _ _ (hc _ tX11_place_15 _ _ _ (hc _ tX11_place_17 _ _ _ (⟨Nat.le_of_ble_eq_true rfl, Nat.le_of_ble_eq_true rfl, zl1, zl2, _, ctX11_isBelow x2 (8 : Int32) I L, fun r u k14 => by obtain ⟨rfl, rfl⟩ := k14; exact ⟨zl3, zl4, hc _ tX11_place_20 _ _ _ (⟨fun c3 => hc _ tX11_place_25 _ _ _ (hc _ tX11_place_26 _ _ _ (⟨_, _, sh5, (by decide), rfl, hc _ tX11_place_29 _ _ _ (hc _ tX11_place_30 _ _ _ ((by obtain ⟨B7, p8, b9, y10, hg11⟩ := ((h.2 (zb_n c2)).1 (zb_n c3)); exact hc _ tX11_place_31 _ _ _ (⟨⟨_, _, _, rfl, (by decide), sh67⟩, ⟨Nat.le_of_ble_eq_true rfl, Nat.le_of_ble_eq_true rfl, zl1, zl2, _, ctX1_move x1 x2 I L B7 p8 b9 y10 hg11.1 hg11.2.1 hg11.2.2.1 hg11.2.2.2.1 hg11.2.2.2.2.1, fun r u k13 => by obtain ⟨J5, v6, rfl, rfl, p12⟩ := k13; exact ⟨zl3, zl4, hc _ tX11_place_34 _ _ _ (⟨nofun, rfl, rfl, (hg11.2.2.2.2.2 J5 v6 p12)⟩)⟩⟩⟩))))⟩)), fun c4 => hc _ tX11_place_23 _ _ _ (hc _ tX11_place_24 _ _ _ (⟨nofun, rfl, rfl, ((h.2 (zb_n c2)).2 (zb_e c4))⟩))⟩)⟩⟩)))⟩)⟩⟩)⟩)⟩)))
theorem ctX11_place {zn d : Nat} (x1 : Int32) (x2 : Int32) (I : Nat → Nat → Int32) (L : Nat → Nat → Int64) (B : Nat) (p : Nat → Nat) (q0 : I 67 2 = nI B ∧ B ≤ 7) (q1 : plC I 68 B p) (q2 : inj p B) : zcal zty zcd false (d + 4) 112 [.ref 5, .int x1, .int x2] (zSH zn, I, L) 0 0 (fun r u => ∃ (J : Nat → Nat → Int32), ∃ (v : Int32), r = some (.int v) ∧ u = (zSH zn, J, L) ∧ (plU I J 68 B p x1 x2 v)) := by
  have bad : ¬ ((0 ≤ x1 ∧ x1 < nI B) ∧ 0 ≤ x2 ∧ x2 < 8) → ∃ (J : Nat → Nat → Int32) (v : Int32), some (Value.int (-1)) = some (Value.int v) ∧ ((zSH zn, I, L) : zU) = (zSH zn, J, L) ∧ plU I J 68 B p x1 x2 v := fun h => ⟨I, -1, rfl, rfl, fun _ => ⟨rfl, rfl⟩, fun z => absurd z h⟩
  refine eX11_place _ _ I L (gX11_place_0 _ _ I L ?_)
  rw [q0.1]
  refine ⟨fun h => bad (fun z => h z.1), fun h => ⟨fun h2 => ?_, fun h2 => bad (fun z => h2 z.2)⟩⟩
  obtain ⟨b, rfl, -, hb, tb, -⟩ := nm_of (a := 0) (b := B) (by have := q0.2; omega) (by decide) h
  obtain ⟨y, rfl, -, hy, ty, -⟩ := nm_of (a := 0) (b := 8) (by decide) (by decide) h2
  refine ⟨B, p, b, y, ⟨rfl, q0.2⟩, q1, q2, ⟨rfl, hb⟩, ⟨rfl, hy⟩, fun J v hJ => ⟨J, v, rfl, rfl, fun z => absurd ⟨h, h2⟩ z, fun _ => ?_⟩⟩
  rw [tb, ty]
  exact hJ
abbrev RX12_place (zn d : Nat) (post : zP) : zK := zRun (zcal zty zcd false (d + 1)) kX12_place (zLM zn) post
theorem eX12_place {zn d : Nat} {post : zP} (x1 : Int32) (x2 : Int32) (I : Nat → Nat → Int32) (L : Nat → Nat → Int64) (h : RX12_place zn d post 0 [some (.ref 115), some (.int x1), some (.int x2), none, none] [] (zSH zn, I, L)) : zcal zty zcd false (d + 2) 187 [.ref 115, .int x1, .int x2] (zSH zn, I, L) 0 0 post := zcal_of (d := d + 1) zmt187 zmc187 rfl (Nat.le_of_ble_eq_true rfl) h
theorem gX12_place_0 {zn d : Nat} {post : zP} (x1 : Int32) (x2 : Int32) (I : Nat → Nat → Int32) (L : Nat → Nat → Int64) (h : (¬ ((0 : Int32) ≤ x1 ∧ x1 ≤ ((I 115 27) - (1 : Int32))) → post (some (.int (-1 : Int32))) (zSH zn, I, L)) ∧ ((0 : Int32) ≤ x1 ∧ x1 ≤ ((I 115 27) - (1 : Int32)) → ((0 : Int32) ≤ x2 ∧ x2 ≤ (7 : Int32) → (∃ (B5 : Nat) (p6 : Nat → Nat), (I 115 27 = nI B5 ∧ B5 ≤ 7) ∧ (plC I 139 B5 p6) ∧ (((blA p6 x2 B5 0) = (-4 : Int32) → vp_in x1 7 ∧ (post (some (.int (I 139 (x1).toNatClampNeg))) (zSH zn, (zi I 139 (x1).toNatClampNeg x2), L))) ∧ (¬ (blA p6 x2 B5 0) = (-4 : Int32) → ((blA p6 x2 B5 0) = x1 → vp_in x1 7 ∧ (post (some (.int (I 139 (x1).toNatClampNeg))) (zSH zn, (zi I 139 (x1).toNatClampNeg x2), L))) ∧ (¬ (blA p6 x2 B5 0) = x1 → post (some (.int (-2 : Int32))) (zSH zn, I, L)))))) ∧ (¬ ((0 : Int32) ≤ x2 ∧ x2 ≤ (7 : Int32)) → post (some (.int (-1 : Int32))) (zSH zn, I, L)))) : RX12_place zn d post 0 [some (.ref 115), some (.int x1), some (.int x2), none, none] [] (zSH zn, I, L) := fun P hw hc => hc _ tX12_place_0 _ _ _ (hc _ tX12_place_1 _ _ _ (hc _ tX12_place_2 _ _ _ (hc _ tX12_place_3 _ _ _ (⟨_, sh115, (by decide), hc _ tX12_place_6 _ _ _ (hc _ tX12_place_7 _ _ _ (hc _ tX12_place_8 _ _ _ (⟨Nat.le_of_ble_eq_true rfl, Nat.le_of_ble_eq_true rfl, zl1, zl2, _, ctX12_in x1 (0 : Int32) ((I 115 27) - (1 : Int32)) I L, fun r u k14 => by obtain ⟨rfl, rfl⟩ := k14; exact ⟨zl3, zl4, hc _ tX12_place_11 _ _ _ (⟨fun c1 => hc _ tX12_place_24 _ _ _ (hc _ tX12_place_25 _ _ _ (⟨nofun, rfl, rfl, (h.1 (zb_e c1))⟩)), fun c2 => hc _ tX12_place_14 _ _ _ (hc _ tX12_place_15 _ _ _ (hc _ tX12_place_16 _ _ _ (hc _ tX12_place_18 _ _ _ (⟨Nat.le_of_ble_eq_true rfl, Nat.le_of_ble_eq_true rfl, zl1, zl2, _, ctX12_in x2 (0 : Int32) (7 : Int32) I L, fun r u k13 => by obtain ⟨rfl, rfl⟩ := k13; exact ⟨zl3, zl4, hc _ tX12_place_21 _ _ _ (⟨fun c3 => hc _ tX12_place_26 _ _ _ (hc _ tX12_place_27 _ _ _ ((by obtain ⟨B5, p6, hg7⟩ := ((h.2 (zb_n c2)).1 (zb_n c3)); exact hc _ tX12_place_28 _ _ _ (⟨⟨_, _, _, rfl, (by decide), sh115⟩, ⟨Nat.le_of_ble_eq_true rfl, Nat.le_of_ble_eq_true rfl, zl1, zl2, _, ctX12_blockAt x2 I L B5 p6 hg7.1 hg7.2.1, fun r u k12 => by obtain ⟨rfl, rfl⟩ := k12; exact ⟨zl3, zl4, hc _ tX12_place_31 _ _ _ (hc _ tX12_place_32 _ _ _ (hc _ tX12_place_33 _ _ _ (hc _ tX12_place_35 _ _ _ (⟨fun c8 => hc _ tX12_place_46 _ _ _ (hc _ tX12_place_47 _ _ _ (⟨_, _, sh115, (by decide), rfl, hc _ tX12_place_50 _ _ _ (hc _ tX12_place_51 _ _ _ (⟨_, _, _, sh139, Or.inl ⟨rfl, (by decide)⟩, (hg7.2.2.1 c8).1, hc _ tX12_place_52 _ _ _ (hc _ tX12_place_54 _ _ _ (hc _ tX12_place_55 _ _ _ (⟨_, _, sh115, (by decide), rfl, hc _ tX12_place_58 _ _ _ (hc _ tX12_place_59 _ _ _ (hc _ tX12_place_60 _ _ _ (⟨_, _, sh139, (by decide), (hg7.2.2.1 c8).1, hc _ tX12_place_61 _ _ _ (hc _ tX12_place_63 _ _ _ (⟨nofun, rfl, rfl, (hg7.2.2.1 c8).2⟩))⟩)))⟩)))⟩))⟩)), fun c9 => hc _ tX12_place_38 _ _ _ (hc _ tX12_place_39 _ _ _ (hc _ tX12_place_40 _ _ _ (⟨fun c10 => hc _ tX12_place_46 _ _ _ (hc _ tX12_place_47 _ _ _ (⟨_, _, sh115, (by decide), rfl, hc _ tX12_place_50 _ _ _ (hc _ tX12_place_51 _ _ _ (⟨_, _, _, sh139, Or.inl ⟨rfl, (by decide)⟩, ((hg7.2.2.2 c9).1 c10).1, hc _ tX12_place_52 _ _ _ (hc _ tX12_place_54 _ _ _ (hc _ tX12_place_55 _ _ _ (⟨_, _, sh115, (by decide), rfl, hc _ tX12_place_58 _ _ _ (hc _ tX12_place_59 _ _ _ (hc _ tX12_place_60 _ _ _ (⟨_, _, sh139, (by decide), ((hg7.2.2.2 c9).1 c10).1, hc _ tX12_place_61 _ _ _ (hc _ tX12_place_63 _ _ _ (⟨nofun, rfl, rfl, ((hg7.2.2.2 c9).1 c10).2⟩))⟩)))⟩)))⟩))⟩)), fun c11 => hc _ tX12_place_43 _ _ _ (hc _ tX12_place_45 _ _ _ (⟨nofun, rfl, rfl, ((hg7.2.2.2 c9).2 c11)⟩))⟩)))⟩))))⟩⟩⟩)))), fun c4 => hc _ tX12_place_24 _ _ _ (hc _ tX12_place_25 _ _ _ (⟨nofun, rfl, rfl, ((h.2 (zb_n c2)).2 (zb_e c4))⟩))⟩)⟩⟩))))⟩)⟩⟩)))⟩))))
theorem leM {x : Int32} {M : Nat} (hM : M < 2 ^ 31) : (0 ≤ x ∧ x ≤ nI M - 1) ↔ (0 ≤ x ∧ x < nI M) := by
  cases M with
  | zero =>
    constructor
    · rintro ⟨h1, h2⟩; exact absurd (Int32.le_trans h1 h2) (by decide)
    · rintro ⟨h1, h2⟩; exact absurd (Int32.lt_of_le_of_lt h1 h2) (by decide)
  | succ M =>
    have e : nI (M + 1) - 1 = nI M := by rw [nl1, pk_sub (by omega)]; rfl
    rw [e]
    exact le256 hM
theorem ctX12_place {zn d : Nat} (x1 : Int32) (x2 : Int32) (I : Nat → Nat → Int32) (L : Nat → Nat → Int64) (B : Nat) (p : Nat → Nat) (q0 : I 115 27 = nI B ∧ B ≤ 7) (q1 : plC I 139 B p) (q2 : inj p B) : zcal zty zcd false (d + 2) 187 [.ref 115, .int x1, .int x2] (zSH zn, I, L) 0 0 (fun r u => ∃ (J : Nat → Nat → Int32), ∃ (v : Int32), r = some (.int v) ∧ u = (zSH zn, J, L) ∧ (plU I J 139 B p x1 x2 v)) := by
  obtain ⟨eB, hB⟩ := id q0
  have e7 : ∀ x : Int32, (0 ≤ x ∧ x ≤ 7) ↔ (0 ≤ x ∧ x < 8) := fun x => le256 (b := 7) (by decide)
  have bad : ¬ ((0 ≤ x1 ∧ x1 < nI B) ∧ 0 ≤ x2 ∧ x2 < 8) → ∃ (J : Nat → Nat → Int32) (v : Int32), some (Value.int (-1)) = some (Value.int v) ∧ ((zSH zn, I, L) : zU) = (zSH zn, J, L) ∧ plU I J 139 B p x1 x2 v := fun h => ⟨I, -1, rfl, rfl, fun _ => ⟨rfl, rfl⟩, fun z => absurd z h⟩
  refine eX12_place _ _ I L (gX12_place_0 _ _ I L ?_)
  rw [eB, leM (by omega), e7]
  refine ⟨fun h => bad (fun z => h z.1), fun h => ⟨fun h2 => ⟨B, p, ⟨by rfl, hB⟩, q1, ?_⟩, fun h2 => bad (fun z => h2 z.2)⟩⟩
  obtain ⟨b, rfl, -, hb, tb, tb'⟩ := nm_of (a := 0) (b := B) (by omega) (by decide) h
  obtain ⟨y, rfl, -, hy, ty, -⟩ := nm_of (a := 0) (b := 8) (by decide) (by decide) h2
  have hv : vp_in (nI b) 7 := vin_nI (by omega) (by decide)
  rw [tb', (q1 b hb).1]
  have good : ¬ occ p B b y → ∃ (J : Nat → Nat → Int32) (v : Int32), some (Value.int (nI (p b))) = some (Value.int v) ∧ ((zSH zn, zi I 139 b (nI y), L) : zU) = (zSH zn, J, L) ∧ plU I J 139 B p (nI b) (nI y) v := fun h3 => ⟨_, _, rfl, rfl, fun z => absurd ⟨h, h2⟩ z, fun _ => by rw [tb, ty]; exact ⟨fun z => absurd z h3, fun _ => ⟨rfl, rfl⟩⟩⟩
  refine ⟨fun h3 => ⟨hv, good ?_⟩, fun h3 => ?_⟩
  · rw [blA_4 (by omega)] at h3
    rintro ⟨i, h4, -, h6⟩
    exact h3 i (Nat.zero_le _) (by omega) (by rw [h6])
  · obtain ⟨i, -, h5, h6, h7⟩ := blA_s (by omega) h3
    have hi : p i = y := nI_inj (by have := (q1 i (by omega)).2; omega) (by omega) h6
    rw [h7, nI_eq (by omega) (by omega)]
    refine ⟨fun h8 => ⟨hv, good ?_⟩, fun h8 => ⟨I, _, rfl, rfl, fun z => absurd ⟨h, h2⟩ z, fun _ => ?_⟩⟩
    · rintro ⟨j, h9, h10, h11⟩
      exact h10 (by rw [q2 j i h9 (by omega) (by rw [h11, hi]), h8])
    · rw [tb, ty]
      exact ⟨fun _ => ⟨rfl, rfl⟩, fun z => absurd ⟨i, by omega, h8, hi⟩ z⟩
def wirS (B M : Nat) (nb p : Nat → Nat) (x : Int32) : Int32 := if x = -1 then nI (wa B M nb p) else if 0 ≤ x ∧ x < nI M then nI (spN (pm p (nb (tn x)) B)) else -1
abbrev RX11_wire (zn d : Nat) (post : zP) : zK := zRun (zcal zty zcd false (d + 4)) kX11_wire (zLM zn) post
theorem eX11_wire {zn d : Nat} {post : zP} (x1 : Int32) (I : Nat → Nat → Int32) (L : Nat → Nat → Int64) (h : RX11_wire zn d post 0 [some (.ref 5), some (.int x1)] [] (zSH zn, I, L)) : zcal zty zcd false (d + 5) 113 [.ref 5, .int x1] (zSH zn, I, L) 0 0 post := zcal_of (d := d + 4) zmt113 zmc113 rfl (Nat.le_of_ble_eq_true rfl) h
theorem gX11_wire_0 {zn d : Nat} {post : zP} (x1 : Int32) (I : Nat → Nat → Int32) (L : Nat → Nat → Int64) (h : (¬ x1 = (-1 : Int32) → (¬ ((0 ≤ x1 ∧ x1 < (I 67 3))) → post (some (.int (-1 : Int32))) (zSH zn, I, L)) ∧ ((0 ≤ x1 ∧ x1 < (I 67 3)) → (∃ (B5 : Nat) (p6 : Nat → Nat) (X7 : Nat) (k8 : Nat), (I 67 2 = nI B5 ∧ B5 ≤ 7) ∧ (plC I 68 B5 p6) ∧ (x1 = nI k8 ∧ k8 < 8) ∧ (I 69 k8 = nI X7 ∧ X7 < 128) ∧ (post (some (.int (nI (spN (pm p6 X7 B5))))) (zSH zn, I, L))))) ∧ (x1 = (-1 : Int32) → (∃ (B12 : Nat) (M13 : Nat) (p14 : Nat → Nat) (nb15 : Nat → Nat), (I 67 2 = nI B12 ∧ B12 ≤ 7) ∧ (I 67 3 = nI M13 ∧ M13 ≤ 8) ∧ (plC I 68 B12 p14) ∧ (ntC I 69 M13 nb15) ∧ (post (some (.int (nI (wa B12 M13 nb15 p14)))) (zSH zn, I, L))))) : RX11_wire zn d post 0 [some (.ref 5), some (.int x1)] [] (zSH zn, I, L) := fun P hw hc => hc _ tX11_wire_0 _ _ _ (hc _ tX11_wire_1 _ _ _ (hc _ tX11_wire_2 _ _ _ (⟨fun c1 => hc _ tX11_wire_13 _ _ _ (hc _ tX11_wire_14 _ _ _ (hc _ tX11_wire_15 _ _ _ (⟨_, _, sh5, (by decide), rfl, hc _ tX11_wire_18 _ _ _ (⟨_, sh67, (by decide), hc _ tX11_wire_21 _ _ _ (⟨Nat.le_of_ble_eq_true rfl, Nat.le_of_ble_eq_true rfl, zl1, zl2, _, ctX11_isBelow x1 (I 67 3) I L, fun r u k11 => by obtain ⟨rfl, rfl⟩ := k11; exact ⟨zl3, zl4, hc _ tX11_wire_24 _ _ _ (⟨fun c3 => hc _ tX11_wire_38 _ _ _ (hc _ tX11_wire_39 _ _ _ (⟨nofun, rfl, rfl, ((h.1 c1).1 (zb_e c3))⟩)), fun c4 => hc _ tX11_wire_27 _ _ _ (hc _ tX11_wire_28 _ _ _ (⟨_, _, sh5, (by decide), rfl, hc _ tX11_wire_31 _ _ _ ((by obtain ⟨B5, p6, X7, k8, hg9⟩ := ((h.1 c1).2 (zb_n c4)); exact hc _ tX11_wire_32 _ _ _ (⟨⟨_, _, _, rfl, (by decide), sh67⟩, ⟨Nat.le_of_ble_eq_true rfl, Nat.le_of_ble_eq_true rfl, zl1, zl2, _, ctX1_wireOf x1 I L B5 p6 X7 k8 hg9.1 hg9.2.1 hg9.2.2.1 hg9.2.2.2.1, fun r u k10 => by obtain ⟨rfl, rfl⟩ := k10; exact ⟨zl3, zl4, hc _ tX11_wire_35 _ _ _ (hc _ tX11_wire_39 _ _ _ (⟨nofun, rfl, rfl, hg9.2.2.2.2⟩))⟩⟩⟩)))⟩))⟩)⟩⟩)⟩)⟩))), fun c2 => hc _ tX11_wire_5 _ _ _ (hc _ tX11_wire_6 _ _ _ (⟨_, _, sh5, (by decide), rfl, (by obtain ⟨B12, M13, p14, nb15, hg16⟩ := (h.2 c2); exact hc _ tX11_wire_9 _ _ _ (⟨⟨_, _, _, rfl, (by decide), sh67⟩, ⟨Nat.le_of_ble_eq_true rfl, Nat.le_of_ble_eq_true rfl, zl1, zl2, _, ctX1_wireOfAll I L B12 M13 p14 nb15 hg16.1 hg16.2.1 hg16.2.2.1 hg16.2.2.2.1, fun r u k17 => by obtain ⟨rfl, rfl⟩ := k17; exact ⟨zl3, zl4, hc _ tX11_wire_12 _ _ _ (⟨nofun, rfl, rfl, hg16.2.2.2.2⟩)⟩⟩⟩))⟩))⟩)))
theorem ctX11_wire {zn d : Nat} (x1 : Int32) (I : Nat → Nat → Int32) (L : Nat → Nat → Int64) (B : Nat) (M : Nat) (p : Nat → Nat) (nb : Nat → Nat) (q0 : I 67 2 = nI B ∧ B ≤ 7) (q1 : I 67 3 = nI M ∧ M ≤ 8) (q2 : plC I 68 B p) (q3 : ntC I 69 M nb) : zcal zty zcd false (d + 5) 113 [.ref 5, .int x1] (zSH zn, I, L) 0 0 (fun r u => r = some (.int (wirS B M nb p x1)) ∧ u = (zSH zn, I, L)) := by
  refine eX11_wire _ I L (gX11_wire_0 _ I L ?_)
  rw [q1.1]
  refine ⟨fun h => ⟨fun h2 => ⟨by rw [wirS, if_neg h, if_neg h2], rfl⟩, fun h2 => ?_⟩, fun h => ⟨B, M, p, nb, q0, ⟨by rfl, q1.2⟩, q2, q3, by rw [wirS, if_pos h], rfl⟩⟩
  obtain ⟨k, rfl, -, hk, tk, -⟩ := nm_of (a := 0) (b := M) (by have := q1.2; omega) (by decide) h2
  exact ⟨B, p, nb k, k, q0, q2, ⟨rfl, by have := q1.2; omega⟩, q3 k hk, by rw [wirS, if_neg h, if_pos h2, tk], rfl⟩
abbrev RX12_wire (zn d : Nat) (post : zP) : zK := zRun (zcal zty zcd false (d + 2)) kX12_wire (zLM zn) post
theorem eX12_wire {zn d : Nat} {post : zP} (x1 : Int32) (I : Nat → Nat → Int32) (L : Nat → Nat → Int64) (h : RX12_wire zn d post 0 [some (.ref 115), some (.int x1)] [] (zSH zn, I, L)) : zcal zty zcd false (d + 3) 191 [.ref 115, .int x1] (zSH zn, I, L) 0 0 post := zcal_of (d := d + 2) zmt191 zmc191 rfl (Nat.le_of_ble_eq_true rfl) h
theorem gX12_wire_0 {zn d : Nat} {post : zP} (x1 : Int32) (I : Nat → Nat → Int32) (L : Nat → Nat → Int64) (h : (x1 = (-1 : Int32) → (∀ (J3 : Nat → Nat → Int32), (fr [141] I J3 ∧ ∀ b, b < 7 → J3 141 b = I 139 b) → (0 ≤ x1 → (∃ (B7 : Nat) (p8 : Nat → Nat) (X9 : Nat) (k10 : Nat), (J3 115 27 = nI B7 ∧ B7 ≤ 7) ∧ (plC J3 141 B7 p8) ∧ (x1 = nI k10 ∧ k10 < 8) ∧ (J3 140 k10 = nI X9 ∧ X9 < 2 ^ B7 ∧ X9 ≠ 0) ∧ (post (some (.int (nI (spN (pm p8 X9 B7))))) (zSH zn, J3, L)))) ∧ (¬ 0 ≤ x1 → (∃ (B13 : Nat) (M14 : Nat) (p15 : Nat → Nat) (nb16 : Nat → Nat), (J3 115 27 = nI B13 ∧ B13 ≤ 7) ∧ (J3 115 29 = nI M14 ∧ M14 ≤ 8) ∧ (plC J3 141 B13 p15) ∧ (ntR J3 140 B13 M14 nb16) ∧ (post (some (.int (nI (wa B13 M14 nb16 p15)))) (zSH zn, J3, L)))))) ∧ (¬ x1 = (-1 : Int32) → ((0 : Int32) ≤ x1 ∧ x1 ≤ ((I 115 29) - (1 : Int32)) → (∀ (J22 : Nat → Nat → Int32), (fr [141] I J22 ∧ ∀ b, b < 7 → J22 141 b = I 139 b) → (0 ≤ x1 → (∃ (B26 : Nat) (p27 : Nat → Nat) (X28 : Nat) (k29 : Nat), (J22 115 27 = nI B26 ∧ B26 ≤ 7) ∧ (plC J22 141 B26 p27) ∧ (x1 = nI k29 ∧ k29 < 8) ∧ (J22 140 k29 = nI X28 ∧ X28 < 2 ^ B26 ∧ X28 ≠ 0) ∧ (post (some (.int (nI (spN (pm p27 X28 B26))))) (zSH zn, J22, L)))) ∧ (¬ 0 ≤ x1 → (∃ (B32 : Nat) (M33 : Nat) (p34 : Nat → Nat) (nb35 : Nat → Nat), (J22 115 27 = nI B32 ∧ B32 ≤ 7) ∧ (J22 115 29 = nI M33 ∧ M33 ≤ 8) ∧ (plC J22 141 B32 p34) ∧ (ntR J22 140 B32 M33 nb35) ∧ (post (some (.int (nI (wa B32 M33 nb35 p34)))) (zSH zn, J22, L)))))) ∧ (¬ ((0 : Int32) ≤ x1 ∧ x1 ≤ ((I 115 29) - (1 : Int32))) → post (some (.int (-1 : Int32))) (zSH zn, I, L)))) : RX12_wire zn d post 0 [some (.ref 115), some (.int x1)] [] (zSH zn, I, L) := fun P hw hc => hc _ tX12_wire_0 _ _ _ (hc _ tX12_wire_1 _ _ _ (hc _ tX12_wire_2 _ _ _ (⟨fun c1 => hc _ tX12_wire_21 _ _ _ (hc _ tX12_wire_22 _ _ _ (⟨⟨_, _, _, rfl, (by decide), sh115⟩, ⟨Nat.le_of_ble_eq_true rfl, Nat.le_of_ble_eq_true rfl, zl1, zl2, _, ctX12_tryNow I L, fun r u k19 => by obtain ⟨J3, rfl, rfl, p4⟩ := k19; exact ⟨zl3, zl4, hc _ tX12_wire_25 _ _ _ (hc _ tX12_wire_26 _ _ _ (⟨fun c5 => hc _ tX12_wire_36 _ _ _ (hc _ tX12_wire_37 _ _ _ ((by obtain ⟨B7, p8, X9, k10, hg11⟩ := (((h.1 c1) J3 p4).1 c5); exact hc _ tX12_wire_38 _ _ _ (⟨⟨_, _, _, rfl, (by decide), sh115⟩, ⟨Nat.le_of_ble_eq_true rfl, Nat.le_of_ble_eq_true rfl, zl1, zl2, _, ctX12_wireOf x1 J3 L B7 p8 X9 k10 hg11.1 hg11.2.1 hg11.2.2.1 hg11.2.2.2.1, fun r u k12 => by obtain ⟨rfl, rfl⟩ := k12; exact ⟨zl3, zl4, hc _ tX12_wire_41 _ _ _ (⟨nofun, rfl, rfl, hg11.2.2.2.2⟩)⟩⟩⟩)))), fun c6 => hc _ tX12_wire_29 _ _ _ ((by obtain ⟨B13, M14, p15, nb16, hg17⟩ := (((h.1 c1) J3 p4).2 c6); exact hc _ tX12_wire_30 _ _ _ (⟨⟨_, _, _, rfl, (by decide), sh115⟩, ⟨Nat.le_of_ble_eq_true rfl, Nat.le_of_ble_eq_true rfl, zl1, zl2, _, ctX12_allWire J3 L B13 M14 p15 nb16 hg17.1 hg17.2.1 hg17.2.2.1 hg17.2.2.2.1, fun r u k18 => by obtain ⟨rfl, rfl⟩ := k18; exact ⟨zl3, zl4, hc _ tX12_wire_33 _ _ _ (hc _ tX12_wire_41 _ _ _ (⟨nofun, rfl, rfl, hg17.2.2.2.2⟩))⟩⟩⟩)))⟩))⟩⟩⟩)), fun c2 => hc _ tX12_wire_5 _ _ _ (hc _ tX12_wire_6 _ _ _ (hc _ tX12_wire_7 _ _ _ (hc _ tX12_wire_8 _ _ _ (⟨_, sh115, (by decide), hc _ tX12_wire_11 _ _ _ (hc _ tX12_wire_12 _ _ _ (hc _ tX12_wire_13 _ _ _ (⟨Nat.le_of_ble_eq_true rfl, Nat.le_of_ble_eq_true rfl, zl1, zl2, _, ctX12_in x1 (0 : Int32) ((I 115 29) - (1 : Int32)) I L, fun r u k39 => by obtain ⟨rfl, rfl⟩ := k39; exact ⟨zl3, zl4, hc _ tX12_wire_16 _ _ _ (⟨fun c20 => hc _ tX12_wire_21 _ _ _ (hc _ tX12_wire_22 _ _ _ (⟨⟨_, _, _, rfl, (by decide), sh115⟩, ⟨Nat.le_of_ble_eq_true rfl, Nat.le_of_ble_eq_true rfl, zl1, zl2, _, ctX12_tryNow I L, fun r u k38 => by obtain ⟨J22, rfl, rfl, p23⟩ := k38; exact ⟨zl3, zl4, hc _ tX12_wire_25 _ _ _ (hc _ tX12_wire_26 _ _ _ (⟨fun c24 => hc _ tX12_wire_36 _ _ _ (hc _ tX12_wire_37 _ _ _ ((by obtain ⟨B26, p27, X28, k29, hg30⟩ := ((((h.2 c2).1 (zb_n c20)) J22 p23).1 c24); exact hc _ tX12_wire_38 _ _ _ (⟨⟨_, _, _, rfl, (by decide), sh115⟩, ⟨Nat.le_of_ble_eq_true rfl, Nat.le_of_ble_eq_true rfl, zl1, zl2, _, ctX12_wireOf x1 J22 L B26 p27 X28 k29 hg30.1 hg30.2.1 hg30.2.2.1 hg30.2.2.2.1, fun r u k31 => by obtain ⟨rfl, rfl⟩ := k31; exact ⟨zl3, zl4, hc _ tX12_wire_41 _ _ _ (⟨nofun, rfl, rfl, hg30.2.2.2.2⟩)⟩⟩⟩)))), fun c25 => hc _ tX12_wire_29 _ _ _ ((by obtain ⟨B32, M33, p34, nb35, hg36⟩ := ((((h.2 c2).1 (zb_n c20)) J22 p23).2 c25); exact hc _ tX12_wire_30 _ _ _ (⟨⟨_, _, _, rfl, (by decide), sh115⟩, ⟨Nat.le_of_ble_eq_true rfl, Nat.le_of_ble_eq_true rfl, zl1, zl2, _, ctX12_allWire J22 L B32 M33 p34 nb35 hg36.1 hg36.2.1 hg36.2.2.1 hg36.2.2.2.1, fun r u k37 => by obtain ⟨rfl, rfl⟩ := k37; exact ⟨zl3, zl4, hc _ tX12_wire_33 _ _ _ (hc _ tX12_wire_41 _ _ _ (⟨nofun, rfl, rfl, hg36.2.2.2.2⟩))⟩⟩⟩)))⟩))⟩⟩⟩)), fun c21 => hc _ tX12_wire_19 _ _ _ (hc _ tX12_wire_20 _ _ _ (⟨nofun, rfl, rfl, ((h.2 c2).2 (zb_e c21))⟩))⟩)⟩⟩)))⟩))))⟩)))
theorem ctX12_wire {zn d : Nat} (x1 : Int32) (I : Nat → Nat → Int32) (L : Nat → Nat → Int64) (B : Nat) (M : Nat) (p : Nat → Nat) (nb : Nat → Nat) (q0 : I 115 27 = nI B ∧ B ≤ 7) (q1 : I 115 29 = nI M ∧ M ≤ 8) (q2 : plC I 139 B p) (q3 : ntR I 140 B M nb) : zcal zty zcd false (d + 3) 191 [.ref 115, .int x1] (zSH zn, I, L) 0 0 (fun r u => ∃ (J : Nat → Nat → Int32), r = some (.int (wirS B M nb p x1)) ∧ u = (zSH zn, J, L) ∧ (fr [141] I J)) := by
  obtain ⟨eB, hB⟩ := q0
  obtain ⟨eM, hM⟩ := q1
  have plJ : ∀ J, (fr [141] I J ∧ ∀ b, b < 7 → J 141 b = I 139 b) → (J 115 27 = nI B ∧ B ≤ 7) ∧ (J 115 29 = nI M ∧ M ≤ 8) ∧ plC J 141 B p ∧ ntR J 140 B M nb := fun J ⟨j1, j2⟩ => ⟨⟨by rw [j1 115 (by decide)]; exact eB, hB⟩, ⟨by rw [j1 115 (by decide)]; exact eM, hM⟩, fun b hb => by rw [j2 b (by omega)]; exact q2 b hb, fun k hk => by rw [j1 140 (by decide)]; exact q3 k hk⟩
  refine eX12_wire _ I L (gX12_wire_0 _ I L ?_)
  rw [eM, leM (by omega)]
  refine ⟨fun h => fun J hJ => ⟨fun h0 => absurd h0 (by rw [h]; decide), fun _ => ?_⟩, fun h => ⟨fun h2 => fun J hJ => ⟨fun h0 => ?_, fun h0 => absurd h2.1 h0⟩, fun h2 => ⟨I, by rw [wirS, if_neg h, if_neg h2], rfl, fr_rf⟩⟩⟩
  · obtain ⟨a1, a2, a3, a4⟩ := plJ J hJ
    exact ⟨B, M, p, nb, a1, a2, a3, a4, J, by rw [wirS, if_pos h], rfl, hJ.1⟩
  · obtain ⟨a1, a2, a3, a4⟩ := plJ J hJ
    obtain ⟨k, rfl, -, hk, tk, -⟩ := nm_of (a := 0) (b := M) (by omega) (by decide) h2
    exact ⟨B, p, nb k, k, a1, a3, ⟨rfl, by omega⟩, a4 k hk, J, by rw [wirS, if_neg h, if_pos h2, tk], rfl, hJ.1⟩

