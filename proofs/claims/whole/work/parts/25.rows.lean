/-! the reference's VIEW v, as far as it is run -/
def rLn (I : Nat → Nat → Int32) (v : Nat) (V : zVw) : Prop := ∀ n, n < 19 → match V n with
  | none => I 120 (19 * v + n) = -4
  | some ks => ∃ f, lnR I v n ks f
def rOrd (I : Nat → Nat → Int32) (v : Nat) (V : zVw) (os : List Nat) : Prop := topr V os ∧ I 123 v = nI os.length ∧ os.length ≤ 9 ∧ ∀ (i o : Nat), os[i]? = some o → I 122 (9 * v + i) = nI o
def rEv (I : Nat → Nat → Int32) (v : Nat) (V : zVw) (os : List Nat) : Prop := okV V ∧ rLn I v V ∧ rOrd I v V os
def pstR (I : Nat → Nat → Int32) (w : Nat) (x : Int32) : Int32 := if nI w = I 115 18 then I 115 19 else x
/-- behind layWires -/
def rRun (I J : Nat → Nat → Int32) (V : zVw) (x : Int32) : Prop := fr [130, 131] I J ∧ (∀ n, ¬ (6 ≤ n ∧ n < 15) → J 130 n = I 130 n) ∧ sol opT 0 V (pstR I) x (usR J) ∧ ∀ w, 6 ≤ w → w < 15 → J 130 w = match V w with
  | some ks => ev opT (usR J) 0 ks
  | none => x
theorem usR_p {I J : Nat → Nat → Int32} (h : fr [130, 131] I J) (n : Nat) : usR J n = pstR I n (J 130 n) := by
  unfold usR pstR; rw [h 115 (by decide)]
theorem usR_zi {I : Nat → Nat → Int32} {M : Nat → Int32} {o : Nat} {v : Int32} : usR (zi (zrI I 131 M) 130 o v) = fun n => if n = o then pstR I o v else usR I n := by
  funext n
  unfold usR pstR
  rw [zi_at, zi_at, zi_at, zrI_n (by decide), zrI_n (by decide)]
  by_cases h : n = o
  · subst h; simp
  · simp [h]
theorem rEv_fr {I J : Nat → Nat → Int32} {v : Nat} {V : zVw} {os : List Nat} (h : rEv I v V os) (hf : fr [130, 131] I J) : rEv J v V os := by
  obtain ⟨h1, h2, h3, h4, h5, h6⟩ := h
  refine ⟨h1, fun n hn => ?_, h3, by rw [hf 123 (by decide)]; exact h4, h5, fun i o ho => by rw [hf 122 (by decide)]; exact h6 i o ho⟩
  have := h2 n hn
  cases hv : V n with
  | none => rw [hv] at this; simp only at this ⊢; rw [hf 120 (by decide)]; exact this
  | some ks =>
    rw [hv] at this
    obtain ⟨f, g1, g2, g3, g4⟩ := this
    exact ⟨f, g1, by rw [hf 119 (by decide)]; exact g2, by rw [hf 120 (by decide)]; exact g3, fun i x hx => by rw [hf 118 (by decide)]; exact g4 i x hx⟩
abbrev RX12_layWires (zn d : Nat) (post : zP) : zK := zRun (zcal zty zcd false (d + 3)) kX12_layWires (zLM zn) post
theorem eX12_layWires {zn d : Nat} {post : zP} (x1 : Int32) (x2 : Int32) (I : Nat → Nat → Int32) (L : Nat → Nat → Int64) (h : RX12_layWires zn d post 0 [some (.ref 115), some (.int x1), some (.int x2), none, none] [] (zSH zn, I, L)) : zcal zty zcd false (d + 4) 160 [.ref 115, .int x1, .int x2] (zSH zn, I, L) 0 0 post := zcal_of (d := d + 3) zmt160 zmc160 rfl (Nat.le_of_ble_eq_true rfl) h
theorem gX12_layWires_0 {zn d : Nat} {post : zP} (x1 : Int32) (x2 : Int32) (I : Nat → Nat → Int32) (L : Nat → Nat → Int64) (h : RX12_layWires zn d post 3 [some (.ref 115), some (.int x1), some (.int x2), some (.int (6 : Int32)), none] [] (zSH zn, I, L)) : RX12_layWires zn d post 0 [some (.ref 115), some (.int x1), some (.int x2), none, none] [] (zSH zn, I, L) := fun P hw hc => hc _ tX12_layWires_0 _ _ _ (hc _ tX12_layWires_2 _ _ _ (h P hw hc))
theorem gX12_layWires_3 {zn d : Nat} {post : zP} (x1 : Int32) (x2 : Int32) (x3 : Int32) (I : Nat → Nat → Int32) (L : Nat → Nat → Int64) (h : ((15 : Int32) ≤ x3 → RX12_layWires zn d post 24 [some (.ref 115), some (.int x1), some (.int x2), some (.int (0 : Int32)), none] [] (zSH zn, I, L)) ∧ (¬ (15 : Int32) ≤ x3 → vp_in x3 19 ∧ (RX12_layWires zn d post 3 [some (.ref 115), some (.int x1), some (.int x2), some (.int (x3 + (1 : Int32))), none] [] (zSH zn, (zi I 130 (x3).toNatClampNeg x2), L)))) : RX12_layWires zn d post 3 [some (.ref 115), some (.int x1), some (.int x2), some (.int x3), none] [] (zSH zn, I, L) := fun P hw hc => hc _ tX12_layWires_3 _ _ _ (hc _ tX12_layWires_4 _ _ _ (hc _ tX12_layWires_6 _ _ _ (⟨fun c1 => hc _ tX12_layWires_22 _ _ _ (hc _ tX12_layWires_23 _ _ _ ((h.1 c1) P hw hc)), fun c2 => hc _ tX12_layWires_9 _ _ _ (hc _ tX12_layWires_10 _ _ _ (⟨_, _, sh115, (by decide), rfl, hc _ tX12_layWires_13 _ _ _ (hc _ tX12_layWires_14 _ _ _ (hc _ tX12_layWires_15 _ _ _ (⟨_, _, sh130, (by decide), (h.2 c2).1, hc _ tX12_layWires_16 _ _ _ (hc _ tX12_layWires_19 _ _ _ ((h.2 c2).2 P hw hc))⟩)))⟩))⟩)))
theorem gX12_layWires_24 {zn d : Nat} {post : zP} (x1 : Int32) (x2 : Int32) (x3 : Int32) (I : Nat → Nat → Int32) (L : Nat → Nat → Int64) (h : vp_in x1 7 ∧ (((I 123 (x1).toNatClampNeg) ≤ x3 → post none (zSH zn, I, L)) ∧ (¬ (I 123 (x1).toNatClampNeg) ≤ x3 → vp_in (((9 : Int32) * x1) + x3) 63 ∧ ((∃ (ks4 : List Nat) (f5 : Nat), (lnR I (tn x1) (tn (I 122 ((((9 : Int32) * x1) + x3)).toNatClampNeg)) ks4 f5) ∧ (wfl ks4) ∧ (zs x1 6) ∧ (zs (I 122 ((((9 : Int32) * x1) + x3)).toNatClampNeg) 18) ∧ (∀ (M3 : Nat → Int32), vp_in (I 122 ((((9 : Int32) * x1) + x3)).toNatClampNeg) 19 ∧ (RX12_layWires zn d post 24 [some (.ref 115), some (.int x1), some (.int x2), some (.int (x3 + (1 : Int32))), none] [] (zSH zn, (zi (zrI I 131 M3) 130 ((I 122 ((((9 : Int32) * x1) + x3)).toNatClampNeg)).toNatClampNeg (ev opT (usR I) 0 ks4)), L)))))))) : RX12_layWires zn d post 24 [some (.ref 115), some (.int x1), some (.int x2), some (.int x3), none] [] (zSH zn, I, L) := fun P hw hc => hc _ tX12_layWires_24 _ _ _ (hc _ tX12_layWires_25 _ _ _ (hc _ tX12_layWires_26 _ _ _ (⟨_, _, sh115, (by decide), rfl, hc _ tX12_layWires_29 _ _ _ (hc _ tX12_layWires_30 _ _ _ (⟨_, _, _, sh123, Or.inl ⟨rfl, (by decide)⟩, h.1, hc _ tX12_layWires_31 _ _ _ (⟨fun c1 => hc _ tX12_layWires_67 _ _ _ (⟨rfl, rfl, (h.2.1 c1)⟩), fun c2 => hc _ tX12_layWires_34 _ _ _ (hc _ tX12_layWires_35 _ _ _ (⟨_, _, sh115, (by decide), rfl, hc _ tX12_layWires_38 _ _ _ (hc _ tX12_layWires_40 _ _ _ (hc _ tX12_layWires_41 _ _ _ (hc _ tX12_layWires_42 _ _ _ (hc _ tX12_layWires_43 _ _ _ (hc _ tX12_layWires_44 _ _ _ (⟨_, _, _, sh122, Or.inl ⟨rfl, (by decide)⟩, (h.2.2 c2).1, hc _ tX12_layWires_45 _ _ _ (hc _ tX12_layWires_47 _ _ _ (hc _ tX12_layWires_48 _ _ _ (⟨_, _, sh115, (by decide), rfl, hc _ tX12_layWires_51 _ _ _ (hc _ tX12_layWires_53 _ _ _ (hc _ tX12_layWires_54 _ _ _ (hc _ tX12_layWires_55 _ _ _ ((by obtain ⟨ks4, f5, hg6⟩ := (h.2.2 c2).2; exact hc _ tX12_layWires_57 _ _ _ (⟨⟨_, _, _, rfl, (by decide), sh115⟩, ⟨Nat.le_of_ble_eq_true rfl, Nat.le_of_ble_eq_true rfl, zl1, zl2, _, ctX12_made x1 (I 122 ((((9 : Int32) * x1) + x3)).toNatClampNeg) I L ks4 f5 hg6.1 hg6.2.1 hg6.2.2.1 hg6.2.2.2.1, fun r u k7 => by obtain ⟨M3, rfl, rfl⟩ := k7; exact ⟨zl3, zl4, hc _ tX12_layWires_60 _ _ _ (⟨_, _, sh130, (by decide), (hg6.2.2.2.2 M3).1, hc _ tX12_layWires_61 _ _ _ (hc _ tX12_layWires_64 _ _ _ (hw _ _ _ _ _ (zwk_s (zwk_s (zwk_s (zwk_s (zwk_n zwk_nil))))) ((hg6.2.2.2.2 M3).2 P hw hc)))⟩)⟩⟩⟩))))))⟩)))⟩))))))⟩))⟩)⟩))⟩)))
theorem ctX12_layWires {zn d : Nat} (x1 : Int32) (x2 : Int32) (I : Nat → Nat → Int32) (L : Nat → Nat → Int64) (V : zVw) (os : List Nat) (q0 : zs x1 6) (q1 : rEv I (tn x1) V os) : zcal zty zcd false (d + 4) 160 [.ref 115, .int x1, .int x2] (zSH zn, I, L) 0 0 (fun r u => ∃ (J : Nat → Nat → Int32), r = none ∧ u = (zSH zn, J, L) ∧ (rRun I J V x2)) := by
  obtain ⟨v, hv, rfl⟩ := q0
  have tv : tn (nI v) = v := tn_nI (by omega)
  have tv' : (nI v).toNatClampNeg = v := tv
  rw [tv] at q1
  obtain ⟨hV, hln, ⟨t1, t2, t3⟩, o2, o3, o4⟩ := id q1
  have hv7 : vp_in (nI v) 7 := vin_nI (by omega) (by omega)
  have loop2 : ∀ (m i : Nat) (J : Nat → Nat → Int32), i + m = os.length → fr [130, 131] I J → (∀ n, ¬ (6 ≤ n ∧ n < 15) → J 130 n = I 130 n) → tInv opT 0 V (pstR I) x2 os i (usR J) → (∀ w, 6 ≤ w → w < 15 → w ∈ os.take i → ∀ ks, V w = some ks → J 130 w = ev opT (usR J) 0 ks) → (∀ w, 6 ≤ w → w < 15 → w ∉ os.take i → J 130 w = x2) →
      RX12_layWires zn d (fun r u => ∃ (J : Nat → Nat → Int32), r = none ∧ u = (zSH zn, J, L) ∧ (rRun I J V x2)) 24 [some (.ref 115), some (.int (nI v)), some (.int x2), some (.int (nI i)), none] [] (zSH zn, J, L) := by
    intro m
    induction m with
    | zero =>
      intro i J hi f1 f2 f3 f4 f5
      have e : os.take i = os := List.take_of_length_le (by omega)
      rw [e] at f4 f5
      refine gX12_layWires_24 _ _ _ J L ⟨hv7, fun _ => ⟨J, rfl, rfl, f1, f2, tInv_sol f3 (by omega) (fun w h6 h15 => ⟨fun z => ((t1 w).mp z).2.2, fun z => (t1 w).mpr ⟨h6, h15, z⟩⟩), fun w h6 h15 => ?_⟩, fun hc => absurd ?_ hc⟩
      · cases hw : V w with
        | none => exact f5 w h6 h15 (fun z => by have := ((t1 w).mp z).2.2; rw [hw] at this; cases this)
        | some ks => exact f4 w h6 h15 ((t1 w).mpr ⟨h6, h15, by rw [hw]; rfl⟩) ks hw
      · rw [tv', f1 123 (by decide), o2, nI_leI (by omega) (by omega)]; omega
    | succ m ih =>
      intro i J hi f1 f2 f3 f4 f5
      have hil : i < os.length := by omega
      obtain ⟨o, ho⟩ : ∃ o, os[i]? = some o := ⟨_, List.getElem?_eq_getElem hil⟩
      obtain ⟨h6, h15, hos⟩ := (t1 o).mp (List.mem_of_getElem? ho)
      obtain ⟨ks, hk⟩ := Option.isSome_iff_exists.mp hos
      have hwf := (hV o ks hk).2.2
      have hJ := (rEv_fr q1 f1).2.1 o (by omega)
      rw [hk] at hJ
      obtain ⟨f, hf⟩ := hJ
      have e0 : (9 : Int32) * nI v + nI i = nI (9 * v + i) := by rw [nl 9, pk_mul, nI_add]
      have e0' : (nI (9 * v + i)).toNatClampNeg = 9 * v + i := nI_clamp (by omega)
      have e1 : J 122 (9 * v + i) = nI o := by rw [f1 122 (by decide)]; exact o4 i o ho
      have e2 : (nI o).toNatClampNeg = o := nI_clamp (by omega)
      have e3 : tn (nI o) = o := e2
      refine gX12_layWires_24 _ _ _ J L ⟨hv7, fun hc => absurd hc ?_, fun _ => ?_⟩
      · rw [tv', f1 123 (by decide), o2, nI_leI (by omega) (by omega)]; omega
      · rw [e0, e0', e1, e2, e3, tv, nI_1]
        refine ⟨vin_nI (by omega) (by omega), ks, f, hf, hwf, ⟨v, hv, rfl⟩, ⟨o, by omega, rfl⟩, fun M => ⟨vin_nI (by omega) (by omega), ?_⟩⟩
        have eU := usR_zi (I := J) (M := M) (o := o) (v := ev opT (usR J) 0 ks)
        have ep : pstR J o (ev opT (usR J) 0 ks) = pstR I o (ev opT (usR J) 0 ks) := by unfold pstR; rw [f1 115 (by decide)]
        rw [ep] at eU
        have eS : ∀ n, (zi (zrI J 131 M) 130 o (ev opT (usR J) 0 ks)) 130 n = if n = o then ev opT (usR J) 0 ks else J 130 n := fun n => by rw [zi_at, zrI_n (by decide)]; simp
        refine ih (i + 1) _ (by omega) (fr_trans f1 (fr_trans (I' := zrI J 131 M) (fun j hj => zrI_n (fun z => hj (by simp [z]))) (fr_zi (by simp)))) (fun n hn => ?_) ?_ (fun w w6 w15 hm ks' hk' => ?_) (fun w w6 w15 hm => ?_)
        · rw [eS, if_neg (fun z => hn (by rw [z]; exact ⟨h6, h15⟩))]; exact f2 n hn
        · rw [eU]
          exact tInv_step opT_eq hV t2 t3 f3 ho ⟨h6, h15⟩ hk
        · rw [eU, eS, ev_stay opT_eq hV t2 t3 ho ⟨h6, h15⟩ hm hk']
          by_cases hwo : w = o
          · subst hwo
            rw [hk] at hk'; cases hk'
            rw [if_pos rfl]
          · rw [if_neg hwo]
            rw [take_s ho] at hm
            rcases List.mem_append.mp hm with hm | hm
            · exact f4 w w6 w15 hm ks' hk'
            · simp at hm; exact absurd hm hwo
        · rw [take_s ho] at hm
          rw [eS, if_neg (fun z => hm (by rw [z]; simp))]
          exact f5 w w6 w15 (fun z => hm (List.mem_append_left _ z))
  have loop1 : ∀ (m i : Nat) (J : Nat → Nat → Int32), i + m = 15 → 6 ≤ i → fr [130, 131] I J → (∀ n, ¬ (6 ≤ n ∧ n < i) → J 130 n = I 130 n) → (∀ n, 6 ≤ n → n < i → J 130 n = x2) →
      RX12_layWires zn d (fun r u => ∃ (J : Nat → Nat → Int32), r = none ∧ u = (zSH zn, J, L) ∧ (rRun I J V x2)) 3 [some (.ref 115), some (.int (nI v)), some (.int x2), some (.int (nI i)), none] [] (zSH zn, J, L) := by
    intro m
    induction m with
    | zero =>
      intro i J hi h6i f1 f2 f3
      have hi15 : i = 15 := by omega
      subst hi15
      refine gX12_layWires_3 _ _ _ J L ⟨fun _ => ?_, fun hc => absurd (by decide) hc⟩
      exact loop2 os.length 0 J (by omega) f1 f2 ⟨fun w _ _ hw => by simp at hw, fun w h6 h15 _ => by rw [usR_p f1, f3 w h6 h15]⟩ (fun w _ _ hw => by simp at hw) (fun w h6 h15 _ => f3 w h6 h15)
    | succ m ih =>
      intro i J hi h6i f1 f2 f3
      have e0 : (nI i).toNatClampNeg = i := nI_clamp (by omega)
      refine gX12_layWires_3 _ _ _ J L ⟨fun hc => absurd hc (by rw [nl 15, nI_leI (by omega) (by omega)]; omega), fun _ => ⟨vin_nI (by omega) (by omega), ?_⟩⟩
      rw [e0, nI_1]
      refine ih (i + 1) _ (by omega) (by omega) (fr_trans f1 (fr_zi (by simp))) (fun n hn => ?_) (fun n h6 hn => ?_)
      · rw [zi_at, if_neg (by omega)]; exact f2 n (by omega)
      · rw [zi_at]
        by_cases hni : n = i
        · rw [if_pos ⟨rfl, hni⟩]
        · rw [if_neg (fun z => hni z.2)]; exact f3 n h6 (by omega)
  exact eX12_layWires _ _ I L (gX12_layWires_0 _ _ I L (loop1 9 6 I (by omega) (by omega) fr_rf (fun _ _ => rfl) (fun n h1 h2 => absurd h1 (by omega))))
/-- behind layRow: the ROW's inputs and registers -/
def bit (x : Int32) (j : Nat) : Int32 := (x >>> (nI j &&& 31)) &&& 1
def rRow (I J : Nat → Nat → Int32) (V : zVw) (x : Int32) : Prop := fr [130, 131] I J ∧ (∀ n, n < 6 → J 130 n = bit x n) ∧ (∀ n, 15 ≤ n → n < 19 → J 130 n = bit x (n - 9)) ∧ sol opT 0 V (pstR I) 0 (usR J) ∧ ∀ w, 6 ≤ w → w < 15 → J 130 w = match V w with
  | some ks => ev opT (usR J) 0 ks
  | none => 0
abbrev RX12_layRow (zn d : Nat) (post : zP) : zK := zRun (zcal zty zcd false (d + 4)) kX12_layRow (zLM zn) post
theorem eX12_layRow {zn d : Nat} {post : zP} (x1 : Int32) (x2 : Int32) (I : Nat → Nat → Int32) (L : Nat → Nat → Int64) (h : RX12_layRow zn d post 0 [some (.ref 115), some (.int x1), some (.int x2), none] [] (zSH zn, I, L)) : zcal zty zcd false (d + 5) 161 [.ref 115, .int x1, .int x2] (zSH zn, I, L) 0 0 post := zcal_of (d := d + 4) zmt161 zmc161 rfl (Nat.le_of_ble_eq_true rfl) h
theorem gX12_layRow_0 {zn d : Nat} {post : zP} (x1 : Int32) (x2 : Int32) (I : Nat → Nat → Int32) (L : Nat → Nat → Int64) (h : RX12_layRow zn d post 2 [some (.ref 115), some (.int x1), some (.int x2), some (.int (0 : Int32))] [] (zSH zn, I, L)) : RX12_layRow zn d post 0 [some (.ref 115), some (.int x1), some (.int x2), none] [] (zSH zn, I, L) := fun P hw hc => hc _ tX12_layRow_0 _ _ _ (hc _ tX12_layRow_1 _ _ _ (h P hw hc))
theorem gX12_layRow_2 {zn d : Nat} {post : zP} (x1 : Int32) (x2 : Int32) (x3 : Int32) (I : Nat → Nat → Int32) (L : Nat → Nat → Int64) (h : ((6 : Int32) ≤ x3 → RX12_layRow zn d post 27 [some (.ref 115), some (.int x1), some (.int x2), some (.int (0 : Int32))] [] (zSH zn, I, L)) ∧ (¬ (6 : Int32) ≤ x3 → vp_in x3 19 ∧ (RX12_layRow zn d post 2 [some (.ref 115), some (.int x1), some (.int x2), some (.int (x3 + (1 : Int32)))] [] (zSH zn, (zi I 130 (x3).toNatClampNeg ((x2 >>> (x3 &&& 31)) &&& (1 : Int32))), L)))) : RX12_layRow zn d post 2 [some (.ref 115), some (.int x1), some (.int x2), some (.int x3)] [] (zSH zn, I, L) := fun P hw hc => hc _ tX12_layRow_2 _ _ _ (hc _ tX12_layRow_3 _ _ _ (hc _ tX12_layRow_5 _ _ _ (⟨fun c1 => hc _ tX12_layRow_25 _ _ _ (hc _ tX12_layRow_26 _ _ _ ((h.1 c1) P hw hc)), fun c2 => hc _ tX12_layRow_8 _ _ _ (hc _ tX12_layRow_9 _ _ _ (⟨_, _, sh115, (by decide), rfl, hc _ tX12_layRow_12 _ _ _ (hc _ tX12_layRow_13 _ _ _ (hc _ tX12_layRow_14 _ _ _ (hc _ tX12_layRow_15 _ _ _ (hc _ tX12_layRow_16 _ _ _ (hc _ tX12_layRow_17 _ _ _ (hc _ tX12_layRow_18 _ _ _ (⟨_, _, sh130, (by decide), (h.2 c2).1, hc _ tX12_layRow_19 _ _ _ (hc _ tX12_layRow_22 _ _ _ ((h.2 c2).2 P hw hc))⟩)))))))⟩))⟩)))
theorem gX12_layRow_27 {zn d : Nat} {post : zP} (x1 : Int32) (x2 : Int32) (x3 : Int32) (I : Nat → Nat → Int32) (L : Nat → Nat → Int64) (h : ((4 : Int32) ≤ x3 → (∃ (V4 : zVw) (os5 : List Nat), (zs x1 6) ∧ (rEv I (tn x1) V4 os5) ∧ (∀ (J3 : Nat → Nat → Int32), (rRun I J3 V4 (0 : Int32)) → post none (zSH zn, J3, L)))) ∧ (¬ (4 : Int32) ≤ x3 → vp_in ((15 : Int32) + x3) 19 ∧ (RX12_layRow zn d post 27 [some (.ref 115), some (.int x1), some (.int x2), some (.int (x3 + (1 : Int32)))] [] (zSH zn, (zi I 130 (((15 : Int32) + x3)).toNatClampNeg ((x2 >>> (((6 : Int32) + x3) &&& 31)) &&& (1 : Int32))), L)))) : RX12_layRow zn d post 27 [some (.ref 115), some (.int x1), some (.int x2), some (.int x3)] [] (zSH zn, I, L) := fun P hw hc => hc _ tX12_layRow_27 _ _ _ (hc _ tX12_layRow_28 _ _ _ (hc _ tX12_layRow_29 _ _ _ (⟨fun c1 => hc _ tX12_layRow_55 _ _ _ (hc _ tX12_layRow_56 _ _ _ (hc _ tX12_layRow_57 _ _ _ ((by obtain ⟨V4, os5, hg6⟩ := (h.1 c1); exact hc _ tX12_layRow_58 _ _ _ (⟨⟨_, _, _, rfl, (by decide), sh115⟩, ⟨Nat.le_of_ble_eq_true rfl, Nat.le_of_ble_eq_true rfl, zl1, zl2, _, ctX12_layWires x1 (0 : Int32) I L V4 os5 hg6.1 hg6.2.1, fun r u k8 => by obtain ⟨J3, rfl, rfl, p7⟩ := k8; exact ⟨zl3, zl4, hc _ tX12_layRow_61 _ _ _ (⟨rfl, rfl, (hg6.2.2 J3 p7)⟩)⟩⟩⟩))))), fun c2 => hc _ tX12_layRow_32 _ _ _ (hc _ tX12_layRow_33 _ _ _ (⟨_, _, sh115, (by decide), rfl, hc _ tX12_layRow_36 _ _ _ (hc _ tX12_layRow_38 _ _ _ (hc _ tX12_layRow_39 _ _ _ (hc _ tX12_layRow_40 _ _ _ (hc _ tX12_layRow_41 _ _ _ (hc _ tX12_layRow_43 _ _ _ (hc _ tX12_layRow_44 _ _ _ (hc _ tX12_layRow_45 _ _ _ (hc _ tX12_layRow_46 _ _ _ (hc _ tX12_layRow_47 _ _ _ (hc _ tX12_layRow_48 _ _ _ (⟨_, _, sh130, (by decide), (h.2 c2).1, hc _ tX12_layRow_49 _ _ _ (hc _ tX12_layRow_52 _ _ _ ((h.2 c2).2 P hw hc))⟩)))))))))))⟩))⟩)))
theorem ctX12_layRow {zn d : Nat} (x1 : Int32) (x2 : Int32) (I : Nat → Nat → Int32) (L : Nat → Nat → Int64) (V : zVw) (os : List Nat) (q0 : zs x1 6) (q1 : rEv I (tn x1) V os) : zcal zty zcd false (d + 5) 161 [.ref 115, .int x1, .int x2] (zSH zn, I, L) 0 0 (fun r u => ∃ (J : Nat → Nat → Int32), r = none ∧ u = (zSH zn, J, L) ∧ (rRow I J V x2)) := by
  have loop2 : ∀ (m i : Nat) (J : Nat → Nat → Int32), i + m = 4 → fr [130, 131] I J → (∀ n, n < 6 → J 130 n = bit x2 n) → (∀ n, 15 ≤ n → n < 15 + i → J 130 n = bit x2 (n - 9)) →
      RX12_layRow zn d (fun r u => ∃ (J : Nat → Nat → Int32), r = none ∧ u = (zSH zn, J, L) ∧ (rRow I J V x2)) 27 [some (.ref 115), some (.int x1), some (.int x2), some (.int (nI i))] [] (zSH zn, J, L) := by
    intro m
    induction m with
    | zero =>
      intro i J hi f1 f2 f3
      have hi4 : i = 4 := by omega
      subst hi4
      refine gX12_layRow_27 _ _ _ J L ⟨fun _ => ⟨V, os, q0, rEv_fr q1 f1, fun J2 hJ2 => ⟨J2, rfl, rfl, fr_trans f1 hJ2.1, fun n hn => ?_, fun n h15 hn => ?_, ?_, hJ2.2.2.2⟩⟩, fun hc => absurd (by decide) hc⟩
      · rw [hJ2.2.1 n (by omega)]; exact f2 n hn
      · rw [hJ2.2.1 n (by omega)]; exact f3 n h15 hn
      · have e : pstR J = pstR I := by funext w x; unfold pstR; rw [f1 115 (by decide)]
        have := hJ2.2.2.1
        rwa [e] at this
    | succ m ih =>
      intro i J hi f1 f2 f3
      have e0 : (15 : Int32) + nI i = nI (15 + i) := by rw [nl 15, nI_add]
      have e0' : (nI (15 + i)).toNatClampNeg = 15 + i := nI_clamp (by omega)
      have e1 : (6 : Int32) + nI i = nI (6 + i) := by rw [nl 6, nI_add]
      refine gX12_layRow_27 _ _ _ J L ⟨fun hc => absurd hc (by rw [nl 4, nI_leI (by omega) (by omega)]; omega), fun _ => ⟨by rw [e0]; exact vin_nI (by omega) (by omega), ?_⟩⟩
      rw [e0, e0', e1, nI_1]
      refine ih (i + 1) _ (by omega) (fr_trans f1 (fr_zi (by simp))) (fun n hn => ?_) (fun n h15 hn => ?_)
      · rw [zi_at, if_neg (by omega)]; exact f2 n hn
      · rw [zi_at]
        by_cases hni : n = 15 + i
        · rw [if_pos ⟨rfl, hni⟩, hni, show 15 + i - 9 = 6 + i by omega]; rfl
        · rw [if_neg (fun z => hni z.2)]; exact f3 n h15 (by omega)
  have loop1 : ∀ (m i : Nat) (J : Nat → Nat → Int32), i + m = 6 → fr [130, 131] I J → (∀ n, n < i → J 130 n = bit x2 n) →
      RX12_layRow zn d (fun r u => ∃ (J : Nat → Nat → Int32), r = none ∧ u = (zSH zn, J, L) ∧ (rRow I J V x2)) 2 [some (.ref 115), some (.int x1), some (.int x2), some (.int (nI i))] [] (zSH zn, J, L) := by
    intro m
    induction m with
    | zero =>
      intro i J hi f1 f2
      have hi4 : i = 6 := by omega
      subst hi4
      exact gX12_layRow_2 _ _ _ J L ⟨fun _ => loop2 4 0 J (by omega) f1 f2 (fun n h1 h2 => absurd h1 (by omega)), fun hc => absurd (by decide) hc⟩
    | succ m ih =>
      intro i J hi f1 f2
      have e0 : (nI i).toNatClampNeg = i := nI_clamp (by omega)
      refine gX12_layRow_2 _ _ _ J L ⟨fun hc => absurd hc (by rw [nl 6, nI_leI (by omega) (by omega)]; omega), fun _ => ⟨vin_nI (by omega) (by omega), ?_⟩⟩
      rw [e0, nI_1]
      refine ih (i + 1) _ (by omega) (fr_trans f1 (fr_zi (by simp))) (fun n hn => ?_)
      rw [zi_at]
      by_cases hni : n = i
      · rw [if_pos ⟨rfl, hni⟩, hni]; rfl
      · rw [if_neg (fun z => hni z.2)]; exact f2 n (by omega)
  exact eX12_layRow _ _ I L (gX12_layRow_0 _ _ I L (loop1 6 0 I (by omega) fr_rf (fun n hn => absurd hn (by omega))))
abbrev RX12_has (zn d : Nat) (post : zP) : zK := zRun (zcal zty zcd false (d + 0)) kX12_has (zLM zn) post
theorem eX12_has {zn d : Nat} {post : zP} (x1 : Int32) (x2 : Int32) (I : Nat → Nat → Int32) (L : Nat → Nat → Int64) (h : RX12_has zn d post 0 [some (.ref 115), some (.int x1), some (.int x2)] [] (zSH zn, I, L)) : zcal zty zcd false (d + 1) 153 [.ref 115, .int x1, .int x2] (zSH zn, I, L) 0 0 post := zcal_of (d := d + 0) zmt153 zmc153 rfl (Nat.le_of_ble_eq_true rfl) h
theorem gX12_has_0 {zn d : Nat} {post : zP} (x1 : Int32) (x2 : Int32) (I : Nat → Nat → Int32) (L : Nat → Nat → Int64) (h : vp_in (((19 : Int32) * x1) + x2) 133 ∧ (((I 120 ((((19 : Int32) * x1) + x2)).toNatClampNeg) = (-4 : Int32) → post (some (.int (0 : Int32))) (zSH zn, I, L)) ∧ (¬ (I 120 ((((19 : Int32) * x1) + x2)).toNatClampNeg) = (-4 : Int32) → post (some (.int (1 : Int32))) (zSH zn, I, L)))) : RX12_has zn d post 0 [some (.ref 115), some (.int x1), some (.int x2)] [] (zSH zn, I, L) := fun P hw hc => hc _ tX12_has_0 _ _ _ (hc _ tX12_has_1 _ _ _ (⟨_, _, sh115, (by decide), rfl, hc _ tX12_has_4 _ _ _ (hc _ tX12_has_6 _ _ _ (hc _ tX12_has_7 _ _ _ (hc _ tX12_has_8 _ _ _ (hc _ tX12_has_9 _ _ _ (hc _ tX12_has_10 _ _ _ (⟨_, _, _, sh120, Or.inl ⟨rfl, (by decide)⟩, h.1, hc _ tX12_has_11 _ _ _ (hc _ tX12_has_13 _ _ _ (⟨fun c1 => hc _ tX12_has_20 _ _ _ (hc _ tX12_has_21 _ _ _ (⟨fun _ => by decide, rfl, rfl, (h.2.1 c1)⟩)), fun c2 => hc _ tX12_has_16 _ _ _ (hc _ tX12_has_17 _ _ _ (hc _ tX12_has_21 _ _ _ (⟨fun _ => by decide, rfl, rfl, (h.2.2 c2)⟩)))⟩))⟩))))))⟩))
theorem e19 {v n : Nat} (hv : v ≤ 6) (hn : n ≤ 18) : (19 : Int32) * nI v + nI n = nI (19 * v + n) ∧ (nI (19 * v + n)).toNatClampNeg = 19 * v + n ∧ tn (nI v) = v ∧ tn (nI n) = n ∧ vp_in (nI (19 * v + n)) 133 := ⟨by rw [nl 19, pk_mul, nI_add], nI_clamp (by omega), tn_nI (by omega), tn_nI (by omega), vin_nI (by omega) (by omega)⟩
theorem ctX12_has {zn d : Nat} (x1 : Int32) (x2 : Int32) (I : Nat → Nat → Int32) (L : Nat → Nat → Int64) (q0 : zs x1 6) (q1 : zs x2 18) : zcal zty zcd false (d + 1) 153 [.ref 115, .int x1, .int x2] (zSH zn, I, L) 0 0 (fun r u => r = some (.int (if ¬ I 120 (19 * tn x1 + tn x2) = -4 then 1 else 0)) ∧ u = (zSH zn, I, L)) := by
  obtain ⟨v, hv, rfl⟩ := q0
  obtain ⟨n, hn, rfl⟩ := q1
  obtain ⟨e1, e2, e3, e4, e5⟩ := e19 hv hn
  refine eX12_has _ _ I L (gX12_has_0 _ _ I L ?_)
  rw [e1, e2, e3, e4]
  exact ⟨e5, fun h => ⟨by rw [if_neg (fun z => z h)], rfl⟩, fun h => ⟨by rw [if_pos h], rfl⟩⟩
def tolR (I : Nat → Nat → Int32) (V : zVw) (n : Nat) : Int32 := if 15 ≤ n then (match V n with
  | some ks => ev opT (usR I) 0 ks
  | none => I 130 n) else I 130 n
abbrev RX12_told (zn d : Nat) (post : zP) : zK := zRun (zcal zty zcd false (d + 3)) kX12_told (zLM zn) post
theorem eX12_told {zn d : Nat} {post : zP} (x1 : Int32) (x2 : Int32) (I : Nat → Nat → Int32) (L : Nat → Nat → Int64) (h : RX12_told zn d post 0 [some (.ref 115), some (.int x1), some (.int x2)] [] (zSH zn, I, L)) : zcal zty zcd false (d + 4) 162 [.ref 115, .int x1, .int x2] (zSH zn, I, L) 0 0 post := zcal_of (d := d + 3) zmt162 zmc162 rfl (Nat.le_of_ble_eq_true rfl) h
theorem gX12_told_0 {zn d : Nat} {post : zP} (x1 : Int32) (x2 : Int32) (I : Nat → Nat → Int32) (L : Nat → Nat → Int64) (h : (x2 ≤ (14 : Int32) → vp_in x2 19 ∧ (post (some (.int (I 130 (x2).toNatClampNeg))) (zSH zn, I, L))) ∧ (¬ x2 ≤ (14 : Int32) → (zs x1 6) ∧ (zs x2 18) ∧ ((¬ ((¬ I 120 (19 * tn x1 + tn x2) = -4)) → vp_in x2 19 ∧ (post (some (.int (I 130 (x2).toNatClampNeg))) (zSH zn, I, L))) ∧ ((¬ I 120 (19 * tn x1 + tn x2) = -4) → (∃ (ks6 : List Nat) (f7 : Nat), (lnR I (tn x1) (tn x2) ks6 f7) ∧ (wfl ks6) ∧ (zs x1 6) ∧ (zs x2 18) ∧ (∀ (M5 : Nat → Int32), post (some (.int (ev opT (usR I) 0 ks6))) (zSH zn, (zrI I 131 M5), L))))))) : RX12_told zn d post 0 [some (.ref 115), some (.int x1), some (.int x2)] [] (zSH zn, I, L) := fun P hw hc => hc _ tX12_told_0 _ _ _ (hc _ tX12_told_1 _ _ _ (hc _ tX12_told_3 _ _ _ (⟨fun c1 => hc _ tX12_told_24 _ _ _ (hc _ tX12_told_25 _ _ _ (⟨_, _, sh115, (by decide), rfl, hc _ tX12_told_28 _ _ _ (hc _ tX12_told_29 _ _ _ (⟨_, _, _, sh130, Or.inl ⟨rfl, (by decide)⟩, (h.1 c1).1, hc _ tX12_told_30 _ _ _ (⟨nofun, rfl, rfl, (h.1 c1).2⟩)⟩))⟩)), fun c2 => hc _ tX12_told_6 _ _ _ (hc _ tX12_told_7 _ _ _ (hc _ tX12_told_8 _ _ _ (hc _ tX12_told_9 _ _ _ (⟨⟨_, _, _, rfl, (by decide), sh115⟩, ⟨Nat.le_of_ble_eq_true rfl, Nat.le_of_ble_eq_true rfl, zl1, zl2, _, ctX12_has x1 x2 I L ((h.2 c2).1) ((h.2 c2).2.1), fun r u k10 => by obtain ⟨rfl, rfl⟩ := k10; exact ⟨zl3, zl4, hc _ tX12_told_12 _ _ _ (⟨fun c3 => hc _ tX12_told_24 _ _ _ (hc _ tX12_told_25 _ _ _ (⟨_, _, sh115, (by decide), rfl, hc _ tX12_told_28 _ _ _ (hc _ tX12_told_29 _ _ _ (⟨_, _, _, sh130, Or.inl ⟨rfl, (by decide)⟩, ((h.2 c2).2.2.1 (zb_e c3)).1, hc _ tX12_told_30 _ _ _ (⟨nofun, rfl, rfl, ((h.2 c2).2.2.1 (zb_e c3)).2⟩)⟩))⟩)), fun c4 => hc _ tX12_told_15 _ _ _ (hc _ tX12_told_16 _ _ _ (hc _ tX12_told_17 _ _ _ ((by obtain ⟨ks6, f7, hg8⟩ := ((h.2 c2).2.2.2 (zb_n c4)); exact hc _ tX12_told_18 _ _ _ (⟨⟨_, _, _, rfl, (by decide), sh115⟩, ⟨Nat.le_of_ble_eq_true rfl, Nat.le_of_ble_eq_true rfl, zl1, zl2, _, ctX12_made x1 x2 I L ks6 f7 hg8.1 hg8.2.1 hg8.2.2.1 hg8.2.2.2.1, fun r u k9 => by obtain ⟨M5, rfl, rfl⟩ := k9; exact ⟨zl3, zl4, hc _ tX12_told_21 _ _ _ (hc _ tX12_told_30 _ _ _ (⟨nofun, rfl, rfl, (hg8.2.2.2.2 M5)⟩))⟩⟩⟩)))))⟩)⟩⟩⟩))))⟩)))
theorem ctX12_told {zn d : Nat} (x1 : Int32) (x2 : Int32) (I : Nat → Nat → Int32) (L : Nat → Nat → Int64) (V : zVw) (q0 : okV V) (q1 : rLn I (tn x1) V) (q2 : zs x1 6) (q3 : zs x2 18) : zcal zty zcd false (d + 4) 162 [.ref 115, .int x1, .int x2] (zSH zn, I, L) 0 0 (fun r u => ∃ (M : Nat → Int32), r = some (.int (tolR I V (tn x2))) ∧ u = (zSH zn, (zrI I 131 M), L)) := by
  obtain ⟨v, hv, rfl⟩ := id q2
  obtain ⟨n, hn, rfl⟩ := id q3
  obtain ⟨e1, e2, e3, e4, e5⟩ := e19 hv hn
  have e4' : (nI n).toNatClampNeg = n := e4
  have hl := q1 n (by omega)
  have h19 : vp_in (nI n) 19 := vin_nI (by omega) (by omega)
  refine eX12_told _ _ I L (gX12_told_0 _ _ I L ⟨fun h => ⟨h19, I 131, ?_, by rw [zrI_self]⟩, fun h => ⟨q2, q3, fun hh => ⟨h19, I 131, ?_, by rw [zrI_self]⟩, fun hh => ?_⟩⟩)
  · rw [nl 14, nI_leI (by omega) (by decide)] at h
    rw [e4, e4', tolR, if_neg (by omega)]
  · rw [e3, e4] at hh
    rw [e4, e4', tolR]
    rw [e3] at hl
    cases hv2 : V n with
    | none => simp
    | some ks =>
      rw [hv2] at hl
      obtain ⟨f, g1, g2, g3, g4⟩ := hl
      exact absurd (by rw [g3]; exact fun z => by have := congrArg Int32.toInt z; rw [nI_toInt (by omega)] at this; have h4 : (-4 : Int32).toInt = -4 := by decide
                                                  rw [h4] at this; omega) hh
  · rw [e3, e4] at hh
    have h15 : 15 ≤ n := by
      rw [nl 14, nI_leI (by omega) (by decide)] at h; omega
    cases hv2 : V n with
    | none =>
      rw [e3, hv2] at hl
      exact absurd hl hh
    | some ks =>
      rw [hv2] at hl
      obtain ⟨f, hf⟩ := hl
      rw [e4]
      refine ⟨ks, f, hf, (q0 n ks hv2).2.2, q2, q3, fun M => ⟨M, ?_, rfl⟩⟩
      rw [tolR, if_pos h15, hv2]

