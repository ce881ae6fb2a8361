/-! the reference's STEP, registers, values -/
theorem ev_cong {α : Type} {op : Nat → α → α → α → α} (hop : opRel Eq op op) {ks : List Nat} (hw : wfl ks) {e1 e2 : Nat → α} (h : ∀ n, n < 19 → e1 n = e2 n) (z : α) : ev op e1 z ks = ev op e2 z ks := ev_rel hop hw (fun k _ hk => h k hk) z z
theorem sol_cong {α : Type} {op : Nat → α → α → α → α} (hop : opRel Eq op op) {V : zVw} (hV : okV V) {z dfl : α} {p1 p2 : Nat → α → α} {e1 e2 : Nat → α} (h : ∀ n, n < 19 → e1 n = e2 n) (hp : ∀ w v, w < 19 → p1 w v = p2 w v) (hs : sol op z V p1 dfl e1) : sol op z V p2 dfl e2 := by
  intro w h6 h15
  rw [← h w (by omega), hs w h6 h15, hp w _ (by omega)]
  cases hv : V w with
  | none => rfl
  | some ks => simp only; rw [ev_cong hop (hV w ks hv).2.2 h]
theorem evT_ok {ks : List Nat} (hw : wfl ks) {env : Nat → Int32} (he : ∀ n, n < 19 → zs (env n) 2) : zs (ev opT env 0 ks) 2 := by
  have := ev_rel RS_op hw (ea := env) (eb := env) (fun k _ hk => ⟨rfl, he k hk⟩) 0 0
  rw [← this.1]; exact this.2
theorem sol_ok {V : zVw} (hV : okV V) {os : List Nat} (ht : topw V os) {env : Nat → Int32} (hs : sol opT 0 V idp 2 env) (hb : ∀ n, n < 19 → ¬ (6 ≤ n ∧ n < 15) → zs (env n) 2) : ∀ n, n < 19 → zs (env n) 2 := by
  refine sol_rel (R := fun (a : Int32) (_ : Unit) => zs a 2) (f := opT) (g := fun _ _ _ _ => ()) (fun k a b c a' b' c' h1 h2 ha hb hc => ?_) hV ht (z := 0) (y := ()) (pa := idp) (pb := fun _ x => x) (da := 2) (db := ()) hs (eb := fun _ => ()) (fun _ _ _ => rfl) (fun w a b _ _ h => h) ⟨2, by decide, rfl⟩ hb
  have hr : ∀ x : Int32, RS (if zsd x then x else 0) (if zsd x then x else 0) := fun x => ⟨rfl, by
    split
    · next h => exact zsd_i.mpr h
    · exact ⟨0, by decide, rfl⟩⟩
  have e : opT k (if zsd a then a else 0) (if zsd b then b else 0) (if zsd c then c else 0) = opT k a b c := opT_eq k _ _ _ _ _ _ h1 h2 (fun z => if_pos (zsd_i.mp (ha z))) (fun z => if_pos (zsd_i.mp (hb z))) (fun z => if_pos (zsd_i.mp (hc z)))
  have := RS_op k _ _ _ _ _ _ h1 h2 (fun _ => hr a) (fun _ => hr b) (fun _ => hr c)
  rw [← e, ← this.1]; exact this.2
theorem inM_S (x y : Int32) (n : Nat) : inS x y n = if (y >>> (nI n &&& 31)) &&& 1 = 1 then 2 else (x >>> (nI n &&& 31)) &&& 1 := by
  unfold inS
  obtain ⟨j, hj, e⟩ := pk_andE (y >>> (nI n &&& 31)) (m := 1) 1 (by decide)
  rcases (show j = 0 ∨ j = 1 by omega) with rfl | rfl
  · rw [e, if_neg (by decide), if_neg (by decide)]
  · rw [e, if_pos (by decide), if_pos (by decide)]
theorem pk_st0 : ∀ a, a < 3 → ((0 : Int32) ||| (nI a <<< (((2 : Int32) * nI 0) &&& 31))) = nI a := by decide +kernel
theorem pk_st1 : ∀ a, a < 3 → ∀ b, b < 3 → (nI a ||| (nI b <<< (((2 : Int32) * nI 1) &&& 31))) = nI (a + 4 * b) := by decide +kernel
theorem pk_st2 : ∀ a, a < 3 → ∀ b, b < 3 → ∀ c, c < 3 → (nI (a + 4 * b) ||| (nI c <<< (((2 : Int32) * nI 2) &&& 31))) = nI (a + 4 * b + 16 * c) := by decide +kernel
theorem pk_st3 : ∀ a, a < 3 → ∀ b, b < 3 → ∀ c, c < 3 → ∀ e, e < 3 → (nI (a + 4 * b + 16 * c) ||| (nI e <<< (((2 : Int32) * nI 3) &&& 31))) = nI (a + 4 * b + 16 * c + 64 * e) := by decide +kernel
abbrev RX12_stateNow (zn d : Nat) (post : zP) : zK := zRun (zcal zty zcd false (d + 0)) kX12_stateNow (zLM zn) post
theorem eX12_stateNow {zn d : Nat} {post : zP} (I : Nat → Nat → Int32) (L : Nat → Nat → Int64) (h : RX12_stateNow zn d post 0 [some (.ref 115), none, none] [] (zSH zn, I, L)) : zcal zty zcd false (d + 1) 163 [.ref 115] (zSH zn, I, L) 0 0 post := zcal_of (d := d + 0) zmt163 zmc163 rfl (Nat.le_of_ble_eq_true rfl) h
theorem gX12_stateNow_0 {zn d : Nat} {post : zP} (I : Nat → Nat → Int32) (L : Nat → Nat → Int64) (h : RX12_stateNow zn d post 4 [some (.ref 115), some (.int (0 : Int32)), some (.int (0 : Int32))] [] (zSH zn, I, L)) : RX12_stateNow zn d post 0 [some (.ref 115), none, none] [] (zSH zn, I, L) := fun P hw hc => hc _ tX12_stateNow_0 _ _ _ (hc _ tX12_stateNow_1 _ _ _ (hc _ tX12_stateNow_2 _ _ _ (hc _ tX12_stateNow_3 _ _ _ (h P hw hc))))
theorem gX12_stateNow_4 {zn d : Nat} {post : zP} (x1 : Int32) (x2 : Int32) (I : Nat → Nat → Int32) (L : Nat → Nat → Int64) (h : ((4 : Int32) ≤ x2 → post (some (.int x1)) (zSH zn, I, L)) ∧ (¬ (4 : Int32) ≤ x2 → vp_in x2 12 ∧ (RX12_stateNow zn d post 4 [some (.ref 115), some (.int (x1 ||| ((I 124 (x2).toNatClampNeg) <<< (((2 : Int32) * x2) &&& 31)))), some (.int (x2 + (1 : Int32)))] [] (zSH zn, I, L)))) : RX12_stateNow zn d post 4 [some (.ref 115), some (.int x1), some (.int x2)] [] (zSH zn, I, L) := fun P hw hc => hc _ tX12_stateNow_4 _ _ _ (hc _ tX12_stateNow_5 _ _ _ (hc _ tX12_stateNow_6 _ _ _ (⟨fun c1 => hc _ tX12_stateNow_28 _ _ _ (hc _ tX12_stateNow_29 _ _ _ (⟨nofun, rfl, rfl, (h.1 c1)⟩)), fun c2 => hc _ tX12_stateNow_9 _ _ _ (hc _ tX12_stateNow_10 _ _ _ (hc _ tX12_stateNow_11 _ _ _ (⟨_, _, sh115, (by decide), rfl, hc _ tX12_stateNow_14 _ _ _ (hc _ tX12_stateNow_15 _ _ _ (⟨_, _, _, sh124, Or.inl ⟨rfl, (by decide)⟩, (h.2 c2).1, hc _ tX12_stateNow_16 _ _ _ (hc _ tX12_stateNow_17 _ _ _ (hc _ tX12_stateNow_18 _ _ _ (hc _ tX12_stateNow_19 _ _ _ (hc _ tX12_stateNow_20 _ _ _ (hc _ tX12_stateNow_21 _ _ _ (hc _ tX12_stateNow_22 _ _ _ (hc _ tX12_stateNow_25 _ _ _ ((h.2 c2).2 P hw hc))))))))⟩))⟩)))⟩)))
theorem ctX12_stateNow {zn d : Nat} (I : Nat → Nat → Int32) (L : Nat → Nat → Int64) (f : Nat → Nat) (q0 : ∀ r, r < 4 → f r ≤ 2 ∧ I 124 r = nI (f r)) : zcal zty zcd false (d + 1) 163 [.ref 115] (zSH zn, I, L) 0 0 (fun r u => r = some (.int (nI (pkf f))) ∧ u = (zSH zn, I, L)) := by
  have a0 := q0 0 (by omega)
  have a1 := q0 1 (by omega)
  have a2 := q0 2 (by omega)
  have a3 := q0 3 (by omega)
  refine eX12_stateNow I L (gX12_stateNow_0 I L ?_)
  refine gX12_stateNow_4 _ _ I L ⟨fun h => absurd h (by decide), fun _ => ⟨zvin (by decide), ?_⟩⟩
  rw [show (0 : Int32).toNatClampNeg = 0 from rfl, a0.2, show (2 : Int32) * 0 = 2 * nI 0 from rfl, pk_st0 _ (by omega)]
  refine gX12_stateNow_4 _ _ I L ⟨fun h => absurd h (by decide), fun _ => ⟨zvin (by decide), ?_⟩⟩
  rw [show ((0 : Int32) + 1).toNatClampNeg = 1 by decide, a1.2, show (2 : Int32) * (0 + 1) = 2 * nI 1 by decide, pk_st1 _ (by omega) _ (by omega)]
  refine gX12_stateNow_4 _ _ I L ⟨fun h => absurd h (by decide), fun _ => ⟨zvin (by decide), ?_⟩⟩
  rw [show ((0 : Int32) + 1 + 1).toNatClampNeg = 2 by decide, a2.2, show (2 : Int32) * (0 + 1 + 1) = 2 * nI 2 by decide, pk_st2 _ (by omega) _ (by omega) _ (by omega)]
  refine gX12_stateNow_4 _ _ I L ⟨fun h => absurd h (by decide), fun _ => ⟨zvin (by decide), ?_⟩⟩
  rw [show ((0 : Int32) + 1 + 1 + 1).toNatClampNeg = 3 by decide, a3.2, show (2 : Int32) * (0 + 1 + 1 + 1) = 2 * nI 3 by decide, pk_st3 _ (by omega) _ (by omega) _ (by omega) _ (by omega)]
  exact gX12_stateNow_4 _ _ I L ⟨fun _ => ⟨rfl, rfl⟩, fun h => absurd (by decide) h⟩
/-- behind a STEP of the reference -/
def stpR (I J : Nat → Nat → Int32) (V : zVw) (f g : Nat → Nat) (x y : Int32) : Prop := fr [115, 124, 130, 131, 132] I J ∧ (∀ s, s ≠ 12 → J 115 s = I 115 s) ∧ J 115 12 = I 115 12 + 1 ∧ (∀ s, 4 ≤ s → J 124 s = I 124 s) ∧ (∀ r, r < 4 → J 124 r = nI (g r)) ∧ (∀ n, n < 6 → J 132 n = inS x y n) ∧ (∀ r, r < 4 → J 132 (15 + r) = nI (f r)) ∧ sol opT 0 V idp 2 (J 132) ∧ ∀ r, r < 4 → g r ≤ 2 ∧ nI (g r) = match V (15 + r) with
  | some ks => ev opT (J 132) 0 ks
  | none => nI (f r)
abbrev RX12_step (zn d : Nat) (post : zP) : zK := zRun (zcal zty zcd false (d + 4)) kX12_step (zLM zn) post
theorem eX12_step {zn d : Nat} {post : zP} (x1 : Int32) (x2 : Int32) (I : Nat → Nat → Int32) (L : Nat → Nat → Int64) (h : RX12_step zn d post 0 [some (.ref 115), some (.int x1), some (.int x2), none] [] (zSH zn, I, L)) : zcal zty zcd false (d + 5) 165 [.ref 115, .int x1, .int x2] (zSH zn, I, L) 0 0 post := zcal_of (d := d + 4) zmt165 zmc165 rfl (Nat.le_of_ble_eq_true rfl) h
theorem gX12_step_0 {zn d : Nat} {post : zP} (x1 : Int32) (x2 : Int32) (I : Nat → Nat → Int32) (L : Nat → Nat → Int64) (h : (¬ ((0 : Int32) ≤ x1 ∧ x1 ≤ (63 : Int32)) → post (some (.int (-1 : Int32))) (zSH zn, I, L)) ∧ ((0 : Int32) ≤ x1 ∧ x1 ≤ (63 : Int32) → ((0 : Int32) ≤ x2 ∧ x2 ≤ (63 : Int32) → RX12_step zn d post 24 [some (.ref 115), some (.int x1), some (.int x2), some (.int (0 : Int32))] [] (zSH zn, I, L)) ∧ (¬ ((0 : Int32) ≤ x2 ∧ x2 ≤ (63 : Int32)) → post (some (.int (-1 : Int32))) (zSH zn, I, L)))) : RX12_step zn d post 0 [some (.ref 115), some (.int x1), some (.int x2), none] [] (zSH zn, I, L) := fun P hw hc => hc _ tX12_step_0 _ _ _ (hc _ tX12_step_1 _ _ _ (hc _ tX12_step_2 _ _ _ (hc _ tX12_step_4 _ _ _ (⟨Nat.le_of_ble_eq_true rfl, Nat.le_of_ble_eq_true rfl, zl1, zl2, _, ctX12_in x1 (0 : Int32) (63 : Int32) I L, fun r u k6 => by obtain ⟨rfl, rfl⟩ := k6; exact ⟨zl3, zl4, hc _ tX12_step_7 _ _ _ (⟨fun c1 => hc _ tX12_step_20 _ _ _ (hc _ tX12_step_21 _ _ _ (⟨nofun, rfl, rfl, (h.1 (zb_e c1))⟩)), fun c2 => hc _ tX12_step_10 _ _ _ (hc _ tX12_step_11 _ _ _ (hc _ tX12_step_12 _ _ _ (hc _ tX12_step_14 _ _ _ (⟨Nat.le_of_ble_eq_true rfl, Nat.le_of_ble_eq_true rfl, zl1, zl2, _, ctX12_in x2 (0 : Int32) (63 : Int32) I L, fun r u k5 => by obtain ⟨rfl, rfl⟩ := k5; exact ⟨zl3, zl4, hc _ tX12_step_17 _ _ _ (⟨fun c3 => hc _ tX12_step_22 _ _ _ (hc _ tX12_step_23 _ _ _ (((h.2 (zb_n c2)).1 (zb_n c3)) P hw hc)), fun c4 => hc _ tX12_step_20 _ _ _ (hc _ tX12_step_21 _ _ _ (⟨nofun, rfl, rfl, ((h.2 (zb_n c2)).2 (zb_e c4))⟩))⟩)⟩⟩))))⟩)⟩⟩))))
theorem gX12_step_24 {zn d : Nat} {post : zP} (x1 : Int32) (x2 : Int32) (x3 : Int32) (I : Nat → Nat → Int32) (L : Nat → Nat → Int64) (h : ((6 : Int32) ≤ x3 → RX12_step zn d post 62 [some (.ref 115), some (.int x1), some (.int x2), some (.int (0 : Int32))] [] (zSH zn, I, L)) ∧ (¬ (6 : Int32) ≤ x3 → (¬ ((x2 >>> (x3 &&& 31)) &&& (1 : Int32)) = (1 : Int32) → vp_in x3 19 ∧ (RX12_step zn d post 24 [some (.ref 115), some (.int x1), some (.int x2), some (.int (x3 + (1 : Int32)))] [] (zSH zn, (zi I 130 (x3).toNatClampNeg ((x1 >>> (x3 &&& 31)) &&& (1 : Int32))), L))) ∧ (((x2 >>> (x3 &&& 31)) &&& (1 : Int32)) = (1 : Int32) → vp_in x3 19 ∧ (RX12_step zn d post 24 [some (.ref 115), some (.int x1), some (.int x2), some (.int (x3 + (1 : Int32)))] [] (zSH zn, (zi I 130 (x3).toNatClampNeg (2 : Int32)), L))))) : RX12_step zn d post 24 [some (.ref 115), some (.int x1), some (.int x2), some (.int x3)] [] (zSH zn, I, L) := fun P hw hc => hc _ tX12_step_24 _ _ _ (hc _ tX12_step_25 _ _ _ (hc _ tX12_step_27 _ _ _ (⟨fun c1 => hc _ tX12_step_60 _ _ _ (hc _ tX12_step_61 _ _ _ ((h.1 c1) P hw hc)), fun c2 => hc _ tX12_step_30 _ _ _ (hc _ tX12_step_31 _ _ _ (⟨_, _, sh115, (by decide), rfl, hc _ tX12_step_34 _ _ _ (hc _ tX12_step_35 _ _ _ (hc _ tX12_step_36 _ _ _ (hc _ tX12_step_37 _ _ _ (hc _ tX12_step_38 _ _ _ (hc _ tX12_step_39 _ _ _ (hc _ tX12_step_40 _ _ _ (hc _ tX12_step_41 _ _ _ (⟨fun c3 => hc _ tX12_step_48 _ _ _ (hc _ tX12_step_49 _ _ _ (hc _ tX12_step_50 _ _ _ (hc _ tX12_step_51 _ _ _ (hc _ tX12_step_52 _ _ _ (hc _ tX12_step_53 _ _ _ (⟨_, _, sh130, (by decide), ((h.2 c2).1 c3).1, hc _ tX12_step_54 _ _ _ (hc _ tX12_step_57 _ _ _ (((h.2 c2).1 c3).2 P hw hc))⟩)))))), fun c4 => hc _ tX12_step_44 _ _ _ (hc _ tX12_step_45 _ _ _ (hc _ tX12_step_53 _ _ _ (⟨_, _, sh130, (by decide), ((h.2 c2).2 c4).1, hc _ tX12_step_54 _ _ _ (hc _ tX12_step_57 _ _ _ (((h.2 c2).2 c4).2 P hw hc))⟩)))⟩))))))))⟩))⟩)))
theorem gX12_step_62 {zn d : Nat} {post : zP} (x1 : Int32) (x2 : Int32) (x3 : Int32) (I : Nat → Nat → Int32) (L : Nat → Nat → Int64) (h : ((4 : Int32) ≤ x3 → (∃ (V4 : zVw) (os5 : List Nat), (zs (0 : Int32) 6) ∧ (rEv I (tn (0 : Int32)) V4 os5) ∧ (∀ (J3 : Nat → Nat → Int32), (rRun I J3 V4 (2 : Int32)) → RX12_step zn d post 96 [some (.ref 115), some (.int x1), some (.int x2), some (.int (0 : Int32))] [] (zSH zn, J3, L)))) ∧ (¬ (4 : Int32) ≤ x3 → vp_in x3 12 ∧ (vp_in ((15 : Int32) + x3) 19 ∧ (RX12_step zn d post 62 [some (.ref 115), some (.int x1), some (.int x2), some (.int (x3 + (1 : Int32)))] [] (zSH zn, (zi I 130 (((15 : Int32) + x3)).toNatClampNeg (I 124 (x3).toNatClampNeg)), L))))) : RX12_step zn d post 62 [some (.ref 115), some (.int x1), some (.int x2), some (.int x3)] [] (zSH zn, I, L) := fun P hw hc => hc _ tX12_step_62 _ _ _ (hc _ tX12_step_63 _ _ _ (hc _ tX12_step_64 _ _ _ (⟨fun c1 => hc _ tX12_step_88 _ _ _ (hc _ tX12_step_89 _ _ _ (hc _ tX12_step_90 _ _ _ ((by obtain ⟨V4, os5, hg6⟩ := (h.1 c1); exact hc _ tX12_step_91 _ _ _ (⟨⟨_, _, _, rfl, (by decide), sh115⟩, ⟨Nat.le_of_ble_eq_true rfl, Nat.le_of_ble_eq_true rfl, zl1, zl2, _, ctX12_layWires (0 : Int32) (2 : Int32) I L V4 os5 hg6.1 hg6.2.1, fun r u k8 => by obtain ⟨J3, rfl, rfl, p7⟩ := k8; exact ⟨zl3, zl4, hc _ tX12_step_94 _ _ _ (hc _ tX12_step_95 _ _ _ ((hg6.2.2 J3 p7) P hw hc))⟩⟩⟩))))), fun c2 => hc _ tX12_step_67 _ _ _ (hc _ tX12_step_68 _ _ _ (⟨_, _, sh115, (by decide), rfl, hc _ tX12_step_71 _ _ _ (hc _ tX12_step_73 _ _ _ (hc _ tX12_step_74 _ _ _ (hc _ tX12_step_75 _ _ _ (hc _ tX12_step_76 _ _ _ (⟨_, _, sh115, (by decide), rfl, hc _ tX12_step_79 _ _ _ (hc _ tX12_step_80 _ _ _ (⟨_, _, _, sh124, Or.inl ⟨rfl, (by decide)⟩, (h.2 c2).1, hc _ tX12_step_81 _ _ _ (⟨_, _, sh130, (by decide), (h.2 c2).2.1, hc _ tX12_step_82 _ _ _ (hc _ tX12_step_85 _ _ _ ((h.2 c2).2.2 P hw hc))⟩)⟩))⟩)))))⟩))⟩)))
theorem gX12_step_96 {zn d : Nat} {post : zP} (x1 : Int32) (x2 : Int32) (x3 : Int32) (I : Nat → Nat → Int32) (L : Nat → Nat → Int64) (h : ((19 : Int32) ≤ x3 → RX12_step zn d post 122 [some (.ref 115), some (.int x1), some (.int x2), some (.int (0 : Int32))] [] (zSH zn, I, L)) ∧ (¬ (19 : Int32) ≤ x3 → vp_in x3 19 ∧ (RX12_step zn d post 96 [some (.ref 115), some (.int x1), some (.int x2), some (.int (x3 + (1 : Int32)))] [] (zSH zn, (zi I 132 (x3).toNatClampNeg (I 130 (x3).toNatClampNeg)), L)))) : RX12_step zn d post 96 [some (.ref 115), some (.int x1), some (.int x2), some (.int x3)] [] (zSH zn, I, L) := fun P hw hc => hc _ tX12_step_96 _ _ _ (hc _ tX12_step_97 _ _ _ (hc _ tX12_step_99 _ _ _ (⟨fun c1 => hc _ tX12_step_120 _ _ _ (hc _ tX12_step_121 _ _ _ ((h.1 c1) P hw hc)), fun c2 => hc _ tX12_step_102 _ _ _ (hc _ tX12_step_103 _ _ _ (⟨_, _, sh115, (by decide), rfl, hc _ tX12_step_106 _ _ _ (hc _ tX12_step_107 _ _ _ (hc _ tX12_step_108 _ _ _ (⟨_, _, sh115, (by decide), rfl, hc _ tX12_step_111 _ _ _ (hc _ tX12_step_112 _ _ _ (⟨_, _, _, sh130, Or.inl ⟨rfl, (by decide)⟩, (h.2 c2).1, hc _ tX12_step_113 _ _ _ (⟨_, _, sh132, (by decide), (h.2 c2).1, hc _ tX12_step_114 _ _ _ (hc _ tX12_step_117 _ _ _ ((h.2 c2).2 P hw hc))⟩)⟩))⟩)))⟩))⟩)))
theorem gX12_step_122 {zn d : Nat} {post : zP} (x1 : Int32) (x2 : Int32) (x3 : Int32) (I : Nat → Nat → Int32) (L : Nat → Nat → Int64) (h : ((4 : Int32) ≤ x3 → (∃ (f3 : Nat → Nat), (∀ r, r < 4 → f3 r ≤ 2 ∧ (zi I 115 12 ((I 115 12) + (1 : Int32))) 124 r = nI (f3 r)) ∧ (post (some (.int (nI (pkf f3)))) (zSH zn, (zi I 115 12 ((I 115 12) + (1 : Int32))), L)))) ∧ (¬ (4 : Int32) ≤ x3 → (∃ (V7 : zVw), (okV V7) ∧ (rLn I (tn (0 : Int32)) V7) ∧ (zs (0 : Int32) 6) ∧ (zs ((15 : Int32) + x3) 18) ∧ (∀ (M6 : Nat → Int32), vp_in x3 12 ∧ (RX12_step zn d post 122 [some (.ref 115), some (.int x1), some (.int x2), some (.int (x3 + (1 : Int32)))] [] (zSH zn, (zi (zrI I 131 M6) 124 (x3).toNatClampNeg (tolR I V7 (tn ((15 : Int32) + x3)))), L)))))) : RX12_step zn d post 122 [some (.ref 115), some (.int x1), some (.int x2), some (.int x3)] [] (zSH zn, I, L) := fun P hw hc => hc _ tX12_step_122 _ _ _ (hc _ tX12_step_123 _ _ _ (hc _ tX12_step_124 _ _ _ (⟨fun c1 => hc _ tX12_step_148 _ _ _ (hc _ tX12_step_149 _ _ _ (⟨rfl, hc _ tX12_step_150 _ _ _ (⟨_, sh115, (by decide), hc _ tX12_step_153 _ _ _ (hc _ tX12_step_154 _ _ _ (hc _ tX12_step_155 _ _ _ (⟨_, sh115, (by decide), nofun, hc _ tX12_step_158 _ _ _ ((by obtain ⟨f3, hg4⟩ := (h.1 c1); exact hc _ tX12_step_159 _ _ _ (⟨⟨_, _, _, rfl, (by decide), sh115⟩, ⟨Nat.le_of_ble_eq_true rfl, Nat.le_of_ble_eq_true rfl, zl1, zl2, _, ctX12_stateNow (zi I 115 12 ((I 115 12) + (1 : Int32))) L f3 hg4.1, fun r u k5 => by obtain ⟨rfl, rfl⟩ := k5; exact ⟨zl3, zl4, hc _ tX12_step_162 _ _ _ (⟨nofun, rfl, rfl, hg4.2⟩)⟩⟩⟩)))⟩)))⟩)⟩)), fun c2 => hc _ tX12_step_127 _ _ _ (hc _ tX12_step_128 _ _ _ (⟨_, _, sh115, (by decide), rfl, hc _ tX12_step_131 _ _ _ (hc _ tX12_step_132 _ _ _ (hc _ tX12_step_133 _ _ _ (hc _ tX12_step_134 _ _ _ (hc _ tX12_step_136 _ _ _ (hc _ tX12_step_137 _ _ _ ((by obtain ⟨V7, hg8⟩ := (h.2 c2); exact hc _ tX12_step_138 _ _ _ (⟨⟨_, _, _, rfl, (by decide), sh115⟩, ⟨Nat.le_of_ble_eq_true rfl, Nat.le_of_ble_eq_true rfl, zl1, zl2, _, ctX12_told (0 : Int32) ((15 : Int32) + x3) I L V7 hg8.1 hg8.2.1 hg8.2.2.1 hg8.2.2.2.1, fun r u k9 => by obtain ⟨M6, rfl, rfl⟩ := k9; exact ⟨zl3, zl4, hc _ tX12_step_141 _ _ _ (⟨_, _, sh124, (by decide), (hg8.2.2.2.2 M6).1, hc _ tX12_step_142 _ _ _ (hc _ tX12_step_145 _ _ _ ((hg8.2.2.2.2 M6).2 P hw hc))⟩)⟩⟩⟩))))))))⟩))⟩)))
theorem ctX12_step {zn d : Nat} (x1 : Int32) (x2 : Int32) (I : Nat → Nat → Int32) (L : Nat → Nat → Int64) (V : zVw) (os : List Nat) (f : Nat → Nat) (q0 : rEv I 0 V os) (q1 : ∀ r, r < 4 → f r ≤ 2 ∧ I 124 r = nI (f r)) (q2 : I 115 18 = -4) : zcal zty zcd false (d + 5) 165 [.ref 115, .int x1, .int x2] (zSH zn, I, L) 0 0 (fun r u => ∃ (J : Nat → Nat → Int32), ∃ (v : Int32), r = some (.int v) ∧ u = (zSH zn, J, L) ∧ (if (0 ≤ x1 ∧ x1 ≤ 63) ∧ 0 ≤ x2 ∧ x2 ≤ 63 then ∃ g : Nat → Nat, v = nI (pkf g) ∧ stpR I J V f g x1 x2 else v = -1 ∧ J = I)) := by
  obtain ⟨hV, hln, ho⟩ := id q0
  have hto : topw V os := topr_w ho.1
  have loop4 : ∀ (m i : Nat) (A J : Nat → Nat → Int32) (g : Nat → Nat), i + m = 4 → fr [124, 130, 131, 132] I J → J 115 = I 115 → (∀ s, 4 ≤ s → J 124 s = I 124 s) → (∀ r, r < i → J 124 r = nI (g r)) → (∀ n, n < 19 → J 132 n = J 130 n) → (∀ n, n < 6 → J 130 n = inS x1 x2 n) → (∀ r, r < 4 → J 130 (15 + r) = nI (f r)) → sol opT 0 V idp 2 (J 132) → (∀ n, n < 19 → zs (J 132 n) 2) → (∀ r, r < i → g r ≤ 2 ∧ nI (g r) = match V (15 + r) with
        | some ks => ev opT (J 132) 0 ks
        | none => nI (f r)) →
      RX12_step zn d (fun r u => ∃ (J : Nat → Nat → Int32), ∃ (v : Int32), r = some (.int v) ∧ u = (zSH zn, J, L) ∧ (∃ g : Nat → Nat, v = nI (pkf g) ∧ stpR I J V f g x1 x2)) 122 [some (.ref 115), some (.int x1), some (.int x2), some (.int (nI i))] [] (zSH zn, J, L) := by
    intro m
    induction m with
    | zero =>
      intro i A J g hi f1 f2 f3 f4 f5 f6 f7 f8 f9 f10
      have hi4 : i = 4 := by omega
      subst hi4
      refine gX12_step_122 _ _ _ J L ⟨fun _ => ⟨g, fun r hr => ⟨(f10 r hr).1, by rw [zi_ne (by decide)]; exact f4 r hr⟩, _, _, rfl, rfl, g, rfl, ?_⟩, fun hc => absurd (by decide) hc⟩
      refine ⟨fr_trans (fr_sub f1 (by simp)) (fr_zi (by simp)), fun s hs => ?_, ?_, ?_, ?_, ?_, ?_, ?_, ?_⟩
      · rw [zi_at, if_neg (fun z => hs z.2), f2]
      · rw [zi_at, if_pos ⟨rfl, rfl⟩, f2]
      · rw [zi_ne (by decide)]; exact f3
      · rw [zi_ne (by decide)]; exact f4
      · rw [zi_ne (by decide)]; exact fun n hn => by rw [f5 n (by omega)]; exact f6 n hn
      · rw [zi_ne (by decide)]; exact fun r hr => by rw [f5 _ (by omega)]; exact f7 r hr
      · rw [zi_ne (by decide)]; exact f8
      · rw [zi_ne (by decide)]; exact f10
    | succ m ih =>
      intro i A J g hi f1 f2 f3 f4 f5 f6 f7 f8 f9 f10
      have e0 : (15 : Int32) + nI i = nI (15 + i) := by rw [nl 15, nI_add]
      have e0' : tn (nI (15 + i)) = 15 + i := tn_nI (by omega)
      have e1 : (nI i).toNatClampNeg = i := nI_clamp (by omega)
      have hus : ∀ n, n < 19 → usR J n = J 132 n := fun n hn => by
        unfold usR
        rw [f2, q2, if_neg, f5 n hn]
        intro z
        have := congrArg Int32.toInt z
        rw [nI_toInt (by omega)] at this
        have h4 : (-4 : Int32).toInt = -4 := by decide
        rw [h4] at this; omega
      have hlnJ : rLn J 0 V := by
        intro n hn
        have := hln n hn
        cases hv : V n with
        | none => rw [hv] at this; simp only at this ⊢; rw [f1 120 (by decide)]; exact this
        | some ks =>
          rw [hv] at this
          obtain ⟨fl, g1, g2, g3, g4⟩ := this
          exact ⟨fl, g1, by rw [f1 119 (by decide)]; exact g2, by rw [f1 120 (by decide)]; exact g3, fun i x hx => by rw [f1 118 (by decide)]; exact g4 i x hx⟩
      have hto2 : tolR J V (15 + i) = match V (15 + i) with
          | some ks => ev opT (J 132) 0 ks
          | none => nI (f i) := by
        unfold tolR
        rw [if_pos (by omega)]
        cases hv : V (15 + i) with
        | none => exact f7 i (by omega)
        | some ks => exact ev_cong opT_eq (hV _ ks hv).2.2 hus 0
      have hz : zs (tolR J V (15 + i)) 2 := by
        rw [hto2]
        cases hv : V (15 + i) with
        | none => exact ⟨f i, (q1 i (by omega)).1, rfl⟩
        | some ks => exact evT_ok (hV _ ks hv).2.2 f9
      obtain ⟨mv, hmv, emv⟩ := hz
      refine gX12_step_122 _ _ _ J L ⟨fun hc => absurd hc (by rw [nl 4, nI_leI (by omega) (by omega)]; omega), fun _ => ⟨V, hV, hlnJ, ⟨0, by decide, rfl⟩, by rw [e0]; exact ⟨15 + i, by omega, rfl⟩, fun M => ⟨vin_nI (by omega) (by omega), ?_⟩⟩⟩
      rw [e0, e0', e1, nI_1]
      have e132 : ∀ v, (zi (zrI J 131 M) 124 i v) 132 = J 132 := fun v => by rw [zi_ne (by decide), zrI_n (by decide)]
      have e130 : ∀ v, (zi (zrI J 131 M) 124 i v) 130 = J 130 := fun v => by rw [zi_ne (by decide), zrI_n (by decide)]
      refine ih (i + 1) A _ (fun r => if r = i then mv else g r) (by omega) (fr_trans f1 (fr_trans (I' := zrI J 131 M) (fun j hj => zrI_n (fun z => hj (by simp [z]))) (fr_zi (by simp)))) (by rw [zi_ne (by decide), zrI_n (by decide)]; exact f2) (fun s hs => ?_) (fun r hr => ?_) (by rw [e132, e130]; exact f5) (by rw [e130]; exact f6) (by rw [e130]; exact f7) (by rw [e132]; exact f8) (by rw [e132]; exact f9) (fun r hr => ?_)
      · rw [zi_at, if_neg (by omega), zrI_n (by decide)]; exact f3 s hs
      · rw [zi_at, zrI_n (by decide)]
        show _ = nI (if r = i then mv else g r)
        by_cases hri : r = i
        · rw [if_pos ⟨rfl, hri⟩, if_pos hri, emv]
        · rw [if_neg (fun z => hri z.2), if_neg hri]; exact f4 r (by omega)
      · rw [e132]
        show (if r = i then mv else g r) ≤ 2 ∧ nI (if r = i then mv else g r) = _
        by_cases hri : r = i
        · subst hri
          rw [if_pos rfl]
          exact ⟨hmv, by rw [← emv, hto2]⟩
        · rw [if_neg hri]; exact f10 r (by omega)
  have loop3 : ∀ (m i : Nat) (A J : Nat → Nat → Int32), i + m = 19 → fr [130, 131] I A → A 115 = I 115 → A 124 = I 124 → (∀ n, n < 6 → A 130 n = inS x1 x2 n) → (∀ r, r < 4 → A 130 (15 + r) = nI (f r)) → sol opT 0 V idp 2 (A 130) → (∀ n, n < 19 → zs (A 130 n) 2) → fr [132] A J → (∀ n, n < i → J 132 n = A 130 n) →
      RX12_step zn d (fun r u => ∃ (J : Nat → Nat → Int32), ∃ (v : Int32), r = some (.int v) ∧ u = (zSH zn, J, L) ∧ (∃ g : Nat → Nat, v = nI (pkf g) ∧ stpR I J V f g x1 x2)) 96 [some (.ref 115), some (.int x1), some (.int x2), some (.int (nI i))] [] (zSH zn, J, L) := by
    intro m
    induction m with
    | zero =>
      intro i A J hi f1 f2 f3 f4 f5 f6 f7 f8 f9
      have hi4 : i = 19 := by omega
      subst hi4
      have e130 : J 130 = A 130 := f8 130 (by decide)
      refine gX12_step_96 _ _ _ J L ⟨fun _ => loop4 4 0 A J f (by omega) (fr_trans (fr_sub f1 (by simp)) (fr_sub f8 (by simp))) (by rw [f8 115 (by decide)]; exact f2) (fun s _ => by rw [f8 124 (by decide), f3]) (fun r hr => absurd hr (by omega)) (fun n hn => by rw [f9 n hn, e130]) (by rw [e130]; exact f4) (by rw [e130]; exact f5) ?_ ?_ (fun r hr => absurd hr (by omega)), fun hc => absurd (by decide) hc⟩
      · exact sol_cong opT_eq hV (fun n hn => (f9 n hn).symm) (fun _ _ _ => rfl) f6
      · intro n hn; rw [f9 n hn]; exact f7 n hn
    | succ m ih =>
      intro i A J hi f1 f2 f3 f4 f5 f6 f7 f8 f9
      have e0 : (nI i).toNatClampNeg = i := nI_clamp (by omega)
      refine gX12_step_96 _ _ _ J L ⟨fun hc => absurd hc (by rw [nl 19, nI_leI (by omega) (by omega)]; omega), fun _ => ⟨vin_nI (by omega) (by omega), ?_⟩⟩
      rw [e0, nI_1, f8 130 (by decide)]
      refine ih (i + 1) A _ (by omega) f1 f2 f3 f4 f5 f6 f7 (fr_trans f8 (fr_zi (by simp))) (fun n hn => ?_)
      rw [zi_at]
      by_cases hni : n = i
      · rw [if_pos ⟨rfl, hni⟩, hni]
      · rw [if_neg (fun z => hni z.2)]; exact f9 n (by omega)
  have loop2 : ∀ (m i : Nat) (J : Nat → Nat → Int32), i + m = 4 → fr [130, 131] I J → (∀ n, n < 6 → J 130 n = inS x1 x2 n) → (∀ r, r < i → J 130 (15 + r) = nI (f r)) →
      RX12_step zn d (fun r u => ∃ (J : Nat → Nat → Int32), ∃ (v : Int32), r = some (.int v) ∧ u = (zSH zn, J, L) ∧ (∃ g : Nat → Nat, v = nI (pkf g) ∧ stpR I J V f g x1 x2)) 62 [some (.ref 115), some (.int x1), some (.int x2), some (.int (nI i))] [] (zSH zn, J, L) := by
    intro m
    induction m with
    | zero =>
      intro i J hi f1 f2 f3
      have hi4 : i = 4 := by omega
      subst hi4
      refine gX12_step_62 _ _ _ J L ⟨fun _ => ⟨V, os, ⟨0, by decide, rfl⟩, rEv_fr q0 f1, fun J2 hJ2 => ?_⟩, fun hc => absurd (by decide) hc⟩
      have h4 : J 115 18 = -4 := by rw [f1 115 (by decide)]; exact q2
      have hus : ∀ n, n < 19 → usR J2 n = J2 130 n := fun n hn => by rw [usR_p hJ2.1, pq_none h4 n _ hn]; rfl
      have hsol : sol opT 0 V idp 2 (J2 130) := sol_cong opT_eq hV hus (fun w v hw => by rw [pq_none h4 w v hw]; rfl) hJ2.2.2.1
      have hin : ∀ n, n < 6 → J2 130 n = inS x1 x2 n := fun n hn => by rw [hJ2.2.1 n (by omega)]; exact f2 n hn
      have hre : ∀ r, r < 4 → J2 130 (15 + r) = nI (f r) := fun r hr => by rw [hJ2.2.1 (15 + r) (by omega)]; exact f3 r hr
      refine loop3 19 0 J2 J2 (by omega) (fr_trans f1 hJ2.1) (by rw [hJ2.1 115 (by decide), f1 115 (by decide)]) (by rw [hJ2.1 124 (by decide), f1 124 (by decide)]) hin hre hsol (sol_ok hV hto hsol (fun n hn hw => ?_)) fr_rf (fun n hn => absurd hn (by omega))
      by_cases hn6 : n < 6
      · rw [hin n hn6]; exact zs_inS _ _ _
      · have := hre (n - 15) (by omega)
        rw [show 15 + (n - 15) = n by omega] at this
        rw [this]; exact ⟨_, (q1 _ (by omega)).1, rfl⟩
    | succ m ih =>
      intro i J hi f1 f2 f3
      have e0 : (15 : Int32) + nI i = nI (15 + i) := by rw [nl 15, nI_add]
      have e0' : (nI (15 + i)).toNatClampNeg = 15 + i := nI_clamp (by omega)
      have e1 : (nI i).toNatClampNeg = i := nI_clamp (by omega)
      refine gX12_step_62 _ _ _ J L ⟨fun hc => absurd hc (by rw [nl 4, nI_leI (by omega) (by omega)]; omega), fun _ => ⟨vin_nI (by omega) (by omega), by rw [e0]; exact vin_nI (by omega) (by omega), ?_⟩⟩
      rw [e0, e0', e1, nI_1, f1 124 (by decide), (q1 i (by omega)).2]
      refine ih (i + 1) _ (by omega) (fr_trans f1 (fr_zi (by simp))) (fun n hn => ?_) (fun r hr => ?_)
      · rw [zi_at, if_neg (by omega)]; exact f2 n hn
      · rw [zi_at]
        by_cases hri : r = i
        · rw [if_pos ⟨rfl, by omega⟩, hri]
        · rw [if_neg (by omega)]; exact f3 r (by omega)
  have loop1 : ∀ (m i : Nat) (J : Nat → Nat → Int32), i + m = 6 → fr [130, 131] I J → (∀ n, n < i → J 130 n = inS x1 x2 n) →
      RX12_step zn d (fun r u => ∃ (J : Nat → Nat → Int32), ∃ (v : Int32), r = some (.int v) ∧ u = (zSH zn, J, L) ∧ (∃ g : Nat → Nat, v = nI (pkf g) ∧ stpR I J V f g x1 x2)) 24 [some (.ref 115), some (.int x1), some (.int x2), some (.int (nI i))] [] (zSH zn, J, L) := by
    intro m
    induction m with
    | zero =>
      intro i J hi f1 f2
      have hi4 : i = 6 := by omega
      subst hi4
      exact gX12_step_24 _ _ _ J L ⟨fun _ => loop2 4 0 J (by omega) f1 f2 (fun r hr => absurd hr (by omega)), fun hc => absurd (by decide) hc⟩
    | succ m ih =>
      intro i J hi f1 f2
      have e0 : (nI i).toNatClampNeg = i := nI_clamp (by omega)
      refine gX12_step_24 _ _ _ J L ⟨fun hc => absurd hc (by rw [nl 6, nI_leI (by omega) (by omega)]; omega), fun _ => ⟨fun hc => ⟨vin_nI (by omega) (by omega), ?_⟩, fun hc => ⟨vin_nI (by omega) (by omega), ?_⟩⟩⟩
      all_goals
        rw [e0, nI_1]
        refine ih (i + 1) _ (by omega) (fr_trans f1 (fr_zi (by simp))) (fun n hn => ?_)
        rw [zi_at]
        by_cases hni : n = i
        · subst hni; rw [if_pos ⟨rfl, rfl⟩, inM_S]; simp only [hc, if_true, if_false]
        · rw [if_neg (fun z => hni z.2)]; exact f2 n (by omega)
  refine eX12_step _ _ I L (gX12_step_0 _ _ I L ⟨fun h => ?_, fun h => ⟨fun h2 => ?_, fun h2 => ?_⟩⟩)
  · exact ⟨I, -1, rfl, rfl, by rw [if_neg (fun z => h z.1)]; exact ⟨rfl, rfl⟩⟩
  · simp only [if_pos (show (0 ≤ x1 ∧ x1 ≤ 63) ∧ 0 ≤ x2 ∧ x2 ≤ 63 from ⟨h, h2⟩)]
    exact loop1 6 0 I (by omega) fr_rf (fun n hn => absurd hn (by omega))
  · exact ⟨I, -1, rfl, rfl, by rw [if_neg (fun z => h2 z.2)]; exact ⟨rfl, rfl⟩⟩

