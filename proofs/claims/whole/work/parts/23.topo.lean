/-! values come in an order in which each LINE finds what it needs -/
def topc (V : zVw) (os : List Nat) : Prop := (∀ n, n ∈ os ↔ (V n).isSome = true) ∧ os.Nodup ∧ ∀ (i o : Nat) (ks : List Nat) (w : Nat), os[i]? = some o → V o = some ks → w ∈ ks → 6 ≤ w → w < 15 → w ∈ os.take i
/-- the same for wires alone -/
def topr (V : zVw) (os : List Nat) : Prop := (∀ n, n ∈ os ↔ (6 ≤ n ∧ n < 15 ∧ (V n).isSome = true)) ∧ os.Nodup ∧ ∀ (i o : Nat) (ks : List Nat) (w : Nat), os[i]? = some o → V o = some ks → w ∈ ks → 6 ≤ w → w < 15 → w ∈ os.take i
theorem topc_w {V : zVw} {os : List Nat} (h : topc V os) : topw V os := ⟨fun w _ _ hw => (h.1 w).mpr hw, h.2.2⟩
theorem topr_w {V : zVw} {os : List Nat} (h : topr V os) : topw V os := ⟨fun w h1 h2 hw => (h.1 w).mpr ⟨h1, h2, hw⟩, h.2.2⟩
theorem nodup_take {os : List Nat} (h : os.Nodup) {i o : Nat} (hi : os[i]? = some o) : o ∉ os.take i := by
  intro hm
  obtain ⟨j, hj⟩ := List.getElem?_of_mem hm
  have hjl : j < i := by
    have := (List.getElem?_eq_some_iff.mp hj).1
    rw [List.length_take] at this
    omega
  rw [List.getElem?_take_of_lt hjl] at hj
  have h1 : i < os.length := (List.getElem?_eq_some_iff.mp hi).1
  have := (List.getElem?_inj (i := j) (j := i) (by omega) h).mp (by rw [hj, hi])
  omega
theorem take_sub {os : List Nat} {i j w : Nat} (h : w ∈ os.take i) (hij : i ≤ j) : w ∈ os.take j := by
  have : os.take i = (os.take j).take i := by rw [List.take_take, Nat.min_eq_left hij]
  rw [this] at h
  exact List.mem_of_mem_take h
/-- what a LINE in the order needs doesn't change any more -/
theorem ev_stay {α : Type} {op : Nat → α → α → α → α} (hop : opRel Eq op op) {z v : α} {V : zVw} (hV : okV V) {os : List Nat} (hn : os.Nodup) (ht : ∀ (i o : Nat) (ks : List Nat) (w : Nat), os[i]? = some o → V o = some ks → w ∈ ks → 6 ≤ w → w < 15 → w ∈ os.take i) {i o w : Nat} {ks : List Nat} {env : Nat → α} (ho : os[i]? = some o) (how : 6 ≤ o ∧ o < 15) (hw : w ∈ os.take (i + 1)) (hk : V w = some ks) : ev op (fun n => if n = o then v else env n) z ks = ev op env z ks := by
  refine ev_rel hop (hV w ks hk).2.2 (fun k hkk hk2 => ?_) z z
  show (if k = o then v else env k) = env k
  rw [if_neg]
  rintro rfl
  obtain ⟨j, hj⟩ := List.getElem?_of_mem hw
  have hjl : j < i + 1 := by
    have := (List.getElem?_eq_some_iff.mp hj).1
    rw [List.length_take] at this
    omega
  rw [List.getElem?_take_of_lt hjl] at hj
  exact nodup_take hn ho (take_sub (ht j w ks k hj hk hkk how.1 how.2) (by omega))
def tInv {α : Type} (op : Nat → α → α → α → α) (z : α) (V : zVw) (pst : Nat → α → α) (dfl : α) (os : List Nat) (i : Nat) (env : Nat → α) : Prop := (∀ w, 6 ≤ w → w < 15 → w ∈ os.take i → ∀ ks, V w = some ks → env w = pst w (ev op env z ks)) ∧ ∀ w, 6 ≤ w → w < 15 → w ∉ os.take i → env w = pst w dfl
theorem tInv_step {α : Type} {op : Nat → α → α → α → α} (hop : opRel Eq op op) {z : α} {V : zVw} (hV : okV V) {pst : Nat → α → α} {dfl : α} {os : List Nat} (hn : os.Nodup) (ht : ∀ (i o : Nat) (ks : List Nat) (w : Nat), os[i]? = some o → V o = some ks → w ∈ ks → 6 ≤ w → w < 15 → w ∈ os.take i) {i o : Nat} {ks : List Nat} {env : Nat → α} (h : tInv op z V pst dfl os i env) (ho : os[i]? = some o) (how : 6 ≤ o ∧ o < 15) (hk : V o = some ks) : tInv op z V pst dfl os (i + 1) (fun n => if n = o then pst o (ev op env z ks) else env n) := by
  refine ⟨fun w h6 h15 hw ks' hk' => ?_, fun w h6 h15 hw => ?_⟩
  · rw [ev_stay hop hV hn ht ho how hw hk']
    show (if w = o then _ else env w) = _
    by_cases hwo : w = o
    · subst hwo
      rw [if_pos rfl]
      rw [hk] at hk'; cases hk'; rfl
    · rw [if_neg hwo]
      rw [take_s ho] at hw
      rcases List.mem_append.mp hw with hw | hw
      · exact h.1 w h6 h15 hw ks' hk'
      · simp at hw; exact absurd hw hwo
  · rw [take_s ho] at hw
    show (if w = o then _ else env w) = _
    rw [if_neg (fun z => hw (by rw [z]; simp))]
    exact h.2 w h6 h15 (fun z => hw (List.mem_append_left _ z))
theorem tInv_skip {α : Type} {op : Nat → α → α → α → α} {z : α} {V : zVw} {pst : Nat → α → α} {dfl : α} {os : List Nat} {i o : Nat} {env : Nat → α} (h : tInv op z V pst dfl os i env) (ho : os[i]? = some o) (how : ¬ (6 ≤ o ∧ o < 15)) : tInv op z V pst dfl os (i + 1) env := by
  refine ⟨fun w h6 h15 hw => ?_, fun w h6 h15 hw => ?_⟩
  · rw [take_s ho] at hw
    rcases List.mem_append.mp hw with hw | hw
    · exact h.1 w h6 h15 hw
    · simp at hw; subst hw; exact absurd ⟨h6, h15⟩ how
  · rw [take_s ho] at hw
    exact h.2 w h6 h15 (fun z => hw (List.mem_append_left _ z))
theorem tInv_sol {α : Type} {op : Nat → α → α → α → α} {z : α} {V : zVw} {pst : Nat → α → α} {dfl : α} {os : List Nat} {i : Nat} {env : Nat → α} (h : tInv op z V pst dfl os i env) (hi : os.length ≤ i) (hm : ∀ w, 6 ≤ w → w < 15 → (w ∈ os ↔ (V w).isSome = true)) : sol op z V pst dfl env := by
  intro w h6 h15
  have e : os.take i = os := List.take_of_length_le hi
  cases hv : V w with
  | none => exact h.2 w h6 h15 (by rw [e]; intro z; have := (hm w h6 h15).mp z; rw [hv] at this; cases this)
  | some ks => exact h.1 w h6 h15 (by rw [e]; exact (hm w h6 h15).mpr (by rw [hv]; rfl)) ks hv
/-- a class's VIEW in cell k, as far as it is run -/
def cOrd (I : Nat → Nat → Int32) (k : Nat) (V : zVw) (os : List Nat) : Prop := topc V os ∧ I k 7 = nI os.length ∧ os.length ≤ 13 ∧ ∀ (i o : Nat), os[i]? = some o → I (k + 6) i = nI o
def cEv (I : Nat → Nat → Int32) (k : Nat) (V : zVw) (os : List Nat) : Prop := okV V ∧ (∀ n ks, V n = some ks → ∃ f, lnC I k n ks f) ∧ cOrd I k V os
def stkL (L : Nat → Nat → Int64) (k0 n : Nat) (v : Int64) : Int64 := (v &&& ((L (k0 + 3) n) ^^^ (-1 : Int64))) ||| (L (k0 + 4) n)
/-- behind run(): used and shown -/
def runL (L K : Nat → Nat → Int64) (k0 : Nat) (V : zVw) : Prop := fr [k0 + 1, k0 + 2, k0 + 5] L K ∧ (∀ n, n < 19 → ¬ (6 ≤ n ∧ n < 15) → K (k0 + 1) n = stkL L k0 n (L (k0 + 2) n)) ∧ sol opL 0 V (stkL L k0) 0 (K (k0 + 1)) ∧ ∀ n, n < 19 → K (k0 + 2) n = match V n with
  | some ks => if 6 ≤ n ∧ n < 15 then K (k0 + 1) n else ev opL (K (k0 + 1)) 0 ks
  | none => if 6 ≤ n ∧ n < 15 then 0 else L (k0 + 2) n
theorem wire_nI {n : Nat} (h : n < 2 ^ 31) : ((6 : Int32) ≤ nI n ∧ nI n < 15) ↔ (6 ≤ n ∧ n < 15) := by
  rw [nl 6, nl 15, nI_leI (by decide) h, nI_ltI h (by decide)]
abbrev RX4_run (zn d : Nat) (post : zP) : zK := zRun (zcal zty zcd false (d + 2)) kX4_run (zLM zn) post
theorem eX4_run {zn d : Nat} {post : zP} (k0 : Nat) (k1 : Nat) (I : Nat → Nat → Int32) (L : Nat → Nat → Int64) (h0 : isX4 k0) (h1 : isX10 k1) (h : RX4_run zn d post 0 [some (.ref k0), some (.ref k1), none, none, none, none] [] (zSH zn, I, L)) : zcal zty zcd false (d + 3) 35 [.ref k0, .ref k1] (zSH zn, I, L) 0 0 post := zcal_of (d := d + 2) zmt35 zmc35 rfl (Nat.le_of_ble_eq_true rfl) h
theorem gX4_run_0 {zn d : Nat} {post : zP} (k0 : Nat) (k1 : Nat) (I : Nat → Nat → Int32) (L : Nat → Nat → Int64) (h0 : isX4 k0) (h1 : isX10 k1) (h : RX4_run zn d post 2 [some (.ref k0), some (.ref k1), some (.int (0 : Int32)), none, none, none] [] (zSH zn, I, L)) : RX4_run zn d post 0 [some (.ref k0), some (.ref k1), none, none, none, none] [] (zSH zn, I, L) := fun P hw hc => hc _ tX4_run_0 _ _ _ (hc _ tX4_run_1 _ _ _ (h P hw hc))
theorem gX4_run_2 {zn d : Nat} {post : zP} (k0 : Nat) (k1 : Nat) (x2 : Int32) (I : Nat → Nat → Int32) (L : Nat → Nat → Int64) (h0 : isX4 k0) (h1 : isX10 k1) (h : ((19 : Int32) ≤ x2 → RX4_run zn d post 47 [some (.ref k0), some (.ref k1), some (.int (0 : Int32)), none, none, none] [] (zSH zn, I, L)) ∧ (¬ (19 : Int32) ≤ x2 → (¬ ((6 ≤ x2 ∧ x2 < 15)) → vp_in x2 19 ∧ ((zs x2 18) ∧ (RX4_run zn d post 2 [some (.ref k0), some (.ref k1), some (.int (x2 + (1 : Int32))), none, none, none] [] (zSH zn, I, (zl L (k0 + 1) (x2).toNatClampNeg (((L (k0 + 2) (x2).toNatClampNeg) &&& ((L (k0 + 3) (tn x2)) ^^^ (-1 : Int64))) ||| (L (k0 + 4) (tn x2)))))))) ∧ ((6 ≤ x2 ∧ x2 < 15) → vp_in x2 19 ∧ ((zs x2 18) ∧ (RX4_run zn d post 2 [some (.ref k0), some (.ref k1), some (.int (x2 + (1 : Int32))), none, none, none] [] (zSH zn, I, (zl (zl L (k0 + 2) (x2).toNatClampNeg (0 : Int64)) (k0 + 1) (x2).toNatClampNeg ((((zl L (k0 + 2) (x2).toNatClampNeg (0 : Int64)) (k0 + 2) (x2).toNatClampNeg) &&& (((zl L (k0 + 2) (x2).toNatClampNeg (0 : Int64)) (k0 + 3) (tn x2)) ^^^ (-1 : Int64))) ||| ((zl L (k0 + 2) (x2).toNatClampNeg (0 : Int64)) (k0 + 4) (tn x2)))))))))) : RX4_run zn d post 2 [some (.ref k0), some (.ref k1), some (.int x2), none, none, none] [] (zSH zn, I, L) := fun P hw hc => hc _ tX4_run_2 _ _ _ (hc _ tX4_run_3 _ _ _ (hc _ tX4_run_5 _ _ _ (⟨fun c1 => hc _ tX4_run_45 _ _ _ (hc _ tX4_run_46 _ _ _ ((h.1 c1) P hw hc)), fun c2 => hc _ tX4_run_8 _ _ _ (hc _ tX4_run_9 _ _ _ (⟨Nat.le_of_ble_eq_true rfl, Nat.le_of_ble_eq_true rfl, zl1, zl2, _, ctX11_isWire x2 I L, fun r u k7 => by obtain ⟨rfl, rfl⟩ := k7; exact ⟨zl3, zl4, hc _ tX4_run_12 _ _ _ (⟨fun c3 => hc _ tX4_run_22 _ _ _ (hc _ tX4_run_23 _ _ _ (⟨_, _, (shX4 h0), (geX4 h0), rfl, hc _ tX4_run_26 _ _ _ (hc _ tX4_run_27 _ _ _ (hc _ tX4_run_28 _ _ _ (hc _ tX4_run_29 _ _ _ (hc _ tX4_run_30 _ _ _ (⟨_, _, (shX4 h0), (geX4 h0), rfl, hc _ tX4_run_33 _ _ _ (hc _ tX4_run_34 _ _ _ (⟨_, _, _, (shX4_1 h0), Or.inl ⟨rfl, (geX4_1 h0)⟩, ((h.2 c2).1 (zb_e c3)).1, hc _ tX4_run_35 _ _ _ (⟨⟨_, _, _, rfl, (geX4 h0), (shX4 h0)⟩, ⟨Nat.le_of_ble_eq_true rfl, Nat.le_of_ble_eq_true rfl, zl1, zl2, _, ctX4_stuck k0 x2 (L (k0 + 2) (x2).toNatClampNeg) I L h0 (((h.2 c2).1 (zb_e c3)).2.1), fun r u k5 => by obtain ⟨rfl, rfl⟩ := k5; exact ⟨zl3, zl4, hc _ tX4_run_38 _ _ _ (⟨_, _, (shX4_0 h0), (geX4_0 h0), ((h.2 c2).1 (zb_e c3)).1, hc _ tX4_run_39 _ _ _ (hc _ tX4_run_42 _ _ _ (((h.2 c2).1 (zb_e c3)).2.2 P hw hc))⟩)⟩⟩⟩)⟩))⟩)))))⟩)), fun c4 => hc _ tX4_run_15 _ _ _ (hc _ tX4_run_16 _ _ _ (⟨_, _, (shX4 h0), (geX4 h0), rfl, hc _ tX4_run_19 _ _ _ (hc _ tX4_run_20 _ _ _ (hc _ tX4_run_21 _ _ _ (⟨_, _, (shX4_1 h0), (geX4_1 h0), ((h.2 c2).2 (zb_n c4)).1, hc _ tX4_run_22 _ _ _ (hc _ tX4_run_23 _ _ _ (⟨_, _, (shX4 h0), (geX4 h0), rfl, hc _ tX4_run_26 _ _ _ (hc _ tX4_run_27 _ _ _ (hc _ tX4_run_28 _ _ _ (hc _ tX4_run_29 _ _ _ (hc _ tX4_run_30 _ _ _ (⟨_, _, (shX4 h0), (geX4 h0), rfl, hc _ tX4_run_33 _ _ _ (hc _ tX4_run_34 _ _ _ (⟨_, _, _, (shX4_1 h0), Or.inl ⟨rfl, (geX4_1 h0)⟩, ((h.2 c2).2 (zb_n c4)).1, hc _ tX4_run_35 _ _ _ (⟨⟨_, _, _, rfl, (geX4 h0), (shX4 h0)⟩, ⟨Nat.le_of_ble_eq_true rfl, Nat.le_of_ble_eq_true rfl, zl1, zl2, _, ctX4_stuck k0 x2 ((zl L (k0 + 2) (x2).toNatClampNeg (0 : Int64)) (k0 + 2) (x2).toNatClampNeg) I (zl L (k0 + 2) (x2).toNatClampNeg (0 : Int64)) h0 (((h.2 c2).2 (zb_n c4)).2.1), fun r u k6 => by obtain ⟨rfl, rfl⟩ := k6; exact ⟨zl3, zl4, hc _ tX4_run_38 _ _ _ (⟨_, _, (shX4_0 h0), (geX4_0 h0), ((h.2 c2).2 (zb_n c4)).1, hc _ tX4_run_39 _ _ _ (hc _ tX4_run_42 _ _ _ (((h.2 c2).2 (zb_n c4)).2.2 P hw hc))⟩)⟩⟩⟩)⟩))⟩)))))⟩))⟩)))⟩))⟩)⟩⟩))⟩)))
theorem gX4_run_47 {zn d : Nat} {post : zP} (k0 : Nat) (k1 : Nat) (x2 : Int32) (I : Nat → Nat → Int32) (L : Nat → Nat → Int64) (h0 : isX4 k0) (h1 : isX10 k1) (h : ((I k1 7) ≤ x2 → post none (zSH zn, I, L)) ∧ (¬ (I k1 7) ≤ x2 → vp_in x2 13 ∧ ((∃ (ks4 : List Nat) (f5 : Nat), (lnC I k1 (tn (I (k1 + 6) (x2).toNatClampNeg)) ks4 f5) ∧ (wfl ks4) ∧ (zs (I (k1 + 6) (x2).toNatClampNeg) 18) ∧ (∀ (M3 : Nat → Int64), (¬ ((6 ≤ (I (k1 + 6) (x2).toNatClampNeg) ∧ (I (k1 + 6) (x2).toNatClampNeg) < 15)) → vp_in (I (k1 + 6) (x2).toNatClampNeg) 19 ∧ (RX4_run zn d post 47 [some (.ref k0), some (.ref k1), some (.int (x2 + (1 : Int32))), none, none, none] [] (zSH zn, I, (zl (zrL L (k0 + 5) M3) (k0 + 2) ((I (k1 + 6) (x2).toNatClampNeg)).toNatClampNeg (ev opL (L (k0 + 1)) 0 ks4))))) ∧ ((6 ≤ (I (k1 + 6) (x2).toNatClampNeg) ∧ (I (k1 + 6) (x2).toNatClampNeg) < 15) → (zs (I (k1 + 6) (x2).toNatClampNeg) 18) ∧ (vp_in (I (k1 + 6) (x2).toNatClampNeg) 19 ∧ (RX4_run zn d post 47 [some (.ref k0), some (.ref k1), some (.int (x2 + (1 : Int32))), none, none, none] [] (zSH zn, I, (zl (zl (zrL L (k0 + 5) M3) (k0 + 1) ((I (k1 + 6) (x2).toNatClampNeg)).toNatClampNeg (((ev opL (L (k0 + 1)) 0 ks4) &&& (((zrL L (k0 + 5) M3) (k0 + 3) (tn (I (k1 + 6) (x2).toNatClampNeg))) ^^^ (-1 : Int64))) ||| ((zrL L (k0 + 5) M3) (k0 + 4) (tn (I (k1 + 6) (x2).toNatClampNeg))))) (k0 + 2) ((I (k1 + 6) (x2).toNatClampNeg)).toNatClampNeg (((ev opL (L (k0 + 1)) 0 ks4) &&& (((zrL L (k0 + 5) M3) (k0 + 3) (tn (I (k1 + 6) (x2).toNatClampNeg))) ^^^ (-1 : Int64))) ||| ((zrL L (k0 + 5) M3) (k0 + 4) (tn (I (k1 + 6) (x2).toNatClampNeg)))))))))))))) : RX4_run zn d post 47 [some (.ref k0), some (.ref k1), some (.int x2), none, none, none] [] (zSH zn, I, L) := fun P hw hc => hc _ tX4_run_47 _ _ _ (hc _ tX4_run_48 _ _ _ (hc _ tX4_run_49 _ _ _ (⟨_, (shX10 h1), (geX10 h1), hc _ tX4_run_52 _ _ _ (⟨fun c1 => hc _ tX4_run_108 _ _ _ (⟨rfl, rfl, (h.1 c1)⟩), fun c2 => hc _ tX4_run_55 _ _ _ (hc _ tX4_run_56 _ _ _ (⟨_, _, (shX10 h1), (geX10 h1), rfl, hc _ tX4_run_59 _ _ _ (hc _ tX4_run_60 _ _ _ (⟨_, _, _, (shX10_5 h1), Or.inl ⟨rfl, (geX10_5 h1)⟩, (h.2 c2).1, hc _ tX4_run_61 _ _ _ (hc _ tX4_run_62 _ _ _ (hc _ tX4_run_63 _ _ _ (hc _ tX4_run_64 _ _ _ ((by obtain ⟨ks4, f5, hg6⟩ := (h.2 c2).2; exact hc _ tX4_run_65 _ _ _ (⟨⟨_, _, _, rfl, (geX4 h0), (shX4 h0)⟩, ⟨Nat.le_of_ble_eq_true rfl, Nat.le_of_ble_eq_true rfl, zl1, zl2, _, ctX4_make k0 k1 (I (k1 + 6) (x2).toNatClampNeg) I L ks4 f5 h0 h1 hg6.1 hg6.2.1 hg6.2.2.1, fun r u k11 => by obtain ⟨M3, rfl, rfl⟩ := k11; exact ⟨zl3, zl4, hc _ tX4_run_68 _ _ _ (hc _ tX4_run_70 _ _ _ (hc _ tX4_run_71 _ _ _ (⟨Nat.le_of_ble_eq_true rfl, Nat.le_of_ble_eq_true rfl, zl1, zl2, _, ctX11_isWire (I (k1 + 6) (x2).toNatClampNeg) I (zrL L (k0 + 5) M3), fun r u k10 => by obtain ⟨rfl, rfl⟩ := k10; exact ⟨zl3, zl4, hc _ tX4_run_74 _ _ _ (⟨fun c7 => hc _ tX4_run_94 _ _ _ (hc _ tX4_run_95 _ _ _ (⟨_, _, (shX4 h0), (geX4 h0), rfl, hc _ tX4_run_98 _ _ _ (hc _ tX4_run_99 _ _ _ (hc _ tX4_run_101 _ _ _ (⟨_, _, (shX4_1 h0), (geX4_1 h0), ((hg6.2.2.2 M3).1 (zb_e c7)).1, hc _ tX4_run_102 _ _ _ (hc _ tX4_run_105 _ _ _ (hw _ _ _ _ _ (zwk_s (zwk_s (zwk_s (zwk_n (zwk_n (zwk_s zwk_nil)))))) (((hg6.2.2.2 M3).1 (zb_e c7)).2 P hw hc)))⟩)))⟩)), fun c8 => hc _ tX4_run_77 _ _ _ (hc _ tX4_run_78 _ _ _ (hc _ tX4_run_79 _ _ _ (hc _ tX4_run_81 _ _ _ (⟨⟨_, _, _, rfl, (geX4 h0), (shX4 h0)⟩, ⟨Nat.le_of_ble_eq_true rfl, Nat.le_of_ble_eq_true rfl, zl1, zl2, _, ctX4_stuck k0 (I (k1 + 6) (x2).toNatClampNeg) (ev opL (L (k0 + 1)) 0 ks4) I (zrL L (k0 + 5) M3) h0 (((hg6.2.2.2 M3).2 (zb_n c8)).1), fun r u k9 => by obtain ⟨rfl, rfl⟩ := k9; exact ⟨zl3, zl4, hc _ tX4_run_84 _ _ _ (hc _ tX4_run_86 _ _ _ (hc _ tX4_run_87 _ _ _ (⟨_, _, (shX4 h0), (geX4 h0), rfl, hc _ tX4_run_90 _ _ _ (hc _ tX4_run_91 _ _ _ (hc _ tX4_run_93 _ _ _ (⟨_, _, (shX4_0 h0), (geX4_0 h0), ((hg6.2.2.2 M3).2 (zb_n c8)).2.1, hc _ tX4_run_94 _ _ _ (hc _ tX4_run_95 _ _ _ (⟨_, _, (shX4 h0), (geX4 h0), rfl, hc _ tX4_run_98 _ _ _ (hc _ tX4_run_99 _ _ _ (hc _ tX4_run_101 _ _ _ (⟨_, _, (shX4_1 h0), (geX4_1 h0), ((hg6.2.2.2 M3).2 (zb_n c8)).2.1, hc _ tX4_run_102 _ _ _ (hc _ tX4_run_105 _ _ _ (hw _ _ _ _ _ (zwk_s (zwk_s (zwk_s (zwk_n (zwk_n (zwk_s zwk_nil)))))) (((hg6.2.2.2 M3).2 (zb_n c8)).2.2 P hw hc)))⟩)))⟩))⟩)))⟩)))⟩⟩⟩))))⟩)⟩⟩)))⟩⟩⟩))))))⟩))⟩))⟩)⟩)))
theorem ctX4_run {zn d : Nat} (k0 : Nat) (k1 : Nat) (I : Nat → Nat → Int32) (L : Nat → Nat → Int64) (V : zVw) (os : List Nat) (h0 : isX4 k0) (h1 : isX10 k1) (q0 : cEv I k1 V os) : zcal zty zcd false (d + 3) 35 [.ref k0, .ref k1] (zSH zn, I, L) 0 0 (fun r u => ∃ (K : Nat → Nat → Int64), r = none ∧ u = (zSH zn, I, K) ∧ (runL L K k0 V)) := by
  obtain ⟨hV, hln, ⟨t1, t2, t3⟩, o2, o3, o4⟩ := q0
  have loop2 : ∀ (m i : Nat) (K : Nat → Nat → Int64), i + m = os.length → fr [k0 + 1, k0 + 2, k0 + 5] L K → (∀ n, n < 19 → ¬ (6 ≤ n ∧ n < 15) → K (k0 + 1) n = stkL L k0 n (L (k0 + 2) n)) → tInv opL 0 V (stkL L k0) 0 os i (K (k0 + 1)) → (∀ n, n < 19 → n ∈ os.take i → ∀ ks, V n = some ks → K (k0 + 2) n = if 6 ≤ n ∧ n < 15 then K (k0 + 1) n else ev opL (K (k0 + 1)) 0 ks) → (∀ n, n < 19 → n ∉ os.take i → K (k0 + 2) n = if 6 ≤ n ∧ n < 15 then 0 else L (k0 + 2) n) →
      RX4_run zn d (fun r u => ∃ (K : Nat → Nat → Int64), r = none ∧ u = (zSH zn, I, K) ∧ (runL L K k0 V)) 47 [some (.ref k0), some (.ref k1), some (.int (nI i)), none, none, none] [] (zSH zn, I, K) := by
    intro m
    induction m with
    | zero =>
      intro i K hi f1 f2 f3 f4 f5
      refine gX4_run_47 k0 k1 _ I K h0 h1 ⟨fun _ => ⟨K, rfl, rfl, f1, f2, tInv_sol f3 (by omega) (fun w _ _ => t1 w), fun n hn => ?_⟩, fun hc => absurd (by rw [o2, nI_leI (by omega) (by omega)]; omega) hc⟩
      have e : os.take i = os := List.take_of_length_le (by omega)
      rw [e] at f4 f5
      cases hv : V n with
      | none => exact f5 n hn (fun z => by have := (t1 n).mp z; rw [hv] at this; cases this)
      | some ks => exact f4 n hn ((t1 n).mpr (by rw [hv]; rfl)) ks hv
    | succ m ih =>
      intro i K hi f1 f2 f3 f4 f5
      have hil : i < os.length := by omega
      obtain ⟨o, ho⟩ : ∃ o, os[i]? = some o := ⟨_, List.getElem?_eq_getElem hil⟩
      have hos : (V o).isSome = true := (t1 o).mp (List.mem_of_getElem? ho)
      obtain ⟨ks, hk⟩ := Option.isSome_iff_exists.mp hos
      obtain ⟨hn6, hn19, hwf⟩ := hV o ks hk
      obtain ⟨f, hf⟩ := hln o ks hk
      have e0 : (nI i).toNatClampNeg = i := nI_clamp (by omega)
      have e1 : I (k1 + 6) i = nI o := o4 i o ho
      have e2 : (nI o).toNatClampNeg = o := nI_clamp (by omega)
      have e3 : tn (nI o) = o := e2
      have hk3 : ∀ (M : Nat → Int64) (n : Nat), (zrL K (k0 + 5) M) (k0 + 3) n = L (k0 + 3) n := fun M n => by rw [zrL_n (by omega), f1 (k0 + 3) (by simp)]
      have hk4 : ∀ (M : Nat → Int64) (n : Nat), (zrL K (k0 + 5) M) (k0 + 4) n = L (k0 + 4) n := fun M n => by rw [zrL_n (by omega), f1 (k0 + 4) (by simp)]
      have hnt : o ∉ os.take i := nodup_take t2 ho
      refine gX4_run_47 k0 k1 _ I K h0 h1 ⟨fun hc => absurd hc (by rw [o2, nI_leI (by omega) (by omega)]; omega), fun _ => ⟨vin_nI (by omega) (by omega), ks, f, ?_⟩⟩
      rw [e0, e1, e2, e3, nI_1]
      refine ⟨hf, hwf, ⟨o, by omega, rfl⟩, fun M => ⟨fun hc => ⟨vin_nI (by omega) (by omega), ?_⟩, fun hc => ⟨⟨o, by omega, rfl⟩, vin_nI (by omega) (by omega), ?_⟩⟩⟩
      · have how : ¬ (6 ≤ o ∧ o < 15) := fun z => hc ((wire_nI (by omega)).mpr z)
        have eU : (zl (zrL K (k0 + 5) M) (k0 + 2) o (ev opL (K (k0 + 1)) 0 ks)) (k0 + 1) = K (k0 + 1) := by rw [zl_ne (by omega), zrL_n (by omega)]
        have eS : ∀ n, (zl (zrL K (k0 + 5) M) (k0 + 2) o (ev opL (K (k0 + 1)) 0 ks)) (k0 + 2) n = if n = o then ev opL (K (k0 + 1)) 0 ks else K (k0 + 2) n := fun n => by rw [zl_at, zrL_n (by omega)]; simp
        refine ih (i + 1) _ (by omega) (fr_trans f1 (fr_trans (I' := zrL K (k0 + 5) M) (fun j hj => zrL_n (fun z => hj (by simp [z]))) (fr_zl (by simp)))) (by rw [eU]; exact f2) (by rw [eU]; exact tInv_skip f3 ho how) (fun n hn hm ks' hk' => ?_) (fun n hn hm => ?_)
        · rw [eU, eS]
          by_cases hno : n = o
          · subst hno
            rw [hk] at hk'; cases hk'
            rw [if_pos rfl, if_neg how]
          · rw [if_neg hno]
            rw [take_s ho] at hm
            rcases List.mem_append.mp hm with hm | hm
            · exact f4 n hn hm ks' hk'
            · simp at hm; exact absurd hm hno
        · rw [take_s ho] at hm
          rw [eS, if_neg (fun z => hm (by rw [z]; simp))]
          exact f5 n hn (fun z => hm (List.mem_append_left _ z))
      · have how : 6 ≤ o ∧ o < 15 := (wire_nI (by omega)).mp hc
        rw [hk3, hk4]
        have ev0 : ((ev opL (K (k0 + 1)) 0 ks) &&& ((L (k0 + 3) o) ^^^ (-1 : Int64))) ||| (L (k0 + 4) o) = stkL L k0 o (ev opL (K (k0 + 1)) 0 ks) := rfl
        rw [ev0]
        generalize hv : stkL L k0 o (ev opL (K (k0 + 1)) 0 ks) = v
        have eU : (zl (zl (zrL K (k0 + 5) M) (k0 + 1) o v) (k0 + 2) o v) (k0 + 1) = fun n => if n = o then v else K (k0 + 1) n := by
          rw [zl_ne (by omega)]; funext n; rw [zl_at, zrL_n (by omega)]; simp
        have eS : ∀ n, (zl (zl (zrL K (k0 + 5) M) (k0 + 1) o v) (k0 + 2) o v) (k0 + 2) n = if n = o then v else K (k0 + 2) n := fun n => by
          rw [zl_at, zl_ne (by omega), zrL_n (by omega)]; simp
        refine ih (i + 1) _ (by omega) (fr_trans f1 (fr_trans (I' := zrL K (k0 + 5) M) (fun j hj => zrL_n (fun z => hj (by simp [z]))) (fr_trans (fr_zl (by simp)) (fr_zl (by simp))))) (fun n hn hnw => ?_) ?_ (fun n hn hm ks' hk' => ?_) (fun n hn hm => ?_)
        · rw [eU]
          show (if n = o then v else K (k0 + 1) n) = _
          rw [if_neg (fun z => hnw (by rw [z]; exact how))]
          exact f2 n hn hnw
        · rw [eU, ← hv]
          exact tInv_step opL_eq hV t2 t3 f3 ho how hk
        · rw [eU, eS]
          show _ = if 6 ≤ n ∧ n < 15 then (if n = o then v else K (k0 + 1) n) else _
          rw [ev_stay opL_eq hV t2 t3 ho how hm hk']
          by_cases hno : n = o
          · subst hno
            rw [if_pos rfl, if_pos how, if_pos rfl]
          · rw [if_neg hno, if_neg hno]
            rw [take_s ho] at hm
            rcases List.mem_append.mp hm with hm | hm
            · exact f4 n hn hm ks' hk'
            · simp at hm; exact absurd hm hno
        · rw [take_s ho] at hm
          rw [eS, if_neg (fun z => hm (by rw [z]; simp))]
          exact f5 n hn (fun z => hm (List.mem_append_left _ z))
  have loop1 : ∀ (m i : Nat) (K : Nat → Nat → Int64), i + m = 19 → fr [k0 + 1, k0 + 2, k0 + 5] L K → (∀ n, n < i → K (k0 + 1) n = stkL L k0 n (if 6 ≤ n ∧ n < 15 then 0 else L (k0 + 2) n) ∧ K (k0 + 2) n = if 6 ≤ n ∧ n < 15 then 0 else L (k0 + 2) n) → (∀ n, i ≤ n → K (k0 + 2) n = L (k0 + 2) n) →
      RX4_run zn d (fun r u => ∃ (K : Nat → Nat → Int64), r = none ∧ u = (zSH zn, I, K) ∧ (runL L K k0 V)) 2 [some (.ref k0), some (.ref k1), some (.int (nI i)), none, none, none] [] (zSH zn, I, K) := by
    intro m
    induction m with
    | zero =>
      intro i K hi f1 f2 f3
      refine gX4_run_2 k0 k1 _ I K h0 h1 ⟨fun _ => ?_, fun hc => absurd (by rw [nl 19, nI_leI (by omega) (by omega)]; omega) hc⟩
      refine loop2 os.length 0 K (by omega) f1 (fun n hn hnw => by rw [(f2 n (by omega)).1, if_neg hnw]) ⟨fun w _ _ hw => by simp at hw, fun w h6 h15 _ => by rw [(f2 w (by omega)).1, if_pos ⟨h6, h15⟩]⟩ (fun n _ hn => by simp at hn) (fun n hn _ => (f2 n (by omega)).2)
    | succ m ih =>
      intro i K hi f1 f2 f3
      have e0 : (nI i).toNatClampNeg = i := nI_clamp (by omega)
      have e3 : tn (nI i) = i := e0
      have hk3 : K (k0 + 3) i = L (k0 + 3) i := by rw [f1 (k0 + 3) (by simp)]
      have hk4 : K (k0 + 4) i = L (k0 + 4) i := by rw [f1 (k0 + 4) (by simp)]
      refine gX4_run_2 k0 k1 _ I K h0 h1 ⟨fun hc => absurd hc (by rw [nl 19, nI_leI (by omega) (by omega)]; omega), fun _ => ⟨fun hc => ⟨vin_nI (by omega) (by omega), ⟨i, by omega, rfl⟩, ?_⟩, fun hc => ⟨vin_nI (by omega) (by omega), ⟨i, by omega, rfl⟩, ?_⟩⟩⟩
      · have how : ¬ (6 ≤ i ∧ i < 15) := fun z => hc ((wire_nI (by omega)).mpr z)
        rw [e0, e3, nI_1, hk3, hk4]
        refine ih (i + 1) _ (by omega) (fr_trans f1 (fr_zl (by simp))) (fun n hn => ?_) (fun n hn => ?_)
        · rw [zl_at, zl_ne (by omega)]
          by_cases hni : n = i
          · subst hni
            rw [if_pos ⟨rfl, rfl⟩, if_neg how, f3 n (by omega)]
            exact ⟨rfl, rfl⟩
          · rw [if_neg (fun z => hni z.2)]
            exact f2 n (by omega)
        · rw [zl_ne (by omega)]; exact f3 n (by omega)
      · have how : 6 ≤ i ∧ i < 15 := (wire_nI (by omega)).mp hc
        rw [e0, e3, nI_1]
        have hw : ((((zl K (k0 + 2) i (0 : Int64)) (k0 + 2) i) &&& (((zl K (k0 + 2) i (0 : Int64)) (k0 + 3) i) ^^^ (-1 : Int64))) ||| ((zl K (k0 + 2) i (0 : Int64)) (k0 + 4) i)) = stkL L k0 i 0 := by
          rw [zl_at, if_pos ⟨rfl, rfl⟩, zl_ne (by omega), zl_ne (by omega), hk3, hk4]; rfl
        rw [hw]
        generalize hv : stkL L k0 i 0 = v
        have eU : ∀ n, (zl (zl K (k0 + 2) i 0) (k0 + 1) i v) (k0 + 1) n = if n = i then v else K (k0 + 1) n := fun n => by
          rw [zl_at, zl_ne (by omega)]; simp
        have eS : ∀ n, (zl (zl K (k0 + 2) i 0) (k0 + 1) i v) (k0 + 2) n = if n = i then 0 else K (k0 + 2) n := fun n => by
          rw [zl_ne (by omega), zl_at]; simp
        refine ih (i + 1) _ (by omega) (fr_trans f1 (fr_trans (fr_zl (by simp)) (fr_zl (by simp)))) (fun n hn => ?_) (fun n hn => ?_)
        · rw [eU, eS]
          by_cases hni : n = i
          · subst hni
            simp only [if_true, if_pos how]
            exact ⟨hv.symm, trivial⟩
          · rw [if_neg hni, if_neg hni]
            exact f2 n (by omega)
        · rw [eS, if_neg (by omega)]; exact f3 n (by omega)
  exact eX4_run k0 k1 I L h0 h1 (gX4_run_0 k0 k1 I L h0 h1 (loop1 19 0 L (by omega) fr_rf (fun n hn => absurd hn (by omega)) (fun _ _ => rfl)))

