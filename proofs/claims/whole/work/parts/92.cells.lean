/-! rows of the constructors: the cells B behind a list X of n cells -/
def zpe (Y : List zE) (J : Nat → Nat → Int32) (K : Nat → Nat → Int64) : zP := fun r u => r = none ∧ u = (Y, J, K)
def zpo (Y : List zE) (φ : (Nat → Nat → Int32) → (Nat → Nat → Int64) → Prop) : zP := fun r u => r = none ∧ ∃ (J : Nat → Nat → Int32) (K : Nat → Nat → Int64), u = (Y, J, K) ∧ φ J K
theorem zct_of {d k : Nat} {y : zY} {c : zD} {av : List Value} {u : zU} {mc ms : Nat} {post : zP} (hy : zty[k]? = some y) (hc : zcd[k]? = some c) (hp : c.1 = true) (hl : (lg_sl av).length ≤ y.2.2.1) (h : zRun (zcal zty zcd true d) c.2.2 (u.1.length + mc, zcost u.1 + ms) post 0 (zen av y.2.2.1) [] u) : zcal zty zcd true (d + 1) k av u mc ms post := ⟨y, c, hy, hc, hp, hl, h⟩
section CELLS
variable {C : zC} {lim : Nat × Nat} {post : zP} {P : zK} {ls : zL} {r : List Value} {X B : List zE} {n : Nat} {I : Nat → Nat → Int32} {L : Nat → Nat → Int64}
theorem ap_at (hn : X.length = n) (i : Nat) : (X ++ B)[n + i]? = B[i]? := by
  subst hn
  rw [List.getElem?_append_right (by omega), Nat.add_sub_cancel_left]
theorem ap_set (hn : X.length = n) (i : Nat) (c : zE) : (X ++ B).set (n + i) c = X ++ B.set i c := by
  subst hn
  rw [List.set_append_right _ _ (by omega), Nat.add_sub_cancel_left]
theorem ap_len (hn : X.length = n) {b : Nat} (hb : B.length = b) : (X ++ B).length = n + b := by rw [List.length_append, hn, hb]
theorem zcost_1 (c : zE) : zcost [c] = zsz c := by simp [zcost]
theorem ap_le1 {c : zE} {k m b : Nat} (hb : B.length = b) (h : Nat.ble (b + k) (1 + m) = true) : (X ++ B).length + k ≤ (X ++ [c]).length + m := by
  have := Nat.le_of_ble_eq_true h
  simp only [List.length_append, List.length_cons, List.length_nil]
  omega
theorem ap_le2 {c : zE} {k m w0 : Nat} {w : List Nat} (hw : B.map zsz = w) (hc : zsz c = w0) (h : Nat.ble (w.sum + k) (w0 + m) = true) : zcost (X ++ B) + k ≤ zcost (X ++ [c]) + m := by
  have := Nat.le_of_ble_eq_true h
  have e : zcost B = w.sum := by unfold zcost; rw [hw]
  rw [zcost_app, zcost_app, zcost_1]
  omega
theorem hz_w {α : Type} {z : Nat → α} {F : Nat → Nat → α} {o b : Nat} (h : ∀ k, n + o ≤ k → F k = z) (hob : Nat.ble o b = true) : ∀ k, n + b ≤ k → F k = z := fun k hk => h k (by have := Nat.le_of_ble_eq_true hob; omega)
theorem hz_zi {o b c i : Nat} {v : Int32} (h : ∀ k, n + o ≤ k → I k = fun _ => 0) (hob : Nat.ble o b = true) (hcb : Nat.ble (c + 1) b = true) : ∀ k, n + b ≤ k → zi I (n + c) i v k = fun _ => 0 := fun k hk => by
  have h1 := Nat.le_of_ble_eq_true hob
  have h2 := Nat.le_of_ble_eq_true hcb
  rw [zi_ne (by omega)]
  exact h k (by omega)
theorem sn_I {nx b m : Nat} {z : Int32} (hn : X.length = n) (hb : B.length = b) (hz : ¬ z < 0) (e : z.toNatClampNeg = m) (hm : Nat.ble m 100000 = true) (l1 : (X ++ B).length + 1 ≤ lim.1) (l2 : zcost (X ++ B) + m ≤ lim.2) (hI : ∀ k, n + b ≤ k → I k = fun _ => 0) (h : P nx ls (.ref (n + b) :: r) (X ++ (B ++ [(0, m, [])]), I, L)) : a_newI nx C lim post P ls (.int z :: r) (X ++ B, I, L) := by
  have e1 := ap_len (B := B) hn hb
  subst e
  refine ⟨hz, Nat.le_of_ble_eq_true hm, l1, l2, ?_, ?_⟩
  · show I (X ++ B).length = _
    rw [e1]; exact hI _ (Nat.le_refl _)
  · show P nx ls (.ref (X ++ B).length :: r) ((X ++ B) ++ [(0, z.toNatClampNeg, [])], I, L)
    rw [e1, List.append_assoc]; exact h
theorem sn_J {nx b m : Nat} {z : Int32} (hn : X.length = n) (hb : B.length = b) (hz : ¬ z < 0) (e : z.toNatClampNeg = m) (hm : Nat.ble m 100000 = true) (l1 : (X ++ B).length + 1 ≤ lim.1) (l2 : zcost (X ++ B) + m ≤ lim.2) (hL : ∀ k, n + b ≤ k → L k = fun _ => 0) (h : P nx ls (.ref (n + b) :: r) (X ++ (B ++ [(1, m, [])]), I, L)) : a_newJ nx C lim post P ls (.int z :: r) (X ++ B, I, L) := by
  have e1 := ap_len (B := B) hn hb
  subst e
  refine ⟨hz, Nat.le_of_ble_eq_true hm, l1, l2, ?_, ?_⟩
  · show L (X ++ B).length = _
    rw [e1]; exact hL _ (Nat.le_refl _)
  · show P nx ls (.ref (X ++ B).length :: r) ((X ++ B) ++ [(1, z.toNatClampNeg, [])], I, L)
    rw [e1, List.append_assoc]; exact h
theorem sn_R {t nx b m : Nat} {z : Int32} (hn : X.length = n) (hb : B.length = b) (hz : ¬ z < 0) (e : z.toNatClampNeg = m) (hm : Nat.ble m 100000 = true) (l1 : (X ++ B).length + 1 ≤ lim.1) (l2 : zcost (X ++ B) + m ≤ lim.2) (h : P nx ls (.ref (n + b) :: r) (X ++ (B ++ [(2, t, List.replicate m none)]), I, L)) : a_newR t nx C lim post P ls (.int z :: r) (X ++ B, I, L) := by
  have e1 := ap_len (B := B) hn hb
  subst e
  refine ⟨hz, Nat.le_of_ble_eq_true hm, l1, l2, ?_⟩
  show P nx ls (.ref (X ++ B).length :: r) ((X ++ B) ++ [(2, t, List.replicate z.toNatClampNeg none)], I, L)
  rw [e1, List.append_assoc]; exact h
theorem sn_O {ci N nx b : Nat} (hn : X.length = n) (hb : B.length = b) (l1 : (X ++ B).length + 1 ≤ lim.1) (l2 : zcost (X ++ B) + N ≤ lim.2) (hI : ∀ k, n + b ≤ k → I k = fun _ => 0) (h : P nx ls (.ref (n + b) :: r) (X ++ (B ++ [(3, ci, List.replicate N none)]), I, L)) : a_new ci N nx C lim post P ls r (X ++ B, I, L) := by
  have e1 := ap_len (B := B) hn hb
  refine ⟨l1, l2, ?_, ?_⟩
  · show I (X ++ B).length = _
    rw [e1]; exact hI _ (Nat.le_refl _)
  · show P nx ls (.ref (X ++ B).length :: r) ((X ++ B) ++ [(3, ci, List.replicate N none)], I, L)
    rw [e1, List.append_assoc]; exact h
theorem sp_R {ci j nx i t : Nat} {rs : List (Option Nat)} (hn : X.length = n) (h5 : 5 ≤ n) (hB : B[i]? = some (3, ci, rs)) (hj : Nat.ble (j + 1) rs.length = true) (h : P nx ls r (X ++ B.set i (3, ci, rs.set j (some t)), I, L)) : a_putR ci j nx C lim post P ls (.ref t :: .ref (n + i) :: r) (X ++ B, I, L) := by
  refine ⟨rs, (ap_at hn i).trans hB, Nat.le_trans h5 (Nat.le_add_right _ _), Nat.le_of_ble_eq_true hj, ?_⟩
  show P nx ls r ((X ++ B).set (n + i) (3, ci, rs.set j (some t)), I, L)
  rw [ap_set hn]; exact h
theorem sp_I {ci j nx i : Nat} {v : Int32} {bz : Bool} {rs : List (Option Nat)} (hn : X.length = n) (h5 : 5 ≤ n) (hB : B[i]? = some (3, ci, rs)) (hv : bz = true → v = 0 ∨ v = 1) (h : P nx ls r (X ++ B, zi I (n + i) j v, L)) : a_putI ci j nx bz C lim post P ls (.int v :: .ref (n + i) :: r) (X ++ B, I, L) := ⟨rs, (ap_at hn i).trans hB, Nat.le_trans h5 (Nat.le_add_right _ _), hv, h⟩
theorem sp_0 {ci j nx i : Nat} {bz : Bool} {rs : List (Option Nat)} (hn : X.length = n) (h5 : 5 ≤ n) (hB : B[i]? = some (3, ci, rs)) (h0 : I (n + i) j = 0) (h : P nx ls r (X ++ B, I, L)) : a_putI ci j nx bz C lim post P ls (.int 0 :: .ref (n + i) :: r) (X ++ B, I, L) := sp_I hn h5 hB (fun _ => Or.inl rfl) (by rw [zi_00 h0]; exact h)
theorem sa_A {nx i k ti t : Nat} {z : Int32} {rs r2 : List (Option Nat)} (hn : X.length = n) (h5 : 5 ≤ n) (hB : B[k]? = some (2, t, rs)) (ht : Nat.ble (t + 1) 3 = true) (hz : vp_in z rs.length) (e : z.toNatClampNeg = i) (hT : B[ti]? = some (3, zcc t, r2)) (h : P nx ls r (X ++ B.set k (2, t, rs.set i (some (n + ti))), I, L)) : a_aast nx C lim post P ls (.ref (n + ti) :: .int z :: .ref (n + k) :: r) (X ++ B, I, L) := by
  subst e
  refine ⟨t, rs, r2, (ap_at hn k).trans hB, Nat.le_trans h5 (Nat.le_add_right _ _), Nat.le_of_ble_eq_true ht, hz, (ap_at hn ti).trans hT, Nat.le_trans h5 (Nat.le_add_right _ _), ?_⟩
  show P nx ls r ((X ++ B).set (n + k) (2, t, rs.set z.toNatClampNeg (some (n + ti))), I, L)
  rw [ap_set hn]; exact h
theorem sa_I {nx i k m : Nat} {z v : Int32} {rs : List (Option Nat)} (hn : X.length = n) (h5 : 5 ≤ n) (hB : B[k]? = some (0, m, rs)) (hz : vp_in z m) (e : z.toNatClampNeg = i) (h : P nx ls r (X ++ B, zi I (n + k) i v, L)) : a_iast nx C lim post P ls (.int v :: .int z :: .ref (n + k) :: r) (X ++ B, I, L) := by
  subst e
  exact ⟨m, rs, (ap_at hn k).trans hB, Nat.le_trans h5 (Nat.le_add_right _ _), hz, h⟩
theorem sg_R {ci j nx i t : Nat} {rs : List (Option Nat)} (hn : X.length = n) (h5 : 5 ≤ n) (hB : B[i]? = some (3, ci, rs)) (hj : rs[j]? = some (some t)) (h : P nx ls (.ref t :: r) (X ++ B, I, L)) : a_getR ci j nx C lim post P ls (.ref (n + i) :: r) (X ++ B, I, L) := ⟨rs, t, (ap_at hn i).trans hB, Nat.le_trans h5 (Nat.le_add_right _ _), hj, h⟩
theorem sc_O {ci k nx mc ms b b1 w0 : Nat} {c : zE} {rs : List (Option Nat)} {B1 : List zE} {w1 : List Nat} {φ : (Nat → Nat → Int32) → (Nat → Nat → Int64) → Prop} (hn : X.length = n) (h5 : 5 ≤ n) (hb : B.length = b) (hcon : C k [.ref (n + b)] ((X ++ B) ++ [c], I, L) mc ms (zpo ((X ++ B) ++ B1) φ)) (hc : c = (3, ci, rs)) (hr : (r.map fun v => v.category).sum ≤ 8) (l1 : (X ++ (B ++ [c])).length + mc ≤ lim.1) (l2 : zcost (X ++ (B ++ [c])) + ms ≤ lim.2) (hl : B1.length = b1) (hl2 : Nat.beq b1 (1 + mc) = true) (hw : B1.map zsz = w1) (hw0 : zsz c = w0) (hw2 : Nat.beq w1.sum (w0 + ms) = true) (h : ∀ (J : Nat → Nat → Int32) (K : Nat → Nat → Int64), φ J K → P nx ls r (X ++ (B ++ B1), J, K)) : a_callV ci k 1 nx mc ms C lim post P ls (.ref (n + b) :: r) (X ++ (B ++ [c]), I, L) := by
  subst hc
  have q1 := Nat.eq_of_beq_eq_true hl2
  have q2 := Nat.eq_of_beq_eq_true hw2
  have e : zcost B1 = w1.sum := by unfold zcost; rw [hw]
  refine ⟨⟨n + b, [], rs, rfl, Nat.le_trans h5 (Nat.le_add_right _ _), ?_⟩, Nat.le_of_ble_eq_true rfl, hr, l1, l2, zpo ((X ++ B) ++ B1) φ, ?_, ?_⟩
  · show (X ++ (B ++ [(3, ci, rs)]))[n + b]? = _
    rw [ap_at hn, ← hb, List.getElem?_append_right (Nat.le_refl _), Nat.sub_self]
    rfl
  · show C k [.ref (n + b)] (X ++ (B ++ [(3, ci, rs)]), I, L) mc ms (zpo ((X ++ B) ++ B1) φ)
    rw [← List.append_assoc]; exact hcon
  · intro r' u' hp
    obtain ⟨rfl, J, K, rfl, hf⟩ := hp
    refine ⟨?_, ?_, ?_⟩
    · show ((X ++ B) ++ B1).length = (X ++ (B ++ [(3, ci, rs)])).length + mc
      simp only [List.length_append, List.length_cons, List.length_nil]
      omega
    · show zcost ((X ++ B) ++ B1) = zcost (X ++ (B ++ [(3, ci, rs)])) + ms
      rw [zcost_app, zcost_app, zcost_app, zcost_app, zcost_1]
      omega
    · show P nx ls r ((X ++ B) ++ B1, J, K)
      rw [List.append_assoc]
      exact h J K hf
theorem sc_E {ci k nx mc ms b b1 w0 : Nat} {c : zE} {rs : List (Option Nat)} {B1 : List zE} {w1 : List Nat} {J : Nat → Nat → Int32} {K : Nat → Nat → Int64} (hn : X.length = n) (h5 : 5 ≤ n) (hb : B.length = b) (hcon : C k [.ref (n + b)] ((X ++ B) ++ [c], I, L) mc ms (zpe ((X ++ B) ++ B1) J K)) (hc : c = (3, ci, rs)) (hr : (r.map fun v => v.category).sum ≤ 8) (l1 : (X ++ (B ++ [c])).length + mc ≤ lim.1) (l2 : zcost (X ++ (B ++ [c])) + ms ≤ lim.2) (hl : B1.length = b1) (hl2 : Nat.beq b1 (1 + mc) = true) (hw : B1.map zsz = w1) (hw0 : zsz c = w0) (hw2 : Nat.beq w1.sum (w0 + ms) = true) (h : P nx ls r (X ++ (B ++ B1), J, K)) : a_callV ci k 1 nx mc ms C lim post P ls (.ref (n + b) :: r) (X ++ (B ++ [c]), I, L) := by
  subst hc
  have q1 := Nat.eq_of_beq_eq_true hl2
  have q2 := Nat.eq_of_beq_eq_true hw2
  have e : zcost B1 = w1.sum := by unfold zcost; rw [hw]
  refine ⟨⟨n + b, [], rs, rfl, Nat.le_trans h5 (Nat.le_add_right _ _), ?_⟩, Nat.le_of_ble_eq_true rfl, hr, l1, l2, zpe ((X ++ B) ++ B1) J K, ?_, ?_⟩
  · show (X ++ (B ++ [(3, ci, rs)]))[n + b]? = _
    rw [ap_at hn, ← hb, List.getElem?_append_right (Nat.le_refl _), Nat.sub_self]
    rfl
  · show C k [.ref (n + b)] (X ++ (B ++ [(3, ci, rs)]), I, L) mc ms (zpe ((X ++ B) ++ B1) J K)
    rw [← List.append_assoc]; exact hcon
  · intro r' u' hp
    obtain ⟨rfl, rfl⟩ := hp
    refine ⟨?_, ?_, ?_⟩
    · show ((X ++ B) ++ B1).length = (X ++ (B ++ [(3, ci, rs)])).length + mc
      simp only [List.length_append, List.length_cons, List.length_nil]
      omega
    · show zcost ((X ++ B) ++ B1) = zcost (X ++ (B ++ [(3, ci, rs)])) + ms
      rw [zcost_app, zcost_app, zcost_app, zcost_app, zcost_1]
      omega
    · show P nx ls r ((X ++ B) ++ B1, J, K)
      rw [List.append_assoc]
      exact h
theorem sr_l {c : zE} {mc b : Nat} (hl : B.length = b) (hl2 : Nat.beq b (1 + mc) = true) : (X ++ B).length = (X ++ [c]).length + mc := by
  have q1 := Nat.eq_of_beq_eq_true hl2
  simp only [List.length_append, List.length_cons, List.length_nil]
  omega
theorem sr_c {c : zE} {ms w0 : Nat} {w : List Nat} (hw : B.map zsz = w) (hw0 : zsz c = w0) (hw2 : Nat.beq w.sum (w0 + ms) = true) : zcost (X ++ B) = zcost (X ++ [c]) + ms := by
  have q2 := Nat.eq_of_beq_eq_true hw2
  have e : zcost B = w.sum := by unfold zcost; rw [hw]
  rw [zcost_app, zcost_app, zcost_1]
  omega
theorem sr_E (h1 : (X ++ B).length = lim.1) (h2 : zcost (X ++ B) = lim.2) : a_vret C lim (zpe (X ++ B) I L) P ls [] (X ++ B, I, L) := ⟨h1, h2, rfl, rfl⟩
theorem sr_O {φ : (Nat → Nat → Int32) → (Nat → Nat → Int64) → Prop} (h1 : (X ++ B).length = lim.1) (h2 : zcost (X ++ B) = lim.2) (h : φ I L) : a_vret C lim (zpo (X ++ B) φ) P ls [] (X ++ B, I, L) := ⟨h1, h2, rfl, I, L, rfl, h⟩
end CELLS
/-! each stuck fault in its own lane -/
theorem nwS {d : Nat} {sh : List zE} {k a b : Nat} {I : Nat → Nat → Int32} {L : Nat → Nat → Int64} {r0 r1 r4 : Option Nat} (hk : sh[k]? = some (3, 4, [r0, r1, some a, some b, r4])) (ha : sh[a]? = some (1, 19, [])) (hb : sh[b]? = some (1, 19, [])) (hk5 : 5 ≤ k) (ha5 : 5 ≤ a) (hb5 : 5 ≤ b) (hab : a ≠ b) : zcal zty zcd true (d + 1) 31 [.ref k] (sh, I, L) 0 0 (fun r u => r = none ∧ ∃ K : Nat → Nat → Int64, u = (sh, I, K) ∧ fr [a, b] L K ∧ ∀ i, i < 19 → K a i = (1 : Int64) <<< (((2 : Int32) * nI i).toInt64 &&& 63) ∧ K b i = (2 : Int64) <<< (((2 : Int32) * nI i).toInt64 &&& 63)) := by
  refine zct_of zmt31 zmc31 rfl (Nat.le_of_ble_eq_true rfl) ?_
  intro P hw hc
  have hc : ∀ q ∈ kX4_stickEachInItsLane, ∀ (ls : zL) (st : List Value) (u : zU), q.2 _ _ _ P ls st u → P q.1 ls st u := hc
  have loop : ∀ (m i : Nat) (K : Nat → Nat → Int64), i + m = 19 → fr [a, b] L K → (∀ q, q < i → K a q = (1 : Int64) <<< (((2 : Int32) * nI q).toInt64 &&& 63) ∧ K b q = (2 : Int64) <<< (((2 : Int32) * nI q).toInt64 &&& 63)) → P 2 [some (.ref k), some (.int (nI i))] [] (sh, I, K) := by
    intro m
    induction m with
    | zero =>
      intro i K him hf hq
      refine hc _ tX4_stickEachInItsLane_2 _ _ _ (hc _ tX4_stickEachInItsLane_3 _ _ _ (hc _ tX4_stickEachInItsLane_5 _ _ _ ⟨fun _ => ?_, fun h => absurd ?_ h⟩))
      · exact hc _ tX4_stickEachInItsLane_38 _ _ _ ⟨rfl, rfl, rfl, K, rfl, hf, fun q hq9 => hq q (by omega)⟩
      · show nI 19 ≤ nI i
        rw [nI_leI (by omega) (by omega)]; omega
    | succ m ih =>
      intro i K him hf hq
      refine hc _ tX4_stickEachInItsLane_2 _ _ _ (hc _ tX4_stickEachInItsLane_3 _ _ _ (hc _ tX4_stickEachInItsLane_5 _ _ _ ⟨fun h => absurd h ?_, fun _ => ?_⟩))
      · show ¬ nI 19 ≤ nI i
        rw [nI_leI (by omega) (by omega)]; omega
      refine hc _ tX4_stickEachInItsLane_8 _ _ _ (hc _ tX4_stickEachInItsLane_9 _ _ _ ⟨_, a, hk, hk5, rfl, hc _ tX4_stickEachInItsLane_12 _ _ _ (hc _ tX4_stickEachInItsLane_13 _ _ _ (hc _ tX4_stickEachInItsLane_14 _ _ _ (hc _ tX4_stickEachInItsLane_15 _ _ _ (hc _ tX4_stickEachInItsLane_16 _ _ _ (hc _ tX4_stickEachInItsLane_17 _ _ _ (hc _ tX4_stickEachInItsLane_18 _ _ _ ⟨19, [], ha, ha5, vin_nI (by omega) (by omega), ?_⟩))))))⟩)
      refine hc _ tX4_stickEachInItsLane_19 _ _ _ (hc _ tX4_stickEachInItsLane_20 _ _ _ ⟨_, b, hk, hk5, rfl, hc _ tX4_stickEachInItsLane_23 _ _ _ (hc _ tX4_stickEachInItsLane_24 _ _ _ (hc _ tX4_stickEachInItsLane_27 _ _ _ (hc _ tX4_stickEachInItsLane_28 _ _ _ (hc _ tX4_stickEachInItsLane_29 _ _ _ (hc _ tX4_stickEachInItsLane_30 _ _ _ (hc _ tX4_stickEachInItsLane_31 _ _ _ ⟨19, [], hb, hb5, vin_nI (by omega) (by omega), ?_⟩))))))⟩)
      refine hc _ tX4_stickEachInItsLane_32 _ _ _ (hc _ tX4_stickEachInItsLane_35 _ _ _ ?_)
      show P 2 [some (.ref k), some (.int (nI i + 1))] [] (sh, I, zl (zl K a (nI i).toNatClampNeg ((1 : Int64) <<< (((2 : Int32) * nI i).toInt64 &&& 63))) b (nI i).toNatClampNeg ((2 : Int64) <<< (((2 : Int32) * nI i).toInt64 &&& 63)))
      rw [nI_clamp (by omega), nl1, nI_add]
      refine ih (i + 1) _ (by omega) (fr_trans hf (fr_trans (fr_zl (by simp)) (fr_zl (by simp)))) (fun q hq1 => ?_)
      rw [zl_at, zl_at, zl_at, zl_at]
      by_cases hqi : q = i
      · subst hqi
        simp [hab]
      · have h2 := hq q (by omega)
        simp only [hqi, and_false, if_false]
        exact h2
  exact hc _ tX4_stickEachInItsLane_0 _ _ _ (hc _ tX4_stickEachInItsLane_1 _ _ _ (loop 19 0 L rfl fr_rf (fun q hq => absurd hq (Nat.not_lt_zero q))))

