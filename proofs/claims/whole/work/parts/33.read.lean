/-! READING: what a TEXT says, byte by byte -/
abbrev RX10_hasLine (zn d : Nat) (post : zP) : zK := zRun (zcal zty zcd false (d + 1)) kX10_hasLine (zLM zn) post
theorem eX10_hasLine {zn d : Nat} {post : zP} (k0 : Nat) (x1 : Int32) (I : Nat → Nat → Int32) (L : Nat → Nat → Int64) (h0 : isX10 k0) (h : RX10_hasLine zn d post 0 [some (.ref k0), some (.int x1)] [] (zSH zn, I, L)) : zcal zty zcd false (d + 2) 81 [.ref k0, .int x1] (zSH zn, I, L) 0 0 post := zcal_of (d := d + 1) zmt81 zmc81 rfl (Nat.le_of_ble_eq_true rfl) h
theorem gX10_hasLine_0 {zn d : Nat} {post : zP} (k0 : Nat) (x1 : Int32) (I : Nat → Nat → Int32) (L : Nat → Nat → Int64) (h0 : isX10 k0) (h : post (some (.int (if (¬ ((I k0 6) >>> (x1 &&& 31)) &&& 1 = 0) then 1 else 0))) (zSH zn, I, L)) : RX10_hasLine zn d post 0 [some (.ref k0), some (.int x1)] [] (zSH zn, I, L) := fun P hw hc => hc _ tX10_hasLine_0 _ _ _ (hc _ tX10_hasLine_1 _ _ _ (⟨_, (shX10 h0), (geX10 h0), hc _ tX10_hasLine_4 _ _ _ (hc _ tX10_hasLine_5 _ _ _ (⟨Nat.le_of_ble_eq_true rfl, Nat.le_of_ble_eq_true rfl, zl1, zl2, _, ctX11_hasBit (I k0 6) x1 I L, fun r u k1 => by obtain ⟨rfl, rfl⟩ := k1; exact ⟨zl3, zl4, hc _ tX10_hasLine_8 _ _ _ (⟨fun _ => zb_01, rfl, rfl, h⟩)⟩⟩))⟩))
theorem ctX10_hasLine {zn d : Nat} (k0 : Nat) (x1 : Int32) (I : Nat → Nat → Int32) (L : Nat → Nat → Int64) (h0 : isX10 k0)  : zcal zty zcd false (d + 2) 81 [.ref k0, .int x1] (zSH zn, I, L) 0 0 (fun r u => r = some (.int (if ¬ ((I k0 6) >>> (x1 &&& 31)) &&& 1 = 0 then 1 else 0)) ∧ u = (zSH zn, I, L)) := by
  exact eX10_hasLine _ _ I L h0 (gX10_hasLine_0 _ _ I L h0 ⟨rfl, rfl⟩)
def kb (t : Nat) : Option Nat := if 97 ≤ t ∧ t < 116 then some (t - 97) else if t = 48 then some 19 else if t = 49 then some 20 else if t = 126 then some 21 else if t = 38 then some 22 else if t = 124 then some 23 else if t = 94 then some 24 else if t = 63 then some 25 else none
def kbc (t : Nat) : Bool := match kb t with
  | some k => decide (k < 26) && byt k == t && fX5_kindOfSign (nI t) == nI k && fX12_takes (nI t) == nI (ar k) && fX5_valuesTaken (nI k) == nI (ar k) && t != 59
  | none => fX5_kindOfSign (nI t) == -4 && fX12_takes (nI t) == -4
theorem kbc_all : ∀ t, t < 256 → kbc t = true := by decide +kernel
theorem kb_some {t k : Nat} (ht : t < 256) (h : kb t = some k) : k < 26 ∧ byt k = t ∧ fX5_kindOfSign (nI t) = nI k ∧ fX12_takes (nI t) = nI (ar k) ∧ fX5_valuesTaken (nI k) = nI (ar k) ∧ t ≠ 59 := by
  have := kbc_all t ht
  unfold kbc at this
  rw [h] at this
  simp only [Bool.and_eq_true, decide_eq_true_eq, beq_iff_eq, bne_iff_ne] at this
  obtain ⟨⟨⟨⟨⟨a, b⟩, c⟩, d⟩, e⟩, f⟩ := this
  exact ⟨a, b, c, d, e, f⟩
theorem kb_none {t : Nat} (ht : t < 256) (h : kb t = none) : fX5_kindOfSign (nI t) = -4 ∧ fX12_takes (nI t) = -4 := by
  have := kbc_all t ht
  unfold kbc at this
  rw [h] at this
  simp only [Bool.and_eq_true, beq_iff_eq] at this
  exact this
abbrev zRs : Type := Nat × Nat × List Nat × zVw
def vset (V : zVw) (n : Nat) (ks : List Nat) : zVw := fun m => if m = n then some ks else V m
def rdn (s : zRs) (t : Nat) : Option zRs :=
  if s.1 = 0 then (if 103 ≤ t ∧ t < 116 ∧ (s.2.2.2 (t - 97)).isSome = false then some (1, t - 97, [], s.2.2.2) else none)
  else if s.1 = 1 then (if t = 61 then some (2, s.2.1, [], s.2.2.2) else none)
  else if t = 59 then (if depd 0 s.2.2.1 = 1 then some (0, s.2.1, [], vset s.2.2.2 s.2.1 s.2.2.1) else none)
  else match kb t with
    | none => none
    | some k => if ar k ≤ depd 0 s.2.2.1 ∧ depd 0 s.2.2.1 - ar k < 10 then some (2, s.2.1, s.2.2.1 ++ [k], s.2.2.2) else none
def lenO (o : Option (List Nat)) : Nat := match o with
  | some ks => ks.length
  | none => 0
def cntO (o : Option (List Nat)) (m : Nat) : Nat := match o with
  | some ks => ks.count m
  | none => 0
def inO (o : Option (List Nat)) (m : Nat) : Bool := match o with
  | some ks => decide (m ∈ ks)
  | none => false
def szV (V : zVw) : Nat := fb_sm (fun l => lenO (V l)) 19
def cntU (V : zVw) (m : Nat) : Nat := fb_sm (fun l => cntO (V l) m) 19
def szS (s : zRs) : Nat := szV s.2.2.2 + s.2.2.1.length
def okS (s : zRs) : Prop := s.1 ≤ 2 ∧ okV s.2.2.2 ∧ (s.1 ≠ 0 → 6 ≤ s.2.1 ∧ s.2.1 < 19 ∧ s.2.2.2 s.2.1 = none) ∧ (s.1 ≠ 2 → s.2.2.1 = []) ∧ okd 0 s.2.2.1
theorem vset_s {V : zVw} {n : Nat} {ks : List Nat} : vset V n ks n = some ks := by unfold vset; rw [if_pos rfl]
theorem vset_n {V : zVw} {n m : Nat} {ks : List Nat} (h : m ≠ n) : vset V n ks m = V m := by unfold vset; rw [if_neg h]
theorem fb_set {α : Type} (F : α → Nat) {f g : Nat → α} {i n : Nat} (hi : i < n) (h0 : F (f i) = 0) (hg : ∀ j, j ≠ i → g j = f j) : fb_sm (fun l => F (g l)) n = fb_sm (fun l => F (f l)) n + F (g i) := by
  have h := fb_sm_upd (fun l => F (f l)) (F (g i)) hi
  rw [h0] at h
  rw [← h, Nat.add_zero]
  refine fb_sm_cong (fun k _ => ?_)
  by_cases hk : k = i
  · subst hk; rw [if_pos rfl]
  · rw [if_neg hk, hg k hk]
theorem szV_set {V : zVw} {n : Nat} {ks : List Nat} (hn : n < 19) (h : V n = none) : szV (vset V n ks) = szV V + ks.length := by
  unfold szV
  rw [fb_set lenO hn (by rw [h]; rfl) (fun j hj => vset_n hj), vset_s]; rfl
theorem cntU_set {V : zVw} {n m : Nat} {ks : List Nat} (hn : n < 19) (h : V n = none) : cntU (vset V n ks) m = cntU V m + ks.count m := by
  unfold cntU
  rw [fb_set (fun o => cntO o m) hn (by rw [h]; rfl) (fun j hj => vset_n hj), vset_s]; rfl
theorem okS_step {s s' : zRs} {t : Nat} (ht : t < 256) (h : okS s) (hs : rdn s t = some s') : okS s' ∧ szS s' ≤ szS s + 1 := by
  obtain ⟨a, b, c, e, f⟩ := h
  obtain ⟨aw, nm, cur, V⟩ := s
  unfold rdn at hs
  dsimp only at a b c e f hs
  by_cases h0 : aw = 0
  · rw [if_pos h0] at hs
    by_cases h1 : 103 ≤ t ∧ t < 116 ∧ (V (t - 97)).isSome = false
    · rw [if_pos h1] at hs
      cases hs
      refine ⟨⟨Nat.le_of_ble_eq_true rfl, b, fun _ => ⟨by dsimp only; omega, by dsimp only; omega, ?_⟩, fun _ => rfl, trivial⟩, ?_⟩
      · exact Option.not_isSome_iff_eq_none.mp (by rw [h1.2.2]; decide)
      · unfold szS; dsimp only; rw [e (by omega)]; exact Nat.le_succ _
    · rw [if_neg h1] at hs; cases hs
  · rw [if_neg h0] at hs
    obtain ⟨c1, c2, c3⟩ := c h0
    by_cases h1 : aw = 1
    · rw [if_pos h1] at hs
      by_cases h2 : t = 61
      · rw [if_pos h2] at hs
        cases hs
        refine ⟨⟨Nat.le_of_ble_eq_true rfl, b, fun _ => ⟨c1, c2, c3⟩, fun _ => rfl, trivial⟩, ?_⟩
        unfold szS; dsimp only; rw [e (by omega)]; exact Nat.le_succ _
      · rw [if_neg h2] at hs; cases hs
    · rw [if_neg h1] at hs
      by_cases h2 : t = 59
      · rw [if_pos h2] at hs
        by_cases h3 : depd 0 cur = 1
        · rw [if_pos h3] at hs
          cases hs
          refine ⟨⟨Nat.le_of_ble_eq_true rfl, ?_, fun h => absurd rfl h, fun _ => rfl, trivial⟩, ?_⟩
          · intro n ks hn
            dsimp only at hn
            by_cases hnn : n = nm
            · subst hnn
              rw [vset_s] at hn
              cases hn
              exact ⟨c1, c2, f, h3⟩
            · rw [vset_n hnn] at hn
              exact b n ks hn
          · unfold szS; dsimp only
            rw [szV_set c2 c3]; exact Nat.le_succ _
        · rw [if_neg h3] at hs; cases hs
      · rw [if_neg h2] at hs
        cases hk : kb t with
        | none => rw [hk] at hs; cases hs
        | some k =>
          rw [hk] at hs
          dsimp only at hs
          by_cases h3 : ar k ≤ depd 0 cur ∧ depd 0 cur - ar k < 10
          · rw [if_pos h3] at hs
            cases hs
            refine ⟨⟨Nat.le_of_ble_eq_true rfl, b, fun _ => ⟨c1, c2, c3⟩, fun h => absurd rfl h, ?_⟩, ?_⟩
            · dsimp only
              rw [okd_app]
              exact ⟨f, (kb_some ht hk).1, h3.1, h3.2, trivial⟩
            · unfold szS; dsimp only; rw [List.length_append]; exact Nat.le_of_eq rfl
          · rw [if_neg h3] at hs; cases hs

