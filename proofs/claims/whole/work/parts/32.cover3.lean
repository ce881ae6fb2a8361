/-! THE COVER: both sums are one -/
theorem mn_nI {a b : Nat} (ha : a < 2 ^ 31) (hb : b < 2 ^ 31) : mn (nI a) (nI b) = nI (min a b) := by
  unfold mn
  by_cases h : b < a
  · rw [if_pos ((nI_ltI hb ha).mpr h)]; congr 1; omega
  · rw [if_neg (fun z => h ((nI_ltI hb ha).mp z))]; congr 1; omega
theorem ls_nI {a b : Nat} (ha : a < 2 ^ 31) (hb : b < 2 ^ 31) : fX12_less (nI a) (nI b) = nI (min a b) := by
  unfold fX12_less
  by_cases h : b ≤ a
  · rw [if_pos ((nI_leI hb ha).mpr h)]; congr 1; omega
  · rw [if_neg (fun z => h ((nI_leI hb ha).mp z))]; congr 1; omega
theorem adC_nI {a b p : Nat} (ha : a < 2 ^ 28) (hb : b < 2 ^ 28) (hp : p < 2 ^ 28) : adC (nI p) (nI a, nI b) = (nI (min a (b + p)), nI (min b (a + p))) := by
  unfold adC
  dsimp only
  rw [nI_add, mn_nI (by omega) (by omega), nI_add, mn_nI (by omega) (by omega)]
  congr 2; omega
theorem adM_nI {a b p : Nat} (ha : a < 2 ^ 28) (hb : b < 2 ^ 28) (hp : p < 2 ^ 28) : adM (nI p) (nI a, nI b) = (nI (min a (b + p)), nI (min b (a + p))) := by
  unfold adM
  dsimp only
  rw [nI_add, ls_nI (by omega) (by omega), nI_add, ls_nI (by omega) (by omega)]
def cR (w : Nat) (x y : Int32 × Int32) : Prop := ∃ a b : Nat, x = (nI a, nI b) ∧ y = (nI a, nI b) ∧ a ≤ 100 * w ∧ b ≤ 100 * w
theorem cR_ad {p a b w : Nat} (hp : p ≤ 100) (hw : w ≤ 200) (ha : a ≤ 100 * w) (hb : b ≤ 100 * w) : cR w (adC (nI p) (nI a, nI b)) (adM (nI p) (nI a, nI b)) := ⟨_, _, adC_nI (by omega) (by omega) (by omega), adM_nI (by omega) (by omega) (by omega), by omega, by omega⟩
theorem cR_op {pr qr : Nat → Int32} {p : Nat → Nat} (h : ∀ i, i < 7 → pr i = nI (p i) ∧ qr i = nI (p i) ∧ p i ≤ 100) (k : Nat) (a b c a' b' c' : Int32 × Int32) (wa wb wc : Nat) (h1 : 19 ≤ k) (h2 : k < 26) (ha : 1 ≤ ar k → cR wa a a') (hb : 2 ≤ ar k → cR wb b b') (hc : 3 ≤ ar k → cR wc c c') (hB : 1 + (if 1 ≤ ar k then wa else 0) + (if 2 ≤ ar k then wb else 0) + (if 3 ≤ ar k then wc else 0) ≤ 200) : cR (1 + (if 1 ≤ ar k then wa else 0) + (if 2 ≤ ar k then wb else 0) + (if 3 ≤ ar k then wc else 0)) (opC pr k a b c) (opD qr k a' b' c') := by
  obtain ⟨p0, q0, b0⟩ := h 0 (by decide)
  obtain ⟨p1, q1, b1⟩ := h 1 (by decide)
  obtain ⟨p2, q2, b2⟩ := h 2 (by decide)
  obtain ⟨p3, q3, b3⟩ := h 3 (by decide)
  obtain ⟨p4, q4, b4⟩ := h 4 (by decide)
  obtain ⟨p5, q5, b5⟩ := h 5 (by decide)
  obtain ⟨p6, q6, b6⟩ := h 6 (by decide)
  unfold opC opD
  rcases (show k = 19 ∨ k = 20 ∨ k = 21 ∨ k = 22 ∨ k = 23 ∨ k = 24 ∨ k = 25 by omega) with rfl | rfl | rfl | rfl | rfl | rfl | rfl
  · rw [cvC_19, cvM_19, p0, q0]
    exact cR_ad (a := 0) (b := 0) b0 hB (by omega) (by omega)
  · rw [cvC_20, cvM_20, p0, q0]
    exact cR_ad (a := 0) (b := 0) b0 hB (by omega) (by omega)
  · obtain ⟨x, y, rfl, rfl, hx, hy⟩ := ha (by decide)
    rw [cvC_21, cvM_21, p0, q0]
    have e : 1 + (if 1 ≤ ar 21 then wa else 0) + (if 2 ≤ ar 21 then wb else 0) + (if 3 ≤ ar 21 then wc else 0) = 1 + wa := rfl
    rw [e] at hB ⊢
    exact cR_ad b0 hB (by omega) (by omega)
  · obtain ⟨x, y, rfl, rfl, hx, hy⟩ := ha (by decide)
    obtain ⟨z, t, rfl, rfl, hz, ht⟩ := hb (by decide)
    have e : 1 + (if 1 ≤ ar 22 then wa else 0) + (if 2 ≤ ar 22 then wb else 0) + (if 3 ≤ ar 22 then wc else 0) = 1 + wa + wb := rfl
    rw [e] at hB ⊢
    rw [cvC_22, cvM_22, p0, q0, p1, p2, p3, p4, q1, q2, q3, q4]
    simp only [nI_add]
    rw [mn_nI (by omega) (by omega), mn_nI (by omega) (by omega), ls_nI (by omega) (by omega), ls_nI (by omega) (by omega)]
    simp only [← Nat.add_assoc]
    exact cR_ad b0 hB (by omega) (by omega)
  · obtain ⟨x, y, rfl, rfl, hx, hy⟩ := ha (by decide)
    obtain ⟨z, t, rfl, rfl, hz, ht⟩ := hb (by decide)
    have e : 1 + (if 1 ≤ ar 23 then wa else 0) + (if 2 ≤ ar 23 then wb else 0) + (if 3 ≤ ar 23 then wc else 0) = 1 + wa + wb := rfl
    rw [e] at hB ⊢
    rw [cvC_23, cvM_23, p0, q0, p1, p2, p3, p4, q1, q2, q3, q4]
    simp only [nI_add]
    rw [mn_nI (by omega) (by omega), mn_nI (by omega) (by omega), ls_nI (by omega) (by omega), ls_nI (by omega) (by omega)]
    simp only [← Nat.add_assoc]
    exact cR_ad b0 hB (by omega) (by omega)
  · obtain ⟨x, y, rfl, rfl, hx, hy⟩ := ha (by decide)
    obtain ⟨z, t, rfl, rfl, hz, ht⟩ := hb (by decide)
    have e : 1 + (if 1 ≤ ar 24 then wa else 0) + (if 2 ≤ ar 24 then wb else 0) + (if 3 ≤ ar 24 then wc else 0) = 1 + wa + wb := rfl
    rw [e] at hB ⊢
    rw [cvC_24, cvM_24, p0, q0, p5, q5]
    simp only [nI_add]
    rw [mn_nI (by omega) (by omega), mn_nI (by omega) (by omega), ls_nI (by omega) (by omega), ls_nI (by omega) (by omega), nI_add, nI_add, nI_add, Nat.min_comm (x + t) (y + z)]
    exact cR_ad b0 hB (by omega) (by omega)
  · obtain ⟨x, y, rfl, rfl, hx, hy⟩ := ha (by decide)
    obtain ⟨z, t, rfl, rfl, hz, ht⟩ := hb (by decide)
    obtain ⟨v, r, rfl, rfl, hv, hr⟩ := hc (by decide)
    have e : 1 + (if 1 ≤ ar 25 then wa else 0) + (if 2 ≤ ar 25 then wb else 0) + (if 3 ≤ ar 25 then wc else 0) = 1 + wa + wb + wc := rfl
    rw [e] at hB ⊢
    rw [cvC_25, cvM_25, p0, q0, p6, q6]
    dsimp only
    rw [mn_nI (by omega) (by omega), ls_nI (by omega) (by omega), nI_add, nI_add, nI_add, nI_add, nI_add]
    exact cR_ad b0 hB (by omega) (by omega)
theorem cov_eq {pr qr : Nat → Int32} {p : Nat → Nat} (h : ∀ i, i < 7 → pr i = nI (p i) ∧ qr i = nI (p i) ∧ p i ≤ 100) {ks : List Nat} (hw : wfl ks) (hl : ks.length ≤ 200) : ev (opC pr) (enC pr) (0, 0) ks = ev (opD qr) (enD qr) (0, 0) ks := by
  obtain ⟨w', _, e2⟩ := rpn_relW (R := cR) (B := 200) (f := opC pr) (g := opD qr) (ea := enC pr) (eb := enD qr) (cR_op h) (fun k _ => by
    obtain ⟨p0, q0, b0⟩ := h 0 (by decide)
    unfold enC enD
    rw [p0, q0]
    exact cR_ad (a := 0) (w := 1) b0 (by omega) (by omega) (by omega)) ks 0 (fun _ => (0, 0)) (fun _ => (0, 0)) (fun _ => 0) hw.1 (by show 0 + ks.length ≤ 200; omega) (fun j hj => absurd hj (Nat.not_lt_zero _))
  obtain ⟨a, b, ea, eb, _⟩ := e2 0 (by rw [hw.2]; decide)
  exact ea.trans eb.symm

