/-! what class and reference hold between two calls -/
def df (S Z : List Nat) (I J : Nat → Nat → Int32) : Prop := (∀ c, c ∉ S → c ≠ 115 → J c = I c) ∧ ∀ s, s ∉ Z → J 115 s = I 115 s
theorem df_rf {I : Nat → Nat → Int32} : df [] [] I I := ⟨fun _ _ _ => rfl, fun _ _ => rfl⟩
theorem df_fr {S : List Nat} {I J : Nat → Nat → Int32} (h : fr S I J) (h1 : 115 ∉ S) : df S [] I J := ⟨fun c hc _ => h c hc, fun s _ => by rw [h 115 h1]⟩
theorem df_15 {S Z : List Nat} {I J : Nat → Nat → Int32} (h : fr S I J) (h1 : ∀ s, s ∉ Z → J 115 s = I 115 s) : df S Z I J := ⟨fun c hc _ => h c hc, h1⟩
theorem df_t {S Z S' Z' : List Nat} {I J K : Nat → Nat → Int32} (h : df S Z I J) (h2 : df S' Z' J K) : df (S ++ S') (Z ++ Z') I K := ⟨fun c hc h5 => by
    rw [h2.1 c (fun z => hc (List.mem_append.mpr (Or.inr z))) h5, h.1 c (fun z => hc (List.mem_append.mpr (Or.inl z))) h5], fun s hs => by
    rw [h2.2 s (fun z => hs (List.mem_append.mpr (Or.inr z))), h.2 s (fun z => hs (List.mem_append.mpr (Or.inl z)))]⟩
theorem df_e {I J : Nat → Nat → Int32} (h : J = I) : df [] [] I J := h ▸ df_rf
theorem df_zi {I : Nat → Nat → Int32} {k i : Nat} {v : Int32} (h : k ≠ 115) : df [k] [] I (zi I k i v) := df_fr (fr_zi (List.mem_singleton.mpr rfl)) (fun z => h (List.mem_singleton.mp z).symm)
theorem rvM_d {S Z : List Nat} {I J : Nat → Nat → Int32} (hd : df S Z I J) (hs : ∀ c ∈ [118, 119, 120, 121, 122, 123], c ∉ S) (u : Nat) : rvM I J u u := rvM_fr (hd.1 118 (hs 118 (by decide)) (by decide)) (hd.1 119 (hs 119 (by decide)) (by decide)) (hd.1 120 (hs 120 (by decide)) (by decide)) (hd.1 121 (hs 121 (by decide)) (by decide)) (hd.1 122 (hs 122 (by decide)) (by decide)) (hd.1 123 (hs 123 (by decide)) (by decide))
theorem rsM_d {S Z : List Nat} {I J : Nat → Nat → Int32} (hd : df S Z I J) (hs : ∀ c ∈ [124, 125, 126], c ∉ S) (u : Nat) : rsM I J u u := rsM_fr (hd.1 124 (hs 124 (by decide)) (by decide)) (hd.1 125 (hs 125 (by decide)) (by decide)) (hd.1 126 (hs 126 (by decide)) (by decide))
/-! the texts -/
def iTx (I : Nat → Nat → Int32) : Prop := ∃ (T : Nat → Nat → Nat) (l : Nat → Nat), ∀ w, w < 2 → txC I w (T w) (l w) ∧ txR I w (T w) (l w)
theorem iTx_d {S Z : List Nat} {I J : Nat → Nat → Int32} (hd : df S Z I J) (hs : ∀ c ∈ [7, 8, 9, 10, 116, 117], c ∉ S) (h : iTx I) : iTx J := by
  obtain ⟨T, l, h⟩ := h
  refine ⟨T, l, fun w hw => ?_⟩
  have e : ∀ c, c ∈ [7, 8, 9, 10, 116, 117] → J c = I c := fun c hc => hd.1 c (hs c hc) (fun z => by rw [z] at hc; revert hc; decide)
  have e7 : J (7 + 2 * w) = I (7 + 2 * w) := e _ (by rcases (show w = 0 ∨ w = 1 by omega) with rfl | rfl <;> decide)
  have e8 : J (7 + 2 * w + 1) = I (7 + 2 * w + 1) := e _ (by rcases (show w = 0 ∨ w = 1 by omega) with rfl | rfl <;> decide)
  have h1 := h w hw
  unfold txC txR at h1 ⊢
  rw [e7, e8, e 116 (by decide), e 117 (by decide)]
  exact h1
/-! a view of the class and one of the reference -/
def vp (I : Nat → Nat → Int32) (c u : Nat) : Prop := ∃ (V : zVw) (os ps : List Nat), cVw I c V os ∧ rVw I u V ps
theorem vp_k {I J : Nat → Nat → Int32} {c u : Nat} (h : vp I c u) (hf : ∀ j, j ≤ 6 → J (c + j) = I (c + j)) (hr : rvM I J u u) : vp J c u := by
  obtain ⟨V, os, ps, h1, h2⟩ := h
  exact ⟨V, os, ps, cVw_fr h1 hf, rvM_vw hr h2⟩
theorem vp_d {S Z : List Nat} {I J : Nat → Nat → Int32} {c u : Nat} (hd : df S Z I J) (hs : ∀ j, j < 7 → c + j ∉ S) (hc : c + 6 < 115) (hr : rvM I J u u) (h : vp I c u) : vp J c u := vp_k h (fun j hj => hd.1 _ (hs j (by omega)) (by omega)) hr
theorem vp_f {I : Nat → Nat → Int32} (h0 : vp I 12 0) (h1 : vp I 19 1) : ∃ (V : Nat → zVw) (os ps : Nat → List Nat), ∀ w, w < 2 → cVw I (12 + 7 * w) (V w) (os w) ∧ rVw I w (V w) (ps w) := by
  obtain ⟨V, os, ps, a1, a2⟩ := h0
  obtain ⟨V', os', ps', b1, b2⟩ := h1
  refine ⟨fun w => if w = 0 then V else V', fun w => if w = 0 then os else os', fun w => if w = 0 then ps else ps', fun w hw => ?_⟩
  rcases (show w = 0 ∨ w = 1 by omega) with rfl | rfl
  · exact ⟨a1, a2⟩
  · exact ⟨b1, b2⟩
/-! registers, start and ends -/
def rst (I : Nat → Nat → Int32) (x a e : Int32) (u : Nat) : Prop := (∃ f : Nat → Nat, (∀ r, r < 4 → f r ≤ 2 ∧ I 124 (4 * u + r) = nI (f r)) ∧ x = nI (pkf f)) ∧ (∃ n, n < 16 ∧ a = nI n ∧ I 125 u = nI n) ∧ ∃ n, n < 2 ^ 19 ∧ e = nI n ∧ I 126 u = nI n
theorem rst_m {I J : Nat → Nat → Int32} {x a e : Int32} {u w : Nat} (h : rst I x a e u) (hm : rsM I J u w) : rst J x a e w := by
  obtain ⟨⟨f, f1, f2⟩, ⟨n, n1, n2, n3⟩, m, m1, m2, m3⟩ := h
  exact ⟨⟨f, fun r hr => ⟨(f1 r hr).1, by rw [hm.1 r hr]; exact (f1 r hr).2⟩, f2⟩, ⟨n, n1, n2, by rw [hm.2.1]; exact n3⟩, m, m1, m2, by rw [hm.2.2]; exact m3⟩
def kp1 (I : Nat → Nat → Int32) (j : Nat) : Prop := vp I (86 + 15 * j) (3 + 2 * j) ∧ vp I (93 + 15 * j) (4 + 2 * j) ∧ rst I (I (85 + 15 * j) 2) (I (85 + 15 * j) 3) (I (85 + 15 * j) 4) (1 + j)
theorem kp1_k {I J : Nat → Nat → Int32} {j : Nat} (h : kp1 I j) (hf : ∀ i, i ≤ 14 → J (85 + 15 * j + i) = I (85 + 15 * j + i)) (h3 : rvM I J (3 + 2 * j) (3 + 2 * j)) (h4 : rvM I J (4 + 2 * j) (4 + 2 * j)) (h1 : rsM I J (1 + j) (1 + j)) : kp1 J j := by
  obtain ⟨a, b, c⟩ := h
  refine ⟨vp_k a (fun i hi => ?_) h3, vp_k b (fun i hi => ?_) h4, ?_⟩
  · have := hf (1 + i) (by omega)
    rw [show 86 + 15 * j + i = 85 + 15 * j + (1 + i) by omega]; exact this
  · have := hf (8 + i) (by omega)
    rw [show 93 + 15 * j + i = 85 + 15 * j + (8 + i) by omega]; exact this
  · have e : J (85 + 15 * j) = I (85 + 15 * j) := hf 0 (by omega)
    rw [e]
    exact rst_m c h1
def iKp (I : Nat → Nat → Int32) : Prop := ∃ k, k ≤ 2 ∧ I 5 13 = nI k ∧ I 115 11 = nI k ∧ ∀ j, j < k → kp1 I j
theorem iKp_d {S Z : List Nat} {I J : Nat → Nat → Int32} (hd : df S Z I J) (hs : ∀ c, c < 30 → 85 + c ∉ S) (h5 : J 5 13 = I 5 13) (hz : 11 ∉ Z) (hr : ∀ u, 3 ≤ u → u ≤ 6 → rvM I J u u) (hm : ∀ u, 1 ≤ u → u ≤ 2 → rsM I J u u) (h : iKp I) : iKp J := by
  obtain ⟨k, k2, a, b, c⟩ := h
  refine ⟨k, k2, h5.trans a, (hd.2 11 hz).trans b, fun j hj => kp1_k (c j hj) (fun i hi => ?_) (hr _ (by omega) (by omega)) (hr _ (by omega) (by omega)) (hm _ (by omega) (by omega))⟩
  have := hd.1 (85 + (15 * j + i)) (hs _ (by omega)) (by omega)
  rw [show 85 + 15 * j + i = 85 + (15 * j + i) by omega]; exact this
def iSt (I : Nat → Nat → Int32) : Prop := rst I (I 34 2) (I 5 14) (I 5 15) 0
theorem iSt_d {I J : Nat → Nat → Int32} (h2 : J 34 2 = I 34 2) (h4 : J 5 14 = I 5 14) (h5 : J 5 15 = I 5 15) (hm : rsM I J 0 0) (h : iSt I) : iSt J := by
  unfold iSt at h ⊢
  rw [h2, h4, h5]
  exact rst_m h hm
def iLs (I : Nat → Nat → Int32) : Prop := I 34 3 = I 115 12 ∧ ∀ n, n < 19 → I 35 n = I 132 n
theorem iLs_d {S Z : List Nat} {I J : Nat → Nat → Int32} (hd : df S Z I J) (hs : ∀ c ∈ [35, 132], c ∉ S) (h3 : J 34 3 = I 34 3) (hz : 12 ∉ Z) (h : iLs I) : iLs J := ⟨by rw [h3, hd.2 12 hz]; exact h.1, fun n hn => by rw [hd.1 35 (hs 35 (by decide)) (by decide), hd.1 132 (hs 132 (by decide)) (by decide)]; exact h.2 n hn⟩
def iGt (I : Nat → Nat → Int32) : Prop := (∃ p, prOk I 56 p ∧ prOk I 127 p) ∧ (∀ i, i < 7 → I 57 i = I 128 i) ∧ ∀ i, i < 5 → I 58 i = I 129 i
theorem iGt_d {S Z : List Nat} {I J : Nat → Nat → Int32} (hd : df S Z I J) (hs : ∀ c ∈ [56, 57, 58, 127, 128, 129], c ∉ S) (h : iGt I) : iGt J := by
  have e : ∀ c, c ∈ [56, 57, 58, 127, 128, 129] → J c = I c := fun c hc => hd.1 c (hs c hc) (fun z => by rw [z] at hc; revert hc; decide)
  unfold iGt prOk at h ⊢
  rw [e 56 (by decide), e 57 (by decide), e 58 (by decide), e 127 (by decide), e 128 (by decide), e 129 (by decide)]
  exact h
def iCn (I : Nat → Nat → Int32) : Prop := rcon I ∧ lsc I
theorem iCn_d {S Z : List Nat} {I J : Nat → Nat → Int32} (hd : df S Z I J) (hs : ∀ c ∈ [2, 3, 4], c ∉ S) (h : iCn I) : iCn J := by
  unfold iCn rcon lsc at h ⊢
  rw [hd.1 2 (hs 2 (by decide)) (by decide), hd.1 3 (hs 3 (by decide)) (by decide), hd.1 4 (hs 4 (by decide)) (by decide)]
  exact h
/-! the floor -/
def flN (I : Nat → Nat → Int32) (B M : Nat) (nb : Nat → Nat) : Prop := (I 67 2 = nI B ∧ B ≤ 7) ∧ (I 115 27 = nI B ∧ B ≤ 7) ∧ (I 67 3 = nI M ∧ M ≤ 8) ∧ (I 115 29 = nI M ∧ M ≤ 8) ∧ (∀ k, k < M → I 69 k = nI (nb k) ∧ nb k < 2 ^ B ∧ nb k ≠ 0) ∧ ntR I 140 B M nb
def flL (I : Nat → Nat → Int32) (B M : Nat) (nb : Nat → Nat) : Prop := (I 67 6 = 0 ∨ (I 67 6 = 1 ∧ lsK I B M nb)) ∧ ∀ k, I 72 k = 0
def flP (I : Nat → Nat → Int32) (B : Nat) (p : Nat → Nat) : Prop := plC I 68 B p ∧ plC I 139 B p ∧ inj p B
def iFl (I : Nat → Nat → Int32) : Prop := ∃ (B M : Nat) (nb p : Nat → Nat), flN I B M nb ∧ flL I B M nb ∧ flP I B p
theorem flN_d {S Z : List Nat} {I J : Nat → Nat → Int32} {B M : Nat} {nb : Nat → Nat} (hd : df S Z I J) (hs : ∀ c ∈ [69, 140], c ∉ S) (h2 : J 67 2 = I 67 2) (h3 : J 67 3 = I 67 3) (hz : 27 ∉ Z ∧ 29 ∉ Z) (h : flN I B M nb) : flN J B M nb := by
  unfold flN ntR at h ⊢
  rw [h2, h3, hd.2 27 hz.1, hd.2 29 hz.2, hd.1 69 (hs 69 (by decide)) (by decide), hd.1 140 (hs 140 (by decide)) (by decide)]
  exact h
theorem flL_d {S Z : List Nat} {I J : Nat → Nat → Int32} {B M : Nat} {nb : Nat → Nat} (hd : df S Z I J) (hs : ∀ c ∈ [67, 70, 72], c ∉ S) (h : flL I B M nb) : flL J B M nb := by
  unfold flL lsK lyB at h ⊢
  rw [hd.1 67 (hs 67 (by decide)) (by decide), hd.1 70 (hs 70 (by decide)) (by decide), hd.1 72 (hs 72 (by decide)) (by decide)]
  exact h
theorem flP_d {S Z : List Nat} {I J : Nat → Nat → Int32} {B : Nat} {p : Nat → Nat} (hd : df S Z I J) (hs : ∀ c ∈ [68, 139], c ∉ S) (h : flP I B p) : flP J B p := by
  unfold flP plC at h ⊢
  rw [hd.1 68 (hs 68 (by decide)) (by decide), hd.1 139 (hs 139 (by decide)) (by decide)]
  exact h
theorem iFl_d {S Z : List Nat} {I J : Nat → Nat → Int32} (hd : df S Z I J) (hs : ∀ c ∈ [67, 68, 69, 70, 72, 139, 140], c ∉ S) (hz : 27 ∉ Z ∧ 29 ∉ Z) (h : iFl I) : iFl J := by
  obtain ⟨B, M, nb, p, a, b, c⟩ := h
  have s : ∀ X : List Nat, (∀ c ∈ X, c ∈ [67, 68, 69, 70, 72, 139, 140]) → ∀ c ∈ X, c ∉ S := fun X hX c hc => hs c (hX c hc)
  have e := hd.1 67 (hs 67 (by decide)) (by decide)
  exact ⟨B, M, nb, p, flN_d hd (s _ (by decide)) (by rw [e]) (by rw [e]) hz a, flL_d hd (s _ (by decide)) b, flP_d hd (s _ (by decide)) c⟩
/-! the trials -/
def iTr (I : Nat → Nat → Int32) : Prop := ∃ (N : Nat) (ro : Nat → Nat) (sn : Nat → Int32), (I 73 2 = nI N ∧ N ≤ 10) ∧ (I 115 33 = nI N ∧ N ≤ 10) ∧ trO I 74 N ro ∧ trO I 143 N ro ∧ snO I 75 N sn ∧ snO I 144 N sn
theorem iTr_d {S Z : List Nat} {I J : Nat → Nat → Int32} (hd : df S Z I J) (hs : ∀ c ∈ [73, 74, 75, 143, 144], c ∉ S) (hz : 33 ∉ Z) (h : iTr I) : iTr J := by
  have e : ∀ c, c ∈ [73, 74, 75, 143, 144] → J c = I c := fun c hc => hd.1 c (hs c hc) (fun z => by rw [z] at hc; revert hc; decide)
  unfold iTr trO snO at h ⊢
  rw [e 73 (by decide), e 74 (by decide), e 75 (by decide), e 143 (by decide), e 144 (by decide), hd.2 33 hz]
  exact h
def iLn (L : Nat → Nat → Int64) : Prop := nSt L 37 ∧ nSt L 43 ∧ stkE L 77 ∧ inpL L
theorem iLn_f {S : List Nat} {L K : Nat → Nat → Int64} (hf : fr S L K) (hs : ∀ c ∈ [1, 40, 41, 46, 47, 80, 81], c ∉ S) (h : iLn L) : iLn K := by
  unfold iLn nSt stkE inpL at h ⊢
  have e : ∀ c, c ∈ [1, 40, 41, 46, 47, 80, 81] → K c = L c := fun c hc => hf c (hs c hc)
  simp only [Nat.reduceAdd] at h ⊢
  rw [e 1 (by decide), e 40 (by decide), e 41 (by decide), e 46 (by decide), e 47 (by decide), e 80 (by decide), e 81 (by decide)]
  exact h
def Inv (I : Nat → Nat → Int32) (L : Nat → Nat → Int64) : Prop := iTx I ∧ (vp I 12 0 ∧ vp I 19 1) ∧ iKp I ∧ iSt I ∧ iLs I ∧ iGt I ∧ iCn I ∧ iFl I ∧ iTr I ∧ iLn L ∧ I 115 18 = -4
/-- a call that keeps all that counts -/
def scr : List Nat := [26, 27, 28, 29, 30, 31, 32, 33, 36, 60, 61, 63, 64, 65, 66, 71, 118, 119, 120, 121, 122, 123, 130, 131, 133, 134, 135, 136, 137, 138, 141, 142, 146, 147]
def kpI (I J : Nat → Nat → Int32) : Prop := df scr [19, 37] I J ∧ ∀ u, u ≠ 2 → rvM I J u u
theorem df_sub {S Z S' Z' : List Nat} {I J : Nat → Nat → Int32} (h : df S Z I J) (h1 : ∀ c ∈ S, c ∈ S') (h2 : ∀ c ∈ Z, c ∈ Z') : df S' Z' I J := ⟨fun c hc h5 => h.1 c (fun z => hc (h1 c z)) h5, fun s hs => h.2 s (fun z => hs (h2 s z))⟩
theorem kpI_rf {I : Nat → Nat → Int32} : kpI I I := ⟨df_sub df_rf (by decide) (by decide), fun _ _ => rvM_rf⟩
theorem kpI_t {I J K : Nat → Nat → Int32} (h : kpI I J) (h2 : kpI J K) : kpI I K := ⟨df_sub (df_t h.1 h2.1) (by decide) (by decide), fun u hu => rvM_t (h.2 u hu) (h2.2 u hu)⟩
theorem kpI_d {S Z : List Nat} {I J : Nat → Nat → Int32} (h : df S Z I J) (h1 : ∀ c ∈ S, c ∈ scr ∧ (c < 118 ∨ 123 < c)) (h2 : ∀ c ∈ Z, c ∈ [19, 37]) : kpI I J := ⟨df_sub h (fun c hc => (h1 c hc).1) h2, fun u _ => rvM_d h (fun c hc z => by
    have := (h1 c z).2
    simp only [List.mem_cons, List.not_mem_nil, or_false] at hc
    omega) u⟩
theorem kpI_f {S : List Nat} {I J : Nat → Nat → Int32} (h : fr S I J) (h1 : ∀ c ∈ S, c ∈ scr ∧ (c < 118 ∨ 123 < c)) : kpI I J := kpI_d (df_fr h (fun z => absurd (h1 115 z).1 (by decide))) h1 (by decide)
theorem kpI_O {I J : Nat → Nat → Int32} (h : rvO I J) : kpI I J := ⟨df_sub (df_fr h.1 (by decide)) (by decide) (by decide), h.2⟩
theorem kpI_T {I J : Nat → Nat → Int32} (h : rvT I J) : kpI I J := ⟨df_sub (df_fr h.1 (by decide)) (by decide) (by decide), h.2⟩
theorem kpI_P {I J : Nat → Nat → Int32} (h : kpP I J) : kpI I J := kpI_d (S := [130, 131, 146, 147]) (Z := [19, 37]) ⟨fun c hc h5 => h.1 c (by simp only [List.mem_cons, not_or, List.not_mem_nil, not_false_eq_true, and_true] at hc ⊢; exact ⟨h5, hc⟩), fun s hs => h.2 s (fun z => hs (by rw [z]; decide)) (fun z => hs (by rw [z]; decide))⟩ (by decide) (by decide)
theorem kpI_19 {I J : Nat → Nat → Int32} (h : fr [115, 130, 131] I J ∧ ∀ s, s ≠ 19 → J 115 s = I 115 s) : kpI I J := kpI_d (S := [130, 131]) (Z := [19]) ⟨fun c hc h5 => h.1 c (by simp only [List.mem_cons, not_or, List.not_mem_nil, not_false_eq_true, and_true] at hc ⊢; exact ⟨h5, hc⟩), fun s hs => h.2 s (fun z => hs (by rw [z]; decide))⟩ (by decide) (by decide)
theorem Inv_k {I J : Nat → Nat → Int32} {L K : Nat → Nat → Int64} (h : Inv I L) (hk : kpI I J) (hl : iLn K) : Inv J K := by
  obtain ⟨tx, ⟨v0, v1⟩, kp, st, ls, gt, cn, fl, tr, ln, m4⟩ := h
  obtain ⟨hd, hr⟩ := hk
  have e5 := hd.1 5 (by decide) (by decide)
  have e34 := hd.1 34 (by decide) (by decide)
  exact ⟨iTx_d hd (by decide) tx, ⟨vp_d hd (by decide) (by decide) (hr 0 (by decide)) v0, vp_d hd (by decide) (by decide) (hr 1 (by decide)) v1⟩, iKp_d hd (by decide) (by rw [e5]) (by decide) (fun u h3 _ => hr u (by omega)) (fun u _ _ => rsM_d hd (by decide) u) kp, iSt_d (by rw [e34]) (by rw [e5]) (by rw [e5]) (rsM_d hd (by decide) 0) st, iLs_d hd (by decide) (by rw [e34]) (by decide) ls, iGt_d hd (by decide) gt, iCn_d hd (by decide) cn, iFl_d hd (by decide) (by decide) fl, iTr_d hd (by decide) (by decide) tr, hl, by rw [hd.2 18 (by decide)]; exact m4⟩

