/-! the law's first rows: both objects are made; what they hold is Inv -/
def zS5 (zn : Nat) : List zE := [(4, zn, []), (5, 6, []), (4, 5, []), (4, 5, []), (4, 8, [])]
set_option maxRecDepth 20000 in
theorem zSH_eq {zn : Nat} : (zS5 zn ++ B11 5) ++ B12 115 = zSH zn := rfl
set_option maxRecDepth 20000 in
theorem B11_z : zcost (B11 5) = 3196 := by decide +kernel
set_option maxRecDepth 20000 in
theorem B12_z : zcost (B12 115) = 2485 := by decide +kernel
theorem zSH_cost {zn : Nat} : zcost (zSH zn) = zcost (zS5 zn) + 5681 := by
  rw [← zSH_eq, zcost_app, zcost_app, B11_z, B12_z]
theorem I12_ne {J : Nat → Nat → Int32} {c : Nat} (h : c < 126 ∨ 129 < c) : I12 J 115 c = J c := by
  unfold I12
  rw [zi_ne (by omega), zi_ne (by omega), zi_ne (by omega), zi_ne (by omega), zi_ne (by omega), zi_ne (by omega), zi_ne (by omega), zi_ne (by omega), zi_ne (by omega), zi_ne (by omega), zi_ne (by omega), zi_ne (by omega), zi_ne (by omega), zi_ne (by omega), zi_ne (by omega), zi_ne (by omega), zi_ne (by omega), zi_ne (by omega), zi_ne (by omega), zi_ne (by omega)]
theorem I11_ne {I : Nat → Nat → Int32} {c : Nat} (h5 : c ≠ 5) (h26 : c ≠ 26) (h34 : c ≠ 34) (h : c < 56 ∨ 58 < c) : I11 I 5 c = I c := by
  unfold I11
  rw [zi_ne (by omega), gt_ne (by omega), zi_ne (by omega), zi_ne (by omega)]
theorem I11_5 {I : Nat → Nat → Int32} (h : I 5 = fun _ => 0) (s : Nat) : I11 I 5 5 s = if s = 15 then 524224 else 0 := by
  unfold I11
  rw [zi_at, gt_ne (by omega), zi_ne (by omega), zi_ne (by omega), h]
  simp
theorem I11_34 {I : Nat → Nat → Int32} (h : I 34 = fun _ => 0) (s : Nat) : I11 I 5 34 s = if s = 2 then 170 else 0 := by
  unfold I11
  rw [zi_ne (by omega), gt_ne (by omega), zi_at, zi_ne (by omega), h]
  simp
def gtp (i : Nat) : Nat := ([1, 3, 3, 2, 2, 5, 6] : List Nat).getD i 0
def gtd (i : Nat) : Nat := ([1, 2, 2, 1, 1, 3, 3] : List Nat).getD i 0
def gtr (i : Nat) : Nat := ([100, 80, 130, 1, 20] : List Nat).getD i 0
theorem c7 {i : Nat} (h : i < 7) : i = 0 ∨ i = 1 ∨ i = 2 ∨ i = 3 ∨ i = 4 ∨ i = 5 ∨ i = 6 := by omega
theorem I11_56 {I : Nat → Nat → Int32} {i : Nat} (h : i < 7) : I11 I 5 56 i = nI (gtp i) := by
  rcases c7 h with rfl | rfl | rfl | rfl | rfl | rfl | rfl <;> rfl
theorem I11_57 {I : Nat → Nat → Int32} {i : Nat} (h : i < 7) : I11 I 5 57 i = nI (gtd i) := by
  rcases c7 h with rfl | rfl | rfl | rfl | rfl | rfl | rfl <;> rfl
theorem I11_58 {I : Nat → Nat → Int32} {i : Nat} (h : i < 5) : I11 I 5 58 i = nI (gtr i) := by
  rcases (show i = 0 ∨ i = 1 ∨ i = 2 ∨ i = 3 ∨ i = 4 by omega) with rfl | rfl | rfl | rfl | rfl <;> rfl
theorem I12_127 {I : Nat → Nat → Int32} {i : Nat} (h : i < 7) : I12 I 115 127 i = nI (gtp i) := by
  rcases c7 h with rfl | rfl | rfl | rfl | rfl | rfl | rfl <;> rfl
theorem I12_128 {I : Nat → Nat → Int32} {i : Nat} (h : i < 7) : I12 I 115 128 i = nI (gtd i) := by
  rcases c7 h with rfl | rfl | rfl | rfl | rfl | rfl | rfl <;> rfl
theorem I12_129 {I : Nat → Nat → Int32} {i : Nat} (h : i < 5) : I12 I 115 129 i = nI (gtr i) := by
  rcases (show i = 0 ∨ i = 1 ∨ i = 2 ∨ i = 3 ∨ i = 4 by omega) with rfl | rfl | rfl | rfl | rfl <;> rfl
theorem Inv_n {I J : Nat → Nat → Int32} {L K : Nat → Nat → Int64} (hI : ∀ k, 5 ≤ k → I k = fun _ => 0) (hL : ∀ k, 5 ≤ k → L k = fun _ => 0) (hcn : iCn I) (hin : inpL L) (f1 : fr [115 + 5, 115 + 9] (zi (I11 I 5) 115 18 (-4)) J) (f2 : ∀ q, q < 133 → J (115 + 5) q = -4) (f3 : ∀ q, q < 4 → J (115 + 9) q = 2) (k1 : fr [5 + 75, 5 + 76] L K) (k2 : stkE K (5 + 72)) : Inv (I12 J 115) K := by
  have a1 : ∀ c, c < 115 → J c = I11 I 5 c := fun c hc => by
    rw [f1 c (nm2 (by omega) (by omega)), zi_ne (by omega)]
  have a2 : ∀ c, c < 115 → I12 J 115 c = I11 I 5 c := fun c hc => by rw [I12_ne (by omega), a1 c hc]
  have a3 : ∀ c, 115 < c → c ≠ 120 → c ≠ 124 → (c < 126 ∨ 129 < c) → I12 J 115 c = fun _ => 0 := fun c h1 h2 h3 h4 => by
    rw [I12_ne h4, f1 c (nm2 (by omega) (by omega)), zi_ne (by omega), I11_ne (by omega) (by omega) (by omega) (by omega), hI c (by omega)]
  have a4 : ∀ s, I12 J 115 115 s = if s = 18 then -4 else 0 := fun s => by
    rw [I12_ne (by omega), f1 115 (by decide), zi_at, I11_ne (by omega) (by omega) (by omega) (by omega), hI 115 (by omega)]
    simp
  have b0 : ∀ c, c < 5 → I12 J 115 c = I c := fun c hc => by rw [a2 c (by omega), I11_ne (by omega) (by omega) (by omega) (by omega)]
  have kz : ∀ c, c < 80 ∨ 81 < c → K c = L c := fun c hc => k1 c (nm2 (by omega) (by omega))
  have hzc : ∀ c, c ∈ zcs → (c < 115 ∧ c ≠ 5 ∧ c ≠ 26 ∧ c ≠ 34 ∧ (c < 56 ∨ 58 < c) ∧ 5 ≤ c) ∨ (115 < c ∧ c ≠ 120 ∧ c ≠ 124 ∧ (c < 126 ∨ 129 < c)) := by decide
  refine Inv_0 (fun c hc s => ?_) ⟨?_, ?_, ?_⟩ ⟨?_, ?_⟩ ⟨gtp, fun i hi => ⟨?_, ?_⟩, fun i hi => ⟨?_, ?_⟩⟩ (fun i hi => ?_) (fun i hi => ?_) (fun s hs => ?_) ?_ (fun n hn => ?_) (fun r hr => ?_) rfl ⟨fun i hi => ?_, fun c hc => ?_⟩ ⟨fun n hn => ⟨?_, ?_⟩, fun n hn => ⟨?_, ?_⟩, k2, fun n hn => ?_⟩
  · rcases hzc c hc with ⟨h1, h2, h3, h4, h5, h6⟩ | ⟨h1, h2, h3, h4⟩
    · rw [a2 c h1, I11_ne h2 h3 h4 h5, hI c h6]
    · rw [a3 c h1 h2 h3 h4]
  · rw [a2 5 (by decide), I11_5 (hI 5 (by decide))]; rfl
  · rw [a2 5 (by decide), I11_5 (hI 5 (by decide))]; rfl
  · rw [a2 5 (by decide), I11_5 (hI 5 (by decide))]; rfl
  · rw [a2 34 (by decide), I11_34 (hI 34 (by decide))]; rfl
  · rw [a2 34 (by decide), I11_34 (hI 34 (by decide))]; rfl
  · rw [a2 56 (by decide), I11_56 hi]
  · exact (show ∀ i, i < 7 → gtp i ≤ 100 by decide) i hi
  · exact I12_127 hi
  · exact (show ∀ i, i < 7 → gtp i ≤ 100 by decide) i hi
  · rw [a2 57 (by decide), I11_57 hi, I12_128 hi]
  · rw [a2 58 (by decide), I11_58 hi, I12_129 hi]
  · rw [a4, if_neg hs]
  · rw [a4]; rfl
  · rw [I12_ne (by omega)]; exact f2 n (by omega)
  · rw [I12_ne (by omega)]; exact f3 r hr
  · rw [b0 2 (by decide), b0 3 (by decide)]; exact hcn.1 i hi
  · rw [b0 4 (by decide)]; exact hcn.2 c hc
  · rw [kz _ (by omega), hL _ (by omega)]
  · rw [kz _ (by omega), hL _ (by omega)]
  · rw [kz _ (by omega), hL _ (by omega)]
  · rw [kz _ (by omega), hL _ (by omega)]
  · rw [kz 1 (by omega)]; exact hin n hn
set_option maxRecDepth 20000 in
theorem law_pro {d zn : Nat} {I : Nat → Nat → Int32} {L : Nat → Nat → Int64} {post : zP} {P : zK} (hc : ∀ q ∈ kL_pro, ∀ (ls : zL) (st : List Value) (u : zU), q.2 (zcal zty zcd true (d + 3)) (zLM zn) post P ls st u → P q.1 ls st u) (hI : ∀ k, 5 ≤ k → I k = fun _ => 0) (hL : ∀ k, 5 ≤ k → L k = fun _ => 0) (hcn : iCn I) (hin : inpL L) (h : ∀ (J : Nat → Nat → Int32) (K : Nat → Nat → Int64), Inv J K → P 18 (zLs (nI 0)) [] (zSH zn, J, K)) : P 0 [some (.ref 0), none, none, none] [] (zS5 zn, I, L) := by
  have q0 : zcost (zSH zn) = zcost (zS5 zn) + 5681 := zSH_cost
  have q1 : zcost (zS5 zn ++ [(3, 11, List.replicate 16 none)]) = zcost (zS5 zn) + 16 := by rw [zcost_app, zcost_1]; rfl
  have q2 : zcost (zS5 zn ++ B11 5) = zcost (zS5 zn) + 3196 := by rw [zcost_app, B11_z]
  have q3 : zcost ((zS5 zn ++ B11 5) ++ [(3, 12, List.replicate 40 none)]) = zcost (zS5 zn) + 3236 := by rw [zcost_app, zcost_1, q2]; rfl
  have l0 : (zSH zn).length = 148 := rfl
  have l2 : (zS5 zn ++ B11 5).length = 115 := rfl
  refine hc _ tL_pro_0 _ _ _ ⟨?_, ?_, hI 5 (Nat.le_refl 5), hc _ tL_pro_3 _ _ _ ⟨rfl, hc _ tL_pro_4 _ _ _ ⟨⟨5, [], List.replicate 16 none, rfl, Nat.le_refl 5, rfl⟩, Nat.le_of_ble_eq_true rfl, Nat.le_of_ble_eq_true rfl, ?_, ?_, _, nw11 (d := d) (X := zS5 zn) (n := 5) rfl (Nat.le_refl 5) hI hL, ?_⟩⟩⟩
  · show 5 + 1 ≤ 148; decide
  · show zcost (zS5 zn) + 16 ≤ zcost (zSH zn); omega
  · show 6 + 109 ≤ 148; decide
  · show zcost (zS5 zn ++ [(3, 11, List.replicate 16 none)]) + 3180 ≤ zcost (zSH zn); omega
  intro r u hp
  obtain ⟨rfl, J1, K1, rfl, hJ1, k1, k2⟩ := hp
  refine ⟨rfl, ?_, ?_⟩
  · show zcost (zS5 zn ++ B11 5) = zcost (zS5 zn ++ [(3, 11, List.replicate 16 none)]) + 3180; omega
  refine hc _ tL_pro_7 _ _ _ ?_
  show P 8 [some (.ref 0), some (.ref 5), none, none] [] (zS5 zn ++ B11 5, J1, K1)
  have z1 : ∀ k, 115 ≤ k → J1 k = fun _ => 0 := fun k hk => by rw [hJ1, I11_ne (by omega) (by omega) (by omega) (by omega), hI k (by omega)]
  have z2 : ∀ k, 115 ≤ k → K1 k = fun _ => 0 := fun k hk => by
    rw [k1 k (nm2 (by omega) (by omega)), hL k (by omega)]
  refine hc _ tL_pro_8 _ _ _ ⟨?_, ?_, z1 115 (Nat.le_refl 115), hc _ tL_pro_11 _ _ _ ⟨rfl, hc _ tL_pro_12 _ _ _ ⟨⟨115, [], List.replicate 40 none, rfl, by decide, rfl⟩, Nat.le_of_ble_eq_true rfl, Nat.le_of_ble_eq_true rfl, ?_, ?_, _, nw12 (d := d + 2) (X := zS5 zn ++ B11 5) (n := 115) rfl (by decide) z1 z2, ?_⟩⟩⟩
  · show 115 + 1 ≤ 148; decide
  · show zcost (zS5 zn ++ B11 5) + 40 ≤ zcost (zSH zn); omega
  · show 116 + 32 ≤ 148; decide
  · show zcost ((zS5 zn ++ B11 5) ++ [(3, 12, List.replicate 40 none)]) + 2445 ≤ zcost (zSH zn); omega
  intro r u hp
  obtain ⟨rfl, J2, K2, rfl, J, f1, f2, f3, hJ2, hK2⟩ := hp
  rw [hJ1] at f1
  refine ⟨rfl, ?_, ?_⟩
  · show zcost ((zS5 zn ++ B11 5) ++ B12 115) = zcost ((zS5 zn ++ B11 5) ++ [(3, 12, List.replicate 40 none)]) + 2445
    rw [q3, zSH_eq, q0]
  refine hc _ tL_pro_15 _ _ _ (hc _ tL_pro_16 _ _ _ (hc _ tL_pro_17 _ _ _ ?_))
  show P 18 [some (.ref 0), some (.ref 5), some (.ref 115), some (.int 0)] [] ((zS5 zn ++ B11 5) ++ B12 115, J2, K2)
  rw [zSH_eq, hJ2, hK2]
  exact h _ _ (Inv_n hI hL hcn hin f1 f2 f3 k1 k2)

