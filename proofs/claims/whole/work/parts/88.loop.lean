/-! the law's loop -/
theorem nI_s5 {m : Nat} (h : m + 5 < 2 ^ 31) : Int32.ofNat (m + 5) - 5 = nI m := by
  have e : Int32.ofNat (m + 5) = nI m + 5 := by rw [nl 5, nI_add]; rfl
  rw [e, Int32.add_sub_cancel]
theorem lw_small : ∀ zn, zn < 5 → ∀ n, n ≤ zn → Int32.ofNat zn - 5 < nI n := by decide +kernel
theorem law_loop {zn d : Nat} (hz : zn < 2 ^ 31) (post : zP) (hp : ∀ u, post (some (.int 1)) u) : ∀ (m n : Nat) (I : Nat → Nat → Int32) (L : Nat → Nat → Int64), zn ≤ n + m → n ≤ zn → Inv I L → RL_law zn d post 18 (zLs (nI n)) [] (zSH zn, I, L) := by
  intro m
  induction m with
  | zero =>
    intro n I L h1 h2 hI
    refine gL_law_18 _ I L ⟨fun _ => hp _, fun hc => absurd ?_ hc⟩
    by_cases h5 : zn < 5
    · exact lw_small zn h5 n h2
    · obtain ⟨q, rfl⟩ : ∃ q, zn = q + 5 := ⟨zn - 5, by omega⟩
      rw [nI_s5 hz, nI_ltI (by omega) (by omega)]
      omega
  | succ m ih =>
    intro n I L h1 h2 hI
    refine gL_law_18 _ I L ⟨fun _ => hp _, fun hc => ?_⟩
    have hn : n + 5 ≤ zn := by
      by_cases h5 : zn < 5
      · exact absurd (lw_small zn h5 n h2) hc
      · obtain ⟨q, rfl⟩ : ∃ q, zn = q + 5 := ⟨zn - 5, by omega⟩
        rw [nI_s5 hz, nI_ltI (by omega) (by omega)] at hc
        omega
    have hv : lwV (nI n) zn := by
      refine ⟨?_, ?_, ?_, ?_⟩
      · rw [show nI n + (1 : Int32) = nI (n + 1) by rw [nl 1, nI_add]]; exact vin_nI (by omega) (by omega)
      · rw [show nI n + (2 : Int32) = nI (n + 2) by rw [nl 2, nI_add]]; exact vin_nI (by omega) (by omega)
      · rw [show nI n + (3 : Int32) = nI (n + 3) by rw [nl 3, nI_add]]; exact vin_nI (by omega) (by omega)
      · rw [show nI n + (4 : Int32) = nI (n + 4) by rw [nl 4, nI_add]]; exact vin_nI (by omega) (by omega)
    have k : ∀ (J : Nat → Nat → Int32) (K : Nat → Nat → Int64), Inv J K → RL_law zn d post 1224 (zLs (nI n)) [] (zSH zn, J, K) := fun J K hJ => by
      refine gL_law_1224 _ J K ?_
      rw [show nI n + (5 : Int32) = nI (n + 5) by rw [nl 5, nI_add]]
      exact ih (n + 5) J K (by omega) hn hJ
    have c : ∀ pc, lwC pc → RL_law zn d post pc (zLs (nI n)) [] (zSH zn, I, L) := fun pc h => h zn d post (nI n) I L hv hI k
    exact ⟨vin_nI (by omega) (by omega), ⟨fun _ => c 200 lw200, fun _ => ⟨fun _ => c 273 lw273, fun _ => ⟨fun _ => c 296 lw296, fun _ => ⟨fun _ => c 319 lw319, fun _ => ⟨fun _ => c 352 lw352, fun _ => ⟨fun _ => c 375 lw375, fun _ => ⟨fun _ => c 418 lw418, fun _ => ⟨fun _ => c 441 lw441, fun _ => ⟨fun _ => c 474 lw474, fun _ => ⟨fun _ => c 497 lw497, fun _ => ⟨fun _ => c 540 lw540, fun _ => ⟨fun _ => c 573 lw573, fun _ => ⟨fun _ => c 596 lw596, fun _ => ⟨fun _ => c 609 lw609, fun _ => ⟨fun _ => c 632 lw632, fun _ => ⟨fun _ => c 645 lw645, fun _ => ⟨fun _ => c 688 lw688, fun _ => ⟨fun _ => c 721 lw721, fun _ => ⟨fun _ => c 754 lw754, fun _ => ⟨fun _ => c 797 lw797, fun _ => ⟨fun _ => c 840 lw840, fun _ => ⟨fun _ => c 853 lw853, fun _ => ⟨fun _ => c 876 lw876, fun _ => ⟨fun _ => c 909 lw909, fun _ => ⟨fun _ => c 932 lw932, fun _ => ⟨fun _ => c 955 lw955, fun _ => ⟨fun _ => c 968 lw968, fun _ => ⟨fun _ => c 991 lw991, fun _ => ⟨fun _ => c 1024 lw1024, fun _ => ⟨fun _ => c 1047 lw1047, fun _ => ⟨fun _ => c 1070 lw1070, fun _ => ⟨fun _ => c 1083 lw1083, fun _ => ⟨fun _ => c 1106 lw1106, fun _ => ⟨fun _ => c 1139 lw1139, fun _ => ⟨fun _ => c 1162 lw1162, fun _ => ⟨fun _ => c 1175 lw1175, fun _ => ⟨fun _ => c 1188 lw1188, fun _ => ⟨fun _ => c 1201 lw1201, fun _ => k I L hI⟩⟩⟩⟩⟩⟩⟩⟩⟩⟩⟩⟩⟩⟩⟩⟩⟩⟩⟩⟩⟩⟩⟩⟩⟩⟩⟩⟩⟩⟩⟩⟩⟩⟩⟩⟩⟩⟩⟩

