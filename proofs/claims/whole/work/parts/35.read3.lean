/-! READING: a LINE's end, a TOKEN -/
theorem tlS_end {nm : Nat} {cur : List Nat} {V : zVw} (hv : V nm = none) : tlS (2, nm, cur, V) = tlS (0, nm, [], vset V nm cur) := by
  unfold tlS
  refine bm_cong (fun i _ => ?_)
  dsimp only
  by_cases h : i = nm
  · subst h; rw [vset_s, hv]; simp
  · rw [vset_n h]; simp [h]
theorem dM_end {nm : Nat} {cur : List Nat} {V : zVw} (hv : V nm = none) (n : Nat) : dM (2, nm, cur, V) n = dM (0, nm, [], vset V nm cur) n := by
  unfold dM
  refine bm_cong (fun i _ => ?_)
  dsimp only
  by_cases h : n = nm
  · subst h; rw [vset_s, hv]; simp [inO]
  · rw [vset_n h]; simp [h]
abbrev RX5_takesEnd (zn d : Nat) (post : zP) : zK := zRun (zcal zty zcd false (d + 0)) kX5_takesEnd (zLM zn) post
theorem eX5_takesEnd {zn d : Nat} {post : zP} (I : Nat → Nat → Int32) (L : Nat → Nat → Int64) (h : RX5_takesEnd zn d post 0 [some (.ref 26)] [] (zSH zn, I, L)) : zcal zty zcd false (d + 1) 47 [.ref 26] (zSH zn, I, L) 0 0 post := zcal_of (d := d + 0) zmt47 zmc47 rfl (Nat.le_of_ble_eq_true rfl) h
theorem gX5_takesEnd_0 {zn d : Nat} {post : zP} (I : Nat → Nat → Int32) (L : Nat → Nat → Int64) (h : vp_in (I 26 2) 19 ∧ ((¬ ((zi (zi I 30 ((I 26 2)).toNatClampNeg (I 26 3)) 26 1 (0 : Int32)) 26 4) = (1 : Int32) → post (some (.int (0 : Int32))) (zSH zn, (zi (zi I 30 ((I 26 2)).toNatClampNeg (I 26 3)) 26 1 (0 : Int32)), L)) ∧ (((zi (zi I 30 ((I 26 2)).toNatClampNeg (I 26 3)) 26 1 (0 : Int32)) 26 4) = (1 : Int32) → post (some (.int (1 : Int32))) (zSH zn, (zi (zi I 30 ((I 26 2)).toNatClampNeg (I 26 3)) 26 1 (0 : Int32)), L)))) : RX5_takesEnd zn d post 0 [some (.ref 26)] [] (zSH zn, I, L) := fun P hw hc => hc _ tX5_takesEnd_0 _ _ _ (hc _ tX5_takesEnd_1 _ _ _ (⟨_, _, sh26, (by decide), rfl, hc _ tX5_takesEnd_4 _ _ _ (⟨_, _, sh27, (by decide), rfl, hc _ tX5_takesEnd_7 _ _ _ (hc _ tX5_takesEnd_8 _ _ _ (⟨_, sh26, (by decide), hc _ tX5_takesEnd_11 _ _ _ (hc _ tX5_takesEnd_12 _ _ _ (⟨_, sh26, (by decide), hc _ tX5_takesEnd_15 _ _ _ (⟨_, _, sh30, (by decide), h.1, hc _ tX5_takesEnd_16 _ _ _ (hc _ tX5_takesEnd_17 _ _ _ (hc _ tX5_takesEnd_18 _ _ _ (⟨_, sh26, (by decide), nofun, hc _ tX5_takesEnd_21 _ _ _ (hc _ tX5_takesEnd_22 _ _ _ (⟨_, sh26, (by decide), hc _ tX5_takesEnd_25 _ _ _ (hc _ tX5_takesEnd_26 _ _ _ (⟨fun c1 => hc _ tX5_takesEnd_33 _ _ _ (hc _ tX5_takesEnd_34 _ _ _ (⟨fun _ => by decide, rfl, rfl, (h.2.1 c1)⟩)), fun c2 => hc _ tX5_takesEnd_29 _ _ _ (hc _ tX5_takesEnd_30 _ _ _ (hc _ tX5_takesEnd_34 _ _ _ (⟨fun _ => by decide, rfl, rfl, (h.2.2 c2)⟩)))⟩))⟩))⟩)))⟩)⟩))⟩))⟩)⟩))
theorem ctX5_takesEnd {zn d : Nat} (I : Nat → Nat → Int32) (L : Nat → Nat → Int64) (s : zRs) (q0 : okS s) (q1 : s.1 = 2) (q2 : cRd I s) (q3 : szS s ≤ 200) : zcal zty zcd false (d + 1) 47 [.ref 26] (zSH zn, I, L) 0 0 (fun r u => ∃ (J : Nat → Nat → Int32), r = some (.int (if (rdn s 59).isSome = true then 1 else 0)) ∧ u = (zSH zn, J, L) ∧ (rdP I J s 59)) := by
  obtain ⟨aw, nm, cur, V⟩ := s
  obtain ⟨c1, c2, c3, c4, c5, c6⟩ := q2
  obtain ⟨o1, o2, o3, o4, o5⟩ := q0
  dsimp only at q1 c1 c2 c3 c4 c5 c6 o1 o2 o3 o4 o5
  subst q1
  obtain ⟨n1, n2, n3⟩ := o3 (by decide)
  obtain ⟨k1, k2, f, k3, k4, k5⟩ := c6 (by decide)
  dsimp only at k1 k2 k3 k4 k5
  have hcl : (nI nm).toNatClampNeg = nm := nI_clamp (by omega)
  have hd10 : depd 0 cur ≤ 10 := okd_le _ 0 (by decide) o5
  have e1 : (zi (zi I 30 nm (I 26 3)) 26 1 0) 26 4 = nI (depd 0 cur) := by rw [zi_at, zi_at]; simp; exact k2
  have hfr : fr [26, 27, 28, 29, 30, 31, 32] I (zi (zi I 30 nm (I 26 3)) 26 1 0) := by
    intro j hj
    simp only [List.mem_cons, List.not_mem_nil, or_false, not_or] at hj
    funext a
    simp only [zi_at]
    simp [hj]
  refine eX5_takesEnd I L (gX5_takesEnd_0 I L ?_)
  rw [k1, hcl, e1]
  refine ⟨vin_nI n2 (by decide), fun h => ?_, fun h => ?_⟩
  · have hr : rdn (2, nm, cur, V) 59 = none := by
      unfold rdn
      dsimp only
      rw [if_neg (by decide), if_neg (by decide), if_pos rfl, if_neg]
      exact fun z => h (by rw [z]; rfl)
    exact ⟨_, by rw [hr]; rfl, rfl, rdP_no hr hfr⟩
  · have h1 : depd 0 cur = 1 := nI_inj (by omega) (by decide) h
    have hr : rdn (2, nm, cur, V) 59 = some (0, nm, [], vset V nm cur) := by
      unfold rdn
      dsimp only
      rw [if_neg (by decide), if_neg (by decide), if_pos rfl, if_pos h1]
    have hsz : szS (0, nm, [], vset V nm cur) = szS (2, nm, cur, V) := by
      unfold szS
      dsimp only
      rw [szV_set n2 n3]; rfl
    refine ⟨_, by rw [hr]; rfl, rfl, hfr, fun s' hs => ?_⟩
    rw [hr] at hs
    cases hs
    refine ⟨?_, ?_, ?_, ?_, ?_, fun z => absurd rfl z⟩
    · simp only [zi_at]; rfl
    · simp only [zi_at]; simp; rw [hsz]; exact c2
    · simp only [zi_at]; simp; rw [c3, tlS_end n3]
    · intro m hm
      obtain ⟨d1, d2⟩ := c4 m hm
      simp only [zi_at]; simp
      rw [d1, d2, dM_end n3, cntU_set n2 n3]
      exact ⟨rfl, rfl⟩
    · intro m ks hm
      dsimp only at hm
      rw [hsz]
      by_cases hmn : m = nm
      · subst hmn
        rw [vset_s] at hm
        cases hm
        refine ⟨f, ⟨?_, ?_, ?_, fun i x hx => ?_⟩, by omega⟩
        · omega
        · simp only [zi_at]; simp; exact k3
        · simp only [zi_at]; simp; rw [c2, k4]
        · simp only [zi_at]; simp; exact k5 i x hx
      · rw [vset_n hmn] at hm
        obtain ⟨g, hg, hle⟩ := c5 m ks hm
        refine ⟨g, lnC_cong hg ?_ ?_ (fun i hi => ?_), hle⟩
        · simp only [zi_at]; simp
        · simp only [zi_at]; simp [hmn]
        · simp only [zi_at]; simp

