section OKF
variable {ty : List zY} {ph : Bool} {own : String} {cc : ByteArray} {nL : Nat} {ret : Option FieldType} {ini : Bool} {pc : Nat}
variable {k n idx maxL mc ms ci N : Nat} {y : MethodName} {bytes : ByteArray} {ret' : Option FieldType} {C : String} {T : u_T}
theorem zargs {g : zG} {st As : List Value} {n k0 : Nat} (h : (st.take (n + 1)).reverse = .ref k0 :: As) : st.map (zV g) = (As.map (zV g)).reverse ++ .ref (zr g k0) :: (st.drop (n + 1)).map (zV g) := by
  rw [zstk g st (n + 1), h]
  simp [zV]
theorem zargl {st As : List Value} {n k0 : Nat} (h : (st.take (n + 1)).reverse = .ref k0 :: As) (hl : n + 1 ≤ st.length) : As.length = n := by
  have := congrArg List.length h
  simp at this
  omega
theorem ok_callV (hd : decode cc pc = .ok (.invokevirtual idx, 3)) (hy : ty[k]? = some (y, bytes, maxL, ret')) (hc : zcl[ci]? = some (C, T, N)) (wc : Cond.code y bytes maxL ret' ∈ zgw) (w1 : Cond.methodLink own idx y ∈ zgw) (w2 : Cond.instanceMethod y ∈ zgw) (w3 : Cond.initialized y.cls ∈ zgw) (w4 : Cond.selects C y y ∈ zgw) (hyd : zYd y n) (hm : maxL ≤ 41) : zSnd ty ph own cc nL ret ini (pc, a_callV ci k (n + 1) (pc + 3) mc ms) := by
  intro p l e R s m args below meth c g n0 c0 d Q C' lim post hC ls st u h a b H locs lsA hH hS hl
  obtain ⟨⟨k0, As, rs, hav, h5, hk0⟩, h1, h2, h3, h4, post', hcal, hK⟩ := h
  obtain ⟨y', hy', hM⟩ := hC.2.2.1 k _ u mc ms post' hcal
  cases hy.symm.trans hy'
  have hts := hC.1.2.2.2.2.1
  have hs := hC.1.2.2.2.2.2.1
  have hR1 := hC.2.1.2.2.1 _ h3
  have hR2 := hC.2.1.2.2.2 _ h4
  have hfr := hC.2.1.1
  have hlo := hC.2.1.2.1
  rw [zargs (g := g) hav]
  have hM2 : Met l y (Cond.code y bytes maxL ret' :: zgw) (zRm d mc ms) (va_Pc (.ref (zr g k0) :: As.map (zV g)) (zOK g u)) (zQ g post') mc ms (zAA g) := by
    have := hM
    unfold zMet at this
    rw [hav] at this
    exact this
  refine z_after (va_runV (C := C) (b := zr g k0) (As := As.map (zV g)) (rest := (st.drop (n + 1)).map (zV g)) ⟨hC.1.1, hC.1.2.1, hC.1.2.2.1, hC.1.2.2.2.1, hts⟩ hM2 ⟨callB_of n hts (zgoodW y bytes maxL ret' wc) rfl rfl rfl (hts _ w3) (hts _ w1) hyd ⟨hfr, by show 8 + (maxL + 11) + 60 * d ≤ _; omega⟩, hts _ w2, hts _ w4⟩ ⟨zblind g _ u, va_recv hs.1 hH.1 hc (zws_at h5 hk0), fun U hU hW => ⟨rfl, zOK_of hH hs hS hU hW⟩⟩ rfl (by rw [List.length_map]; exact zargl hav h1) hl.1 rfl (by rw [zcats]; exact lv_room (st := st.drop (n + 1)) h2 (m := m) (pc := pc) (ls := lsA) (rest := [])) hd ⟨by omega, by omega⟩) hs hS (fun r u' H1 locs1 hp hH1 hS1 => ?_)
  obtain ⟨g1, g2, hK2⟩ := hK r u' hp
  have := hK2 (by omega) (by omega) H1 locs1 lsA hH1 hS1 hl
  rw [g1, g2, zopt] at this
  rw [show u.1.length - n0 + mc = u.1.length + mc - n0 by omega, show zcost u.1 - c0 + ms = zcost u.1 + ms - c0 by omega]
  exact this
theorem ok_callVN {host : String} (hd : decode cc pc = .ok (.invokevirtual idx, 3)) (hy : ty[k]? = some (y, bytes, maxL, ret')) (hc : zcl[ci]? = some (C, T, N)) (wc : Cond.code y bytes maxL ret' ∈ zgw) (w1 : Cond.methodLinkNest own idx y host ∈ zNw) (w2 : Cond.instanceMethod y ∈ zgw) (w3 : Cond.initialized y.cls ∈ zgw) (w4 : Cond.selects C y y ∈ zgw) (hyd : zYd y n) (hm : maxL ≤ 41) : zSnd ty ph own cc nL ret ini (pc, a_callV ci k (n + 1) (pc + 3) mc ms) := by
  intro p l e R s m args below meth c g n0 c0 d Q C' lim post hC ls st u h a b H locs lsA hH hS hl
  obtain ⟨⟨k0, As, rs, hav, h5, hk0⟩, h1, h2, h3, h4, post', hcal, hK⟩ := h
  obtain ⟨y', hy', hM⟩ := hC.2.2.1 k _ u mc ms post' hcal
  cases hy.symm.trans hy'
  have hts := hC.1.2.2.2.2.1
  have hs := hC.1.2.2.2.2.2.1
  have hR1 := hC.2.1.2.2.1 _ h3
  have hR2 := hC.2.1.2.2.2 _ h4
  have hfr := hC.2.1.1
  have hlo := hC.2.1.2.1
  rw [zargs (g := g) hav]
  have hM2 : Met l y (Cond.code y bytes maxL ret' :: zgw) (zRm d mc ms) (va_Pc (.ref (zr g k0) :: As.map (zV g)) (zOK g u)) (zQ g post') mc ms (zAA g) := by
    have := hM
    unfold zMet at this
    rw [hav] at this
    exact this
  refine z_after (va_runVN (C := C) (b := zr g k0) (As := As.map (zV g)) (rest := (st.drop (n + 1)).map (zV g)) ⟨hC.1.1, hC.1.2.1, hC.1.2.2.1, hC.1.2.2.2.1, hts⟩ hM2 ⟨va_cnB n hts (zgoodW y bytes maxL ret' wc) rfl rfl rfl (hs.2.2.2.1 _ w1) (hts _ w3) hyd ⟨hfr, by show 8 + (maxL + 11) + 60 * d ≤ _; omega⟩, hts _ w2, hts _ w4⟩ ⟨zblind g _ u, va_recv hs.1 hH.1 hc (zws_at h5 hk0), fun U hU hW => ⟨rfl, zOK_of hH hs hS hU hW⟩⟩ rfl (by rw [List.length_map]; exact zargl hav h1) hl.1 rfl (by rw [zcats]; exact lv_room (st := st.drop (n + 1)) h2 (m := m) (pc := pc) (ls := lsA) (rest := [])) hd ⟨by omega, by omega⟩) hs hS (fun r u' H1 locs1 hp hH1 hS1 => ?_)
  obtain ⟨g1, g2, hK2⟩ := hK r u' hp
  have := hK2 (by omega) (by omega) H1 locs1 lsA hH1 hS1 hl
  rw [g1, g2, zopt] at this
  rw [show u.1.length - n0 + mc = u.1.length + mc - n0 by omega, show zcost u.1 - c0 + ms = zcost u.1 + ms - c0 by omega]
  exact this
theorem ok_callI (hd : decode cc pc = .ok (.invokespecial idx, 3)) (hy : ty[k]? = some (y, bytes, maxL, none)) (wc : Cond.code y bytes maxL none ∈ zgw) (w1 : Cond.methodLink own idx y ∈ zgw) (w2 : Cond.instanceMethod y ∈ zgw) (w3 : Cond.initialized y.cls ∈ zgw) (hyn : y.name = "<init>") (hyd : zYd y n) (hm : maxL ≤ 41) : zSnd ty ph own cc nL ret ini (pc, a_callV ci k (n + 1) (pc + 3) mc ms) := by
  intro p l e R s m args below meth c g n0 c0 d Q C' lim post hC ls st u h a b H locs lsA hH hS hl
  obtain ⟨⟨k0, As, rs, hav, h5, hk0⟩, h1, h2, h3, h4, post', hcal, hK⟩ := h
  obtain ⟨y', hy', hM⟩ := hC.2.2.1 k _ u mc ms post' hcal
  cases hy.symm.trans hy'
  have hts := hC.1.2.2.2.2.1
  have hs := hC.1.2.2.2.2.2.1
  have hR1 := hC.2.1.2.2.1 _ h3
  have hR2 := hC.2.1.2.2.2 _ h4
  have hfr := hC.2.1.1
  have hlo := hC.2.1.2.1
  rw [zargs (g := g) hav]
  have hM2 : Met l y (Cond.code y bytes maxL none :: zgw) (zRm d mc ms) (va_Pc (.ref (zr g k0) :: As.map (zV g)) (zOK g u)) (zQ g post') mc ms (zAA g) := by
    have := hM
    unfold zMet at this
    rw [hav] at this
    exact this
  refine z_after (va_runI (b := zr g k0) (As := As.map (zV g)) (rest := (st.drop (n + 1)).map (zV g)) ⟨hC.1.1, hC.1.2.1, hC.1.2.2.1, hC.1.2.2.2.1, hts⟩ hM2 ⟨callB_of n hts (zgoodW y bytes maxL none wc) rfl rfl rfl (hts _ w3) (hts _ w1) hyd ⟨hfr, by show 8 + (maxL + 11) + 60 * d ≤ _; omega⟩, hyn, hts _ w2⟩ ⟨zblind g _ u, fun U hU hW => ⟨rfl, zOK_of hH hs hS hU hW⟩⟩ rfl (by rw [List.length_map]; exact zargl hav h1) hl.1 rfl (by rw [zcats]; exact lv_room (st := st.drop (n + 1)) h2 (m := m) (pc := pc) (ls := lsA) (rest := [])) hd ⟨by omega, by omega⟩) hs hS (fun r u' H1 locs1 hp hH1 hS1 => ?_)
  obtain ⟨g1, g2, hK2⟩ := hK r u' hp
  have := hK2 (by omega) (by omega) H1 locs1 lsA hH1 hS1 hl
  rw [g1, g2, zopt] at this
  rw [show u.1.length - n0 + mc = u.1.length + mc - n0 by omega, show zcost u.1 - c0 + ms = zcost u.1 + ms - c0 by omega]
  exact this
theorem ok_callIN {host : String} (hd : decode cc pc = .ok (.invokespecial idx, 3)) (hy : ty[k]? = some (y, bytes, maxL, none)) (wc : Cond.code y bytes maxL none ∈ zgw) (w1 : Cond.methodLinkNest own idx y host ∈ zNw) (w2 : Cond.instanceMethod y ∈ zgw) (w3 : Cond.initialized y.cls ∈ zgw) (hyn : y.name = "<init>") (hyd : zYd y n) (hm : maxL ≤ 41) : zSnd ty ph own cc nL ret ini (pc, a_callV ci k (n + 1) (pc + 3) mc ms) := by
  intro p l e R s m args below meth c g n0 c0 d Q C' lim post hC ls st u h a b H locs lsA hH hS hl
  obtain ⟨⟨k0, As, rs, hav, h5, hk0⟩, h1, h2, h3, h4, post', hcal, hK⟩ := h
  obtain ⟨y', hy', hM⟩ := hC.2.2.1 k _ u mc ms post' hcal
  cases hy.symm.trans hy'
  have hts := hC.1.2.2.2.2.1
  have hs := hC.1.2.2.2.2.2.1
  have hR1 := hC.2.1.2.2.1 _ h3
  have hR2 := hC.2.1.2.2.2 _ h4
  have hfr := hC.2.1.1
  have hlo := hC.2.1.2.1
  rw [zargs (g := g) hav]
  have hM2 : Met l y (Cond.code y bytes maxL none :: zgw) (zRm d mc ms) (va_Pc (.ref (zr g k0) :: As.map (zV g)) (zOK g u)) (zQ g post') mc ms (zAA g) := by
    have := hM
    unfold zMet at this
    rw [hav] at this
    exact this
  refine z_after (va_runIN (b := zr g k0) (As := As.map (zV g)) (rest := (st.drop (n + 1)).map (zV g)) ⟨hC.1.1, hC.1.2.1, hC.1.2.2.1, hC.1.2.2.2.1, hts⟩ hM2 ⟨va_cnB n hts (zgoodW y bytes maxL none wc) rfl rfl rfl (hs.2.2.2.1 _ w1) (hts _ w3) hyd ⟨hfr, by show 8 + (maxL + 11) + 60 * d ≤ _; omega⟩, hyn, hts _ w2⟩ ⟨zblind g _ u, fun U hU hW => ⟨rfl, zOK_of hH hs hS hU hW⟩⟩ rfl (by rw [List.length_map]; exact zargl hav h1) hl.1 rfl (by rw [zcats]; exact lv_room (st := st.drop (n + 1)) h2 (m := m) (pc := pc) (ls := lsA) (rest := [])) hd ⟨by omega, by omega⟩) hs hS (fun r u' H1 locs1 hp hH1 hS1 => ?_)
  obtain ⟨g1, g2, hK2⟩ := hK r u' hp
  have := hK2 (by omega) (by omega) H1 locs1 lsA hH1 hS1 hl
  rw [g1, g2, zopt] at this
  rw [show u.1.length - n0 + mc = u.1.length + mc - n0 by omega, show zcost u.1 - c0 + ms = zcost u.1 + ms - c0 by omega]
  exact this
end OKF
/-! arrays of references, in the constructors -/
section OKG
variable {ty : List zY} {ph : Bool} {own : String} {cc : ByteArray} {nL : Nat} {ret : Option FieldType} {ini : Bool} {pc : Nat}
def a_newR (n nx : Nat) : zT := fun _ lim _ K ls st u => match st with
  | .int z :: r => ¬ z < 0 ∧ z.toNatClampNeg ≤ 100000 ∧ u.1.length + 1 ≤ lim.1 ∧ zcost u.1 + z.toNatClampNeg ≤ lim.2 ∧ K nx ls (.ref u.1.length :: r) (u.1 ++ [(2, n, List.replicate z.toNatClampNeg none)], u.2)
  | _ => False
theorem ok_newR {n idx : Nat} (hd : decode cc pc = .ok (.anewarray idx, 3)) (hph : ph = true) (hn : n < 3) (w1 : Cond.classLink own idx (zcn n) ∈ zgw) : zSnd ty ph own cc nL ret ini (pc, a_newR n (pc + 3)) := by
  intro p l e R s m args below meth c g n0 c0 d Q C' lim post hC ls st u h a b H locs lsA hH hS hl
  simp only [a_newR] at h
  split at h
  · next z r =>
    obtain ⟨g1, g2, h1, h2, hK⟩ := h
    have hts := hC.1.2.2.2.2.1
    have hp : g.2.2.2.2 = true := hC.1.2.2.2.2.2.2.2.trans hph
    have hz0 := hH.2.1 hp
    have hzr : H.size = zr g u.1.length := by have h5 := hH.2.2.1; unfold zr; rw [if_neg (by omega)]; exact hz0
    have hR1 := hC.2.1.2.2.1 _ h1
    have hR2 := hC.2.1.2.2.2 _ h2
    refine W.anew hC.1.1 hC.1.2.1 hC.1.2.2.2.1 (hts _ w1) (va_AO.use (hC.1.2.2.2.2.2.1.2.2.2.2 n hn)) rfl hd rfl g1 (by omega) (by omega) (by omega) fun cA kA comp f1 f2 f3 f4 => ?_
    generalize hH1 : H.push ({ cls := cA, slots := Array.replicate z.toNatClampNeg .null, vm := .none } : Cell) = H1
    have z1 : H1.size = H.size + 1 := by rw [← hH1, Array.size_push]
    have e1 : H1[H.size]? = some (arrV cA z.toNatClampNeg (fun _ => .null)) := by rw [← hH1, Array.getElem?_push_size, ← arrV_new]
    have o1 : ∀ q : Nat, q < H.size → H1[q]? = H[q]? := fun q hq => by rw [← hH1, Array.getElem?_push, if_neg (Nat.ne_of_lt hq)]
    obtain ⟨kA', comp', -, -, -, hfc⟩ := (hC.1.2.2.2.2.2.1.1.2 (2 + n) _ (ztys_at g hn)).2
    have hcA : cA = g.2.2.2.1 (2 + n) := Option.some.inj (f1.symm.trans hfc)
    subst hcA
    have hle : (u.1 ++ [((2, n, List.replicate z.toNatClampNeg none) : zE)]).length = u.1.length + 1 := by simp
    have hco : zcost (u.1 ++ [((2, n, List.replicate z.toNatClampNeg none) : zE)]) = zcost u.1 + z.toNatClampNeg := by rw [zcost_push]; simp [zsz]
    have hK2 := hK (by rw [hle]; omega) (by rw [hco]; omega) H1 locs lsA (zH_push hH z1 o1 ?_) (zS_push hS z1 o1) hl
    · rw [hle, hco] at hK2
      rw [show u.1.length - n0 + 1 = u.1.length + 1 - n0 by omega, show zcost u.1 - c0 + z.toNatClampNeg = zcost u.1 + z.toNatClampNeg - c0 by omega, hzr]
      exact hK2
    · show H1[zr g u.1.length]? = some (vp_cell (g.2.2.2.1 (2 + n)) ((List.replicate z.toNatClampNeg (none : Option Nat)).length, .inr (.inr (.inr (.inr (fun j => ((List.replicate z.toNatClampNeg (none : Option Nat)).getD j none).map (zr g)))))))
      rw [← hzr, e1, vp_cell_q, List.length_replicate]
      congr 2
      funext j
      rw [List.getD_eq_getElem?_getD, List.getElem?_replicate]
      split <;> rfl
  · exact h.elim
def zcc (n : Nat) : Nat := match n with
  | 0 => 7
  | 1 => 10
  | _ => 3
theorem zcc_at {n : Nat} (h : n < 3) : ∃ r, zcl[zcc n]? = some r ∧ r.1 = zcn n := by
  rcases (show n = 0 ∨ n = 1 ∨ n = 2 by omega) with rfl | rfl | rfl <;> exact ⟨_, rfl, rfl⟩
def a_aast (nx : Nat) : zT := fun _ _ _ K ls st u => match st with
  | .ref t :: .int i :: .ref k :: r => ∃ (n : Nat) (rs r2 : List (Option Nat)), u.1[k]? = some (2, n, rs) ∧ 5 ≤ k ∧ n < 3 ∧ vp_in i rs.length ∧ u.1[t]? = some (3, zcc n, r2) ∧ 5 ≤ t ∧ K nx ls r (u.1.set k (2, n, rs.set i.toNatClampNeg (some t)), u.2)
  | _ => False
theorem zset_cost {sh : List zE} {k : Nat} {x y : zE} (hx : sh[k]? = some x) (hy : zsz y = zsz x) : zcost (sh.set k y) = zcost sh := by
  have : (sh.set k y).map zsz = sh.map zsz := by
    rw [List.map_set]
    refine List.ext_getElem? (fun n => ?_)
    rw [List.getElem?_set]
    by_cases hn : k = n
    · subst hn
      have hil : k < sh.length := (List.getElem?_eq_some_iff.mp hx).1
      rw [if_pos rfl, if_pos (by simpa using hil), List.getElem?_map, hx, hy]; rfl
    · rw [if_neg hn]
  unfold zcost
  rw [this]
theorem ok_aast (hd : decode cc pc = .ok (.aastore, 1)) : zSnd ty ph own cc nL ret ini (pc, a_aast (pc + 1)) := by
  intro p l e R s m args below meth c g n0 c0 d Q C' lim post hC ls st u h a b H locs lsA hH hS hl
  simp only [a_aast] at h
  split at h
  · next t i k r =>
    obtain ⟨n, rs, r2, hk, h5, hn, hin, ht, ht5, hK⟩ := h
    have hKK := hC.1.2.2.2.2.2.1.1
    have hlt : i.toNatClampNeg < rs.length := Nat.not_le.mp fun q => hin (Or.inr q)
    have h0 : ¬ i < 0 := fun q => hin (Or.inl q)
    obtain ⟨q, hq, hqn⟩ := zcc_at hn
    obtain ⟨r', hr', cellV, x1, x2, x3, -⟩ := hH.1 (t - 5) _ (zws_at ht5 ht)
    have hcls := (hKK.1 (zcc n) q hq).2
    obtain ⟨kA, comp, k1, k2, k3, -⟩ := (hKK.2 (2 + n) _ (ztys_at g hn)).2
    rw [← hqn] at k3
    have hcomp : comp = g.2.2.1.1 (zcc n) := Option.some.inj (k3.symm.trans hcls.1)
    subst hcomp
    obtain ⟨kC, hkC, -⟩ := hcls.2
    have hle : (u.1.set k (2, n, rs.set i.toNatClampNeg (some t))).length = u.1.length := List.length_set
    have hco : zcost (u.1.set k (2, n, rs.set i.toNatClampNeg (some t))) = zcost u.1 := zset_cost hk (by simp [zsz])
    have hkl : k < u.1.length := (List.getElem?_eq_some_iff.mp hk).1
    refine W.aast hC.1.1 hC.1.2.1 (hH.1 (k - 5) _ (zws_at h5 hk)) (fun q h => by cases h) (fun h => by cases h) k1 k2 rfl hkC ⟨h0, by show _ < (arrV _ _ _).slots.size; rw [arrV_size]; exact hlt⟩ x1 (fun q h => by rw [x3] at h; cases h) (by rw [x2]; exact hkC) (by rw [x2]; exact va_assign hcls) rfl rfl hd fun H1 e1 z oq => ?_
    have hK2 := hK (by rw [hle]; exact a) (by rw [hco]; exact b) H1 (locs ++ [⟨zr g k, i.toNatClampNeg⟩]) lsA (zH_set hH h5 hk hle (List.getElem?_set_self hkl) (fun i hi => ⟨List.getElem?_set_ne (fun z => hi z.symm), rfl, rfl⟩) ?_ z oq) (hS.put z oq (zAA_zr g h5)) hl
    · rw [hle, hco] at hK2
      exact hK2
    · show H1[zr g k]? = some (vp_cell (g.2.2.2.1 (2 + n)) ((rs.set i.toNatClampNeg (some t)).length, .inr (.inr (.inr (.inr (fun j => ((rs.set i.toNatClampNeg (some t)).getD j none).map (zr g)))))))
      rw [e1]
      show some (Cell.setSlot (vp_cell (g.2.2.2.1 (2 + n)) (rs.length, .inr (.inr (.inr (.inr (fun j => (rs.getD j none).map (zr g))))))) i.toNatClampNeg (Value.ref (zr g t))) = _
      rw [vp_cell_q, vp_cell_q, arrV_store, List.length_set]
      congr 2
      funext j
      by_cases hj : j = i.toNatClampNeg
      · subst hj
        simp [updV, hlt, va_rf]
      · have hj2 : ¬ i.toNatClampNeg = j := fun z => hj z.symm
        simp [updV, hj, hj2]
  · exact h.elim
end OKG
/-! THE PURE MACHINE'S RUNS: the least that is closed under its instructions -/
def zRun (C : zC) (code : List (Nat × zT)) (lim : Nat × Nat) (post : zP) : zK := fun pc ls st u => ∀ P : zK, (∀ (pc : Nat) (ls ls' : zL) (st : List Value) (u : zU), zwk ls ls' → P pc ls' st u → P pc ls st u) → (∀ q ∈ code, ∀ (ls : zL) (st : List Value) (u : zU), q.2 C lim post P ls st u → P q.1 ls st u) → P pc ls st u
def zen (av : List Value) (n : Nat) : zL := let l := av.flatMap (fun v => if v.category = 2 then [some v, none] else [some v]); l ++ List.replicate (n - l.length) none
abbrev zD : Type := Bool × Bool × List (Nat × zT)
def zcal (ty : List zY) (cd : List zD) (ph : Bool) : Nat → zC
  | 0 => fun _ _ _ _ _ _ => False
  | d + 1 => fun k av u mc ms post => ∃ (y : zY) (c : zD), ty[k]? = some y ∧ cd[k]? = some c ∧ c.1 = ph ∧ (lg_sl av).length ≤ y.2.2.1 ∧ zRun (zcal ty cd ph d) c.2.2 (u.1.length + mc, zcost u.1 + ms) post 0 (zen av y.2.2.1) [] u
def zOKm (ty : List zY) (y : zY) (c : zD) : Prop := plainName y.1.cls = true ∧ (c.2.1 = true → y.1.name = "<init>") ∧ ∀ q ∈ c.2.2, zSnd ty c.1 y.1.cls y.2.1 y.2.2.1 y.2.2.2 c.2.1 q
theorem zen_args {g : zG} : ∀ (av : List Value) (i : Nat) (pre : zL), pre.length = i → ∀ (j : Nat) (v : Value), i ≤ j → (pre ++ av.flatMap (fun v => if v.category = 2 then [some v, none] else [some v]))[j]? = some (some v) → (j, zV g v) ∈ lv_args i (av.map (zV g))
  | [], i, pre, hi, j, v, hj, h => by
    simp at h
    have := (List.getElem?_eq_some_iff.mp h).1
    omega
  | w :: av, i, pre, hi, j, v, hj, h => by
    rw [List.map_cons]
    unfold lv_args
    by_cases he : j = i
    · subst he
      have : some (some v) = some (some w) := by
        rw [← h, List.getElem?_append_right (by omega), hi]
        simp only [List.flatMap_cons, Nat.sub_self]
        split <;> rfl
      cases this
      exact List.mem_cons_self
    · refine List.mem_cons_of_mem _ ?_
      rw [zV_cat]
      by_cases hc : w.category = 2
      · rw [if_pos hc]
        by_cases hj1 : j = i + 1
        · subst hj1
          rw [List.getElem?_append_right (by omega), show i + 1 - pre.length = 1 by omega, List.flatMap_cons, if_pos hc] at h
          simp at h
        · refine zen_args av (i + 2) (pre ++ [some w, none]) (by simp [hi]) j v (by omega) ?_
          rw [List.flatMap_cons, if_pos hc, ← List.append_assoc] at h
          exact h
      · rw [if_neg hc]
        refine zen_args av (i + 1) (pre ++ [some w]) (by simp [hi]) j v (by omega) ?_
        rw [List.flatMap_cons, if_neg hc, ← List.append_assoc] at h
        exact h
theorem zlg (g : zG) (av : List Value) : (lg_sl (av.map (zV g))).length = (lg_sl av).length := by
  unfold lg_sl
  induction av with
  | nil => rfl
  | cons v r ih =>
    simp only [List.map_cons, List.flatMap_cons, List.length_append, ih, zV_cat]
    split <;> rfl
theorem zen_has {g : zG} {av : List Value} {n : Nat} (h : (lg_sl av).length ≤ n) : lv_has ((lg_sl (av.map (zV g)) ++ List.replicate (n - (lg_sl (av.map (zV g))).length) Slot.unset).toArray) n (zlv g (zen av n)) := by
  refine zlv_of (lv_entry (av.map (zV g)) (by rw [zlg]; exact h)) (fun j v hj => ?_)
  refine zen_args av 0 [] rfl j v (Nat.zero_le _) ?_
  unfold zen at hj
  simp only [List.nil_append]
  by_cases hl : j < (av.flatMap (fun v => if v.category = 2 then [some v, none] else [some v])).length
  · rw [List.getElem?_append_left hl] at hj
    exact hj
  · rw [List.getElem?_append_right (by omega), List.getElem?_replicate] at hj
    split at hj <;> simp at hj
theorem zwk_has {g : zG} {ls ls' : zL} {lsA : Array Slot} {nL : Nat} (h : lv_has lsA nL (zlv g ls)) (hw : zwk ls ls') : lv_has lsA nL (zlv g ls') := zlv_of h (fun i v hi => zlv_mem.mpr ⟨v, hw i v hi, rfl⟩)
theorem zRun_use {ty : List zY} {ph : Bool} {own : String} {cc : ByteArray} {nL : Nat} {ret : Option FieldType} {ini : Bool} {p : Program} {l : Launch} {e : Env} {R : Room} {s : State} {m : MethodId} {args : Array Value} {below : List Frame} {meth : Method} {c : Code} {g : zG} {n0 c0 d : Nat} {Q : State → Prop} {C : zC} {lim : Nat × Nat} {post : zP} {code : List (Nat × zT)}
    (hC : zCx ty ph own cc nL ret ini p l e R s m args below meth c g n0 c0 d Q C lim post) (hok : ∀ q ∈ code, zSnd ty ph own cc nL ret ini q) {pc : Nat} {ls : zL} {st : List Value} {u : zU} (h : zRun C code lim post pc ls st u) : zX p l e R s m args below meth c g nL n0 c0 Q pc ls st u :=
  h _ (fun pc ls ls' st u hw hx a b H locs lsA hH hS hl => hx a b H locs lsA hH hS (zwk_has hl hw)) (fun q hq ls st u hx => hok q hq p l e R s m args below meth c g n0 c0 d Q C lim post hC ls st u hx)
theorem zsound {ty : List zY} {cd : List zD} (hall : ∀ (k : Nat) (y : zY) (c : zD), ty[k]? = some y → cd[k]? = some c → zOKm ty y c) (l : Launch) (g : zG) :
    ∀ (d k : Nat) (av : List Value) (u : zU) (mc ms : Nat) (post : zP), zcal ty cd g.2.2.2.2 d k av u mc ms post → ∃ y, ty[k]? = some y ∧ zMet l g d y av u mc ms post := by
  intro d
  induction d with
  | zero => intro k av u mc ms post h; exact h.elim
  | succ d ih =>
    intro k av u mc ms post h
    obtain ⟨⟨y, bytes, maxL, ret⟩, ⟨ph, ini, code⟩, hy, hcd, hph, hlen, hrun⟩ := h
    obtain ⟨hpl, hin, hok⟩ := hall k _ _ hy hcd
    dsimp only at hph hlen hrun hpl hin hok
    refine ⟨_, hy, ?_⟩
    show Met l y (Cond.code y bytes maxL ret :: zgw) (zRm (d + 1) mc ms) (va_Pc (av.map (zV g)) (zOK g u)) (zQ g post) mc ms (zAA g)
    refine Met.ofW (cc := bytes) (maxL := maxL) (ret := ret) hpl rfl ?_
    intro p e s m args below meth c s₁ B hml hv
    obtain ⟨rfl, hOK⟩ := hv
    have hts : ∀ w ∈ zgw, w.before (av.map (zV g)).toArray s = true := fun w hw => atoms_spec (ws := Cond.code y bytes maxL ret :: zgw) B.pre w (List.mem_cons_of_mem _ hw)
    have hown : s.vm.findClass y.cls = some m.cls := findClass_of_methodNamed B.named
    have hlocks := B.notSynchronized
    have hr := B.returns
    have hF : ∀ (H : Heap) (locs : List Loc) (t : State) (r : Option Value) (u' : zU), zH g u' s H → va_S (zAA g) s.heap H locs → post r u' → t.heap = H → s.WarmedH t.vm → zQ g post (av.map (zV g)).toArray s (.returned (r.map (zV g))) t := fun H locs t r u' hH hS hp ht hW => ⟨⟨r, u', rfl, hp, zOK_of hH hOK.2 hS ht hW⟩, hS.F ht⟩
    have hC : zCx ty ph y.cls bytes maxL ret ini p l e (zRm (d + 1) mc ms) s m (av.map (zV g)).toArray below meth c g u.1.length (zcost u.1) d (MQ below (zQ g post) (av.map (zV g)).toArray s mc ms (zAA g)) (zcal ty cd g.2.2.2.2 d) (u.1.length + mc, zcost u.1 + ms) post := by
      refine ⟨⟨B.exec, B.bytes, hml, hown, hts, hOK.2, fun h => ?_, hph.symm⟩, ⟨Nat.le_refl _, by show 60 * d + 60 ≤ 60 * (d + 1); omega, fun x hx => by show _ ≤ mc; dsimp only at hx; omega, fun x hx => by show _ ≤ ms; dsimp only at hx; omega⟩, fun k av u mc ms post' h => ih k av u mc ms post' h, ?_, ?_, ?_⟩
      · exact (name_of_methodNamed B.named B.method).1.trans (hin h)
      · intro pc bz lsA v u' H locs hd hret hbz hH hS hp e1 e2
        have e3 : u'.1.length - u.1.length = mc := by rw [e1]; dsimp only; omega
        have e4 : zcost u'.1 - zcost u.1 = ms := by rw [e2]; dsimp only; omega
        rw [e3, e4]
        exact W.zret B.exec B.bytes (hr.trans hret) (znar hbz).1 (fun t ht hW => hF H locs t _ u' hH hS hp ht hW) hS.2.2 hd hlocks
      · intro pc lsA v u' H locs hd hret hH hS hp e1 e2
        have e3 : u'.1.length - u.1.length = mc := by rw [e1]; dsimp only; omega
        have e4 : zcost u'.1 - zcost u.1 = ms := by rw [e2]; dsimp only; omega
        rw [e3, e4]
        exact W.lret B.exec B.bytes (hr.trans hret) (fun t ht hW => hF H locs t _ u' hH hS hp ht hW) hS.2.2 hd
      · intro pc lsA u' H locs hd hret hH hS hp e1 e2
        have e3 : u'.1.length - u.1.length = mc := by rw [e1]; dsimp only; omega
        have e4 : zcost u'.1 - zcost u.1 = ms := by rw [e2]; dsimp only; omega
        rw [e3, e4]
        exact W.vret B.exec B.bytes (hr.trans hret) (fun t ht hW => hF H locs t none u' hH hS hp ht hW) hS.2.2 hd
    have hX := zRun_use hC hok hrun (Nat.le_refl _) (Nat.le_refl _) s.heap [] _ hOK.1 va_S.rf (zen_has (g := g) hlen)
    rw [Nat.sub_self, Nat.sub_self] at hX
    rw [lg_entry_eq]
    exact hX
/-! Math.max, Math.min -/
def a_mm (f : Int32 → Int32 → Int32) (nx : Nat) : zT := fun _ lim _ K ls st u => match st with
  | .int y :: .int x :: r => (r.map fun v => v.category).sum ≤ 8 ∧ u.1.length ≤ lim.1 ∧ zcost u.1 ≤ lim.2 ∧ K nx ls (.int (f x y) :: r) u
  | _ => False
section OKM
variable {ty : List zY} {ph : Bool} {own : String} {cc : ByteArray} {nL : Nat} {ret : Option FieldType} {ini : Bool} {pc : Nat}
theorem ok_mmax {idx : Nat} (hd : decode cc pc = .ok (.invokestatic idx, 3)) (w1 : Cond.methodLink own idx Lib.Math.max.name ∈ zgw) (w2 : Cond.static Lib.Math.max.name ∈ zgw) (w3 : Cond.initialized "java/lang/Math" ∈ zgw) (w4 : Cond.code Lib.Math.max.name Lib.Math.max.code 2 (some .int) ∈ zgw) : zSnd ty ph own cc nL ret ini (pc, a_mm (fun x y => if x < y then y else x) (pc + 3)) := by
  intro p l e R s m args below meth c g n0 c0 d Q C lim post hC ls st u h a b H locs lsA hH hS hl
  simp only [a_mm] at h
  split at h
  · next y x r =>
    have hts := hC.1.2.2.2.2.1
    have e1 := zcats g r
    have hfr := hC.2.1.1
    have hlo := hC.2.1.2.1
    exact va_mmax hC.1.1 hC.1.2.1 (by rw [hC.1.2.2.1]; exact hl.1.symm) hC.1.2.2.2.1 (hts _ w1) (hts _ w2) (hts _ w3) (hts _ w4) (by omega) (by have := h.1; omega) (hC.2.1.2.2.1 _ h.2.1) (hC.2.1.2.2.2 _ h.2.2.1) hd (h.2.2.2 a b H locs lsA hH hS hl)
  · exact h.elim
theorem ok_mmin {idx : Nat} (hd : decode cc pc = .ok (.invokestatic idx, 3)) (w1 : Cond.methodLink own idx Lib.Math.min.name ∈ zgw) (w2 : Cond.static Lib.Math.min.name ∈ zgw) (w3 : Cond.initialized "java/lang/Math" ∈ zgw) (w4 : Cond.code Lib.Math.min.name Lib.Math.min.code 2 (some .int) ∈ zgw) : zSnd ty ph own cc nL ret ini (pc, a_mm (fun x y => if y < x then y else x) (pc + 3)) := by
  intro p l e R s m args below meth c g n0 c0 d Q C lim post hC ls st u h a b H locs lsA hH hS hl
  simp only [a_mm] at h
  split at h
  · next y x r =>
    have hts := hC.1.2.2.2.2.1
    have e1 := zcats g r
    have hfr := hC.2.1.1
    have hlo := hC.2.1.2.1
    exact va_mmin hC.1.1 hC.1.2.1 (by rw [hC.1.2.2.1]; exact hl.1.symm) hC.1.2.2.2.1 (hts _ w1) (hts _ w2) (hts _ w3) (hts _ w4) (by omega) (by have := h.1; omega) (hC.2.1.2.2.1 _ h.2.1) (hC.2.1.2.2.2 _ h.2.2.1) hd (h.2.2.2 a b H locs lsA hH hS hl)
  · exact h.elim
end OKM
