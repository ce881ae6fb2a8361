theorem zH_push {g : zG} {u : zU} {s : State} {H H1 : Heap} {e : zE} (hH : zH g u s H) (hz : H1.size = H.size + 1) (o1 : ∀ q : Nat, q < H.size → H1[q]? = H[q]?) (he : va_at g.2.2.1 zcl (zr g u.1.length, zcell g e (u.2.1 u.1.length) (u.2.2 u.1.length)) H1) : zH g (u.1 ++ [e], u.2) s H1 := by
  obtain ⟨h1, h2, h3, h4⟩ := hH
  refine ⟨?_, fun hp => by rw [hz, h2 hp]; simp; omega, by simp; omega, fun j x hj hx => ?_⟩
  · rw [zws_push h3 rfl rfl]
    refine (h1.kept (fun k q hk => o1 q.1 ((h1 k q hk).lt))).app (fun k q hk => ?_)
    have hk0 : k < 1 := (List.getElem?_eq_some_iff.mp hk).1
    rw [show k = 0 by omega] at hk
    cases hk
    have : zr g u.1.length = g.1 + (u.1.length - 5) := by unfold zr; rw [if_neg (by omega)]
    rw [← this]; exact he
  · have hx2 : u.1[j]? = some x := by rw [List.getElem?_append_left (by omega)] at hx; exact hx
    exact h4 j x hj hx2
theorem zS_push {g : zG} {s : State} {H H1 : Heap} {locs : List Loc} (hS : va_S (zAA g) s.heap H locs) (hz : H1.size = H.size + 1) (o1 : ∀ q : Nat, q < H.size → H1[q]? = H[q]?) : va_S (zAA g) s.heap H1 locs :=
  ⟨Nat.le_trans hS.1 (by omega), fun x h1 h2 => (o1 x (Nat.lt_of_lt_of_le h1 hS.1)).trans (hS.2.1 x h1 h2), hS.2.2⟩
theorem zcost_push (sh : List zE) (e : zE) : zcost (sh ++ [e]) = zcost sh + zsz e := by simp [zcost]
theorem zB_len {ci N : Nat} (h : (zB ci).length = N) (rs : List (Option Nat)) : zsz (3, ci, rs) = N := h
section OKD
variable {ty : List zY} {ph : Bool} {own : String} {cc : ByteArray} {nL : Nat} {ret : Option FieldType} {ini : Bool} {pc : Nat}
def a_new (ci N nx : Nat) : zT := fun _ lim _ K ls st u => u.1.length + 1 ≤ lim.1 ∧ zcost u.1 + N ≤ lim.2 ∧ u.2.1 u.1.length = (fun _ => 0) ∧ K nx ls (.ref u.1.length :: st) (u.1 ++ [(3, ci, List.replicate N none)], u.2)
theorem ok_new {ci idx N : Nat} {C : String} {T : u_T} (hd : decode cc pc = .ok (.new idx, 3)) (hph : ph = true) (hc : zcl[ci]? = some (C, T, N)) (hin : ∀ w ∈ u_ws C T N, w ∈ zgw) (ty0 : Nat → FieldType) (hty : ∀ k, k < N → parseFieldDescriptor (T k).2.2.1 = some (ty0 k)) (hB : (zB ci).length = N) (hdf : ∀ j, j < N → defaultValue (ty0 j) = if (zB ci)[j]? = some true then .int 0 else .null) (w1 : Cond.classLink own idx C ∈ zgw) (w2 : Cond.instantiable C N ∈ zgw) (w3 : Cond.initialized C ∈ zgw) : zSnd ty ph own cc nL ret ini (pc, a_new ci N (pc + 3)) := by
  intro p l e R s m args below meth c g n0 c0 d Q C' lim post hC ls st u h a b H locs lsA hH hS hl
  obtain ⟨h1, h2, h3, hK⟩ := h
  have hts := hC.1.2.2.2.2.1
  have hKn := hC.1.2.2.2.2.2.1.1.1 ci _ hc
  have hp : g.2.2.2.2 = true := hC.1.2.2.2.2.2.2.2.trans hph
  have hz0 := hH.2.1 hp
  have hzr : H.size = zr g u.1.length := by have h5 := hH.2.2.1; unfold zr; rw [if_neg (by omega)]; exact hz0
  have hR1 := hC.2.1.2.2.1 _ h1
  have hR2 := hC.2.1.2.2.2 _ h2
  refine W.newcK hC.1.1 hC.1.2.1 hC.1.2.2.2.1 (hts _ w1) (hts _ w2) (hts _ w3) rfl hd (by omega) (by omega) hKn.2.1 hzr fun H1 kC hkC e1 z1 o1 => ?_
  have hle : (u.1 ++ [((3, ci, List.replicate N none) : zE)]).length = u.1.length + 1 := by simp
  have hco : zcost (u.1 ++ [((3, ci, List.replicate N none) : zE)]) = zcost u.1 + N := by rw [zcost_push, zB_len hB]
  rw [← hzr] at z1 o1
  have hK2 := hK (by rw [hle]; omega) (by rw [hco]; omega) H1 locs lsA (zH_push hH z1 o1 ?_) (zS_push hS z1 o1) hl
  · rw [hle, hco] at hK2
    rw [show u.1.length - n0 + 1 = u.1.length + 1 - n0 by omega, show zcost u.1 - c0 + N = zcost u.1 + N - c0 by omega]
    exact hK2
  · refine ⟨_, hc, (u_born ty0 hts hin hKn hkC e1 hty).to (fun j hj => ?_)⟩
    rw [hdf j hj]
    rw [h3]
    show _ = vp_V (zfs g ci (List.replicate N none) (fun _ => 0)) j
    have hjB : j < (zB ci).length := by rw [hB]; exact hj
    have hbj : (zB ci)[j]? = some ((zB ci)[j]) := List.getElem?_eq_getElem hjB
    unfold vp_V
    rw [List.getD_eq_getElem?_getD, zB_at hbj, hbj]
    cases (zB ci)[j] <;> simp [va_rf, hj]
def a_newI (nx : Nat) : zT := fun _ lim _ K ls st u => match st with
  | .int n :: r => ¬ n < 0 ∧ n.toNatClampNeg ≤ 100000 ∧ u.1.length + 1 ≤ lim.1 ∧ zcost u.1 + n.toNatClampNeg ≤ lim.2 ∧ u.2.1 u.1.length = (fun _ => 0) ∧ K nx ls (.ref u.1.length :: r) (u.1 ++ [(0, n.toNatClampNeg, [])], u.2)
  | _ => False
theorem ok_newI (hd : decode cc pc = .ok (.newarray .int, 2)) (hph : ph = true) (w1 : Cond.arrayClass .int ∈ zgw) : zSnd ty ph own cc nL ret ini (pc, a_newI (pc + 2)) := by
  intro p l e R s m args below meth c g n0 c0 d Q C' lim post hC ls st u h a b H locs lsA hH hS hl
  simp only [a_newI] at h
  split at h
  · next n r =>
    obtain ⟨g1, g2, h1, h2, h3, hK⟩ := h
    have hts := hC.1.2.2.2.2.1
    have hp : g.2.2.2.2 = true := hC.1.2.2.2.2.2.2.2.trans hph
    have hz0 := hH.2.1 hp
    have hzr : H.size = zr g u.1.length := by have h5 := hH.2.2.1; unfold zr; rw [if_neg (by omega)]; exact hz0
    have hR1 := hC.2.1.2.2.1 _ h1
    have hR2 := hC.2.1.2.2.2 _ h2
    refine va_newaK hC.1.1 hC.1.2.1 (atype := .int) (hts _ w1) rfl hd rfl g1 rfl (by show _ * 4 ≤ _; omega) (by omega) (by omega) hzr fun H1 cA e1 z1 o1 hAr hNm => ?_
    have hcA : cA = g.2.2.2.1 0 := Option.some.inj (hNm.symm.trans (hC.1.2.2.2.2.2.1.1.2 0 _ rfl).2)
    subst hcA
    have hle : (u.1 ++ [((0, n.toNatClampNeg, []) : zE)]).length = u.1.length + 1 := by simp
    have hco : zcost (u.1 ++ [((0, n.toNatClampNeg, []) : zE)]) = zcost u.1 + n.toNatClampNeg := by rw [zcost_push]; rfl
    rw [← hzr] at z1 o1
    have hK2 := hK (by rw [hle]; omega) (by rw [hco]; omega) H1 locs lsA (zH_push hH z1 o1 ?_) (zS_push hS z1 o1) hl
    · rw [hle, hco] at hK2
      rw [show u.1.length - n0 + 1 = u.1.length + 1 - n0 by omega, show zcost u.1 - c0 + n.toNatClampNeg = zcost u.1 + n.toNatClampNeg - c0 by omega]
      exact hK2
    · show H1[zr g u.1.length]? = some (vp_cell (g.2.2.2.1 0) (n.toNatClampNeg, .inl (u.2.1 u.1.length)))
      rw [h3, vp_cell_i]
      exact e1
  · exact h.elim
def a_newJ (nx : Nat) : zT := fun _ lim _ K ls st u => match st with
  | .int n :: r => ¬ n < 0 ∧ n.toNatClampNeg ≤ 100000 ∧ u.1.length + 1 ≤ lim.1 ∧ zcost u.1 + n.toNatClampNeg ≤ lim.2 ∧ u.2.2 u.1.length = (fun _ => 0) ∧ K nx ls (.ref u.1.length :: r) (u.1 ++ [(1, n.toNatClampNeg, [])], u.2)
  | _ => False
theorem ok_newJ (hd : decode cc pc = .ok (.newarray .long, 2)) (hph : ph = true) (w1 : Cond.arrayClass .long ∈ zgw) : zSnd ty ph own cc nL ret ini (pc, a_newJ (pc + 2)) := by
  intro p l e R s m args below meth c g n0 c0 d Q C' lim post hC ls st u h a b H locs lsA hH hS hl
  simp only [a_newJ] at h
  split at h
  · next n r =>
    obtain ⟨g1, g2, h1, h2, h3, hK⟩ := h
    have hts := hC.1.2.2.2.2.1
    have hp : g.2.2.2.2 = true := hC.1.2.2.2.2.2.2.2.trans hph
    have hz0 := hH.2.1 hp
    have hzr : H.size = zr g u.1.length := by have h5 := hH.2.2.1; unfold zr; rw [if_neg (by omega)]; exact hz0
    have hR1 := hC.2.1.2.2.1 _ h1
    have hR2 := hC.2.1.2.2.2 _ h2
    refine va_newaK hC.1.1 hC.1.2.1 (atype := .long) (hts _ w1) rfl hd rfl g1 rfl (by show _ * 8 ≤ _; omega) (by omega) (by omega) hzr fun H1 cA e1 z1 o1 hAr hNm => ?_
    have hcA : cA = g.2.2.2.1 1 := Option.some.inj (hNm.symm.trans (hC.1.2.2.2.2.2.1.1.2 1 _ rfl).2)
    subst hcA
    have hle : (u.1 ++ [((1, n.toNatClampNeg, []) : zE)]).length = u.1.length + 1 := by simp
    have hco : zcost (u.1 ++ [((1, n.toNatClampNeg, []) : zE)]) = zcost u.1 + n.toNatClampNeg := by rw [zcost_push]; rfl
    rw [← hzr] at z1 o1
    have hK2 := hK (by rw [hle]; omega) (by rw [hco]; omega) H1 locs lsA (zH_push hH z1 o1 ?_) (zS_push hS z1 o1) hl
    · rw [hle, hco] at hK2
      rw [show u.1.length - n0 + 1 = u.1.length + 1 - n0 by omega, show zcost u.1 - c0 + n.toNatClampNeg = zcost u.1 + n.toNatClampNeg - c0 by omega]
      exact hK2
    · show H1[zr g u.1.length]? = some (vp_cell (g.2.2.2.1 1) (n.toNatClampNeg, .inr (.inl (u.2.2 u.1.length))))
      rw [h3, vp_cell_l]
      exact e1
  · exact h.elim
/-! the end of a method -/
def a_iret (bz : Bool) : zT := fun _ lim post _ _ st u => match st with
  | [.int v] => (bz = true → v = 0 ∨ v = 1) ∧ u.1.length = lim.1 ∧ zcost u.1 = lim.2 ∧ post (some (.int v)) u
  | _ => False
def a_lret : zT := fun _ lim post _ _ st u => match st with
  | [.long v] => u.1.length = lim.1 ∧ zcost u.1 = lim.2 ∧ post (some (.long v)) u
  | _ => False
def a_vret : zT := fun _ lim post _ _ st u => match st with
  | [] => u.1.length = lim.1 ∧ zcost u.1 = lim.2 ∧ post none u
  | _ => False
theorem ok_iret {bz : Bool} (hd : decode cc pc = .ok (.ireturn, 1)) (hr : ret = some (if bz = true then .boolean else .int)) : zSnd ty ph own cc nL ret ini (pc, a_iret bz) := by
  intro p l e R s m args below meth c g n0 c0 d Q C' lim post hC ls st u h a b H locs lsA hH hS hl
  simp only [a_iret] at h
  split at h
  · exact hC.2.2.2.1 pc bz lsA _ u H locs hd hr h.1 hH hS h.2.2.2 h.2.1 h.2.2.1
  · exact h.elim
theorem ok_lret (hd : decode cc pc = .ok (.lreturn, 1)) (hr : ret = some .long) : zSnd ty ph own cc nL ret ini (pc, a_lret) := by
  intro p l e R s m args below meth c g n0 c0 d Q C' lim post hC ls st u h a b H locs lsA hH hS hl
  simp only [a_lret] at h
  split at h
  · exact hC.2.2.2.2.1 pc lsA _ u H locs hd hr hH hS h.2.2 h.1 h.2.1
  · exact h.elim
theorem ok_vret (hd : decode cc pc = .ok (.return_, 1)) (hr : ret = none) : zSnd ty ph own cc nL ret ini (pc, a_vret) := by
  intro p l e R s m args below meth c g n0 c0 d Q C' lim post hC ls st u h a b H locs lsA hH hS hl
  simp only [a_vret] at h
  split at h
  · exact hC.2.2.2.2.2 pc lsA u H locs hd hr hH hS h.2.2 h.1 h.2.1
  · exact h.elim
end OKD
/-! calls -/
theorem zblind (g : zG) (av : List Value) (u : zU) : FrameBlind (va_Pc av (zOK g u)) := fun _ _ _ _ h => ⟨h.1, zOK_moved h.2 rfl rfl⟩
theorem z_after {p : Program} {l : Launch} {e : Env} {R : Room} {s : State} {m : MethodId} {args : Array Value} {below : List Frame} {meth : Method} {c : Code} {H : Heap} {locs : List Loc} {cells slots mc ms pc : Nat} {Q : State → Prop} {lsA : Array Slot} {st0 rest : List Value} {g : zG} {post' : zP} {a : Array Value}
    (hr : va_Run p l e R s m args below meth c H locs cells slots mc ms (F0 m pc lsA st0) rest (zQ g post' a) (zAA g)) (hs : zS g s) (hS : va_S (zAA g) s.heap H locs)
    (kk : ∀ (r : Option Value) (u' : zU) (H1 : Heap) (locs1 : List Loc), post' r u' → zH g u' s H1 → va_S (zAA g) s.heap H1 locs1 → W p l e R s m args below meth c H1 locs1 (cells + mc) (slots + ms) Q (F0 m (pc + 3) lsA ((r.map (zV g)).toList ++ rest))) : W p l e R s m args below meth c H locs cells slots Q (F0 m pc lsA st0) := by
  intro T hT X
  obtain ⟨v, st₀, t, T', L, h0, X', hL, e1, e2, ⟨⟨r, u', hv, hp, hok⟩, hz, hk⟩, st⟩ := hr T hT X
  cases hv
  rw [h0] at hz hk
  have hS1 : va_S (zAA g) s.heap T'.heap (locs ++ L) := ⟨Nat.le_trans hS.1 (by rw [e1]; exact hz), fun q h1 h2 => by rw [e1, hk q (Nat.lt_of_lt_of_le h1 hS.1) h2]; exact hS.2.1 q h1 h2, fun q hq => by
    rcases List.mem_append.mp hq with h | h
    · exact hS.2.2 q h
    · exact hL q h⟩
  obtain ⟨t2, a1, b1⟩ := kk r u' T'.heap (locs ++ L) hp (zH_back hok hs hS1 e1.symm (by rw [← e2]; exact X'.warmed.alike)) hS1 T' rfl X'
  exact ⟨t2, st t2 a1, b1⟩
def a_call (k n nx mc ms : Nat) : zT := fun C lim _ K ls st u => n ≤ st.length ∧ ((st.drop n).map fun v => v.category).sum ≤ 8 ∧ u.1.length + mc ≤ lim.1 ∧ zcost u.1 + ms ≤ lim.2 ∧ ∃ post' : zP, C k (st.take n).reverse u mc ms post' ∧ ∀ (r : Option Value) (u' : zU), post' r u' → u'.1.length = u.1.length + mc ∧ zcost u'.1 = zcost u.1 + ms ∧ K nx ls (r.toList ++ st.drop n) u'
def a_callV (ci k n nx mc ms : Nat) : zT := fun C lim _ K ls st u => (∃ (k0 : Nat) (As : List Value) (rs : List (Option Nat)), (st.take n).reverse = .ref k0 :: As ∧ 5 ≤ k0 ∧ u.1[k0]? = some (3, ci, rs)) ∧ a_call k n nx mc ms C lim (fun _ _ => True) K ls st u
theorem zgoodW (y : MethodName) (bytes : ByteArray) (maxL : Nat) (ret : Option FieldType) (h : Cond.code y bytes maxL ret ∈ zgw) : GoodIn zgw (Cond.code y bytes maxL ret :: zgw) := fun w hw => by
  rcases List.mem_cons.mp hw with rfl | h1
  · exact ⟨h, zgood h⟩
  · exact ⟨h1, zgood h1⟩
section OKE
variable {ty : List zY} {ph : Bool} {own : String} {cc : ByteArray} {nL : Nat} {ret : Option FieldType} {ini : Bool} {pc : Nat}
variable {k n idx maxL mc ms : Nat} {y : MethodName} {bytes : ByteArray} {ret' : Option FieldType}
abbrev zYd (y : MethodName) (n : Nat) : Prop := y.cls ≠ "java/lang/invoke/MethodHandle" ∧ y.cls ≠ "java/lang/invoke/VarHandle" ∧ (parseMethodDescriptor y.desc).map (fun d => d.parameters.length) = some n
theorem zstk (g : zG) (st : List Value) (n : Nat) : st.map (zV g) = (((st.take n).reverse.map (zV g)).reverse) ++ (st.drop n).map (zV g) := by
  rw [List.map_reverse, List.reverse_reverse, ← List.map_append, List.take_append_drop]
theorem zopt (g : zG) (r : Option Value) (st : List Value) : ((r.toList ++ st).map (zV g)) = (r.map (zV g)).toList ++ st.map (zV g) := by cases r <;> rfl
theorem ok_callS (hd : decode cc pc = .ok (.invokestatic idx, 3)) (hy : ty[k]? = some (y, bytes, maxL, ret')) (wc : Cond.code y bytes maxL ret' ∈ zgw) (w1 : Cond.methodLink own idx y ∈ zgw) (w2 : Cond.static y ∈ zgw) (w3 : Cond.initialized y.cls ∈ zgw) (hyd : zYd y n) (hm : maxL ≤ 41) : zSnd ty ph own cc nL ret ini (pc, a_call k n (pc + 3) mc ms) := by
  intro p l e R s m args below meth c g n0 c0 d Q C' lim post hC ls st u h a b H locs lsA hH hS hl
  obtain ⟨h1, h2, h3, h4, post', hc, hK⟩ := h
  obtain ⟨y', hy', hM⟩ := hC.2.2.1 k _ u mc ms post' hc
  cases hy.symm.trans hy'
  have hts := hC.1.2.2.2.2.1
  have hs := hC.1.2.2.2.2.2.1
  have hR1 := hC.2.1.2.2.1 _ h3
  have hR2 := hC.2.1.2.2.2 _ h4
  have hfr := hC.2.1.1
  have hlo := hC.2.1.2.1
  rw [zstk g st n]
  refine z_after (va_runS (As := (st.take n).reverse.map (zV g)) (rest := (st.drop n).map (zV g)) ⟨hC.1.1, hC.1.2.1, hC.1.2.2.1, hC.1.2.2.2.1, hts⟩ hM ⟨callB_of n hts (zgoodW y bytes maxL ret' wc) rfl rfl rfl (hts _ w3) (hts _ w1) hyd ⟨hfr, by show 8 + (maxL + 11) + 60 * d ≤ _; omega⟩, hts _ w2⟩ ⟨zblind g _ u, fun U hU hW => ⟨rfl, zOK_of hH hs hS hU hW⟩⟩ rfl (by simp; omega) hl.1 rfl (by rw [zcats]; exact lv_room (st := st.drop n) h2 (m := m) (pc := pc) (ls := lsA) (rest := [])) hd ⟨by omega, by omega⟩) hs hS (fun r u' H1 locs1 hp hH1 hS1 => ?_)
  obtain ⟨g1, g2, hK2⟩ := hK r u' hp
  have := hK2 (by omega) (by omega) H1 locs1 lsA hH1 hS1 hl
  rw [g1, g2, zopt] at this
  rw [show u.1.length - n0 + mc = u.1.length + mc - n0 by omega, show zcost u.1 - c0 + ms = zcost u.1 + ms - c0 by omega]
  exact this
theorem ok_callSN {host : String} (hd : decode cc pc = .ok (.invokestatic idx, 3)) (hy : ty[k]? = some (y, bytes, maxL, ret')) (wc : Cond.code y bytes maxL ret' ∈ zgw) (w1 : Cond.methodLinkNest own idx y host ∈ zNw) (w2 : Cond.static y ∈ zgw) (w3 : Cond.initialized y.cls ∈ zgw) (hyd : zYd y n) (hm : maxL ≤ 41) : zSnd ty ph own cc nL ret ini (pc, a_call k n (pc + 3) mc ms) := by
  intro p l e R s m args below meth c g n0 c0 d Q C' lim post hC ls st u h a b H locs lsA hH hS hl
  obtain ⟨h1, h2, h3, h4, post', hc, hK⟩ := h
  obtain ⟨y', hy', hM⟩ := hC.2.2.1 k _ u mc ms post' hc
  cases hy.symm.trans hy'
  have hts := hC.1.2.2.2.2.1
  have hs := hC.1.2.2.2.2.2.1
  have hR1 := hC.2.1.2.2.1 _ h3
  have hR2 := hC.2.1.2.2.2 _ h4
  have hfr := hC.2.1.1
  have hlo := hC.2.1.2.1
  rw [zstk g st n]
  refine z_after (va_runSN (As := (st.take n).reverse.map (zV g)) (rest := (st.drop n).map (zV g)) ⟨hC.1.1, hC.1.2.1, hC.1.2.2.1, hC.1.2.2.2.1, hts⟩ hM ⟨va_cnB n hts (zgoodW y bytes maxL ret' wc) rfl rfl rfl (hs.2.2.2.1 _ w1) (hts _ w3) hyd ⟨hfr, by show 8 + (maxL + 11) + 60 * d ≤ _; omega⟩, hts _ w2, trivial⟩ ⟨zblind g _ u, fun U hU hW => ⟨rfl, zOK_of hH hs hS hU hW⟩⟩ rfl (by simp; omega) hl.1 rfl (by rw [zcats]; exact lv_room (st := st.drop n) h2 (m := m) (pc := pc) (ls := lsA) (rest := [])) hd ⟨by omega, by omega⟩) hs hS (fun r u' H1 locs1 hp hH1 hS1 => ?_)
  obtain ⟨g1, g2, hK2⟩ := hK r u' hp
  have := hK2 (by omega) (by omega) H1 locs1 lsA hH1 hS1 hl
  rw [g1, g2, zopt] at this
  rw [show u.1.length - n0 + mc = u.1.length + mc - n0 by omega, show zcost u.1 - c0 + ms = zcost u.1 + ms - c0 by omega]
  exact this
end OKE
