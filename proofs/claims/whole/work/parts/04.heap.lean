def zi (I : Nat → Nat → Int32) (k i : Nat) (v : Int32) : Nat → Nat → Int32 := fun j => if j = k then upd (I k) i v else I j
def zl (L : Nat → Nat → Int64) (k i : Nat) (v : Int64) : Nat → Nat → Int64 := fun j => if j = k then vp_updL (L k) i v else L j
theorem zi_self {I : Nat → Nat → Int32} {k i : Nat} {v : Int32} : zi I k i v k = upd (I k) i v := if_pos rfl
theorem zi_ne {I : Nat → Nat → Int32} {k i j : Nat} {v : Int32} (h : j ≠ k) : zi I k i v j = I j := if_neg h
theorem zl_self {L : Nat → Nat → Int64} {k i : Nat} {v : Int64} : zl L k i v k = vp_updL (L k) i v := if_pos rfl
theorem zl_ne {L : Nat → Nat → Int64} {k i j : Nat} {v : Int64} (h : j ≠ k) : zl L k i v j = L j := if_neg h
theorem zH_set {g : zG} {u u' : zU} {s : State} {H H1 : Heap} {k : Nat} {e e' : zE} (hH : zH g u s H) (h5 : 5 ≤ k) (hk : u.1[k]? = some e) (hl : u'.1.length = u.1.length) (hk' : u'.1[k]? = some e') (ho : ∀ j, j ≠ k → u'.1[j]? = u.1[j]? ∧ u'.2.1 j = u.2.1 j ∧ u'.2.2 j = u.2.2 j)
    (he : va_at g.2.2.1 zcl (zr g k, zcell g e' (u'.2.1 k) (u'.2.2 k)) H1) (hz : H1.size = H.size) (oq : ∀ q : Nat, q ≠ zr g k → H1[q]? = H[q]?) : zH g u' s H1 := by
  obtain ⟨h1, h2, h3, h4⟩ := hH
  refine ⟨?_, fun hp => by rw [hz, hl]; exact h2 hp, by rw [hl]; exact h3, fun j x hj hx => ?_⟩
  · have := h1.set (zws_D g u) (zws_at h5 hk) he oq
    rwa [zws_set h5 hl hk' ho rfl] at this
  · obtain ⟨o1, o2, o3⟩ := ho j (by omega)
    rw [o1] at hx
    have := h4 j x hj hx
    rw [o2, o3]; exact this
theorem zAA_zr (g : zG) {k : Nat} (h5 : 5 ≤ k) : zAA g (zr g k) := by
  unfold zAA zr; rw [if_neg (by omega)]; exact Nat.le_add_right _ _
section OKB
variable {ty : List zY} {ph : Bool} {own : String} {cc : ByteArray} {nL : Nat} {ret : Option FieldType} {ini : Bool} {pc : Nat}
/-! arrays -/
def a_iald (nx : Nat) : zT := fun _ _ _ K ls st u => match st with
  | .int i :: .ref k :: r => ∃ (t n : Nat) (rs : List (Option Nat)), u.1[k]? = some (t, n, rs) ∧ ((t = 0 ∧ 5 ≤ k) ∨ (t = 4 ∧ k < 5)) ∧ vp_in i n ∧ K nx ls (.int (u.2.1 k i.toNatClampNeg) :: r) u
  | _ => False
theorem ok_iald (hd : decode cc pc = .ok (.iaload, 1)) : zSnd ty ph own cc nL ret ini (pc, a_iald (pc + 1)) := by
  intro p l e R s m args below meth c g n0 c0 d Q C lim post hC ls st u h a b H locs lsA hH hS hl
  simp only [a_iald] at h
  split at h
  · next i k r =>
    obtain ⟨t, n, rs, hk, hc, hin, hK⟩ := h
    rcases hc with ⟨rfl, h5⟩ | ⟨rfl, h5⟩
    · exact va_iald hC.1.1 hC.1.2.1 hC.1.2.2.2.2.2.1.1 hH.1 (k - 5) 0 (zws_at h5 hk) rfl hin hd (hK a b H locs lsA hH hS hl)
    · have hT := (hH.2.2.2 k _ h5 hk).1 rfl
      have := va_ti hC.1.1 hC.1.2.1 hT hS hin rfl hd (hK a b H locs lsA hH hS hl)
      simpa [zV, zr, h5] using this
  · exact h.elim
def a_lald (nx : Nat) : zT := fun _ _ _ K ls st u => match st with
  | .int i :: .ref k :: r => ∃ (t n : Nat) (rs : List (Option Nat)), u.1[k]? = some (t, n, rs) ∧ ((t = 1 ∧ 5 ≤ k) ∨ (t = 5 ∧ k < 5)) ∧ vp_in i n ∧ K nx ls (.long (u.2.2 k i.toNatClampNeg) :: r) u
  | _ => False
theorem ok_lald (hd : decode cc pc = .ok (.laload, 1)) : zSnd ty ph own cc nL ret ini (pc, a_lald (pc + 1)) := by
  intro p l e R s m args below meth c g n0 c0 d Q C lim post hC ls st u h a b H locs lsA hH hS hl
  simp only [a_lald] at h
  split at h
  · next i k r =>
    obtain ⟨t, n, rs, hk, hc, hin, hK⟩ := h
    rcases hc with ⟨rfl, h5⟩ | ⟨rfl, h5⟩
    · exact va_lald hC.1.1 hC.1.2.1 hC.1.2.2.2.2.2.1.1 hH.1 (k - 5) 1 (zws_at h5 hk) rfl hin hd (hK a b H locs lsA hH hS hl)
    · have hT := (hH.2.2.2 k _ h5 hk).2 rfl
      have := va_tl hC.1.1 hC.1.2.1 hT hS hin rfl hd (hK a b H locs lsA hH hS hl)
      simpa [zV, zr, h5] using this
  · exact h.elim
def a_iast (nx : Nat) : zT := fun _ _ _ K ls st u => match st with
  | .int x :: .int i :: .ref k :: r => ∃ (n : Nat) (rs : List (Option Nat)), u.1[k]? = some (0, n, rs) ∧ 5 ≤ k ∧ vp_in i n ∧ K nx ls r (u.1, zi u.2.1 k i.toNatClampNeg x, u.2.2)
  | _ => False
theorem ok_iast (hd : decode cc pc = .ok (.iastore, 1)) : zSnd ty ph own cc nL ret ini (pc, a_iast (pc + 1)) := by
  intro p l e R s m args below meth c g n0 c0 d Q C lim post hC ls st u h a b H locs lsA hH hS hl
  simp only [a_iast] at h
  split at h
  · next x i k r =>
    obtain ⟨n, rs, hk, h5, hin, hK⟩ := h
    have hat := hH.1 (k - 5) _ (zws_at h5 hk)
    refine W.iast hC.1.1 hC.1.2.1 hat ((hC.1.2.2.2.2.2.1.1.2 0 _ rfl).1 n (fun j => .int (u.2.1 k j))) (fun q => by cases q) (by show ¬ (i < 0 ∨ (arrV _ _ _).slots.size ≤ _); rw [arrV_size]; exact hin) rfl rfl hd fun H1 e1 z oq => ?_
    refine hK a b H1 _ lsA (zH_set hH h5 hk rfl hk (fun j hj => ⟨rfl, zi_ne hj, rfl⟩) ?_ z oq) (hS.put z oq (zAA_zr g h5)) hl
    show H1[zr g k]? = some (vp_cell _ _)
    rw [e1]
    show some (Cell.setSlot (vp_cell (g.2.2.2.1 0) (n, .inl (u.2.1 k))) i.toNatClampNeg (Value.int x)) = some (vp_cell (g.2.2.2.1 0) (n, .inl (zi u.2.1 k i.toNatClampNeg x k)))
    rw [zi_self, vp_cell_i, vp_cell_i, arrV_store]
    congr 2
    funext q
    by_cases hq : q = i.toNatClampNeg <;> simp [updV, upd, hq]
  · exact h.elim
def a_last (nx : Nat) : zT := fun _ _ _ K ls st u => match st with
  | .long x :: .int i :: .ref k :: r => ∃ (n : Nat) (rs : List (Option Nat)), u.1[k]? = some (1, n, rs) ∧ 5 ≤ k ∧ vp_in i n ∧ K nx ls r (u.1, u.2.1, zl u.2.2 k i.toNatClampNeg x)
  | _ => False
theorem ok_last (hd : decode cc pc = .ok (.lastore, 1)) : zSnd ty ph own cc nL ret ini (pc, a_last (pc + 1)) := by
  intro p l e R s m args below meth c g n0 c0 d Q C lim post hC ls st u h a b H locs lsA hH hS hl
  simp only [a_last] at h
  split at h
  · next x i k r =>
    obtain ⟨n, rs, hk, h5, hin, hK⟩ := h
    have hat := hH.1 (k - 5) _ (zws_at h5 hk)
    refine W.last hC.1.1 hC.1.2.1 hat ((hC.1.2.2.2.2.2.1.1.2 1 _ rfl).1 n (fun j => .long (u.2.2 k j))) (fun q => by cases q) (by show ¬ (i < 0 ∨ (arrV _ _ _).slots.size ≤ _); rw [arrV_size]; exact hin) rfl rfl hd fun H1 e1 z oq => ?_
    refine hK a b H1 _ lsA (zH_set hH h5 hk rfl hk (fun j hj => ⟨rfl, rfl, zl_ne hj⟩) ?_ z oq) (hS.put z oq (zAA_zr g h5)) hl
    show H1[zr g k]? = some (vp_cell _ _)
    rw [e1]
    show some (Cell.setSlot (vp_cell (g.2.2.2.1 1) (n, .inr (.inl (u.2.2 k)))) i.toNatClampNeg (Value.long x)) = some (vp_cell (g.2.2.2.1 1) (n, .inr (.inl (zl u.2.2 k i.toNatClampNeg x k))))
    rw [zl_self, vp_cell_l, vp_cell_l, arrV_store]
    congr 2
    funext q
    by_cases hq : q = i.toNatClampNeg <;> simp [updV, vp_updL, hq]
  · exact h.elim
def a_alen (nx : Nat) : zT := fun _ _ _ K ls st u => match st with
  | .ref k :: r => ∃ (t n : Nat) (rs : List (Option Nat)), u.1[k]? = some (t, n, rs) ∧ ((t = 0 ∧ 5 ≤ k) ∨ (t = 1 ∧ 5 ≤ k) ∨ (t = 4 ∧ k < 5)) ∧ K nx ls (.int (Int32.ofNat n) :: r) u
  | _ => False
theorem ok_alen (hd : decode cc pc = .ok (.arraylength, 1)) : zSnd ty ph own cc nL ret ini (pc, a_alen (pc + 1)) := by
  intro p l e R s m args below meth c g n0 c0 d Q C lim post hC ls st u h a b H locs lsA hH hS hl
  simp only [a_alen] at h
  split at h
  · next k r =>
    obtain ⟨t, n, rs, hk, hc, hK⟩ := h
    rcases hc with ⟨rfl, h5⟩ | ⟨rfl, h5⟩ | ⟨rfl, h5⟩
    · exact va_alen hC.1.1 hC.1.2.1 hC.1.2.2.2.2.2.1.1 hH.1 (k - 5) 0 (zws_at h5 hk) rfl rfl hd (hK a b H locs lsA hH hS hl)
    · exact va_alen hC.1.1 hC.1.2.1 hC.1.2.2.2.2.2.1.1 hH.1 (k - 5) 1 (zws_at h5 hk) rfl rfl hd (hK a b H locs lsA hH hS hl)
    · have hT := (hH.2.2.2 k _ h5 hk).1 rfl
      have := va_tlen hC.1.1 hC.1.2.1 hT hS rfl hd (hK a b H locs lsA hH hS hl)
      simpa [zV, zr, h5] using this
  · exact h.elim
def a_aald (nx : Nat) : zT := fun _ _ _ K ls st u => match st with
  | .int i :: .ref k :: r => ∃ (n t : Nat) (rs : List (Option Nat)), u.1[k]? = some (2, n, rs) ∧ 5 ≤ k ∧ n < 3 ∧ vp_in i rs.length ∧ rs[i.toNatClampNeg]? = some (some t) ∧ K nx ls (.ref t :: r) u
  | _ => False
theorem ztys_at (g : zG) {n : Nat} (h : n < 3) : (ztys g)[2 + n]? = some (g.2.2.2.1 (2 + n), .object (zcn n)) := by
  rcases (show n = 0 ∨ n = 1 ∨ n = 2 by omega) with rfl | rfl | rfl <;> rfl
theorem ok_aald (hd : decode cc pc = .ok (.aaload, 1)) : zSnd ty ph own cc nL ret ini (pc, a_aald (pc + 1)) := by
  intro p l e R s m args below meth c g n0 c0 d Q C lim post hC ls st u h a b H locs lsA hH hS hl
  simp only [a_aald] at h
  split at h
  · next i k r =>
    obtain ⟨n, t, rs, hk, h5, hn, hin, ht, hK⟩ := h
    have := va_aldq hC.1.1 hC.1.2.1 hC.1.2.2.2.2.2.1.1 hH.1 (k - 5) (2 + n) (zws_at h5 hk) (ztys_at g hn) hin hd (p := p) (l := l) (e := e) (R := R) (m := m) (below := below) (meth := meth) (locs := locs) (cells := u.1.length - n0) (slots := zcost u.1 - c0) (Q := Q) (ls := lsA) (rest := r.map (zV g)) (args := args) (s := s) (c := c)
    refine this ?_
    have e1 : (rs.getD i.toNatClampNeg none).map (zr g) = some (zr g t) := by rw [List.getD_eq_getElem?_getD, ht]; rfl
    show W _ _ _ _ _ _ _ _ _ _ _ _ _ _ _ (F0 m (pc + 1) lsA (va_rf ((rs.getD i.toNatClampNeg none).map (zr g)) :: r.map (zV g)))
    rw [e1]
    exact hK a b H locs lsA hH hS hl
  · exact h.elim
/-! fields -/
theorem zB_at {ci j : Nat} {b : Bool} (hb : (zB ci)[j]? = some b) (g : zG) (rs : List (Option Nat)) (f : Nat → Int32) : ((zB ci).mapIdx (fun j b => if b = true then Value.int (f j) else va_rf ((rs.getD j none).map (zr g))))[j]? = some (if b = true then Value.int (f j) else va_rf ((rs.getD j none).map (zr g))) := by
  rw [List.getElem?_mapIdx, hb]; rfl
def a_getI (ci j nx : Nat) : zT := fun _ _ _ K ls st u => match st with
  | .ref k :: r => ∃ rs : List (Option Nat), u.1[k]? = some (3, ci, rs) ∧ 5 ≤ k ∧ K nx ls (.int (u.2.1 k j) :: r) u
  | _ => False
theorem ok_getI {ci j idx N : Nat} {C : String} {T : u_T} (hd : decode cc pc = .ok (.getfield idx, 3)) (hc : zcl[ci]? = some (C, T, N)) (hin : ∀ w ∈ u_ws C T N, w ∈ zgw) (hj : j < N) (hb : (zB ci)[j]? = some true) (hlk : Cond.fieldLink own idx (T j).1 (T j).2.1 (T j).2.2.1 ∈ zgw) : zSnd ty ph own cc nL ret ini (pc, a_getI ci j (pc + 3)) := by
  intro p l e R s m args below meth c g n0 c0 d Q C' lim post hC ls st u h a b H locs lsA hH hS hl
  simp only [a_getI] at h
  split at h
  · next k r =>
    obtain ⟨rs, hk, h5, hK⟩ := h
    exact va_get hC.1.1 hC.1.2.1 hC.1.2.2.2.2.1 hin hC.1.2.2.2.1 hC.1.2.2.2.2.2.1.1 hH.1 (k - 5) (zws_at h5 hk) hc j hj (hC.1.2.2.2.2.1 _ hlk) (fun _ h9 => h9) (zB_at hb g rs (u.2.1 k)) hd (hK a b H locs lsA hH hS hl)
  · exact h.elim
def a_getR (ci j nx : Nat) : zT := fun _ _ _ K ls st u => match st with
  | .ref k :: r => ∃ (rs : List (Option Nat)) (t : Nat), u.1[k]? = some (3, ci, rs) ∧ 5 ≤ k ∧ rs[j]? = some (some t) ∧ K nx ls (.ref t :: r) u
  | _ => False
theorem ok_getR {ci j idx N : Nat} {C : String} {T : u_T} (hd : decode cc pc = .ok (.getfield idx, 3)) (hc : zcl[ci]? = some (C, T, N)) (hin : ∀ w ∈ u_ws C T N, w ∈ zgw) (hj : j < N) (hb : (zB ci)[j]? = some false) (hlk : Cond.fieldLink own idx (T j).1 (T j).2.1 (T j).2.2.1 ∈ zgw) : zSnd ty ph own cc nL ret ini (pc, a_getR ci j (pc + 3)) := by
  intro p l e R s m args below meth c g n0 c0 d Q C' lim post hC ls st u h a b H locs lsA hH hS hl
  simp only [a_getR] at h
  split at h
  · next k r =>
    obtain ⟨rs, t, hk, h5, ht, hK⟩ := h
    have e1 : (rs.getD j none).map (zr g) = some (zr g t) := by rw [List.getD_eq_getElem?_getD, ht]; rfl
    have e2 := zB_at hb g rs (u.2.1 k)
    rw [if_neg (by decide), e1] at e2
    exact va_get hC.1.1 hC.1.2.1 hC.1.2.2.2.2.1 hin hC.1.2.2.2.1 hC.1.2.2.2.2.2.1.1 hH.1 (k - 5) (zws_at h5 hk) hc j hj (hC.1.2.2.2.2.1 _ hlk) (fun _ h9 => h9) e2 hd (hK a b H locs lsA hH hS hl)
  · exact h.elim
end OKB
