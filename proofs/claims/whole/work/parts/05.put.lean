abbrev zfs (g : zG) (ci : Nat) (rs : List (Option Nat)) (f : Nat → Int32) : List Value := (zB ci).mapIdx (fun j b => if b = true then Value.int (f j) else va_rf ((rs.getD j none).map (zr g)))
theorem zfs_int {g : zG} {ci j : Nat} {rs : List (Option Nat)} {f : Nat → Int32} (hb : (zB ci)[j]? = some true) (v : Int32) : (zfs g ci rs f).set j (.int v) = zfs g ci rs (upd f j v) := by
  refine List.ext_getElem? (fun i => ?_)
  rw [List.getElem?_set]
  by_cases h : j = i
  · subst h
    have hl : j < (zfs g ci rs f).length := by rw [List.length_mapIdx]; exact (List.getElem?_eq_some_iff.mp hb).1
    rw [if_pos rfl, if_pos hl, zB_at hb]
    simp [upd]
  · rw [if_neg h]
    simp only [List.getElem?_mapIdx]
    cases (zB ci)[i]? with
    | none => rfl
    | some b =>
      have h2 : ¬ i = j := fun z => h z.symm
      simp [upd, h2]
theorem zfs_ref {g : zG} {ci j : Nat} {rs : List (Option Nat)} {f : Nat → Int32} (hb : (zB ci)[j]? = some false) (hj : j < rs.length) (t : Nat) : (zfs g ci rs f).set j (.ref (zr g t)) = zfs g ci (rs.set j (some t)) f := by
  refine List.ext_getElem? (fun i => ?_)
  rw [List.getElem?_set]
  by_cases h : j = i
  · subst h
    have hl : j < (zfs g ci rs f).length := by rw [List.length_mapIdx]; exact (List.getElem?_eq_some_iff.mp hb).1
    rw [if_pos rfl, if_pos hl, zB_at hb]
    simp [hj, va_rf]
  · rw [if_neg h]
    simp only [List.getElem?_mapIdx]
    cases (zB ci)[i]? with
    | none => rfl
    | some b => simp [h]
section OKC
variable {ty : List zY} {ph : Bool} {own : String} {cc : ByteArray} {nL : Nat} {ret : Option FieldType} {ini : Bool} {pc : Nat}
def a_putI (ci j nx : Nat) (bz : Bool) : zT := fun _ _ _ K ls st u => match st with
  | .int v :: .ref k :: r => ∃ rs : List (Option Nat), u.1[k]? = some (3, ci, rs) ∧ 5 ≤ k ∧ (bz = true → v = 0 ∨ v = 1) ∧ K nx ls r (u.1, zi u.2.1 k j v, u.2.2)
  | _ => False
theorem znar {bz : Bool} {v : Int32} (h : bz = true → v = 0 ∨ v = 1) : narrow (if bz = true then FieldType.boolean else .int) (.int v) = .int v ∧ fits (if bz = true then FieldType.boolean else .int) (.int v) = true := by
  cases bz with
  | false => exact ⟨rfl, rfl⟩
  | true => rcases h rfl with rfl | rfl <;> exact ⟨by decide, by decide⟩
theorem ok_putI {ci j idx N : Nat} {C : String} {T : u_T} {bz : Bool} (hd : decode cc pc = .ok (.putfield idx, 3)) (hc : zcl[ci]? = some (C, T, N)) (hin : ∀ w ∈ u_ws C T N, w ∈ zgw) (ty0 : Nat → FieldType) (hty : ∀ k, k < N → parseFieldDescriptor (T k).2.2.1 = some (ty0 k)) (hnm : ∀ a, a < N → ∀ b, b < N → a ≠ b → (T a).2.1 ≠ (T b).2.1) (hj : j < N) (hb : (zB ci)[j]? = some true) (hlk : Cond.fieldLink own idx (T j).1 (T j).2.1 (T j).2.2.1 ∈ zgw) (hfin : (T j).2.2.2 = false) (ht : ty0 j = if bz = true then .boolean else .int) : zSnd ty ph own cc nL ret ini (pc, a_putI ci j (pc + 3) bz) := by
  intro p l e R s m args below meth c g n0 c0 d Q C' lim post hC ls st u h a b H locs lsA hH hS hl
  simp only [a_putI] at h
  split at h
  · next v k r =>
    obtain ⟨rs, hk, h5, hz, hK⟩ := h
    have hts := hC.1.2.2.2.2.1
    have hKK := hC.1.2.2.2.2.2.1.1
    have hap := va_apart (own := own) hts hin ty0 hty hnm hKK hc
    obtain ⟨r', h1, cell, q1, q2, q3, q4⟩ := hH.1 (k - 5) _ (zws_at h5 hk)
    have hr : r' = (C, T, N) := Option.some.inj (h1.symm.trans hc)
    subst hr
    obtain ⟨hSl, hfc, kC, hkC, hkind⟩ := hKK.1 ci _ hc
    obtain ⟨cf, kf, fi, f, hi, hsl⟩ := hSl j hj
    have hlay := hts _ (hin _ (u_in_lay hj))
    unfold u_lay at hlay
    rw [if_neg (by rw [hfin]; decide)] at hlay
    have hst := (u_facts hfc hkC (u_lays hts hin hj) hi).1
    have h6 := u_store hfc hkC hkind hlay hi ((hty j hj).trans (by rw [ht])) (znar hz).1 (znar hz).2
    refine W.putK hC.1.1 hC.1.2.1 (f := f) ⟨hC.1.2.2.2.1, hts _ hlk, ⟨_, _, _, hi⟩, hst⟩ (by rw [q2]; exact h6) q1 q3 (by rw [hsl]; exact k2_hasslot (q4 j hj)) rfl rfl hd fun H' e1 e2 e3 => ?_
    rw [hsl] at e1 ⊢
    refine hK a b H' _ lsA (zH_set hH h5 hk rfl hk (fun i hi => ⟨rfl, zi_ne hi, rfl⟩) ?_ e2 e3) (hS.put e2 e3 (zAA_zr g h5)) hl
    show ∃ r : vw_C, zcl[ci]? = some r ∧ t_OB (zr g k) (g.2.2.1.1 ci) r.2.2 (g.2.2.1.2 ci) H' (vp_V (zfs g ci rs (zi u.2.1 k j v k)))
    rw [zi_self, ← zfs_int hb]
    exact ⟨_, hc, t_OB.to (V := updV (vp_V (zfs g ci rs (u.2.1 k))) j (.int v)) ⟨_, e1, q2, q3, t_set q4 hap hj (.int v)⟩ (fun i _ => vp_updV_set (by rw [List.length_mapIdx]; exact (List.getElem?_eq_some_iff.mp hb).1) (.int v) i)⟩
  · exact h.elim
def a_putR (ci j nx : Nat) : zT := fun _ _ _ K ls st u => match st with
  | .ref t :: .ref k :: r => ∃ rs : List (Option Nat), u.1[k]? = some (3, ci, rs) ∧ 5 ≤ k ∧ j < rs.length ∧ K nx ls r (u.1.set k (3, ci, rs.set j (some t)), u.2)
  | _ => False
theorem ok_putR {ci j idx N : Nat} {C : String} {T : u_T} (hd : decode cc pc = .ok (.putfield idx, 3)) (hini : ini = true) (hc : zcl[ci]? = some (C, T, N)) (hin : ∀ w ∈ u_ws C T N, w ∈ zgw) (ty0 : Nat → FieldType) (hty : ∀ k, k < N → parseFieldDescriptor (T k).2.2.1 = some (ty0 k)) (hnm : ∀ a, a < N → ∀ b, b < N → a ≠ b → (T a).2.1 ≠ (T b).2.1) (hj : j < N) (hb : (zB ci)[j]? = some false) (hlk : Cond.fieldLink own idx (T j).1 (T j).2.1 (T j).2.2.1 ∈ zgw) (hfin : (T j).2.2.2 = true) (hdecl : (T j).1 = own) (hnf : ∀ x : Nat, narrow (ty0 j) (.ref x) = .ref x ∧ fits (ty0 j) (.ref x) = true) : zSnd ty ph own cc nL ret ini (pc, a_putR ci j (pc + 3)) := by
  intro p l e R s m args below meth c g n0 c0 d Q C' lim post hC ls st u h a b H locs lsA hH hS hl
  simp only [a_putR] at h
  split at h
  · next t k r =>
    obtain ⟨rs, hk, h5, hjl, hK⟩ := h
    have hts := hC.1.2.2.2.2.1
    have hKK := hC.1.2.2.2.2.2.1.1
    have hap := va_apart (own := own) hts hin ty0 hty hnm hKK hc
    obtain ⟨r', h1, cell, q1, q2, q3, q4⟩ := hH.1 (k - 5) _ (zws_at h5 hk)
    have hr : r' = (C, T, N) := Option.some.inj (h1.symm.trans hc)
    subst hr
    obtain ⟨hSl, hfc, kC, hkC, hkind⟩ := hKK.1 ci _ hc
    obtain ⟨cf, kf, fi, f, hi, hsl⟩ := hSl j hj
    have hlay := hts _ (hin _ (u_in_lay hj))
    unfold u_lay at hlay
    rw [if_pos hfin] at hlay
    have hst := (u_facts hfc hkC (u_lays hts hin hj) hi).1
    have hcf : m.cls = cf := by
      obtain ⟨_, _, c', _, _, _, -, -, hf', -, -, -, hown2, -⟩ := Cond.laysFinal_spec hlay
      have e1 : c' = cf := by have := hi.symm.trans hf'; simp at this; exact this.1.symm
      rw [hdecl] at hown2
      rw [← e1]; exact Option.some.inj (hC.1.2.2.2.1.symm.trans hown2)
    have h6 := u_fits hfc hkC hkind (Or.inr hlay) hi (hty j hj) (hnf (zr g t)).1 (hnf (zr g t)).2
    refine W.putFinK hC.1.1 hC.1.2.1 hC.1.2.2.2.1 (hts _ hlk) hi hst hcf (hC.1.2.2.2.2.2.2.1 hini) (by rw [q2]; exact h6) q1 q3 (by rw [hsl]; exact k2_hasslot (q4 j hj)) rfl rfl hd fun H' e1 e2 e3 => ?_
    rw [hsl] at e1 ⊢
    have hkl : k < u.1.length := (List.getElem?_eq_some_iff.mp hk).1
    have hle : (u.1.set k (3, ci, rs.set j (some t))).length = u.1.length := List.length_set
    have hco : zcost (u.1.set k (3, ci, rs.set j (some t))) = zcost u.1 := by
      have hm : ∀ (L : List zE) (i : Nat) (x y : zE), L[i]? = some x → zsz y = zsz x → ((L.set i y).map zsz) = L.map zsz := by
        intro L i x y hx hy
        rw [List.map_set]
        refine List.ext_getElem? (fun n => ?_)
        rw [List.getElem?_set]
        by_cases hn : i = n
        · subst hn
          have hil : i < L.length := (List.getElem?_eq_some_iff.mp hx).1
          rw [if_pos rfl, if_pos (by simpa using hil), List.getElem?_map, hx, hy]; rfl
        · rw [if_neg hn]
      unfold zcost
      rw [hm u.1 k (3, ci, rs) (3, ci, rs.set j (some t)) hk rfl]
    have hK2 := hK (by rw [hle]; exact a) (by rw [hco]; exact b) H' (locs ++ [⟨zr g k, (g.2.2.1.2 ci) j⟩]) lsA (zH_set hH h5 hk hle (List.getElem?_set_self hkl) (fun i hi => ⟨List.getElem?_set_ne (fun z => hi z.symm), rfl, rfl⟩) ?_ e2 e3) (hS.put e2 e3 (zAA_zr g h5)) hl
    · rw [hle, hco] at hK2
      exact hK2
    show ∃ r : vw_C, zcl[ci]? = some r ∧ t_OB (zr g k) (g.2.2.1.1 ci) r.2.2 (g.2.2.1.2 ci) H' (vp_V (zfs g ci (rs.set j (some t)) (u.2.1 k)))
    rw [← zfs_ref hb hjl]
    exact ⟨_, hc, t_OB.to (V := updV (vp_V (zfs g ci rs (u.2.1 k))) j (.ref (zr g t))) ⟨_, e1, q2, q3, t_set q4 hap hj (.ref (zr g t))⟩ (fun i _ => vp_updV_set (by rw [List.length_mapIdx]; exact (List.getElem?_eq_some_iff.mp hb).1) (.ref (zr g t)) i)⟩
  · exact h.elim
def a_gets (j nx : Nat) : zT := fun _ _ _ K ls st u => K nx ls (.ref (j + 1) :: st) u
theorem ok_gets {j idx : Nat} {q : String × String × String} (hd : decode cc pc = .ok (.getstatic idx, 3)) (hq : zst[j]? = some q) (hlk : Cond.fieldLink own idx q.1 q.2.1 q.2.2 ∈ zgw) : zSnd ty ph own cc nL ret ini (pc, a_gets j (pc + 3)) := by
  intro p l e R s m args below meth c g n0 c0 d Q C' lim post hC ls st u h a b H locs lsA hH hS hl
  have hj : j + 1 < 5 := by have := (List.getElem?_eq_some_iff.mp hq).1; simp [zst] at this; omega
  refine va_gets hC.1.1 hC.1.2.1 (hC.1.2.2.2.2.2.1.2.2.1 j q hq) hS hC.1.2.2.2.1 (hC.1.2.2.2.2.1 _ hlk) (fun _ h9 => h9) hd ?_
  have h2 := h a b H locs lsA hH hS hl
  have e1 : zV g (.ref (j + 1)) = .ref (g.2.1 (j + 1)) := by simp [zV, zr, hj]
  rw [List.map_cons, e1] at h2
  exact h2
/-- Object's constructor -/
def a_obj (nx : Nat) : zT := fun _ _ _ K ls st u => match st with
  | .ref _ :: r => (r.map fun v => v.category).sum ≤ 8 ∧ K nx ls r u
  | _ => False
theorem zcats (g : zG) (r : List Value) : ((r.map (zV g)).map fun v => v.category).sum = (r.map fun v => v.category).sum := by
  rw [List.map_map]; congr 2; funext v; exact zV_cat g v
theorem ok_obj {idx : Nat} (hd : decode cc pc = .ok (.invokespecial idx, 3)) (h1 : Cond.methodLink own idx objectInit ∈ zgw) (h2 : Cond.instanceMethod objectInit ∈ zgw) (h3 : Cond.code objectInit ⟨#[0xb1]⟩ 1 none ∈ zgw) : zSnd ty ph own cc nL ret ini (pc, a_obj (pc + 3)) := by
  intro p l e R s m args below meth c g n0 c0 d Q C' lim post hC ls st u h a b H locs lsA hH hS hl
  simp only [a_obj] at h
  split at h
  · next k r =>
    have hts := hC.1.2.2.2.2.1
    refine W.objInit hC.1.1 hC.1.2.1 hC.1.2.2.2.1 (hts _ h1) (hts _ h2) (hts _ h3) rfl (by rw [hC.1.2.2.1]; exact hl.1) rfl hd (by have := hC.2.1.1; omega) ?_ (h.2 a b H locs lsA hH hS hl)
    have e1 := zcats g r
    have := hC.2.1.2.1
    show 2 * 0 + _ + 12 ≤ _
    omega
  · exact h.elim
def a_copy (nx : Nat) : zT := fun _ _ _ K ls st u => match st with
  | .int n :: .int dp :: .ref k :: .int sp :: .ref k0 :: r => ∃ (n0 n1 : Nat) (r0 r1 : List (Option Nat)), u.1[k0]? = some (0, n0, r0) ∧ 5 ≤ k0 ∧ u.1[k]? = some (0, n1, r1) ∧ 5 ≤ k ∧ ¬ sp < 0 ∧ ¬ dp < 0 ∧ ¬ n < 0 ∧ sp.toNatClampNeg + n.toNatClampNeg ≤ n0 ∧ dp.toNatClampNeg + n.toNatClampNeg ≤ n1 ∧ (r.map fun v => v.category).sum ≤ 8 ∧
      K nx ls r (u.1, (fun j => if j = k then va_cpy (u.2.1 k0) (u.2.1 k) sp.toNatClampNeg dp.toNatClampNeg n.toNatClampNeg else u.2.1 j), u.2.2)
  | _ => False
theorem ok_copy {idx : Nat} (hd : decode cc pc = .ok (.invokestatic idx, 3)) (hph : ph = false) (h1 : Cond.methodLink own idx arraycopyName ∈ zgw) (h2 : Cond.native arraycopyName ∈ zgw) (h3 : Cond.static arraycopyName ∈ zgw) (h4 : Cond.initialized "java/lang/System" ∈ zgw) (hw : nativeFrameWords "java/lang/System" "arraycopy" 5 ≤ 40) : zSnd ty ph own cc nL ret ini (pc, a_copy (pc + 3)) := by
  intro p l e R s m args below meth c g n0 c0 d Q C' lim post hC ls st u h a b H locs lsA hH hS hl
  simp only [a_copy] at h
  split at h
  · next n dp k sp k0 r =>
    obtain ⟨m0, m1, r0, r1, hk0, h50, hk, h5, g1, g2, g3, g4, g5, hct, hK⟩ := h
    have hts := hC.1.2.2.2.2.1
    refine va_copyi hC.1.1 hC.1.2.1 (by rw [hC.1.2.2.1]; exact hl.1.symm) hC.1.2.2.2.1 (hts _ h1) (hts _ h2) (hts _ h3) (hts _ h4) hC.1.2.2.2.2.2.1.1 hH.1 (zws_D g u) hS (k0 - 5) (k - 5) 0 0 (zws_at h50 hk0) (zws_at h5 hk) rfl rfl rfl g1 g2 g3 g4 g5 (fun i _ => rfl) (by have := hC.2.1.1; omega) (by have := hC.2.1.2.1; rw [zcats]; omega) hd (fun H1 locs1 hP1 _ hS1 => ?_)
    refine hK a b H1 locs1 lsA ⟨?_, fun hp => ?_, hH.2.2.1, fun j x hj hx => ?_⟩ hS1 hl
    · rwa [zws_set (u := u) (u' := (u.1, (fun j => if j = k then va_cpy (u.2.1 k0) (u.2.1 k) sp.toNatClampNeg dp.toNatClampNeg n.toNatClampNeg else u.2.1 j), u.2.2)) h5 rfl hk (fun j hj => ⟨rfl, if_neg hj, rfl⟩) (by show (_, Sum.inl (_, _, Sum.inl _)) = (_, Sum.inl (_, _, Sum.inl (if k = k then _ else _))); rw [if_pos rfl])] at hP1
    · rw [hC.1.2.2.2.2.2.2.2, hph] at hp; cases hp
    · have := hH.2.2.2 j x hj hx
      have hjk : j ≠ k := fun z => absurd h5 (Nat.not_le.mpr (z ▸ hj))
      simpa [hjk] using this
  · exact h.elim
end OKC
