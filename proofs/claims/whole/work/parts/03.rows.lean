/-! the worlds move along -/
theorem zS_moved {g : zG} {s t : State} (h : zS g s) (hW : s.WarmedH t.vm) (hz : s.heap.size ≤ t.heap.size) (hk : ∀ q : Nat, q < s.heap.size → ¬ zAA g q → t.heap[q]? = s.heap[q]?) : zS g t :=
  ⟨h.1.moved hW.alike, Nat.le_trans h.2.1 hz, fun j q hq => ((h.2.2.1 j q hq).moved hW.alike).kept hk, fun w hw => zNw_warm hW hw (h.2.2.2.1 w hw), fun n hn => (h.2.2.2.2 n hn).moved hW.alike⟩
theorem zRo_moved {g : zG} {u : zU} {s t : State} {H H1 : Heap} (h : zRo g u s H) (hvm : s.vm.Alike t.vm) (hk : ∀ q : Nat, q < H.size → ¬ zAA g q → H1[q]? = H[q]?) : zRo g u t H1 :=
  fun k e h5 he => ⟨fun h4 => (((h k e h5 he).1 h4).moved hvm).kept hk, fun h4 => (((h k e h5 he).2 h4).moved hvm).kept hk⟩
theorem zOK_moved {g : zG} {u : zU} {U U' : State} (h : zOK g u U) (hh : U'.heap = U.heap) (he : U.vm = U'.vm) : zOK g u U' := by
  obtain ⟨⟨h1, h2, h3, h4⟩, h5⟩ := h
  have hvm : U.vm.Alike U'.vm := by rw [← he]; exact Vm.Alike.refl _
  refine ⟨⟨by rw [hh]; exact h1, by rw [hh]; exact h2, h3, zRo_moved h4 hvm (fun q _ _ => by rw [hh])⟩, h5.1.moved hvm, by rw [hh]; exact h5.2.1, fun j q hq => ((h5.2.2.1 j q hq).moved hvm).kept (fun q _ _ => by rw [hh]), fun w hw => zNw_same he hw (h5.2.2.2.1 w hw), fun n hn => (h5.2.2.2.2 n hn).moved hvm⟩
/-- a callee's start out of the caller's world -/
theorem zOK_of {g : zG} {u : zU} {s U : State} {H : Heap} {locs : List Loc} (h : zH g u s H) (hs : zS g s) (hS : va_S (zAA g) s.heap H locs) (hU : U.heap = H) (hW : s.WarmedH U.vm) : zOK g u U := by
  obtain ⟨h1, h2, h3, h4⟩ := h
  have hk : ∀ q : Nat, q < s.heap.size → ¬ zAA g q → U.heap[q]? = s.heap[q]? := fun q a b => by rw [hU]; exact hS.2.1 q a b
  exact ⟨⟨by rw [hU]; exact h1, by rw [hU]; exact h2, h3, zRo_moved h4 hW.alike hk⟩, zS_moved hs hW (by rw [hU]; exact hS.1) hk⟩
/-- the caller's world out of a callee's end -/
theorem zH_back {g : zG} {u : zU} {s t : State} {H1 : Heap} {locs : List Loc} (h : zOK g u t) (hs : zS g s) (hS : va_S (zAA g) s.heap H1 locs) (ht : t.heap = H1) (hvm : s.vm.Alike t.vm) : zH g u s H1 := by
  obtain ⟨⟨h1, h2, h3, h4⟩, h5⟩ := h
  refine ⟨by rw [← ht]; exact h1, by rw [← ht]; exact h2, h3, zRo_moved h4 hvm.symm (fun q _ b => ?_)⟩
  rw [ht]
  refine (hS.2.1 q ?_ b).symm
  exact Nat.lt_of_lt_of_le (Nat.not_le.mp b) hs.2.1
def zX (p : Program) (l : Launch) (e : Env) (R : Room) (s : State) (m : MethodId) (args : Array Value) (below : List Frame) (meth : Method) (c : Code) (g : zG) (nL n0 c0 : Nat) (Q : State → Prop) : zK := fun pc ls st u =>
  n0 ≤ u.1.length → c0 ≤ zcost u.1 → ∀ (H : Heap) (locs : List Loc) (lsA : Array Slot), zH g u s H → va_S (zAA g) s.heap H locs → lv_has lsA nL (zlv g ls) →
    W p l e R s m args below meth c H locs (u.1.length - n0) (zcost u.1 - c0) Q (F0 m pc lsA (st.map (zV g)))
abbrev zRm (d mc ms : Nat) : Room := { frames := d, cells := mc, slots := ms, locals := 60 * d }
abbrev zY : Type := MethodName × ByteArray × Nat × Option FieldType
def zMet (l : Launch) (g : zG) (d : Nat) (y : zY) (av : List Value) (u : zU) (mc ms : Nat) (post : zP) : Prop :=
  Met l y.1 (Cond.code y.1 y.2.1 y.2.2.1 y.2.2.2 :: zgw) (zRm d mc ms) (va_Pc (av.map (zV g)) (zOK g u)) (zQ g post) mc ms (zAA g)
def zCx (ty : List zY) (ph : Bool) (own : String) (cc : ByteArray) (nL : Nat) (ret : Option FieldType) (ini : Bool) (p : Program) (l : Launch) (e : Env) (R : Room) (s : State) (m : MethodId) (args : Array Value) (below : List Frame) (meth : Method) (c : Code) (g : zG) (n0 c0 d : Nat) (Q : State → Prop) (C : zC) (lim : Nat × Nat) (post : zP) : Prop :=
  (p.tables.exec = Jvm.exec ∧ c.code = cc ∧ c.maxLocals = nL ∧ s.vm.findClass own = some m.cls ∧ (∀ w ∈ zgw, w.before args s = true) ∧ zS g s ∧ (ini = true → meth.name = "<init>") ∧ g.2.2.2.2 = ph) ∧
  (d + 1 ≤ R.frames ∧ 60 * d + 60 ≤ R.locals ∧ (∀ x, x ≤ lim.1 → x - n0 ≤ R.cells) ∧ (∀ x, x ≤ lim.2 → x - c0 ≤ R.slots)) ∧
  (∀ (k : Nat) (av : List Value) (u : zU) (mc ms : Nat) (post' : zP), C k av u mc ms post' → ∃ y, ty[k]? = some y ∧ zMet l g d y av u mc ms post') ∧
  ((∀ (pc : Nat) (bz : Bool) (lsA : Array Slot) (v : Int32) (u : zU) (H : Heap) (locs : List Loc), decode cc pc = .ok (.ireturn, 1) → ret = some (if bz = true then .boolean else .int) → (bz = true → v = 0 ∨ v = 1) → zH g u s H → va_S (zAA g) s.heap H locs → post (some (.int v)) u → u.1.length = lim.1 → zcost u.1 = lim.2 → W p l e R s m args below meth c H locs (u.1.length - n0) (zcost u.1 - c0) Q (F0 m pc lsA [.int v])) ∧
   (∀ (pc : Nat) (lsA : Array Slot) (v : Int64) (u : zU) (H : Heap) (locs : List Loc), decode cc pc = .ok (.lreturn, 1) → ret = some .long → zH g u s H → va_S (zAA g) s.heap H locs → post (some (.long v)) u → u.1.length = lim.1 → zcost u.1 = lim.2 → W p l e R s m args below meth c H locs (u.1.length - n0) (zcost u.1 - c0) Q (F0 m pc lsA [.long v])) ∧
   (∀ (pc : Nat) (lsA : Array Slot) (u : zU) (H : Heap) (locs : List Loc), decode cc pc = .ok (.return_, 1) → ret = none → zH g u s H → va_S (zAA g) s.heap H locs → post none u → u.1.length = lim.1 → zcost u.1 = lim.2 → W p l e R s m args below meth c H locs (u.1.length - n0) (zcost u.1 - c0) Q (F0 m pc lsA [])))
/-- an instruction of the pure machine is what the machine does there -/
def zSnd (ty : List zY) (ph : Bool) (own : String) (cc : ByteArray) (nL : Nat) (ret : Option FieldType) (ini : Bool) (q : Nat × zT) : Prop :=
  ∀ (p : Program) (l : Launch) (e : Env) (R : Room) (s : State) (m : MethodId) (args : Array Value) (below : List Frame) (meth : Method) (c : Code) (g : zG) (n0 c0 d : Nat) (Q : State → Prop) (C : zC) (lim : Nat × Nat) (post : zP),
    zCx ty ph own cc nL ret ini p l e R s m args below meth c g n0 c0 d Q C lim post → ∀ (ls : zL) (st : List Value) (u : zU), q.2 C lim post (zX p l e R s m args below meth c g nL n0 c0 Q) ls st u → zX p l e R s m args below meth c g nL n0 c0 Q q.1 ls st u
section OKA
variable {ty : List zY} {ph : Bool} {own : String} {cc : ByteArray} {nL : Nat} {ret : Option FieldType} {ini : Bool} {pc : Nat}
/-! constants, locals, the stack -/
def a_i (v : Int32) (nx : Nat) : zT := fun _ _ _ K ls st u => K nx ls (.int v :: st) u
def a_l (v : Int64) (nx : Nat) : zT := fun _ _ _ K ls st u => K nx ls (.long v :: st) u
theorem ok_iconst {n : Int} {v : Int32} (hd : decode cc pc = .ok (.iconst n, 1)) (hv : Int32.ofInt n = v) : zSnd ty ph own cc nL ret ini (pc, a_i v (pc + 1)) := by
  intro p l e R s m args below meth c g n0 c0 d Q C lim post hC ls st u h a b H locs lsA hH hS hl
  exact lv_iconst hC.1.1 hC.1.2.1 hd hv (h a b H locs lsA hH hS hl)
theorem ok_bipush {n : Int} {v : Int32} (hd : decode cc pc = .ok (.bipush n, 2)) (hv : (Int8.ofInt n).toInt32 = v) : zSnd ty ph own cc nL ret ini (pc, a_i v (pc + 2)) := by
  intro p l e R s m args below meth c g n0 c0 d Q C lim post hC ls st u h a b H locs lsA hH hS hl
  exact lv_bipush hC.1.1 hC.1.2.1 hd hv (h a b H locs lsA hH hS hl)
theorem ok_sipush {n : Int} {v : Int32} (hd : decode cc pc = .ok (.sipush n, 3)) (hv : (Int16.ofInt n).toInt32 = v) : zSnd ty ph own cc nL ret ini (pc, a_i v (pc + 3)) := by
  intro p l e R s m args below meth c g n0 c0 d Q C lim post hC ls st u h a b H locs lsA hH hS hl
  exact lv_sipush hC.1.1 hC.1.2.1 hd hv (h a b H locs lsA hH hS hl)
theorem ok_ldc {n : Nat} {v : Int32} (hd : decode cc pc = .ok (.ldc n, 2)) (hw : Cond.constant own n v ∈ zgw) : zSnd ty ph own cc nL ret ini (pc, a_i v (pc + 2)) := by
  intro p l e R s m args below meth c g n0 c0 d Q C lim post hC ls st u h a b H locs lsA hH hS hl
  exact lv_ldc hC.1.1 hC.1.2.1 hC.1.2.2.2.1 (hC.1.2.2.2.2.1 _ hw) hd (h a b H locs lsA hH hS hl)
theorem ok_ldcw {n : Nat} {v : Int32} (hd : decode cc pc = .ok (.ldc_w n, 3)) (hw : Cond.constant own n v ∈ zgw) : zSnd ty ph own cc nL ret ini (pc, a_i v (pc + 3)) := by
  intro p l e R s m args below meth c g n0 c0 d Q C lim post hC ls st u h a b H locs lsA hH hS hl
  exact lv_ldcw hC.1.1 hC.1.2.1 hC.1.2.2.2.1 (hC.1.2.2.2.2.1 _ hw) hd (h a b H locs lsA hH hS hl)
theorem ok_lconst {n : Fin 2} {v : Int64} (hd : decode cc pc = .ok (.lconst n, 1)) (hv : Int64.ofNat (n : Nat) = v) : zSnd ty ph own cc nL ret ini (pc, a_l v (pc + 1)) := by
  intro p l e R s m args below meth c g n0 c0 d Q C lim post hC ls st u h a b H locs lsA hH hS hl
  exact lv_lconst hC.1.1 hC.1.2.1 hd hv (h a b H locs lsA hH hS hl)
theorem ok_ldc2 {n : Nat} {v : Int64} (hd : decode cc pc = .ok (.ldc2_w n, 3)) (hw : Cond.constantLong own n v ∈ zgw) : zSnd ty ph own cc nL ret ini (pc, a_l v (pc + 3)) := by
  intro p l e R s m args below meth c g n0 c0 d Q C lim post hC ls st u h a b H locs lsA hH hS hl
  exact lv_ldc2 hC.1.1 hC.1.2.1 hC.1.2.2.2.1 (hC.1.2.2.2.2.1 _ hw) hd (h a b H locs lsA hH hS hl)
def a_iload (i nx : Nat) : zT := fun _ _ _ K ls st u => match ls[i]? with
  | some (some (.int x)) => K nx ls (.int x :: st) u
  | _ => False
def a_lload (i nx : Nat) : zT := fun _ _ _ K ls st u => match ls[i]? with
  | some (some (.long x)) => K nx ls (.long x :: st) u
  | _ => False
def a_aload (i nx : Nat) : zT := fun _ _ _ K ls st u => match ls[i]? with
  | some (some (.ref x)) => K nx ls (.ref x :: st) u
  | _ => False
theorem ok_iload {i : Nat} (hd : decode cc pc = .ok (.iload i, 2)) : zSnd ty ph own cc nL ret ini (pc, a_iload i (pc + 2)) := by
  intro p l e R s m args below meth c g n0 c0 d Q C lim post hC ls st u h a b H locs lsA hH hS hl
  simp only [a_iload] at h
  split at h
  · next x hx => exact lv_iload hC.1.1 hC.1.2.1 hd (zlv_at hl hx) (h a b H locs lsA hH hS hl)
  · exact h.elim
theorem ok_iload_n {k : Fin 4} {i : Nat} (hd : decode cc pc = .ok (.iload_n k, 1)) (hi : (k : Nat) = i) : zSnd ty ph own cc nL ret ini (pc, a_iload i (pc + 1)) := by
  intro p l e R s m args below meth c g n0 c0 d Q C lim post hC ls st u h a b H locs lsA hH hS hl
  simp only [a_iload] at h
  split at h
  · next x hx => exact lv_iload_n hC.1.1 hC.1.2.1 hd hi (zlv_at hl hx) (h a b H locs lsA hH hS hl)
  · exact h.elim
theorem ok_lload {i : Nat} (hd : decode cc pc = .ok (.lload i, 2)) : zSnd ty ph own cc nL ret ini (pc, a_lload i (pc + 2)) := by
  intro p l e R s m args below meth c g n0 c0 d Q C lim post hC ls st u h a b H locs lsA hH hS hl
  simp only [a_lload] at h
  split at h
  · next x hx => exact lv_lload hC.1.1 hC.1.2.1 hd (zlv_at hl hx) (h a b H locs lsA hH hS hl)
  · exact h.elim
theorem ok_lload_n {k : Fin 4} {i : Nat} (hd : decode cc pc = .ok (.lload_n k, 1)) (hi : (k : Nat) = i) : zSnd ty ph own cc nL ret ini (pc, a_lload i (pc + 1)) := by
  intro p l e R s m args below meth c g n0 c0 d Q C lim post hC ls st u h a b H locs lsA hH hS hl
  simp only [a_lload] at h
  split at h
  · next x hx => exact lv_lload_n hC.1.1 hC.1.2.1 hd hi (zlv_at hl hx) (h a b H locs lsA hH hS hl)
  · exact h.elim
theorem ok_aload {i : Nat} (hd : decode cc pc = .ok (.aload i, 2)) : zSnd ty ph own cc nL ret ini (pc, a_aload i (pc + 2)) := by
  intro p l e R s m args below meth c g n0 c0 d Q C lim post hC ls st u h a b H locs lsA hH hS hl
  simp only [a_aload] at h
  split at h
  · next x hx => exact lv_aload hC.1.1 hC.1.2.1 hd (zlv_at hl hx) (h a b H locs lsA hH hS hl)
  · exact h.elim
theorem ok_aload_n {k : Fin 4} {i : Nat} (hd : decode cc pc = .ok (.aload_n k, 1)) (hi : (k : Nat) = i) : zSnd ty ph own cc nL ret ini (pc, a_aload i (pc + 1)) := by
  intro p l e R s m args below meth c g n0 c0 d Q C lim post hC ls st u h a b H locs lsA hH hS hl
  simp only [a_aload] at h
  split at h
  · next x hx => exact lv_aload_n hC.1.1 hC.1.2.1 hd hi (zlv_at hl hx) (h a b H locs lsA hH hS hl)
  · exact h.elim
def a_istore (i nx : Nat) : zT := fun _ _ _ K ls st u => match st with
  | .int x :: r => K nx (zst1 ls i (.int x)) r u
  | _ => False
def a_lstore (i nx : Nat) : zT := fun _ _ _ K ls st u => match st with
  | .long x :: r => K nx (zst2 ls i (.long x)) r u
  | _ => False
def a_astore (i nx : Nat) : zT := fun _ _ _ K ls st u => match st with
  | .ref x :: r => K nx (zst1 ls i (.ref x)) r u
  | _ => False
theorem ok_istore {i : Nat} (hd : decode cc pc = .ok (.istore i, 2)) (hn : i < nL) : zSnd ty ph own cc nL ret ini (pc, a_istore i (pc + 2)) := by
  intro p l e R s m args below meth c g n0 c0 d Q C lim post hC ls st u h a b H locs lsA hH hS hl
  simp only [a_istore] at h
  split at h
  · exact lv_istore hC.1.1 hC.1.2.1 hd hl hn rfl (fun ls' hl' => h a b H locs ls' hH hS (zst1_has hl'))
  · exact h.elim
theorem ok_istore_n {k : Fin 4} {i : Nat} (hd : decode cc pc = .ok (.istore_n k, 1)) (hi : (k : Nat) = i) (hn : i < nL) : zSnd ty ph own cc nL ret ini (pc, a_istore i (pc + 1)) := by
  intro p l e R s m args below meth c g n0 c0 d Q C lim post hC ls st u h a b H locs lsA hH hS hl
  simp only [a_istore] at h
  split at h
  · exact lv_istore_n hC.1.1 hC.1.2.1 hd hi hl hn rfl (fun ls' hl' => h a b H locs ls' hH hS (zst1_has hl'))
  · exact h.elim
theorem ok_lstore {i : Nat} (hd : decode cc pc = .ok (.lstore i, 2)) (hn : i + 1 < nL) : zSnd ty ph own cc nL ret ini (pc, a_lstore i (pc + 2)) := by
  intro p l e R s m args below meth c g n0 c0 d Q C lim post hC ls st u h a b H locs lsA hH hS hl
  simp only [a_lstore] at h
  split at h
  · exact lv_lstore hC.1.1 hC.1.2.1 hd hl hn rfl (fun ls' hl' => h a b H locs ls' hH hS (zst2_has hl'))
  · exact h.elim
theorem ok_lstore_n {k : Fin 4} {i : Nat} (hd : decode cc pc = .ok (.lstore_n k, 1)) (hi : (k : Nat) = i) (hn : i + 1 < nL) : zSnd ty ph own cc nL ret ini (pc, a_lstore i (pc + 1)) := by
  intro p l e R s m args below meth c g n0 c0 d Q C lim post hC ls st u h a b H locs lsA hH hS hl
  simp only [a_lstore] at h
  split at h
  · exact lv_lstore_n hC.1.1 hC.1.2.1 hd hi hl hn rfl (fun ls' hl' => h a b H locs ls' hH hS (zst2_has hl'))
  · exact h.elim
theorem ok_astore {i : Nat} (hd : decode cc pc = .ok (.astore i, 2)) (hn : i < nL) : zSnd ty ph own cc nL ret ini (pc, a_astore i (pc + 2)) := by
  intro p l e R s m args below meth c g n0 c0 d Q C lim post hC ls st u h a b H locs lsA hH hS hl
  simp only [a_astore] at h
  split at h
  · next x r => exact lv_astore hC.1.1 hC.1.2.1 hd hl hn rfl (fun ls' hl' => h a b H locs ls' hH hS (zst1_has (v := .ref x) hl'))
  · exact h.elim
theorem ok_astore_n {k : Fin 4} {i : Nat} (hd : decode cc pc = .ok (.astore_n k, 1)) (hi : (k : Nat) = i) (hn : i < nL) : zSnd ty ph own cc nL ret ini (pc, a_astore i (pc + 1)) := by
  intro p l e R s m args below meth c g n0 c0 d Q C lim post hC ls st u h a b H locs lsA hH hS hl
  simp only [a_astore] at h
  split at h
  · next x r => exact lv_astore_n hC.1.1 hC.1.2.1 hd hi hl hn rfl (fun ls' hl' => h a b H locs ls' hH hS (zst1_has (v := .ref x) hl'))
  · exact h.elim
def a_iinc (i : Nat) (n : Int32) (nx : Nat) : zT := fun _ _ _ K ls st u => match ls[i]? with
  | some (some (.int x)) => K nx (zst1 ls i (.int (x + n))) st u
  | _ => False
theorem ok_iinc {i : Nat} {n : Int} {v : Int32} (hd : decode cc pc = .ok (.iinc i n, 3)) (hv : Int32.ofInt n = v) (hn : i < nL) : zSnd ty ph own cc nL ret ini (pc, a_iinc i v (pc + 3)) := by
  intro p l e R s m args below meth c g n0 c0 d Q C lim post hC ls st u h a b H locs lsA hH hS hl
  simp only [a_iinc] at h
  split at h
  · next x hx =>
    obtain ⟨k, hk⟩ := List.getElem?_of_mem (zlv_mem (g := g) (ls := ls) (q := (i, .int x)) |>.mpr ⟨_, hx, rfl⟩)
    exact lv_iinc hC.1.1 hC.1.2.1 hd hl (k := k) hk (by rw [hv]) hn rfl (fun ls' hl' => h a b H locs ls' hH hS (zst1_has hl'))
  · exact h.elim
def a_dup (nx : Nat) : zT := fun _ _ _ K ls st u => match st with
  | v :: r => v.category = 1 ∧ K nx ls (v :: v :: r) u
  | _ => False
theorem ok_dup (hd : decode cc pc = .ok (.dup, 1)) : zSnd ty ph own cc nL ret ini (pc, a_dup (pc + 1)) := by
  intro p l e R s m args below meth c g n0 c0 d Q C lim post hC ls st u h a b H locs lsA hH hS hl
  simp only [a_dup] at h
  split at h
  · exact lv_dup hC.1.1 hC.1.2.1 hd (by rw [zV_cat]; exact h.1) (h.2 a b H locs lsA hH hS hl)
  · exact h.elim
def a_dup2 (nx : Nat) : zT := fun _ _ _ K ls st u => match st with
  | v :: w :: r => (v.category = 1 ∧ w.category = 1) ∧ K nx ls (v :: w :: v :: w :: r) u
  | _ => False
theorem ok_dup2 (hd : decode cc pc = .ok (.dup2, 1)) : zSnd ty ph own cc nL ret ini (pc, a_dup2 (pc + 1)) := by
  intro p l e R s m args below meth c g n0 c0 d Q C lim post hC ls st u h a b H locs lsA hH hS hl
  simp only [a_dup2] at h
  split at h
  · exact lv_dup2_11 hC.1.1 hC.1.2.1 hd (by rw [zV_cat]; exact h.1.1) (by rw [zV_cat]; exact h.1.2) (h.2 a b H locs lsA hH hS hl)
  · exact h.elim
/-! arithmetic -/
def a_ii (f : Int32 → Int32 → Int32) (nx : Nat) : zT := fun _ _ _ K ls st u => match st with
  | .int y :: .int x :: r => K nx ls (.int (f x y) :: r) u
  | _ => False
def a_ll (f : Int64 → Int64 → Int64) (nx : Nat) : zT := fun _ _ _ K ls st u => match st with
  | .long y :: .long x :: r => K nx ls (.long (f x y) :: r) u
  | _ => False
def a_li (f : Int64 → Int32 → Int64) (nx : Nat) : zT := fun _ _ _ K ls st u => match st with
  | .int y :: .long x :: r => K nx ls (.long (f x y) :: r) u
  | _ => False
def a_div (f : Int32 → Int32 → Int32) (nx : Nat) : zT := fun _ _ _ K ls st u => match st with
  | .int y :: .int x :: r => ¬ y = 0 ∧ K nx ls (.int (f x y) :: r) u
  | _ => False
theorem ok_iadd (hd : decode cc pc = .ok (.iadd, 1)) : zSnd ty ph own cc nL ret ini (pc, a_ii (fun x y => x + y) (pc + 1)) := by
  intro p l e R s m args below meth c g n0 c0 d Q C lim post hC ls st u h a b H locs lsA hH hS hl
  simp only [a_ii] at h
  split at h
  · exact lv_iadd hC.1.1 hC.1.2.1 hd (h a b H locs lsA hH hS hl)
  · exact h.elim
theorem ok_isub (hd : decode cc pc = .ok (.isub, 1)) : zSnd ty ph own cc nL ret ini (pc, a_ii (fun x y => x - y) (pc + 1)) := by
  intro p l e R s m args below meth c g n0 c0 d Q C lim post hC ls st u h a b H locs lsA hH hS hl
  simp only [a_ii] at h
  split at h
  · exact lv_isub hC.1.1 hC.1.2.1 hd (h a b H locs lsA hH hS hl)
  · exact h.elim
theorem ok_imul (hd : decode cc pc = .ok (.imul, 1)) : zSnd ty ph own cc nL ret ini (pc, a_ii (fun x y => x * y) (pc + 1)) := by
  intro p l e R s m args below meth c g n0 c0 d Q C lim post hC ls st u h a b H locs lsA hH hS hl
  simp only [a_ii] at h
  split at h
  · exact lv_imul hC.1.1 hC.1.2.1 hd (h a b H locs lsA hH hS hl)
  · exact h.elim
theorem ok_iand (hd : decode cc pc = .ok (.iand, 1)) : zSnd ty ph own cc nL ret ini (pc, a_ii (fun x y => x &&& y) (pc + 1)) := by
  intro p l e R s m args below meth c g n0 c0 d Q C lim post hC ls st u h a b H locs lsA hH hS hl
  simp only [a_ii] at h
  split at h
  · exact lv_iand hC.1.1 hC.1.2.1 hd (h a b H locs lsA hH hS hl)
  · exact h.elim
theorem ok_ior (hd : decode cc pc = .ok (.ior, 1)) : zSnd ty ph own cc nL ret ini (pc, a_ii (fun x y => x ||| y) (pc + 1)) := by
  intro p l e R s m args below meth c g n0 c0 d Q C lim post hC ls st u h a b H locs lsA hH hS hl
  simp only [a_ii] at h
  split at h
  · exact lv_ior hC.1.1 hC.1.2.1 hd (h a b H locs lsA hH hS hl)
  · exact h.elim
theorem ok_ixor (hd : decode cc pc = .ok (.ixor, 1)) : zSnd ty ph own cc nL ret ini (pc, a_ii (fun x y => x ^^^ y) (pc + 1)) := by
  intro p l e R s m args below meth c g n0 c0 d Q C lim post hC ls st u h a b H locs lsA hH hS hl
  simp only [a_ii] at h
  split at h
  · exact lv_ixor hC.1.1 hC.1.2.1 hd (h a b H locs lsA hH hS hl)
  · exact h.elim
theorem ok_ishl (hd : decode cc pc = .ok (.ishl, 1)) : zSnd ty ph own cc nL ret ini (pc, a_ii (fun x y => x <<< (y &&& 31)) (pc + 1)) := by
  intro p l e R s m args below meth c g n0 c0 d Q C lim post hC ls st u h a b H locs lsA hH hS hl
  simp only [a_ii] at h
  split at h
  · exact lv_ishl hC.1.1 hC.1.2.1 hd (h a b H locs lsA hH hS hl)
  · exact h.elim
theorem ok_ishr (hd : decode cc pc = .ok (.ishr, 1)) : zSnd ty ph own cc nL ret ini (pc, a_ii (fun x y => x >>> (y &&& 31)) (pc + 1)) := by
  intro p l e R s m args below meth c g n0 c0 d Q C lim post hC ls st u h a b H locs lsA hH hS hl
  simp only [a_ii] at h
  split at h
  · exact lv_ishr hC.1.1 hC.1.2.1 hd (h a b H locs lsA hH hS hl)
  · exact h.elim
theorem ok_iushr (hd : decode cc pc = .ok (.iushr, 1)) : zSnd ty ph own cc nL ret ini (pc, a_ii (fun x y => (x.toUInt32 >>> (y.toUInt32 &&& Int32.toUInt32 31)).toInt32) (pc + 1)) := by
  intro p l e R s m args below meth c g n0 c0 d Q C lim post hC ls st u h a b H locs lsA hH hS hl
  simp only [a_ii] at h
  split at h
  · exact lv_iushr hC.1.1 hC.1.2.1 hd rfl (h a b H locs lsA hH hS hl)
  · exact h.elim
theorem ok_ladd (hd : decode cc pc = .ok (.ladd, 1)) : zSnd ty ph own cc nL ret ini (pc, a_ll (fun x y => x + y) (pc + 1)) := by
  intro p l e R s m args below meth c g n0 c0 d Q C lim post hC ls st u h a b H locs lsA hH hS hl
  simp only [a_ll] at h
  split at h
  · exact lv_ladd hC.1.1 hC.1.2.1 hd (h a b H locs lsA hH hS hl)
  · exact h.elim
theorem ok_lsub (hd : decode cc pc = .ok (.lsub, 1)) : zSnd ty ph own cc nL ret ini (pc, a_ll (fun x y => x - y) (pc + 1)) := by
  intro p l e R s m args below meth c g n0 c0 d Q C lim post hC ls st u h a b H locs lsA hH hS hl
  simp only [a_ll] at h
  split at h
  · exact lv_lsub hC.1.1 hC.1.2.1 hd (h a b H locs lsA hH hS hl)
  · exact h.elim
theorem ok_land (hd : decode cc pc = .ok (.land, 1)) : zSnd ty ph own cc nL ret ini (pc, a_ll (fun x y => x &&& y) (pc + 1)) := by
  intro p l e R s m args below meth c g n0 c0 d Q C lim post hC ls st u h a b H locs lsA hH hS hl
  simp only [a_ll] at h
  split at h
  · exact lv_land hC.1.1 hC.1.2.1 hd (h a b H locs lsA hH hS hl)
  · exact h.elim
theorem ok_lor (hd : decode cc pc = .ok (.lor, 1)) : zSnd ty ph own cc nL ret ini (pc, a_ll (fun x y => x ||| y) (pc + 1)) := by
  intro p l e R s m args below meth c g n0 c0 d Q C lim post hC ls st u h a b H locs lsA hH hS hl
  simp only [a_ll] at h
  split at h
  · exact lv_lor hC.1.1 hC.1.2.1 hd (h a b H locs lsA hH hS hl)
  · exact h.elim
theorem ok_lxor (hd : decode cc pc = .ok (.lxor, 1)) : zSnd ty ph own cc nL ret ini (pc, a_ll (fun x y => x ^^^ y) (pc + 1)) := by
  intro p l e R s m args below meth c g n0 c0 d Q C lim post hC ls st u h a b H locs lsA hH hS hl
  simp only [a_ll] at h
  split at h
  · exact lv_lxor hC.1.1 hC.1.2.1 hd (h a b H locs lsA hH hS hl)
  · exact h.elim
theorem ok_lshl (hd : decode cc pc = .ok (.lshl, 1)) : zSnd ty ph own cc nL ret ini (pc, a_li (fun x y => x <<< (y.toInt64 &&& 63)) (pc + 1)) := by
  intro p l e R s m args below meth c g n0 c0 d Q C lim post hC ls st u h a b H locs lsA hH hS hl
  simp only [a_li] at h
  split at h
  · exact lv_lshl hC.1.1 hC.1.2.1 hd rfl (h a b H locs lsA hH hS hl)
  · exact h.elim
theorem ok_lshr (hd : decode cc pc = .ok (.lshr, 1)) : zSnd ty ph own cc nL ret ini (pc, a_li (fun x y => x >>> (y.toInt64 &&& 63)) (pc + 1)) := by
  intro p l e R s m args below meth c g n0 c0 d Q C lim post hC ls st u h a b H locs lsA hH hS hl
  simp only [a_li] at h
  split at h
  · exact lv_lshr hC.1.1 hC.1.2.1 hd rfl (h a b H locs lsA hH hS hl)
  · exact h.elim
theorem ok_lushr (hd : decode cc pc = .ok (.lushr, 1)) : zSnd ty ph own cc nL ret ini (pc, a_li (fun x y => (x.toUInt64 >>> (y.toInt64.toUInt64 &&& Int64.toUInt64 63)).toInt64) (pc + 1)) := by
  intro p l e R s m args below meth c g n0 c0 d Q C lim post hC ls st u h a b H locs lsA hH hS hl
  simp only [a_li] at h
  split at h
  · exact lv_lushr hC.1.1 hC.1.2.1 hd rfl (h a b H locs lsA hH hS hl)
  · exact h.elim
theorem ok_idiv (hd : decode cc pc = .ok (.idiv, 1)) : zSnd ty ph own cc nL ret ini (pc, a_div (fun x y => x / y) (pc + 1)) := by
  intro p l e R s m args below meth c g n0 c0 d Q C lim post hC ls st u h a b H locs lsA hH hS hl
  simp only [a_div] at h
  split at h
  · exact lv_idiv hC.1.1 hC.1.2.1 hd h.1 (h.2 a b H locs lsA hH hS hl)
  · exact h.elim
theorem ok_irem (hd : decode cc pc = .ok (.irem, 1)) : zSnd ty ph own cc nL ret ini (pc, a_div (fun x y => x - x / y * y) (pc + 1)) := by
  intro p l e R s m args below meth c g n0 c0 d Q C lim post hC ls st u h a b H locs lsA hH hS hl
  simp only [a_div] at h
  split at h
  · exact lv_irem hC.1.1 hC.1.2.1 hd h.1 (h.2 a b H locs lsA hH hS hl)
  · exact h.elim
def a_lneg (nx : Nat) : zT := fun _ _ _ K ls st u => match st with
  | .long x :: r => K nx ls (.long (-x) :: r) u
  | _ => False
def a_i2l (nx : Nat) : zT := fun _ _ _ K ls st u => match st with
  | .int x :: r => K nx ls (.long x.toInt64 :: r) u
  | _ => False
def a_l2i (nx : Nat) : zT := fun _ _ _ K ls st u => match st with
  | .long x :: r => K nx ls (.int x.toInt32 :: r) u
  | _ => False
def a_lcmp (nx : Nat) : zT := fun _ _ _ K ls st u => match st with
  | .long y :: .long x :: r => K nx ls (.int (lg_cmp x y) :: r) u
  | _ => False
theorem ok_lneg (hd : decode cc pc = .ok (.lneg, 1)) : zSnd ty ph own cc nL ret ini (pc, a_lneg (pc + 1)) := by
  intro p l e R s m args below meth c g n0 c0 d Q C lim post hC ls st u h a b H locs lsA hH hS hl
  simp only [a_lneg] at h
  split at h
  · exact lv_lneg hC.1.1 hC.1.2.1 hd (h a b H locs lsA hH hS hl)
  · exact h.elim
theorem ok_i2l (hd : decode cc pc = .ok (.i2l, 1)) : zSnd ty ph own cc nL ret ini (pc, a_i2l (pc + 1)) := by
  intro p l e R s m args below meth c g n0 c0 d Q C lim post hC ls st u h a b H locs lsA hH hS hl
  simp only [a_i2l] at h
  split at h
  · exact lv_i2l hC.1.1 hC.1.2.1 hd rfl (h a b H locs lsA hH hS hl)
  · exact h.elim
theorem ok_l2i (hd : decode cc pc = .ok (.l2i, 1)) : zSnd ty ph own cc nL ret ini (pc, a_l2i (pc + 1)) := by
  intro p l e R s m args below meth c g n0 c0 d Q C lim post hC ls st u h a b H locs lsA hH hS hl
  simp only [a_l2i] at h
  split at h
  · exact lv_l2i hC.1.1 hC.1.2.1 hd rfl (h a b H locs lsA hH hS hl)
  · exact h.elim
theorem ok_lcmp (hd : decode cc pc = .ok (.lcmp, 1)) : zSnd ty ph own cc nL ret ini (pc, a_lcmp (pc + 1)) := by
  intro p l e R s m args below meth c g n0 c0 d Q C lim post hC ls st u h a b H locs lsA hH hS hl
  simp only [a_lcmp] at h
  split at h
  · exact W.lcmp hC.1.1 hC.1.2.1 hd (h a b H locs lsA hH hS hl)
  · exact h.elim
def a_if_eq (tgt nx : Nat) : zT := fun _ _ _ K ls st u => match st with
  | .int x :: r => (x = 0 → K tgt ls r u) ∧ (¬ x = 0 → K nx ls r u)
  | _ => False
theorem ok_if_eq {off : Int} {tgt : Nat} (hd : decode cc pc = .ok (.ifCond .eq off, 3)) (ht : (pc : Int) + off = (tgt : Int)) : zSnd ty ph own cc nL ret ini (pc, a_if_eq tgt (pc + 3)) := by
  intro p l e R s m args below meth c g n0 c0 d Q C lim post hC ls st u h a b H locs lsA hH hS hl
  simp only [a_if_eq] at h
  split at h
  · exact lv_if_eq hC.1.1 hC.1.2.1 hd ht (fun z => h.1 z a b H locs lsA hH hS hl) (fun z => h.2 z a b H locs lsA hH hS hl)
  · exact h.elim
def a_if_ne (tgt nx : Nat) : zT := fun _ _ _ K ls st u => match st with
  | .int x :: r => (¬ x = 0 → K tgt ls r u) ∧ (x = 0 → K nx ls r u)
  | _ => False
theorem ok_if_ne {off : Int} {tgt : Nat} (hd : decode cc pc = .ok (.ifCond .ne off, 3)) (ht : (pc : Int) + off = (tgt : Int)) : zSnd ty ph own cc nL ret ini (pc, a_if_ne tgt (pc + 3)) := by
  intro p l e R s m args below meth c g n0 c0 d Q C lim post hC ls st u h a b H locs lsA hH hS hl
  simp only [a_if_ne] at h
  split at h
  · exact lv_if_ne hC.1.1 hC.1.2.1 hd ht (fun z => h.1 z a b H locs lsA hH hS hl) (fun z => h.2 z a b H locs lsA hH hS hl)
  · exact h.elim
def a_if_lt (tgt nx : Nat) : zT := fun _ _ _ K ls st u => match st with
  | .int x :: r => (x < 0 → K tgt ls r u) ∧ (¬ x < 0 → K nx ls r u)
  | _ => False
theorem ok_if_lt {off : Int} {tgt : Nat} (hd : decode cc pc = .ok (.ifCond .lt off, 3)) (ht : (pc : Int) + off = (tgt : Int)) : zSnd ty ph own cc nL ret ini (pc, a_if_lt tgt (pc + 3)) := by
  intro p l e R s m args below meth c g n0 c0 d Q C lim post hC ls st u h a b H locs lsA hH hS hl
  simp only [a_if_lt] at h
  split at h
  · exact lv_if_lt hC.1.1 hC.1.2.1 hd ht (fun z => h.1 z a b H locs lsA hH hS hl) (fun z => h.2 z a b H locs lsA hH hS hl)
  · exact h.elim
def a_if_ge (tgt nx : Nat) : zT := fun _ _ _ K ls st u => match st with
  | .int x :: r => (0 ≤ x → K tgt ls r u) ∧ (¬ 0 ≤ x → K nx ls r u)
  | _ => False
theorem ok_if_ge {off : Int} {tgt : Nat} (hd : decode cc pc = .ok (.ifCond .ge off, 3)) (ht : (pc : Int) + off = (tgt : Int)) : zSnd ty ph own cc nL ret ini (pc, a_if_ge tgt (pc + 3)) := by
  intro p l e R s m args below meth c g n0 c0 d Q C lim post hC ls st u h a b H locs lsA hH hS hl
  simp only [a_if_ge] at h
  split at h
  · exact lv_if_ge hC.1.1 hC.1.2.1 hd ht (fun z => h.1 z a b H locs lsA hH hS hl) (fun z => h.2 z a b H locs lsA hH hS hl)
  · exact h.elim
def a_if_gt (tgt nx : Nat) : zT := fun _ _ _ K ls st u => match st with
  | .int x :: r => (0 < x → K tgt ls r u) ∧ (¬ 0 < x → K nx ls r u)
  | _ => False
theorem ok_if_gt {off : Int} {tgt : Nat} (hd : decode cc pc = .ok (.ifCond .gt off, 3)) (ht : (pc : Int) + off = (tgt : Int)) : zSnd ty ph own cc nL ret ini (pc, a_if_gt tgt (pc + 3)) := by
  intro p l e R s m args below meth c g n0 c0 d Q C lim post hC ls st u h a b H locs lsA hH hS hl
  simp only [a_if_gt] at h
  split at h
  · exact lv_if_gt hC.1.1 hC.1.2.1 hd ht (fun z => h.1 z a b H locs lsA hH hS hl) (fun z => h.2 z a b H locs lsA hH hS hl)
  · exact h.elim
def a_if_le (tgt nx : Nat) : zT := fun _ _ _ K ls st u => match st with
  | .int x :: r => (x ≤ 0 → K tgt ls r u) ∧ (¬ x ≤ 0 → K nx ls r u)
  | _ => False
theorem ok_if_le {off : Int} {tgt : Nat} (hd : decode cc pc = .ok (.ifCond .le off, 3)) (ht : (pc : Int) + off = (tgt : Int)) : zSnd ty ph own cc nL ret ini (pc, a_if_le tgt (pc + 3)) := by
  intro p l e R s m args below meth c g n0 c0 d Q C lim post hC ls st u h a b H locs lsA hH hS hl
  simp only [a_if_le] at h
  split at h
  · exact lv_if_le hC.1.1 hC.1.2.1 hd ht (fun z => h.1 z a b H locs lsA hH hS hl) (fun z => h.2 z a b H locs lsA hH hS hl)
  · exact h.elim
def a_ic_eq (tgt nx : Nat) : zT := fun _ _ _ K ls st u => match st with
  | .int y :: .int x :: r => (x = y → K tgt ls r u) ∧ (¬ x = y → K nx ls r u)
  | _ => False
theorem ok_ic_eq {off : Int} {tgt : Nat} (hd : decode cc pc = .ok (.if_icmp .eq off, 3)) (ht : (pc : Int) + off = (tgt : Int)) : zSnd ty ph own cc nL ret ini (pc, a_ic_eq tgt (pc + 3)) := by
  intro p l e R s m args below meth c g n0 c0 d Q C lim post hC ls st u h a b H locs lsA hH hS hl
  simp only [a_ic_eq] at h
  split at h
  · exact lv_icmp_eq hC.1.1 hC.1.2.1 hd ht (fun z => h.1 z a b H locs lsA hH hS hl) (fun z => h.2 z a b H locs lsA hH hS hl)
  · exact h.elim
def a_ic_ne (tgt nx : Nat) : zT := fun _ _ _ K ls st u => match st with
  | .int y :: .int x :: r => (¬ x = y → K tgt ls r u) ∧ (x = y → K nx ls r u)
  | _ => False
theorem ok_ic_ne {off : Int} {tgt : Nat} (hd : decode cc pc = .ok (.if_icmp .ne off, 3)) (ht : (pc : Int) + off = (tgt : Int)) : zSnd ty ph own cc nL ret ini (pc, a_ic_ne tgt (pc + 3)) := by
  intro p l e R s m args below meth c g n0 c0 d Q C lim post hC ls st u h a b H locs lsA hH hS hl
  simp only [a_ic_ne] at h
  split at h
  · exact lv_icmp_ne hC.1.1 hC.1.2.1 hd ht (fun z => h.1 z a b H locs lsA hH hS hl) (fun z => h.2 z a b H locs lsA hH hS hl)
  · exact h.elim
def a_ic_lt (tgt nx : Nat) : zT := fun _ _ _ K ls st u => match st with
  | .int y :: .int x :: r => (x < y → K tgt ls r u) ∧ (¬ x < y → K nx ls r u)
  | _ => False
theorem ok_ic_lt {off : Int} {tgt : Nat} (hd : decode cc pc = .ok (.if_icmp .lt off, 3)) (ht : (pc : Int) + off = (tgt : Int)) : zSnd ty ph own cc nL ret ini (pc, a_ic_lt tgt (pc + 3)) := by
  intro p l e R s m args below meth c g n0 c0 d Q C lim post hC ls st u h a b H locs lsA hH hS hl
  simp only [a_ic_lt] at h
  split at h
  · exact lv_icmp_lt hC.1.1 hC.1.2.1 hd ht (fun z => h.1 z a b H locs lsA hH hS hl) (fun z => h.2 z a b H locs lsA hH hS hl)
  · exact h.elim
def a_ic_ge (tgt nx : Nat) : zT := fun _ _ _ K ls st u => match st with
  | .int y :: .int x :: r => (y ≤ x → K tgt ls r u) ∧ (¬ y ≤ x → K nx ls r u)
  | _ => False
theorem ok_ic_ge {off : Int} {tgt : Nat} (hd : decode cc pc = .ok (.if_icmp .ge off, 3)) (ht : (pc : Int) + off = (tgt : Int)) : zSnd ty ph own cc nL ret ini (pc, a_ic_ge tgt (pc + 3)) := by
  intro p l e R s m args below meth c g n0 c0 d Q C lim post hC ls st u h a b H locs lsA hH hS hl
  simp only [a_ic_ge] at h
  split at h
  · exact lv_icmp_ge hC.1.1 hC.1.2.1 hd ht (fun z => h.1 z a b H locs lsA hH hS hl) (fun z => h.2 z a b H locs lsA hH hS hl)
  · exact h.elim
def a_ic_gt (tgt nx : Nat) : zT := fun _ _ _ K ls st u => match st with
  | .int y :: .int x :: r => (y < x → K tgt ls r u) ∧ (¬ y < x → K nx ls r u)
  | _ => False
theorem ok_ic_gt {off : Int} {tgt : Nat} (hd : decode cc pc = .ok (.if_icmp .gt off, 3)) (ht : (pc : Int) + off = (tgt : Int)) : zSnd ty ph own cc nL ret ini (pc, a_ic_gt tgt (pc + 3)) := by
  intro p l e R s m args below meth c g n0 c0 d Q C lim post hC ls st u h a b H locs lsA hH hS hl
  simp only [a_ic_gt] at h
  split at h
  · exact lv_icmp_gt hC.1.1 hC.1.2.1 hd ht (fun z => h.1 z a b H locs lsA hH hS hl) (fun z => h.2 z a b H locs lsA hH hS hl)
  · exact h.elim
def a_ic_le (tgt nx : Nat) : zT := fun _ _ _ K ls st u => match st with
  | .int y :: .int x :: r => (x ≤ y → K tgt ls r u) ∧ (¬ x ≤ y → K nx ls r u)
  | _ => False
theorem ok_ic_le {off : Int} {tgt : Nat} (hd : decode cc pc = .ok (.if_icmp .le off, 3)) (ht : (pc : Int) + off = (tgt : Int)) : zSnd ty ph own cc nL ret ini (pc, a_ic_le tgt (pc + 3)) := by
  intro p l e R s m args below meth c g n0 c0 d Q C lim post hC ls st u h a b H locs lsA hH hS hl
  simp only [a_ic_le] at h
  split at h
  · exact lv_icmp_le hC.1.1 hC.1.2.1 hd ht (fun z => h.1 z a b H locs lsA hH hS hl) (fun z => h.2 z a b H locs lsA hH hS hl)
  · exact h.elim
def a_goto (tgt : Nat) : zT := fun _ _ _ K ls st u => K tgt ls st u
theorem ok_goto {off : Int} {tgt : Nat} (hd : decode cc pc = .ok (.goto off, 3)) (ht : (pc : Int) + off = (tgt : Int)) : zSnd ty ph own cc nL ret ini (pc, a_goto tgt) := by
  intro p l e R s m args below meth c g n0 c0 d Q C lim post hC ls st u h a b H locs lsA hH hS hl
  exact lv_goto hC.1.1 hC.1.2.1 hd ht (h a b H locs lsA hH hS hl)
/-- a switch: the values and their targets, one after the other -/
def zsw (x : Int32) (f : Nat → Prop) (dflt : Nat) : List (Int32 × Nat) → Prop
  | [] => f dflt
  | q :: r => (x = q.1 → f q.2) ∧ (¬ x = q.1 → zsw x f dflt r)
theorem zsw_in {x : Int32} {f : Nat → Prop} {dflt : Nat} : ∀ {ps : List (Int32 × Nat)}, zsw x f dflt ps → (∃ q ∈ ps, x = q.1 ∧ (∀ j < ps.length, ∀ b, ps[j]? = some b → b.1 = x → (∀ i < j, ∀ c, ps[i]? = some c → c.1 ≠ x) → b = q) ∧ f q.2) ∨ ((∀ q ∈ ps, x ≠ q.1) ∧ f dflt)
  | [], h => Or.inr ⟨fun q hq => absurd hq List.not_mem_nil, h⟩
  | q :: r, h => by
    by_cases hx : x = q.1
    · refine Or.inl ⟨q, List.mem_cons_self, hx, fun j hj b hb he hi => ?_, h.1 hx⟩
      cases j with
      | zero => simpa using hb.symm
      | succ j => exact absurd hx.symm (hi 0 (by omega) q rfl)
    · rcases zsw_in (h.2 hx) with ⟨p, hp, e, hu, hf⟩ | ⟨hn, hf⟩
      · refine Or.inl ⟨p, List.mem_cons_of_mem _ hp, e, fun j hj b hb he hi => ?_, hf⟩
        cases j with
        | zero => simp at hb; exact absurd (hb ▸ he).symm hx
        | succ j =>
          refine hu j (by simpa using hj) b (by simpa using hb) he (fun i hi2 c hc => hi (i + 1) (by omega) c (by simpa using hc))
      · refine Or.inr ⟨fun p hp => ?_, hf⟩
        rcases List.mem_cons.mp hp with rfl | h2
        · exact hx
        · exact hn p h2
def a_sw (ps : List (Int32 × Nat)) (dflt : Nat) : zT := fun _ _ _ K ls st u => match st with
  | .int x :: r => zsw x (fun t => K t ls r u) dflt ps
  | _ => False
theorem ok_tsw {df lo hi : Int} {offs : Array Int} {len : Nat} {ps : List (Int32 × Nat)} {dflt : Nat} (hd : decode cc pc = .ok (.tableswitch df lo hi offs, len)) (h0 : (pc : Int) + df = (dflt : Int)) (hts : offs.toList.map (fun o => (pc : Int) + o) = ps.map (fun t => (t.2 : Int))) (hv : ∀ j, j < ps.length → (ps[j]?).map (fun t => t.1.toInt) = some (lo + (j : Int))) (hl0 : hi = lo + offs.size - 1) : zSnd ty ph own cc nL ret ini (pc, a_sw ps dflt) := by
  intro p l e R s m args below meth c g n0 c0 d Q C lim post hC ls st u h a b H locs lsA hH hS hl
  simp only [a_sw] at h
  split at h
  · next x r =>
    have hsz : offs.size = ps.length := by have := congrArg List.length hts; simpa using this
    rcases zsw_in h with ⟨q, hq, e1, hu, hf⟩ | ⟨hn, hf⟩
    · obtain ⟨j, hj⟩ := List.getElem?_of_mem hq
      have hjl : j < ps.length := (List.getElem?_eq_some_iff.mp hj).1
      have hv1 := hv j hjl
      rw [hj] at hv1
      simp only [Option.map_some, Option.some.injEq] at hv1
      have hx : x.toInt = lo + (j : Int) := by rw [e1]; exact hv1
      have ho : offs[j]? = some offs[j] := Array.getElem?_eq_getElem (by omega)
      have e2 : (ps.map (fun t => (t.2 : Int)))[j]? = some ((pc : Int) + offs[j]) := by
        rw [← hts, List.getElem?_map, Array.getElem?_toList, ho]; rfl
      rw [List.getElem?_map, hj] at e2
      simp only [Option.map_some, Option.some.injEq] at e2
      exact lv_tableIn hC.1.1 hC.1.2.1 hd (by omega) (by omega) (off := offs[j]) (by rw [show (x.toInt - lo).toNat = j by omega]; exact ho) e2.symm (hf a b H locs lsA hH hS hl)
    · refine lv_tableOut hC.1.1 hC.1.2.1 hd ?_ h0 (hf a b H locs lsA hH hS hl)
      by_cases h1 : x.toInt < lo
      · exact Or.inl h1
      · by_cases h2 : hi < x.toInt
        · exact Or.inr h2
        · exfalso
          have hj : (x.toInt - lo).toNat < ps.length := by omega
          have hv1 := hv _ hj
          cases hp : ps[(x.toInt - lo).toNat]? with
          | none => rw [hp] at hv1; cases hv1
          | some q =>
            rw [hp] at hv1
            simp only [Option.map_some, Option.some.injEq] at hv1
            exact hn q (List.mem_of_getElem? hp) (Int32.toInt_inj.mp (by omega))
  · exact h.elim
theorem zlsw {pc : Nat} {d x : Int} : ∀ (pl : List (Int × Int)) (ps : List (Int × Nat)), pl.map (fun q => (q.1, (pc : Int) + q.2)) = ps.map (fun q : Int × Nat => (q.1, (q.2 : Int))) →
    (∃ q ∈ ps, x = q.1 ∧ (pc : Int) + Op.lookupswitch.offset pl d x = (q.2 : Int)) ∨ ((∀ q ∈ ps, x ≠ q.1) ∧ Op.lookupswitch.offset pl d x = d)
  | [], ps, h => by
    cases ps with
    | nil => exact Or.inr ⟨fun q hq => absurd hq List.not_mem_nil, rfl⟩
    | cons a r => simp at h
  | (a, o) :: r, ps, h => by
    cases ps with
    | nil => simp at h
    | cons b r2 =>
      simp only [List.map_cons, List.cons.injEq, Prod.mk.injEq] at h
      obtain ⟨⟨h1, h2⟩, h3⟩ := h
      rw [Op.lookupswitch.offset_cons]
      by_cases hx : a = x
      · rw [if_pos hx]
        exact Or.inl ⟨b, List.mem_cons_self, by rw [← hx, h1], h2⟩
      · rw [if_neg hx]
        rcases zlsw r r2 h3 with ⟨q, hq, e1, e2⟩ | ⟨hq, e⟩
        · exact Or.inl ⟨q, List.mem_cons_of_mem _ hq, e1, e2⟩
        · refine Or.inr ⟨fun q hq2 => ?_, e⟩
          rcases List.mem_cons.mp hq2 with rfl | h4
          · rw [← h1]; exact fun z => hx z.symm
          · exact hq q h4
theorem ok_lsw {df : Int} {pl : Array (Int × Int)} {len : Nat} {ps : List (Int32 × Nat)} {dflt : Nat} (hd : decode cc pc = .ok (.lookupswitch df pl, len)) (hp : (pl.toList.zip (pl.toList.drop 1)).all (fun (a, next) => a.1 < next.1) = true) (h0 : (pc : Int) + df = (dflt : Int)) (hts : pl.toList.map (fun q => (q.1, (pc : Int) + q.2)) = (ps.map (fun q => (q.1.toInt, q.2))).map (fun q : Int × Nat => (q.1, (q.2 : Int)))) (hnd : ∀ i < ps.length, ∀ j < ps.length, (ps[i]?).map (fun q => q.1) = (ps[j]?).map (fun q => q.1) → i = j) : zSnd ty ph own cc nL ret ini (pc, a_sw ps dflt) := by
  intro p l e R s m args below meth c g n0 c0 d Q C lim post hC ls st u h a b H locs lsA hH hS hl
  simp only [a_sw] at h
  split at h
  · next x r =>
    rcases zlsw (x := x.toInt) (d := df) pl.toList _ hts with ⟨q, hq, e1, e2⟩ | ⟨hq, e1⟩
    · obtain ⟨q2, hq2, rfl⟩ := List.mem_map.mp hq
      have ex : x = q2.1 := Int32.toInt_inj.mp e1
      rcases zsw_in h with ⟨q3, hq3, e3, hu, hf⟩ | ⟨hn, hf⟩
      · obtain ⟨i, hi⟩ := List.getElem?_of_mem hq2
        obtain ⟨j, hj⟩ := List.getElem?_of_mem hq3
        have hij := hnd i (List.getElem?_eq_some_iff.mp hi).1 j (List.getElem?_eq_some_iff.mp hj).1 (by rw [hi, hj]; simp only [Option.map_some]; rw [← ex, ← e3])
        subst hij
        have : q2 = q3 := Option.some.inj (hi.symm.trans hj)
        subst this
        exact lv_lookup hC.1.1 hC.1.2.1 hd hp rfl e2 (hf a b H locs lsA hH hS hl)
      · exact absurd ex (hn q2 hq2)
    · have hn2 : ∀ q ∈ ps, x ≠ q.1 := fun q hq2 z => hq (q.1.toInt, q.2) (List.mem_map.mpr ⟨q, hq2, rfl⟩) (by rw [z])
      rcases zsw_in h with ⟨q3, hq3, e3, hu, hf⟩ | ⟨hn, hf⟩
      · exact absurd e3 (hn2 q3 hq3)
      · exact lv_lookup hC.1.1 hC.1.2.1 hd hp e1 h0 (hf a b H locs lsA hH hS hl)
  · exact h.elim
end OKA
