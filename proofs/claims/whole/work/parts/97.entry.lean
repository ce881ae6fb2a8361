/-! THE CLAIM OUT OF ONE WALK OF THE LAW'S BODY. Your part is whole_start (and what it stands on); all else here is the same for every law, but numbers. -/
def R_law : String := "WishToChipLaw"
def lw_P (b : Addr) (xs : List Int32) (args : Array Value) (s : State) : Prop := args = #[.ref b] ∧ s.IntsAt b xs ∧ xs.length ≤ 2560 ∧ (Jvm.Cond.and given_1 narrow_1).before args s = true
def lw_Q (_ : Array Value) (s : State) (o : Outcome) (t : State) : Prop := o = .returned (some (.int 1)) ∧ Framed s o t [] 600000 7302250
def lw_Z (below : List Frame) (a : Array Value) (s : State) : State → Prop := fun t => ∃ o, t.status = .running ∧ Ended t below o ∧ lw_Q a s o t
/-- the law's own end, with 1 on the stack, nothing written that was there before, its room as the claim has it -/
theorem lw_ret {p : Program} {l : Launch} {e : Env} {s : State} {m : MethodId} {below : List Frame} {meth : Method} {c : Code} {b : Nat} (hx : p.tables.exec = Jvm.exec) (hb : c.code = code) (hr : meth.sig.returnType = ret) (hlocks : meth.locks = false) {pc : Nat} {H : Heap} {ls : Array Slot} (hdg : decode code pc = .ok (.ireturn, 1)) : W p l e room_1 s m #[Value.ref b] below meth c H [] 600000 7302250 (lw_Z below #[Value.ref b] s) (F0 m pc ls [.int 1]) := by
  intro T hT X
  obtain ⟨fs, hret, hrun, hended, hW, hframe⟩ := X.leave (v := some (.int 1)) (hlocks := hlocks) (fun h => by rw [hr] at h; cases h)
  have hmeth' : T.vm.method? m = some meth := X.method'
  refine ⟨T.setFrames fs, ?_, .returned (some (.int 1)), hrun, hended, rfl, ⟨_, rfl⟩, hW, hframe⟩
  jvm_step X.here [X.here.top, hx, hb, hdg, hmeth', hr, ret, narrow_b1]
  (try refine ⟨rfl, ?_⟩); (try refine ⟨rfl, ?_⟩)
  first | (intro acts; rw [hret _ acts rfl rfl rfl]) | rw [hret _ _ rfl rfl rfl]
  exact Steps.refl _
/-- what holds at the law's entry: the machine, the code, the tables' words (any of lw_tbl by 'hts w (by decide +kernel)'), the script of L ints xs at the cell b, what the Statement gives of the start (any of its parts by flat_of_before) -/
def lw_At (p : Program) (s : State) (m : MethodId) (meth : Method) (c : Code) (b L : Nat) (xs : Nat → Int32) : Prop :=
  p.tables.exec = Jvm.exec ∧ c.code = code ∧ meth.sig.returnType = ret ∧ c.maxLocals = 4 ∧ s.vm.findClass R_law = some m.cls ∧ (∀ w ∈ lw_tbl, w.before #[Value.ref b] s = true) ∧ va_X b L xs s s.heap ∧ b < s.heap.size ∧ meth.locks = false ∧ (Jvm.Cond.and given_1 narrow_1).before #[Value.ref b] s = true
theorem lzS0 : (Cond.laysStatic "WishToChip$Lanes" "INPUT_LANES" "[J") ∈ lw_tbl := List.mem_append_right _ (tt3 _ (List.mem_of_getElem? (i := 119) rfl))
theorem lzN0 : (Cond.initialized "WishToChip$Lanes") ∈ lw_tbl := List.mem_append_right _ (tt1 _ (List.mem_of_getElem? (i := 6) rfl))
theorem lzS1 : (Cond.laysStatic "WishToChip$Gates" "LEAST_RULE" "[I") ∈ lw_tbl := List.mem_append_right _ (tt3 _ (List.mem_of_getElem? (i := 179) rfl))
theorem lzN1 : (Cond.initialized "WishToChip$Gates") ∈ lw_tbl := List.mem_append_right _ (tt1 _ (List.mem_of_getElem? (i := 7) rfl))
theorem lzS2 : (Cond.laysStatic "WishToChip$Gates" "MOST_RULE" "[I") ∈ lw_tbl := List.mem_append_right _ (tt3 _ (List.mem_of_getElem? (i := 182) rfl))
theorem lzN2 : (Cond.initialized "WishToChip$Gates") ∈ lw_tbl := List.mem_append_right _ (tt1 _ (List.mem_of_getElem? (i := 7) rfl))
theorem lzS3 : (Cond.laysStatic "WishToChip$Floor" "LEAST_SPAN" "[I") ∈ lw_tbl := List.mem_append_right _ (tt4 _ (List.mem_of_getElem? (i := 92) rfl))
theorem lzN3 : (Cond.initialized "WishToChip$Floor") ∈ lw_tbl := List.mem_append_right _ (tt1 _ (List.mem_of_getElem? (i := 10) rfl))
theorem lzI0 : (Cond.instantiable "WishToChip$Covers" (2 : Nat)) ∈ lw_tbl := List.mem_append_right _ (tt1 _ (List.mem_of_getElem? (i := 202) rfl))
theorem lzI1 : (Cond.instantiable "WishToChip$Floor" (9 : Nat)) ∈ lw_tbl := List.mem_append_right _ (tt1 _ (List.mem_of_getElem? (i := 235) rfl))
theorem lzI2 : (Cond.instantiable "WishToChip$Gates" (3 : Nat)) ∈ lw_tbl := List.mem_append_right _ (tt1 _ (List.mem_of_getElem? (i := 184) rfl))
theorem lzI3 : (Cond.instantiable "WishToChip$Kept" (5 : Nat)) ∈ lw_tbl := List.mem_append_right _ (tt2 _ (List.mem_of_getElem? (i := 68) rfl))
theorem lzI4 : (Cond.instantiable "WishToChip$Lanes" (5 : Nat)) ∈ lw_tbl := List.mem_append_right _ (tt1 _ (List.mem_of_getElem? (i := 159) rfl))
theorem lzI5 : (Cond.instantiable "WishToChip$Reader" (5 : Nat)) ∈ lw_tbl := List.mem_append_right _ (tt1 _ (List.mem_of_getElem? (i := 112) rfl))
theorem lzI6 : (Cond.instantiable "WishToChip$Steps" (4 : Nat)) ∈ lw_tbl := List.mem_append_right _ (tt1 _ (List.mem_of_getElem? (i := 137) rfl))
theorem lzI7 : (Cond.instantiable "WishToChip$Text" (2 : Nat)) ∈ lw_tbl := List.mem_append_right _ (tt1 _ (List.mem_of_getElem? (i := 29) rfl))
theorem lzI8 : (Cond.instantiable "WishToChip$Times" (4 : Nat)) ∈ lw_tbl := List.mem_append_right _ (tt1 _ (List.mem_of_getElem? (i := 215) rfl))
theorem lzI9 : (Cond.instantiable "WishToChip$Trials" (6 : Nat)) ∈ lw_tbl := List.mem_append_right _ (tt2 _ (List.mem_of_getElem? (i := 33) rfl))
theorem lzI10 : (Cond.instantiable "WishToChip$View" (8 : Nat)) ∈ lw_tbl := List.mem_append_right _ (tt1 _ (List.mem_of_getElem? (i := 47) rfl))
theorem lzI11 : (Cond.instantiable "WishToChip" (16 : Nat)) ∈ lw_tbl := List.mem_append_right _ (tt1 _ (List.mem_of_getElem? (i := 20) rfl))
theorem lzI12 : (Cond.instantiable "WishToChipModel" (40 : Nat)) ∈ lw_tbl := List.mem_append_right _ (tt4 _ (List.mem_of_getElem? (i := 231) rfl))
theorem lzAint : (Cond.arrayClass FieldType.int) ∈ lw_tbl := List.mem_append_right _ (tt1 _ (List.mem_of_getElem? (i := 44) rfl))
theorem lzAlong : (Cond.arrayClass FieldType.long) ∈ lw_tbl := List.mem_append_right _ (tt1 _ (List.mem_of_getElem? (i := 182) rfl))
theorem lzO0 : (Cond.arrayOver (FieldType.object "WishToChip$Text")) ∈ lw_tbl := List.mem_append_right _ (tt1 _ (List.mem_of_getElem? (i := 28) rfl))
theorem lzO1 : (Cond.arrayOver (FieldType.object "WishToChip$View")) ∈ lw_tbl := List.mem_append_right _ (tt1 _ (List.mem_of_getElem? (i := 46) rfl))
theorem lzO2 : (Cond.arrayOver (FieldType.object "WishToChip$Kept")) ∈ lw_tbl := List.mem_append_right _ (tt2 _ (List.mem_of_getElem? (i := 67) rfl))
/-! the classes and array classes of the start -/
theorem zK_cl {args : Array Value} {s : State} (hts : ∀ w ∈ lw_tbl, w.before args s = true) (c : Nat) : ∃ (cC : ClassId) (iS : Nat → Nat), ∀ q : vw_C, zcl[c]? = some q → u_Kn s q.1 q.2.1 q.2.2 cC iS := by
  have hz : ∀ w ∈ zgw, w.before args s = true := fun w hw => hts w (List.mem_filter.mp hw).1
  match c with
  | 0 =>
    obtain ⟨a, b, h⟩ := u_known hz in0 (hts _ lzI0)
    exact ⟨a, b, fun q hq => by cases hq; exact h⟩
  | 1 =>
    obtain ⟨a, b, h⟩ := u_known hz in1 (hts _ lzI1)
    exact ⟨a, b, fun q hq => by cases hq; exact h⟩
  | 2 =>
    obtain ⟨a, b, h⟩ := u_known hz in2 (hts _ lzI2)
    exact ⟨a, b, fun q hq => by cases hq; exact h⟩
  | 3 =>
    obtain ⟨a, b, h⟩ := u_known hz in3 (hts _ lzI3)
    exact ⟨a, b, fun q hq => by cases hq; exact h⟩
  | 4 =>
    obtain ⟨a, b, h⟩ := u_known hz in4 (hts _ lzI4)
    exact ⟨a, b, fun q hq => by cases hq; exact h⟩
  | 5 =>
    obtain ⟨a, b, h⟩ := u_known hz in5 (hts _ lzI5)
    exact ⟨a, b, fun q hq => by cases hq; exact h⟩
  | 6 =>
    obtain ⟨a, b, h⟩ := u_known hz in6 (hts _ lzI6)
    exact ⟨a, b, fun q hq => by cases hq; exact h⟩
  | 7 =>
    obtain ⟨a, b, h⟩ := u_known hz in7 (hts _ lzI7)
    exact ⟨a, b, fun q hq => by cases hq; exact h⟩
  | 8 =>
    obtain ⟨a, b, h⟩ := u_known hz in8 (hts _ lzI8)
    exact ⟨a, b, fun q hq => by cases hq; exact h⟩
  | 9 =>
    obtain ⟨a, b, h⟩ := u_known hz in9 (hts _ lzI9)
    exact ⟨a, b, fun q hq => by cases hq; exact h⟩
  | 10 =>
    obtain ⟨a, b, h⟩ := u_known hz in10 (hts _ lzI10)
    exact ⟨a, b, fun q hq => by cases hq; exact h⟩
  | 11 =>
    obtain ⟨a, b, h⟩ := u_known hz in11 (hts _ lzI11)
    exact ⟨a, b, fun q hq => by cases hq; exact h⟩
  | 12 =>
    obtain ⟨a, b, h⟩ := u_known hz in12 (hts _ lzI12)
    exact ⟨a, b, fun q hq => by cases hq; exact h⟩
  | n + 13 =>
    obtain ⟨a, b, -⟩ := u_known hz in0 (hts _ lzI0)
    exact ⟨a, b, fun q hq => by simp [zcl] at hq⟩
theorem zK_of {args : Array Value} {s : State} (hts : ∀ w ∈ lw_tbl, w.before args s = true) : ∃ (D : va_G) (aC : Nat → ClassId), va_K D zcl [(aC 0, .int), (aC 1, .long), (aC 2, .object RX7), (aC 3, .object RX10), (aC 4, .object RX3)] s := by
  obtain ⟨c0, k0, p0, a0, a1, a2⟩ := Cond.arrayClass_spec (hts _ lzAint)
  obtain ⟨c1, k1, p1, b0, b1, b2⟩ := Cond.arrayClass_spec (hts _ lzAlong)
  obtain ⟨p2, c2, k2, d0, -, d1, d2, d3⟩ := Cond.arrayOver_spec (hts _ lzO0)
  obtain ⟨p3, c3, k3, e0, -, e1, e2, e3⟩ := Cond.arrayOver_spec (hts _ lzO1)
  obtain ⟨p4, c4, k4, f0, -, f1, f2, f3⟩ := Cond.arrayOver_spec (hts _ lzO2)
  refine ⟨(fun c => Classical.choose (zK_cl hts c), fun c => Classical.choose (Classical.choose_spec (zK_cl hts c))), fun k => ([c0, c1, c2, c3, c4] : List ClassId).getD k c0, fun c q hq => Classical.choose_spec (Classical.choose_spec (zK_cl hts c)) q hq, fun k q hq => ?_⟩
  match k, hq with
  | 0, hq => cases hq; exact ⟨fun N z => ⟨(fun k h => by cases h), k0, a1, p0, a2⟩, a0⟩
  | 1, hq => cases hq; exact ⟨fun N z => ⟨(fun k h => by cases h), k1, b1, p1, b2⟩, b0⟩
  | 2, hq => cases hq; exact ⟨fun N z => ⟨(fun k h => by cases h), k2, d1, p2, d2⟩, k2, p2, d1, d2, d0, d3⟩
  | 3, hq => cases hq; exact ⟨fun N z => ⟨(fun k h => by cases h), k3, e1, p3, e2⟩, k3, p3, e1, e2, e0, e3⟩
  | 4, hq => cases hq; exact ⟨fun N z => ⟨(fun k h => by cases h), k4, f1, p4, f2⟩, k4, p4, f1, f2, f0, f3⟩
  | n + 5, hq => simp at hq
/-! the arrays of constants -/
set_option maxRecDepth 20000 in
theorem zst_0 {args : Array Value} {s : State} (hts : ∀ w ∈ lw_tbl, w.before args s = true) (hgf : ∀ w ∈ flatC (Jvm.Cond.and given_1 narrow_1), w.before args s = true) : ∃ t : Nat, va_Z "WishToChip$Lanes" "INPUT_LANES" "[J" (.ref t) (fun q => s.heap.size ≤ q) s s.heap ∧ va_T .long t 6 (fun j => .long (inL j)) (fun q => s.heap.size ≤ q) s s.heap := by
  have hel : ∀ j : Nat, j < 6 → (Term.elem (.static "WishToChip$Lanes" "INPUT_LANES" "[J") (.int (Int32.ofNat j))).eval args s none [] s = some ((fun j => .long (inL j) : Nat → Value) j) := by
    intro j hj
    rcases (show j = 0 ∨ j = 1 ∨ j = 2 ∨ j = 3 ∨ j = 4 ∨ j = 5 by omega) with rfl | rfl | rfl | rfl | rfl | rfl
    · exact va_eqtl (t := .elem (.static "WishToChip$Lanes" "INPUT_LANES" "[J") (.int 0)) (z := (-6148914691236517206)) (hgf _ (by decide +kernel))
    · exact va_eqtl (t := .elem (.static "WishToChip$Lanes" "INPUT_LANES" "[J") (.int 1)) (z := (-3689348814741910324)) (hgf _ (by decide +kernel))
    · exact va_eqtl (t := .elem (.static "WishToChip$Lanes" "INPUT_LANES" "[J") (.int 2)) (z := (-1085102592571150096)) (hgf _ (by decide +kernel))
    · exact va_eqtl (t := .elem (.static "WishToChip$Lanes" "INPUT_LANES" "[J") (.int 3)) (z := (-71777214294589696)) (hgf _ (by decide +kernel))
    · exact va_eqtl (t := .elem (.static "WishToChip$Lanes" "INPUT_LANES" "[J") (.int 4)) (z := (-281470681808896)) (hgf _ (by decide +kernel))
    · exact va_eqtl (t := .elem (.static "WishToChip$Lanes" "INPUT_LANES" "[J") (.int 5)) (z := (-4294967296)) (hgf _ (by decide +kernel))
  obtain ⟨t, h1, h2⟩ := va_Tof (args := args) (s := s) (tm := (.static "WishToChip$Lanes" "INPUT_LANES" "[J")) (ty := .long) (N := 6) (f := fun j => .long (inL j)) (A := fun q => s.heap.size ≤ q) (by decide) (hgf _ (by decide +kernel)) (va_eqt (z := 6) (hgf _ (by decide +kernel))) hel (fun a ha => Nat.not_le.mpr ha)
  exact ⟨t, va_Zref (hts _ lzS0) (hts _ lzN0) h1 (fun a ha => Nat.not_le.mpr ha), h2⟩
set_option maxRecDepth 20000 in
theorem zst_1 {args : Array Value} {s : State} (hts : ∀ w ∈ lw_tbl, w.before args s = true) (hgf : ∀ w ∈ flatC (Jvm.Cond.and given_1 narrow_1), w.before args s = true) : ∃ t : Nat, va_Z "WishToChip$Gates" "LEAST_RULE" "[I" (.ref t) (fun q => s.heap.size ≤ q) s s.heap ∧ va_T .int t 5 (fun j => .int (nI (rlo j))) (fun q => s.heap.size ≤ q) s s.heap := by
  have hel : ∀ j : Nat, j < 5 → (Term.elem (.static "WishToChip$Gates" "LEAST_RULE" "[I") (.int (Int32.ofNat j))).eval args s none [] s = some ((fun j => .int (nI (rlo j)) : Nat → Value) j) := by
    intro j hj
    rcases (show j = 0 ∨ j = 1 ∨ j = 2 ∨ j = 3 ∨ j = 4 by omega) with rfl | rfl | rfl | rfl | rfl
    · exact va_eqt (t := .elem (.static "WishToChip$Gates" "LEAST_RULE" "[I") (.int 0)) (z := 50) (hgf _ (by decide +kernel))
    · exact va_eqt (t := .elem (.static "WishToChip$Gates" "LEAST_RULE" "[I") (.int 1)) (z := 50) (hgf _ (by decide +kernel))
    · exact va_eqt (t := .elem (.static "WishToChip$Gates" "LEAST_RULE" "[I") (.int 2)) (z := 50) (hgf _ (by decide +kernel))
    · exact va_eqt (t := .elem (.static "WishToChip$Gates" "LEAST_RULE" "[I") (.int 3)) (z := 0) (hgf _ (by decide +kernel))
    · exact va_eqt (t := .elem (.static "WishToChip$Gates" "LEAST_RULE" "[I") (.int 4)) (z := 1) (hgf _ (by decide +kernel))
  obtain ⟨t, h1, h2⟩ := va_Tof (args := args) (s := s) (tm := (.static "WishToChip$Gates" "LEAST_RULE" "[I")) (ty := .int) (N := 5) (f := fun j => .int (nI (rlo j))) (A := fun q => s.heap.size ≤ q) (by decide) (hgf _ (by decide +kernel)) (va_eqt (z := 5) (hgf _ (by decide +kernel))) hel (fun a ha => Nat.not_le.mpr ha)
  exact ⟨t, va_Zref (hts _ lzS1) (hts _ lzN1) h1 (fun a ha => Nat.not_le.mpr ha), h2⟩
set_option maxRecDepth 20000 in
theorem zst_2 {args : Array Value} {s : State} (hts : ∀ w ∈ lw_tbl, w.before args s = true) (hgf : ∀ w ∈ flatC (Jvm.Cond.and given_1 narrow_1), w.before args s = true) : ∃ t : Nat, va_Z "WishToChip$Gates" "MOST_RULE" "[I" (.ref t) (fun q => s.heap.size ≤ q) s s.heap ∧ va_T .int t 5 (fun j => .int (nI (rhi j))) (fun q => s.heap.size ≤ q) s s.heap := by
  have hel : ∀ j : Nat, j < 5 → (Term.elem (.static "WishToChip$Gates" "MOST_RULE" "[I") (.int (Int32.ofNat j))).eval args s none [] s = some ((fun j => .int (nI (rhi j)) : Nat → Value) j) := by
    intro j hj
    rcases (show j = 0 ∨ j = 1 ∨ j = 2 ∨ j = 3 ∨ j = 4 by omega) with rfl | rfl | rfl | rfl | rfl
    · exact va_eqt (t := .elem (.static "WishToChip$Gates" "MOST_RULE" "[I") (.int 0)) (z := 300) (hgf _ (by decide +kernel))
    · exact va_eqt (t := .elem (.static "WishToChip$Gates" "MOST_RULE" "[I") (.int 1)) (z := 300) (hgf _ (by decide +kernel))
    · exact va_eqt (t := .elem (.static "WishToChip$Gates" "MOST_RULE" "[I") (.int 2)) (z := 300) (hgf _ (by decide +kernel))
    · exact va_eqt (t := .elem (.static "WishToChip$Gates" "MOST_RULE" "[I") (.int 3)) (z := 9) (hgf _ (by decide +kernel))
    · exact va_eqt (t := .elem (.static "WishToChip$Gates" "MOST_RULE" "[I") (.int 4)) (z := 500) (hgf _ (by decide +kernel))
  obtain ⟨t, h1, h2⟩ := va_Tof (args := args) (s := s) (tm := (.static "WishToChip$Gates" "MOST_RULE" "[I")) (ty := .int) (N := 5) (f := fun j => .int (nI (rhi j))) (A := fun q => s.heap.size ≤ q) (by decide) (hgf _ (by decide +kernel)) (va_eqt (z := 5) (hgf _ (by decide +kernel))) hel (fun a ha => Nat.not_le.mpr ha)
  exact ⟨t, va_Zref (hts _ lzS2) (hts _ lzN2) h1 (fun a ha => Nat.not_le.mpr ha), h2⟩
set_option maxRecDepth 20000 in
theorem zst_3 {args : Array Value} {s : State} (hts : ∀ w ∈ lw_tbl, w.before args s = true) (hgf : ∀ w ∈ flatC (Jvm.Cond.and given_1 narrow_1), w.before args s = true) : ∃ t : Nat, va_Z "WishToChip$Floor" "LEAST_SPAN" "[I" (.ref t) (fun q => s.heap.size ≤ q) s s.heap ∧ va_T .int t 8 (fun j => .int (nI (lspN j))) (fun q => s.heap.size ≤ q) s s.heap := by
  have hel : ∀ j : Nat, j < 8 → (Term.elem (.static "WishToChip$Floor" "LEAST_SPAN" "[I") (.int (Int32.ofNat j))).eval args s none [] s = some ((fun j => .int (nI (lspN j)) : Nat → Value) j) := by
    intro j hj
    rcases (show j = 0 ∨ j = 1 ∨ j = 2 ∨ j = 3 ∨ j = 4 ∨ j = 5 ∨ j = 6 ∨ j = 7 by omega) with rfl | rfl | rfl | rfl | rfl | rfl | rfl | rfl
    · exact va_eqt (t := .elem (.static "WishToChip$Floor" "LEAST_SPAN" "[I") (.int 0)) (z := 0) (hgf _ (by decide +kernel))
    · exact va_eqt (t := .elem (.static "WishToChip$Floor" "LEAST_SPAN" "[I") (.int 1)) (z := 0) (hgf _ (by decide +kernel))
    · exact va_eqt (t := .elem (.static "WishToChip$Floor" "LEAST_SPAN" "[I") (.int 2)) (z := 1) (hgf _ (by decide +kernel))
    · exact va_eqt (t := .elem (.static "WishToChip$Floor" "LEAST_SPAN" "[I") (.int 3)) (z := 2) (hgf _ (by decide +kernel))
    · exact va_eqt (t := .elem (.static "WishToChip$Floor" "LEAST_SPAN" "[I") (.int 4)) (z := 2) (hgf _ (by decide +kernel))
    · exact va_eqt (t := .elem (.static "WishToChip$Floor" "LEAST_SPAN" "[I") (.int 5)) (z := 3) (hgf _ (by decide +kernel))
    · exact va_eqt (t := .elem (.static "WishToChip$Floor" "LEAST_SPAN" "[I") (.int 6)) (z := 3) (hgf _ (by decide +kernel))
    · exact va_eqt (t := .elem (.static "WishToChip$Floor" "LEAST_SPAN" "[I") (.int 7)) (z := 4) (hgf _ (by decide +kernel))
  obtain ⟨t, h1, h2⟩ := va_Tof (args := args) (s := s) (tm := (.static "WishToChip$Floor" "LEAST_SPAN" "[I")) (ty := .int) (N := 8) (f := fun j => .int (nI (lspN j))) (A := fun q => s.heap.size ≤ q) (by decide) (hgf _ (by decide +kernel)) (va_eqt (z := 8) (hgf _ (by decide +kernel))) hel (fun a ha => Nat.not_le.mpr ha)
  exact ⟨t, va_Zref (hts _ lzS3) (hts _ lzN3) h1 (fun a ha => Nat.not_le.mpr ha), h2⟩
/-! the state of the start -/
def zra (b t1 t2 t3 t4 : Nat) : Nat → Nat := fun k => ([b, t1, t2, t3, t4] : List Nat).getD k 0
def zI0 (xs : Nat → Int32) : Nat → Nat → Int32 := fun k j => if k = 0 then xs j else if k = 2 then nI (rlo j) else if k = 3 then nI (rhi j) else if k = 4 then nI (lspN j) else 0
def zL0 : Nat → Nat → Int64 := fun k j => if k = 1 then inL j else 0
theorem zI0_z {xs : Nat → Int32} (k : Nat) (h : 5 ≤ k) : zI0 xs k = fun _ => 0 := by
  funext j
  unfold zI0
  rw [if_neg (by omega), if_neg (by omega), if_neg (by omega), if_neg (by omega)]
theorem zL0_z (k : Nat) (h : 5 ≤ k) : zL0 k = fun _ => 0 := by
  funext j
  unfold zL0
  rw [if_neg (by omega)]
theorem zX_ph {p : Program} {l : Launch} {e : Env} {R : Room} {s : State} {m : MethodId} {args : Array Value} {below : List Frame} {meth : Method} {c : Code} {h0 : Nat} {ra : Nat → Nat} {D : va_G} {aC : Nat → ClassId} {nL n0 c0 : Nat} {Q : State → Prop} {pc : Nat} {ls : zL} {st : List Value} {u : zU} (hx : zX p l e R s m args below meth c (h0, ra, D, aC, false) nL n0 c0 Q pc ls st u) : zX p l e R s m args below meth c (h0, ra, D, aC, true) nL n0 c0 Q pc ls st u := fun a b H locs lsA hH hS hl => hx a b H locs lsA ⟨hH.1, (fun h => by cases h), hH.2.2⟩ hS hl
set_option maxHeartbeats 4000000 in
set_option maxRecDepth 100000 in
/-- THE LAW, from its entry -/
theorem whole_start {p : Program} {e : Env} {s : State} {m : MethodId} {below : List Frame} {meth : Method} {c : Code} (l : Launch) {b L : Nat} {xs : Nat → Int32} (hL : L ≤ 2560) (C0 : lw_At p s m meth c b L xs) : W p l e room_1 s m #[Value.ref b] below meth c s.heap [] 0 0 (lw_Z below #[Value.ref b] s) (entryFrame m ([Value.ref b] : List Value).toArray 4) := by
  obtain ⟨hx, hb, hr, hml, hown, hts, hX, hbl, hlocks, hgv⟩ := C0
  have hgf := flat_of_before _ hgv
  obtain ⟨D, aC, hK⟩ := zK_of hts
  obtain ⟨t1, z1, T1⟩ := zst_0 hts hgf
  obtain ⟨t2, z2, T2⟩ := zst_1 hts hgf
  obtain ⟨t3, z3, T3⟩ := zst_2 hts hgf
  obtain ⟨t4, z4, T4⟩ := zst_3 hts hgf
  obtain ⟨scr, hcb, hof, hkn, hsz, hval⟩ := hX
  have hS : ∀ ph : Bool, zS (s.heap.size, zra b t1 t2 t3 t4, D, aC, ph) s := fun ph => by
    refine ⟨hK, Nat.le_refl _, fun j q hq => ?_, fun w hw => ?_, fun n hn => ?_⟩
    · match j, hq with
      | 0, hq => cases hq; exact z1
      | 1, hq => cases hq; exact z2
      | 2, hq => cases hq; exact z3
      | 3, hq => cases hq; exact z4
      | n + 4, hq => simp [zst] at hq
    · obtain ⟨h1, h2⟩ := List.mem_filter.mp hw
      have h3 := hts w (List.mem_append_right _ h1)
      unfold zIsN at h2
      split at h2
      · exact va_Nw.of rfl h3
      · cases h2
    · rcases (show n = 0 ∨ n = 1 ∨ n = 2 by omega) with rfl | rfl | rfl
      · exact va_AO.of (hts _ lzO0)
      · exact va_AO.of (hts _ lzO1)
      · exact va_AO.of (hts _ lzO2)
  have hCx : ∀ (ph : Bool) (dd : Nat), dd ≤ 20 → zCx zty ph RL cL_law 4 (some .boolean) false p l e room_1 s m #[Value.ref b] below meth c (s.heap.size, zra b t1 t2 t3 t4, D, aC, ph) 5 (zcost (zS5 L)) dd (lw_Z below #[Value.ref b] s) (zcal zty zcd ph dd) (zLM L) (fun r _ => r = some (.int 1)) := by
    intro ph dd hd
    refine ⟨⟨hx, hb, hml, hown, fun w hw => hts w (List.mem_filter.mp hw).1, hS ph, (fun h => by cases h), rfl⟩, ⟨?_, ?_, ?_, ?_⟩, fun k av u mc ms post h => zsound zall l (s.heap.size, zra b t1 t2 t3 t4, D, aC, ph) dd k av u mc ms post h, ?_, ?_, ?_⟩
    · show dd + 1 ≤ 2048; omega
    · show 60 * dd + 60 ≤ 84000; omega
    · intro x h1
      have h2 : x ≤ 148 := h1
      show x - 5 ≤ 600000; omega
    · intro x h1
      have h2 : x ≤ zcost (zSH L) := h1
      rw [zSH_cost] at h2
      show x - zcost (zS5 L) ≤ 7302250; omega
    · intro pc bz lsA v u H locs hdg hret hbz hH hS1 hp e1 e2
      have hv : v = 1 := by cases hp; rfl
      subst hv
      refine va_forget (fun q hq => hS1.2.2 q hq) (W.widen ?_ ?_ (lw_ret hx hb hr hlocks hdg))
      · rw [e1]; show 148 - 5 ≤ 600000; decide
      · rw [e2]; show zcost (zSH L) - zcost (zS5 L) ≤ 7302250; rw [zSH_cost]; omega
    · intro pc lsA v u H locs hdg hret
      cases hret
    · intro pc lsA u H locs hdg hret
      cases hret
  have hend : ∀ (J : Nat → Nat → Int32) (K : Nat → Nat → Int64), Inv J K → zX p l e room_1 s m #[Value.ref b] below meth c (s.heap.size, zra b t1 t2 t3 t4, D, aC, true) 4 5 (zcost (zS5 L)) (lw_Z below #[Value.ref b] s) 18 (zLs (nI 0)) [] (zSH L, J, K) := fun J K hJ => zX_ph (zRun_use (hCx false 14 (by decide)) oL_law (law_loop (zn := L) (d := 0) (by omega) _ (fun _ => rfl) L 0 J K (by omega) (by omega) hJ))
  have h0 := law_pro (d := 0) (zn := L) (I := zI0 xs) (L := zL0) (post := fun r _ => r = some (.int 1)) (P := zX p l e room_1 s m #[Value.ref b] below meth c (s.heap.size, zra b t1 t2 t3 t4, D, aC, true) 4 5 (zcost (zS5 L)) (lw_Z below #[Value.ref b] s)) (fun q hq ls st u h => oL_pro q hq p l e room_1 s m _ below meth c _ 5 _ 3 _ _ _ _ (hCx true 3 (by decide)) ls st u h) zI0_z zL0_z ⟨fun i _ => ⟨rfl, rfl⟩, fun i _ => rfl⟩ (fun i _ => rfl) hend
  have hH : zH (s.heap.size, zra b t1 t2 t3 t4, D, aC, true) (zS5 L, zI0 xs, zL0) s s.heap := by
    refine ⟨(fun k q h => by simp [zws, zS5] at h), fun _ => rfl, Nat.le_refl 5, fun k q hk he => ?_⟩
    match k, hk, he with
    | 0, _, he => cases he; exact ⟨fun _ => ⟨scr, hcb, hof, hkn, Nat.le_of_eq hsz.symm, (by rw [hsz]), fun j hj => hval j hj, Nat.not_le.mpr hbl⟩, fun h => absurd h (show ¬ (4 : Nat) = 5 by decide)⟩
    | 1, _, he => cases he; exact ⟨fun h => absurd h (by decide), fun _ => T1⟩
    | 2, _, he => cases he; exact ⟨fun _ => T2, fun h => absurd h (by decide)⟩
    | 3, _, he => cases he; exact ⟨fun _ => T3, fun h => absurd h (by decide)⟩
    | 4, _, he => cases he; exact ⟨fun _ => T4, fun h => absurd h (by decide)⟩
    | n + 5, hk, _ => exact absurd hk (by omega)
  have hW : W p l e room_1 s m #[Value.ref b] below meth c s.heap [] (5 - 5) (zcost (zS5 L) - zcost (zS5 L)) (lw_Z below #[Value.ref b] s) (F0 m 0 _ []) := h0 (Nat.le_refl _) (Nat.le_refl _) s.heap [] _ hH va_S.rf (zen_has (g := (s.heap.size, zra b t1 t2 t3 t4, D, aC, true)) (av := [.ref 0]) (n := 4) (Nat.le_of_ble_eq_true rfl))
  rw [Nat.sub_self, Nat.sub_self] at hW
  rw [lg_entry_eq]
  exact hW

