/-! THE PURE MACHINE. A state is (shape, ints, longs): cell k of the shape is (tag, n, refs): 0 an int array of n, 1 a long array of n, 2 an array of references (component class n), 3 an object of class n; 4, 5 int and long arrays that are only read. -/
abbrev zE : Type := Nat × Nat × List (Option Nat)
abbrev zU : Type := List zE × (Nat → Nat → Int32) × (Nat → Nat → Int64)
abbrev zL : Type := List (Option Value)
abbrev zP : Type := Option Value → zU → Prop
abbrev zC : Type := Nat → List Value → zU → Nat → Nat → zP → Prop
abbrev zK : Type := Nat → zL → List Value → zU → Prop
abbrev zT : Type := zC → Nat × Nat → zP → zK → zL → List Value → zU → Prop
/-- base, the addresses of what is only read, class numbers, array classes, phase (true: cells may still be made) -/
abbrev zG : Type := Nat × (Nat → Nat) × va_G × (Nat → ClassId) × Bool
/-- the words that every frame keeps, and those of nest mates -/
def zgw : List Cond := lw_tbl.filter goodWord
def zIsN (w : Cond) : Bool := match w with
  | .methodLinkNest _ _ _ _ => true
  | _ => false
def zNw : List Cond := tables_1.filter zIsN
theorem zgw_of {w : Cond} (h : w ∈ lw_tbl) (hg : goodWord w = true) : w ∈ zgw := List.mem_filter.mpr ⟨h, hg⟩
theorem zgw_t {w : Cond} {i : Nat} (h : tables_1[i]? = some w) (hg : goodWord w = true) : w ∈ zgw := zgw_of (List.mem_append_right _ (List.mem_of_getElem? h)) hg
theorem zNw_t {w : Cond} {i : Nat} (h : tables_1[i]? = some w) (hg : zIsN w = true) : w ∈ zNw := List.mem_filter.mpr ⟨List.mem_of_getElem? h, hg⟩
theorem zNw_warm {s U : State} (hW : s.WarmedH U.vm) {w : Cond} (hw : w ∈ zNw) (h : va_Nw w s) : va_Nw w U := by
  have h1 := (List.mem_filter.mp hw).2
  unfold zIsN at h1
  split at h1
  · exact va_Nw.warmM hW h
  · cases h1
theorem zNw_same {s U : State} (he : s.vm = U.vm) {w : Cond} (hw : w ∈ zNw) (h : va_Nw w s) : va_Nw w U := by
  have h1 := (List.mem_filter.mp hw).2
  unfold zIsN at h1
  split at h1
  · exact va_Nw.same rfl he h
  · cases h1
theorem zgood {w : Cond} (hw : w ∈ zgw) : (w.onTables && w.keeps) = true ∨ ∃ ty, w = .arrayClass ty := good_of_word (List.mem_filter.mp hw).2
def zr (g : zG) (k : Nat) : Nat := if k < 5 then g.2.1 k else g.1 + (k - 5)
def zV (g : zG) (v : Value) : Value := match v with
  | .ref k => .ref (zr g k)
  | w => w
theorem zV_cat (g : zG) (v : Value) : (zV g v).category = v.category := by cases v <;> rfl
def zAA (g : zG) : Nat → Prop := fun q => g.1 ≤ q
def zcl : List vw_C := [(RX0, TX0, 2), (RX1, TX1, 9), (RX2, TX2, 3), (RX3, TX3, 5), (RX4, TX4, 5), (RX5, TX5, 5), (RX6, TX6, 4), (RX7, TX7, 2), (RX8, TX8, 4), (RX9, TX9, 6), (RX10, TX10, 8), (RX11, TX11, 16), (RX12, TX12, 40)]
def zBt (ty : FieldType) : Bool := match ty with
  | .int => true
  | .boolean => true
  | _ => false
def zBl (N : Nat) (t : Nat → FieldType) : List Bool := (List.range N).map (fun j => zBt (t j))
def zBB : List (List Bool) := [zBl 2 tyX0, zBl 9 tyX1, zBl 3 tyX2, zBl 5 tyX3, zBl 5 tyX4, zBl 5 tyX5, zBl 4 tyX6, zBl 2 tyX7, zBl 4 tyX8, zBl 6 tyX9, zBl 8 tyX10, zBl 16 tyX11, zBl 40 tyX12]
def zB (n : Nat) : List Bool := zBB.getD n []
def zcell (g : zG) (e : zE) (f : Nat → Int32) (h : Nat → Int64) : va_E := match e.1 with
  | 0 => .inl (g.2.2.2.1 0, e.2.1, .inl f)
  | 1 => .inl (g.2.2.2.1 1, e.2.1, .inr (.inl h))
  | 2 => .inl (g.2.2.2.1 (2 + e.2.1), e.2.2.length, .inr (.inr (.inr (.inr (fun j => (e.2.2.getD j none).map (zr g))))))
  | _ => .inr (e.2.1, (zB e.2.1).mapIdx (fun j b => if b = true then Value.int (f j) else va_rf ((e.2.2.getD j none).map (zr g))))
def zsz (e : zE) : Nat := match e.1 with
  | 0 => e.2.1
  | 1 => e.2.1
  | 2 => e.2.2.length
  | _ => (zB e.2.1).length
def zcost (sh : List zE) : Nat := (sh.map zsz).sum
def zws (g : zG) (u : zU) : va_W := (u.1.drop 5).mapIdx (fun j e => (g.1 + j, zcell g e (u.2.1 (j + 5)) (u.2.2 (j + 5))))
def ztys (g : zG) : List (ClassId × FieldType) := [(g.2.2.2.1 0, .int), (g.2.2.2.1 1, .long), (g.2.2.2.1 2, .object RX7), (g.2.2.2.1 3, .object RX10), (g.2.2.2.1 4, .object RX3)]
def zcn (n : Nat) : String := match n with
  | 0 => RX7
  | 1 => RX10
  | _ => RX3
def zst : List (String × String × String) := [("WishToChip$Lanes", "INPUT_LANES", "[J"), ("WishToChip$Gates", "LEAST_RULE", "[I"), ("WishToChip$Gates", "MOST_RULE", "[I"), ("WishToChip$Floor", "LEAST_SPAN", "[I")]
def zS (g : zG) (s : State) : Prop := va_K g.2.2.1 zcl (ztys g) s ∧ g.1 ≤ s.heap.size ∧ (∀ (j : Nat) (q : String × String × String), zst[j]? = some q → va_Z q.1 q.2.1 q.2.2 (.ref (g.2.1 (j + 1))) (zAA g) s s.heap) ∧ (∀ w ∈ zNw, va_Nw w s) ∧ ∀ n, n < 3 → va_AO (zcn n) s
def zRo (g : zG) (u : zU) (s : State) (H : Heap) : Prop := ∀ (k : Nat) (e : zE), k < 5 → u.1[k]? = some e → (e.1 = 4 → va_T .int (g.2.1 k) e.2.1 (fun j => .int (u.2.1 k j)) (zAA g) s H) ∧ (e.1 = 5 → va_T .long (g.2.1 k) e.2.1 (fun j => .long (u.2.2 k j)) (zAA g) s H)
def zH (g : zG) (u : zU) (s : State) (H : Heap) : Prop := va_P g.2.2.1 zcl (zws g u) H ∧ (g.2.2.2.2 = true → H.size = g.1 + (u.1.length - 5)) ∧ 5 ≤ u.1.length ∧ zRo g u s s.heap
def zOK (g : zG) (u : zU) (U : State) : Prop := zH g u U U.heap ∧ zS g U
def zQ (g : zG) (post : zP) : Array Value → State → Outcome → State → Prop := fun _ st o t => (∃ (r : Option Value) (u : zU), o = .returned (r.map (zV g)) ∧ post r u ∧ zOK g u t) ∧ va_F (zAA g) st t
def zlv (g : zG) (ls : zL) : List (Nat × Value) := (List.range ls.length).filterMap (fun i => (ls.getD i none).map (fun v => (i, zV g v)))
theorem zlv_mem {g : zG} {ls : zL} {q : Nat × Value} : q ∈ zlv g ls ↔ ∃ v, ls[q.1]? = some (some v) ∧ zV g v = q.2 := by
  obtain ⟨i, w⟩ := q
  simp only [zlv, List.mem_filterMap, List.mem_range]
  constructor
  · rintro ⟨j, hj, h⟩
    rw [List.getD_eq_getElem?_getD] at h
    have h2 : ls[j]? = some (ls[j]) := List.getElem?_eq_getElem hj
    rw [h2] at h
    cases hv : ls[j] with
    | none => rw [hv] at h; simp at h
    | some v =>
      rw [hv] at h
      simp at h
      obtain ⟨rfl, rfl⟩ := h
      exact ⟨v, by rw [h2, hv], rfl⟩
  · rintro ⟨v, h, rfl⟩
    have hj : i < ls.length := (List.getElem?_eq_some_iff.mp h).1
    refine ⟨i, hj, ?_⟩
    rw [List.getD_eq_getElem?_getD, h]
    rfl
theorem zlv_at {g : zG} {ls : zL} {lsA : Array Slot} {nL i : Nat} {v : Value} (h : lv_has lsA nL (zlv g ls)) (hi : ls[i]? = some (some v)) : lsA[i]? = some (.val (zV g v)) := h.2.2 (i, zV g v) (zlv_mem.mpr ⟨v, hi, rfl⟩)
theorem zlv_of {g : zG} {ls : zL} {lsA : Array Slot} {nL : Nat} {l : List (Nat × Value)} (h : lv_has lsA nL l) (hm : ∀ (i : Nat) (v : Value), ls[i]? = some (some v) → (i, zV g v) ∈ l) : lv_has lsA nL (zlv g ls) := by
  refine ⟨h.1, h.2.1, fun q hq => ?_⟩
  obtain ⟨v, hv, e⟩ := zlv_mem.mp hq
  have := h.2.2 _ (hm q.1 v hv)
  rw [← e]; exact this
/-- fewer locals are known -/
def zwk (ls ls' : zL) : Prop := ∀ (i : Nat) (v : Value), ls'[i]? = some (some v) → ls[i]? = some (some v)
theorem zwk_nil : zwk [] [] := fun _ _ h => by simp at h
theorem zwk_n {a : Option Value} {l l' : zL} (h : zwk l l') : zwk (a :: l) (none :: l') := fun i v hi => by
  cases i with
  | zero => simp at hi
  | succ i => simpa using h i v (by simpa using hi)
theorem zwk_s {a : Option Value} {l l' : zL} (h : zwk l l') : zwk (a :: l) (a :: l') := fun i v hi => by
  cases i with
  | zero => simpa using hi
  | succ i => simpa using h i v (by simpa using hi)
theorem zwk_rf {l : zL} : zwk l l := fun _ _ h => h
def zc1 (o : Option Value) : Option Value := match o with
  | some w => if w.category = 2 then none else some w
  | none => none
def zst1 : zL → Nat → Value → zL
  | [], _, _ => []
  | _ :: l, 0, v => some v :: l
  | o :: l, 1, v => zc1 o :: zst1 l 0 v
  | o :: l, i + 2, v => o :: zst1 l (i + 1) v
def zst2 : zL → Nat → Value → zL
  | [], _, _ => []
  | [_], 0, v => [some v]
  | _ :: _ :: l, 0, v => some v :: none :: l
  | o :: l, 1, v => zc1 o :: zst2 l 0 v
  | o :: l, i + 2, v => o :: zst2 l (i + 1) v
theorem zst1_get : ∀ (ls : zL) (i j : Nat) (v : Value), (zst1 ls i v)[j]? = (ls[j]?).map (fun o => if j = i then some v else if j + 1 = i then zc1 o else o)
  | [], i, j, v => by simp [zst1]
  | o :: l, 0, j, v => by
    cases j with
    | zero => simp [zst1]
    | succ j => cases h : l[j]? <;> simp [zst1, h]
  | o :: l, 1, j, v => by
    cases j with
    | zero => simp [zst1]
    | succ j =>
      simp only [zst1, List.getElem?_cons_succ]
      rw [zst1_get l 0 j v]
      cases h : l[j]? <;> simp
  | o :: l, i + 2, j, v => by
    cases j with
    | zero => simp [zst1]
    | succ j =>
      simp only [zst1, List.getElem?_cons_succ]
      rw [zst1_get l (i + 1) j v]
      cases h : l[j]? <;> simp
theorem zst2_get : ∀ (ls : zL) (i j : Nat) (v : Value), (zst2 ls i v)[j]? = (ls[j]?).map (fun o => if j = i then some v else if j = i + 1 then none else if j + 1 = i then zc1 o else o)
  | [], i, j, v => by simp [zst2]
  | [o], 0, j, v => by
    cases j with
    | zero => simp [zst2]
    | succ j => simp [zst2]
  | o :: o2 :: l, 0, j, v => by
    cases j with
    | zero => simp [zst2]
    | succ j =>
      cases j with
      | zero => simp [zst2]
      | succ j => cases h : l[j]? <;> simp [zst2, h]
  | o :: l, 1, j, v => by
    cases j with
    | zero => simp [zst2]
    | succ j =>
      simp only [zst2, List.getElem?_cons_succ]
      rw [zst2_get l 0 j v]
      cases h : l[j]? <;> simp
  | o :: l, i + 2, j, v => by
    cases j with
    | zero => simp [zst2]
    | succ j =>
      simp only [zst2, List.getElem?_cons_succ]
      rw [zst2_get l (i + 1) j v]
      cases h : l[j]? <;> simp
theorem zst1_has {g : zG} {ls : zL} {lsA : Array Slot} {nL i : Nat} {v : Value} (h : lv_has lsA nL ((i, zV g v) :: (zlv g ls).filter (fun q => !(q.1 == i) && !(q.1 + 1 == i && q.2.category == 2)))) : lv_has lsA nL (zlv g (zst1 ls i v)) := by
  refine zlv_of h (fun j w hj => ?_)
  rw [zst1_get] at hj
  cases ho : ls[j]? with
  | none => rw [ho] at hj; simp at hj
  | some o =>
    rw [ho] at hj
    simp only [Option.map_some, Option.some.injEq] at hj
    by_cases h1 : j = i
    · rw [if_pos h1] at hj
      cases hj; subst h1
      exact List.mem_cons_self
    · rw [if_neg h1] at hj
      refine List.mem_cons_of_mem _ (List.mem_filter.mpr ⟨?_, ?_⟩)
      · by_cases h2 : j + 1 = i
        · rw [if_pos h2] at hj
          cases o with
          | none => simp [zc1] at hj
          | some w' =>
            simp only [zc1] at hj
            split at hj
            · cases hj
            · cases hj; exact zlv_mem.mpr ⟨_, ho, rfl⟩
        · rw [if_neg h2] at hj
          subst hj
          exact zlv_mem.mpr ⟨_, ho, rfl⟩
      · by_cases h2 : j + 1 = i
        · rw [if_pos h2] at hj
          cases o with
          | none => simp [zc1] at hj
          | some w' =>
            simp only [zc1] at hj
            split at hj
            · cases hj
            · next hc => cases hj; simp [h1, zV_cat, hc]
        · simp [h1, h2]
theorem zst2_has {g : zG} {ls : zL} {lsA : Array Slot} {nL i : Nat} {v : Value} (h : lv_has lsA nL ((i, zV g v) :: (zlv g ls).filter (fun q => !(q.1 == i) && (!(q.1 == i + 1) && !(q.1 + 1 == i && q.2.category == 2))))) : lv_has lsA nL (zlv g (zst2 ls i v)) := by
  refine zlv_of h (fun j w hj => ?_)
  rw [zst2_get] at hj
  cases ho : ls[j]? with
  | none => rw [ho] at hj; simp at hj
  | some o =>
    rw [ho] at hj
    simp only [Option.map_some, Option.some.injEq] at hj
    by_cases h1 : j = i
    · rw [if_pos h1] at hj
      cases hj; subst h1
      exact List.mem_cons_self
    · rw [if_neg h1] at hj
      by_cases h3 : j = i + 1
      · rw [if_pos h3] at hj; cases hj
      rw [if_neg h3] at hj
      refine List.mem_cons_of_mem _ (List.mem_filter.mpr ⟨?_, ?_⟩)
      · by_cases h2 : j + 1 = i
        · rw [if_pos h2] at hj
          cases o with
          | none => simp [zc1] at hj
          | some w' =>
            simp only [zc1] at hj
            split at hj
            · cases hj
            · cases hj; exact zlv_mem.mpr ⟨_, ho, rfl⟩
        · rw [if_neg h2] at hj
          subst hj
          exact zlv_mem.mpr ⟨_, ho, rfl⟩
      · by_cases h2 : j + 1 = i
        · rw [if_pos h2] at hj
          cases o with
          | none => simp [zc1] at hj
          | some w' =>
            simp only [zc1] at hj
            split at hj
            · cases hj
            · next hc => cases hj; simp [h1, h3, zV_cat, hc]
        · simp [h1, h2, h3]
/-! the world's list -/
theorem zws_at {g : zG} {u : zU} {k : Nat} {e : zE} (h5 : 5 ≤ k) (hk : u.1[k]? = some e) : (zws g u)[k - 5]? = some (zr g k, zcell g e (u.2.1 k) (u.2.2 k)) := by
  simp only [zws, List.getElem?_mapIdx, List.getElem?_drop]
  rw [show 5 + (k - 5) = k by omega, hk, show k - 5 + 5 = k by omega]
  simp [zr, show ¬ k < 5 by omega]
theorem zws_D (g : zG) (u : zU) : va_D (zAA g) (zws g u) := by
  constructor
  · intro i j p q hi hj h
    simp only [zws, List.getElem?_mapIdx] at hi hj
    cases h1 : (u.1.drop 5)[i]? with
    | none => rw [h1] at hi; cases hi
    | some a =>
      cases h2 : (u.1.drop 5)[j]? with
      | none => rw [h2] at hj; cases hj
      | some b =>
        rw [h1] at hi; rw [h2] at hj
        simp only [Option.map_some, Option.some.injEq] at hi hj
        subst hi; subst hj
        simp at h
        exact h
  · intro k q hk
    simp only [zws, List.getElem?_mapIdx] at hk
    cases h1 : (u.1.drop 5)[k]? with
    | none => rw [h1] at hk; cases hk
    | some a =>
      rw [h1] at hk
      simp only [Option.map_some, Option.some.injEq] at hk
      subst hk
      exact Nat.le_add_right _ _
theorem zws_set {g : zG} {u u' : zU} {k : Nat} {e' : zE} {w : Nat × va_E} (h5 : 5 ≤ k) (hl : u'.1.length = u.1.length) (hk' : u'.1[k]? = some e') (ho : ∀ j, j ≠ k → u'.1[j]? = u.1[j]? ∧ u'.2.1 j = u.2.1 j ∧ u'.2.2 j = u.2.2 j) (hw : w = (zr g k, zcell g e' (u'.2.1 k) (u'.2.2 k))) : (zws g u).set (k - 5) w = zws g u' := by
  have hlt : k < u.1.length := by rw [← hl]; exact (List.getElem?_eq_some_iff.mp hk').1
  refine List.ext_getElem? (fun j => ?_)
  rw [List.getElem?_set]
  by_cases hj : k - 5 = j
  · rw [if_pos hj, hw, ← hj, zws_at h5 hk']
    have : k - 5 < (zws g u).length := by simp [zws]; omega
    rw [if_pos this]
  · rw [if_neg hj]
    simp only [zws, List.getElem?_mapIdx, List.getElem?_drop]
    have h1 := ho (5 + j) (by omega)
    have h2 := ho (j + 5) (by omega)
    rw [h1.1, h2.2.1, h2.2.2]
theorem zws_push {g : zG} {u : zU} {e : zE} {f : Nat → Int32} {h : Nat → Int64} (h5 : 5 ≤ u.1.length) (hf : u.2.1 u.1.length = f) (hh : u.2.2 u.1.length = h) : zws g (u.1 ++ [e], u.2) = zws g u ++ [(g.1 + (u.1.length - 5), zcell g e f h)] := by
  subst hf; subst hh
  simp only [zws]
  rw [List.drop_append_of_le_length h5, List.mapIdx_append]
  simp
  rw [show u.1.length - 5 + 5 = u.1.length by omega]
