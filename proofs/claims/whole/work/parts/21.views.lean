/-! TOKENS and LINES: kinds 0 to 18 names, 19 '0', 20 '1', 21 '~', 22 '&', 23 '|', 24 '^', 25 '?' -/
def ar (k : Nat) : Nat := if k = 21 then 1 else if k = 22 then 2 else if k = 23 then 2 else if k = 24 then 2 else if k = 25 then 3 else 0
def depd (d : Nat) (ks : List Nat) : Nat := ks.foldl (fun d k => d - ar k + 1) d
def okd : Nat → List Nat → Prop
  | _, [] => True
  | d, k :: r => k < 26 ∧ ar k ≤ d ∧ d - ar k < 10 ∧ okd (d - ar k + 1) r
def wfl (ks : List Nat) : Prop := okd 0 ks ∧ depd 0 ks = 1
theorem depd_app (d : Nat) (a b : List Nat) : depd d (a ++ b) = depd (depd d a) b := by simp [depd]
theorem okd_app : ∀ (d : Nat) (a b : List Nat), okd d (a ++ b) ↔ okd d a ∧ okd (depd d a) b
  | d, [], b => by simp [okd, depd]
  | d, k :: a, b => by
    have ih := okd_app (d - ar k + 1) a b
    simp only [List.cons_append, okd, ih]
    constructor
    · rintro ⟨h1, h2, h3, h4, h5⟩; exact ⟨⟨h1, h2, h3, h4⟩, h5⟩
    · rintro ⟨⟨h1, h2, h3, h4⟩, h5⟩; exact ⟨h1, h2, h3, h4, h5⟩
theorem take_s {α : Type} {ks : List α} {i : Nat} {k : α} (h : ks[i]? = some k) : ks.take (i + 1) = ks.take i ++ [k] := by
  rw [List.take_succ, h]; rfl
theorem depd_succ {ks : List Nat} {d i k : Nat} (h : ks[i]? = some k) : depd d (ks.take (i + 1)) = depd d (ks.take i) - ar k + 1 := by
  rw [take_s h, depd_app]; rfl
theorem okd_take {ks : List Nat} {d : Nat} (h : okd d ks) (i : Nat) : okd d (ks.take i) := by
  have h2 := h
  rw [← List.take_append_drop i ks, okd_app] at h2
  exact h2.1
theorem okd_at {ks : List Nat} {d i k : Nat} (h : okd d ks) (hi : ks[i]? = some k) : k < 26 ∧ ar k ≤ depd d (ks.take i) ∧ depd d (ks.take i) - ar k < 10 := by
  have h2 := okd_take h (i + 1)
  rw [take_s hi, okd_app] at h2
  exact ⟨h2.2.1, h2.2.2.1, h2.2.2.2.1⟩
theorem okd_le : ∀ (ks : List Nat) (d : Nat), d ≤ 10 → okd d ks → depd d ks ≤ 10
  | [], d, h, _ => h
  | k :: r, d, _, h => okd_le r (d - ar k + 1) (by have := h.2.2.1; omega) h.2.2.2
/-! running them: the values lie in slots, the depth says how many -/
def stp {α : Type} (op : Nat → α → α → α → α) (env : Nat → α) (s : Nat × (Nat → α)) (k : Nat) : Nat × (Nat → α) := (s.1 - ar k + 1, fun j => if j = s.1 - ar k then (if k < 19 then env k else op k (s.2 (s.1 - ar k)) (s.2 (s.1 - ar k + 1)) (s.2 (s.1 - ar k + 2))) else s.2 j)
def rpn {α : Type} (op : Nat → α → α → α → α) (env : Nat → α) (s : Nat × (Nat → α)) (ks : List Nat) : Nat × (Nat → α) := ks.foldl (stp op env) s
theorem rpn_succ {α : Type} {op : Nat → α → α → α → α} {env : Nat → α} {s : Nat × (Nat → α)} {ks : List Nat} {i k : Nat} (h : ks[i]? = some k) : rpn op env s (ks.take (i + 1)) = stp op env (rpn op env s (ks.take i)) k := by
  unfold rpn
  rw [take_s h, List.foldl_append]; rfl
theorem rpn_dep {α : Type} (op : Nat → α → α → α → α) (env : Nat → α) : ∀ (ks : List Nat) (s : Nat × (Nat → α)), (rpn op env s ks).1 = depd s.1 ks
  | [], s => rfl
  | k :: r, s => by
    show (rpn op env (stp op env s k) r).1 = depd (s.1 - ar k + 1) r
    rw [rpn_dep op env r]; rfl
/-- two domains whose gates keep a relation -/
def opRel {α β : Type} (R : α → β → Prop) (f : Nat → α → α → α → α) (g : Nat → β → β → β → β) : Prop := ∀ (k : Nat) (a b c : α) (a' b' c' : β), 19 ≤ k → k < 26 → (1 ≤ ar k → R a a') → (2 ≤ ar k → R b b') → (3 ≤ ar k → R c c') → R (f k a b c) (g k a' b' c')
theorem rpn_rel {α β : Type} {R : α → β → Prop} {f : Nat → α → α → α → α} {g : Nat → β → β → β → β} {ea : Nat → α} {eb : Nat → β} (hop : opRel R f g) : ∀ (ks : List Nat) (d : Nat) (a : Nat → α) (b : Nat → β), (∀ k ∈ ks, k < 19 → R (ea k) (eb k)) → okd d ks → (∀ j, j < d → R (a j) (b j)) → ∀ j, j < depd d ks → R ((rpn f ea (d, a) ks).2 j) ((rpn g eb (d, b) ks).2 j)
  | [], d, a, b, _, _, h, j, hj => h j hj
  | k :: r, d, a, b, he, hk, h, j, hj => by
    obtain ⟨h1, h2, h3, h4⟩ := hk
    refine rpn_rel hop r (d - ar k + 1) _ _ (fun x hx => he x (List.mem_cons_of_mem _ hx)) h4 (fun i hi => ?_) j hj
    show R (if i = d - ar k then _ else a i) (if i = d - ar k then _ else b i)
    by_cases hi2 : i = d - ar k
    · rw [if_pos hi2, if_pos hi2]
      by_cases hk2 : k < 19
      · rw [if_pos hk2, if_pos hk2]
        exact he k List.mem_cons_self hk2
      · rw [if_neg hk2, if_neg hk2]
        exact hop k _ _ _ _ _ _ (by omega) h1 (fun z => h _ (by show d - ar k < d; omega)) (fun z => h _ (by show d - ar k + 1 < d; omega)) (fun z => h _ (by show d - ar k + 2 < d; omega))
    · rw [if_neg hi2, if_neg hi2]
      exact h i (by omega)
def ev {α : Type} (op : Nat → α → α → α → α) (env : Nat → α) (z : α) (ks : List Nat) : α := (rpn op env (0, fun _ => z) ks).2 0
theorem opRel_eq {α : Type} {f : Nat → α → α → α → α} (h : ∀ (k : Nat) (a b c a' b' c' : α), 19 ≤ k → k < 26 → (1 ≤ ar k → a = a') → (2 ≤ ar k → b = b') → (3 ≤ ar k → c = c') → f k a b c = f k a' b' c') : opRel Eq f f := fun k a b c a' b' c' h1 h2 h3 h4 h5 => h k a b c a' b' c' h1 h2 h3 h4 h5
/-- what lay in the slots before doesn't matter -/
theorem ev_any {α : Type} {f : Nat → α → α → α → α} (hop : opRel Eq f f) {ks : List Nat} (hw : wfl ks) (env : Nat → α) (z : α) (a : Nat → α) : (rpn f env (0, a) ks).2 0 = ev f env z ks :=
  rpn_rel hop ks 0 a (fun _ => z) (fun _ _ _ => rfl) hw.1 (fun j hj => absurd hj (Nat.not_lt_zero j)) 0 (by rw [hw.2]; decide)
theorem ev_rel {α β : Type} {R : α → β → Prop} {f : Nat → α → α → α → α} {g : Nat → β → β → β → β} (hop : opRel R f g) {ks : List Nat} (hw : wfl ks) {ea : Nat → α} {eb : Nat → β} (he : ∀ k ∈ ks, k < 19 → R (ea k) (eb k)) (z : α) (y : β) : R (ev f ea z ks) (ev g eb y ks) :=
  rpn_rel hop ks 0 _ _ he hw.1 (fun j hj => absurd hj (Nat.not_lt_zero j)) 0 (by rw [hw.2]; decide)
/-! VIEWS: a name's LINE -/
abbrev zVw : Type := Nat → Option (List Nat)
def okV (V : zVw) : Prop := ∀ n ks, V n = some ks → 6 ≤ n ∧ n < 19 ∧ wfl ks
/-- wires with LINES, each behind those that it needs -/
def topw (V : zVw) (os : List Nat) : Prop := (∀ w, 6 ≤ w → w < 15 → (V w).isSome = true → w ∈ os) ∧ ∀ (i o : Nat) (ks : List Nat) (w : Nat), os[i]? = some o → V o = some ks → w ∈ ks → 6 ≤ w → w < 15 → w ∈ os.take i
def sol {α : Type} (op : Nat → α → α → α → α) (z : α) (V : zVw) (pst : Nat → α → α) (dfl : α) (env : Nat → α) : Prop := ∀ w, 6 ≤ w → w < 15 → env w = pst w (match V w with
  | some ks => ev op env z ks
  | none => dfl)
theorem sol_rel {α β : Type} {R : α → β → Prop} {f : Nat → α → α → α → α} {g : Nat → β → β → β → β} (hop : opRel R f g) {V : zVw} (hV : okV V) {os : List Nat} (ht : topw V os) {z : α} {y : β} {pa : Nat → α → α} {pb : Nat → β → β} {da : α} {db : β} {ea : Nat → α} {eb : Nat → β} (ha : sol f z V pa da ea) (hb : sol g y V pb db eb) (hp : ∀ w a b, 6 ≤ w → w < 15 → R a b → R (pa w a) (pb w b)) (hd : R da db) (hbase : ∀ n, n < 19 → ¬ (6 ≤ n ∧ n < 15) → R (ea n) (eb n)) : ∀ n, n < 19 → R (ea n) (eb n) := by
  have hw : ∀ (i w : Nat), w ∈ os.take i → 6 ≤ w → w < 15 → R (ea w) (eb w) := by
    intro i
    induction i with
    | zero => intro w h; simp at h
    | succ i ih =>
      intro w h h6 h15
      cases ho : os[i]? with
      | none =>
        rw [List.take_succ, ho] at h
        simp at h
        exact ih w h h6 h15
      | some o =>
        rw [take_s ho] at h
        rcases List.mem_append.mp h with h | h
        · exact ih w h h6 h15
        · simp at h
          subst h
          rw [ha w h6 h15, hb w h6 h15]
          refine hp w _ _ h6 h15 ?_
          cases hv : V w with
          | none => exact hd
          | some ks =>
            refine ev_rel hop (hV w ks hv).2.2 (fun k hk hk2 => ?_) z y
            by_cases hkw : 6 ≤ k ∧ k < 15
            · exact ih k (ht.2 i w ks k ho hv hk hkw.1 hkw.2) hkw.1 hkw.2
            · exact hbase k hk2 hkw
  intro n hn
  by_cases hnw : 6 ≤ n ∧ n < 15
  · cases hv : V n with
    | none =>
      rw [ha n hnw.1 hnw.2, hb n hnw.1 hnw.2, hv]
      exact hp n _ _ hnw.1 hnw.2 hd
    | some ks =>
      have hm := ht.1 n hnw.1 hnw.2 (by rw [hv]; rfl)
      exact hw os.length n (by rw [List.take_length]; exact hm) hnw.1 hnw.2
  · exact hbase n hn hnw

