/-! the constructors -/
abbrev zRt (d : Nat) (code : List (Nat × zT)) (lim : Nat × Nat) (post : zP) : zK := zRun (zcal zty zcd true d) code lim post
theorem zi_00 {I : Nat → Nat → Int32} {k i : Nat} (h : I k i = 0) : zi I k i 0 = I := by
  have := zi_sf (I := I) (k := k) (i := i)
  rwa [h] at this
theorem cX7 {d : Nat} {sh : List zE} {me : Nat} {I : Nat → Nat → Int32} {L : Nat → Nat → Int64} (hme : sh[me]? = some (3, 7, [none, none])) (h5 : 5 ≤ me) (hI : I sh.length = fun _ => 0) (hi : I me 1 = 0) : zRt d kX7_init (sh.length + 1, zcost sh + 200) (fun r u => r = none ∧ u = (sh.set me (3, 7, [some sh.length, none]) ++ [(0, 200, [])], I, L)) 0 [some (.ref me)] [] (sh, I, L) := by
  have hl : me < sh.length := (List.getElem?_eq_some_iff.mp hme).1
  have e1 : sh ++ [(0, 200, [])] = sh.set me (3, 7, [none, none]) ++ [(0, 200, [])] := by
    have := nf_0 hme
    rw [List.append_nil] at this
    rw [← this]
  intro P hw hc
  refine hc _ tX7_init_0 _ _ _ (hc _ tX7_init_1 _ _ _ ⟨Nat.zero_le _, hc _ tX7_init_4 _ _ _ (hc _ tX7_init_5 _ _ _ (hc _ tX7_init_8 _ _ _ ⟨by decide, by decide, Nat.le_refl _, Nat.le_refl _, hI, ?_⟩))⟩)
  show P 10 _ _ (sh ++ [(0, 200, [])], I, L)
  rw [e1]
  refine hc _ tX7_init_10 _ _ _ ⟨_, nf_me hl, h5, by decide, ?_⟩
  dsimp only
  rw [nf_put hl]
  refine hc _ tX7_init_13 _ _ _ (hc _ tX7_init_14 _ _ _ (hc _ tX7_init_15 _ _ _ ⟨_, nf_me hl, h5, (fun h => by cases h), hc _ tX7_init_18 _ _ _ ⟨nf_len, nf_cost hme rfl, rfl, ?_⟩⟩))
  dsimp only
  rw [zi_00 hi]
  rfl

