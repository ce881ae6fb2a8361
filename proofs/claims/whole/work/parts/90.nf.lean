/-! a shape under a constructor: the object's entry set, new cells behind -/
theorem nf_put {sh : List zE} {me : Nat} {E E' : zE} {A : List zE} (h : me < sh.length) : (sh.set me E ++ A).set me E' = sh.set me E' ++ A := by
  rw [List.set_append_left _ _ (by rw [List.length_set]; exact h), List.set_set]
theorem nf_new {sh : List zE} {me : Nat} {E c : zE} {A : List zE} : (sh.set me E ++ A) ++ [c] = sh.set me E ++ (A ++ [c]) := List.append_assoc _ _ _
theorem nf_me {sh : List zE} {me : Nat} {E : zE} {A : List zE} (h : me < sh.length) : (sh.set me E ++ A)[me]? = some E := by
  rw [List.getElem?_append_left (by rw [List.length_set]; exact h), List.getElem?_set_self h]
theorem nf_at {sh : List zE} {me i : Nat} {E : zE} {A : List zE} : (sh.set me E ++ A)[sh.length + i]? = A[i]? := by
  rw [List.getElem?_append_right (by rw [List.length_set]; omega), List.length_set, Nat.add_sub_cancel_left]
theorem nf_sub {sh : List zE} {me i : Nat} {E F : zE} {A B : List zE} : (sh.set me E ++ A).set (sh.length + i) F ++ B = sh.set me E ++ (A.set i F ++ B) := by
  rw [List.set_append_right _ _ (by rw [List.length_set]; omega), List.length_set, Nat.add_sub_cancel_left, List.append_assoc]
theorem nf_len {sh : List zE} {me : Nat} {E : zE} {A : List zE} : (sh.set me E ++ A).length = sh.length + A.length := by rw [List.length_append, List.length_set]
theorem nf_0 {sh : List zE} {me : Nat} {E : zE} (h : sh[me]? = some E) : sh = sh.set me E ++ [] := by
  obtain ⟨h1, h2⟩ := List.getElem?_eq_some_iff.mp h
  rw [List.append_nil, ← h2, List.set_getElem_self]
theorem zcost_app (a b : List zE) : zcost (a ++ b) = zcost a + zcost b := by simp [zcost]
theorem nf_cost {sh : List zE} {me : Nat} {E E' : zE} {A : List zE} (h : sh[me]? = some E) (he : zsz E' = zsz E) : zcost (sh.set me E' ++ A) = zcost sh + zcost A := by
  rw [zcost_app, zset_cost h he]

