/-! Locals of the pure machine. -/
theorem q_ld_iff {ls : List (Option qV)} {i : Nat} {v : qV} : q_ld ls i = some v ↔ ls[i]? = some (some v) := by
  unfold q_ld
  split
  · rename_i w h
    rw [h]
    simp
  · rename_i h
    constructor
    · intro e; cases e
    · intro e; exact absurd e (h v)
theorem q_kl_length (lp : List (Option qV)) (i : Nat) : (q_kl lp i).length = lp.length := by
  unfold q_kl
  split
  · rfl
  · split
    · simp
    · rfl
theorem q_kl_get {lp : List (Option qV)} {i j : Nat} {u : qV} (h : (q_kl lp i)[j]? = some (some u)) : lp[j]? = some (some u) ∧ ¬ (j + 1 = i ∧ q_cat u = 2) := by
  unfold q_kl at h
  split at h
  · exact ⟨h, fun e => by omega⟩
  · rename_i k
    split at h
    · rename_i w hw
      by_cases e : j = k
      · subst e
        rw [List.getElem?_set_self' ] at h
        cases hl : lp[j]? with
        | none => rw [hl] at h; simp at h
        | some z => rw [hl] at h; simp at h
      · rw [List.getElem?_set_ne (fun q => e q.symm)] at h
        exact ⟨h, fun q => e (by omega)⟩
    · rename_i hw
      refine ⟨h, fun q => ?_⟩
      obtain ⟨e, hc⟩ := q
      have e : j = k := by omega
      subst e
      rcases u with x | x | (_ | r) | u
      · cases hc
      · exact hw x (q_ld_iff.mpr h)
      · cases hc
      · cases hc
      · cases hc
theorem q_st_length (lp : List (Option qV)) (i : Nat) (v : qV) : (q_st lp i v).length = lp.length := by rw [q_st, List.length_set, q_kl_length]
theorem q_st2_length (lp : List (Option qV)) (i : Nat) (v : qV) : (q_st2 lp i v).length = lp.length := by rw [q_st2, List.length_set, List.length_set, q_kl_length]
theorem q_st_get {lp : List (Option qV)} {i j : Nat} {v u : qV} (h : (q_st lp i v)[j]? = some (some u)) : (j = i ∧ u = v) ∨ (j ≠ i ∧ lp[j]? = some (some u) ∧ ¬ (j + 1 = i ∧ q_cat u = 2)) := by
  unfold q_st at h
  by_cases e : j = i
  · subst e
    rw [List.getElem?_set_self'] at h
    cases hl : (q_kl lp j)[j]? with
    | none => rw [hl] at h; simp at h
    | some z => rw [hl] at h; simp at h; exact Or.inl ⟨rfl, h.symm⟩
  · rw [List.getElem?_set_ne (fun q => e q.symm)] at h
    exact Or.inr ⟨e, q_kl_get h⟩
theorem q_st2_get {lp : List (Option qV)} {i j : Nat} {v u : qV} (h : (q_st2 lp i v)[j]? = some (some u)) : (j = i ∧ u = v) ∨ (j ≠ i ∧ j ≠ i + 1 ∧ lp[j]? = some (some u) ∧ ¬ (j + 1 = i ∧ q_cat u = 2)) := by
  unfold q_st2 at h
  by_cases e : j = i + 1
  · subst e
    rw [List.getElem?_set_self'] at h
    cases hl : ((q_kl lp i).set i (some v))[i + 1]? with
    | none => rw [hl] at h; simp at h
    | some z => rw [hl] at h; simp at h
  · rw [List.getElem?_set_ne (fun q => e q.symm)] at h
    rcases q_st_get h with h | ⟨h1, h2⟩
    · exact Or.inl h
    · exact Or.inr ⟨h1, e, h2⟩
theorem q_st_put {lp : List (Option qV)} {i j : Nat} {v u : qV} (h1 : j ≠ i) (h2 : lp[j]? = some (some u)) (h3 : ¬ (j + 1 = i ∧ q_cat u = 2)) : (q_st lp i v)[j]? = some (some u) := by
  unfold q_st
  rw [List.getElem?_set_ne (fun q => h1 q.symm)]
  unfold q_kl
  split
  · exact h2
  · rename_i k
    split
    · rename_i w hw
      by_cases e : j = k
      · subst e
        rw [q_ld_iff] at hw
        rw [hw] at h2
        have e2 : u = .inr (.inl w) := by simpa using h2.symm
        exact absurd ⟨rfl, by rw [e2]; rfl⟩ h3
      · rw [List.getElem?_set_ne (fun q => e q.symm)]
        exact h2
    · exact h2
