/-! What the checks say, in words. -/
def q_tb : List Jvm.Cond := lw_tbl.filter goodWord
theorem q_has_mem {w : Nat} {c : Jvm.Cond} (h : q_has w c = true) : c ∈ q_tb := by
  simp only [q_has, Bool.and_eq_true, decide_eq_true_eq] at h
  exact List.mem_filter.mpr ⟨List.mem_of_getElem? h.1, h.2⟩
theorem q_hasN_mem {w : Nat} {c : Jvm.Cond} (h : q_hasN w c = true) : c ∈ lw_tbl := by
  simp only [q_hasN, decide_eq_true_eq] at h
  exact List.mem_of_getElem? h
theorem q_tb_good {c : Jvm.Cond} (h : c ∈ q_tb) : goodWord c = true := (List.mem_filter.mp h).2
set_option maxRecDepth 100000 in
theorem q_cf_all : (List.range q_ft.length).all q_chkF = true := by decide +kernel
def q_ty (ci k : Nat) : FieldType := (parseFieldDescriptor (q_T ci k).2.2.1).getD .int
theorem q_cf {ci k : Nat} (hc : ci < q_ft.length) (hk : k < q_N ci) : u_lay (q_C ci) (q_T ci) k ∈ q_tb ∧ q_dk (q_T ci k).2.2.1 = (q_kd.getD ci []).getD k 0 ∧ parseFieldDescriptor (q_T ci k).2.2.1 = some (q_ty ci k) ∧
    (((q_kd.getD ci []).getD k 0 = 0 ∧ q_ty ci k = .int) ∨ ((q_kd.getD ci []).getD k 0 = 3 ∧ q_ty ci k = .boolean) ∨ ((q_kd.getD ci []).getD k 0 = 1 ∧ ((∃ n, q_ty ci k = .object n) ∨ ∃ t, q_ty ci k = .array t))) ∧
    ∀ j, j < q_N ci → j ≠ k → (q_T ci j).2.1 ≠ (q_T ci k).2.1 := by
  have h := List.all_eq_true.mp q_cf_all ci (List.mem_range.mpr hc)
  have h := List.all_eq_true.mp h k (List.mem_range.mpr hk)
  simp only [Bool.and_eq_true, decide_eq_true_eq] at h
  obtain ⟨⟨⟨⟨h1, h2⟩, h3⟩, h4⟩, h5⟩ := h
  obtain ⟨ty, hty⟩ := Option.isSome_iff_exists.mp h3
  have e : q_ty ci k = ty := by unfold q_ty; rw [hty]; rfl
  refine ⟨q_has_mem h1, h2, by rw [e]; exact hty, ?_, fun j hj hne => ?_⟩
  · rw [e]
    rw [hty] at h4
    cases ty with
    | int => exact Or.inl ⟨of_decide_eq_true h4, rfl⟩
    | boolean => exact Or.inr (Or.inl ⟨of_decide_eq_true h4, rfl⟩)
    | object n => exact Or.inr (Or.inr ⟨of_decide_eq_true h4, Or.inl ⟨n, rfl⟩⟩)
    | array t => exact Or.inr (Or.inr ⟨of_decide_eq_true h4, Or.inr ⟨t, rfl⟩⟩)
    | _ => cases h4
  · have h6 := List.all_eq_true.mp h5 j (List.mem_range.mpr hj)
    simp only [Bool.or_eq_true, decide_eq_true_eq] at h6
    rcases h6 with h6 | h6
    · exact absurd h6 hne
    · exact h6
theorem q_cf_in {ci : Nat} (hc : ci < q_ft.length) : ∀ w ∈ u_ws (q_C ci) (q_T ci) (q_N ci), w ∈ q_tb := by
  intro w hw
  unfold u_ws at hw
  obtain ⟨k, hk, rfl⟩ := List.mem_map.mp hw
  exact (q_cf hc (List.mem_range.mp hk)).1
theorem q_cf_ty {ci : Nat} (hc : ci < q_ft.length) : ∀ k, k < q_N ci → parseFieldDescriptor (q_T ci k).2.2.1 = some (q_ty ci k) := fun _ hk => (q_cf hc hk).2.2.1
theorem q_cf_nm {ci : Nat} (hc : ci < q_ft.length) : ∀ a, a < q_N ci → ∀ b, b < q_N ci → a ≠ b → (q_T ci a).2.1 ≠ (q_T ci b).2.1 := fun a ha _ hb hne => (q_cf hc hb).2.2.2.2 a ha hne
