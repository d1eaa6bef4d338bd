/-! Merges: the model's lines. -/
section Splits
variable {X : Nat × (Nat → Int32)} {s : qM} {KV : qM → Prop} {KI : Int → qM → Prop} {w M : Int}
theorem k_m_splits (w0 : 0 ≤ w ∧ w ≤ 2) (M0 : 0 ≤ M) (M2 : M ≤ 240) (h : ∀ s', (∀ r, r ≠ 156 → r ≠ 157 → r ≠ 158 → s' r = s r) → (∀ i, i ≠ w → s' 156 i = s 156 i) → (∀ i, i < 241 * w ∨ 241 * w + 241 ≤ i → s' 157 i = s 157 i ∧ s' 158 i = s 158 i) → zLn (fun i => s 155 (240 * w + i)) M (s' 156 w) (fun l => s' 157 (241 * w + l) - 240 * w) (fun l => s' 158 (241 * w + l) - 240 * w) → KV s') : c_m_splits X w M s KV := by
  generalize et : (fun i => s 155 (240 * w + i)) = t at h
  have ti : ∀ i, s 155 (240 * w + i) = t i := fun i => by rw [← et]
  have L : ∀ (m : Nat) (v j : Int) (s1 : qM), v + m = M → 0 ≤ j → j ≤ v → (∀ r, r ≠ 157 → r ≠ 158 → s1 r = s r) → (∀ i, i < 241 * w ∨ 241 * w + 241 ≤ i → s1 157 i = s 157 i ∧ s1 158 i = s 158 i) → s1 157 (241 * w + 0) = 240 * w → (∀ l, 0 ≤ l → l ≤ j → 240 * w ≤ s1 157 (241 * w + l) ∧ s1 157 (241 * w + l) ≤ 240 * w + v) → (∀ l, 0 ≤ l → l < j → s1 158 (241 * w + l) - 240 * w = zEnd t (s1 157 (241 * w + l) - 240 * w) M ∧ s1 158 (241 * w + l) < 240 * w + M ∧ s1 157 (241 * w + (l + 1)) = s1 158 (241 * w + l) + 1) → (∀ i, s1 157 (241 * w + j) - 240 * w ≤ i → i < v → t i ≠ 10) → L_m_splits_20 X w M j v s1 KV := by
    intro m
    induction m with
    | zero =>
      intro v j s1 hv hj hjv f o b0 bb be bn
      refine sg_m_splits_20 (z_t (by omega) ⟨by omega, by omega, by omega, by omega, by omega, by omega, fun s2 e2 => ⟨by omega, by omega, by omega, fun s3 e3 => ?_⟩⟩)
      have g157 : s3 157 = s1 157 := by rw [e3, q_up_ne (by decide), e2, q_up_ne (by decide)]
      have g158 : s3 158 (241 * w + j) = 240 * w + M := by rw [e3, q_up_ne (by decide), e2, q_up_at]
      have n158 : ∀ i, i ≠ 241 * w + j → s3 158 i = s1 158 i := fun i hi => by rw [e3, q_up_ne (by decide), e2, q_up_nj hi]
      have g156 : s3 156 w = j + 1 := by rw [e3, q_up_at]
      refine h s3 (fun r u x y => by rw [e3, q_up_ne u, e2, q_up_ne y]; exact f r x y) (fun i hi => by rw [e3, q_up_nj hi, e2, q_up_ne (by decide), f 156 (by decide) (by decide)]) (fun i hi => ?_) ?_
      · rw [g157, n158 i (by omega)]; exact o i hi
      · rw [g156]
        refine ⟨by omega, by omega, ?_, fun l a b => ?_, fun l a b => ?_, ?_⟩
        · show s3 157 (241 * w + 0) - 240 * w = 0
          rw [g157, b0]; omega
        · show 0 ≤ s3 157 (241 * w + l) - 240 * w ∧ s3 157 (241 * w + l) - 240 * w ≤ M ∧ s3 158 (241 * w + l) - 240 * w = zEnd t (s3 157 (241 * w + l) - 240 * w) M
          rw [g157]
          have hl := bb l a (by omega)
          refine ⟨by omega, by omega, ?_⟩
          by_cases hlj : l = j
          · rw [hlj, g158]
            rw [hlj] at hl
            refine (zEnd_eq (by omega) (by omega) (fun i c d => bn i c (by omega)) (Or.inl (by omega))).symm
          · rw [n158 _ (by omega)]; exact (be l a (by omega)).1
        · show s3 158 (241 * w + l) - 240 * w < M ∧ s3 157 (241 * w + (l + 1)) - 240 * w = s3 158 (241 * w + l) - 240 * w + 1
          rw [g157, n158 _ (by omega)]
          have := be l a (by omega)
          omega
        · show s3 158 (241 * w + (j + 1 - 1)) - 240 * w = M
          rw [show j + 1 - 1 = j by omega, g158]; omega
    | succ m ih =>
      intro v j s1 hv hj hjv f o b0 bb be bn
      have et' : s1 155 (240 * w + v) = t v := by rw [f 155 (by decide) (by decide)]; exact ti v
      refine sg_m_splits_20 (z_f (by omega) ⟨by omega, by omega, by omega, by omega, ?_⟩)
      rw [et']
      refine z_c (fun ne => ⟨by omega, ?_⟩) (fun eq => ?_)
      · exact ih (v + 1) j s1 (by omega) hj (by omega) f o b0 (fun l a b => by have := bb l a b; omega) be (fun i a b => by
          by_cases hi : i = v
          · rw [hi]; exact ne
          · exact bn i a (by omega))
      · have eq := Decidable.not_not.mp eq
        refine ⟨by omega, by omega, by omega, by omega, by omega, by omega, fun s3 e3 => ⟨by omega, by omega, by omega, by omega, by omega, by omega, by omega, by omega, fun s4 e4 => ⟨by omega, ?_⟩⟩⟩
        have hb := bb j hj (by omega)
        have g157 : s4 157 (241 * w + (j + 1)) = 240 * w + v + 1 := by rw [e4, q_up_at]
        have n157 : ∀ i, i ≠ 241 * w + (j + 1) → s4 157 i = s1 157 i := fun i hi => by rw [e4, q_up_nj hi, e3, q_up_ne (by decide)]
        have g158 : s4 158 (241 * w + j) = 240 * w + v := by rw [e4, q_up_ne (by decide), e3, q_up_at]
        have n158 : ∀ i, i ≠ 241 * w + j → s4 158 i = s1 158 i := fun i hi => by rw [e4, q_up_ne (by decide), e3, q_up_nj hi]
        refine ih (v + 1) (j + 1) s4 (by omega) (by omega) (by omega) (fun r x y => by rw [e4, q_up_ne x, e3, q_up_ne y]; exact f r x y) (fun i hi => ?_) ?_ (fun l a b => ?_) (fun l a b => ?_) (fun i a b => ?_)
        · rw [n157 i (by omega), n158 i (by omega)]; exact o i hi
        · rw [n157 _ (by omega)]; exact b0
        · by_cases hl : l = j + 1
          · rw [hl, g157]; omega
          · rw [n157 _ (by omega)]; have := bb l a (by omega); omega
        · rw [n157 (241 * w + l) (by omega)]
          by_cases hl : l = j
          · rw [hl, g158, g157]
            refine ⟨?_, by omega, by omega⟩
            refine (zEnd_eq (by omega) (by omega) (fun i c d => bn i c (by omega)) (Or.inr ?_)).symm
            rw [show 240 * w + v - 240 * w = v by omega]; exact eq
          · rw [n158 _ (by omega), n157 _ (by omega)]; exact be l a (by omega)
        · rw [g157] at a; omega
  refine sg_m_splits ⟨by omega, by omega, by omega, by omega, fun s1 e1 => ?_⟩
  refine L M.toNat 0 0 s1 (by omega) (Int.le_refl 0) (Int.le_refl 0) (fun r x y => by rw [e1, q_up_ne x]) (fun i hi => by rw [e1, q_up_nj (by omega), q_up_ne (by decide)]; exact ⟨rfl, rfl⟩) (by rw [e1, Int.add_zero, q_up_at]) (fun l a b => ?_) (fun l a b => by omega) (fun i a b => ?_)
  · rw [show l = 0 by omega, e1, Int.add_zero, q_up_at]; omega
  · rw [e1, Int.add_zero, q_up_at] at a; omega
/-- all the texts -/
theorem k_m_all (h : ∀ s', (∀ r, r ≠ 155 → s' r = s r) → (∀ i, 0 ≤ i → i < 240 → s' 155 i = s 115 i ∧ s' 155 (240 + i) = s 114 i ∧ s' 155 (480 + i) = s 115 (240 + i)) → c_m_splits X 0 (s' 116 0) s' (fun s1 => c_m_splits X 1 (s1 113 0) s1 (fun s2 => c_m_splits X 2 (s2 116 1) s2 (fun s3 => c_m_takesTogether X 1 s3 (fun s4 => c_m_takesTogether X 2 s4 (fun s5 => (∀ s6 : qM, s6 = q_up s5 113 63 0 → (∀ s7 : qM, s7 = q_up s6 113 64 0 → L_m_merge_131 X 0 0 0 0 0 s7 KI)))))))) : L_m_merge_7 X 0 s KI := by
  have L : ∀ (c : Nat) (v : Int) (s1 : qM), v + c = 240 → 0 ≤ v → (∀ r, r ≠ 155 → s1 r = s r) → (∀ i, 0 ≤ i → i < v → s1 155 i = s 115 i ∧ s1 155 (240 + i) = s 114 i ∧ s1 155 (480 + i) = s 115 (240 + i)) → L_m_merge_7 X v s1 KI := by
    intro c
    induction c with
    | zero =>
      intro v s1 hv v0 f w
      rw [show v = 240 by omega] at w ⊢
      exact sg_m_merge_7 (z_t (by decide) (h s1 f w))
    | succ c ih =>
      intro v s1 hv v0 f w
      refine sg_m_merge_7 (z_f (by omega) ⟨by omega, by omega, by omega, by omega, fun s8 e8 => ⟨by omega, by omega, by omega, by omega, by omega, fun s9 e9 => ⟨by omega, by omega, by omega, by omega, by omega, by omega, fun s10 e10 => ⟨by omega, ?_⟩⟩⟩⟩)
      have f8 : ∀ r, r ≠ 155 → s8 r = s r := fun r hr => by rw [e8, q_up_ne hr]; exact f r hr
      have f9 : ∀ r, r ≠ 155 → s9 r = s r := fun r hr => by rw [e9, q_up_ne hr]; exact f8 r hr
      refine ih (v + 1) s10 (by omega) (by omega) (fun r hr => by rw [e10, q_up_ne hr]; exact f9 r hr) (fun i i0 iv => ?_)
      by_cases z : i = v
      · refine ⟨?_, ?_, ?_⟩
        · rw [z, e10, q_up_nj (by omega), e9, q_up_nj (by omega), e8, q_up_at, f 115 (by decide)]
        · rw [z, e10, q_up_nj (by omega), e9, q_up_at, f8 114 (by decide)]
        · rw [z, e10, q_up_at, f9 115 (by decide)]
      · have o := w i i0 (by omega)
        refine ⟨?_, ?_, ?_⟩
        · rw [e10, q_up_nj (by omega), e9, q_up_nj (by omega), e8, q_up_nj (by omega)]; exact o.1
        · rw [e10, q_up_nj (by omega), e9, q_up_nj (by omega), e8, q_up_nj (by omega)]; exact o.2.1
        · rw [e10, q_up_nj (by omega), e9, q_up_nj (by omega), e8, q_up_nj (by omega)]; exact o.2.2
  exact L 240 0 s (by decide) (Int.le_refl 0) (fun _ _ => rfl) (fun i u w => by omega)
end Splits
