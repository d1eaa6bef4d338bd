/-! The tree: how deep it is at a place of a leaf. -/
/-- of the first n pairs: how many are open when, of the run k, the closers from Q and the openers below P are still to come -/
def zOc (b : qM) (k : Int) (P Q : Nat) : Nat → Int
  | 0 => 0
  | j + 1 => zOc b k P Q j + (if b 148 (j : Int) < k ∨ (b 148 (j : Int) = k ∧ P ≤ j) then 1 else 0) - (if b 149 (j : Int) < k ∨ (b 149 (j : Int) = k ∧ j < Q) then 1 else 0)
section Pairs
variable {b : qM} {k : Int} {P Q q : Nat}
theorem zOc_succ {j : Nat} : zOc b k P Q (j + 1) = zOc b k P Q j + (if b 148 (j : Int) < k ∨ (b 148 (j : Int) = k ∧ P ≤ j) then 1 else 0) - (if b 149 (j : Int) < k ∨ (b 149 (j : Int) = k ∧ j < Q) then 1 else 0) := rfl
theorem zOc_nn : ∀ n : Nat, (∀ j : Nat, j < n → b 148 j < b 149 j) → 0 ≤ zOc b k P Q n
  | 0, _ => Int.le_refl 0
  | n + 1, h => by
    have h1 := zOc_nn n (fun j hj => h j (by omega))
    have h2 := h n (by omega)
    rw [zOc_succ]
    by_cases c : b 149 (n : Int) < k ∨ (b 149 (n : Int) = k ∧ n < Q)
    · rw [if_pos c, if_pos (Or.inl (by omega))]; omega
    · rw [if_neg c]; split <;> omega
/-- a pair of k closes -/
theorem zOc_close {J : Nat} : ∀ n : Nat, zOc b k P (J + 1) n = zOc b k P J n - (if J < n ∧ b 149 (J : Int) = k then 1 else 0)
  | 0 => by rw [if_neg (by omega)]; rfl
  | n + 1 => by
    rw [zOc_succ, zOc_succ, zOc_close n]
    by_cases e : J = n
    · rw [e, if_neg (show ¬ (n < n ∧ _) by omega)]
      by_cases c : b 149 (n : Int) = k
      · rw [if_pos (show b 149 (n : Int) < k ∨ (b 149 (n : Int) = k ∧ n < n + 1) by omega), if_neg (show ¬ (b 149 (n : Int) < k ∨ (b 149 (n : Int) = k ∧ n < n)) by omega), if_pos (show n < n + 1 ∧ b 149 (n : Int) = k from ⟨by omega, c⟩)]; omega
      · have e2 : (b 149 (n : Int) < k ∨ (b 149 (n : Int) = k ∧ n < n + 1)) ↔ (b 149 (n : Int) < k ∨ (b 149 (n : Int) = k ∧ n < n)) := by omega
        rw [if_neg (show ¬ (n < n + 1 ∧ b 149 (n : Int) = k) from fun z => c z.2)]
        simp only [e2]; omega
    · have e2 : (b 149 (n : Int) < k ∨ (b 149 (n : Int) = k ∧ n < J + 1)) ↔ (b 149 (n : Int) < k ∨ (b 149 (n : Int) = k ∧ n < J)) := by omega
      have e3 : (J < n + 1 ∧ b 149 (J : Int) = k) ↔ (J < n ∧ b 149 (J : Int) = k) := by omega
      simp only [e2, e3]; omega
/-- a pair of k opens -/
theorem zOc_open {J : Nat} : ∀ n : Nat, zOc b k J Q n = zOc b k (J + 1) Q n + (if J < n ∧ b 148 (J : Int) = k then 1 else 0)
  | 0 => by rw [if_neg (by omega)]; rfl
  | n + 1 => by
    rw [zOc_succ, zOc_succ, zOc_open n]
    by_cases e : J = n
    · rw [e, if_neg (show ¬ (n < n ∧ _) by omega)]
      by_cases c : b 148 (n : Int) = k
      · rw [if_pos (show b 148 (n : Int) < k ∨ (b 148 (n : Int) = k ∧ n ≤ n) by omega), if_neg (show ¬ (b 148 (n : Int) < k ∨ (b 148 (n : Int) = k ∧ n + 1 ≤ n)) by omega), if_pos (show n < n + 1 ∧ b 148 (n : Int) = k from ⟨by omega, c⟩)]; omega
      · have e2 : (b 148 (n : Int) < k ∨ (b 148 (n : Int) = k ∧ n ≤ n)) ↔ (b 148 (n : Int) < k ∨ (b 148 (n : Int) = k ∧ n + 1 ≤ n)) := by omega
        rw [if_neg (show ¬ (n < n + 1 ∧ b 148 (n : Int) = k) from fun z => c z.2)]
        simp only [e2]; omega
    · have e2 : (b 148 (n : Int) < k ∨ (b 148 (n : Int) = k ∧ J ≤ n)) ↔ (b 148 (n : Int) < k ∨ (b 148 (n : Int) = k ∧ J + 1 ≤ n)) := by omega
      have e3 : (J < n + 1 ∧ b 148 (J : Int) = k) ↔ (J < n ∧ b 148 (J : Int) = k) := by omega
      simp only [e2, e3]; omega
/-- behind k is ahead of k + 1 -/
theorem zOc_next : ∀ n : Nat, n ≤ q → zOc b (k + 1) q 0 n = zOc b k 0 q n
  | 0, _ => rfl
  | n + 1, h => by
    rw [zOc_succ, zOc_succ, zOc_next n (by omega)]
    have e1 : (b 148 (n : Int) < k + 1 ∨ (b 148 (n : Int) = k + 1 ∧ q ≤ n)) ↔ (b 148 (n : Int) < k ∨ (b 148 (n : Int) = k ∧ 0 ≤ n)) := by omega
    have e2 : (b 149 (n : Int) < k + 1 ∨ (b 149 (n : Int) = k + 1 ∧ n < 0)) ↔ (b 149 (n : Int) < k ∨ (b 149 (n : Int) = k ∧ n < q)) := by omega
    simp only [e1, e2]
/-- where no pair of k is -/
theorem zOc_none {P' Q' : Nat} : ∀ n : Nat, (∀ j : Nat, j < n → b 148 j ≠ k ∧ b 149 j ≠ k) → zOc b k P Q n = zOc b k P' Q' n
  | 0, _ => rfl
  | n + 1, h => by
    have h2 := h n (by omega)
    rw [zOc_succ, zOc_succ, zOc_none (P' := P') (Q' := Q') n (fun j hj => h j (by omega))]
    have e1 : (b 148 (n : Int) < k ∨ (b 148 (n : Int) = k ∧ P ≤ n)) ↔ (b 148 (n : Int) < k ∨ (b 148 (n : Int) = k ∧ P' ≤ n)) := by omega
    have e2 : (b 149 (n : Int) < k ∨ (b 149 (n : Int) = k ∧ n < Q)) ↔ (b 149 (n : Int) < k ∨ (b 149 (n : Int) = k ∧ n < Q')) := by omega
    simp only [e1, e2]
theorem zOc_zero : ∀ n : Nat, n ≤ q → (∀ j : Nat, j < n → 0 ≤ b 148 j ∧ 0 ≤ b 149 j) → zOc b 0 q 0 n = 0
  | 0, _, _ => rfl
  | n + 1, h, g => by
    have g2 := g n (by omega)
    rw [zOc_succ, zOc_zero n (by omega) (fun j hj => g j (by omega)), if_neg (by omega), if_neg (by omega)]; omega
end Pairs
