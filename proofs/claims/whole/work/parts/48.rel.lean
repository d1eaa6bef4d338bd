/-! Blocks: what the class's and the model's have to do with each other. -/
theorem q_u_at {f : Int → Int} {j v : Int} : q_u f j v j = v := by unfold q_u; rw [if_pos rfl]
theorem q_u_ne {f : Int → Int} {j v k : Int} (h : k ≠ j) : q_u f j v k = f k := by unfold q_u; rw [if_neg h]
theorem q_up_fn {s : qM} {r : Nat} {j v : Int} : q_up s r j v r = q_u (s r) j v := by unfold q_up; rw [if_pos rfl]
/-- n blocks: the class's in a, the model's in b -/
def zB (a b : qM) (n : Int) : Prop := (1 ≤ n) ∧ (a 13 1 = n ∧ a 15 1 = n ∧ a 17 1 = n ∧ a 19 1 = n ∧ a 21 1 = n ∧ a 23 1 = n ∧ a 25 1 = n ∧ a 27 1 = n ∧ b 113 4 = n) ∧ (b 117 0 = 0 ∧ b 118 0 = -1) ∧ (∀ k, 0 ≤ k → k < n → a 14 k = b 117 k ∧ 0 ≤ b 117 k ∧ b 117 k ≤ 7 ∧ a 16 k = b 118 k) ∧ (∀ k, 1 ≤ k → k < n → 0 ≤ b 118 k ∧ b 118 k < k ∧ b 117 (b 118 k) ≤ 3 ∧ (b 117 (b 118 k) = 2 ↔ b 117 k = 3)) ∧ (∀ k, 0 ≤ k → k < n → (b 117 k = 3 → a 22 k = b 120 k ∧ 2 ≤ b 120 k ∧ b 120 k ≤ 3) ∧ (b 117 k = 4 → a 22 k = b 120 k ∧ 1 ≤ b 120 k ∧ b 120 k ≤ 3) ∧ (b 117 k = 2 → a 22 k = b 121 k ∧ 0 ≤ b 121 k ∧ b 121 k ≤ 1 ∧ a 24 k = b 120 k) ∧ (b 117 k = 5 → a 28 k = b 123 k) ∧ (b 117 k ≠ 2 → b 117 k ≠ 3 → b 117 k ≠ 4 → a 22 k = 0)) ∧ (∀ k, 0 ≤ k → k < n → 0 ≤ b 123 k ∧ b 123 k ≤ n + b 113 17 ∧ (b 117 k ≤ 3 → (a 20 k = 1 ↔ 0 < b 123 k))) ∧ (∀ k, 0 ≤ k → k < n → b 122 k = -1 ∨ (k < b 122 k ∧ b 122 k < n ∧ b 118 (b 122 k) = k)) ∧ (∀ k j, 1 ≤ k → k < n → b 118 k < j → j < k → b 118 k ≤ b 118 j)
theorem zB.mk {a b : qM} {n : Int} (n1 : 1 ≤ n) (rows : a 13 1 = n ∧ a 15 1 = n ∧ a 17 1 = n ∧ a 19 1 = n ∧ a 21 1 = n ∧ a 23 1 = n ∧ a 25 1 = n ∧ a 27 1 = n ∧ b 113 4 = n) (root : b 117 0 = 0 ∧ b 118 0 = -1) (kd : ∀ k, 0 ≤ k → k < n → a 14 k = b 117 k ∧ 0 ≤ b 117 k ∧ b 117 k ≤ 7 ∧ a 16 k = b 118 k) (par : ∀ k, 1 ≤ k → k < n → 0 ≤ b 118 k ∧ b 118 k < k ∧ b 117 (b 118 k) ≤ 3 ∧ (b 117 (b 118 k) = 2 ↔ b 117 k = 3)) (ms : ∀ k, 0 ≤ k → k < n → (b 117 k = 3 → a 22 k = b 120 k ∧ 2 ≤ b 120 k ∧ b 120 k ≤ 3) ∧ (b 117 k = 4 → a 22 k = b 120 k ∧ 1 ≤ b 120 k ∧ b 120 k ≤ 3) ∧ (b 117 k = 2 → a 22 k = b 121 k ∧ 0 ≤ b 121 k ∧ b 121 k ≤ 1 ∧ a 24 k = b 120 k) ∧ (b 117 k = 5 → a 28 k = b 123 k) ∧ (b 117 k ≠ 2 → b 117 k ≠ 3 → b 117 k ≠ 4 → a 22 k = 0)) (fl : ∀ k, 0 ≤ k → k < n → 0 ≤ b 123 k ∧ b 123 k ≤ n + b 113 17 ∧ (b 117 k ≤ 3 → (a 20 k = 1 ↔ 0 < b 123 k))) (la : ∀ k, 0 ≤ k → k < n → b 122 k = -1 ∨ (k < b 122 k ∧ b 122 k < n ∧ b 118 (b 122 k) = k)) (pre : ∀ k j, 1 ≤ k → k < n → b 118 k < j → j < k → b 118 k ≤ b 118 j) : zB a b n := ⟨n1, rows, root, kd, par, ms, fl, la, pre⟩
theorem zB.n1 {a b : qM} {n : Int} (h : zB a b n) : 1 ≤ n := h.1
theorem zB.rows {a b : qM} {n : Int} (h : zB a b n) : a 13 1 = n ∧ a 15 1 = n ∧ a 17 1 = n ∧ a 19 1 = n ∧ a 21 1 = n ∧ a 23 1 = n ∧ a 25 1 = n ∧ a 27 1 = n ∧ b 113 4 = n := h.2.1
theorem zB.root {a b : qM} {n : Int} (h : zB a b n) : b 117 0 = 0 ∧ b 118 0 = -1 := h.2.2.1
theorem zB.kd {a b : qM} {n : Int} (h : zB a b n) : ∀ k, 0 ≤ k → k < n → a 14 k = b 117 k ∧ 0 ≤ b 117 k ∧ b 117 k ≤ 7 ∧ a 16 k = b 118 k := h.2.2.2.1
theorem zB.par {a b : qM} {n : Int} (h : zB a b n) : ∀ k, 1 ≤ k → k < n → 0 ≤ b 118 k ∧ b 118 k < k ∧ b 117 (b 118 k) ≤ 3 ∧ (b 117 (b 118 k) = 2 ↔ b 117 k = 3) := h.2.2.2.2.1
theorem zB.ms {a b : qM} {n : Int} (h : zB a b n) : ∀ k, 0 ≤ k → k < n → (b 117 k = 3 → a 22 k = b 120 k ∧ 2 ≤ b 120 k ∧ b 120 k ≤ 3) ∧ (b 117 k = 4 → a 22 k = b 120 k ∧ 1 ≤ b 120 k ∧ b 120 k ≤ 3) ∧ (b 117 k = 2 → a 22 k = b 121 k ∧ 0 ≤ b 121 k ∧ b 121 k ≤ 1 ∧ a 24 k = b 120 k) ∧ (b 117 k = 5 → a 28 k = b 123 k) ∧ (b 117 k ≠ 2 → b 117 k ≠ 3 → b 117 k ≠ 4 → a 22 k = 0) := h.2.2.2.2.2.1
theorem zB.fl {a b : qM} {n : Int} (h : zB a b n) : ∀ k, 0 ≤ k → k < n → 0 ≤ b 123 k ∧ b 123 k ≤ n + b 113 17 ∧ (b 117 k ≤ 3 → (a 20 k = 1 ↔ 0 < b 123 k)) := h.2.2.2.2.2.2.1
theorem zB.la {a b : qM} {n : Int} (h : zB a b n) : ∀ k, 0 ≤ k → k < n → b 122 k = -1 ∨ (k < b 122 k ∧ b 122 k < n ∧ b 118 (b 122 k) = k) := h.2.2.2.2.2.2.2.1
theorem zB.pre {a b : qM} {n : Int} (h : zB a b n) : ∀ k j, 1 ≤ k → k < n → b 118 k < j → j < k → b 118 k ≤ b 118 j := h.2.2.2.2.2.2.2.2
/-- the open ones are c 0 .. c d, each in the one before -/
def zCh (a b : qM) (n : Int) (d : Nat) (c : Nat → Int) : Prop := (c 0 = 0) ∧ (∀ i, i < d → c i < c (i + 1) ∧ b 122 (c i) = c (i + 1) ∧ a 18 (c i) = c (i + 1) ∧ b 118 (c (i + 1)) = c i) ∧ (a 18 (c d) = -1) ∧ (c d < n) ∧ (∀ k, 0 ≤ k → k < n → (b 119 k = 0 ∨ b 119 k = 1) ∧ (b 119 k = 1 ↔ ∃ i, i ≤ d ∧ k = c i)) ∧ (∀ i, i ≤ d → ∀ j, c i < j → j < n → c i ≤ b 118 j)
theorem zCh.mk {a b : qM} {n : Int} {d : Nat} {c : Nat → Int} (c0 : c 0 = 0) (step : ∀ i, i < d → c i < c (i + 1) ∧ b 122 (c i) = c (i + 1) ∧ a 18 (c i) = c (i + 1) ∧ b 118 (c (i + 1)) = c i) (last : a 18 (c d) = -1) (lt : c d < n) (opn : ∀ k, 0 ≤ k → k < n → (b 119 k = 0 ∨ b 119 k = 1) ∧ (b 119 k = 1 ↔ ∃ i, i ≤ d ∧ k = c i)) (ins : ∀ i, i ≤ d → ∀ j, c i < j → j < n → c i ≤ b 118 j) : zCh a b n d c := ⟨c0, step, last, lt, opn, ins⟩
theorem zCh.c0 {a b : qM} {n : Int} {d : Nat} {c : Nat → Int} (h : zCh a b n d c) : c 0 = 0 := h.1
theorem zCh.step {a b : qM} {n : Int} {d : Nat} {c : Nat → Int} (h : zCh a b n d c) : ∀ i, i < d → c i < c (i + 1) ∧ b 122 (c i) = c (i + 1) ∧ a 18 (c i) = c (i + 1) ∧ b 118 (c (i + 1)) = c i := h.2.1
theorem zCh.last {a b : qM} {n : Int} {d : Nat} {c : Nat → Int} (h : zCh a b n d c) : a 18 (c d) = -1 := h.2.2.1
theorem zCh.lt {a b : qM} {n : Int} {d : Nat} {c : Nat → Int} (h : zCh a b n d c) : c d < n := h.2.2.2.1
theorem zCh.opn {a b : qM} {n : Int} {d : Nat} {c : Nat → Int} (h : zCh a b n d c) : ∀ k, 0 ≤ k → k < n → (b 119 k = 0 ∨ b 119 k = 1) ∧ (b 119 k = 1 ↔ ∃ i, i ≤ d ∧ k = c i) := h.2.2.2.2.1
theorem zCh.ins {a b : qM} {n : Int} {d : Nat} {c : Nat → Int} (h : zCh a b n d c) : ∀ i, i ≤ d → ∀ j, c i < j → j < n → c i ≤ b 118 j := h.2.2.2.2.2
section Rel
variable {a b a' b' : qM} {n : Int} {d : Nat} {c : Nat → Int}
theorem zCh.mono (C : zCh a b n d c) {i : Nat} : ∀ (m : Nat), i + m ≤ d → c i + m ≤ c (i + m)
  | 0, _ => by simp
  | m + 1, h => by
    have h1 := C.mono (i := i) m (by omega)
    have h2 := (C.step (i + m) (by omega)).1
    rw [show i + (m + 1) = i + m + 1 by omega]
    omega
theorem zCh.le (C : zCh a b n d c) {i j : Nat} (h : i ≤ j) (hj : j ≤ d) : c i ≤ c j := by
  have h1 := C.mono (i := i) (j - i) (by omega)
  rw [show i + (j - i) = j by omega] at h1
  omega
theorem zCh.lts (C : zCh a b n d c) {i j : Nat} (h : i < j) (hj : j ≤ d) : c i < c j := by
  have h1 := C.mono (i := i) (j - i) (by omega)
  rw [show i + (j - i) = j by omega] at h1
  omega
theorem zCh.rng (C : zCh a b n d c) {i : Nat} (h : i ≤ d) : (i : Int) ≤ c i ∧ c i < n := by
  have h1 := C.mono (i := 0) i (by omega)
  have h2 := C.le h (Nat.le_refl d)
  have h3 := C.lt
  rw [C.c0, show 0 + i = i by omega] at h1
  omega
theorem zCh.is1 (C : zCh a b n d c) {i : Nat} (h : i ≤ d) : b 119 (c i) = 1 :=
  (C.opn (c i) (by have := C.rng h; omega) (C.rng h).2).2.mpr ⟨i, h, rfl⟩
theorem zCh.con (C : zCh a b n d c) (B : zB a b n) {i : Nat} (h : i < d) : b 117 (c i) ≤ 3 := by
  have h1 := C.rng (i := i + 1) (by omega)
  have h2 := (B.par (c (i + 1)) (by omega) h1.2).2.2.1
  rw [(C.step i h).2.2.2] at h2
  exact h2
theorem zCh.stop (C : zCh a b n d c) (B : zB a b n) : b 122 (c d) = -1 ∨ b 119 (b 122 (c d)) = 0 := by
  have h1 := C.rng (Nat.le_refl d)
  rcases B.la (c d) (by omega) h1.2 with h | ⟨h2, h3, h4⟩
  · exact Or.inl h
  · right
    have h5 := C.opn (b 122 (c d)) (by omega) h3
    rcases h5.1 with h6 | h6
    · exact h6
    · obtain ⟨i, hi, e⟩ := h5.2.mp h6
      have := C.le hi (Nat.le_refl d)
      omega
/-- what closing from a block on leaves -/
theorem zCh.closed (C : zCh a b n d c) {i : Nat} (hi : i ≤ d) (h1 : b 122 (c i) = -1 ∨ b' 119 (b 122 (c i)) = 0) (h2 : ∀ k, b' 119 k = b 119 k ∨ b' 119 k = 0) (h3 : ∀ k, k ≤ c i → b' 119 k = b 119 k) (h4 : ∀ k, b 119 k = 1 → b' 119 k = 0 → b 122 k = -1 ∨ b' 119 (b 122 k) = 0) :
    ∀ k, 0 ≤ k → k < n → (b' 119 k = 0 ∨ b' 119 k = 1) ∧ (b' 119 k = 1 ↔ ∃ j, j ≤ i ∧ k = c j) := by
  have hz : ∀ m : Nat, i + 1 + m ≤ d → b' 119 (c (i + 1 + m)) = 0 := by
    intro m
    induction m with
    | zero =>
      intro h
      have s1 := C.step i (by omega)
      have r1 := C.rng (i := i + 1) (by omega)
      rw [s1.2.1] at h1
      rcases h1 with h1 | h1
      · omega
      · exact h1
    | succ m ih =>
      intro h
      have s1 := C.step (i + 1 + m) (by omega)
      have r1 := C.rng (i := i + 1 + m + 1) (by omega)
      have := h4 _ (C.is1 (i := i + 1 + m) (by omega)) (ih (by omega))
      rw [s1.2.1] at this
      rcases this with h5 | h5
      · omega
      · exact h5
  intro k k0 kn
  obtain ⟨o1, o2⟩ := C.opn k k0 kn
  refine ⟨by rcases h2 k with h | h <;> rcases o1 with o | o <;> omega, fun e => ?_, fun ⟨j, hj, e⟩ => ?_⟩
  · have e2 : b 119 k = 1 := by rcases h2 k with h | h <;> omega
    obtain ⟨j, hj, ej⟩ := o2.mp e2
    by_cases hji : j ≤ i
    · exact ⟨j, hji, ej⟩
    · have := hz (j - (i + 1)) (by omega)
      rw [show i + 1 + (j - (i + 1)) = j by omega, ← ej] at this
      omega
  · rw [e, h3 _ (C.le hj hi)]
    exact C.is1 (by omega)
/-- the chain is cut -/
theorem zCh.cut (C : zCh a b n d c) {i : Nat} (hi : i ≤ d) (h1 : ∀ k, 0 ≤ k → k < n → (b' 119 k = 0 ∨ b' 119 k = 1) ∧ (b' 119 k = 1 ↔ ∃ j, j ≤ i ∧ k = c j)) (h2 : a' 18 (c i) = -1) (h3 : ∀ k, k < c i → a' 18 k = a 18 k) (h4 : b' 122 = b 122) (h5 : b' 118 = b 118) : zCh a' b' n i c := by
  refine zCh.mk C.c0 (fun j hj => ?_) h2 (C.rng hi).2 h1 (fun j hj l u w => by rw [h5]; exact C.ins j (by omega) l u w)
  have s1 := C.step j (by omega)
  rw [h3 _ (C.lts hj hi), h4, h5]
  exact s1
theorem zCh.insp (C : zCh a b n d c) {i : Nat} (hi : i ≤ d) (h5 : ∀ k, k < n → b' 118 k = b 118 k) (h5n : b' 118 n = c i) {j : Nat} (hj : j ≤ i) {l : Int} (u : c j < l) (w : l < n + 1) : c j ≤ b' 118 l := by
  by_cases e : l = n
  · rw [e, h5n]; exact C.le hj hi
  · rw [h5 l (by omega)]; exact C.ins j (by omega) l u (by omega)
theorem zCh.insn (C : zCh a b n d c) {i : Nat} (hi : i ≤ d) (h5 : ∀ k, k < n → b' 118 k = b 118 k) (h5n : b' 118 n = c i) {j : Nat} (hj : j ≤ i + 1) {l : Int} (u : (if j ≤ i then c j else n) < l) (w : l < n + 1) : (if j ≤ i then c j else n) ≤ b' 118 l := by
  by_cases h : j ≤ i
  · rw [if_pos h] at u ⊢; exact C.insp hi h5 h5n h u w
  · rw [if_neg h] at u; omega
/-- a block is put in, which stays open -/
theorem zCh.put (C : zCh a b n d c) {i : Nat} (hi : i ≤ d) (h1 : ∀ k, 0 ≤ k → k < n → (b' 119 k = 0 ∨ b' 119 k = 1) ∧ (b' 119 k = 1 ↔ ∃ j, j ≤ i ∧ k = c j)) (h1n : b' 119 n = 1) (h2 : a' 18 (c i) = n) (h2n : a' 18 n = -1) (h3 : ∀ k, k < c i → a' 18 k = a 18 k) (h4 : ∀ k, k < c i → b' 122 k = b 122 k) (h4p : b' 122 (c i) = n) (h5 : ∀ k, k < n → b' 118 k = b 118 k) (h5n : b' 118 n = c i) : zCh a' b' (n + 1) (i + 1) (fun j => if j ≤ i then c j else n) := by
  have ri := C.rng hi
  have hs : ∀ j, j ≤ i → (if j ≤ i then c j else n) = c j := fun j h => if_pos h
  have hg : (if i + 1 ≤ i then c (i + 1) else n) = n := if_neg (by omega)
  have li : ∀ j, j ≤ i → c j ≤ c i := fun j hj => C.le hj hi
  refine zCh.mk ?_ (fun j hj => ?_) ?_ ?_ (fun k k0 kn => ?_) (fun j hj l u w => zCh.insn C hi h5 h5n hj u w)
  · show (if 0 ≤ i then c 0 else n) = 0
    rw [if_pos (by omega)]; exact C.c0
  · show (if j ≤ i then c j else n) < (if j + 1 ≤ i then c (j + 1) else n) ∧ b' 122 (if j ≤ i then c j else n) = (if j + 1 ≤ i then c (j + 1) else n) ∧ a' 18 (if j ≤ i then c j else n) = (if j + 1 ≤ i then c (j + 1) else n) ∧ b' 118 (if j + 1 ≤ i then c (j + 1) else n) = (if j ≤ i then c j else n)
    rw [hs j (by omega)]
    by_cases e : j = i
    · subst e
      rw [hg]
      exact ⟨ri.2, h4p, h2, h5n⟩
    · have s1 := C.step j (by omega)
      have l1 := C.lts (show j < i by omega) hi
      rw [hs (j + 1) (by omega), h4 _ l1, h3 _ l1, h5 _ (by have := C.rng (i := j + 1) (by omega); omega)]
      exact s1
  · show a' 18 (if i + 1 ≤ i then c (i + 1) else n) = -1
    rw [hg]; exact h2n
  · show (if i + 1 ≤ i then c (i + 1) else n) < n + 1
    rw [hg]; omega
  · by_cases e : k = n
    · rw [e]
      exact ⟨Or.inr h1n, fun _ => ⟨i + 1, Nat.le_refl _, hg.symm⟩, fun _ => h1n⟩
    · obtain ⟨o1, o2⟩ := h1 k k0 (by omega)
      refine ⟨o1, fun x => ?_, fun ⟨j, hj, x⟩ => ?_⟩
      · obtain ⟨j, hj, ej⟩ := o2.mp x
        exact ⟨j, by omega, by rw [ej]; exact (hs j hj).symm⟩
      · by_cases hj2 : j ≤ i
        · exact o2.mpr ⟨j, hj2, by rw [x]; exact hs j hj2⟩
        · exfalso
          apply e
          rw [x]
          exact if_neg hj2
/-- a block is put in, which is closed at once -/
theorem zCh.pass (C : zCh a b n d c) {i : Nat} (hi : i ≤ d) (h1 : ∀ k, 0 ≤ k → k < n → (b' 119 k = 0 ∨ b' 119 k = 1) ∧ (b' 119 k = 1 ↔ ∃ j, j ≤ i ∧ k = c j)) (h1n : b' 119 n = 0) (h2 : a' 18 (c i) = -1) (h3 : ∀ k, k < c i → a' 18 k = a 18 k) (h4 : ∀ k, k < c i → b' 122 k = b 122 k) (h5 : ∀ k, k < n → b' 118 k = b 118 k) (h5n : b' 118 n = c i) : zCh a' b' (n + 1) i c := by
  have ri := C.rng hi
  refine zCh.mk C.c0 (fun j hj => ?_) h2 (by omega) (fun k k0 kn => ?_) (fun j hj l u w => zCh.insp C hi h5 h5n hj u w)
  · have s1 := C.step j (by omega)
    have l1 := C.lts (show j < i by omega) hi
    rw [h4 _ l1, h3 _ l1, h5 _ (by have := C.rng (i := j + 1) (by omega); omega)]
    exact s1
  · by_cases e : k = n
    · rw [e]
      refine ⟨Or.inl h1n, fun x => by omega, fun ⟨j, hj, x⟩ => ?_⟩
      have := C.rng (i := j) (by omega)
      omega
    · exact h1 k k0 (by omega)
theorem zB.pren (B : zB a b n) {p : Int} (pp : ∀ j, p < j → j < n → p ≤ b 118 j) (f8 : ∀ k, k ≠ n → b' 118 k = b 118 k) (f18 : b' 118 n = p) {k j : Int} (k1 : 1 ≤ k) (kn : k < n + 1) (u : b' 118 k < j) (w : j < k) : b' 118 k ≤ b' 118 j := by
  rw [f8 j (by omega)]
  by_cases e : k = n
  · rw [e, f18] at u ⊢; exact pp j u (by omega)
  · rw [f8 k e] at u ⊢; exact B.pre k j k1 (by omega) u w
/-- a block is put in -/
theorem zB.put (B : zB a b n) {p κ : Int} (p0 : 0 ≤ p) (pn : p < n) (pp : ∀ j, p < j → j < n → p ≤ b 118 j) (hp : b 117 p ≤ 3) (k1 : 1 ≤ κ) (k7 : κ ≤ 7) (hk : b 117 p = 2 ↔ κ = 3)
    (rows : a' 13 1 = n + 1 ∧ a' 15 1 = n + 1 ∧ a' 17 1 = n + 1 ∧ a' 19 1 = n + 1 ∧ a' 21 1 = n + 1 ∧ a' 23 1 = n + 1 ∧ a' 25 1 = n + 1 ∧ a' 27 1 = n + 1 ∧ b' 113 4 = n + 1) (ln : b' 113 17 = b 113 17)
    (a14 : a' 14 = q_u (a 14) n κ) (a16 : a' 16 = q_u (a 16) n p) (a20 : a' 20 = q_u (q_u (a 20) n 0) p 1)
    (lo : (∀ k, k ≠ n → a' 22 k = a 22 k ∧ b' 121 k = b 121 k) ∨ ∃ l, 0 ≤ l ∧ l < n ∧ b 117 l = 2 ∧ a' 22 l = 1 ∧ b' 121 l = 1 ∧ ∀ k, k ≠ n → k ≠ l → a' 22 k = a 22 k ∧ b' 121 k = b 121 k)
    (a22 : a' 22 n = if κ = 3 ∨ κ = 4 then b' 120 n else 0) (w3 : κ = 3 → 2 ≤ b' 120 n ∧ b' 120 n ≤ 3) (w4 : κ = 4 → 1 ≤ b' 120 n ∧ b' 120 n ≤ 3) (a24 : ∀ k, k ≠ n → a' 24 k = a 24 k) (a24n : κ = 2 → a' 24 n = b' 120 n) (a28 : ∀ k, k ≠ n → a' 28 k = a 28 k) (a28n : κ = 5 → a' 28 n = 0)
    (b117 : b' 117 = q_u (b 117) n κ) (b118 : b' 118 = q_u (b 118) n p) (b120 : ∀ k, k ≠ n → b' 120 k = b 120 k) (b121 : b' 121 n = 0) (b122 : b' 122 = q_u (q_u (b 122) n (-1)) p n) (b123 : b' 123 = q_u (q_u (b 123) n 0) p (b 123 p + 1)) : zB a' b' (n + 1) := by
  have B1 := B.n1
  have fn : ∀ k, k ≠ n → b' 117 k = b 117 k := fun k h => by rw [b117]; exact q_u_ne h
  have f8 : ∀ k, k ≠ n → b' 118 k = b 118 k := fun k h => by rw [b118]; exact q_u_ne h
  have f17 : b' 117 n = κ := by rw [b117]; exact q_u_at
  have f18 : b' 118 n = p := by rw [b118]; exact q_u_at
  refine zB.mk (by omega) rows ?_ (fun k k0 kn => ?_) (fun k k0 kn => ?_) (fun k k0 kn => ?_) (fun k k0 kn => ?_) (fun k k0 kn => ?_) (fun k j k1 kn u w => zB.pren B pp f8 f18 k1 kn u w)
  · rw [fn 0 (by omega), f8 0 (by omega)]; exact B.root
  · by_cases e : k = n
    · rw [e, f17, f18, a14, a16, q_u_at, q_u_at]; exact ⟨rfl, by omega, by omega, rfl⟩
    · rw [fn k e, f8 k e, a14, a16, q_u_ne e, q_u_ne e]; exact B.kd k k0 (by omega)
  · by_cases e : k = n
    · rw [e, f18, f17, fn p (by omega)]; exact ⟨p0, pn, hp, hk⟩
    · have h := B.par k k0 (by omega)
      rw [f8 k e, fn k e, fn (b 118 k) (by omega)]; exact h
  · by_cases e : k = n
    · rw [e, f17, a22]
      refine ⟨fun h => ⟨if_pos (Or.inl h), w3 h⟩, fun h => ⟨if_pos (Or.inr h), w4 h⟩, fun h => ⟨by rw [if_neg (by omega), b121], by omega, by omega, a24n h⟩, fun h => ?_, fun _ h3 h4 => if_neg (by omega)⟩
      rw [a28n h, b123, q_u_ne (by omega), q_u_at]
    · have h := B.ms k k0 (by omega)
      rw [fn k e, b120 k e, a24 k e, a28 k e]
      have hc : b 117 k = 5 → b' 123 k = b 123 k := fun h5 => by
        have : k ≠ p := fun x => by rw [x] at h5; omega
        rw [b123, q_u_ne this, q_u_ne e]
      rcases lo with lo | ⟨l, l0, l1, l2, l3, l4, lo⟩
      · obtain ⟨x, y⟩ := lo k e
        rw [x, y]
        exact ⟨h.1, h.2.1, h.2.2.1, fun h5 => by rw [hc h5]; exact h.2.2.2.1 h5, h.2.2.2.2⟩
      · by_cases el : k = l
        · rw [el, l3, l4]
          rw [el] at h hc
          exact ⟨fun x => by omega, fun x => by omega, fun x => ⟨rfl, by omega, by omega, (h.2.2.1 x).2.2.2⟩, fun x => by omega, fun x => by omega⟩
        · obtain ⟨x, y⟩ := lo k e el
          rw [x, y]
          exact ⟨h.1, h.2.1, h.2.2.1, fun h5 => by rw [hc h5]; exact h.2.2.2.1 h5, h.2.2.2.2⟩
  · rw [b123, a20, ln]
    by_cases ep : k = p
    · rw [ep, q_u_at, q_u_at]
      have h := B.fl p p0 pn
      exact ⟨by omega, by omega, fun _ => ⟨fun _ => by omega, fun _ => rfl⟩⟩
    · rw [q_u_ne ep, q_u_ne ep]
      by_cases e : k = n
      · rw [e, q_u_at, q_u_at]
        have h := B.fl 0 (by omega) (by omega)
        exact ⟨by omega, by omega, fun _ => by omega⟩
      · rw [q_u_ne e, q_u_ne e, fn k e]
        have h := B.fl k k0 (by omega)
        exact ⟨h.1, by omega, h.2.2⟩
  · rw [b122]
    by_cases ep : k = p
    · rw [ep, q_u_at, f18]
      exact Or.inr ⟨pn, by omega, rfl⟩
    · rw [q_u_ne ep]
      by_cases e : k = n
      · rw [e, q_u_at]; exact Or.inl rfl
      · rw [q_u_ne e]
        rcases B.la k k0 (by omega) with h | ⟨h1, h2, h3⟩
        · exact Or.inl h
        · exact Or.inr ⟨h1, by omega, by rw [f8 _ (by omega)]; exact h3⟩
end Rel
