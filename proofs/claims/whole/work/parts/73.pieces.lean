/-! Roles of characters and pieces. -/
def zWd (b : qM) (j : Nat) : Int := if b 150 (j : Int) = 10 then 2 else 1
/-- how many characters of piece k the first q pairs take, as they close and as they open -/
def zCw (b : qM) (k : Int) : Nat → Int
  | 0 => 0
  | j + 1 => zCw b k j + (if b 149 (j : Int) = k then zWd b j else 0)
def zOu (b : qM) (k : Int) : Nat → Int
  | 0 => 0
  | j + 1 => zOu b k j + (if b 148 (j : Int) = k then zWd b j else 0)
/-- f the roles; piece k is what lies from S k to S (k + 1); p pieces, q pairs -/
def zPc (f : Int → Int) (b : qM) (S : Int → Int) (p : Int) (q : Nat) : Prop := (0 ≤ p) ∧ (S 0 = 0) ∧ (∀ k, 0 ≤ k → k < p → S k < S (k + 1)) ∧ (∀ k, 0 ≤ k → k < p → 0 ≤ b 141 k ∧ b 141 k ≤ 5) ∧ (∀ k, 0 ≤ k → k < p → b 141 k = 0 → (S (k + 1) = S k + 1 ∧ f (S k) = 0 ∧ b 142 k = b 138 (S k)) ∨ (S (k + 1) = S k + 2 ∧ f (S k) = -3 ∧ f (S k + 1) = 0 ∧ b 142 k = b 138 (S k + 1))) ∧ (∀ k, 0 ≤ k → k < p → b 141 k = 3 → S (k + 1) = S k + 1 ∧ f (S k) = 0 ∧ b 142 k = S k ∧ b 138 (S k) = 91) ∧ (∀ k, 0 ≤ k → k < p → b 141 k = 2 → S k < b 142 k ∧ b 142 k ≤ b 143 k ∧ b 143 k < S (k + 1) ∧ f (S k) = 11 ∧ (∀ i, S k < i → i < b 142 k → f i = -3) ∧ (∀ i, b 142 k ≤ i → i < b 143 k → f i = 0) ∧ f (b 143 k) = -4 ∧ (∀ i, b 143 k < i → i < S (k + 1) → f i = -3)) ∧ (∀ k, 0 ≤ k → k < p → b 141 k = 4 → S (k + 1) = S k + 1 ∧ f (S k) = 12) ∧ (∀ k, 0 ≤ k → k < p → b 141 k = 5 → f (S k) = -4 ∧ (∀ i, S k < i → i < S (k + 1) → f i = -3)) ∧ (∀ k, 0 ≤ k → k < p → b 141 k = 1 → b 143 k = S (k + 1) - S k ∧ b 146 k = S (k + 1) - zOu b k q - (S k + zCw b k q) ∧ 0 ≤ b 146 k ∧ (∀ i, S k ≤ i → i < S (k + 1) → b 138 i = 42) ∧ (∀ i, S k + zCw b k q ≤ i → i < S (k + 1) - zOu b k q → f i = 0)) ∧ (∀ j : Nat, j < q → 0 ≤ b 148 j ∧ b 148 j < b 149 j ∧ b 149 j < p ∧ b 141 (b 148 j) = 1 ∧ b 141 (b 149 j) = 1 ∧ (b 150 j = 9 ∨ b 150 j = 10) ∧ f (S (b 149 j) + zCw b (b 149 j) j) = -4 ∧ (b 150 j = 10 → f (S (b 149 j) + zCw b (b 149 j) j + 1) = -3) ∧ f (S (b 148 j + 1) - zOu b (b 148 j) (j + 1)) = b 150 j ∧ (b 150 j = 10 → f (S (b 148 j + 1) - zOu b (b 148 j) (j + 1) + 1) = -3))
theorem zPc.mk {f : Int → Int} {b : qM} {S : Int → Int} {p : Int} {q : Nat} (p0 : 0 ≤ p) (s0 : S 0 = 0) (mono : ∀ k, 0 ≤ k → k < p → S k < S (k + 1)) (ty : ∀ k, 0 ≤ k → k < p → 0 ≤ b 141 k ∧ b 141 k ≤ 5) (k0 : ∀ k, 0 ≤ k → k < p → b 141 k = 0 → (S (k + 1) = S k + 1 ∧ f (S k) = 0 ∧ b 142 k = b 138 (S k)) ∨ (S (k + 1) = S k + 2 ∧ f (S k) = -3 ∧ f (S k + 1) = 0 ∧ b 142 k = b 138 (S k + 1))) (k3 : ∀ k, 0 ≤ k → k < p → b 141 k = 3 → S (k + 1) = S k + 1 ∧ f (S k) = 0 ∧ b 142 k = S k ∧ b 138 (S k) = 91) (k2 : ∀ k, 0 ≤ k → k < p → b 141 k = 2 → S k < b 142 k ∧ b 142 k ≤ b 143 k ∧ b 143 k < S (k + 1) ∧ f (S k) = 11 ∧ (∀ i, S k < i → i < b 142 k → f i = -3) ∧ (∀ i, b 142 k ≤ i → i < b 143 k → f i = 0) ∧ f (b 143 k) = -4 ∧ (∀ i, b 143 k < i → i < S (k + 1) → f i = -3)) (k4 : ∀ k, 0 ≤ k → k < p → b 141 k = 4 → S (k + 1) = S k + 1 ∧ f (S k) = 12) (k5 : ∀ k, 0 ≤ k → k < p → b 141 k = 5 → f (S k) = -4 ∧ (∀ i, S k < i → i < S (k + 1) → f i = -3)) (k1 : ∀ k, 0 ≤ k → k < p → b 141 k = 1 → b 143 k = S (k + 1) - S k ∧ b 146 k = S (k + 1) - zOu b k q - (S k + zCw b k q) ∧ 0 ≤ b 146 k ∧ (∀ i, S k ≤ i → i < S (k + 1) → b 138 i = 42) ∧ (∀ i, S k + zCw b k q ≤ i → i < S (k + 1) - zOu b k q → f i = 0)) (pr : ∀ j : Nat, j < q → 0 ≤ b 148 j ∧ b 148 j < b 149 j ∧ b 149 j < p ∧ b 141 (b 148 j) = 1 ∧ b 141 (b 149 j) = 1 ∧ (b 150 j = 9 ∨ b 150 j = 10) ∧ f (S (b 149 j) + zCw b (b 149 j) j) = -4 ∧ (b 150 j = 10 → f (S (b 149 j) + zCw b (b 149 j) j + 1) = -3) ∧ f (S (b 148 j + 1) - zOu b (b 148 j) (j + 1)) = b 150 j ∧ (b 150 j = 10 → f (S (b 148 j + 1) - zOu b (b 148 j) (j + 1) + 1) = -3)) : zPc f b S p q := ⟨p0, s0, mono, ty, k0, k3, k2, k4, k5, k1, pr⟩
theorem zPc.p0 {f : Int → Int} {b : qM} {S : Int → Int} {p : Int} {q : Nat} (h : zPc f b S p q) : 0 ≤ p := h.1
theorem zPc.s0 {f : Int → Int} {b : qM} {S : Int → Int} {p : Int} {q : Nat} (h : zPc f b S p q) : S 0 = 0 := h.2.1
theorem zPc.mono {f : Int → Int} {b : qM} {S : Int → Int} {p : Int} {q : Nat} (h : zPc f b S p q) : ∀ k, 0 ≤ k → k < p → S k < S (k + 1) := h.2.2.1
theorem zPc.ty {f : Int → Int} {b : qM} {S : Int → Int} {p : Int} {q : Nat} (h : zPc f b S p q) : ∀ k, 0 ≤ k → k < p → 0 ≤ b 141 k ∧ b 141 k ≤ 5 := h.2.2.2.1
theorem zPc.k0 {f : Int → Int} {b : qM} {S : Int → Int} {p : Int} {q : Nat} (h : zPc f b S p q) : ∀ k, 0 ≤ k → k < p → b 141 k = 0 → (S (k + 1) = S k + 1 ∧ f (S k) = 0 ∧ b 142 k = b 138 (S k)) ∨ (S (k + 1) = S k + 2 ∧ f (S k) = -3 ∧ f (S k + 1) = 0 ∧ b 142 k = b 138 (S k + 1)) := h.2.2.2.2.1
theorem zPc.k3 {f : Int → Int} {b : qM} {S : Int → Int} {p : Int} {q : Nat} (h : zPc f b S p q) : ∀ k, 0 ≤ k → k < p → b 141 k = 3 → S (k + 1) = S k + 1 ∧ f (S k) = 0 ∧ b 142 k = S k ∧ b 138 (S k) = 91 := h.2.2.2.2.2.1
theorem zPc.k2 {f : Int → Int} {b : qM} {S : Int → Int} {p : Int} {q : Nat} (h : zPc f b S p q) : ∀ k, 0 ≤ k → k < p → b 141 k = 2 → S k < b 142 k ∧ b 142 k ≤ b 143 k ∧ b 143 k < S (k + 1) ∧ f (S k) = 11 ∧ (∀ i, S k < i → i < b 142 k → f i = -3) ∧ (∀ i, b 142 k ≤ i → i < b 143 k → f i = 0) ∧ f (b 143 k) = -4 ∧ (∀ i, b 143 k < i → i < S (k + 1) → f i = -3) := h.2.2.2.2.2.2.1
theorem zPc.k4 {f : Int → Int} {b : qM} {S : Int → Int} {p : Int} {q : Nat} (h : zPc f b S p q) : ∀ k, 0 ≤ k → k < p → b 141 k = 4 → S (k + 1) = S k + 1 ∧ f (S k) = 12 := h.2.2.2.2.2.2.2.1
theorem zPc.k5 {f : Int → Int} {b : qM} {S : Int → Int} {p : Int} {q : Nat} (h : zPc f b S p q) : ∀ k, 0 ≤ k → k < p → b 141 k = 5 → f (S k) = -4 ∧ (∀ i, S k < i → i < S (k + 1) → f i = -3) := h.2.2.2.2.2.2.2.2.1
theorem zPc.k1 {f : Int → Int} {b : qM} {S : Int → Int} {p : Int} {q : Nat} (h : zPc f b S p q) : ∀ k, 0 ≤ k → k < p → b 141 k = 1 → b 143 k = S (k + 1) - S k ∧ b 146 k = S (k + 1) - zOu b k q - (S k + zCw b k q) ∧ 0 ≤ b 146 k ∧ (∀ i, S k ≤ i → i < S (k + 1) → b 138 i = 42) ∧ (∀ i, S k + zCw b k q ≤ i → i < S (k + 1) - zOu b k q → f i = 0) := h.2.2.2.2.2.2.2.2.2.1
theorem zPc.pr {f : Int → Int} {b : qM} {S : Int → Int} {p : Int} {q : Nat} (h : zPc f b S p q) : ∀ j : Nat, j < q → 0 ≤ b 148 j ∧ b 148 j < b 149 j ∧ b 149 j < p ∧ b 141 (b 148 j) = 1 ∧ b 141 (b 149 j) = 1 ∧ (b 150 j = 9 ∨ b 150 j = 10) ∧ f (S (b 149 j) + zCw b (b 149 j) j) = -4 ∧ (b 150 j = 10 → f (S (b 149 j) + zCw b (b 149 j) j + 1) = -3) ∧ f (S (b 148 j + 1) - zOu b (b 148 j) (j + 1)) = b 150 j ∧ (b 150 j = 10 → f (S (b 148 j + 1) - zOu b (b 148 j) (j + 1) + 1) = -3) := h.2.2.2.2.2.2.2.2.2.2
section Pieces
variable {f f' : Int → Int} {b b' : qM} {S : Int → Int} {p : Int} {q : Nat}
theorem zWd_12 {j : Nat} : 1 ≤ zWd b j ∧ zWd b j ≤ 2 := by unfold zWd; split <;> omega
theorem zCw_mono {k : Int} {i : Nat} : ∀ (d : Nat), zCw b k i ≤ zCw b k (i + d)
  | 0 => Int.le_refl _
  | d + 1 => by
    have h := zCw_mono (k := k) (i := i) d
    have w := zWd_12 (b := b) (j := i + d)
    show zCw b k i ≤ zCw b k (i + d) + (if b 149 ((i + d : Nat) : Int) = k then zWd b (i + d) else 0)
    split <;> omega
theorem zOu_mono {k : Int} {i : Nat} : ∀ (d : Nat), zOu b k i ≤ zOu b k (i + d)
  | 0 => Int.le_refl _
  | d + 1 => by
    have h := zOu_mono (k := k) (i := i) d
    have w := zWd_12 (b := b) (j := i + d)
    show zOu b k i ≤ zOu b k (i + d) + (if b 148 ((i + d : Nat) : Int) = k then zWd b (i + d) else 0)
    split <;> omega
theorem zCw_le {k : Int} {i j : Nat} (h : i ≤ j) : zCw b k i ≤ zCw b k j := by
  have := zCw_mono (b := b) (k := k) (i := i) (j - i)
  rw [show i + (j - i) = j by omega] at this; exact this
theorem zOu_le {k : Int} {i j : Nat} (h : i ≤ j) : zOu b k i ≤ zOu b k j := by
  have := zOu_mono (b := b) (k := k) (i := i) (j - i)
  rw [show i + (j - i) = j by omega] at this; exact this
theorem zCw_congr {k : Int} : ∀ (q : Nat), (∀ j : Nat, j < q → b' 149 j = b 149 j ∧ b' 150 j = b 150 j) → zCw b' k q = zCw b k q
  | 0, _ => rfl
  | q + 1, h => by
    have h1 := zCw_congr (k := k) q (fun j hj => h j (by omega))
    have h2 := h q (by omega)
    show zCw b' k q + (if b' 149 (q : Int) = k then zWd b' q else 0) = zCw b k q + (if b 149 (q : Int) = k then zWd b q else 0)
    unfold zWd
    rw [h1, h2.1, h2.2]
theorem zOu_congr {k : Int} : ∀ (q : Nat), (∀ j : Nat, j < q → b' 148 j = b 148 j ∧ b' 150 j = b 150 j) → zOu b' k q = zOu b k q
  | 0, _ => rfl
  | q + 1, h => by
    have h1 := zOu_congr (k := k) q (fun j hj => h j (by omega))
    have h2 := h q (by omega)
    show zOu b' k q + (if b' 148 (q : Int) = k then zWd b' q else 0) = zOu b k q + (if b 148 (q : Int) = k then zWd b q else 0)
    unfold zWd
    rw [h1, h2.1, h2.2]
theorem zPc.sep (Z : zPc f b S p q) : ∀ (d : Nat) (k : Int), 0 ≤ k → k + d ≤ p → S k + d ≤ S (k + d)
  | 0, k, _, _ => by rw [show k + ((0 : Nat) : Int) = k by omega]; omega
  | d + 1, k, k0, h => by
    have h1 := Z.sep d k k0 (by omega)
    have h2 := Z.mono (k + d) (by omega) (by omega)
    rw [show k + ((d + 1 : Nat) : Int) = k + d + 1 by omega]
    omega
theorem zPc.sep2 (Z : zPc f b S p q) {k l : Int} (k0 : 0 ≤ k) (h : k < l) (hl : l ≤ p) : S (k + 1) ≤ S l := by
  have := Z.sep (l - (k + 1)).toNat (k + 1) (by omega) (by omega)
  rw [show k + 1 + ((l - (k + 1)).toNat : Int) = l by omega] at this
  omega
/-- a pair is made -/
theorem zPc.pair (Z : zPc f b S p q) {o c w κ x y : Int} (o0 : 0 ≤ o) (oc : o < c) (cp : c < p) (to : b 141 o = 1) (tc : b 141 c = 1) (hw : w = 1 ∨ w = 2) (hκ : κ = if w = 2 then 10 else 9) (lo : w ≤ b 146 o) (lc : w ≤ b 146 c) (hx : x = S (o + 1) - zOu b o q - w) (hy : y = S c + zCw b c q)
    (fx : f' x = κ) (fy : f' y = -4) (fx2 : w = 2 → f' (x + 1) = -3) (fy2 : w = 2 → f' (y + 1) = -3) (fo : ∀ i, ¬ (x ≤ i ∧ i < x + w) → ¬ (y ≤ i ∧ i < y + w) → f' i = f i)
    (b8 : b' 148 = q_u (b 148) q o) (b9 : b' 149 = q_u (b 149) q c) (b0 : b' 150 = q_u (b 150) q κ) (b6 : b' 146 = q_u (q_u (b 146) c (b 146 c - w)) o (b 146 o - w)) (e138 : b' 138 = b 138) (e141 : b' 141 = b 141) (e142 : b' 142 = b 142) (e143 : b' 143 = b 143) : zPc f' b' S p (q + 1) := by
  obtain ⟨o1, o2, o3, o4, o5⟩ := Z.k1 o o0 (by omega) to
  obtain ⟨c1, c2, c3, c4, c5⟩ := Z.k1 c (by omega) cp tc
  have cC : ∀ k, zCw b' k q = zCw b k q := fun k => zCw_congr q (fun j hj => by rw [b9, b0, q_u_ne (by omega), q_u_ne (by omega)]; exact ⟨rfl, rfl⟩)
  have cO : ∀ k, zOu b' k q = zOu b k q := fun k => zOu_congr q (fun j hj => by rw [b8, b0, q_u_ne (by omega), q_u_ne (by omega)]; exact ⟨rfl, rfl⟩)
  have cCj : ∀ k (j : Nat), j ≤ q → zCw b' k j = zCw b k j := fun k j hj => zCw_congr j (fun i hi => by rw [b9, b0, q_u_ne (by omega), q_u_ne (by omega)]; exact ⟨rfl, rfl⟩)
  have cOj : ∀ k (j : Nat), j ≤ q → zOu b' k j = zOu b k j := fun k j hj => zOu_congr j (fun i hi => by rw [b8, b0, q_u_ne (by omega), q_u_ne (by omega)]; exact ⟨rfl, rfl⟩)
  have wq : zWd b' q = w := by unfold zWd; rw [b0, q_u_at, hκ]; rcases hw with h | h <;> rw [h] <;> decide
  have sC : ∀ k, zCw b' k (q + 1) = zCw b k q + (if c = k then w else 0) := fun k => by
    show zCw b' k q + (if b' 149 (q : Int) = k then zWd b' q else 0) = _
    rw [cC, b9, q_u_at, wq]
  have sO : ∀ k, zOu b' k (q + 1) = zOu b k q + (if o = k then w else 0) := fun k => by
    show zOu b' k q + (if b' 148 (q : Int) = k then zWd b' q else 0) = _
    rw [cO, b8, q_u_at, wq]
  have so := Z.sep2 o0 oc (Int.le_of_lt cp)
  have nC : ∀ k, 0 ≤ zCw b k q := fun k => zCw_le (b := b) (k := k) (i := 0) (Nat.zero_le q)
  have nO : ∀ k, 0 ≤ zOu b k q := fun k => zOu_le (b := b) (k := k) (i := 0) (Nat.zero_le q)
  have nCo := nC o
  have nCc := nC c
  have nOo := nO o
  have nOc := nO c
  -- the changed places lie in o and in c
  have inx : S o + zCw b o q ≤ x ∧ x + w = S (o + 1) - zOu b o q := by omega
  have iny : y = S c + zCw b c q ∧ y + w ≤ S (c + 1) - zOu b c q := by omega
  have keep : ∀ k, 0 ≤ k → k < p → k ≠ o → k ≠ c → ∀ i, S k ≤ i → i < S (k + 1) → f' i = f i := by
    intro k k0 kp ko kc i h1 h2
    refine fo i (fun h => ?_) (fun h => ?_)
    · rcases Int.lt_or_lt_of_ne ko with z | z
      · have := Z.sep2 k0 z (by omega); omega
      · have := Z.sep2 o0 z (by omega); omega
    · rcases Int.lt_or_lt_of_ne kc with z | z
      · have := Z.sep2 k0 z (by omega); omega
      · have := Z.sep2 (by omega) z (by omega); omega
  have keepT : ∀ k, 0 ≤ k → k < p → b 141 k ≠ 1 → ∀ i, S k ≤ i → i < S (k + 1) → f' i = f i := fun k k0 kp ht => keep k k0 kp (fun h => ht (by rw [h]; exact to)) (fun h => ht (by rw [h]; exact tc))
  refine zPc.mk Z.p0 Z.s0 Z.mono (by rw [e141]; exact Z.ty) ?_ ?_ ?_ ?_ ?_ ?_ ?_
  · intro k k0 kp ht
    rw [e141] at ht
    have m := Z.mono k k0 kp
    have kk := keepT k k0 kp (by omega)
    rw [e142, e138]
    rcases Z.k0 k k0 kp ht with ⟨h1, h2, h3⟩ | ⟨h1, h2, h3, h4⟩
    · left; rw [kk (S k) (Int.le_refl _) m]; exact ⟨h1, h2, h3⟩
    · right; rw [kk (S k) (Int.le_refl _) m, kk (S k + 1) (by omega) (by omega)]; exact ⟨h1, h2, h3, h4⟩
  · intro k k0 kp ht
    rw [e141] at ht
    have m := Z.mono k k0 kp
    rw [keepT k k0 kp (by omega) (S k) (Int.le_refl _) m, e142, e138]
    exact Z.k3 k k0 kp ht
  · intro k k0 kp ht
    rw [e141] at ht
    have m := Z.mono k k0 kp
    have kk := keepT k k0 kp (by omega)
    obtain ⟨h1, h2, h3, h4, h5, h6, h7, h8⟩ := Z.k2 k k0 kp ht
    rw [e142, e143, kk (S k) (Int.le_refl _) m, kk (b 143 k) (by omega) h3]
    exact ⟨h1, h2, h3, h4, fun i u v => by rw [kk i (by omega) (by omega)]; exact h5 i u v, fun i u v => by rw [kk i (by omega) (by omega)]; exact h6 i u v, h7, fun i u v => by rw [kk i (by omega) (by omega)]; exact h8 i u v⟩
  · intro k k0 kp ht
    rw [e141] at ht
    have m := Z.mono k k0 kp
    rw [keepT k k0 kp (by omega) (S k) (Int.le_refl _) m]
    exact Z.k4 k k0 kp ht
  · intro k k0 kp ht
    rw [e141] at ht
    have m := Z.mono k k0 kp
    have kk := keepT k k0 kp (by omega)
    rw [kk (S k) (Int.le_refl _) m]
    obtain ⟨h1, h2⟩ := Z.k5 k k0 kp ht
    exact ⟨h1, fun i u v => by rw [kk i (by omega) v]; exact h2 i u v⟩
  · intro k k0 kp ht
    rw [e141] at ht
    obtain ⟨h1, h2, h3, h4, h5⟩ := Z.k1 k k0 kp ht
    rw [e143, e138, sC, sO, b6]
    by_cases ko : k = o
    · rw [ko, q_u_at, if_pos rfl, if_neg (show ¬ c = o by omega)]
      refine ⟨o1, by omega, by omega, o4, fun i u v => ?_⟩
      rw [fo i (by omega) (by omega)]
      exact o5 i (by omega) (by omega)
    · rw [q_u_ne ko]
      by_cases kc : k = c
      · rw [kc, q_u_at, if_neg (show ¬ o = c by omega), if_pos rfl]
        refine ⟨c1, by omega, by omega, c4, fun i u v => ?_⟩
        rw [fo i (by omega) (by omega)]
        exact c5 i (by omega) (by omega)
      · rw [q_u_ne kc, if_neg (fun z => ko z.symm), if_neg (fun z => kc z.symm)]
        have nCk := nC k
        have nOk := nO k
        refine ⟨h1, by omega, h3, h4, fun i u v => ?_⟩
        rw [keep k k0 kp ko kc i (by omega) (by omega)]
        exact h5 i (by omega) (by omega)
  · intro j hj
    by_cases e : j = q
    · rw [e, b8, b9, b0, q_u_at, q_u_at, q_u_at, e141, cC, sO, if_pos rfl, show S (o + 1) - (zOu b o q + w) = x by omega, ← hy]
      refine ⟨o0, oc, cp, to, tc, ?_, fy, fun z => fy2 ?_, fx, fun z => fx2 ?_⟩
      · rw [hκ]; rcases hw with h | h <;> rw [h] <;> decide
      · rw [hκ] at z; rcases hw with h | h
        · rw [h] at z; exact absurd z (by decide)
        · exact h
      · rw [hκ] at z; rcases hw with h | h
        · rw [h] at z; exact absurd z (by decide)
        · exact h
    · have jq : j < q := by omega
      obtain ⟨h1, h2, h3, h4, h5, h6, h7, h8, h9, h10⟩ := Z.pr j jq
      rw [b8, b9, b0, q_u_ne (by omega), q_u_ne (by omega), q_u_ne (by omega), e141, cCj _ j (by omega), cOj _ (j + 1) (by omega)]
      -- where the pair's characters lie
      have wj : zWd b j = if b 150 (j : Int) = 10 then 2 else 1 := rfl
      have lc1 : zCw b (b 149 j) j + zWd b j ≤ zCw b (b 149 j) q := by
        have := zCw_le (b := b) (k := b 149 j) (i := j + 1) (j := q) (by omega)
        have e1 : zCw b (b 149 j) (j + 1) = zCw b (b 149 j) j + (if b 149 (j : Int) = b 149 j then zWd b j else 0) := rfl
        rw [if_pos rfl] at e1; omega
      have lo1 : zOu b (b 148 j) (j + 1) ≤ zOu b (b 148 j) q := zOu_le (by omega)
      have lo2 : zWd b j ≤ zOu b (b 148 j) (j + 1) := by
        have e1 : zOu b (b 148 j) (j + 1) = zOu b (b 148 j) j + (if b 148 (j : Int) = b 148 j then zWd b j else 0) := rfl
        have := zOu_le (b := b) (k := b 148 j) (i := 0) (Nat.zero_le j)
        have e0 : zOu b (b 148 j) 0 = 0 := rfl
        rw [if_pos rfl] at e1; omega
      have lc0 : 0 ≤ zCw b (b 149 j) j := zCw_le (b := b) (k := b 149 j) (i := 0) (Nat.zero_le j)
      have kc1 := Z.k1 (b 149 j) (by omega) h3 h5
      have ko1 := Z.k1 (b 148 j) h1 (by omega) h4
      have nCo' := nC (b 148 j)
      have nOc' := nO (b 149 j)
      have cl : ∀ i, S (b 149 j) + zCw b (b 149 j) j ≤ i → i < S (b 149 j) + zCw b (b 149 j) j + zWd b j → f' i = f i := by
        intro i u v
        by_cases z1 : b 149 j = c
        · rw [z1] at u v lc1 kc1 lc0
          exact fo i (by omega) (by omega)
        · by_cases z2 : b 149 j = o
          · rw [z2] at u v lc1 kc1 lc0
            exact fo i (by omega) (by omega)
          · exact keep _ (by omega) h3 z2 z1 i (by omega) (by omega)
      have op : ∀ i, S (b 148 j + 1) - zOu b (b 148 j) (j + 1) ≤ i → i < S (b 148 j + 1) - zOu b (b 148 j) (j + 1) + zWd b j → f' i = f i := by
        intro i u v
        by_cases z1 : b 148 j = o
        · rw [z1] at u v lo1 lo2 ko1
          exact fo i (by omega) (by omega)
        · by_cases z2 : b 148 j = c
          · rw [z2] at u v lo1 lo2 ko1
            exact fo i (by omega) (by omega)
          · exact keep _ h1 (by omega) z1 z2 i (by omega) (by omega)
      have w12 := zWd_12 (b := b) (j := j)
      refine ⟨h1, h2, h3, h4, h5, h6, by rw [cl _ (Int.le_refl _) (by omega)]; exact h7, fun z => ?_, by rw [op _ (Int.le_refl _) (by omega)]; exact h9, fun z => ?_⟩
      · rw [if_pos z] at wj; rw [cl _ (by omega) (by omega)]; exact h8 z
      · rw [if_pos z] at wj; rw [op _ (by omega) (by omega)]; exact h10 z
end Pieces
