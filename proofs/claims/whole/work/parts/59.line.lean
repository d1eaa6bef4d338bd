/-! What the lines read so far have told. -/
def zF (a b : qM) (k : Int) : Int := a 26 k + (if b 117 k = 5 then 1 else 0)
def zLs (a b : qM) (n L : Int) : Prop := (0 ≤ L) ∧ (∀ l, 0 ≤ l → l < L → 0 ≤ a 32 l ∧ a 32 l < n ∧ b 128 l = (if b 117 (a 32 l) = 5 then 1 else 0) ∧ b 127 l = a 9 l) ∧ (∀ l, 0 ≤ l → l < L → b 124 l ≠ -1 → 0 ≤ b 124 l ∧ b 124 l < n ∧ 4 ≤ b 117 (b 124 l) ∧ b 117 (b 124 l) ≤ 6 ∧ b 125 l = a 30 l ∧ b 126 l = a 11 l ∧ a 9 l ≤ a 30 l ∧ a 30 l ≤ a 11 l) ∧ (∀ k, 0 ≤ k → k < n → 4 ≤ b 117 k → b 117 k ≤ 6 → 0 ≤ a 26 k ∧ 0 ≤ a 28 k ∧ zF a b k + a 28 k ≤ L ∧ (∀ l, 0 ≤ l → l < L → (b 124 l = k ↔ zF a b k ≤ l ∧ l < zF a b k + a 28 k)) ∧ (b 117 k = 4 → a 28 k = 1) ∧ (b 117 k = 6 → 1 ≤ a 28 k)) ∧ (∀ l, 0 ≤ l → l < L → b 124 l ≠ -1 → b 117 (b 124 l) = 6 → zSkip (b 114) (b 125 l) (b 126 l) ≠ b 126 l)
theorem zLs.mk {a b : qM} {n L : Int} (L0 : 0 ≤ L) (ow : ∀ l, 0 ≤ l → l < L → 0 ≤ a 32 l ∧ a 32 l < n ∧ b 128 l = (if b 117 (a 32 l) = 5 then 1 else 0) ∧ b 127 l = a 9 l) (bl : ∀ l, 0 ≤ l → l < L → b 124 l ≠ -1 → 0 ≤ b 124 l ∧ b 124 l < n ∧ 4 ≤ b 117 (b 124 l) ∧ b 117 (b 124 l) ≤ 6 ∧ b 125 l = a 30 l ∧ b 126 l = a 11 l ∧ a 9 l ≤ a 30 l ∧ a 30 l ≤ a 11 l) (rg : ∀ k, 0 ≤ k → k < n → 4 ≤ b 117 k → b 117 k ≤ 6 → 0 ≤ a 26 k ∧ 0 ≤ a 28 k ∧ zF a b k + a 28 k ≤ L ∧ (∀ l, 0 ≤ l → l < L → (b 124 l = k ↔ zF a b k ≤ l ∧ l < zF a b k + a 28 k)) ∧ (b 117 k = 4 → a 28 k = 1) ∧ (b 117 k = 6 → 1 ≤ a 28 k)) (nb : ∀ l, 0 ≤ l → l < L → b 124 l ≠ -1 → b 117 (b 124 l) = 6 → zSkip (b 114) (b 125 l) (b 126 l) ≠ b 126 l) : zLs a b n L := ⟨L0, ow, bl, rg, nb⟩
theorem zLs.L0 {a b : qM} {n L : Int} (h : zLs a b n L) : 0 ≤ L := h.1
theorem zLs.ow {a b : qM} {n L : Int} (h : zLs a b n L) : ∀ l, 0 ≤ l → l < L → 0 ≤ a 32 l ∧ a 32 l < n ∧ b 128 l = (if b 117 (a 32 l) = 5 then 1 else 0) ∧ b 127 l = a 9 l := h.2.1
theorem zLs.bl {a b : qM} {n L : Int} (h : zLs a b n L) : ∀ l, 0 ≤ l → l < L → b 124 l ≠ -1 → 0 ≤ b 124 l ∧ b 124 l < n ∧ 4 ≤ b 117 (b 124 l) ∧ b 117 (b 124 l) ≤ 6 ∧ b 125 l = a 30 l ∧ b 126 l = a 11 l ∧ a 9 l ≤ a 30 l ∧ a 30 l ≤ a 11 l := h.2.2.1
theorem zLs.rg {a b : qM} {n L : Int} (h : zLs a b n L) : ∀ k, 0 ≤ k → k < n → 4 ≤ b 117 k → b 117 k ≤ 6 → 0 ≤ a 26 k ∧ 0 ≤ a 28 k ∧ zF a b k + a 28 k ≤ L ∧ (∀ l, 0 ≤ l → l < L → (b 124 l = k ↔ zF a b k ≤ l ∧ l < zF a b k + a 28 k)) ∧ (b 117 k = 4 → a 28 k = 1) ∧ (b 117 k = 6 → 1 ≤ a 28 k) := h.2.2.2.1
theorem zLs.nb {a b : qM} {n L : Int} (h : zLs a b n L) : ∀ l, 0 ≤ l → l < L → b 124 l ≠ -1 → b 117 (b 124 l) = 6 → zSkip (b 114) (b 125 l) (b 126 l) ≠ b 126 l := h.2.2.2.2
/-- one line more, L: what stays -/
def zLf (a a' b b' : qM) (n n' L : Int) : Prop := (n ≤ n') ∧ (a' 9 = a 9) ∧ (a' 11 = a 11) ∧ (b' 114 = b 114) ∧ (∀ k, 0 ≤ k → k < n → a' 26 k = a 26 k ∧ b' 117 k = b 117 k) ∧ (∀ l, 0 ≤ l → l < L → a' 30 l = a 30 l ∧ a' 32 l = a 32 l ∧ b' 124 l = b 124 l ∧ b' 125 l = b 125 l ∧ b' 126 l = b 126 l ∧ b' 127 l = b 127 l ∧ b' 128 l = b 128 l) ∧ (0 ≤ a' 32 L ∧ a' 32 L < n' ∧ b' 128 L = (if b' 117 (a' 32 L) = 5 then 1 else 0) ∧ b' 127 L = a 9 L)
theorem zLf.mk {a a' b b' : qM} {n n' L : Int} (nn : n ≤ n') (a9 : a' 9 = a 9) (a11 : a' 11 = a 11) (tx : b' 114 = b 114) (old : ∀ k, 0 ≤ k → k < n → a' 26 k = a 26 k ∧ b' 117 k = b 117 k) (ln : ∀ l, 0 ≤ l → l < L → a' 30 l = a 30 l ∧ a' 32 l = a 32 l ∧ b' 124 l = b 124 l ∧ b' 125 l = b 125 l ∧ b' 126 l = b 126 l ∧ b' 127 l = b 127 l ∧ b' 128 l = b 128 l) (own : 0 ≤ a' 32 L ∧ a' 32 L < n' ∧ b' 128 L = (if b' 117 (a' 32 L) = 5 then 1 else 0) ∧ b' 127 L = a 9 L) : zLf a a' b b' n n' L := ⟨nn, a9, a11, tx, old, ln, own⟩
theorem zLf.nn {a a' b b' : qM} {n n' L : Int} (h : zLf a a' b b' n n' L) : n ≤ n' := h.1
theorem zLf.a9 {a a' b b' : qM} {n n' L : Int} (h : zLf a a' b b' n n' L) : a' 9 = a 9 := h.2.1
theorem zLf.a11 {a a' b b' : qM} {n n' L : Int} (h : zLf a a' b b' n n' L) : a' 11 = a 11 := h.2.2.1
theorem zLf.tx {a a' b b' : qM} {n n' L : Int} (h : zLf a a' b b' n n' L) : b' 114 = b 114 := h.2.2.2.1
theorem zLf.old {a a' b b' : qM} {n n' L : Int} (h : zLf a a' b b' n n' L) : ∀ k, 0 ≤ k → k < n → a' 26 k = a 26 k ∧ b' 117 k = b 117 k := h.2.2.2.2.1
theorem zLf.ln {a a' b b' : qM} {n n' L : Int} (h : zLf a a' b b' n n' L) : ∀ l, 0 ≤ l → l < L → a' 30 l = a 30 l ∧ a' 32 l = a 32 l ∧ b' 124 l = b 124 l ∧ b' 125 l = b 125 l ∧ b' 126 l = b 126 l ∧ b' 127 l = b 127 l ∧ b' 128 l = b 128 l := h.2.2.2.2.2.1
theorem zLf.own {a a' b b' : qM} {n n' L : Int} (h : zLf a a' b b' n n' L) : 0 ≤ a' 32 L ∧ a' 32 L < n' ∧ b' 128 L = (if b' 117 (a' 32 L) = 5 then 1 else 0) ∧ b' 127 L = a 9 L := h.2.2.2.2.2.2
section Line
variable {a a' b b' : qM} {n n' L : Int}
theorem zLf.zf (F : zLf a a' b b' n n' L) {k : Int} (k0 : 0 ≤ k) (kn : k < n) : zF a' b' k = zF a b k := by
  unfold zF; rw [(F.old k k0 kn).1, (F.old k k0 kn).2]
theorem zLs.ow1 (S : zLs a b n L) (F : zLf a a' b b' n n' L) : ∀ l, 0 ≤ l → l < L + 1 → 0 ≤ a' 32 l ∧ a' 32 l < n' ∧ b' 128 l = (if b' 117 (a' 32 l) = 5 then 1 else 0) ∧ b' 127 l = a' 9 l := by
  intro l l0 lL
  rw [F.a9]
  by_cases e : l = L
  · rw [e]; exact F.own
  · have h := S.ow l l0 (by omega)
    have f := F.ln l l0 (by omega)
    rw [f.2.1, f.2.2.2.2.2.2, f.2.2.2.2.2.1, (F.old _ h.1 h.2.1).2]
    have := F.nn
    exact ⟨h.1, by omega, h.2.2.1, h.2.2.2⟩
theorem zLs.bl1 (S : zLs a b n L) (F : zLf a a' b b' n n' L) (x : b' 124 L ≠ -1 → 0 ≤ b' 124 L ∧ b' 124 L < n' ∧ 4 ≤ b' 117 (b' 124 L) ∧ b' 117 (b' 124 L) ≤ 6 ∧ b' 125 L = a' 30 L ∧ b' 126 L = a 11 L ∧ a 9 L ≤ a' 30 L ∧ a' 30 L ≤ a 11 L) : ∀ l, 0 ≤ l → l < L + 1 → b' 124 l ≠ -1 → 0 ≤ b' 124 l ∧ b' 124 l < n' ∧ 4 ≤ b' 117 (b' 124 l) ∧ b' 117 (b' 124 l) ≤ 6 ∧ b' 125 l = a' 30 l ∧ b' 126 l = a' 11 l ∧ a' 9 l ≤ a' 30 l ∧ a' 30 l ≤ a' 11 l := by
  intro l l0 lL
  rw [F.a9, F.a11]
  by_cases e : l = L
  · rw [e]; exact x
  · have f := F.ln l l0 (by omega)
    have := F.nn
    rw [f.2.2.1, f.2.2.2.1, f.2.2.2.2.1, f.1]
    intro ne
    have h := S.bl l l0 (by omega) ne
    rw [(F.old _ h.1 h.2.1).2]
    exact ⟨h.1, by omega, h.2.2⟩
theorem zLs.nb1 (S : zLs a b n L) (F : zLf a a' b b' n n' L) (x : b' 124 L ≠ -1 → b' 117 (b' 124 L) = 6 → zSkip (b 114) (b' 125 L) (b' 126 L) ≠ b' 126 L) : ∀ l, 0 ≤ l → l < L + 1 → b' 124 l ≠ -1 → b' 117 (b' 124 l) = 6 → zSkip (b' 114) (b' 125 l) (b' 126 l) ≠ b' 126 l := by
  intro l l0 lL
  rw [F.tx]
  by_cases e : l = L
  · rw [e]; exact x
  · have f := F.ln l l0 (by omega)
    rw [f.2.2.1, f.2.2.2.1, f.2.2.2.2.1]
    intro ne
    have h := S.bl l l0 (by omega) ne
    rw [(F.old _ h.1 h.2.1).2]
    exact S.nb l l0 (by omega) ne
theorem zLs.none (S : zLs a b n L) (F : zLf a a' b b' n n' L) (x : b' 124 L = -1) (c28 : ∀ k, 0 ≤ k → k < n → a' 28 k = a 28 k) (new : ∀ k, n ≤ k → k < n' → 4 ≤ b' 117 k → b' 117 k ≤ 6 → b' 117 k = 5 ∧ a' 26 k = L ∧ a' 28 k = 0) (n0 : 0 ≤ n) : zLs a' b' n' (L + 1) := by
  have L0 := S.L0
  refine zLs.mk (by omega) (S.ow1 F) (S.bl1 F (fun y => absurd x y)) (fun k k0 kn h4 h6 => ?_) (S.nb1 F (fun y => absurd x y))
  by_cases e : k < n
  · rw [F.zf k0 e, (F.old k k0 e).1, (F.old k k0 e).2, c28 k k0 e]
    rw [(F.old k k0 e).2] at h4 h6
    have h := S.rg k k0 e h4 h6
    refine ⟨h.1, h.2.1, by omega, fun l l0 lL => ?_, h.2.2.2.2⟩
    by_cases el : l = L
    · rw [el, x]; constructor <;> intro z <;> omega
    · rw [(F.ln l l0 (by omega)).2.2.1]; exact h.2.2.2.1 l l0 (by omega)
  · obtain ⟨x5, x26, x28⟩ := new k (by omega) kn h4 h6
    have ef : zF a' b' k = L + 1 := by unfold zF; rw [x26, if_pos x5]
    rw [ef, x26, x28]
    refine ⟨L0, by omega, by omega, fun l l0 lL => ?_, fun z => by omega, fun z => by omega⟩
    constructor
    · intro z
      by_cases el : l = L
      · rw [el, x] at z; omega
      · rw [(F.ln l l0 (by omega)).2.2.1] at z
        have := S.bl l l0 (by omega) (by omega)
        omega
    · intro z; omega
theorem zLs.old (S : zLs a b n L) (F : zLf a a' b b' n n L) {x : Int} (x0 : 0 ≤ x) (xn : x < n) (kx : b 117 x = 5 ∨ b 117 x = 6) (hx : b' 124 L = x) (c28 : ∀ k, 0 ≤ k → k < n → k ≠ x → a' 28 k = a 28 k) (cx : a' 28 x = a 28 x + 1) (full : zF a b x + a 28 x = L)
    (g1 : b' 125 L = a' 30 L) (g2 : b' 126 L = a 11 L) (g3 : a 9 L ≤ a' 30 L) (g4 : a' 30 L ≤ a 11 L) (g5 : b 117 x = 6 → zSkip (b 114) (b' 125 L) (b' 126 L) ≠ b' 126 L) : zLs a' b' n (L + 1) := by
  have L0 := S.L0
  have ox := (F.old x x0 xn).2
  refine zLs.mk (by omega) (S.ow1 F) (S.bl1 F (fun y => by rw [hx, ox]; exact ⟨x0, xn, by omega, by omega, g1, g2, g3, g4⟩)) (fun k k0 kn h4 h6 => ?_) (S.nb1 F (fun y => by rw [hx, ox]; exact g5))
  rw [F.zf k0 kn, (F.old k k0 kn).1, (F.old k k0 kn).2]
  rw [(F.old k k0 kn).2] at h4 h6
  have h := S.rg k k0 kn h4 h6
  by_cases e : k = x
  · rw [e] at h ⊢
    rw [cx]
    refine ⟨h.1, by omega, by omega, fun l l0 lL => ?_, fun z => by omega, fun z => by omega⟩
    by_cases el : l = L
    · rw [el, hx]; constructor <;> intro z <;> omega
    · rw [(F.ln l l0 (by omega)).2.2.1, h.2.2.2.1 l l0 (by omega)]; constructor <;> intro z <;> omega
  · rw [c28 k k0 kn e]
    refine ⟨h.1, h.2.1, by omega, fun l l0 lL => ?_, h.2.2.2.2⟩
    by_cases el : l = L
    · rw [el, hx]; constructor <;> intro z <;> omega
    · rw [(F.ln l l0 (by omega)).2.2.1]; exact h.2.2.2.1 l l0 (by omega)
theorem zLs.new (S : zLs a b n L) (F : zLf a a' b b' n (n + 1) L) (n0 : 0 ≤ n) (kx : b' 117 n = 4 ∨ b' 117 n = 6) (hx : b' 124 L = n) (c28 : ∀ k, 0 ≤ k → k < n → a' 28 k = a 28 k) (c26 : a' 26 n = L) (cx : a' 28 n = 1)
    (g1 : b' 125 L = a' 30 L) (g2 : b' 126 L = a 11 L) (g3 : a 9 L ≤ a' 30 L) (g4 : a' 30 L ≤ a 11 L) (g5 : b' 117 n = 6 → zSkip (b 114) (b' 125 L) (b' 126 L) ≠ b' 126 L) : zLs a' b' (n + 1) (L + 1) := by
  have L0 := S.L0
  refine zLs.mk (by omega) (S.ow1 F) (S.bl1 F (fun y => by rw [hx]; exact ⟨n0, by omega, by omega, by omega, g1, g2, g3, g4⟩)) (fun k k0 kn h4 h6 => ?_) (S.nb1 F (fun y => by rw [hx]; exact g5))
  by_cases e : k = n
  · have ef : zF a' b' n = L := by unfold zF; rw [c26, if_neg (by omega)]; omega
    rw [e, ef, c26, cx]
    refine ⟨L0, by omega, by omega, fun l l0 lL => ?_, fun _ => rfl, fun _ => Int.le_refl 1⟩
    by_cases el : l = L
    · rw [el, hx]; constructor <;> intro z <;> omega
    · rw [(F.ln l l0 (by omega)).2.2.1]
      constructor
      · intro z
        have := S.bl l l0 (by omega) (by omega)
        omega
      · intro z; omega
  · have kn' : k < n := by omega
    rw [F.zf k0 kn', (F.old k k0 kn').1, (F.old k k0 kn').2, c28 k k0 kn']
    rw [(F.old k k0 kn').2] at h4 h6
    have h := S.rg k k0 kn' h4 h6
    refine ⟨h.1, h.2.1, by omega, fun l l0 lL => ?_, h.2.2.2.2⟩
    by_cases el : l = L
    · rw [el, hx]; constructor <;> intro z <;> omega
    · rw [(F.ln l l0 (by omega)).2.2.1]; exact h.2.2.2.1 l l0 (by omega)
/-- containers put in change none of it -/
theorem zLs.gr (S : zLs a b n L) (F : zFr a a' b b') (G : zGr a a' b b' n n') : zLs a' b' n' L := by
  have nn := G.nn
  have c9 : a' 9 = a 9 := F.fa 9 (by omega) (by decide) (by decide)
  have c11 : a' 11 = a 11 := F.fa 11 (by omega) (by decide) (by decide)
  have c30 : a' 30 = a 30 := F.fa 30 (by omega) (by decide) (by decide)
  have c32 : a' 32 = a 32 := F.fa 32 (by omega) (by decide) (by decide)
  have m : ∀ q, 124 ≤ q → q ≤ 128 → b' q = b q := fun q x y => F.fb q (by omega) (by omega) (by omega)
  have m114 : b' 114 = b 114 := F.fb 114 (by decide) (by omega) (by decide)
  refine zLs.mk S.L0 (fun l l0 lL => ?_) (fun l l0 lL => ?_) (fun k k0 kn h4 h6 => ?_) (fun l l0 lL => ?_)
  · have h := S.ow l l0 lL
    rw [c32, c9, m 127 (by decide) (by decide), m 128 (by decide) (by decide), (G.old _ h.1 h.2.1).2.2]
    exact ⟨h.1, by omega, h.2.2⟩
  · rw [c9, c11, c30, m 124 (by decide) (by decide), m 125 (by decide) (by decide), m 126 (by decide) (by decide)]
    intro ne
    have h := S.bl l l0 lL ne
    rw [(G.old _ h.1 h.2.1).2.2]
    exact ⟨h.1, by omega, h.2.2⟩
  · by_cases e : k < n
    · have g := G.old k k0 e
      have ef : zF a' b' k = zF a b k := by unfold zF; rw [g.1, g.2.2]
      rw [g.2.2] at h4 h6
      rw [ef, g.1, g.2.1, g.2.2, m 124 (by decide) (by decide)]
      exact S.rg k k0 e h4 h6
    · have := G.new k (by omega) kn; omega
  · rw [m114, m 124 (by decide) (by decide), m 125 (by decide) (by decide), m 126 (by decide) (by decide)]
    intro ne
    have h := S.bl l l0 lL ne
    rw [(G.old _ h.1 h.2.1).2.2]
    exact S.nb l l0 lL ne
end Line
/-! How much a tree may hold. -/
def zW (C E : Int → Int) (f : Int) : Nat → Int
  | 0 => 0
  | m + 1 => zW C E f m + (E (f + m) - C (f + m) + 1)
def zU1 (a b : qM) (k : Int) : Int := if 4 ≤ b 117 k ∧ b 117 k ≤ 6 then zW (a 30) (a 11) (zF a b k) (a 28 k).toNat else 0
def zV (a b : qM) (k : Int) : Int := if b 117 k = 4 ∨ b 117 k = 6 then zU1 a b k - 1 else 0
def zSig (f : Int → Int) : Nat → Int
  | 0 => 0
  | m + 1 => zSig f m + f m
def zPt (a b : qM) (n p q : Int) : Prop := (zSig (zU1 a b) n.toNat ≤ p) ∧ (n + zSig (zV a b) n.toNat ≤ q)
theorem zPt.mk {a b : qM} {n p q : Int} (p1 : zSig (zU1 a b) n.toNat ≤ p) (p2 : n + zSig (zV a b) n.toNat ≤ q) : zPt a b n p q := ⟨p1, p2⟩
theorem zPt.p1 {a b : qM} {n p q : Int} (h : zPt a b n p q) : zSig (zU1 a b) n.toNat ≤ p := h.1
theorem zPt.p2 {a b : qM} {n p q : Int} (h : zPt a b n p q) : n + zSig (zV a b) n.toNat ≤ q := h.2
section Pot
variable {a a' b b' : qM} {n n' L p q : Int}
theorem zSig_congr {f g : Int → Int} : ∀ (m : Nat), (∀ k : Int, 0 ≤ k → k < m → f k = g k) → zSig f m = zSig g m
  | 0, _ => rfl
  | m + 1, h => by
    unfold zSig
    rw [zSig_congr m (fun k a b => h k a (by omega)), h m (by omega) (by omega)]
theorem zSig_upd {f g : Int → Int} {x d : Int} (x0 : 0 ≤ x) (hx : g x = f x + d) : ∀ (m : Nat), x < m → (∀ k : Int, 0 ≤ k → k < m → k ≠ x → g k = f k) → zSig g m = zSig f m + d
  | 0, h, _ => by omega
  | m + 1, h, e => by
    show zSig g m + g (m : Int) = zSig f m + f (m : Int) + d
    by_cases y : x = m
    · rw [zSig_congr (f := g) (g := f) m (fun k a b => e k a (by omega) (by omega)), ← y, hx]; omega
    · rw [zSig_upd x0 hx m (by omega) (fun k a b c => e k a (by omega) c), e m (by omega) (by omega) (by omega)]; omega
theorem zSig_zero {f : Int → Int} (m : Nat) : ∀ (k : Nat), (∀ i : Int, (m : Int) ≤ i → i < m + k → f i = 0) → zSig f (m + k) = zSig f m
  | 0, _ => rfl
  | k + 1, h => by
    show zSig f (m + k) + f ((m + k : Nat) : Int) = zSig f m
    rw [zSig_zero m k (fun i a b => h i a (by omega)), h _ (by omega) (by omega)]; omega
theorem zW_congr {C E C' E' : Int → Int} {f : Int} : ∀ (m : Nat), (∀ l, f ≤ l → l < f + m → C' l = C l ∧ E' l = E l) → zW C' E' f m = zW C E f m
  | 0, _ => rfl
  | m + 1, h => by
    unfold zW
    rw [zW_congr m (fun l a b => h l a (by omega)), (h (f + m) (by omega) (by omega)).1, (h (f + m) (by omega) (by omega)).2]
theorem zLf.u1 (S : zLs a b n L) (F : zLf a a' b b' n n' L) {k : Int} (k0 : 0 ≤ k) (kn : k < n) (e : a' 28 k = a 28 k) : zU1 a' b' k = zU1 a b k ∧ zV a' b' k = zV a b k := by
  have u : zU1 a' b' k = zU1 a b k := by
    unfold zU1
    rw [F.zf k0 kn, (F.old k k0 kn).2, e]
    by_cases h : 4 ≤ b 117 k ∧ b 117 k ≤ 6
    · rw [if_pos h, if_pos h]
      have r := S.rg k k0 kn h.1 h.2
      refine zW_congr _ (fun l x y => ⟨?_, by rw [F.a11]⟩)
      refine (F.ln l ?_ (by omega)).1
      have : 0 ≤ zF a b k := by unfold zF; split <;> omega
      omega
    · rw [if_neg h, if_neg h]
  refine ⟨u, ?_⟩
  unfold zV
  rw [u, (F.old k k0 kn).2]
theorem zPt.none (P : zPt a b n p q) (S : zLs a b n L) (F : zLf a a' b b' n n' L) (n0 : 0 ≤ n) (c28 : ∀ k, 0 ≤ k → k < n → a' 28 k = a 28 k) (new : ∀ k, n ≤ k → k < n' → 4 ≤ b' 117 k → b' 117 k ≤ 6 → b' 117 k = 5 ∧ a' 26 k = L ∧ a' 28 k = 0) : zPt a' b' n' p (q + (n' - n)) := by
  have nn := F.nn
  have u : ∀ k, 0 ≤ k → k < n → zU1 a' b' k = zU1 a b k ∧ zV a' b' k = zV a b k := fun k k0 kn => F.u1 S k0 kn (c28 k k0 kn)
  have z : ∀ k, n ≤ k → k < n' → zU1 a' b' k = 0 ∧ zV a' b' k = 0 := by
    intro k k1 k2
    by_cases h : 4 ≤ b' 117 k ∧ b' 117 k ≤ 6
    · obtain ⟨x, y, w⟩ := new k k1 k2 h.1 h.2
      have : zU1 a' b' k = 0 := by unfold zU1; rw [if_pos h, w]; rfl
      refine ⟨this, ?_⟩
      unfold zV; rw [if_neg (by omega)]
    · refine ⟨by unfold zU1; rw [if_neg h], ?_⟩
      unfold zV; rw [if_neg (by omega)]
  have en : n'.toNat = n.toNat + (n' - n).toNat := by omega
  have e1 : zSig (zU1 a' b') n'.toNat = zSig (zU1 a b) n.toNat := by
    rw [en, zSig_zero n.toNat _ (fun i x y => (z i (by omega) (by omega)).1)]
    exact zSig_congr _ (fun k x y => (u k x (by omega)).1)
  have e2 : zSig (zV a' b') n'.toNat = zSig (zV a b) n.toNat := by
    rw [en, zSig_zero n.toNat _ (fun i x y => (z i (by omega) (by omega)).2)]
    exact zSig_congr _ (fun k x y => (u k x (by omega)).2)
  have h1 := P.p1
  have h2 := P.p2
  exact zPt.mk (by rw [e1]; exact h1) (by rw [e2]; omega)
theorem zPt.old (P : zPt a b n p q) (S : zLs a b n L) (F : zLf a a' b b' n n L) {x w : Int} (x0 : 0 ≤ x) (xn : x < n) (kx : b 117 x = 5 ∨ b 117 x = 6) (c28 : ∀ k, 0 ≤ k → k < n → k ≠ x → a' 28 k = a 28 k) (cx : a' 28 x = a 28 x + 1) (full : zF a b x + a 28 x = L) (hw : a 11 L - a' 30 L + 1 = w) {q' : Int} (h5 : b 117 x = 5 → q ≤ q') (h6 : b 117 x = 6 → q + w ≤ q') : zPt a' b' n (p + w) q' := by
  have r := S.rg x x0 xn (by omega) (by omega)
  have ux : zU1 a' b' x = zU1 a b x + w := by
    unfold zU1
    rw [F.zf x0 xn, (F.old x x0 xn).2, cx, if_pos (by omega), if_pos (by omega), show (a 28 x + 1).toNat = (a 28 x).toNat + 1 by omega]
    have zf0 : 0 ≤ zF a b x := by unfold zF; split <;> omega
    show zW (a' 30) (a' 11) (zF a b x) (a 28 x).toNat + (a' 11 (zF a b x + ((a 28 x).toNat : Int)) - a' 30 (zF a b x + ((a 28 x).toNat : Int)) + 1) = zW (a 30) (a 11) (zF a b x) (a 28 x).toNat + w
    rw [show zF a b x + ((a 28 x).toNat : Int) = L by omega, F.a11, zW_congr (C := a 30) (E := a 11) (C' := a' 30) (E' := a 11) (f := zF a b x) (a 28 x).toNat (fun l u v => ⟨(F.ln l (by omega) (by omega)).1, rfl⟩)]
    omega
  have u : ∀ k, 0 ≤ k → k < n → k ≠ x → zU1 a' b' k = zU1 a b k ∧ zV a' b' k = zV a b k := fun k k0 kn kx => F.u1 S k0 kn (c28 k k0 kn kx)
  have e1 : zSig (zU1 a' b') n.toNat = zSig (zU1 a b) n.toNat + w := zSig_upd x0 ux _ (by omega) (fun k k0 kn kx => (u k k0 (by omega) kx).1)
  have h1 := P.p1
  have h2 := P.p2
  refine zPt.mk (by rw [e1]; omega) ?_
  rcases kx with k5 | k6
  · have vx : zV a' b' x = zV a b x + 0 := by unfold zV; rw [(F.old x x0 xn).2, if_neg (by omega)]; omega
    rw [zSig_upd x0 vx _ (by omega) (fun k k0 kn kx => (u k k0 (by omega) kx).2)]
    have := h5 k5; omega
  · have vx : zV a' b' x = zV a b x + w := by unfold zV; rw [(F.old x x0 xn).2, if_pos (Or.inr k6), if_pos (Or.inr k6), ux]; omega
    rw [zSig_upd x0 vx _ (by omega) (fun k k0 kn kx => (u k k0 (by omega) kx).2)]
    have := h6 k6; omega
theorem zPt.new (P : zPt a b n p q) (S : zLs a b n L) (F : zLf a a' b b' n (n + 1) L) {w : Int} (n0 : 0 ≤ n) (kx : b' 117 n = 4 ∨ b' 117 n = 6) (c28 : ∀ k, 0 ≤ k → k < n → a' 28 k = a 28 k) (c26 : a' 26 n = L) (cx : a' 28 n = 1) (hw : a 11 L - a' 30 L + 1 = w) : zPt a' b' (n + 1) (p + w) (q + w) := by
  have u : ∀ k, 0 ≤ k → k < n → zU1 a' b' k = zU1 a b k ∧ zV a' b' k = zV a b k := fun k k0 kn => F.u1 S k0 kn (c28 k k0 kn)
  have un : zU1 a' b' n = w := by
    unfold zU1
    rw [if_pos (by omega), cx]
    have ef : zF a' b' n = L := by unfold zF; rw [c26, if_neg (by omega)]; omega
    rw [ef]
    show zW (a' 30) (a' 11) L 0 + (a' 11 (L + (0 : Nat)) - a' 30 (L + (0 : Nat)) + 1) = w
    rw [show L + ((0 : Nat) : Int) = L by omega, F.a11]
    show 0 + (a 11 L - a' 30 L + 1) = w
    omega
  have vn : zV a' b' n = w - 1 := by unfold zV; rw [if_pos kx, un]
  have en : (n + 1).toNat = n.toNat + 1 := by omega
  have ec : ((n.toNat : Nat) : Int) = n := by omega
  have e1 : zSig (zU1 a' b') (n + 1).toNat = zSig (zU1 a b) n.toNat + w := by
    rw [en]
    show zSig (zU1 a' b') n.toNat + zU1 a' b' (n.toNat : Int) = _
    rw [ec, un, zSig_congr (f := zU1 a' b') (g := zU1 a b) _ (fun k x y => (u k x (by omega)).1)]
  have e2 : zSig (zV a' b') (n + 1).toNat = zSig (zV a b) n.toNat + (w - 1) := by
    rw [en]
    show zSig (zV a' b') n.toNat + zV a' b' (n.toNat : Int) = _
    rw [ec, vn, zSig_congr (f := zV a' b') (g := zV a b) _ (fun k x y => (u k x (by omega)).2)]
  have h1 := P.p1
  have h2 := P.p2
  exact zPt.mk (by rw [e1]; omega) (by rw [e2]; omega)
theorem zPt.gr (P : zPt a b n p q) (n0 : 0 ≤ n) (F : zFr a a' b b') (G : zGr a a' b b' n n') : zPt a' b' n' p (q + (n' - n)) := by
  have nn := G.nn
  have c11 : a' 11 = a 11 := F.fa 11 (by omega) (by decide) (by decide)
  have c30 : a' 30 = a 30 := F.fa 30 (by omega) (by decide) (by decide)
  have u : ∀ k, 0 ≤ k → k < n → zU1 a' b' k = zU1 a b k ∧ zV a' b' k = zV a b k := by
    intro k k0 kn
    have g := G.old k k0 kn
    have ef : zF a' b' k = zF a b k := by unfold zF; rw [g.1, g.2.2]
    have : zU1 a' b' k = zU1 a b k := by unfold zU1; rw [ef, g.2.1, g.2.2, c11, c30]
    refine ⟨this, ?_⟩
    unfold zV; rw [this, g.2.2]
  have z : ∀ k, n ≤ k → k < n' → zU1 a' b' k = 0 ∧ zV a' b' k = 0 := by
    intro k k1 k2
    have := G.new k k1 k2
    exact ⟨by unfold zU1; rw [if_neg (by omega)], by unfold zV; rw [if_neg (by omega)]⟩
  have en : n'.toNat = n.toNat + (n' - n).toNat := by omega
  have e1 : zSig (zU1 a' b') n'.toNat = zSig (zU1 a b) n.toNat := by
    rw [en, zSig_zero n.toNat _ (fun i x y => (z i (by omega) (by omega)).1)]
    exact zSig_congr _ (fun k x y => (u k x (by omega)).1)
  have e2 : zSig (zV a' b') n'.toNat = zSig (zV a b) n.toNat := by
    rw [en, zSig_zero n.toNat _ (fun i x y => (z i (by omega) (by omega)).2)]
    exact zSig_congr _ (fun k x y => (u k x (by omega)).2)
  have h1 := P.p1
  have h2 := P.p2
  exact zPt.mk (by rw [e1]; exact h1) (by rw [e2]; omega)
end Pot
