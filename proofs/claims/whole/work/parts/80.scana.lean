/-! What holds as the written characters are read up to P. -/
def zDp (b : qM) : Nat → Int
  | 0 => 0
  | j + 1 => zDp b j + (if b 141 (j : Int) = 4 then 1 else if b 141 (j : Int) = 5 then -1 else 0)
def zS1 (S : Int → Int) (p P1 : Int) : Int → Int := fun k => if k ≤ p then S k else P1
def zSc (a b : qM) (n m : Int) (S : Int → Int) (p : Int) (q : Nat) (R : Int) (rho : Int → Int) (P : Int) : Prop := (zWr a b m) ∧ (zNm a b n 7 37 36) ∧ (zNm a b n 4 41 40) ∧ (7 * a 37 1 ≤ 241 ∧ a 41 1 ≤ 241 ∧ b 113 4 = n ∧ 1 ≤ n ∧ n ≤ 482) ∧ (zPc (a 48) b S p q) ∧ (zRn a b S p q 0 R rho 0) ∧ (b 113 41 = q ∧ b 113 33 = p ∧ a 47 1 = m ∧ a 49 1 = m ∧ S p = P ∧ P ≤ m) ∧ (∀ r, 0 ≤ r → r < R → b 147 (rho r) = 0 ∧ zCw b (rho r) q = 0 ∧ zOu b (rho r) q = 0) ∧ (∀ i, P ≤ i → i < m → a 48 i = 0 ∧ a 50 i = -1) ∧ (∀ i, 0 ≤ i → i < m → a 48 i = 12 ∨ a 50 i = -1) ∧ (∀ k, 0 ≤ k → k < p → b 141 k = 4 → zLk a b (a 50 (S k)) (b 143 k)) ∧ (0 ≤ a 51 1 ∧ a 51 1 ≤ P) ∧ (∀ i, 0 ≤ i → i < a 51 1 → ∃ k, 0 ≤ k ∧ k < p ∧ b 141 k = 3 ∧ a 52 i = S k) ∧ (∀ i j, 0 ≤ i → i < j → j < a 51 1 → a 52 i < a 52 j) ∧ (∀ k, 0 ≤ k → k < p → b 141 k = 3 → ∃ i, 0 ≤ i ∧ i < a 51 1 ∧ a 52 i = S k) ∧ (∀ j : Nat, (j : Int) ≤ p → 0 ≤ zDp b j)
theorem zSc.mk {a b : qM} {n m : Int} {S : Int → Int} {p : Int} {q : Nat} {R : Int} {rho : Int → Int} {P : Int} (W : zWr a b m) (nd : zNm a b n 7 37 36) (nh : zNm a b n 4 41 40) (nl : 7 * a 37 1 ≤ 241 ∧ a 41 1 ≤ 241 ∧ b 113 4 = n ∧ 1 ≤ n ∧ n ≤ 482) (Z : zPc (a 48) b S p q) (N : zRn a b S p q 0 R rho 0) (nn : b 113 41 = q ∧ b 113 33 = p ∧ a 47 1 = m ∧ a 49 1 = m ∧ S p = P ∧ P ≤ m) (un : ∀ r, 0 ≤ r → r < R → b 147 (rho r) = 0 ∧ zCw b (rho r) q = 0 ∧ zOu b (rho r) q = 0) (rest : ∀ i, P ≤ i → i < m → a 48 i = 0 ∧ a 50 i = -1) (sg : ∀ i, 0 ≤ i → i < m → a 48 i = 12 ∨ a 50 i = -1) (lk : ∀ k, 0 ≤ k → k < p → b 141 k = 4 → zLk a b (a 50 (S k)) (b 143 k)) (b0 : 0 ≤ a 51 1 ∧ a 51 1 ≤ P) (b1 : ∀ i, 0 ≤ i → i < a 51 1 → ∃ k, 0 ≤ k ∧ k < p ∧ b 141 k = 3 ∧ a 52 i = S k) (b2 : ∀ i j, 0 ≤ i → i < j → j < a 51 1 → a 52 i < a 52 j) (b3 : ∀ k, 0 ≤ k → k < p → b 141 k = 3 → ∃ i, 0 ≤ i ∧ i < a 51 1 ∧ a 52 i = S k) (dp : ∀ j : Nat, (j : Int) ≤ p → 0 ≤ zDp b j) : zSc a b n m S p q R rho P := ⟨W, nd, nh, nl, Z, N, nn, un, rest, sg, lk, b0, b1, b2, b3, dp⟩
theorem zSc.W {a b : qM} {n m : Int} {S : Int → Int} {p : Int} {q : Nat} {R : Int} {rho : Int → Int} {P : Int} (h : zSc a b n m S p q R rho P) : zWr a b m := h.1
theorem zSc.nd {a b : qM} {n m : Int} {S : Int → Int} {p : Int} {q : Nat} {R : Int} {rho : Int → Int} {P : Int} (h : zSc a b n m S p q R rho P) : zNm a b n 7 37 36 := h.2.1
theorem zSc.nh {a b : qM} {n m : Int} {S : Int → Int} {p : Int} {q : Nat} {R : Int} {rho : Int → Int} {P : Int} (h : zSc a b n m S p q R rho P) : zNm a b n 4 41 40 := h.2.2.1
theorem zSc.nl {a b : qM} {n m : Int} {S : Int → Int} {p : Int} {q : Nat} {R : Int} {rho : Int → Int} {P : Int} (h : zSc a b n m S p q R rho P) : 7 * a 37 1 ≤ 241 ∧ a 41 1 ≤ 241 ∧ b 113 4 = n ∧ 1 ≤ n ∧ n ≤ 482 := h.2.2.2.1
theorem zSc.Z {a b : qM} {n m : Int} {S : Int → Int} {p : Int} {q : Nat} {R : Int} {rho : Int → Int} {P : Int} (h : zSc a b n m S p q R rho P) : zPc (a 48) b S p q := h.2.2.2.2.1
theorem zSc.N {a b : qM} {n m : Int} {S : Int → Int} {p : Int} {q : Nat} {R : Int} {rho : Int → Int} {P : Int} (h : zSc a b n m S p q R rho P) : zRn a b S p q 0 R rho 0 := h.2.2.2.2.2.1
theorem zSc.nn {a b : qM} {n m : Int} {S : Int → Int} {p : Int} {q : Nat} {R : Int} {rho : Int → Int} {P : Int} (h : zSc a b n m S p q R rho P) : b 113 41 = q ∧ b 113 33 = p ∧ a 47 1 = m ∧ a 49 1 = m ∧ S p = P ∧ P ≤ m := h.2.2.2.2.2.2.1
theorem zSc.un {a b : qM} {n m : Int} {S : Int → Int} {p : Int} {q : Nat} {R : Int} {rho : Int → Int} {P : Int} (h : zSc a b n m S p q R rho P) : ∀ r, 0 ≤ r → r < R → b 147 (rho r) = 0 ∧ zCw b (rho r) q = 0 ∧ zOu b (rho r) q = 0 := h.2.2.2.2.2.2.2.1
theorem zSc.rest {a b : qM} {n m : Int} {S : Int → Int} {p : Int} {q : Nat} {R : Int} {rho : Int → Int} {P : Int} (h : zSc a b n m S p q R rho P) : ∀ i, P ≤ i → i < m → a 48 i = 0 ∧ a 50 i = -1 := h.2.2.2.2.2.2.2.2.1
theorem zSc.sg {a b : qM} {n m : Int} {S : Int → Int} {p : Int} {q : Nat} {R : Int} {rho : Int → Int} {P : Int} (h : zSc a b n m S p q R rho P) : ∀ i, 0 ≤ i → i < m → a 48 i = 12 ∨ a 50 i = -1 := h.2.2.2.2.2.2.2.2.2.1
theorem zSc.lk {a b : qM} {n m : Int} {S : Int → Int} {p : Int} {q : Nat} {R : Int} {rho : Int → Int} {P : Int} (h : zSc a b n m S p q R rho P) : ∀ k, 0 ≤ k → k < p → b 141 k = 4 → zLk a b (a 50 (S k)) (b 143 k) := h.2.2.2.2.2.2.2.2.2.2.1
theorem zSc.b0 {a b : qM} {n m : Int} {S : Int → Int} {p : Int} {q : Nat} {R : Int} {rho : Int → Int} {P : Int} (h : zSc a b n m S p q R rho P) : 0 ≤ a 51 1 ∧ a 51 1 ≤ P := h.2.2.2.2.2.2.2.2.2.2.2.1
theorem zSc.b1 {a b : qM} {n m : Int} {S : Int → Int} {p : Int} {q : Nat} {R : Int} {rho : Int → Int} {P : Int} (h : zSc a b n m S p q R rho P) : ∀ i, 0 ≤ i → i < a 51 1 → ∃ k, 0 ≤ k ∧ k < p ∧ b 141 k = 3 ∧ a 52 i = S k := h.2.2.2.2.2.2.2.2.2.2.2.2.1
theorem zSc.b2 {a b : qM} {n m : Int} {S : Int → Int} {p : Int} {q : Nat} {R : Int} {rho : Int → Int} {P : Int} (h : zSc a b n m S p q R rho P) : ∀ i j, 0 ≤ i → i < j → j < a 51 1 → a 52 i < a 52 j := h.2.2.2.2.2.2.2.2.2.2.2.2.2.1
theorem zSc.b3 {a b : qM} {n m : Int} {S : Int → Int} {p : Int} {q : Nat} {R : Int} {rho : Int → Int} {P : Int} (h : zSc a b n m S p q R rho P) : ∀ k, 0 ≤ k → k < p → b 141 k = 3 → ∃ i, 0 ≤ i ∧ i < a 51 1 ∧ a 52 i = S k := h.2.2.2.2.2.2.2.2.2.2.2.2.2.2.1
theorem zSc.dp {a b : qM} {n m : Int} {S : Int → Int} {p : Int} {q : Nat} {R : Int} {rho : Int → Int} {P : Int} (h : zSc a b n m S p q R rho P) : ∀ j : Nat, (j : Int) ≤ p → 0 ≤ zDp b j := h.2.2.2.2.2.2.2.2.2.2.2.2.2.2.2
/-- what reading leaves as it is -/
def zSf (a a' b b' : qM) : Prop := (∀ r, r < 48 ∨ 63 < r ∨ r = 49 → a' r = a r) ∧ (∀ r, r ≠ 113 → r < 141 ∨ 150 < r → b' r = b r) ∧ (∀ j, j ≠ 33 → j ≠ 41 → b' 113 j = b 113 j)
theorem zSf.mk {a a' b b' : qM} (fa : ∀ r, r < 48 ∨ 63 < r ∨ r = 49 → a' r = a r) (fb : ∀ r, r ≠ 113 → r < 141 ∨ 150 < r → b' r = b r) (f113 : ∀ j, j ≠ 33 → j ≠ 41 → b' 113 j = b 113 j) : zSf a a' b b' := ⟨fa, fb, f113⟩
theorem zSf.fa {a a' b b' : qM} (h : zSf a a' b b') : ∀ r, r < 48 ∨ 63 < r ∨ r = 49 → a' r = a r := h.1
theorem zSf.fb {a a' b b' : qM} (h : zSf a a' b b') : ∀ r, r ≠ 113 → r < 141 ∨ 150 < r → b' r = b r := h.2.1
theorem zSf.f113 {a a' b b' : qM} (h : zSf a a' b b') : ∀ j, j ≠ 33 → j ≠ 41 → b' 113 j = b 113 j := h.2.2
/-- a piece is added -/
def zAd (b b' : qM) (p τ v u : Int) : Prop := (∀ r, r ≠ 113 → r ≠ 141 → r ≠ 142 → r ≠ 143 → r ≠ 147 → b' r = b r) ∧ (∀ j, j ≠ 33 → b' 113 j = b 113 j) ∧ (b' 113 33 = p + 1) ∧ (b' 141 = q_u (b 141) p τ) ∧ (b' 142 = q_u (b 142) p v) ∧ (b' 143 = q_u (b 143) p u) ∧ (b' 147 = q_u (b 147) p 0)
theorem zAd.mk {b b' : qM} {p τ v u : Int} (fr : ∀ r, r ≠ 113 → r ≠ 141 → r ≠ 142 → r ≠ 143 → r ≠ 147 → b' r = b r) (f113 : ∀ j, j ≠ 33 → b' 113 j = b 113 j) (f33 : b' 113 33 = p + 1) (t : b' 141 = q_u (b 141) p τ) (v2 : b' 142 = q_u (b 142) p v) (v3 : b' 143 = q_u (b 143) p u) (d : b' 147 = q_u (b 147) p 0) : zAd b b' p τ v u := ⟨fr, f113, f33, t, v2, v3, d⟩
theorem zAd.fr {b b' : qM} {p τ v u : Int} (h : zAd b b' p τ v u) : ∀ r, r ≠ 113 → r ≠ 141 → r ≠ 142 → r ≠ 143 → r ≠ 147 → b' r = b r := h.1
theorem zAd.f113 {b b' : qM} {p τ v u : Int} (h : zAd b b' p τ v u) : ∀ j, j ≠ 33 → b' 113 j = b 113 j := h.2.1
theorem zAd.f33 {b b' : qM} {p τ v u : Int} (h : zAd b b' p τ v u) : b' 113 33 = p + 1 := h.2.2.1
theorem zAd.t {b b' : qM} {p τ v u : Int} (h : zAd b b' p τ v u) : b' 141 = q_u (b 141) p τ := h.2.2.2.1
theorem zAd.v2 {b b' : qM} {p τ v u : Int} (h : zAd b b' p τ v u) : b' 142 = q_u (b 142) p v := h.2.2.2.2.1
theorem zAd.v3 {b b' : qM} {p τ v u : Int} (h : zAd b b' p τ v u) : b' 143 = q_u (b 143) p u := h.2.2.2.2.2.1
theorem zAd.d {b b' : qM} {p τ v u : Int} (h : zAd b b' p τ v u) : b' 147 = q_u (b 147) p 0 := h.2.2.2.2.2.2
section ScanA
variable {X : Nat × (Nat → Int32)} {a a' b b' s : qM} {K : Int → qM → Prop} {KV : qM → Prop} {n m p R P P1 : Int} {q : Nat} {S rho : Int → Int} {f f' : Int → Int}
theorem zSf.rf : zSf a a b b := zSf.mk (fun _ _ => rfl) (fun _ _ _ => rfl) (fun _ _ _ => rfl)
theorem zSf.tr {a1 a2 b1 b2 : qM} (F : zSf a a1 b b1) (G : zSf a1 a2 b1 b2) : zSf a a2 b b2 :=
  zSf.mk (fun r h => (G.fa r h).trans (F.fa r h)) (fun r x y => (G.fb r x y).trans (F.fb r x y)) (fun j x y => (G.f113 j x y).trans (F.f113 j x y))
theorem k_m_adds {τ v u : Int} (hp : b 113 33 = p) (p0 : 0 ≤ p) (p1 : p < 241) (h : ∀ b', zAd b b' p τ v u → KV b') : c_m_adds X τ v u b KV := by
  refine sg_m_adds ?_
  rw [hp]
  refine ⟨p0, p1, fun s1 e1 => ?_⟩
  have q1 : s1 113 33 = p := by rw [e1, q_up_ne (by decide)]; exact hp
  rw [q1]
  refine ⟨p0, p1, fun s2 e2 => ?_⟩
  have q2 : s2 113 33 = p := by rw [e2, q_up_ne (by decide)]; exact q1
  rw [q2]
  refine ⟨p0, p1, fun s3 e3 => ?_⟩
  have q3 : s3 113 33 = p := by rw [e3, q_up_ne (by decide)]; exact q2
  rw [q3]
  refine ⟨p0, p1, fun s4 e4 => ?_⟩
  have q4 : s4 113 33 = p := by rw [e4, q_up_ne (by decide)]; exact q3
  rw [q4]
  refine ⟨by omega, fun s5 e5 => h s5 (zAd.mk (fun r x1 x2 x3 x4 x5 => ?_) (fun j hj => ?_) ?_ ?_ ?_ ?_ ?_)⟩
  · rw [e5, q_up_ne x1, e4, q_up_ne x5, e3, q_up_ne x4, e2, q_up_ne x3, e1, q_up_ne x2]
  · rw [e5, q_up_nj hj, e4, q_up_ne (by decide), e3, q_up_ne (by decide), e2, q_up_ne (by decide), e1, q_up_ne (by decide)]
  · rw [e5, q_up_at]
  · rw [e5, q_up_ne (by decide), e4, q_up_ne (by decide), e3, q_up_ne (by decide), e2, q_up_ne (by decide), e1, q_up_fn]
  · rw [e5, q_up_ne (by decide), e4, q_up_ne (by decide), e3, q_up_ne (by decide), e2, q_up_fn, e1, q_up_ne (by decide)]
  · rw [e5, q_up_ne (by decide), e4, q_up_ne (by decide), e3, q_up_fn, e2, q_up_ne (by decide), e1, q_up_ne (by decide)]
  · rw [e5, q_up_ne (by decide), e4, q_up_fn, e3, q_up_ne (by decide), e2, q_up_ne (by decide), e1, q_up_ne (by decide)]
theorem zS1_lo {k : Int} (h : k ≤ p) : zS1 S p P1 k = S k := by unfold zS1; rw [if_pos h]
theorem zS1_hi : zS1 S p P1 (p + 1) = P1 := by unfold zS1; rw [if_neg (by omega)]
/-- a piece behind the others -/
theorem zPc.app (Z : zPc f b S p q) {τ : Int} (lt : S p < P1) (fo : ∀ i, i < S p → f' i = f i) (e138 : b' 138 = b 138) (e141 : b' 141 = q_u (b 141) p τ) (e142 : ∀ k, k ≠ p → b' 142 k = b 142 k) (e143 : ∀ k, k ≠ p → b' 143 k = b 143 k) (e146 : ∀ k, k ≠ p → b' 146 k = b 146 k) (e148 : b' 148 = b 148) (e149 : b' 149 = b 149) (e150 : b' 150 = b 150) (t0 : 0 ≤ τ) (t5 : τ ≤ 5)
    (h0 : τ = 0 → (P1 = S p + 1 ∧ f' (S p) = 0 ∧ b' 142 p = b 138 (S p)) ∨ (P1 = S p + 2 ∧ f' (S p) = -3 ∧ f' (S p + 1) = 0 ∧ b' 142 p = b 138 (S p + 1))) (h3 : τ = 3 → P1 = S p + 1 ∧ f' (S p) = 0 ∧ b' 142 p = S p ∧ b 138 (S p) = 91)
    (h2 : τ = 2 → S p < b' 142 p ∧ b' 142 p ≤ b' 143 p ∧ b' 143 p < P1 ∧ f' (S p) = 11 ∧ (∀ i, S p < i → i < b' 142 p → f' i = -3) ∧ (∀ i, b' 142 p ≤ i → i < b' 143 p → f' i = 0) ∧ f' (b' 143 p) = -4 ∧ (∀ i, b' 143 p < i → i < P1 → f' i = -3))
    (h4 : τ ≠ 4) (h5 : τ = 5 → f' (S p) = -4 ∧ (∀ i, S p < i → i < P1 → f' i = -3)) (h1 : τ = 1 → b' 143 p = P1 - S p ∧ b' 146 p = P1 - S p ∧ (∀ i, S p ≤ i → i < P1 → b 138 i = 42) ∧ (∀ i, S p ≤ i → i < P1 → f' i = 0)) : zPc f' b' (zS1 S p P1) (p + 1) q := by
  have p0 := Z.p0
  have cC : ∀ k (j : Nat), zCw b' k j = zCw b k j := fun k j => zCw_congr j (fun _ _ => ⟨by rw [e149], by rw [e150]⟩)
  have cO : ∀ k (j : Nat), zOu b' k j = zOu b k j := fun k j => zOu_congr j (fun _ _ => ⟨by rw [e148], by rw [e150]⟩)
  have zc : ∀ j : Nat, j ≤ q → zCw b p j = 0 ∧ zOu b p j = 0 := by
    intro j
    induction j with
    | zero => intro _; exact ⟨rfl, rfl⟩
    | succ j ih =>
      intro hj
      have hp := Z.pr j (by omega)
      have h := ih (by omega)
      refine ⟨?_, ?_⟩
      · show zCw b p j + (if b 149 (j : Int) = p then zWd b j else 0) = 0
        rw [h.1, if_neg (by omega)]; rfl
      · show zOu b p j + (if b 148 (j : Int) = p then zWd b j else 0) = 0
        rw [h.2, if_neg (by omega)]; rfl
  have old : ∀ k, 0 ≤ k → k < p → zS1 S p P1 k = S k ∧ zS1 S p P1 (k + 1) = S (k + 1) ∧ b' 141 k = b 141 k ∧ b' 142 k = b 142 k ∧ b' 143 k = b 143 k ∧ b' 146 k = b 146 k ∧ ∀ i, i < S (k + 1) → f' i = f i := by
    intro k k0 kp
    have sp := Z.sep2 k0 kp (Int.le_refl p)
    exact ⟨zS1_lo (by omega), zS1_lo (by omega), by rw [e141, q_u_ne (by omega)], e142 k (by omega), e143 k (by omega), e146 k (by omega), fun i hi => fo i (by omega)⟩
  have at' : b' 141 p = τ := by rw [e141, q_u_at]
  have sp0 : zS1 S p P1 p = S p := zS1_lo (Int.le_refl p)
  refine zPc.mk (by omega) (by rw [zS1_lo p0]; exact Z.s0) (fun k k0 kp => ?_) (fun k k0 kp => ?_) (fun k k0 kp ht => ?_) (fun k k0 kp ht => ?_) (fun k k0 kp ht => ?_) (fun k k0 kp ht => ?_) (fun k k0 kp ht => ?_) (fun k k0 kp ht => ?_) (fun j hj => ?_)
  · by_cases e : k = p
    · rw [e, sp0, zS1_hi]; exact lt
    · obtain ⟨o1, o2, _⟩ := old k k0 (by omega)
      rw [o1, o2]; exact Z.mono k k0 (by omega)
  · by_cases e : k = p
    · rw [e, at']; exact ⟨t0, t5⟩
    · rw [(old k k0 (by omega)).2.2.1]; exact Z.ty k k0 (by omega)
  · by_cases e : k = p
    · rw [e, at'] at ht
      rw [e, sp0, zS1_hi, e138]; exact h0 ht
    · obtain ⟨o1, o2, o3, o4, o5, o6, o7⟩ := old k k0 (by omega)
      rw [o3] at ht
      have m := Z.mono k k0 (by omega)
      rw [o1, o2, o4, e138, o7 (S k) m]
      rcases Z.k0 k k0 (by omega) ht with h | ⟨x1, x2, x3, x4⟩
      · exact Or.inl h
      · rw [o7 (S k + 1) (by omega)]; exact Or.inr ⟨x1, x2, x3, x4⟩
  · by_cases e : k = p
    · rw [e, at'] at ht
      rw [e, sp0, zS1_hi, e138]; exact h3 ht
    · obtain ⟨o1, o2, o3, o4, o5, o6, o7⟩ := old k k0 (by omega)
      rw [o3] at ht
      rw [o1, o2, o4, e138, o7 (S k) (Z.mono k k0 (by omega))]
      exact Z.k3 k k0 (by omega) ht
  · by_cases e : k = p
    · rw [e, at'] at ht
      rw [e, sp0, zS1_hi]; exact h2 ht
    · obtain ⟨o1, o2, o3, o4, o5, o6, o7⟩ := old k k0 (by omega)
      rw [o3] at ht
      obtain ⟨x1, x2, x3, x4, x5, x6, x7, x8⟩ := Z.k2 k k0 (by omega) ht
      rw [o1, o2, o4, o5, o7 (S k) (by omega), o7 (b 143 k) x3]
      exact ⟨x1, x2, x3, x4, fun i u v => by rw [o7 i (by omega)]; exact x5 i u v, fun i u v => by rw [o7 i (by omega)]; exact x6 i u v, x7, fun i u v => by rw [o7 i v]; exact x8 i u v⟩
  · by_cases e : k = p
    · rw [e, at'] at ht; exact absurd ht h4
    · obtain ⟨o1, o2, o3, o4, o5, o6, o7⟩ := old k k0 (by omega)
      rw [o3] at ht
      rw [o1, o2, o7 (S k) (Z.mono k k0 (by omega))]
      exact Z.k4 k k0 (by omega) ht
  · by_cases e : k = p
    · rw [e, at'] at ht
      rw [e, sp0, zS1_hi]; exact h5 ht
    · obtain ⟨o1, o2, o3, o4, o5, o6, o7⟩ := old k k0 (by omega)
      rw [o3] at ht
      obtain ⟨x1, x2⟩ := Z.k5 k k0 (by omega) ht
      rw [o1, o2, o7 (S k) (Z.mono k k0 (by omega))]
      exact ⟨x1, fun i u v => by rw [o7 i v]; exact x2 i u v⟩
  · rw [cC, cO, e138]
    by_cases e : k = p
    · rw [e, at'] at ht
      obtain ⟨x1, x2, x3, x4⟩ := h1 ht
      rw [e, sp0, zS1_hi, (zc q (Nat.le_refl q)).1, (zc q (Nat.le_refl q)).2]
      exact ⟨x1, by omega, by omega, x3, fun i u v => x4 i (by omega) (by omega)⟩
    · obtain ⟨o1, o2, o3, o4, o5, o6, o7⟩ := old k k0 (by omega)
      rw [o3] at ht
      obtain ⟨x1, x2, x3, x4, x5⟩ := Z.k1 k k0 (by omega) ht
      have o0 := zOu_le (b := b) (k := k) (i := 0) (Nat.zero_le q)
      have o00 : zOu b k 0 = 0 := rfl
      rw [o1, o2, o5, o6]
      exact ⟨x1, x2, x3, x4, fun i u v => by rw [o7 i (by omega)]; exact x5 i u v⟩
  · obtain ⟨x1, x2, x3, x4, x5, x6, x7, x8, x9, x10⟩ := Z.pr j hj
    obtain ⟨o1, o2, o3, _⟩ := old (b 148 j) x1 (by omega)
    obtain ⟨c1, c2, c3, _⟩ := old (b 149 j) (by omega) x3
    have kc := Z.k1 (b 149 j) (by omega) x3 x5
    have ko := Z.k1 (b 148 j) x1 (by omega) x4
    have w12 := zWd_12 (b := b) (j := j)
    have wj : zWd b j = if b 150 (j : Int) = 10 then 2 else 1 := rfl
    have lc1 : zCw b (b 149 j) j + zWd b j ≤ zCw b (b 149 j) q := by
      have := zCw_le (b := b) (k := b 149 j) (i := j + 1) (j := q) (by omega)
      have e1 : zCw b (b 149 j) (j + 1) = zCw b (b 149 j) j + (if b 149 (j : Int) = b 149 j then zWd b j else 0) := rfl
      rw [if_pos rfl] at e1; omega
    have lo2 : zWd b j ≤ zOu b (b 148 j) (j + 1) := by
      have e1 : zOu b (b 148 j) (j + 1) = zOu b (b 148 j) j + (if b 148 (j : Int) = b 148 j then zWd b j else 0) := rfl
      have := zOu_le (b := b) (k := b 148 j) (i := 0) (Nat.zero_le j)
      have e0 : zOu b (b 148 j) 0 = 0 := rfl
      rw [if_pos rfl] at e1; omega
    have oq := zOu_le (b := b) (k := b 149 j) (i := 0) (Nat.zero_le q)
    have oq0 : zOu b (b 149 j) 0 = 0 := rfl
    have sp1 := Z.sep2 (k := b 149 j) (l := p) (by omega) x3 (Int.le_refl p)
    have sp2 := Z.sep2 (k := b 148 j) (l := p) x1 (by omega) (Int.le_refl p)
    rw [e148, e149, e150, o2, o3, c1, c3, cC, cO]
    refine ⟨x1, x2, by omega, x4, x5, x6, by rw [fo _ (by omega)]; exact x7, fun z => ?_, by rw [fo _ (by omega)]; exact x9, fun z => ?_⟩
    · rw [if_pos z] at wj; rw [fo _ (by omega)]; exact x8 z
    · rw [if_pos z] at wj; rw [fo _ (by omega)]; exact x10 z
theorem zDp_congr : ∀ (j : Nat), (∀ i : Nat, i < j → b' 141 i = b 141 i) → zDp b' j = zDp b j
  | 0, _ => rfl
  | j + 1, h => by
    show zDp b' j + (if b' 141 (j : Int) = 4 then 1 else if b' 141 (j : Int) = 5 then -1 else 0) = zDp b j + (if b 141 (j : Int) = 4 then 1 else if b 141 (j : Int) = 5 then -1 else 0)
    rw [zDp_congr j (fun i hi => h i (by omega)), h j (by omega)]
/-- a piece of the kinds 0, 2 is added: roles from P to P1 at most have changed -/
theorem zSc.app (H : zSc a b n m S p q R rho P) {τ v u : Int} (A : zAd b b' p τ v u) (t02 : τ = 0 ∨ τ = 2) (lt : P < P1) (P1m : P1 ≤ m) (fa : ∀ r, r ≠ 48 → a' r = a r) (f48 : ∀ i, ¬ (P ≤ i ∧ i < P1) → a' 48 i = a 48 i)
    (h0 : τ = 0 → (P1 = P + 1 ∧ a' 48 P = 0 ∧ v = b 138 P) ∨ (P1 = P + 2 ∧ a' 48 P = -3 ∧ a' 48 (P + 1) = 0 ∧ v = b 138 (P + 1))) (h2 : τ = 2 → P < v ∧ v ≤ u ∧ u < P1 ∧ a' 48 P = 11 ∧ (∀ i, P < i → i < v → a' 48 i = -3) ∧ (∀ i, v ≤ i → i < u → a' 48 i = 0) ∧ a' 48 u = -4 ∧ (∀ i, u < i → i < P1 → a' 48 i = -3)) :
    zSc a' b' n m (zS1 S p P1) (p + 1) q R rho P1 ∧ zSf a a' b b' := by
  obtain ⟨n1, n2, n3, n4, n5, n6⟩ := H.nn
  have p0 := H.Z.p0
  have e141 : ∀ k, k ≠ p → b' 141 k = b 141 k := fun k hk => by rw [A.t, q_u_ne hk]
  have e117 : b' 117 = b 117 := A.fr 117 (by decide) (by decide) (by decide) (by decide) (by decide)
  have cC : ∀ k (j : Nat), zCw b' k j = zCw b k j := fun k j => zCw_congr j (fun _ _ => ⟨by rw [A.fr 149 (by decide) (by decide) (by decide) (by decide) (by decide)], by rw [A.fr 150 (by decide) (by decide) (by decide) (by decide) (by decide)]⟩)
  have cO : ∀ k (j : Nat), zOu b' k j = zOu b k j := fun k j => zOu_congr j (fun _ _ => ⟨by rw [A.fr 148 (by decide) (by decide) (by decide) (by decide) (by decide)], by rw [A.fr 150 (by decide) (by decide) (by decide) (by decide) (by decide)]⟩)
  have F : zSf a a' b b' := zSf.mk (fun r hr => fa r (by omega)) (fun r x y => A.fr r x (by omega) (by omega) (by omega) (by omega)) (fun j x y => A.f113 j x)
  have Z1 : zPc (a' 48) b' (zS1 S p P1) (p + 1) q := by
    refine H.Z.app (τ := τ) (by omega) (fun i hi => f48 i (by omega)) (A.fr 138 (by decide) (by decide) (by decide) (by decide) (by decide)) A.t (fun k hk => by rw [A.v2, q_u_ne hk]) (fun k hk => by rw [A.v3, q_u_ne hk]) (fun k _ => by rw [A.fr 146 (by decide) (by decide) (by decide) (by decide) (by decide)]) (A.fr 148 (by decide) (by decide) (by decide) (by decide) (by decide)) (A.fr 149 (by decide) (by decide) (by decide) (by decide) (by decide)) (A.fr 150 (by decide) (by decide) (by decide) (by decide) (by decide)) (by omega) (by omega) ?_ (fun z => by omega) ?_ (by omega) (fun z => by omega) (fun z => by omega)
    · rw [A.v2, q_u_at, n5]; exact h0
    · rw [A.v2, A.v3, q_u_at, q_u_at, n5]; exact h2
  have N1 : zRn a' b' (zS1 S p P1) (p + 1) q 0 R rho 0 := by
    obtain ⟨t1, t2, t3, t4, t5, t678⟩ := H.N.sz
    refine zRn.mk ?_ (fun r u v => ?_) H.N.mo (fun r u v => ?_) (fun r u v => ?_) (fun r u v => ?_) (fun k u v w y => ?_)
    · rw [fa 54 (by decide), fa 56 (by decide), fa 58 (by decide), fa 60 (by decide), fa 62 (by decide)]; exact H.N.sz
    · obtain ⟨g1, g2, g3⟩ := H.N.rg r u v
      exact ⟨g1, by omega, by rw [e141 _ (by omega)]; exact g3⟩
    · obtain ⟨g1, g2, g3⟩ := H.N.rg r u v
      rw [fa 59 (by decide), fa 61 (by decide), fa 63 (by decide), A.v3, q_u_ne (by omega), A.fr 144 (by decide) (by decide) (by decide) (by decide) (by decide), A.fr 145 (by decide) (by decide) (by decide) (by decide) (by decide), A.d, q_u_ne (by omega)]
      exact H.N.dt r u v
    · obtain ⟨g1, g2, g3⟩ := H.N.rg r u v
      rw [fa 55 (by decide), cC, zS1_lo (by omega)]; exact H.N.bg r u v
    · obtain ⟨g1, g2, g3⟩ := H.N.rg r u v
      rw [fa 55 (by decide), fa 57 (by decide), cO, zS1_lo (by omega), A.d, q_u_ne (by omega), A.fr 144 (by decide) (by decide) (by decide) (by decide) (by decide)]; exact H.N.en r u v
    · by_cases e : k = p
      · rw [e, A.t, q_u_at] at w; omega
      · rw [e141 k e] at w
        rw [A.d, q_u_ne e] at y
        exact H.N.lv k u (by omega) w y
  refine ⟨zSc.mk ?_ ?_ ?_ ?_ Z1 N1 ?_ (fun r u v => ?_) (fun i u v => ?_) (fun i u v => ?_) (fun k u v w => ?_) ?_ (fun i u v => ?_) (fun i j u v w => ?_) (fun k u v w => ?_) (fun j hj => ?_), F⟩
  · refine zWr.mk H.W.m0 ?_ ?_
    · rw [fa 45 (by decide), A.f113 28 (by decide)]; exact H.W.sz
    · rw [fa 46 (by decide), A.fr 138 (by decide) (by decide) (by decide) (by decide) (by decide)]; exact H.W.ch
  · exact H.nd.fr (Int.le_refl n) (by rw [fa 37 (by decide)]) (fa 38 (by decide)) (fa 36 (by decide)) (fun k _ _ => by rw [e117]) (fun k x y => by omega) (fun j _ => by rw [A.fr 130 (by decide) (by decide) (by decide) (by decide) (by decide)])
  · exact H.nh.fr (Int.le_refl n) (by rw [fa 41 (by decide)]) (fa 42 (by decide)) (fa 40 (by decide)) (fun k _ _ => by rw [e117]) (fun k x y => by omega) (fun j _ => by rw [A.fr 130 (by decide) (by decide) (by decide) (by decide) (by decide)])
  · rw [fa 37 (by decide), fa 41 (by decide), A.f113 4 (by decide)]; exact H.nl
  · rw [A.f113 41 (by decide), fa 47 (by decide), fa 49 (by decide)]
    exact ⟨n1, A.f33, n3, n4, zS1_hi, P1m⟩
  · obtain ⟨g1, g2, g3⟩ := H.N.rg r u v
    rw [A.d, q_u_ne (by omega), cC, cO]; exact H.un r u v
  · rw [f48 i (by omega), fa 50 (by decide)]; exact H.rest i (by omega) v
  · rw [fa 50 (by decide)]
    by_cases e : P ≤ i ∧ i < P1
    · exact Or.inr (H.rest i e.1 v).2
    · rw [f48 i e]; exact H.sg i u v
  · have e : k ≠ p := fun z => by rw [z, A.t, q_u_at] at w; omega
    rw [e141 k e] at w
    have h := H.lk k u (by omega) w
    unfold zLk at h ⊢
    rw [fa 50 (by decide), fa 37 (by decide), fa 38 (by decide), fa 41 (by decide), fa 42 (by decide), A.v3, q_u_ne e, e117, zS1_lo (by omega)]
    exact h
  · rw [fa 51 (by decide)]; have := H.b0; omega
  · rw [fa 51 (by decide)] at v
    obtain ⟨k, k0, kp, kt, ke⟩ := H.b1 i u v
    exact ⟨k, k0, by omega, by rw [e141 k (by omega)]; exact kt, by rw [fa 52 (by decide), zS1_lo (by omega)]; exact ke⟩
  · rw [fa 51 (by decide)] at w; rw [fa 52 (by decide)]; exact H.b2 i j u v w
  · have e : k ≠ p := fun z => by rw [z, A.t, q_u_at] at w; omega
    rw [e141 k e] at w
    obtain ⟨i, i0, hi, ie⟩ := H.b3 k u (by omega) w
    exact ⟨i, i0, by rw [fa 51 (by decide)]; exact hi, by rw [fa 52 (by decide), zS1_lo (by omega)]; exact ie⟩
  · by_cases e : (j : Int) ≤ p
    · rw [zDp_congr (b := b) j (fun i hi => e141 _ (by omega))]; exact H.dp j e
    · have ej : j = p.toNat + 1 := by omega
      rw [ej]
      show 0 ≤ zDp b' p.toNat + (if b' 141 ((p.toNat : Nat) : Int) = 4 then 1 else if b' 141 ((p.toNat : Nat) : Int) = 5 then -1 else 0)
      rw [zDp_congr (b := b) p.toNat (fun i hi => e141 _ (by omega)), show ((p.toNat : Nat) : Int) = p by omega, A.t, q_u_at, if_neg (by omega), if_neg (by omega)]
      have := H.dp p.toNat (by omega)
      omega
end ScanA
