/-! The tree: a node is added. -/
/-- how many of the first n have i as parent -/
def zKid (f : Int → Int) (i : Int) : Nat → Int
  | 0 => 0
  | j + 1 => zKid f i j + (if f (j : Int) = i then 1 else 0)
/-- v nodes; C characters of content in the class, D in the model -/
def zTr (a b : qM) (v C D : Int) : Prop := (a 65 1 = v ∧ a 67 1 = v ∧ a 69 1 = v ∧ a 71 1 = v ∧ a 73 1 = v ∧ a 75 1 = v ∧ a 77 1 = v ∧ a 79 1 = C ∧ b 113 20 = v ∧ b 113 51 = D ∧ 0 ≤ v ∧ 0 ≤ C ∧ 0 ≤ D) ∧ (∀ i, 0 ≤ i → i < v → a 66 i = b 131 i ∧ a 68 i = b 132 i ∧ a 70 i = b 133 i ∧ a 72 i = b 134 i ∧ 0 ≤ b 131 i ∧ b 131 i ≤ 12 ∧ (i = 0 → b 132 i = -1) ∧ (0 < i → 0 ≤ b 132 i ∧ b 132 i < i) ∧ 0 ≤ b 133 i ∧ b 133 i ≤ v) ∧ (∀ i, 0 ≤ i → i < v → (b 131 i = 4 → a 74 i = 100 + b 134 i) ∧ (b 131 i = 2 → a 74 i = b 134 i) ∧ (b 131 i = 12 → zLk a b (a 74 i) (b 136 i)) ∧ (b 131 i ≠ 2 → b 131 i ≠ 4 → b 131 i ≠ 12 → a 74 i = -1)) ∧ (∀ i, 0 ≤ i → i < v → 0 ≤ a 76 i ∧ 0 ≤ a 78 i ∧ a 76 i + a 78 i ≤ C ∧ (b 131 i = 8 ∨ b 131 i = 11 → a 78 i = b 134 i ∧ 0 ≤ b 153 i ∧ b 153 i + b 134 i ≤ D ∧ ∀ j, 0 ≤ j → j < b 134 i → a 80 (a 76 i + j) = b 152 (b 153 i + j)) ∧ (b 131 i ≠ 5 → b 131 i ≠ 8 → b 131 i ≠ 11 → a 78 i = 0)) ∧ (∀ i, 0 ≤ i → i < v → b 133 i = zKid (b 132) i v.toNat) ∧ (∀ k j, 1 ≤ k → k < v → b 132 k < j → j < k → b 132 k ≤ b 132 j) ∧ (zSig (a 78) v.toNat = C) ∧ (∀ i, 0 ≤ i → i < v → 0 ≤ b 134 i ∧ (b 131 i = 4 → b 134 i ≤ 3))
theorem zTr.mk {a b : qM} {v C D : Int} (sz : a 65 1 = v ∧ a 67 1 = v ∧ a 69 1 = v ∧ a 71 1 = v ∧ a 73 1 = v ∧ a 75 1 = v ∧ a 77 1 = v ∧ a 79 1 = C ∧ b 113 20 = v ∧ b 113 51 = D ∧ 0 ≤ v ∧ 0 ≤ C ∧ 0 ≤ D) (nd : ∀ i, 0 ≤ i → i < v → a 66 i = b 131 i ∧ a 68 i = b 132 i ∧ a 70 i = b 133 i ∧ a 72 i = b 134 i ∧ 0 ≤ b 131 i ∧ b 131 i ≤ 12 ∧ (i = 0 → b 132 i = -1) ∧ (0 < i → 0 ≤ b 132 i ∧ b 132 i < i) ∧ 0 ≤ b 133 i ∧ b 133 i ≤ v) (sg : ∀ i, 0 ≤ i → i < v → (b 131 i = 4 → a 74 i = 100 + b 134 i) ∧ (b 131 i = 2 → a 74 i = b 134 i) ∧ (b 131 i = 12 → zLk a b (a 74 i) (b 136 i)) ∧ (b 131 i ≠ 2 → b 131 i ≠ 4 → b 131 i ≠ 12 → a 74 i = -1)) (ct : ∀ i, 0 ≤ i → i < v → 0 ≤ a 76 i ∧ 0 ≤ a 78 i ∧ a 76 i + a 78 i ≤ C ∧ (b 131 i = 8 ∨ b 131 i = 11 → a 78 i = b 134 i ∧ 0 ≤ b 153 i ∧ b 153 i + b 134 i ≤ D ∧ ∀ j, 0 ≤ j → j < b 134 i → a 80 (a 76 i + j) = b 152 (b 153 i + j)) ∧ (b 131 i ≠ 5 → b 131 i ≠ 8 → b 131 i ≠ 11 → a 78 i = 0)) (kc : ∀ i, 0 ≤ i → i < v → b 133 i = zKid (b 132) i v.toNat) (pre : ∀ k j, 1 ≤ k → k < v → b 132 k < j → j < k → b 132 k ≤ b 132 j) (sm : zSig (a 78) v.toNat = C) (tl : ∀ i, 0 ≤ i → i < v → 0 ≤ b 134 i ∧ (b 131 i = 4 → b 134 i ≤ 3)) : zTr a b v C D := ⟨sz, nd, sg, ct, kc, pre, sm, tl⟩
theorem zTr.sz {a b : qM} {v C D : Int} (h : zTr a b v C D) : a 65 1 = v ∧ a 67 1 = v ∧ a 69 1 = v ∧ a 71 1 = v ∧ a 73 1 = v ∧ a 75 1 = v ∧ a 77 1 = v ∧ a 79 1 = C ∧ b 113 20 = v ∧ b 113 51 = D ∧ 0 ≤ v ∧ 0 ≤ C ∧ 0 ≤ D := h.1
theorem zTr.nd {a b : qM} {v C D : Int} (h : zTr a b v C D) : ∀ i, 0 ≤ i → i < v → a 66 i = b 131 i ∧ a 68 i = b 132 i ∧ a 70 i = b 133 i ∧ a 72 i = b 134 i ∧ 0 ≤ b 131 i ∧ b 131 i ≤ 12 ∧ (i = 0 → b 132 i = -1) ∧ (0 < i → 0 ≤ b 132 i ∧ b 132 i < i) ∧ 0 ≤ b 133 i ∧ b 133 i ≤ v := h.2.1
theorem zTr.sg {a b : qM} {v C D : Int} (h : zTr a b v C D) : ∀ i, 0 ≤ i → i < v → (b 131 i = 4 → a 74 i = 100 + b 134 i) ∧ (b 131 i = 2 → a 74 i = b 134 i) ∧ (b 131 i = 12 → zLk a b (a 74 i) (b 136 i)) ∧ (b 131 i ≠ 2 → b 131 i ≠ 4 → b 131 i ≠ 12 → a 74 i = -1) := h.2.2.1
theorem zTr.ct {a b : qM} {v C D : Int} (h : zTr a b v C D) : ∀ i, 0 ≤ i → i < v → 0 ≤ a 76 i ∧ 0 ≤ a 78 i ∧ a 76 i + a 78 i ≤ C ∧ (b 131 i = 8 ∨ b 131 i = 11 → a 78 i = b 134 i ∧ 0 ≤ b 153 i ∧ b 153 i + b 134 i ≤ D ∧ ∀ j, 0 ≤ j → j < b 134 i → a 80 (a 76 i + j) = b 152 (b 153 i + j)) ∧ (b 131 i ≠ 5 → b 131 i ≠ 8 → b 131 i ≠ 11 → a 78 i = 0) := h.2.2.2.1
theorem zTr.kc {a b : qM} {v C D : Int} (h : zTr a b v C D) : ∀ i, 0 ≤ i → i < v → b 133 i = zKid (b 132) i v.toNat := h.2.2.2.2.1
theorem zTr.pre {a b : qM} {v C D : Int} (h : zTr a b v C D) : ∀ k j, 1 ≤ k → k < v → b 132 k < j → j < k → b 132 k ≤ b 132 j := h.2.2.2.2.2.1
theorem zTr.sm {a b : qM} {v C D : Int} (h : zTr a b v C D) : zSig (a 78) v.toNat = C := h.2.2.2.2.2.2.1
theorem zTr.tl {a b : qM} {v C D : Int} (h : zTr a b v C D) : ∀ i, 0 ≤ i → i < v → 0 ≤ b 134 i ∧ (b 131 i = 4 → b 134 i ≤ 3) := h.2.2.2.2.2.2.2
/-- what the class's add of a node does -/
def zNa (a a' : qM) (v κ par σ C : Int) : Prop := (∀ r, r < 65 ∨ 78 < r → a' r = a r) ∧ (a' 65 1 = v + 1 ∧ a' 67 1 = v + 1 ∧ a' 69 1 = v + 1 ∧ a' 71 1 = v + 1 ∧ a' 73 1 = v + 1 ∧ a' 75 1 = v + 1 ∧ a' 77 1 = v + 1) ∧ (a' 66 = q_u (a 66) v κ) ∧ (a' 68 = q_u (a 68) v par) ∧ (a' 70 = if 0 ≤ par then q_u (q_u (a 70) v 0) par (a 70 par + 1) else q_u (a 70) v 0) ∧ (a' 72 = q_u (a 72) v 0) ∧ (a' 74 = q_u (a 74) v σ) ∧ (a' 76 = q_u (a 76) v C) ∧ (a' 78 = q_u (a 78) v 0)
theorem zNa.mk {a a' : qM} {v κ par σ C : Int} (fr : ∀ r, r < 65 ∨ 78 < r → a' r = a r) (sz : a' 65 1 = v + 1 ∧ a' 67 1 = v + 1 ∧ a' 69 1 = v + 1 ∧ a' 71 1 = v + 1 ∧ a' 73 1 = v + 1 ∧ a' 75 1 = v + 1 ∧ a' 77 1 = v + 1) (f66 : a' 66 = q_u (a 66) v κ) (f68 : a' 68 = q_u (a 68) v par) (f70 : a' 70 = if 0 ≤ par then q_u (q_u (a 70) v 0) par (a 70 par + 1) else q_u (a 70) v 0) (f72 : a' 72 = q_u (a 72) v 0) (f74 : a' 74 = q_u (a 74) v σ) (f76 : a' 76 = q_u (a 76) v C) (f78 : a' 78 = q_u (a 78) v 0) : zNa a a' v κ par σ C := ⟨fr, sz, f66, f68, f70, f72, f74, f76, f78⟩
theorem zNa.fr {a a' : qM} {v κ par σ C : Int} (h : zNa a a' v κ par σ C) : ∀ r, r < 65 ∨ 78 < r → a' r = a r := h.1
theorem zNa.sz {a a' : qM} {v κ par σ C : Int} (h : zNa a a' v κ par σ C) : a' 65 1 = v + 1 ∧ a' 67 1 = v + 1 ∧ a' 69 1 = v + 1 ∧ a' 71 1 = v + 1 ∧ a' 73 1 = v + 1 ∧ a' 75 1 = v + 1 ∧ a' 77 1 = v + 1 := h.2.1
theorem zNa.f66 {a a' : qM} {v κ par σ C : Int} (h : zNa a a' v κ par σ C) : a' 66 = q_u (a 66) v κ := h.2.2.1
theorem zNa.f68 {a a' : qM} {v κ par σ C : Int} (h : zNa a a' v κ par σ C) : a' 68 = q_u (a 68) v par := h.2.2.2.1
theorem zNa.f70 {a a' : qM} {v κ par σ C : Int} (h : zNa a a' v κ par σ C) : a' 70 = if 0 ≤ par then q_u (q_u (a 70) v 0) par (a 70 par + 1) else q_u (a 70) v 0 := h.2.2.2.2.1
theorem zNa.f72 {a a' : qM} {v κ par σ C : Int} (h : zNa a a' v κ par σ C) : a' 72 = q_u (a 72) v 0 := h.2.2.2.2.2.1
theorem zNa.f74 {a a' : qM} {v κ par σ C : Int} (h : zNa a a' v κ par σ C) : a' 74 = q_u (a 74) v σ := h.2.2.2.2.2.2.1
theorem zNa.f76 {a a' : qM} {v κ par σ C : Int} (h : zNa a a' v κ par σ C) : a' 76 = q_u (a 76) v C := h.2.2.2.2.2.2.2.1
theorem zNa.f78 {a a' : qM} {v κ par σ C : Int} (h : zNa a a' v κ par σ C) : a' 78 = q_u (a 78) v 0 := h.2.2.2.2.2.2.2.2
/-- what the model's does -/
def zNb2 (b b' : qM) (v κ par told D : Int) : Prop := (∀ r, r ≠ 113 → r ≠ 131 → r ≠ 132 → r ≠ 133 → r ≠ 134 → r ≠ 136 → r ≠ 153 → b' r = b r) ∧ (∀ j, j ≠ 20 → b' 113 j = b 113 j) ∧ (b' 113 20 = v + 1) ∧ (b' 131 = q_u (b 131) v κ) ∧ (b' 132 = q_u (b 132) v par) ∧ (b' 133 = if 0 ≤ par then q_u (q_u (b 133) v 0) par (b 133 par + 1) else q_u (b 133) v 0) ∧ (b' 134 = q_u (b 134) v told) ∧ (b' 136 = q_u (b 136) v (-1)) ∧ (b' 153 = q_u (b 153) v D)
theorem zNb2.mk {b b' : qM} {v κ par told D : Int} (fr : ∀ r, r ≠ 113 → r ≠ 131 → r ≠ 132 → r ≠ 133 → r ≠ 134 → r ≠ 136 → r ≠ 153 → b' r = b r) (f113 : ∀ j, j ≠ 20 → b' 113 j = b 113 j) (f20 : b' 113 20 = v + 1) (f131 : b' 131 = q_u (b 131) v κ) (f132 : b' 132 = q_u (b 132) v par) (f133 : b' 133 = if 0 ≤ par then q_u (q_u (b 133) v 0) par (b 133 par + 1) else q_u (b 133) v 0) (f134 : b' 134 = q_u (b 134) v told) (f136 : b' 136 = q_u (b 136) v (-1)) (f153 : b' 153 = q_u (b 153) v D) : zNb2 b b' v κ par told D := ⟨fr, f113, f20, f131, f132, f133, f134, f136, f153⟩
theorem zNb2.fr {b b' : qM} {v κ par told D : Int} (h : zNb2 b b' v κ par told D) : ∀ r, r ≠ 113 → r ≠ 131 → r ≠ 132 → r ≠ 133 → r ≠ 134 → r ≠ 136 → r ≠ 153 → b' r = b r := h.1
theorem zNb2.f113 {b b' : qM} {v κ par told D : Int} (h : zNb2 b b' v κ par told D) : ∀ j, j ≠ 20 → b' 113 j = b 113 j := h.2.1
theorem zNb2.f20 {b b' : qM} {v κ par told D : Int} (h : zNb2 b b' v κ par told D) : b' 113 20 = v + 1 := h.2.2.1
theorem zNb2.f131 {b b' : qM} {v κ par told D : Int} (h : zNb2 b b' v κ par told D) : b' 131 = q_u (b 131) v κ := h.2.2.2.1
theorem zNb2.f132 {b b' : qM} {v κ par told D : Int} (h : zNb2 b b' v κ par told D) : b' 132 = q_u (b 132) v par := h.2.2.2.2.1
theorem zNb2.f133 {b b' : qM} {v κ par told D : Int} (h : zNb2 b b' v κ par told D) : b' 133 = if 0 ≤ par then q_u (q_u (b 133) v 0) par (b 133 par + 1) else q_u (b 133) v 0 := h.2.2.2.2.2.1
theorem zNb2.f134 {b b' : qM} {v κ par told D : Int} (h : zNb2 b b' v κ par told D) : b' 134 = q_u (b 134) v told := h.2.2.2.2.2.2.1
theorem zNb2.f136 {b b' : qM} {v κ par told D : Int} (h : zNb2 b b' v κ par told D) : b' 136 = q_u (b 136) v (-1) := h.2.2.2.2.2.2.2.1
theorem zNb2.f153 {b b' : qM} {v κ par told D : Int} (h : zNb2 b b' v κ par told D) : b' 153 = q_u (b 153) v D := h.2.2.2.2.2.2.2.2
section Node
variable {X : Nat × (Nat → Int32)} {a b a' b' : qM} {K : Int → qM → Prop} {KV : qM → Prop} {v C D κ par σ told : Int}
theorem k_Tree_add (sz : a 65 1 = v ∧ a 67 1 = v ∧ a 69 1 = v ∧ a 71 1 = v ∧ a 73 1 = v ∧ a 75 1 = v ∧ a 77 1 = v ∧ a 79 1 = C) (v0 : 0 ≤ v) (v2 : v < 482) (hp : par = -1 ∨ (0 ≤ par ∧ par < v)) (c0 : 0 ≤ par → 0 ≤ a 70 par ∧ a 70 par ≤ 1000) (h : ∀ a', zNa a a' v κ par σ C → K v a') : c_Tree_add X κ par σ a K := by
  obtain ⟨t1, t2, t3, t4, t5, t6, t7, t8⟩ := sz
  have step : ∀ (r : Nat) (x : Int) (u : qM) (F : qM → Prop), q_isRow r 482 → u r 1 = v → (∀ u', (∀ q, q ≠ r → q ≠ r + 1 → u' q = u q) → u' r 1 = v + 1 → u' (r + 1) = q_u (u (r + 1)) v x → F u') → c_Row_add X r x u F := by
    intro r x u F hr hu hF
    refine k_Row_add hr (by omega) (by omega) ?_
    rw [hu]
    exact hF _ (fun q x y => by rw [q_up_ne x, q_up_ne y]) q_up_at (by rw [q_up_ne (by omega), q_up_fn])
  refine sg_Tree_add (k_Row_size q_row_65 ?_)
  rw [t1]
  refine step 65 κ a _ q_row_65 t1 (fun s1 f1 g1 h1 => ?_)
  refine step 67 par s1 _ q_row_67 (by rw [f1 67 (by decide) (by decide)]; exact t2) (fun s2 f2 g2 h2 => ?_)
  refine step 69 0 s2 _ q_row_69 (by rw [f2 69 (by decide) (by decide), f1 69 (by decide) (by decide)]; exact t3) (fun s3 f3 g3 h3 => ?_)
  refine step 71 0 s3 _ q_row_71 (by rw [f3 71 (by decide) (by decide), f2 71 (by decide) (by decide), f1 71 (by decide) (by decide)]; exact t4) (fun s4 f4 g4 h4 => ?_)
  refine step 73 σ s4 _ q_row_73 (by rw [f4 73 (by decide) (by decide), f3 73 (by decide) (by decide), f2 73 (by decide) (by decide), f1 73 (by decide) (by decide)]; exact t5) (fun s5 f5 g5 h5 => ?_)
  refine k_Row_size q_row_79 ?_
  rw [show s5 79 1 = C by rw [f5 79 (by decide) (by decide), f4 79 (by decide) (by decide), f3 79 (by decide) (by decide), f2 79 (by decide) (by decide), f1 79 (by decide) (by decide)]; exact t8]
  refine step 75 C s5 _ q_row_75 (by rw [f5 75 (by decide) (by decide), f4 75 (by decide) (by decide), f3 75 (by decide) (by decide), f2 75 (by decide) (by decide), f1 75 (by decide) (by decide)]; exact t6) (fun s6 f6 g6 h6 => ?_)
  refine step 77 0 s6 _ q_row_77 (by rw [f6 77 (by decide) (by decide), f5 77 (by decide) (by decide), f4 77 (by decide) (by decide), f3 77 (by decide) (by decide), f2 77 (by decide) (by decide), f1 77 (by decide) (by decide)]; exact t7) (fun s7 f7 g7 h7 => ?_)
  have w69 : s7 69 1 = v + 1 := by rw [f7 69 (by decide) (by decide), f6 69 (by decide) (by decide), f5 69 (by decide) (by decide), f4 69 (by decide) (by decide)]; exact g3
  have w70 : s7 70 = q_u (a 70) v 0 := by rw [f7 70 (by decide) (by decide), f6 70 (by decide) (by decide), f5 70 (by decide) (by decide), f4 70 (by decide) (by decide), h3, f2 70 (by decide) (by decide), f1 70 (by decide) (by decide)]
  have base : ∀ (s8 : qM), (∀ r, r ≠ 70 → s8 r = s7 r) → s8 70 = (if 0 ≤ par then q_u (q_u (a 70) v 0) par (a 70 par + 1) else q_u (a 70) v 0) → K v s8 := by
    intro s8 g8 h8
    have far : ∀ (q r : Nat), q < 65 ∨ 78 < q → 65 ≤ r → r ≤ 78 → q ≠ r := fun q r x y z => by omega
    refine h s8 (zNa.mk (fun r hr => ?_) ⟨?_, ?_, ?_, ?_, ?_, ?_, ?_⟩ ?_ ?_ h8 ?_ ?_ ?_ ?_)
    · rw [g8 r (far r _ hr (by decide) (by decide)), f7 r (far r _ hr (by decide) (by decide)) (far r _ hr (by decide) (by decide)), f6 r (far r _ hr (by decide) (by decide)) (far r _ hr (by decide) (by decide)), f5 r (far r _ hr (by decide) (by decide)) (far r _ hr (by decide) (by decide)), f4 r (far r _ hr (by decide) (by decide)) (far r _ hr (by decide) (by decide)), f3 r (far r _ hr (by decide) (by decide)) (far r _ hr (by decide) (by decide)), f2 r (far r _ hr (by decide) (by decide)) (far r _ hr (by decide) (by decide)), f1 r (far r _ hr (by decide) (by decide)) (far r _ hr (by decide) (by decide))]
    · rw [g8 65 (by decide), f7 65 (by decide) (by decide), f6 65 (by decide) (by decide), f5 65 (by decide) (by decide), f4 65 (by decide) (by decide), f3 65 (by decide) (by decide), f2 65 (by decide) (by decide)]; exact g1
    · rw [g8 67 (by decide), f7 67 (by decide) (by decide), f6 67 (by decide) (by decide), f5 67 (by decide) (by decide), f4 67 (by decide) (by decide), f3 67 (by decide) (by decide)]; exact g2
    · rw [g8 69 (by decide)]; exact w69
    · rw [g8 71 (by decide), f7 71 (by decide) (by decide), f6 71 (by decide) (by decide), f5 71 (by decide) (by decide)]; exact g4
    · rw [g8 73 (by decide), f7 73 (by decide) (by decide), f6 73 (by decide) (by decide)]; exact g5
    · rw [g8 75 (by decide), f7 75 (by decide) (by decide)]; exact g6
    · rw [g8 77 (by decide)]; exact g7
    · rw [g8 66 (by decide), f7 66 (by decide) (by decide), f6 66 (by decide) (by decide), f5 66 (by decide) (by decide), f4 66 (by decide) (by decide), f3 66 (by decide) (by decide), f2 66 (by decide) (by decide)]; exact h1
    · rw [g8 68 (by decide), f7 68 (by decide) (by decide), f6 68 (by decide) (by decide), f5 68 (by decide) (by decide), f4 68 (by decide) (by decide), f3 68 (by decide) (by decide), h2, f1 68 (by decide) (by decide)]
    · rw [g8 72 (by decide), f7 72 (by decide) (by decide), f6 72 (by decide) (by decide), f5 72 (by decide) (by decide), h4, f3 72 (by decide) (by decide), f2 72 (by decide) (by decide), f1 72 (by decide) (by decide)]
    · rw [g8 74 (by decide), f7 74 (by decide) (by decide), f6 74 (by decide) (by decide), h5, f4 74 (by decide) (by decide), f3 74 (by decide) (by decide), f2 74 (by decide) (by decide), f1 74 (by decide) (by decide)]
    · rw [g8 76 (by decide), f7 76 (by decide) (by decide), h6, f5 76 (by decide) (by decide), f4 76 (by decide) (by decide), f3 76 (by decide) (by decide), f2 76 (by decide) (by decide), f1 76 (by decide) (by decide)]
    · rw [g8 78 (by decide), h7, f6 78 (by decide) (by decide), f5 78 (by decide) (by decide), f4 78 (by decide) (by decide), f3 78 (by decide) (by decide), f2 78 (by decide) (by decide), f1 78 (by decide) (by decide)]
  have le : v + 1 ≤ 482 := by omega
  refine k_Row_at q_row_69 (by rw [w69]; exact le) ?_
  rcases hp with e | ⟨p0, pv⟩
  · rw [zT_out (by omega)]
    refine ⟨by decide, k_Row_set q_row_69 (by rw [w69]; exact le) (fun z _ => by omega) (fun _ => base s7 (fun _ _ => rfl) (by rw [if_neg (by omega)]; exact w70))⟩
  · have c := c0 p0
    have ev : zT s7 69 par = a 70 par := by rw [zT_in p0 (by rw [w69]; omega), show s7 (69 + 1) = s7 70 from rfl, w70, q_u_ne (by omega)]
    rw [ev]
    refine ⟨by omega, k_Row_set q_row_69 (by rw [w69]; exact le) (fun _ _ => base _ (fun r hr => q_up_ne hr) ?_) (fun z => absurd ⟨p0, by rw [w69]; omega⟩ z)⟩
    rw [if_pos p0, show q_up s7 (69 + 1) par (a 70 par + 1) 70 = q_u (s7 70) par (a 70 par + 1) from q_up_fn, w70]
theorem k_m_addsNode (h20 : b 113 20 = v) (h54 : b 113 54 = par) (h51 : b 113 51 = D) (v0 : 0 ≤ v) (v2 : v < 900) (hp : par = -1 ∨ (0 ≤ par ∧ par < v)) (c0 : 0 ≤ par → 0 ≤ b 133 par ∧ b 133 par ≤ 1000) (h : ∀ b', zNb2 b b' v κ par told D → K v b') : c_m_addsNode X κ told b K := by
  refine sg_m_addsNode ?_
  rw [h20]
  refine ⟨v0, v2, fun s1 e1 => ?_⟩
  have a1 : s1 113 = b 113 := by rw [e1, q_up_ne (by decide)]
  rw [a1, h20, h54]
  refine ⟨v0, v2, fun s2 e2 => ?_⟩
  have a2 : s2 113 = b 113 := by rw [e2, q_up_ne (by decide)]; exact a1
  rw [a2, h20]
  refine ⟨v0, v2, fun s3 e3 => ?_⟩
  have a3 : s3 113 = b 113 := by rw [e3, q_up_ne (by decide)]; exact a2
  rw [a3, h20]
  refine ⟨v0, v2, fun s4 e4 => ?_⟩
  have a4 : s4 113 = b 113 := by rw [e4, q_up_ne (by decide)]; exact a3
  rw [a4, h20]
  refine ⟨v0, v2, fun s5 e5 => ?_⟩
  have a5 : s5 113 = b 113 := by rw [e5, q_up_ne (by decide)]; exact a4
  rw [a5, h20, h51]
  refine ⟨v0, v2, fun s6 e6 => ?_⟩
  have a6 : s6 113 = b 113 := by rw [e6, q_up_ne (by decide)]; exact a5
  rw [a6, h54, h20]
  have m : ∀ r, r ≠ 131 → r ≠ 132 → r ≠ 133 → r ≠ 134 → r ≠ 136 → r ≠ 153 → s6 r = b r := fun r x1 x2 x3 x4 x5 x6 => by rw [e6, q_up_ne x6, e5, q_up_ne x5, e4, q_up_ne x4, e3, q_up_ne x3, e2, q_up_ne x2, e1, q_up_ne x1]
  have k131 : s6 131 = q_u (b 131) v κ := by rw [e6, q_up_ne (by decide), e5, q_up_ne (by decide), e4, q_up_ne (by decide), e3, q_up_ne (by decide), e2, q_up_ne (by decide), e1, q_up_fn]
  have k132 : s6 132 = q_u (b 132) v par := by rw [e6, q_up_ne (by decide), e5, q_up_ne (by decide), e4, q_up_ne (by decide), e3, q_up_ne (by decide), e2, q_up_fn, e1, q_up_ne (by decide)]
  have k133 : s6 133 = q_u (b 133) v 0 := by rw [e6, q_up_ne (by decide), e5, q_up_ne (by decide), e4, q_up_ne (by decide), e3, q_up_fn, e2, q_up_ne (by decide), e1, q_up_ne (by decide)]
  have k134 : s6 134 = q_u (b 134) v told := by rw [e6, q_up_ne (by decide), e5, q_up_ne (by decide), e4, q_up_fn, e3, q_up_ne (by decide), e2, q_up_ne (by decide), e1, q_up_ne (by decide)]
  have k136 : s6 136 = q_u (b 136) v (-1) := by rw [e6, q_up_ne (by decide), e5, q_up_fn, e4, q_up_ne (by decide), e3, q_up_ne (by decide), e2, q_up_ne (by decide), e1, q_up_ne (by decide)]
  have k153 : s6 153 = q_u (b 153) v D := by rw [e6, q_up_fn, e5, q_up_ne (by decide), e4, q_up_ne (by decide), e3, q_up_ne (by decide), e2, q_up_ne (by decide), e1, q_up_ne (by decide)]
  have fin : ∀ s8 : qM, (∀ r, r ≠ 133 → s8 r = s6 r) → s8 133 = (if 0 ≤ par then q_u (q_u (b 133) v 0) par (b 133 par + 1) else q_u (b 133) v 0) → (-2147483648 ≤ ((s8 113 20) + 1) ∧ ((s8 113 20) + 1) < 2147483648) ∧ (∀ s9 : qM, s9 = q_up s8 113 20 ((s8 113 20) + 1) → (-2147483648 ≤ ((s9 113 20) - 1) ∧ ((s9 113 20) - 1) < 2147483648) ∧ K ((s9 113 20) - 1) s9) := by
    intro s8 g8 h8
    have q8 : s8 113 20 = v := by rw [g8 113 (by decide), a6]; exact h20
    rw [q8]
    refine ⟨by omega, fun s9 e9 => ?_⟩
    have q9 : s9 113 20 = v + 1 := by rw [e9, q_up_at]
    rw [q9, show v + 1 - 1 = v by omega]
    refine ⟨by omega, h s9 (zNb2.mk (fun r x0 x1 x2 x3 x4 x5 x6 => ?_) (fun j hj => ?_) q9 ?_ ?_ ?_ ?_ ?_ ?_)⟩
    · rw [e9, q_up_ne x0, g8 r x3]; exact m r x1 x2 x3 x4 x5 x6
    · rw [e9, q_up_nj hj, g8 113 (by decide), a6]
    · rw [e9, q_up_ne (by decide), g8 131 (by decide)]; exact k131
    · rw [e9, q_up_ne (by decide), g8 132 (by decide)]; exact k132
    · rw [e9, q_up_ne (by decide)]; exact h8
    · rw [e9, q_up_ne (by decide), g8 134 (by decide)]; exact k134
    · rw [e9, q_up_ne (by decide), g8 136 (by decide)]; exact k136
    · rw [e9, q_up_ne (by decide), g8 153 (by decide)]; exact k153
  rcases hp with e | ⟨p0, pv⟩
  · have f := fin s6 (fun _ _ => rfl) (by rw [if_neg (by omega)]; exact k133)
    rw [a6, h20] at f
    exact z_t e f
  · have c := c0 p0
    have ev : s6 133 par = b 133 par := by rw [k133, q_u_ne (by omega)]
    rw [ev]
    exact z_f (by omega) ⟨p0, by omega, by omega, p0, by omega, fun s8 e8 => fin s8 (fun r hr => by rw [e8, q_up_ne hr]) (by rw [e8, q_up_fn, k133, if_pos p0])⟩
end Node
