/-! The tree: a block's node. -/
/-- k blocks have their nodes; those of the FENCEs below e their lines -/
def zGw (a b : qM) (t : Int → Int) (N LL n k v C D e : Int) : Prop := (zBk a b t N LL n) ∧ (zTr a b v C D) ∧ (a 54 1 = 0 ∧ a 56 1 = 0 ∧ a 58 1 = 0 ∧ a 60 1 = 0 ∧ a 62 1 = 0) ∧ (a 81 1 = k ∧ 0 ≤ k ∧ k ≤ n ∧ e ≤ k) ∧ (∀ j, 0 ≤ j → j < k → a 82 j = b 137 j ∧ 0 ≤ b 137 j ∧ b 137 j < v ∧ b 135 (b 137 j) = j ∧ b 131 (b 137 j) = b 117 j ∧ b 132 (b 137 j) = (if b 118 j = -1 then -1 else b 137 (b 118 j))) ∧ (∀ j j', 0 ≤ j → j < j' → j' < k → b 137 j < b 137 j') ∧ (∀ i, 0 ≤ i → i < v → (b 131 i ≤ 7 ∧ 0 ≤ b 135 i ∧ b 135 i < k ∧ b 137 (b 135 i) = i) ∨ (8 ≤ b 131 i ∧ ∃ j, 0 ≤ j ∧ j < k ∧ b 137 j ≤ b 132 i ∧ (j + 1 < k → i < b 137 (j + 1)))) ∧ (∀ j, 0 ≤ j → j < e → b 117 j = 5 → zFn a b t (b 137 j) j) ∧ ((k = 0 → v = 0) ∧ (0 < k → b 137 0 = 0 ∧ 0 < v))
theorem zGw.mk {a b : qM} {t : Int → Int} {N LL n k v C D e : Int} (B : zBk a b t N LL n) (T : zTr a b v C D) (r0 : a 54 1 = 0 ∧ a 56 1 = 0 ∧ a 58 1 = 0 ∧ a 60 1 = 0 ∧ a 62 1 = 0) (sz : a 81 1 = k ∧ 0 ≤ k ∧ k ≤ n ∧ e ≤ k) (no : ∀ j, 0 ≤ j → j < k → a 82 j = b 137 j ∧ 0 ≤ b 137 j ∧ b 137 j < v ∧ b 135 (b 137 j) = j ∧ b 131 (b 137 j) = b 117 j ∧ b 132 (b 137 j) = (if b 118 j = -1 then -1 else b 137 (b 118 j))) (mo : ∀ j j', 0 ≤ j → j < j' → j' < k → b 137 j < b 137 j') (nb : ∀ i, 0 ≤ i → i < v → (b 131 i ≤ 7 ∧ 0 ≤ b 135 i ∧ b 135 i < k ∧ b 137 (b 135 i) = i) ∨ (8 ≤ b 131 i ∧ ∃ j, 0 ≤ j ∧ j < k ∧ b 137 j ≤ b 132 i ∧ (j + 1 < k → i < b 137 (j + 1)))) (fe : ∀ j, 0 ≤ j → j < e → b 117 j = 5 → zFn a b t (b 137 j) j) (v0 : (k = 0 → v = 0) ∧ (0 < k → b 137 0 = 0 ∧ 0 < v)) : zGw a b t N LL n k v C D e := ⟨B, T, r0, sz, no, mo, nb, fe, v0⟩
theorem zGw.B {a b : qM} {t : Int → Int} {N LL n k v C D e : Int} (h : zGw a b t N LL n k v C D e) : zBk a b t N LL n := h.1
theorem zGw.T {a b : qM} {t : Int → Int} {N LL n k v C D e : Int} (h : zGw a b t N LL n k v C D e) : zTr a b v C D := h.2.1
theorem zGw.r0 {a b : qM} {t : Int → Int} {N LL n k v C D e : Int} (h : zGw a b t N LL n k v C D e) : a 54 1 = 0 ∧ a 56 1 = 0 ∧ a 58 1 = 0 ∧ a 60 1 = 0 ∧ a 62 1 = 0 := h.2.2.1
theorem zGw.sz {a b : qM} {t : Int → Int} {N LL n k v C D e : Int} (h : zGw a b t N LL n k v C D e) : a 81 1 = k ∧ 0 ≤ k ∧ k ≤ n ∧ e ≤ k := h.2.2.2.1
theorem zGw.no {a b : qM} {t : Int → Int} {N LL n k v C D e : Int} (h : zGw a b t N LL n k v C D e) : ∀ j, 0 ≤ j → j < k → a 82 j = b 137 j ∧ 0 ≤ b 137 j ∧ b 137 j < v ∧ b 135 (b 137 j) = j ∧ b 131 (b 137 j) = b 117 j ∧ b 132 (b 137 j) = (if b 118 j = -1 then -1 else b 137 (b 118 j)) := h.2.2.2.2.1
theorem zGw.mo {a b : qM} {t : Int → Int} {N LL n k v C D e : Int} (h : zGw a b t N LL n k v C D e) : ∀ j j', 0 ≤ j → j < j' → j' < k → b 137 j < b 137 j' := h.2.2.2.2.2.1
theorem zGw.nb {a b : qM} {t : Int → Int} {N LL n k v C D e : Int} (h : zGw a b t N LL n k v C D e) : ∀ i, 0 ≤ i → i < v → (b 131 i ≤ 7 ∧ 0 ≤ b 135 i ∧ b 135 i < k ∧ b 137 (b 135 i) = i) ∨ (8 ≤ b 131 i ∧ ∃ j, 0 ≤ j ∧ j < k ∧ b 137 j ≤ b 132 i ∧ (j + 1 < k → i < b 137 (j + 1))) := h.2.2.2.2.2.2.1
theorem zGw.fe {a b : qM} {t : Int → Int} {N LL n k v C D e : Int} (h : zGw a b t N LL n k v C D e) : ∀ j, 0 ≤ j → j < e → b 117 j = 5 → zFn a b t (b 137 j) j := h.2.2.2.2.2.2.2.1
theorem zGw.v0 {a b : qM} {t : Int → Int} {N LL n k v C D e : Int} (h : zGw a b t N LL n k v C D e) : (k = 0 → v = 0) ∧ (0 < k → b 137 0 = 0 ∧ 0 < v) := h.2.2.2.2.2.2.2.2
section Block
variable {X : Nat × (Nat → Int32)} {a b a' b' a1 b1 : qM} {K : Int → qM → Prop} {KV : qM → Prop} {v C D N LL n k e κ par τ σ : Int} {t : Int → Int}
theorem zTr.frb (T : zTr a b v C D) (f : ∀ r, r = 117 ∨ (131 ≤ r ∧ r ≤ 134) ∨ r = 136 ∨ r = 152 ∨ r = 153 → b' r = b r) (f20 : b' 113 20 = b 113 20) (f51 : b' 113 51 = b 113 51) : zTr a b' v C D := by
  obtain ⟨t1, t2, t3, t4, t5, t6, t7, t8, t9, t10, t11, t12, t13⟩ := T.sz
  have e117 := f 117 (by decide)
  have e131 := f 131 (by decide)
  have e132 := f 132 (by decide)
  have e133 := f 133 (by decide)
  have e134 := f 134 (by decide)
  have e136 := f 136 (by decide)
  have e152 := f 152 (by decide)
  have e153 := f 153 (by decide)
  refine zTr.mk ⟨t1, t2, t3, t4, t5, t6, t7, t8, f20.trans t9, f51.trans t10, t11, t12, t13⟩ (by rw [e131, e132, e133, e134]; exact T.nd) (fun i i0 iv => ?_) (by rw [e131, e134, e152, e153]; exact T.ct) (by rw [e132, e133]; exact T.kc) (by rw [e132]; exact T.pre) T.sm (by rw [e131, e134]; exact T.tl)
  have h := T.sg i i0 iv
  rw [e131, e134, e136]
  exact ⟨h.1, h.2.1, fun z => (h.2.2.1 z).fr rfl rfl rfl rfl e117, h.2.2.2⟩
theorem zGw.mole (G : zGw a b t N LL n k v C D e) {j j' : Int} (j0 : 0 ≤ j) (h : j ≤ j') (hk : j' < k) : b 137 j ≤ b 137 j' := by
  by_cases e : j = j'
  · rw [e]; exact Int.le_refl _
  · exact Int.le_of_lt (G.mo j j' j0 (by omega) hk)
theorem zGw.pre1 (G : zGw a b t N LL n k v C D e) {p i : Int} (hp : b 118 k = p) (k1 : 1 ≤ k) (kn : k < n) (p0 : 0 ≤ p) (pk : p < k) (u : b 137 p < i) (iv : i < v) (h : b 131 i ≤ 7 ∧ 0 ≤ b 135 i ∧ b 135 i < k ∧ b 137 (b 135 i) = i) : b 137 p ≤ b 132 i := by
  obtain ⟨h1, h2, h3, h4⟩ := h
  have no := (G.no _ h2 h3).2.2.2.2.2
  rw [h4] at no
  have lt : p < b 135 i := by
    by_cases z : p < b 135 i
    · exact z
    · have := G.mole h2 (show b 135 i ≤ p by omega) pk; omega
  have bp := G.B.B.pre k (b 135 i) k1 kn (by omega) h3
  have par := G.B.B.par (b 135 i) (by omega) (by omega)
  rw [no, if_neg (by omega)]
  exact G.mole p0 (by omega) (by omega)
theorem zGw.pre2 (G : zGw a b t N LL n k v C D e) {p i : Int} (p0 : 0 ≤ p) (pk : p < k) (u : b 137 p < i) {j : Int} (j0 : 0 ≤ j) (jk : j < k) (h1 : b 137 j ≤ b 132 i) (h2 : j + 1 < k → i < b 137 (j + 1)) : b 137 p ≤ b 132 i := by
  by_cases z : j < p
  · have g1 := h2 (by omega)
    have g2 := G.mole (show 0 ≤ j + 1 by omega) (show j + 1 ≤ p by omega) pk
    omega
  · have g2 := G.mole p0 (show p ≤ j by omega) jk
    omega
theorem zGw.pre (G : zGw a b t N LL n k v C D e) {p : Int} (hp : b 118 k = p) (k1 : 1 ≤ k) (kn : k < n) (p0 : 0 ≤ p) (pk : p < k) : ∀ i, 0 ≤ b 137 p → b 137 p < i → i < v → b 137 p ≤ b 132 i := by
  intro i _ u iv
  have q0 := (G.no p p0 pk).2.1
  rcases G.nb i (by omega) iv with h | ⟨_, j, j0, jk, h1, h2⟩
  · exact G.pre1 hp k1 kn p0 pk u iv h
  · exact G.pre2 p0 pk u j0 jk h1 h2
/-- what the model tells of a block's node -/
def zTd (b : qM) (k : Int) : Int := if b 117 k = 4 ∨ b 117 k = 3 then b 120 k else if b 117 k = 5 then b 123 k else if b 117 k = 2 then b 121 k else 0
def zSn (b : qM) (k : Int) : Int := if b 117 k = 4 then 100 + zTd b k else if b 117 k = 2 then zTd b k else -1
def zPr (b : qM) (k : Int) : Int := if b 118 k = -1 then -1 else b 137 (b 118 k)
theorem k_m_trees50 (k0 : 0 ≤ k) (k6 : k < 600) (lo : b 117 k = 2 → 0 ≤ b 121 k ∧ b 121 k ≤ 1) (h : L_m_trees_119 X k (b 117 k) k (b 117 k) (zTd b k) (q_up b 113 54 par) KV) : L_m_trees_50 X k par b KV := by
  refine sg_m_trees_50 (fun s1 e1 => ?_)
  have f : ∀ r, r ≠ 113 → s1 r = b r := fun r hr => by rw [e1, q_up_ne hr]
  rw [← e1] at h
  rw [f 117 (by decide), f 120 (by decide), f 121 (by decide), f 123 (by decide)]
  unfold zTd at h
  refine ⟨k0, k6, z_c (fun e4 => ?_) (fun n4 => z_c (fun n3 => z_c (fun n5 => z_c (fun n2 => ?_) (fun e2 => ?_)) (fun e5 => ?_)) (fun e3 => ?_))⟩
  · rw [if_pos (Or.inl e4)] at h; exact ⟨k0, k6, h⟩
  · rw [if_neg (by omega), if_neg n5, if_neg n2] at h; exact h
  · have e2 := Decidable.not_not.mp e2
    have l2 := lo e2
    rw [if_neg (by omega), if_neg n5, if_pos e2] at h
    refine ⟨k0, k6, z_c (fun z => ?_) (fun z => ?_)⟩
    · rw [z] at h; exact h
    · rw [show b 121 k = 1 by omega] at h; exact h
  · have e5 := Decidable.not_not.mp e5
    rw [if_neg (by omega), if_pos e5] at h; exact ⟨k0, k6, h⟩
  · have e3 := Decidable.not_not.mp e3
    rw [if_pos (Or.inr e3)] at h; exact ⟨k0, k6, h⟩
/-- a store with the node of block k added -/
def zNn (b b' : qM) (v k κ par τ D : Int) : Prop := ∃ b0 b1, (∀ r, r ≠ 113 → b0 r = b r) ∧ (∀ j, j ≠ 54 → b0 113 j = b 113 j) ∧ zNb2 b0 b1 v κ par τ D ∧ b' = q_up (q_up b1 137 k v) 135 v k
theorem k_m_treesBlock (h20 : b 113 20 = v) (h51 : b 113 51 = D) (h4 : b 113 4 = n) (k0 : 0 ≤ k) (kn : k < n) (n6 : n ≤ 482) (v0 : 0 ≤ v) (v2 : v < 900) (lo : b 117 k = 2 → 0 ≤ b 121 k ∧ b 121 k ≤ 1) (hq : b 118 k = -1 ∨ (0 ≤ b 118 k ∧ b 118 k < k)) (hp : zPr b k = -1 ∨ (0 ≤ zPr b k ∧ zPr b k < v)) (c0 : 0 ≤ zPr b k → 0 ≤ b 133 (zPr b k) ∧ b 133 (zPr b k) ≤ 1000) :
    ∃ b', zNn b b' v k (b 117 k) (zPr b k) (zTd b k) D ∧ ∀ Kf : qM → Prop, (((b 117 k = 4 ∨ b 117 k = 6) → c_m_treesInline X k (q_up b' 113 54 v) (fun s6 => L_m_trees_16 X (k + 1) s6 Kf)) ∧ (¬ (b 117 k = 4 ∨ b 117 k = 6) → L_m_trees_16 X (k + 1) b' Kf)) → L_m_trees_16 X k b Kf := by
  generalize e0 : q_up b 113 54 (zPr b k) = b0
  have f0 : ∀ r, r ≠ 113 → b0 r = b r := fun r hr => by rw [← e0, q_up_ne hr]
  have fj : ∀ j, j ≠ 54 → b0 113 j = b 113 j := fun j hj => by rw [← e0, q_up_nj hj]
  obtain ⟨r, b1, ⟨er, B1⟩, W1⟩ := z_1I (k_m_addsNode (X := X) (b := b0) (κ := b 117 k) (told := zTd b k) (par := zPr b k) (v := v) (D := D) (K := fun r b1 => r = v ∧ zNb2 b0 b1 v (b 117 k) (zPr b k) (zTd b k) D) (by rw [fj 20 (by decide)]; exact h20) (by rw [← e0, q_up_at]) (by rw [fj 51 (by decide)]; exact h51) v0 v2 hp (by rw [f0 133 (by decide)]; exact c0) (fun b1 B1 => ⟨rfl, B1⟩))
  refine ⟨q_up (q_up b1 137 k v) 135 v k, ⟨b0, b1, f0, fj, B1, rfl⟩, fun Kf hk => ?_⟩
  have tail : L_m_trees_50 X k (zPr b k) b Kf := by
    refine k_m_trees50 k0 (by omega) lo ?_
    rw [e0]
    refine sg_m_trees_119 (W1 _ ⟨k0, by omega, fun s3 e3 => ?_⟩)
    rw [er] at e3
    have q20 : s3 113 20 = v + 1 := by rw [e3, q_up_ne (by decide)]; exact B1.f20
    rw [q20, show v + 1 - 1 = v by omega]
    refine ⟨by omega, v0, v2, fun s4 e4 => ?_⟩
    have q20' : s4 113 20 = v + 1 := by rw [e4, q_up_ne (by decide)]; exact q20
    rw [q20', show v + 1 - 1 = v by omega]
    rw [e3] at e4
    rw [← e4] at hk
    refine z_c (fun k6 => ?_) (fun k6 => z_c (fun k4 => ?_) (fun k4 => ?_))
    · exact ⟨by omega, fun s5 e5 => by rw [e5]; exact z_mV (hk.1 (Or.inr k6)) (fun s hs => ⟨by omega, hs⟩)⟩
    · exact ⟨by omega, hk.2 (fun z => z.elim k4 k6)⟩
    · exact ⟨by omega, fun s5 e5 => by rw [e5]; exact z_mV (hk.1 (Or.inl (Decidable.not_not.mp k4))) (fun s hs => ⟨by omega, hs⟩)⟩
  refine sg_m_trees_16 (z_f (by omega) ⟨k0, by omega, z_c (fun hne => ?_) (fun he => ?_)⟩)
  · rcases hq with z | z
    · exact absurd z hne
    · unfold zPr at tail; rw [if_neg hne] at tail
      exact ⟨k0, by omega, z.1, by omega, tail⟩
  · unfold zPr at tail; rw [if_pos (Decidable.not_not.mp he)] at tail
    exact tail
end Block
