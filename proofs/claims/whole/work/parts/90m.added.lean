/-! The tree: what holds behind a block's node. -/
section Added
variable {X : Nat × (Nat → Int32)} {a b a' b' a1 b1 : qM} {K : Int → qM → Prop} {KV : qM → Prop} {v C D N LL n k e κ par τ σ : Int} {t : Int → Int}
theorem zNn.fb (h : zNn b b' v k κ par τ D) : (∀ r, r ≠ 113 → r < 131 ∨ 137 < r → r ≠ 153 → b' r = b r) ∧ (∀ j, j ≠ 20 → j ≠ 54 → b' 113 j = b 113 j) := by
  obtain ⟨b0, b1, f0, fj, B, rfl⟩ := h
  refine ⟨fun r x y z => ?_, fun j x y => ?_⟩
  · rw [q_up_ne (by omega), q_up_ne (by omega), B.fr r x (by omega) (by omega) (by omega) (by omega) (by omega) z]; exact f0 r x
  · rw [q_up_ne (by decide), q_up_ne (by decide), B.f113 j x]; exact fj j y
theorem zNn.at' (h : zNn b b' v k κ par τ D) : b' 113 20 = v + 1 ∧ b' 131 = q_u (b 131) v κ ∧ b' 132 = q_u (b 132) v par ∧ b' 135 = q_u (b 135) v k ∧ b' 137 = q_u (b 137) k v := by
  obtain ⟨b0, b1, f0, fj, B, rfl⟩ := h
  have o : ∀ r, r ≠ 113 → r ≠ 135 → r ≠ 137 → q_up (q_up b1 137 k v) 135 v k r = b1 r := fun r x y z => by rw [q_up_ne y, q_up_ne z]
  refine ⟨?_, ?_, ?_, ?_, ?_⟩
  · rw [q_up_ne (by decide), q_up_ne (by decide)]; exact B.f20
  · rw [o 131 (by decide) (by decide) (by decide), B.f131, f0 131 (by decide)]
  · rw [o 132 (by decide) (by decide) (by decide), B.f132, f0 132 (by decide)]
  · rw [q_up_fn, q_up_ne (by decide), B.fr 135 (by decide) (by decide) (by decide) (by decide) (by decide) (by decide) (by decide), f0 135 (by decide)]
  · rw [q_up_ne (by decide), q_up_fn, B.fr 137 (by decide) (by decide) (by decide) (by decide) (by decide) (by decide) (by decide), f0 137 (by decide)]
theorem zNc.fa (h : zNc a a' v k κ par τ σ C) : (∀ r, r < 65 ∨ r = 79 ∨ r = 80 ∨ 82 < r → a' r = a r) ∧ a' 81 1 = k + 1 ∧ a' 82 = q_u (a 82) k v ∧ a' 76 = q_u (a 76) v C ∧ a' 78 = q_u (a 78) v 0 := by
  obtain ⟨a1, A, rfl⟩ := h
  refine ⟨fun r x => ?_, ?_, ?_, ?_, ?_⟩
  · rw [q_up_ne (by omega), q_up_ne (by omega), q_up_ne (by omega)]; exact A.fr r (by omega)
  · rw [q_up_at]
  · rw [q_up_ne (by decide), q_up_fn, q_up_ne (by decide), A.fr 82 (by decide)]
  · rw [q_up_ne (by decide), q_up_ne (by decide), q_up_ne (by decide)]; exact A.f76
  · rw [q_up_ne (by decide), q_up_ne (by decide), q_up_ne (by decide)]; exact A.f78
theorem zTr.fra (T : zTr a b v C D) (f : ∀ r, (37 ≤ r ∧ r ≤ 42) ∨ (65 ≤ r ∧ r ≤ 80) → a' r = a r) : zTr a' b v C D := by
  obtain ⟨t1, t2, t3, t4, t5, t6, t7, t8, t9, t10, t11, t12, t13⟩ := T.sz
  have g : ∀ r, 65 ≤ r → r ≤ 80 → a' r = a r := fun r x y => f r (Or.inr ⟨x, y⟩)
  have l : ∀ r, 37 ≤ r → r ≤ 42 → a' r = a r := fun r x y => f r (Or.inl ⟨x, y⟩)
  refine zTr.mk ⟨by rw [g 65 (by decide) (by decide)]; exact t1, by rw [g 67 (by decide) (by decide)]; exact t2, by rw [g 69 (by decide) (by decide)]; exact t3, by rw [g 71 (by decide) (by decide)]; exact t4, by rw [g 73 (by decide) (by decide)]; exact t5, by rw [g 75 (by decide) (by decide)]; exact t6, by rw [g 77 (by decide) (by decide)]; exact t7, by rw [g 79 (by decide) (by decide)]; exact t8, t9, t10, t11, t12, t13⟩ (by rw [g 66 (by decide) (by decide), g 68 (by decide) (by decide), g 70 (by decide) (by decide), g 72 (by decide) (by decide)]; exact T.nd) (fun i i0 iv => ?_) (by rw [g 76 (by decide) (by decide), g 78 (by decide) (by decide), g 80 (by decide) (by decide)]; exact T.ct) T.kc T.pre (by rw [g 78 (by decide) (by decide)]; exact T.sm) T.tl
  have h := T.sg i i0 iv
  rw [g 74 (by decide) (by decide)]
  exact ⟨h.1, h.2.1, fun z => (h.2.2.1 z).fr (l 37 (by decide) (by decide)) (l 38 (by decide) (by decide)) (l 41 (by decide) (by decide)) (l 42 (by decide) (by decide)) rfl, h.2.2.2⟩
/-- the parent of block k's node -/
theorem zGw.prv (G : zGw a b t N LL n k v C D e) (kn : k < n) : (v = 0 ∧ zPr b k = -1) ∨ (0 < v ∧ 0 ≤ zPr b k ∧ zPr b k < v) := by
  have k0 := G.sz.2.1
  by_cases z : k = 0
  · have r := G.B.B.root.2
    refine Or.inl ⟨G.v0.1 z, ?_⟩
    unfold zPr; rw [z, r]; rfl
  · have p := G.B.B.par k (by omega) kn
    have q := G.no (b 118 k) p.1 p.2.1
    refine Or.inr ⟨(G.v0.2 (by omega)).2, ?_⟩
    unfold zPr; rw [if_neg (by omega)]; exact ⟨q.2.1, q.2.2.1⟩
theorem zGw.q118 (G : zGw a b t N LL n k v C D e) (kn : k < n) : b 118 k = -1 ∨ (0 ≤ b 118 k ∧ b 118 k < k) := by
  have k0 := G.sz.2.1
  by_cases z : k = 0
  · rw [z]; exact Or.inl G.B.B.root.2
  · have p := G.B.B.par k (by omega) kn; exact Or.inr ⟨p.1, p.2.1⟩
theorem zB.td (B : zB a b n) (k0 : 0 ≤ k) (kn : k < n) : 0 ≤ zTd b k ∧ (b 117 k = 4 → zTd b k ≤ 3) := by
  obtain ⟨m3, m4, m2, m5, mo⟩ := B.ms k k0 kn
  have fl := (B.fl k k0 kn).1
  unfold zTd
  by_cases h : b 117 k = 4 ∨ b 117 k = 3
  · rw [if_pos h]
    rcases h with z | z
    · have := m4 z; exact ⟨by omega, fun _ => by omega⟩
    · have := m3 z; exact ⟨by omega, fun _ => by omega⟩
  · rw [if_neg h]
    by_cases h5 : b 117 k = 5
    · rw [if_pos h5]; exact ⟨fl, fun z => by omega⟩
    · rw [if_neg h5]
      by_cases h2 : b 117 k = 2
      · rw [if_pos h2]; have := m2 h2; exact ⟨by omega, fun z => by omega⟩
      · rw [if_neg h2]; exact ⟨Int.le_refl 0, fun z => absurd (Or.inl z) h⟩
theorem zGw.tadd (G : zGw a b t N LL n k v C D e) (kn : k < n) (hc : zNc a a' v k (b 117 k) (zPr b k) (zTd b k) (zSn b k) C) (hb : zNn b b' v k (b 117 k) (zPr b k) (zTd b k) D) : zTr a' b' (v + 1) C D := by
  obtain ⟨fc, _⟩ := hc.fa
  have k0 := G.sz.2.1
  have kd := G.B.B.kd k k0 kn
  have pp := G.prv kn
  have hpre : ∀ j, 0 ≤ zPr b k → zPr b k < j → j < v → zPr b k ≤ b 132 j := by
    intro j p0 u w
    have k1 : 1 ≤ k := by
      by_cases z : k = 0
      · have := G.v0.1 z; omega
      · omega
    have p := G.B.B.par k k1 kn
    have ep : zPr b k = b 137 (b 118 k) := by unfold zPr; rw [if_neg (by omega)]
    rw [ep] at p0 u ⊢
    exact G.pre rfl k1 kn p.1 p.2.1 j p0 u w
  have td := G.B.B.td k0 kn
  obtain ⟨a1, A, rfl⟩ := hc
  obtain ⟨b0, b1, f0, fj, B, rfl⟩ := hb
  have T0 : zTr a b0 v C D := G.T.frb (fun r hr => f0 r (by omega)) (fj 20 (by decide)) (fj 51 (by decide))
  have T1 : zTr (q_up a1 72 v (zTd b k)) (q_up (q_up b1 137 k v) 135 v k) (v + 1) C D := T0.add A B ⟨kd.2.1, by omega⟩ pp (by rw [f0 132 (by decide)]; exact hpre) (fun z => by omega) (fun z => by unfold zSn; rw [if_pos z]) (fun z => by unfold zSn; rw [if_neg (by omega), if_pos z]) (fun z => by omega) (fun x y _ => by unfold zSn; rw [if_neg y, if_neg x]) (fun r hr => q_up_ne hr) (fun i hi => q_up_nj hi) q_up_at (fun r x y _ w => by rw [q_up_ne y, q_up_ne w]) ⟨by rw [q_up_ne (by decide), q_up_ne (by decide)], by rw [q_up_ne (by decide), q_up_ne (by decide)]⟩ (fun i hi => by rw [q_up_ne (by decide), q_up_ne (by decide), B.f136, q_u_ne hi, f0 136 (by decide)]) td.1 (fun z => td.2 z)
  exact T1.fra (fun r hr => by rw [q_up_ne (by omega), q_up_ne (by omega)])
theorem zBk.lnn (B : zBk a b t N LL n) {j : Int} (j0 : 0 ≤ j) (jn : j < n) (h1 : 4 ≤ b 117 j) (h2 : b 117 j ≤ 6) : ∀ l, zF a b j ≤ l → l < zF a b j + a 28 j → a 30 l ≤ a 11 l := by
  intro l u w
  obtain ⟨g1, g2, g3, g4, _⟩ := B.S.rg j j0 jn h1 h2
  have f : 0 ≤ zF a b j := by unfold zF; split <;> omega
  have e := (g4 l (by omega) (by omega)).mpr ⟨u, w⟩
  exact (B.S.bl l (by omega) (by omega) (by omega)).2.2.2.2.2.2.2
theorem zGw.addB (G : zGw a b t N LL n k v C D k) (kn : k < n) (hc : zNc a a' v k (b 117 k) (zPr b k) (zTd b k) (zSn b k) C) (hb : zNn b b' v k (b 117 k) (zPr b k) (zTd b k) D) : zGw a' b' t N LL n (k + 1) (v + 1) C D k := by
  have TT := G.tadd kn hc hb
  have pv := G.prv kn
  have q118 := G.q118 kn
  obtain ⟨fc, e81, e82, e76, e78⟩ := hc.fa
  obtain ⟨fb, fj⟩ := hb.fb
  obtain ⟨e20, e131, e132, e135, e137⟩ := hb.at'
  obtain ⟨s1, k0, s3, s4⟩ := G.sz
  have v0 : 0 ≤ v := G.T.sz.2.2.2.2.2.2.2.2.2.2.1
  have f117 : b' 117 = b 117 := fb 117 (by decide) (by decide) (by decide)
  have f118 : b' 118 = b 118 := fb 118 (by decide) (by decide) (by decide)
  have kd := G.B.B.kd k k0 kn
  refine zGw.mk (G.B.fr (fun q hq => fc q (by omega)) (fun q u w => fb q (by omega) (by omega) (by omega)) (fj 0 (by decide) (by decide)) (fj 4 (by decide) (by decide)) (fj 17 (by decide) (by decide))) TT ?_ ⟨e81, by omega, by omega, by omega⟩ (fun j j0 jk => ?_) (fun j j' j0 u w => ?_) (fun i i0 iv => ?_) (fun j j0 je h5 => ?_) ⟨fun z => by omega, fun _ => ?_⟩
  · rw [fc 54 (by decide), fc 56 (by decide), fc 58 (by decide), fc 60 (by decide), fc 62 (by decide)]; exact G.r0
  · rw [e82, e137, e135, e131, e132, f117, f118]
    by_cases z : j = k
    · rw [z, q_u_at, q_u_at, q_u_at, q_u_at, q_u_at]
      refine ⟨rfl, v0, by omega, rfl, rfl, ?_⟩
      unfold zPr
      by_cases y : b 118 k = -1
      · rw [if_pos y, if_pos y]
      · rw [if_neg y, if_neg y, q_u_ne (by omega)]
    · have o := G.no j j0 (by omega)
      have q : b 118 j < k := by
        by_cases z0 : j = 0
        · rw [z0, G.B.B.root.2]; omega
        · have := G.B.B.par j (by omega) (by omega); omega
      rw [q_u_ne z, q_u_ne z, q_u_ne (show b 137 j ≠ v by omega), q_u_ne (show b 137 j ≠ v by omega), q_u_ne (show b 137 j ≠ v by omega), q_u_ne (show b 118 j ≠ k by omega)]
      exact ⟨o.1, o.2.1, by omega, o.2.2.2.1, o.2.2.2.2.1, o.2.2.2.2.2⟩
  · rw [e137, q_u_ne (show j ≠ k by omega)]
    by_cases z : j' = k
    · rw [z, q_u_at]; exact (G.no j j0 (by omega)).2.2.1
    · rw [q_u_ne z]; exact G.mo j j' j0 u (by omega)
  · rw [e131, e135, e132, e137]
    by_cases z : i = v
    · rw [z, q_u_at, q_u_at, q_u_at]
      exact Or.inl ⟨by omega, k0, by omega, rfl⟩
    · rw [q_u_ne z, q_u_ne z, q_u_ne z]
      rcases G.nb i i0 (by omega) with ⟨h1, h2, h3, h4⟩ | ⟨h1, j, j0, jk, h2, h3⟩
      · exact Or.inl ⟨h1, h2, by omega, by rw [q_u_ne (by omega)]; exact h4⟩
      · refine Or.inr ⟨h1, j, j0, by omega, by rw [q_u_ne (by omega)]; exact h2, fun _ => ?_⟩
        by_cases y : j + 1 = k
        · rw [y, q_u_at]; omega
        · rw [q_u_ne y]; exact h3 (by omega)
  · rw [f117] at h5
    have o := G.no j j0 je
    rw [e137, q_u_ne (by omega)]
    have w := G.T.ct (b 137 j) o.2.1 o.2.2.1
    refine (G.fe j j0 je h5).fr (by rw [e78, q_u_ne (by omega)]) (by rw [e76, q_u_ne (by omega)]) (fun x _ => by rw [fc 80 (by decide)]) (fun r hr => fc r (by omega)) f117 (G.B.lnn j0 (by omega) (by omega) (by omega)) ⟨by omega, by omega⟩
  · rw [e137]
    by_cases z : k = 0
    · rw [z, q_u_at]; exact ⟨G.v0.1 z, by omega⟩
    · rw [q_u_ne (by omega)]; exact ⟨(G.v0.2 (by omega)).1, by omega⟩
end Added
