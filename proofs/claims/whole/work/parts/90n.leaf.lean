/-! The tree: the lines of a FENCE, the inline marks of a leaf, behind the block's node. -/
section LeafTree
variable {X : Nat × (Nat → Int32)} {a b a' b' : qM} {K : qM → Prop} {v C D N LL n k e x : Int} {t : Int → Int}
theorem zGw.other (G : zGw a b t N LL n (k + 1) v C D k) (h : b 117 k ≠ 5) : zGw a b t N LL n (k + 1) v C D (k + 1) := by
  refine zGw.mk G.B G.T G.r0 ⟨G.sz.1, G.sz.2.1, G.sz.2.2.1, by omega⟩ G.no G.mo G.nb (fun j j0 je h5 => ?_) G.v0
  by_cases z : j = k
  · rw [z] at h5; exact absurd h5 h
  · exact G.fe j j0 (by omega) h5
theorem zGw.cur (G : zGw a b t N LL n k v C D e) : zGw a (q_up b 113 54 x) t N LL n k v C D e := by
  have f : ∀ r, r ≠ 113 → q_up b 113 54 x r = b r := fun r hr => q_up_ne hr
  have fj : ∀ j, j ≠ 54 → q_up b 113 54 x 113 j = b 113 j := fun j hj => q_up_nj hj
  have g117 := f 117 (by decide)
  have g118 := f 118 (by decide)
  have g131 := f 131 (by decide)
  have g132 := f 132 (by decide)
  have g135 := f 135 (by decide)
  have g137 := f 137 (by decide)
  refine zGw.mk (G.B.fr (fun _ _ => rfl) (fun q u w => f q (by omega)) (fj 0 (by decide)) (fj 4 (by decide)) (fj 17 (by decide))) (G.T.frb (fun r hr => f r (by omega)) (fj 20 (by decide)) (fj 51 (by decide))) G.r0 G.sz (by rw [g117, g118, g131, g132, g135, g137]; exact G.no) (by rw [g137]; exact G.mo) (by rw [g131, g132, g135, g137]; exact G.nb) (fun j j0 je h5 => ?_) (by rw [g137]; exact G.v0)
  rw [g117] at h5
  rw [g137]
  have je2 := G.sz
  exact (G.fe j j0 je h5).fr rfl rfl (fun _ _ => rfl) (fun _ _ => rfl) g117 (G.B.lnn j0 (by omega) (by omega) (by omega)) ⟨by omega, by omega⟩
theorem zGw.fence (G : zGw a b t N LL n (k + 1) (v + 1) C D k) (k0 : 0 ≤ k) (hk : b 117 k = 5) (hv : b 137 k = v) (e76 : a 76 v = C) (e78 : a 78 v = 0) (v2 : v + 1 ≤ 482) (C2 : C + zU1 a b k < 400)
    (h : ∀ a', zGw a' b t N LL n (k + 1) (v + 1) (C + zU1 a b k) D (k + 1) → (∀ r, r ≠ 78 → r ≠ 79 → r ≠ 80 → a' r = a r) → K a') : c_T_copyFence X k v a K := by
  obtain ⟨s1, s2, s3, s4⟩ := G.sz
  have v0 : 0 ≤ v + 1 := G.T.sz.2.2.2.2.2.2.2.2.2.2.1
  have C0 : 0 ≤ C := G.T.sz.2.2.2.2.2.2.2.2.2.2.2.1
  have o := G.no k k0 (by omega)
  rw [hv] at o
  refine k_copyFence G.B G.T k0 (by omega) hk o.2.1 (by omega) (by rw [o.2.2.2.2.1]; exact hk) e76 e78 v2 C2 (fun a' F Fn => h a' ?_ F.fr)
  have fr := F.fr
  have lo : ∀ r, r < 78 → a' r = a r := fun r hr => fr r (by omega) (by omega) (by omega)
  refine zGw.mk (G.B.fr (fun q hq => lo q (by omega)) (fun _ _ _ => rfl) rfl rfl rfl) F.T ?_ ⟨?_, s2, s3, Int.le_refl _⟩ ?_ G.mo G.nb (fun j j0 je h5 => ?_) G.v0
  · rw [lo 54 (by decide), lo 56 (by decide), lo 58 (by decide), lo 60 (by decide), lo 62 (by decide)]; exact G.r0
  · rw [fr 81 (by decide) (by decide) (by decide)]; exact s1
  · rw [fr 82 (by decide) (by decide) (by decide)]; exact G.no
  · by_cases z : j = k
    · rw [z, hv]; exact Fn
    · have oj := G.no j j0 (by omega)
      have lt := G.mo j k j0 (by omega) (by omega)
      rw [hv] at lt
      have ct := G.T.ct (b 137 j) oj.2.1 oj.2.2.1
      exact (G.fe j j0 (by omega) h5).fr (F.s2 _ (by omega)) (by rw [lo 76 (by decide)]) (fun x hx => F.lo x (by omega)) (fun r hr => lo r (by omega)) rfl (G.B.lnn j0 (by omega) (by omega) (by omega)) ⟨by omega, by omega⟩
/-- behind the walk through a leaf -/
theorem zGw.walked {a2 b2 b1 a3 b4 : qM} {m cur w : Int} {d : Nat} (G : zGw a b1 t N LL n (k + 1) (v + 1) C D k) (k0 : 0 ≤ k) (hk : b1 117 k = 4 ∨ b1 117 k = 6) (hv : b1 137 k = v)
    (fa : ∀ r, r < 45 ∨ 63 < r → a2 r = a r) (fb : ∀ r, r ≠ 113 → r ≠ 138 → r < 141 ∨ 150 < r → b2 r = b1 r) (fj : ∀ j, j ≠ 28 → j ≠ 33 → j ≠ 41 → b2 113 j = b1 113 j) (rz : a2 54 1 = 0 ∧ a2 56 1 = 0 ∧ a2 58 1 = 0 ∧ a2 60 1 = 0 ∧ a2 62 1 = 0)
    (W : zWs a2 b2 (v + 1) C D v a3 b4 m cur w d) : ∃ v' C' D', zGw a3 b4 t N LL n (k + 1) v' C' D' (k + 1) ∧ v' ≤ v + 1 + m ∧ C' ≤ C + m ∧ D' ≤ D + m := by
  obtain ⟨v', C', D', f, Z, F, h1, h2, h3, h4⟩ := W
  obtain ⟨s1, s2, s3, s4⟩ := G.sz
  have e117 : b4 117 = b1 117 := (F.fb 117 (by decide) (by omega) (by decide) (by decide)).trans (fb 117 (by decide) (by decide) (by omega))
  have e118 : b4 118 = b1 118 := (F.fb 118 (by decide) (by omega) (by decide) (by decide)).trans (fb 118 (by decide) (by decide) (by omega))
  have e135 : b4 135 = b1 135 := (F.fb 135 (by decide) (by omega) (by decide) (by decide)).trans (fb 135 (by decide) (by decide) (by omega))
  have e137 : b4 137 = b1 137 := (F.fb 137 (by decide) (by omega) (by decide) (by decide)).trans (fb 137 (by decide) (by decide) (by omega))
  have e131 : ∀ i, i < v + 1 → b4 131 i = b1 131 i := fun i hi => by rw [(F.od i hi).1, fb 131 (by decide) (by decide) (by omega)]
  have e132 : ∀ i, i < v + 1 → b4 132 i = b1 132 i := fun i hi => by rw [(F.od i hi).2.1, fb 132 (by decide) (by decide) (by omega)]
  have lo : ∀ r, r < 45 → a3 r = a r := fun r hr => by rw [F.fa r (by omega), fa r (by omega)]
  have v0 : 0 ≤ v := by have := (G.no k k0 (by omega)).2.1; rw [hv] at this; exact this
  have vv : v < v' := by have := (Z.cl 0 (Nat.zero_le d)).2.1; rw [Z.ch.1] at this; exact this
  refine ⟨v', C', D', zGw.mk (G.B.fr (fun q hq => lo q (by omega)) (fun q u w => by rw [F.fb q (by omega) (by omega) (by omega) (by omega), fb q (by omega) (by omega) (by omega)]) (by rw [F.fj 0 (by decide) (by decide) (by decide) (by decide), fj 0 (by decide) (by decide) (by decide)]) (by rw [F.fj 4 (by decide) (by decide) (by decide) (by decide), fj 4 (by decide) (by decide) (by decide)]) (by rw [F.fj 17 (by decide) (by decide) (by decide) (by decide), fj 17 (by decide) (by decide) (by decide)])) Z.T ?_ ⟨?_, s2, s3, Int.le_refl _⟩ (fun j j0 jk => ?_) ?_ (fun i i0 iv => ?_) (fun j j0 je h5 => ?_) ?_, h1, h3, h4⟩
  · rw [F.fa 54 (by decide), F.fa 56 (by decide), F.fa 58 (by decide), F.fa 60 (by decide), F.fa 62 (by decide)]; exact rz
  · rw [F.fa 81 (by decide), fa 81 (by decide)]; exact s1
  · have o := G.no j j0 jk
    rw [F.fa 82 (by decide), fa 82 (by decide), e137, e135, e117, e118, e131 _ o.2.2.1, e132 _ o.2.2.1]
    exact ⟨o.1, o.2.1, by omega, o.2.2.2⟩
  · rw [e137]; exact G.mo
  · rw [e135, e137]
    by_cases z : i < v + 1
    · rw [e131 i z, e132 i z]; exact G.nb i i0 z
    · have g := Z.inl i (by omega) iv
      have p := Z.ins 0 (Nat.zero_le d) i (by rw [Z.ch.1]; omega) iv
      rw [Z.ch.1] at p
      exact Or.inr ⟨g, k, k0, by omega, by rw [hv]; exact p, fun q => by omega⟩
  · rw [e117] at h5
    have jk : j < k := by
      by_cases z : j = k
      · rw [z] at h5; omega
      · omega
    have oj := G.no j j0 (by omega)
    have ct := G.T.ct (b1 137 j) oj.2.1 oj.2.2.1
    obtain ⟨_, _, _, q76, q78⟩ := F.od (b1 137 j) oj.2.2.1
    rw [e137]
    exact (G.fe j j0 jk h5).fr (by rw [q78, fa 78 (by decide)]) (by rw [q76, fa 76 (by decide)]) (fun x hx => by rw [F.oc x (by omega), fa 80 (by decide)]) (fun r hr => lo r (by omega)) e117 (G.B.lnn j0 (by omega) (by omega) (by omega)) ⟨by omega, by omega⟩
  · rw [e137]; exact ⟨fun z => by omega, fun z => ⟨(G.v0.2 z).1, by omega⟩⟩
/-- the frames of the growing tree -/
def zGf (a a' b b' : qM) : Prop := (∀ r, r < 45 ∨ 82 < r → a' r = a r) ∧ (∀ r, r ≠ 113 → r < 131 ∨ r = 151 ∨ 153 < r → b' r = b r) ∧ (∀ j, j ≠ 20 → j ≠ 28 → j ≠ 33 → j ≠ 41 → j ≠ 51 → j ≠ 54 → j ≠ 55 → b' 113 j = b 113 j)
theorem zGf.mk {a a' b b' : qM} (fa : ∀ r, r < 45 ∨ 82 < r → a' r = a r) (fb : ∀ r, r ≠ 113 → r < 131 ∨ r = 151 ∨ 153 < r → b' r = b r) (fj : ∀ j, j ≠ 20 → j ≠ 28 → j ≠ 33 → j ≠ 41 → j ≠ 51 → j ≠ 54 → j ≠ 55 → b' 113 j = b 113 j) : zGf a a' b b' := ⟨fa, fb, fj⟩
theorem zGf.fa {a a' b b' : qM} (h : zGf a a' b b') : ∀ r, r < 45 ∨ 82 < r → a' r = a r := h.1
theorem zGf.fb {a a' b b' : qM} (h : zGf a a' b b') : ∀ r, r ≠ 113 → r < 131 ∨ r = 151 ∨ 153 < r → b' r = b r := h.2.1
theorem zGf.fj {a a' b b' : qM} (h : zGf a a' b b') : ∀ j, j ≠ 20 → j ≠ 28 → j ≠ 33 → j ≠ 41 → j ≠ 51 → j ≠ 54 → j ≠ 55 → b' 113 j = b 113 j := h.2.2
theorem zGf.tr {a'' b'' : qM} (F : zGf a a' b b') (G : zGf a' a'' b' b'') : zGf a a'' b b'' :=
  zGf.mk (fun r h => (G.fa r h).trans (F.fa r h)) (fun r h1 h2 => (G.fb r h1 h2).trans (F.fb r h1 h2)) (fun j h1 h2 h3 h4 h5 h6 h7 => (G.fj j h1 h2 h3 h4 h5 h6 h7).trans (F.fj j h1 h2 h3 h4 h5 h6 h7))
theorem k_leaf (G : zGw a b t N LL n (k + 1) (v + 1) C D k) (k0 : 0 ≤ k) (hk : b 117 k = 4 ∨ b 117 k = 6) (hv : b 137 k = v) (cp : v + zU1 a b k ≤ 481 ∧ C + zU1 a b k ≤ 300 ∧ D + zU1 a b k ≤ 300)
    (h : ∀ a' b' v' C' D', zGw a' b' t N LL n (k + 1) v' C' D' (k + 1) → v' ≤ v + zU1 a b k → C' ≤ C + zU1 a b k → D' ≤ D + zU1 a b k → zGf a a' b b' → (∀ Kf : qM → Prop, Kf b' → c_m_treesInline X k (q_up b 113 54 v) Kf) → K a') : c_T_copyLines X k a (fun s9 => c_Il_read X s9 (fun s10 => c_Tree_addInline X v s10 K)) := by
  obtain ⟨s1, s2, s3, s4⟩ := G.sz
  have G1 := G.cur (x := v)
  have f1 : ∀ r, r ≠ 113 → q_up b 113 54 v r = b r := fun r hr => q_up_ne hr
  have j1 : ∀ j, j ≠ 54 → q_up b 113 54 v 113 j = b 113 j := fun j hj => q_up_nj hj
  have e54 : q_up b 113 54 v 113 54 = v := q_up_at
  generalize q_up b 113 54 v = b1 at G1 f1 j1 e54 h
  have hk1 : b1 117 k = 4 ∨ b1 117 k = 6 := by rw [f1 117 (by decide)]; exact hk
  have hv1 : b1 137 k = v := by rw [f1 137 (by decide)]; exact hv
  have eu : zU1 a b1 k = zU1 a b k := by unfold zU1 zF; rw [f1 117 (by decide)]
  have o := G1.no k k0 (by omega)
  rw [hv1] at o
  refine k_inline G1.B k0 (by omega) hk1 G.r0 (fun a2 b2 m S p q H um fa fb fj W => sg_Tree_addInline ?_)
  rw [eu] at um
  generalize e3 : q_up b2 113 55 0 = b3
  have f3 : ∀ r, r ≠ 113 → b3 r = b2 r := fun r hr => by rw [← e3, q_up_ne hr]
  have j3 : ∀ j, j ≠ 55 → b3 113 j = b2 113 j := fun j hj => by rw [← e3, q_up_nj hj]
  have Tr : zTr a2 b3 (v + 1) C D := (G1.T.fra (fun r hr => fa r (by omega))).frb (fun r hr => by rw [f3 r (by omega), fb r (by omega) (by omega) (by omega)]) (by rw [j3 20 (by decide), fj 20 (by decide) (by decide) (by decide)]) (by rw [j3 51 (by decide), fj 51 (by decide) (by decide) (by decide)])
  have e131 : b3 131 v = b1 117 k := by rw [f3 131 (by decide), fb 131 (by decide) (by decide) (by omega)]; exact o.2.2.2.2.1
  have Z : zTn a2 b3 (v + 1) C D v v (-1) 0 (fun _ => v) := by
    refine zTn.mk Tr (by rw [j3 54 (by decide), fj 54 (by decide) (by decide) (by decide)]; exact e54) ⟨rfl, rfl, o.2.1⟩ (fun i _ => ⟨Int.le_refl v, by omega, by rw [e131]; omega⟩) (fun i hi => absurd hi (Nat.not_lt_zero i)) (fun i _ j u w => by omega) (fun j u w => by omega) (Or.inl ⟨rfl, fun z => ?_⟩)
    have y := z.1
    rw [show v + 1 - 1 = v by omega, e131] at y
    omega
  have Wz : zWs a2 b2 (v + 1) C D v a2 b3 (S 0) v (-1) 0 := by
    refine ⟨v + 1, C, D, (fun _ => v), Z, zWf.mk (fun _ _ => rfl) (fun r h1 _ _ _ => f3 r h1) (fun j _ _ _ h55 => j3 j h55) (fun i _ => ⟨by rw [f3 131 (by decide)], by rw [f3 132 (by decide)], by rw [f3 134 (by decide)], rfl, rfl⟩) (fun _ _ => rfl), ?_, Int.le_refl C, ?_, ?_⟩
    all_goals rw [H.Z.s0]; omega
  have p0 := H.Z.p0
  have run := H.pcs (X := X) (K := K) (V := v + 1) (C0 := C) (D0 := D) (lf := v) ⟨by omega, by omega, by omega⟩ p.toNat 0 (Int.le_refl 0) (by omega) a2 b3 v (-1) 0 Wz (by rw [zOc_zero q (Nat.le_refl q) (fun j hj => by have := H.Z.pr j hj; omega)]; rfl) (fun a3 b4 cur w d W4 M4 => ?_)
  · rw [H.Z.s0] at run; exact run
  · have fr := W4.fr
    obtain ⟨v', C', D', G4, u1, u2, u3⟩ := G1.walked k0 hk1 hv1 fa fb fj H.rz W4
    refine h a3 b4 v' C' D' G4 (by omega) (by omega) (by omega) (zGf.mk (fun r hr => ?_) (fun r x y => ?_) (fun j y1 y2 y3 y4 y5 y6 y7 => ?_)) (fun Kf hkf => sg_m_treesInline (W _ (fun s2 es2 => by rw [es2, e3]; exact M4 Kf hkf)))
    · rw [fr.1 r (by omega), fa r (by omega)]
    · rw [fr.2.1 r x (by omega) (by omega) (by omega), fb r x (by omega) (by omega), f1 r x]
    · rw [fr.2.2 j y1 y5 y6 y7, fj j y2 y3 y4, j1 j y6]
end LeafTree
