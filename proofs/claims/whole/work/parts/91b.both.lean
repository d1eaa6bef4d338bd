/-! Printing: the class to both targets at once, the model to each. -/
/-- a0 and b0 behind the trees; a the class's store; g0, g1 the model's for the two targets -/
def zPn (a0 b0 a g0 g1 : qM) : Prop := (∀ r, r < 84 ∨ 87 < r → a r = a0 r) ∧ ((∀ r, r ≠ 113 → r ≠ 151 → g0 r = b0 r) ∧ ∀ j, j ≠ 45 → g0 113 j = b0 113 j) ∧ ((∀ r, r ≠ 113 → r ≠ 151 → g1 r = b0 r) ∧ ∀ j, j ≠ 45 → g1 113 j = b0 113 j) ∧ (a 84 1 = g0 113 45 ∧ 0 ≤ a 84 1 ∧ ∀ i, 0 ≤ i → i < a 84 1 → a 85 i = g0 151 i) ∧ (a 86 1 = g1 113 45 ∧ 0 ≤ a 86 1 ∧ ∀ i, 0 ≤ i → i < a 86 1 → a 87 i = g1 151 i)
theorem zPn.mk {a0 b0 a g0 g1 : qM} (fa : ∀ r, r < 84 ∨ 87 < r → a r = a0 r) (f0 : (∀ r, r ≠ 113 → r ≠ 151 → g0 r = b0 r) ∧ ∀ j, j ≠ 45 → g0 113 j = b0 113 j) (f1 : (∀ r, r ≠ 113 → r ≠ 151 → g1 r = b0 r) ∧ ∀ j, j ≠ 45 → g1 113 j = b0 113 j) (m : a 84 1 = g0 113 45 ∧ 0 ≤ a 84 1 ∧ ∀ i, 0 ≤ i → i < a 84 1 → a 85 i = g0 151 i) (p : a 86 1 = g1 113 45 ∧ 0 ≤ a 86 1 ∧ ∀ i, 0 ≤ i → i < a 86 1 → a 87 i = g1 151 i) : zPn a0 b0 a g0 g1 := ⟨fa, f0, f1, m, p⟩
theorem zPn.fa {a0 b0 a g0 g1 : qM} (h : zPn a0 b0 a g0 g1) : ∀ r, r < 84 ∨ 87 < r → a r = a0 r := h.1
theorem zPn.f0 {a0 b0 a g0 g1 : qM} (h : zPn a0 b0 a g0 g1) : (∀ r, r ≠ 113 → r ≠ 151 → g0 r = b0 r) ∧ ∀ j, j ≠ 45 → g0 113 j = b0 113 j := h.2.1
theorem zPn.f1 {a0 b0 a g0 g1 : qM} (h : zPn a0 b0 a g0 g1) : (∀ r, r ≠ 113 → r ≠ 151 → g1 r = b0 r) ∧ ∀ j, j ≠ 45 → g1 113 j = b0 113 j := h.2.2.1
theorem zPn.m {a0 b0 a g0 g1 : qM} (h : zPn a0 b0 a g0 g1) : a 84 1 = g0 113 45 ∧ 0 ≤ a 84 1 ∧ ∀ i, 0 ≤ i → i < a 84 1 → a 85 i = g0 151 i := h.2.2.2.1
theorem zPn.p {a0 b0 a g0 g1 : qM} (h : zPn a0 b0 a g0 g1) : a 86 1 = g1 113 45 ∧ 0 ≤ a 86 1 ∧ ∀ i, 0 ≤ i → i < a 86 1 → a 87 i = g1 151 i := h.2.2.2.2
/-- what the model gives of a node's content -/
def zCt (X : Nat × (Nat → Int32)) (b0 : qM) (k : Int) (g : qM) (Kf : qM → Prop) : Prop := ((b0 131 k = 8 ∨ b0 131 k = 11) → L_m_givesBeginning_132 X k 0 g Kf) ∧ (b0 131 k = 5 → c_m_givesLines X (b0 135 k) g Kf) ∧ (b0 131 k ≠ 8 → b0 131 k ≠ 11 → b0 131 k ≠ 5 → Kf g)
section Both
variable {X : Nat × (Nat → Int32)} {a b a' a0 b0 g g' g0 g1 g0' g1' s : qM} {K : qM → Prop} {KI : Int → qM → Prop} {v C D N LL n k e x m : Int} {f t : Int → Int}
theorem zPn.add0 (P : zPn a0 b0 a g0 g1) (hs : a 84 1 < 1927) (h : ∀ a' g0', zPn a0 b0 a' g0' g1 → a' 84 1 = a 84 1 + 1 → a' 86 1 = a 86 1 → (∀ Kf : qM → Prop, Kf g0' → c_m_gives X x g0 Kf) → K a') : c_Row_add X 84 x a K := by
  obtain ⟨m1, m2, m3⟩ := P.m
  obtain ⟨g', A, W⟩ := z_1V (k_m_give (X := X) (x := x) (g := g0) (K := fun g' => zGv g0 g' 1 (fun _ => x)) (by omega) (by omega) (fun g' A => A))
  refine k_Row_add q_row_84 m2 hs ?_
  generalize e : q_up (q_up a (84 + 1) (a 84 1) x) 84 1 (a 84 1 + 1) = a'
  have fa : ∀ r, r ≠ 84 → r ≠ 85 → a' r = a r := fun r u w => by rw [← e, q_up_ne u, q_up_ne w]
  have e84 : a' 84 1 = a 84 1 + 1 := by rw [← e, q_up_at]
  have e85 : a' 85 = q_u (a 85) (a 84 1) x := by rw [← e, q_up_ne (by decide), q_up_fn]
  refine h a' g' (zPn.mk (fun r hr => (fa r (by omega) (by omega)).trans (P.fa r hr)) ⟨fun r u w => (A.fr r u w).trans (P.f0.1 r u w), fun j u => (A.fj j u).trans (P.f0.2 j u)⟩ P.f1 ⟨?_, by omega, fun i u w => ?_⟩ (by rw [fa 86 (by decide) (by decide), fa 87 (by decide) (by decide)]; exact P.p)) e84 (by rw [fa 86 (by decide) (by decide)]) W
  · rw [e84, A.n, m1]
  · rw [e85]
    by_cases z : i = a 84 1
    · have y := A.w 0 (by decide) (by decide)
      rw [z, q_u_at, m1, ← y, Int.add_zero]
    · rw [q_u_ne z, A.o i (by omega)]; exact m3 i u (by omega)
theorem zPn.add1 (P : zPn a0 b0 a g0 g1) (hs : a 86 1 < 1927) (h : ∀ a' g1', zPn a0 b0 a' g0 g1' → a' 84 1 = a 84 1 → a' 86 1 = a 86 1 + 1 → (∀ Kf : qM → Prop, Kf g1' → c_m_gives X x g1 Kf) → K a') : c_Row_add X 86 x a K := by
  obtain ⟨m1, m2, m3⟩ := P.p
  obtain ⟨g', A, W⟩ := z_1V (k_m_give (X := X) (x := x) (g := g1) (K := fun g' => zGv g1 g' 1 (fun _ => x)) (by omega) (by omega) (fun g' A => A))
  refine k_Row_add q_row_86 m2 hs ?_
  generalize e : q_up (q_up a (86 + 1) (a 86 1) x) 86 1 (a 86 1 + 1) = a'
  have fa : ∀ r, r ≠ 86 → r ≠ 87 → a' r = a r := fun r u w => by rw [← e, q_up_ne u, q_up_ne w]
  have e86 : a' 86 1 = a 86 1 + 1 := by rw [← e, q_up_at]
  have e87 : a' 87 = q_u (a 87) (a 86 1) x := by rw [← e, q_up_ne (by decide), q_up_fn]
  refine h a' g' (zPn.mk (fun r hr => (fa r (by omega) (by omega)).trans (P.fa r hr)) P.f0 ⟨fun r u w => (A.fr r u w).trans (P.f1.1 r u w), fun j u => (A.fj j u).trans (P.f1.2 j u)⟩ (by rw [fa 84 (by decide) (by decide), fa 85 (by decide) (by decide)]; exact P.m) ⟨?_, by omega, fun i u w => ?_⟩) (by rw [fa 84 (by decide) (by decide)]) e86 W
  · rw [e86, A.n, m1]
  · rw [e87]
    by_cases z : i = a 86 1
    · have y := A.w 0 (by decide) (by decide)
      rw [z, q_u_at, m1, ← y, Int.add_zero]
    · rw [q_u_ne z, A.o i (by omega)]; exact m3 i u (by omega)
/-- the content of a node, in both -/
theorem k_content (G : zGw a0 b0 t N LL n n v C D n) (k0 : 0 ≤ k) (kv : k < v) (v2 : v ≤ 900) (D2 : D ≤ 300) (f0 : (∀ r, r ≠ 113 → r ≠ 151 → g r = b0 r) ∧ ∀ j, j ≠ 45 → g 113 j = b0 113 j) (h0 : 0 ≤ g 113 45) (hc : g 113 45 + a0 78 k ≤ 3000) : ∃ g', zGv g g' (a0 78 k) (fun j => a0 80 (a0 76 k + j)) ∧ ∀ Kf : qM → Prop, Kf g' → zCt X b0 k g Kf := by
  obtain ⟨c1, c2, c3, c4, c5⟩ := G.T.ct k k0 kv
  by_cases k8 : b0 131 k = 8 ∨ b0 131 k = 11
  · obtain ⟨d1, d2, d3, d4⟩ := c4 k8
    obtain ⟨g', A, W⟩ := z_1V (k_m_pool (X := X) (b := b0) (g := g) (k := k) (f := fun j => a0 80 (a0 76 k + j)) (K := fun g' => zGv g g' (b0 134 k) (fun j => a0 80 (a0 76 k + j))) h0 (by omega) (by omega) k0 (by omega) f0.1 d2 (by omega) (fun j u w => (d4 j u w).symm) (fun g' A => A))
    exact ⟨g', by rw [d1]; exact A, fun Kf hk => ⟨fun _ => W Kf hk, fun z => by omega, fun y z _ => by omega⟩⟩
  · by_cases k5 : b0 131 k = 5
    · have nb := G.nb k k0 kv
      have nb1 : b0 131 k ≤ 7 ∧ 0 ≤ b0 135 k ∧ b0 135 k < n ∧ b0 137 (b0 135 k) = k := by
        rcases nb with z | z
        · exact z
        · have := z.1; omega
      obtain ⟨_, q1, q2, q3⟩ := nb1
      have o := (G.no _ q1 q2).2.2.2.2.1
      rw [q3, k5] at o
      have F := G.fe _ q1 q2 o.symm
      rw [q3] at F
      obtain ⟨F1, F2⟩ := F
      obtain ⟨g', A, W⟩ := z_1V (k_m_lines (X := X) (g := g) (f := fun j => a0 80 (a0 76 k + j)) (K := fun g' => zGv g g' (zU1 a0 b0 (b0 135 k)) (fun j => a0 80 (a0 76 k + j))) G.B q1 q2 o.symm h0 (by omega) f0.1 f0.2 (fun e he => by
        have h := F2 e he
        refine ⟨fun x u w => ?_, ?_⟩
        · rw [← Int.add_assoc]; exact h.1 x u w
        · rw [← Int.add_assoc]; exact h.2) (fun g' A => A))
      exact ⟨g', by rw [F1]; exact A, fun Kf hk => ⟨fun z => absurd z k8, fun _ => W Kf hk, fun _ _ z => absurd k5 z⟩⟩
    · have z := c5 k5 (fun y => k8 (Or.inl y)) (fun y => k8 (Or.inr y))
      exact ⟨g, by rw [z]; exact zGv.zero, fun Kf hk => ⟨fun y => absurd y k8, fun y => absurd y k5, fun _ _ _ => hk⟩⟩
theorem k_cshape {Kf : qM → Prop} (e131 : s 131 k = b0 131 k) (e135 : g 135 = b0 135) (k0 : 0 ≤ k) (k9 : k < 900) (c : zCt X b0 k g Kf) : (((s 131 k) = 8) → L_m_givesBeginning_132 X k 0 g Kf) ∧ (¬ ((s 131 k) = 8) → ((((s 131 k) ≠ 11) → ((((s 131 k) ≠ 5) → Kf g) ∧ (¬ ((s 131 k) ≠ 5) → ((0 : Int) ≤ k) ∧ (k < (900 : Int)) ∧ c_m_givesLines X (g 135 k) g (fun s1 => Kf s1)))) ∧ (¬ ((s 131 k) ≠ 11) → L_m_givesBeginning_132 X k 0 g Kf))) := by
  rw [e131, e135]
  refine ⟨fun z => c.1 (Or.inl z), fun z => ⟨fun y => ⟨fun w => c.2.2 z y w, fun w => ⟨k0, k9, c.2.1 (Decidable.not_not.mp w)⟩⟩, fun y => c.1 (Or.inr (Decidable.not_not.mp y))⟩⟩
/-- the class's loop over a node's content -/
theorem k_p_content (T : zTr a0 b0 v C D) (k0 : 0 ≤ k) (kv : k < v) (v2 : v ≤ 482) (C2 : C ≤ 481) (fa : ∀ r, r < 84 ∨ 87 < r → a r = a0 r) (s0 : 0 ≤ a 84 1 ∧ a 84 1 + a0 78 k ≤ 1927) (s1 : 0 ≤ a 86 1 ∧ a 86 1 + a0 78 k ≤ 1927)
    (h : ∀ a', (∀ r, r < 84 ∨ 87 < r → a' r = a0 r) → a' 84 1 = a 84 1 + a0 78 k → a' 86 1 = a 86 1 + a0 78 k → (∀ j, 0 ≤ j → j < a0 78 k → a' 85 (a 84 1 + j) = a0 80 (a0 76 k + j) ∧ a' 87 (a 86 1 + j) = a0 80 (a0 76 k + j)) → (∀ i, i < a 84 1 → a' 85 i = a 85 i) → (∀ i, i < a 86 1 → a' 87 i = a 87 i) → K a') : L_Printer_begin_56 X k 0 a K := by
  obtain ⟨t1, t2, t3, t4, t5, t6, t7, t8, t9, t10, t11, t12, t13⟩ := T.sz
  obtain ⟨c1, c2, c3, c4, c5⟩ := T.ct k k0 kv
  have Lp : ∀ (c : Nat) (j : Int) (a1 : qM), j + c = a0 78 k → 0 ≤ j → (∀ r, r < 84 ∨ 87 < r → a1 r = a0 r) → a1 84 1 = a 84 1 + j → a1 86 1 = a 86 1 + j → (∀ i, 0 ≤ i → i < j → a1 85 (a 84 1 + i) = a0 80 (a0 76 k + i) ∧ a1 87 (a 86 1 + i) = a0 80 (a0 76 k + i)) → (∀ i, i < a 84 1 → a1 85 i = a 85 i) → (∀ i, i < a 86 1 → a1 87 i = a 87 i) → L_Printer_begin_56 X k j a1 K := by
    intro c
    induction c with
    | zero =>
      intro j a1 hj j0 f1 z0 z1 w o0 o1
      have ej : j = a0 78 k := by omega
      refine sg_Printer_begin_56 (sg_Tree_contentSizeOf (k_Row_at q_row_77 (by rw [f1 77 (by omega)]; omega) ?_))
      rw [zT_in k0 (by rw [f1 77 (by omega)]; omega), f1 (77 + 1) (by omega), show a0 (77 + 1) k = a0 78 k from rfl]
      exact z_t (by omega) (h a1 f1 (by rw [← ej]; exact z0) (by rw [← ej]; exact z1) (by rw [← ej]; exact w) o0 o1)
    | succ c ih =>
      intro j a1 hj j0 f1 z0 z1 w o0 o1
      refine sg_Printer_begin_56 (sg_Tree_contentSizeOf (k_Row_at q_row_77 (by rw [f1 77 (by omega)]; omega) ?_))
      rw [zT_in k0 (by rw [f1 77 (by omega)]; omega), f1 (77 + 1) (by omega), show a0 (77 + 1) k = a0 78 k from rfl]
      refine z_f (by omega) ?_
      have rd : ∀ (a2 : qM) (F : Int → qM → Prop), (∀ r, r < 84 ∨ 87 < r → a2 r = a0 r) → F (a0 80 (a0 76 k + j)) a2 → c_Tree_contentOf X k j a2 F := by
        intro a2 F f2 hF
        refine sg_Tree_contentOf (k_Row_at q_row_75 (by rw [f2 75 (by omega)]; omega) ?_)
        rw [zT_in k0 (by rw [f2 75 (by omega)]; omega), f2 (75 + 1) (by omega), show a0 (75 + 1) k = a0 76 k from rfl]
        refine ⟨by omega, k_Row_at q_row_79 (by rw [f2 79 (by omega)]; omega) ?_⟩
        rw [zT_in (by omega) (by rw [f2 79 (by omega)]; omega), f2 (79 + 1) (by omega)]; exact hF
      refine rd a1 _ f1 (k_Row_add q_row_84 (by omega) (by omega) ?_)
      rw [z0]
      generalize e2 : q_up (q_up a1 (84 + 1) (a 84 1 + j) (a0 80 (a0 76 k + j))) 84 1 (a 84 1 + j + 1) = a2
      have f2 : ∀ r, r ≠ 84 → r ≠ 85 → a2 r = a1 r := fun r u w => by rw [← e2, q_up_ne u, q_up_ne w]
      have g84 : a2 84 1 = a 84 1 + j + 1 := by rw [← e2, q_up_at]
      have g85 : a2 85 = q_u (a1 85) (a 84 1 + j) (a0 80 (a0 76 k + j)) := by rw [← e2, q_up_ne (by decide), q_up_fn]
      refine rd a2 _ (fun r hr => (f2 r (by omega) (by omega)).trans (f1 r hr)) (k_Row_add q_row_86 (by rw [f2 86 (by decide) (by decide)]; omega) (by rw [f2 86 (by decide) (by decide)]; omega) ?_)
      rw [f2 86 (by decide) (by decide), z1]
      generalize e3 : q_up (q_up a2 (86 + 1) (a 86 1 + j) (a0 80 (a0 76 k + j))) 86 1 (a 86 1 + j + 1) = a3
      have f3 : ∀ r, r ≠ 86 → r ≠ 87 → a3 r = a2 r := fun r u w => by rw [← e3, q_up_ne u, q_up_ne w]
      have g86 : a3 86 1 = a 86 1 + j + 1 := by rw [← e3, q_up_at]
      have g87 : a3 87 = q_u (a1 87) (a 86 1 + j) (a0 80 (a0 76 k + j)) := by rw [← e3, q_up_ne (by decide), q_up_fn, f2 (86 + 1) (by decide) (by decide)]
      have h85 : a3 85 = q_u (a1 85) (a 84 1 + j) (a0 80 (a0 76 k + j)) := by rw [f3 85 (by decide) (by decide)]; exact g85
      refine ⟨by omega, ih (j + 1) a3 (by omega) (by omega) (fun r hr => by rw [f3 r (by omega) (by omega), f2 r (by omega) (by omega)]; exact f1 r hr) (by rw [f3 84 (by decide) (by decide), g84]; omega) (by rw [g86]; omega) (fun i u y => ?_) (fun i u => by rw [h85, q_u_ne (by omega)]; exact o0 i u) (fun i u => by rw [g87, q_u_ne (by omega)]; exact o1 i u)⟩
      rw [h85, g87]
      by_cases z : i = j
      · rw [z, q_u_at, q_u_at]; exact ⟨rfl, rfl⟩
      · rw [q_u_ne (by omega), q_u_ne (by omega)]; exact w i u (by omega)
  exact Lp (a0 78 k).toNat 0 a (by omega) (Int.le_refl 0) fa (Int.add_zero _).symm (Int.add_zero _).symm (fun i u w => by omega) (fun _ _ => rfl) (fun _ _ => rfl)
theorem zPn.content (P : zPn a0 b0 a g0 g1) (fa : ∀ r, r < 84 ∨ 87 < r → a' r = a0 r) (z0 : a' 84 1 = a 84 1 + m) (z1 : a' 86 1 = a 86 1 + m) (w : ∀ j, 0 ≤ j → j < m → a' 85 (a 84 1 + j) = f j ∧ a' 87 (a 86 1 + j) = f j) (o0 : ∀ i, i < a 84 1 → a' 85 i = a 85 i) (o1 : ∀ i, i < a 86 1 → a' 87 i = a 87 i) (A0 : zGv g0 g0' m f) (A1 : zGv g1 g1' m f) : zPn a0 b0 a' g0' g1' := by
  obtain ⟨m1, m2, m3⟩ := P.m
  obtain ⟨p1, p2, p3⟩ := P.p
  have m0 := A0.m0
  refine zPn.mk fa ⟨fun r u w => (A0.fr r u w).trans (P.f0.1 r u w), fun j u => (A0.fj j u).trans (P.f0.2 j u)⟩ ⟨fun r u w => (A1.fr r u w).trans (P.f1.1 r u w), fun j u => (A1.fj j u).trans (P.f1.2 j u)⟩ ⟨by rw [z0, A0.n, m1], by omega, fun i u y => ?_⟩ ⟨by rw [z1, A1.n, p1], by omega, fun i u y => ?_⟩
  · by_cases z : i < a 84 1
    · rw [o0 i z, A0.o i (by omega)]; exact m3 i u z
    · have h1 := (w (i - a 84 1) (by omega) (by omega)).1
      have h2 := A0.w (i - a 84 1) (by omega) (by omega)
      rw [show a 84 1 + (i - a 84 1) = i by omega] at h1
      rw [show g0 113 45 + (i - a 84 1) = i by omega] at h2
      rw [h1, h2]
  · by_cases z : i < a 86 1
    · rw [o1 i z, A1.o i (by omega)]; exact p3 i u z
    · have h1 := (w (i - a 86 1) (by omega) (by omega)).2
      have h2 := A1.w (i - a 86 1) (by omega) (by omega)
      rw [show a 86 1 + (i - a 86 1) = i by omega] at h1
      rw [show g1 113 45 + (i - a 86 1) = i by omega] at h2
      rw [h1, h2]
end Both
