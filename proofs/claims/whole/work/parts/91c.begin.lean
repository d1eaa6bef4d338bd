/-! Printing: the beginning and the end of a node. -/
section Begin
variable {X : Nat × (Nat → Int32)} {a b a' a0 b0 g g' g0 g1 g0' g1' s : qM} {K : qM → Prop} {KI : Int → qM → Prop} {v C D N LL n k e x m : Int} {f t : Int → Int}
theorem k_p_kind (T : zTr a0 b0 v C D) (k0 : 0 ≤ k) (kv : k < v) (v2 : v ≤ 482) (fa : ∀ r, r < 84 ∨ 87 < r → a r = a0 r) (h : KI (b0 131 k) a) : c_Tree_kindOf X k a KI := by
  have t1 := T.sz.1
  have nd := (T.nd k k0 kv).1
  refine sg_Tree_kindOf (k_Row_at q_row_65 (by rw [fa 65 (by omega)]; omega) ?_)
  rw [zT_in k0 (by rw [fa 65 (by omega)]; omega), fa (65 + 1) (by omega), show a0 (65 + 1) k = b0 131 k from nd]; exact h
theorem k_p_parent (T : zTr a0 b0 v C D) (k0 : 0 ≤ k) (kv : k < v) (v2 : v ≤ 482) (fa : ∀ r, r < 84 ∨ 87 < r → a r = a0 r) (h : KI (b0 132 k) a) : c_Tree_parentOf X k a KI := by
  have t1 := T.sz.2.1
  have nd := (T.nd k k0 kv).2.1
  refine sg_Tree_parentOf (k_Row_at q_row_67 (by rw [fa 67 (by omega)]; omega) ?_)
  rw [zT_in k0 (by rw [fa 67 (by omega)]; omega), fa (67 + 1) (by omega), show a0 (67 + 1) k = b0 132 k from nd]; exact h
theorem k_p_sign (T : zTr a0 b0 v C D) (k0 : 0 ≤ k) (kv : k < v) (v2 : v ≤ 482) (fa : ∀ r, r < 84 ∨ 87 < r → a r = a0 r) (h : KI (a0 74 k) a) : c_Tree_signOf X k a KI := by
  have t1 := T.sz.2.2.2.2.1
  refine sg_Tree_signOf (k_Row_at q_row_73 (by rw [fa 73 (by omega)]; omega) ?_)
  rw [zT_in k0 (by rw [fa 73 (by omega)]; omega), fa (73 + 1) (by omega)]; exact h
theorem k_p_marked (T : zTr a0 b0 v C D) (k0 : 0 ≤ k) (kv : k < v) (v2 : v ≤ 482) (fa : ∀ r, r < 84 ∨ 87 < r → a r = a0 r) (h0 : b0 131 k = 8 ∨ b0 131 k = 7 → KI 0 a) (h1 : b0 131 k ≠ 8 → b0 131 k ≠ 7 → KI 1 a) : c_Printer_isMarked X k a KI := by
  refine sg_Printer_isMarked (k_p_kind T k0 kv v2 fa (z_c (fun e => h0 (Or.inl e)) (fun e => k_p_kind T k0 kv v2 fa (z_c (fun e2 => h0 (Or.inr e2)) (fun e2 => h1 e e2)))))
theorem k_begin (P : zPn a0 b0 a g0 g1) (G : zGw a0 b0 t N LL n n v C D n) (k0 : 0 ≤ k) (kv : k < v) (v2 : v ≤ 482) (C2 : C ≤ 481) (D2 : D ≤ 300) (s0 : a 84 1 + 2 + a0 78 k ≤ 1927) (s1 : a 86 1 + a0 78 k ≤ 1927)
    (h : ∀ a' g0' g1', zPn a0 b0 a' g0' g1' → a' 84 1 ≤ a 84 1 + 2 + a0 78 k → a' 86 1 ≤ a 86 1 + a0 78 k → (∀ Kf : qM → Prop, Kf g0' → c_m_givesBeginning X k 0 g0 Kf) → (∀ Kf : qM → Prop, Kf g1' → c_m_givesBeginning X k 1 g1 Kf) → K a') : c_Printer_begin X k a K := by
  have T := G.T
  have ct := T.ct k k0 kv
  have k9 : k < 900 := by omega
  obtain ⟨m1, m2, m3⟩ := P.m
  obtain ⟨p1, p2, p3⟩ := P.p
  have e131 : g0 131 k = b0 131 k := by rw [P.f0.1 131 (by decide) (by decide)]
  obtain ⟨g1', A1, W1⟩ := k_content (X := X) G k0 kv (by omega) D2 P.f1 (by omega) (by omega)
  have M1 : ∀ Kf : qM → Prop, Kf g1' → c_m_givesBeginning X k 1 g1 Kf := fun Kf hk =>
    sg_m_givesBeginning ⟨k0, k9, z_t (by decide) (k_cshape (by rw [P.f1.1 131 (by decide) (by decide)]) (P.f1.1 135 (by decide) (by decide)) k0 k9 (W1 Kf hk))⟩
  have fin : ∀ a' g0', zPn a0 b0 a' g0' g1 → a 84 1 ≤ a' 84 1 → a' 84 1 ≤ a 84 1 + 2 → a' 86 1 = a 86 1 → (∀ Kf : qM → Prop, zCt X b0 k g0' Kf → c_m_givesBeginning X k 0 g0 Kf) → L_Printer_begin_56 X k 0 a' K := by
    intro a' g0' P' l0 l1 l2 M
    obtain ⟨n1, n2, n3⟩ := P'.m
    obtain ⟨g0'', A0, W0⟩ := k_content (X := X) G k0 kv (by omega) D2 P'.f0 (by omega) (by omega)
    refine k_p_content T k0 kv v2 C2 P'.fa ⟨n2, by omega⟩ ⟨by omega, by omega⟩ (fun a'' fa z0 z1 w o0 o1 => ?_)
    exact h a'' g0'' g1' (P'.content fa z0 z1 w o0 o1 A0 A1) (by omega) (by omega) (fun Kf hk => M Kf (W0 Kf hk)) M1
  refine sg_Printer_begin (k_p_marked T k0 kv v2 P.fa (fun e => z_t rfl ?_) (fun n8 n7 => z_f (by decide) (k_p_kind T k0 kv v2 P.fa ⟨?_, ?_⟩)))
  · refine fin a g0 P (Int.le_refl _) (by omega) rfl (fun Kf c => sg_m_givesBeginning ⟨k0, k9, z_f (by decide) ?_⟩)
    have cs := k_cshape (s := g0) e131 (P.f0.1 135 (by decide) (by decide)) k0 k9 c
    exact z_c (fun _ => cs) (fun e8 => z_t (by omega) cs)
  · have nd := T.nd k k0 kv; omega
  · have nd := T.nd k k0 kv
    have tl := T.tl k k0 kv
    have sg := T.sg k k0 kv
    have st : ∀ (Kf : qM → Prop), c_m_gives X (1000 + b0 131 k) g0 (fun s4 => ((g0 131 k ≠ 4 → (g0 131 k ≠ 2 → (g0 131 k ≠ 12 → zCt X b0 k s4 Kf) ∧ (¬ (g0 131 k ≠ 12) → 0 ≤ s4 136 k ∧ s4 136 k < 600 ∧ (s4 117 (s4 136 k) ≠ 7 → c_m_ahead X (s4 136 k) s4 (fun r7 s6 => (-2147483648 ≤ (400 + r7) ∧ (400 + r7) < 2147483648) ∧ c_m_gives X (400 + r7) s6 (fun s8 => zCt X b0 k s8 Kf ∧ s8 135 = b0 135))) ∧ (¬ (s4 117 (s4 136 k) ≠ 7) → c_m_ahead X (s4 136 k) s4 (fun r11 s10 => (-2147483648 ≤ (300 + r11) ∧ (300 + r11) < 2147483648) ∧ c_m_gives X (300 + r11) s10 (fun s12 => zCt X b0 k s12 Kf ∧ s12 135 = b0 135))))) ∧ (¬ (g0 131 k ≠ 2) → c_m_gives X (s4 134 k) s4 (fun s14 => zCt X b0 k s14 Kf ∧ s14 135 = b0 135))) ∧ (¬ (g0 131 k ≠ 4) → c_m_gives X (100 + (s4 134 k)) s4 (fun s16 => zCt X b0 k s16 Kf ∧ s16 135 = b0 135))) ∧ s4 135 = b0 135 ∧ ((-2147483648 ≤ (100 + (s4 134 k)) ∧ (100 + (s4 134 k)) < 2147483648) ∨ b0 131 k ≠ 4)) → c_m_givesBeginning X k 0 g0 Kf := by
      intro Kf hh
      refine sg_m_givesBeginning ⟨k0, k9, z_f (by decide) (z_f (by omega) (z_f (by omega) ⟨by omega, ?_⟩))⟩
      rw [show (1000 + g0 131 k) = 1000 + b0 131 k by rw [e131]]
      refine z_mV hh (fun s4 h4 => ?_)
      obtain ⟨⟨h41, h42⟩, h43, h44⟩ := h4
      refine ⟨fun z4 => ?_, fun z4 => ⟨k0, k9, ?_, z_mV (h42 z4) (fun s q => k_cshape e131 q.2 k0 k9 q.1)⟩⟩
      · obtain ⟨h5, h6⟩ := h41 z4
        refine ⟨fun z2 => ?_, fun z2 => ⟨k0, k9, z_mV (h6 z2) (fun s q => k_cshape e131 q.2 k0 k9 q.1)⟩⟩
        obtain ⟨h7, h8⟩ := h5 z2
        refine ⟨fun z12 => k_cshape e131 h43 k0 k9 (h7 z12), fun z12 => ?_⟩
        obtain ⟨r1, r2, h9, h10⟩ := h8 z12
        refine ⟨k0, k9, r1, r2, fun z7 => z_mI (h9 z7) (fun r s q => ⟨q.1, z_mV q.2 (fun s q => k_cshape e131 q.2 k0 k9 q.1)⟩), fun z7 => z_mI (h10 z7) (fun r s q => ⟨q.1, z_mV q.2 (fun s q => k_cshape e131 q.2 k0 k9 q.1)⟩)⟩
      · rcases h44 with z | z
        · exact z
        · omega
    refine P.add0 (by omega) (fun a1 g01 P1 l0 l1 M0 => k_p_sign T k0 kv v2 P1.fa ?_)
    obtain ⟨n1, n2, n3⟩ := P1.m
    have q134 : g01 134 = b0 134 := P1.f0.1 134 (by decide) (by decide)
    have q135 : g01 135 = b0 135 := P1.f0.1 135 (by decide) (by decide)
    have q136 : g01 136 = b0 136 := P1.f0.1 136 (by decide) (by decide)
    have q117 : g01 117 = b0 117 := P1.f0.1 117 (by decide) (by decide)
    -- one number more
    have more : ∀ x, x = a0 74 k → x ≠ -1 → (∀ g2, zPn a0 b0 a1 g01 g1 → (∀ Kf : qM → Prop, Kf g2 → c_m_gives X x g01 Kf) → g2 135 = b0 135 → ∀ Kf : qM → Prop, zCt X b0 k g2 Kf → c_m_givesBeginning X k 0 g0 Kf) → ((a0 74 k = -1) → L_Printer_begin_56 X k 0 a1 K) ∧ (¬ (a0 74 k = -1) → c_Tree_signOf X k a1 (fun r9 s8 => c_Row_add X 84 r9 s8 (fun s10 => L_Printer_begin_56 X k 0 s10 K))) := by
      intro x ex hx hm
      refine z_f (by omega) (k_p_sign T k0 kv v2 P1.fa (P1.add0 (by omega) (fun a2 g2 P2 j0 j1 M2 => ?_)))
      rw [← ex] at M2
      exact fin a2 g2 P2 (by omega) (by omega) (by omega) (hm g2 P1 M2 (P2.f0.1 135 (by decide) (by decide)))
    by_cases k4 : b0 131 k = 4
    · have s4 := sg.1 k4
      have b3 := tl.2 k4
      refine more (100 + b0 134 k) s4.symm (by omega) (fun g2 _ M2 e2 Kf c => st Kf (M0 _ ⟨z_f (by omega) ?_, q135, Or.inl (by rw [q134]; omega)⟩))
      rw [q134]; exact M2 _ ⟨c, e2⟩
    by_cases k2 : b0 131 k = 2
    · have s2 := sg.2.1 k2
      refine more (b0 134 k) s2.symm (by omega) (fun g2 _ M2 e2 Kf c => st Kf (M0 _ ⟨z_t (by omega) (z_f (by omega) ?_), q135, Or.inr k4⟩))
      rw [q134]; exact M2 _ ⟨c, e2⟩
    by_cases k12 : b0 131 k = 12
    · have lk := sg.2.2.1 k12
      have n2' := G.B.cap
      rcases lk with ⟨b7, i, i0, ir, ei, es⟩ | ⟨b4, i, i0, ir, ei, es⟩
      · have ls := G.B.nd.ls i i0 ir
        rw [show a0 (37 + 1) i = a0 38 i from rfl, ei] at ls
        refine more (300 + i) es.symm (by omega) (fun g2 _ M2 e2 Kf c => st Kf (M0 _ ⟨z_t (by omega) (z_t (by omega) (z_f (by omega) ?_)), q135, Or.inr k4⟩))
        rw [q136, q117]
        have nl := G.B.nl
        have n1' := G.B.n1
        refine ⟨ls.1, by omega, z_f (by omega) (k_m_ahead G.B.nd (by omega) q117 i0 ir ei ⟨by omega, M2 _ ⟨c, e2⟩⟩)⟩
      · have ls := G.B.nh.ls i i0 ir
        rw [show a0 (41 + 1) i = a0 42 i from rfl, ei] at ls
        refine more (400 + i) es.symm (by omega) (fun g2 _ M2 e2 Kf c => st Kf (M0 _ ⟨z_t (by omega) (z_t (by omega) (z_f (by omega) ?_)), q135, Or.inr k4⟩))
        rw [q136, q117]
        have nl := G.B.nl
        have n1' := G.B.n1
        have ln := G.B.ln.2.1
        refine ⟨ls.1, by omega, z_t (by omega) (k_m_ahead G.B.nh (by omega) q117 i0 ir ei ⟨by omega, M2 _ ⟨c, e2⟩⟩)⟩
    · have so := sg.2.2.2 k2 k4 k12
      exact z_t so (fin a1 g01 P1 (by omega) (by omega) (by omega) (fun Kf c => st Kf (M0 _ ⟨z_t (by omega) (z_t (by omega) (z_t (by omega) c)), q135, Or.inr k4⟩)))
/-- the end of node k -/
theorem k_end {p v4 : Int} (P : zPn a0 b0 a g0 g1) (T : zTr a0 b0 v C D) (k0 : 0 ≤ k) (kv : k < v) (v2 : v ≤ 482) (s0 : a 84 1 < 1927) (s1 : a 86 1 < 1927) (c0 : 0 ≤ v4) (c2 : v4 < 482) (ne : k ≠ p)
    (h : ∀ a' g0' g1', zPn a0 b0 a' g0' g1' → a' 84 1 ≤ a 84 1 + 1 → a' 86 1 ≤ a 86 1 + 1 → (∀ Kf : qM → Prop, Kf g0' → c_m_givesEnd X k 0 g0 Kf) → (∀ Kf : qM → Prop, Kf g1' → c_m_givesEnd X k 1 g1 Kf) → L_Printer_endUpTo_5 X p (b0 132 k) (v4 + 1) a' K) : L_Printer_endUpTo_5 X p k v4 a K := by
  have k9 : k < 900 := by omega
  have nd := T.nd k k0 kv
  have e131 : g0 131 k = b0 131 k := by rw [P.f0.1 131 (by decide) (by decide)]
  have f131 : g1 131 k = b0 131 k := by rw [P.f1.1 131 (by decide) (by decide)]
  -- the plain half
  have plain : ∀ a' g0', zPn a0 b0 a' g0' g1 → a' 84 1 ≤ a 84 1 + 1 → a' 86 1 = a 86 1 → (∀ Kf : qM → Prop, Kf g0' → c_m_givesEnd X k 0 g0 Kf) → L_Printer_endUpTo_45 X p k v4 a' K := by
    intro a' g0' P' l0 l1 M0
    have M : ∀ g1' : qM, ((b0 131 k = 6 ∨ b0 131 k = 4) → ∀ Kf : qM → Prop, Kf g1' → c_m_gives X 10 g1 Kf) → (¬ (b0 131 k = 6 ∨ b0 131 k = 4) → g1' = g1) → ∀ Kf : qM → Prop, Kf g1' → c_m_givesEnd X k 1 g1 Kf := by
      intro g1' y n Kf hk
      refine sg_m_givesEnd ⟨k0, k9, z_t (by decide) (z_f (by decide) ?_)⟩
      rw [f131]
      refine z_c (fun e6 => y (Or.inl e6) _ hk) (fun n6 => z_c (fun n4 => ?_) (fun e4 => y (Or.inr (Decidable.not_not.mp e4)) _ hk))
      rw [← n (fun z => z.elim n6 n4)]; exact hk
    refine sg_Printer_endUpTo_45 (k_p_kind T k0 kv v2 P'.fa (z_c (fun e6 => ?_) (fun n6 => k_p_kind T k0 kv v2 P'.fa (z_c (fun n4 => ?_) (fun e4 => ?_)))))
    · refine P'.add1 (by omega) (fun a2 g1' P2 j0 j1 M2 => k_p_parent T k0 kv v2 P2.fa ⟨by omega, ?_⟩)
      exact h a2 g0' g1' P2 (by omega) (by omega) M0 (M g1' (fun _ => M2) (fun z => absurd (Or.inl e6) z))
    · refine k_p_parent T k0 kv v2 P'.fa ⟨by omega, ?_⟩
      exact h a' g0' g1 P' l0 (by omega) M0 (M g1 (fun z => (z.elim n6 n4).elim) (fun _ => rfl))
    · have e4 := Decidable.not_not.mp e4
      refine P'.add1 (by omega) (fun a2 g1' P2 j0 j1 M2 => k_p_parent T k0 kv v2 P2.fa ⟨by omega, ?_⟩)
      exact h a2 g0' g1' P2 (by omega) (by omega) M0 (M g1' (fun _ => M2) (fun z => absurd (Or.inr e4) z))
  refine sg_Printer_endUpTo_5 (z_f (by omega) (z_f ne (k_p_marked T k0 kv v2 P.fa (fun e => z_t rfl ?_) (fun n8 n7 => z_f (by decide) (k_p_kind T k0 kv v2 P.fa ⟨by omega, ?_⟩)))))
  · refine plain a g0 P (by omega) rfl (fun Kf hk => sg_m_givesEnd ⟨k0, k9, z_f (by decide) ?_⟩)
    exact z_c (fun _ => z_t (by decide) hk) (fun e8 => z_t (by omega) (z_t (by decide) hk))
  · refine P.add0 (by omega) (fun a1 g01 P1 l0 l1 M0 => plain a1 g01 P1 (by omega) l1 (fun Kf hk => sg_m_givesEnd ⟨k0, k9, z_f (by decide) (z_f (by omega) (z_f (by omega) ⟨by omega, ?_⟩))⟩))
    rw [e131]; exact M0 Kf hk
end Begin
