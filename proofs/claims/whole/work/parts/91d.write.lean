/-! Printing: the whole tree. -/
section Write
variable {X : Nat × (Nat → Int32)} {a b a' a0 b0 g g' g0 g1 g0' g1' s : qM} {K : qM → Prop} {v C D N LL n k e x m p Bd : Int} {t dep : Int → Int}
theorem zTr.dpt (T : zTr a b v C D) : ∀ m : Nat, (m : Int) ≤ v → ∃ dep : Int → Int, dep (-1) = 0 ∧ ∀ i : Int, 0 ≤ i → i < m → dep i = dep (b 132 i) + 1 ∧ 1 ≤ dep i ∧ dep i ≤ i + 1 := by
  intro m
  induction m with
  | zero => intro _; exact ⟨fun _ => 0, rfl, fun i u w => by omega⟩
  | succ m ih =>
    intro hm
    obtain ⟨dep, d0, d1⟩ := ih (by omega)
    have nd := T.nd m (by omega) (by omega)
    have z0 := nd.2.2.2.2.2.2.1
    have z1 := nd.2.2.2.2.2.2.2.1
    have par : b 132 m = -1 ∨ (0 ≤ b 132 m ∧ b 132 m < m) := by
      by_cases z : (m : Int) = 0
      · exact Or.inl (z0 z)
      · exact Or.inr (z1 (by omega))
    have dp : 0 ≤ dep (b 132 m) ∧ dep (b 132 m) ≤ m := by
      rcases par with z | z
      · rw [z, d0]; omega
      · have := d1 _ z.1 z.2; omega
    refine ⟨fun i => if i = (m : Int) then dep (b 132 m) + 1 else dep i, if_neg (by omega) |>.trans d0, fun i i0 im => ?_⟩
    show (if i = (m : Int) then dep (b 132 m) + 1 else dep i) = (if b 132 i = (m : Int) then dep (b 132 m) + 1 else dep (b 132 i)) + 1 ∧ 1 ≤ (if i = (m : Int) then dep (b 132 m) + 1 else dep i) ∧ (if i = (m : Int) then dep (b 132 m) + 1 else dep i) ≤ i + 1
    by_cases z : i = (m : Int)
    · rw [z, if_pos rfl, if_neg (show b 132 m ≠ m by omega)]; exact ⟨rfl, by omega, by omega⟩
    · have nd2 := T.nd i i0 (by omega)
      have y0 := nd2.2.2.2.2.2.2.1
      have y1 := nd2.2.2.2.2.2.2.2.1
      have q : b 132 i ≠ m := by
        by_cases w : i = 0
        · rw [y0 w]; omega
        · have := y1 (by omega); omega
      rw [if_neg z, if_neg q]; exact d1 i i0 (by omega)
/-- up to node p -/
theorem k_endUp (T : zTr a0 b0 v C D) (v2 : v ≤ 481) (d0 : dep (-1) = 0) (d1 : ∀ i, 0 ≤ i → i < v → dep i = dep (b0 132 i) + 1 ∧ 1 ≤ dep i ∧ dep i ≤ i + 1) (p1 : -1 ≤ p) (kv : k ≤ v) (H : ∀ j, p < j → j < k → p ≤ b0 132 j) (hB : Bd ≤ 1927)
    (M : (qM → Prop) → Int → Int → qM → Prop) (hM : ∀ (Kf : qM → Prop) (τ i : Int) (g : qM), g 132 = b0 132 → i ≠ p → 0 ≤ i → i < v → c_m_givesEnd X i τ g (fun s2 => s2 132 = b0 132 ∧ M Kf τ (b0 132 i) s2) → M Kf τ i g) :
    ∀ (c : Nat) (i v4 : Int) (a g0 g1 : qM), i ≤ p + c → p ≤ i → i < k → 0 ≤ v4 → v4 + dep i ≤ 481 → zPn a0 b0 a g0 g1 → a 84 1 + dep i ≤ Bd → a 86 1 + dep i ≤ Bd →
      (∀ a' g0' g1', zPn a0 b0 a' g0' g1' → a' 84 1 + dep p ≤ Bd → a' 86 1 + dep p ≤ Bd → (∀ Kf : qM → Prop, M Kf 0 p g0' → M Kf 0 i g0) → (∀ Kf : qM → Prop, M Kf 1 p g1' → M Kf 1 i g1) → K a') → L_Printer_endUpTo_5 X p i v4 a K := by
  intro c
  induction c with
  | zero =>
    intro i v4 a g0 g1 hi pi ik c0 c1 P s0 s1 h
    have e : i = p := by omega
    rw [e] at s0 s1 h ⊢
    have r := h a g0 g1 P s0 s1 (fun _ z => z) (fun _ z => z)
    exact sg_Printer_endUpTo_5 (z_c (fun _ => r) (fun _ => z_t rfl r))
  | succ c ih =>
    intro i v4 a g0 g1 hi pi ik c0 c1 P s0 s1 h
    by_cases e : i = p
    · rw [e] at s0 s1 h ⊢
      have r := h a g0 g1 P s0 s1 (fun _ z => z) (fun _ z => z)
      exact sg_Printer_endUpTo_5 (z_c (fun _ => r) (fun _ => z_t rfl r))
    · have i0 : 0 ≤ i := by omega
      obtain ⟨q1, q2, q3⟩ := d1 i i0 (by omega)
      have nd := T.nd i i0 (by omega)
      have pb := H i (by omega) ik
      have bi : b0 132 i < i := by
        by_cases z : i = 0
        · have := nd.2.2.2.2.2.2.1 z; omega
        · exact (nd.2.2.2.2.2.2.2.1 (by omega)).2
      refine k_end P T i0 (by omega) (by omega) (by omega) (by omega) c0 (by omega) e (fun a1 g01 g11 P1 l0 l1 M0 M1 => ?_)
      refine ih (b0 132 i) (v4 + 1) a1 g01 g11 (by omega) pb (by omega) (by omega) (by omega) P1 (by omega) (by omega) (fun a' g0' g1' P' u0 u1 W0 W1 => h a' g0' g1' P' u0 u1 (fun Kf z => ?_) (fun Kf z => ?_))
      · exact hM Kf 0 i g0 (P.f0.1 132 (by decide) (by decide)) e i0 (by omega) (M0 _ ⟨P1.f0.1 132 (by decide) (by decide), W0 Kf z⟩)
      · exact hM Kf 1 i g1 (P.f1.1 132 (by decide) (by decide)) e i0 (by omega) (M1 _ ⟨P1.f1.1 132 (by decide) (by decide), W1 Kf z⟩)
theorem k_writes (G : zGw a0 b0 t N LL n n v C D n) (v2 : v ≤ 481) (C2 : C ≤ 300) (D2 : D ≤ 300) (d0 : dep (-1) = 0) (d1 : ∀ i, 0 ≤ i → i < v → dep i = dep (b0 132 i) + 1 ∧ 1 ≤ dep i ∧ dep i ≤ i + 1) : ∀ (c : Nat) (k : Int) (a g0 g1 : qM), k + c = v → 0 ≤ k → zPn a0 b0 a g0 g1 → a 84 1 + dep (k - 1) ≤ 3 * k + zSig (a0 78) k.toNat → a 86 1 + dep (k - 1) ≤ 3 * k + zSig (a0 78) k.toNat →
    (∀ a' g0' g1', zPn a0 b0 a' g0' g1' → a' 84 1 ≤ 1927 → a' 86 1 ≤ 1927 → (∀ Kf : qM → Prop, Kf g0' → L_m_prints_13 X 0 (k - 1) k g0 Kf) → (∀ Kf : qM → Prop, Kf g1' → L_m_prints_13 X 1 (k - 1) k g1 Kf) → K a') → L_Printer_write_18 X (k - 1) k a K := by
  have T := G.T
  have t1 := T.sz.1
  have t9 := T.sz.2.2.2.2.2.2.2.2.1
  have nn : ∀ i, 0 ≤ i → i < v → 0 ≤ a0 78 i := fun i u w => (T.ct i u w).2.1
  intro c
  induction c with
  | zero =>
    intro k a g0 g1 hk k0 P s0 s1 h
    have ek : k = v := by omega
    have eC : zSig (a0 78) k.toNat = C := by rw [ek]; exact T.sm
    rw [eC] at s0 s1
    have dl : 0 ≤ dep (k - 1) ∧ dep (k - 1) ≤ k := by
      by_cases z : k = 0
      · rw [z, show (0 : Int) - 1 = -1 from rfl, d0]; omega
      · have := d1 (k - 1) (by omega) (by omega); omega
    have e65 : a 65 1 = v := by rw [P.fa 65 (by omega)]; exact t1
    refine sg_Printer_write_18 (sg_Tree_size (k_Row_size q_row_65 (z_t (by omega) (sg_Printer_endUpTo ?_))))
    refine k_endUp (K := fun s3 => K s3) (p := -1) (k := k) (Bd := 3 * k + C) T v2 d0 d1 (by decide) (by omega) (fun j u w => ?_) (by omega) (fun Kf τ i g => L_m_prints_61 X τ i g Kf) (fun Kf τ i g eg ni i0 iv hh => ?_) k.toNat (k - 1) 0 a g0 g1 (by omega) (by omega) (by omega) (by decide) (by omega) P s0 s1 (fun a' g0' g1' P' u0 u1 W0 W1 => ?_)
    · have nd := T.nd j (by omega) (by omega)
      by_cases z : j = 0
      · have := nd.2.2.2.2.2.2.1 z; omega
      · have := nd.2.2.2.2.2.2.2.1 (by omega); omega
    · exact sg_m_prints_61 (z_f ni (z_mV hh (fun s hs => ⟨i0, by omega, by rw [hs.1]; exact hs.2⟩)))
    · refine h a' g0' g1' P' (by omega) (by omega) (fun Kf z => sg_m_prints_13 (z_t ?_ (W0 Kf (sg_m_prints_61 (z_t rfl z))))) (fun Kf z => sg_m_prints_13 (z_t ?_ (W1 Kf (sg_m_prints_61 (z_t rfl z)))))
      · rw [P.f0.2 20 (by decide)]; omega
      · rw [P.f1.2 20 (by decide)]; omega
  | succ c ih =>
    intro k a g0 g1 hk k0 P s0 s1 h
    have kv : k < v := by omega
    have sS : zSig (a0 78) (k + 1).toNat = zSig (a0 78) k.toNat + a0 78 k := by
      rw [show (k + 1).toNat = k.toNat + 1 by omega]
      show zSig (a0 78) k.toNat + a0 78 (k.toNat : Int) = _
      rw [show ((k.toNat : Nat) : Int) = k by omega]
    have sC := zSig_ex (f := a0 78) c (k + 1).toNat (fun i u w => nn i u (by omega))
    rw [show (k + 1).toNat + c = v.toNat by omega, T.sm] at sC
    have dl : 0 ≤ dep (k - 1) ∧ dep (k - 1) ≤ k := by
      by_cases z : k = 0
      · rw [z, show (0 : Int) - 1 = -1 from rfl, d0]; omega
      · have := d1 (k - 1) (by omega) (by omega); omega
    have dk := d1 k k0 kv
    have nd := T.nd k k0 kv
    have a78 := nn k k0 kv
    have p1 : -1 ≤ b0 132 k ∧ b0 132 k ≤ k - 1 := by
      by_cases z : k = 0
      · have := nd.2.2.2.2.2.2.1 z; omega
      · have := nd.2.2.2.2.2.2.2.1 (by omega); omega
    have e65 : a 65 1 = v := by rw [P.fa 65 (by omega)]; exact t1
    refine sg_Printer_write_18 (sg_Tree_size (k_Row_size q_row_65 (z_f (by omega) (k_p_parent T k0 kv (by omega) P.fa (sg_Printer_endUpTo ?_)))))
    refine k_endUp (p := b0 132 k) (k := k) (Bd := 3 * k + zSig (a0 78) k.toNat) T v2 d0 d1 p1.1 (by omega) (fun j u w => ?_) (by omega) (fun Kf τ i g => L_m_prints_21 X τ i k g Kf) (fun Kf τ i g eg ni i0 iv hh => ?_) (k - 1 - b0 132 k).toNat (k - 1) 0 a g0 g1 (by omega) (by omega) (by omega) (by decide) (by omega) P s0 s1 (fun a1 g01 g11 P1 u0 u1 W0 W1 => ?_)
    · exact T.pre k j (by omega) kv u w
    · exact sg_m_prints_21 ⟨k0, by omega, z_f (by rw [eg]; exact ni) (z_mV hh (fun s hs => ⟨i0, by omega, by rw [hs.1]; exact hs.2⟩))⟩
    · refine k_begin P1 G k0 kv (by omega) (by omega) D2 (by omega) (by omega) (fun a2 g02 g12 P2 l0 l1 M0 M1 => ⟨by omega, ?_⟩)
      have e1 : k + 1 - 1 = k := by omega
      have res := ih (k + 1) a2 g02 g12 (by omega) (by omega) P2 (by rw [e1, sS]; omega) (by rw [e1, sS]; omega) (fun a' g0' g1' P' w0 w1 V0 V1 => h a' g0' g1' P' w0 w1 (fun Kf z => ?_) (fun Kf z => ?_))
      · rw [e1] at res; exact res
      · have y := V0 Kf z
        rw [e1] at y
        refine sg_m_prints_13 (z_f (by rw [P.f0.2 20 (by decide)]; omega) (W0 Kf (sg_m_prints_21 ⟨k0, by omega, z_t (by rw [P1.f0.1 132 (by decide) (by decide)]) (M0 _ ⟨by omega, y⟩)⟩)))
      · have y := V1 Kf z
        rw [e1] at y
        refine sg_m_prints_13 (z_f (by rw [P.f1.2 20 (by decide)]; omega) (W1 Kf (sg_m_prints_21 ⟨k0, by omega, z_t (by rw [P1.f1.1 132 (by decide) (by decide)]) (M1 _ ⟨by omega, y⟩)⟩)))
theorem k_write (G : zGw a0 b0 t N LL n n v C D n) (v2 : v ≤ 481) (C2 : C ≤ 300) (D2 : D ≤ 300)
    (h : ∀ a' g0' g1', zPn a0 b0 a' g0' g1' → a' 84 1 ≤ 1927 → a' 86 1 ≤ 1927 → (∀ Kf : qM → Prop, Kf g0' → L_m_prints_13 X 0 (-1) 0 (q_up b0 113 45 0) Kf) → (∀ Kf : qM → Prop, Kf g1' → L_m_prints_13 X 1 (-1) 0 (q_up b0 113 45 0) Kf) → K a') : c_Printer_write X a0 K := by
  have v0 := G.T.sz.2.2.2.2.2.2.2.2.2.2.1
  obtain ⟨dep, d0, d1⟩ := G.T.dpt v.toNat (by omega)
  refine sg_Printer_write (k_Row_clear q_row_84 (fun a1 f1 g1 => k_Row_clear q_row_86 (fun a2 f2 g2 => ?_)))
  have e84 : a2 84 1 = 0 := by rw [f2 84 (by decide)]; exact g1
  have P : zPn a0 b0 a2 (q_up b0 113 45 0) (q_up b0 113 45 0) := by
    refine zPn.mk (fun r hr => by rw [f2 r (by omega), f1 r (by omega)]) ⟨fun r u _ => q_up_ne u, fun j u => q_up_nj u⟩ ⟨fun r u _ => q_up_ne u, fun j u => q_up_nj u⟩ ⟨by rw [e84, q_up_at], by omega, fun i u w => by omega⟩ ⟨by rw [g2, q_up_at], by omega, fun i u w => by omega⟩
  exact k_writes G v2 C2 D2 d0 (fun i u w => d1 i u (by omega)) v.toNat 0 a2 _ _ (by omega) (Int.le_refl 0) P (by rw [e84]; show 0 + dep (-1) ≤ 0 + 0; omega) (by rw [g2]; show 0 + dep (-1) ≤ 0 + 0; omega) h
end Write
