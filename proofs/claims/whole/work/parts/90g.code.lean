/-! The tree: raw parts. -/
/-- in a CODE node, the last one, in cur -/
def zTe (a b : qM) (v C D lf cur : Int) (d : Nat) (f : Nat → Int) : Prop := (zTr a b v C D) ∧ (b 113 54 = v - 1) ∧ (b 131 (v - 1) = 11 ∧ b 132 (v - 1) = cur) ∧ (f 0 = lf ∧ f d = cur ∧ 0 ≤ lf) ∧ (∀ i, i ≤ d → lf ≤ f i ∧ f i < v - 1 ∧ b 131 (f i) ≠ 11) ∧ (∀ i, i < d → b 132 (f (i + 1)) = f i) ∧ (∀ i, i ≤ d → ∀ j, f i < j → j < v → f i ≤ b 132 j) ∧ (∀ j, lf < j → j < v → 8 ≤ b 131 j) ∧ (a 76 (v - 1) + a 78 (v - 1) = C ∧ b 153 (v - 1) + b 134 (v - 1) = D)
theorem zTe.mk {a b : qM} {v C D lf cur : Int} {d : Nat} {f : Nat → Int} (T : zTr a b v C D) (cu : b 113 54 = v - 1) (kd : b 131 (v - 1) = 11 ∧ b 132 (v - 1) = cur) (ch : f 0 = lf ∧ f d = cur ∧ 0 ≤ lf) (cl : ∀ i, i ≤ d → lf ≤ f i ∧ f i < v - 1 ∧ b 131 (f i) ≠ 11) (pa : ∀ i, i < d → b 132 (f (i + 1)) = f i) (ins : ∀ i, i ≤ d → ∀ j, f i < j → j < v → f i ≤ b 132 j) (inl : ∀ j, lf < j → j < v → 8 ≤ b 131 j) (ec : a 76 (v - 1) + a 78 (v - 1) = C ∧ b 153 (v - 1) + b 134 (v - 1) = D) : zTe a b v C D lf cur d f := ⟨T, cu, kd, ch, cl, pa, ins, inl, ec⟩
theorem zTe.T {a b : qM} {v C D lf cur : Int} {d : Nat} {f : Nat → Int} (h : zTe a b v C D lf cur d f) : zTr a b v C D := h.1
theorem zTe.cu {a b : qM} {v C D lf cur : Int} {d : Nat} {f : Nat → Int} (h : zTe a b v C D lf cur d f) : b 113 54 = v - 1 := h.2.1
theorem zTe.kd {a b : qM} {v C D lf cur : Int} {d : Nat} {f : Nat → Int} (h : zTe a b v C D lf cur d f) : b 131 (v - 1) = 11 ∧ b 132 (v - 1) = cur := h.2.2.1
theorem zTe.ch {a b : qM} {v C D lf cur : Int} {d : Nat} {f : Nat → Int} (h : zTe a b v C D lf cur d f) : f 0 = lf ∧ f d = cur ∧ 0 ≤ lf := h.2.2.2.1
theorem zTe.cl {a b : qM} {v C D lf cur : Int} {d : Nat} {f : Nat → Int} (h : zTe a b v C D lf cur d f) : ∀ i, i ≤ d → lf ≤ f i ∧ f i < v - 1 ∧ b 131 (f i) ≠ 11 := h.2.2.2.2.1
theorem zTe.pa {a b : qM} {v C D lf cur : Int} {d : Nat} {f : Nat → Int} (h : zTe a b v C D lf cur d f) : ∀ i, i < d → b 132 (f (i + 1)) = f i := h.2.2.2.2.2.1
theorem zTe.ins {a b : qM} {v C D lf cur : Int} {d : Nat} {f : Nat → Int} (h : zTe a b v C D lf cur d f) : ∀ i, i ≤ d → ∀ j, f i < j → j < v → f i ≤ b 132 j := h.2.2.2.2.2.2.1
theorem zTe.inl {a b : qM} {v C D lf cur : Int} {d : Nat} {f : Nat → Int} (h : zTe a b v C D lf cur d f) : ∀ j, lf < j → j < v → 8 ≤ b 131 j := h.2.2.2.2.2.2.2.1
theorem zTe.ec {a b : qM} {v C D lf cur : Int} {d : Nat} {f : Nat → Int} (h : zTe a b v C D lf cur d f) : a 76 (v - 1) + a 78 (v - 1) = C ∧ b 153 (v - 1) + b 134 (v - 1) = D := h.2.2.2.2.2.2.2.2
section Code
variable {X : Nat × (Nat → Int32)} {a0 b0 a b a' b' b1 : qM} {K : qM → Prop} {V C0 D0 lf cur w P m n p κ x v C D i1 i2 E k : Int} {d q : Nat} {S : Int → Int} {f : Nat → Int}
theorem zTn.entC (Z : zTn a b v C D lf cur w d f) (A1 : zNa a a' v 11 cur (-1) C) (B1 : zNb2 b b1 v 11 cur 0 D) (fb : ∀ r, r ≠ 113 → b' r = b1 r) (fj : ∀ j, j ≠ 54 → j ≠ 55 → b' 113 j = b1 113 j) (e54 : b' 113 54 = v) : zTe a' b' (v + 1) C D lf cur d f ∧ zWf a a' b b' (lf + 1) C := by
  obtain ⟨l0, lc, cv, _⟩ := Z.cur'
  have e1 : v + 1 - 1 = v := Int.add_sub_cancel v 1
  have T' : zTr a' b' (v + 1) C D := Z.T.add (c' := a') (d' := b') A1 B1 ⟨by decide, by decide⟩ (Or.inr ⟨by omega, by omega, cv⟩) Z.insc (fun _ => rfl) (fun z => absurd z (by decide)) (fun z => absurd z (by decide)) (fun z => absurd z (by decide)) (fun _ _ _ => rfl) (fun r _ => rfl) (fun _ _ => rfl) (by rw [A1.f72, q_u_at]) (fun r h1 _ _ _ => fb r h1) ⟨fj 20 (by decide) (by decide), fj 51 (by decide) (by decide)⟩ (fun i hi => by rw [fb 136 (by decide), B1.f136, q_u_ne hi]) (Int.le_refl 0) (fun z => absurd z (by decide))
  have g131 : b' 131 = q_u (b 131) v 11 := by rw [fb 131 (by decide)]; exact B1.f131
  have g132 : b' 132 = q_u (b 132) v cur := by rw [fb 132 (by decide)]; exact B1.f132
  have g134 : b' 134 = q_u (b 134) v 0 := by rw [fb 134 (by decide)]; exact B1.f134
  refine ⟨zTe.mk T' (by rw [e1]; exact e54) (by rw [e1, g131, g132, q_u_at, q_u_at]; exact ⟨rfl, rfl⟩) Z.ch (fun i hi => ?_) (fun i hi => ?_) (Z.insn (fun i hi => by rw [g132, q_u_ne hi]) (by rw [g132, q_u_at])) (Z.inln (fun i hi => by rw [g131, q_u_ne hi]) (by rw [g131, q_u_at]; decide)) ?_, zWf.mk (fun r hr => A1.fr r (by omega)) (fun r h1 h2 h3 h4 => ?_) (fun j h1 h2 h3 h4 => ?_) (fun i hi => ⟨by rw [g131, q_u_ne (by omega)], by rw [g132, q_u_ne (by omega)], by rw [g134, q_u_ne (by omega)], by rw [A1.f76, q_u_ne (by omega)], by rw [A1.f78, q_u_ne (by omega)]⟩) (fun i hi => by rw [A1.fr 80 (by decide)])⟩
  · have h := Z.cl i hi
    rw [g131, q_u_ne (by omega)]; exact ⟨h.1, by omega, h.2.2⟩
  · have h := Z.cl (i + 1) hi
    rw [g132, q_u_ne (by omega)]; exact Z.pa i hi
  · rw [e1, A1.f76, A1.f78, fb 153 (by decide), B1.f153, g134, q_u_at, q_u_at, q_u_at, q_u_at]
    exact ⟨Int.add_zero C, Int.add_zero D⟩
  · rw [fb r h1, B1.fr r h1 (fun z => by omega) (fun z => by omega) (fun z => by omega) (fun z => by omega) (fun z => by omega) h4]
  · rw [fj j h3 h4, B1.f113 j h1]
theorem zTe.put (Z : zTe a b v C D lf cur d f) (A : zPu a a' (v - 1) C x) (B : zPx b b' (v - 1) D x) : zTe a' b' v (C + 1) (D + 1) lf cur d f ∧ zWf a a' b b' (lf + 1) C := by
  have hc := Z.cl 0 (Nat.zero_le d)
  have l0 := Z.ch.2.2
  have w0 : 0 ≤ v - 1 := by omega
  have wl : lf < v - 1 := by omega
  obtain ⟨T', q1, q2⟩ := Z.T.put A B w0 (Int.sub_lt_self v (by decide)) (Or.inr Z.kd.1) Z.ec.1 Z.ec.2
  have g131 : b' 131 = b 131 := B.fr 131 (by decide) (by decide) (by decide)
  have g132 : b' 132 = b 132 := B.fr 132 (by decide) (by decide) (by decide)
  exact ⟨zTe.mk T' (by rw [B.f113 54 (by decide) (by decide)]; exact Z.cu) (by rw [g131, g132]; exact Z.kd) Z.ch (fun i hi => by rw [g131]; exact Z.cl i hi) (fun i hi => by rw [g132]; exact Z.pa i hi) (by rw [g132]; exact Z.ins) (by rw [g131]; exact Z.inl) ⟨q1, q2⟩, zWf.mk (fun r hr => A.fr r (fun z => by omega) (fun z => by omega) (fun z => by omega) (fun z => by omega)) (fun r h1 h2 h3 h4 => B.fr r h1 (fun z => by omega) h3) (fun j h1 h2 h3 h4 => B.f113 j h2 h4) (fun i hi => ⟨by rw [g131], by rw [g132], by rw [B.f134, q_u_ne (by omega)], by rw [A.fr 76 (by decide) (by decide) (by decide) (by decide)], by rw [A.f78, q_u_ne (by omega)]⟩) (fun i hi => by rw [A.f80, q_u_ne (by omega)])⟩
theorem zTe.out (Z : zTe a b v C D lf cur d f) (fb : ∀ r, r ≠ 113 → b' r = b r) (fj : ∀ j, j ≠ 54 → j ≠ 55 → b' 113 j = b 113 j) (e54 : b' 113 54 = cur) (e55 : b' 113 55 = 1) : zTn a b' v C D lf cur (-1) d f ∧ zWf a a b b' (lf + 1) C := by
  have T := Z.T
  obtain ⟨t1, t2, t3, t4, t5, t6, t7, t8, t9, t10, t11, t12, t13⟩ := T.sz
  have g131 := fb 131 (by decide)
  have g132 := fb 132 (by decide)
  have g134 := fb 134 (by decide)
  refine ⟨zTn.mk (zTr.mk ⟨t1, t2, t3, t4, t5, t6, t7, t8, by rw [fj 20 (by decide) (by decide)]; exact t9, by rw [fj 51 (by decide) (by decide)]; exact t10, t11, t12, t13⟩ ?_ (fun i i0 iv => ?_) ?_ (by rw [g132, fb 133 (by decide)]; exact T.kc) (by rw [g132]; exact T.pre) T.sm (by rw [g131, g134]; exact T.tl)) e54 Z.ch (fun i hi => by rw [g131]; have h := Z.cl i hi; exact ⟨h.1, by omega, h.2.2⟩) (fun i hi => by rw [g132]; exact Z.pa i hi) (by rw [g132]; exact Z.ins) (by rw [g131]; exact Z.inl) (Or.inl ⟨rfl, fun z => by have := z.2.2; omega⟩), zWf.mk (fun _ _ => rfl) (fun r h _ _ _ => fb r h) (fun j _ _ h3 h4 => fj j h3 h4) (fun i _ => ⟨by rw [g131], by rw [g132], by rw [g134], rfl, rfl⟩) (fun _ _ => rfl)⟩
  · rw [g131, g132, fb 133 (by decide), g134]; exact T.nd
  · have h := T.sg i i0 iv
    rw [g131, g134, fb 136 (by decide)]
    exact ⟨h.1, h.2.1, fun z => (h.2.2.1 z).fr rfl rfl rfl rfl (fb 117 (by decide)), h.2.2.2⟩
  · rw [g131, g134, fb 153 (by decide), fb 152 (by decide)]; exact T.ct
/-- what a raw part holds -/
theorem zDone.raw (H : zDone a0 b0 n m S p q) (cp : V + m ≤ 481 ∧ C0 + m ≤ 299 ∧ D0 + m ≤ 299) (k0 : 0 ≤ k) (k2 : k < 241) (e143 : b0 143 k = i2) (h2 : i2 < m) (hr : ∀ i, i1 ≤ i → i < i2 → a0 48 i = 0) :
    ∀ (c : Nat) (j ww C D : Int) (a b : qM), j + c = i2 → i1 ≤ j → 0 ≤ j → zTe a b v C D lf cur d f → zWf a0 a b0 b (lf + 1) C0 → v ≤ V + j → C0 ≤ C → C ≤ C0 + j → D ≤ D0 + j → (∀ a' b' ww' C' D', zTe a' b' v C' D' lf cur d f → zWf a0 a' b0 b' (lf + 1) C0 → C0 ≤ C' → C' ≤ C0 + i2 → D' ≤ D0 + i2 → (∀ Kf : qM → Prop, L_m_treesInline_91 X k i2 b' Kf → L_m_treesInline_91 X k j b Kf) → L_Tree_addInline_8 X (v - 1) ww' i2 a' K) → L_Tree_addInline_8 X (v - 1) ww j a K := by
  obtain ⟨m0, m2⟩ := H.W.m0
  intro c
  induction c with
  | zero =>
    intro j ww C D a b hj g1 j0 Z F hv c1 c2 d2 h
    rw [show j = i2 by omega] at c2 d2 h ⊢
    exact h a b ww C D Z F c1 c2 d2 (fun Kf hk => hk)
  | succ c ih =>
    intro j ww C D a b hj g1 j0 Z F hv c1 c2 d2 h
    have hc := Z.cl 0 (Nat.zero_le d)
    have l0 := Z.ch.2.2
    have w0 : 0 ≤ v - 1 := by omega
    have jm : j < m := by omega
    obtain ⟨t1, t2, t3, t4, t5, t6, t7, t8, t9, t10, t11, t12, t13⟩ := Z.T.sz
    have nd := Z.T.nd (v - 1) w0 (Int.sub_lt_self v (by decide))
    have F45 := F.fa 45 (by decide)
    have F46 := F.fa 46 (by decide)
    have F47 := F.fa 47 (by decide)
    have F48 := F.fa 48 (by decide)
    have ex : a 46 j = b0 138 j := by rw [F46]; exact (H.W.ch j j0 jm).1
    have ei : zI b m j = b0 138 j := by unfold zI; rw [if_pos ⟨j0, jm⟩, F.fb 138 (by decide) (by decide) (by decide) (by decide)]
    have h28 : b 113 28 = m := by rw [F.fj 28 (by decide) (by decide) (by decide) (by decide)]; exact H.W.sz.2
    have ct := (Z.T.ct (v - 1) w0 (Int.sub_lt_self v (by decide)))
    have ct2 := ct.2.2.2.1 (Or.inr Z.kd.1)
    generalize eb : q_up (q_up (q_up b 152 D (b0 138 j)) 113 51 (D + 1)) 134 (v - 1) (b 134 (v - 1) + 1) = b'
    have B : zPx b b' (v - 1) D (b0 138 j) := by
      refine zPx.mk (fun r x y z => ?_) (fun i x _ => ?_) ?_ ?_ ?_
      · rw [← eb, q_up_ne y, q_up_ne x, q_up_ne z]
      · rw [← eb, q_up_ne (by decide), q_up_nj x, q_up_ne (by decide)]
      · rw [← eb, q_up_ne (by decide), q_up_at]
      · rw [← eb, q_up_fn, q_up_ne (by decide), q_up_ne (by decide)]
      · rw [← eb, q_up_ne (by decide), q_up_ne (by decide), q_up_fn]
    refine k_role (ro := 0) ⟨by rw [F45]; exact H.W.sz.1, by rw [F47]; exact H.nn.2.2.1⟩ j0 jm m2 (by rw [F48]; exact hr j g1 (by omega)) (z_f (by decide) (k_Row_at q_row_65 (by omega) ?_))
    rw [zT_in w0 (by omega), show a (65 + 1) (v - 1) = 11 by rw [show a (65 + 1) (v - 1) = b 131 (v - 1) from nd.1]; exact Z.kd.1]
    refine z_f (by decide) (k_char (by rw [F45]; exact H.W.sz.1) j0 jm m2 ?_)
    rw [ex]
    refine k_Tree_put Z.T (by omega) (by omega) w0 (Int.sub_lt_self v (by decide)) (fun a' A => ?_)
    obtain ⟨Z', F'⟩ := Z.put A B
    refine ⟨⟨by omega, by omega⟩, ih (j + 1) (v - 1) (C + 1) (D + 1) a' b' (by omega) (by omega) (by omega) Z' (F.tr F' c1) (by omega) (by omega) (by omega) (by omega) (fun a2 b2 ww' C' D' Z2 F2 x1 x2 x3 W2 => h a2 b2 ww' C' D' Z2 F2 x1 x2 x3 (fun Kf hk => ?_))⟩
    have w2 := W2 Kf hk
    refine sg_m_treesInline_91 ⟨k0, k2, z_f (by rw [F.fb 143 (by decide) (by decide) (by decide) (by decide), e143]; omega) (k_m_in h28 m0 m2 ?_)⟩
    rw [ei, t10]
    refine ⟨t13, by omega, fun s4 e4 => ?_⟩
    have q51 : s4 113 51 = D := by rw [e4, q_up_ne (by decide)]; exact t10
    rw [q51]
    refine ⟨by omega, fun s5 e5 => ?_⟩
    have q54 : s5 113 54 = v - 1 := by rw [e5, q_up_nj (by decide), e4, q_up_ne (by decide)]; exact Z.cu
    have q134 : s5 134 = b 134 := by rw [e5, q_up_ne (by decide), e4, q_up_ne (by decide)]
    rw [q54, q134]
    refine ⟨w0, by omega, by omega, w0, by omega, fun s6 e6 => ⟨by omega, ?_⟩⟩
    rw [e6, e5, e4, eb]; exact w2
/-- the end of a raw part -/
theorem zTe.fin (Z2 : zTe a b (v + 1) C D lf cur d f) (H : zDone a0 b0 n m S p q) (F2 : zWf a0 a b0 b (lf + 1) C0) (i0 : 0 ≤ i2) (h2 : i2 < E) (hE : E ≤ m) (v2 : v ≤ 481) (x1 : C0 ≤ C) (r3 : a0 48 i2 = -4) (r4 : ∀ i, i2 < i → i < E → a0 48 i = -3) (h : ∀ b3, zTn a b3 (v + 1) C D lf cur (-1) d f → zWf a0 a b0 b3 (lf + 1) C0 → (∀ Kf : qM → Prop, Kf b3 → c_m_leaves X b Kf) → L_Tree_addInline_8 X cur (-1) E a K) : L_Tree_addInline_8 X v w i2 a K := by
  obtain ⟨m0, m2⟩ := H.W.m0
  have e1 : v + 1 - 1 = v := Int.add_sub_cancel v 1
  obtain ⟨y1, y2, y3, y4, y5, y6, y7, y8, y9, y10, y11, y12, y13⟩ := Z2.T.sz
  have hc := Z2.cl 0 (Nat.zero_le d)
  have l0 := Z2.ch.2.2
  have v0 : 0 ≤ v := by omega
  have cu2 := Z2.cu
  have kd2 := Z2.kd
  rw [e1] at cu2 kd2
  have nd2 := (Z2.T.nd v v0 (Int.lt_succ v)).2.1
  obtain ⟨b3, ⟨z1, z2, z3, z4⟩, W3⟩ := z_1V (k_m_leaves (X := X) (b := b) (K := fun b' => (∀ r, r ≠ 113 → b' r = b r) ∧ (∀ j, j ≠ 54 → j ≠ 55 → b' 113 j = b 113 j) ∧ b' 113 54 = b 132 (b 113 54) ∧ b' 113 55 = 1) (by rw [cu2]; exact ⟨v0, by omega⟩) (fun b' h1 h2 h3 h4 => ⟨h1, h2, h3, h4⟩))
  rw [cu2, kd2.2] at z3
  obtain ⟨Z3, F3⟩ := Z2.out z1 z2 z3 z4
  have F245 := F2.fa 45 (by decide)
  have F247 := F2.fa 47 (by decide)
  have F248 := F2.fa 48 (by decide)
  refine k_role (ro := -4) ⟨by rw [F245]; exact H.W.sz.1, by rw [F247]; exact H.nn.2.2.1⟩ i0 (by omega) m2 (by rw [F248]; exact r3) (z_t (by decide) (z_f (by decide) (k_Row_at q_row_67 (by omega) ?_)))
  rw [zT_in v0 (by omega), show a (67 + 1) v = cur by rw [show a (67 + 1) v = b 132 v from nd2]; exact kd2.2]
  have Fb := F2.tr F3 x1
  exact ⟨⟨by omega, by omega⟩, H.pass Fb.fa hE (h b3 Z3 Fb W3) (E - (i2 + 1)).toNat (i2 + 1) (by omega) (by omega) (fun i u z => r4 i (by omega) z)⟩
theorem zWs.code (W : zWs a0 b0 V C0 D0 lf a b P cur w d) (H : zDone a0 b0 n m S p q) (cp : V + m ≤ 481 ∧ C0 + m ≤ 299 ∧ D0 + m ≤ 299) (P0 : 0 ≤ P) (h1 : P < i1) (h12 : i1 ≤ i2) (h2 : i2 < E) (hE : E ≤ m) (k0 : 0 ≤ k) (k2 : k < 241) (e142 : b0 142 k = i1) (e143 : b0 143 k = i2) (r0 : a0 48 P = 11) (r1 : ∀ i, P < i → i < i1 → a0 48 i = -3) (r2 : ∀ i, i1 ≤ i → i < i2 → a0 48 i = 0) (r3 : a0 48 i2 = -4) (r4 : ∀ i, i2 < i → i < E → a0 48 i = -3)
    (h : ∀ a' b', zWs a0 b0 V C0 D0 lf a' b' E cur (-1) d → (∀ Kf : qM → Prop, L_m_treesInline_12 X (k + 1) b' Kf → c_m_enters X 11 b (fun s6 => ((0 : Int) ≤ k) ∧ (k < (241 : Int)) ∧ L_m_treesInline_91 X k (s6 142 k) s6 Kf)) → L_Tree_addInline_8 X cur (-1) E a' K) : L_Tree_addInline_8 X cur w P a K := by
  obtain ⟨v, C, D, f, Z, F, hv, c1, c2, d2⟩ := W
  obtain ⟨m0, m2⟩ := H.W.m0
  obtain ⟨l0, lc, cv, nc, k66, k68, k70, c0, cc⟩ := Z.cur'
  obtain ⟨t1, t2, t3, t4, t5, t6, t7, t8, t9, t10, t11, t12, t13⟩ := Z.T.sz
  have u0 : 0 ≤ cur := Int.le_trans l0 lc
  have e1 : v + 1 - 1 = v := Int.add_sub_cancel v 1
  have F45 := F.fa 45 (by decide)
  have F47 := F.fa 47 (by decide)
  have F48 := F.fa 48 (by decide)
  have F49 := F.fa 49 (by decide)
  have F50 := F.fa 50 (by decide)
  have hs : a0 50 P = -1 := (H.sg P P0 (by omega)).resolve_left (fun z => by omega)
  obtain ⟨b', ⟨b1, B1, g1, g2, g3, g4⟩, W⟩ := z_1V (k_m_enters (X := X) (b := b) (κ := 11) (K := fun b' => ∃ b1, zNb2 b b1 v 11 cur 0 D ∧ (∀ r, r ≠ 113 → b' r = b1 r) ∧ (∀ j, j ≠ 54 → j ≠ 55 → b' 113 j = b1 113 j) ∧ b' 113 54 = v ∧ b' 113 55 = 0) t9 Z.cu t10 (by omega) (by omega) ⟨u0, cv⟩ ⟨c0, by omega⟩ (fun b1 b' h1 h2 h3 h4 h5 => ⟨b1, h1, h2, h3, h4, h5⟩))
  refine k_role (ro := 11) ⟨by rw [F45]; exact H.W.sz.1, by rw [F47]; exact H.nn.2.2.1⟩ P0 (by omega) m2 (by rw [F48]; exact r0) (z_t (by decide) (z_t (by decide) (z_f (by decide) (sg_Il_signAt (k_Row_at q_row_49 (by rw [F49]; have := H.nn.2.2.2.1; omega) ?_)))))
  rw [zT_in P0 (by rw [F49]; have := H.nn.2.2.2.1; omega), show a (49 + 1) P = -1 by rw [F50]; exact hs]
  refine k_Tree_add ⟨t1, t2, t3, t4, t5, t6, t7, t8⟩ t11 (by omega) (Or.inr ⟨u0, cv⟩) (fun _ => by rw [k70]; omega) (fun a1 A1 => ?_)
  obtain ⟨Z1, F1⟩ := Z.entC A1 B1 g1 g2 g3
  have Fa := F.tr F1 c1
  refine ⟨⟨by omega, by omega⟩, H.pass Fa.fa (by omega) ?_ (i1 - (P + 1)).toNat (P + 1) (by omega) (by omega) (fun i u z => r1 i (by omega) z)⟩
  have goal := H.raw (X := X) (K := K) (V := V) (C0 := C0) (D0 := D0) (i1 := i1) (i2 := i2) (v := v + 1) (lf := lf) (cur := cur) (d := d) (f := f) cp k0 k2 e143 (by omega) r2 (i2 - i1).toNat i1 (-1) C D a1 b' (by omega) (Int.le_refl _) (by omega) Z1 Fa (by omega) c1 (by omega) (by omega) (fun a2 b2 ww C' D' Z2 F2 x1 x2 x3 W2 => ?_)
  · rw [e1] at goal; exact goal
  · rw [e1]
    refine Z2.fin H F2 (by omega) h2 hE (by omega) x1 r3 r4 (fun b3 Z3 F3 W3 => h a2 b3 ⟨v + 1, C', D', f, Z3, F3, by omega, x1, by omega, by omega⟩ (fun Kf hk => W _ ⟨k0, k2, ?_⟩))
    rw [show b' 142 k = i1 by rw [g1 142 (by decide), B1.fr 142 (by decide) (by decide) (by decide) (by decide) (by decide) (by decide) (by decide), F.fb 142 (by decide) (by decide) (by decide) (by decide)]; exact e142]
    refine W2 Kf (sg_m_treesInline_91 ⟨k0, k2, z_t (by rw [F2.fb 143 (by decide) (by decide) (by decide) (by decide), e143]; exact Int.le_refl i2) (W3 _ ⟨by omega, hk⟩)⟩)
end Code
