/-! The tree: the steps, class and model at once. -/
section Step2
variable {X : Nat × (Nat → Int32)} {a b a' b' : qM} {K : qM → Prop} {v C D κ par σ told w x lf cur V0 C0 P m : Int} {d : Nat} {f : Nat → Int}
theorem zTn.bnd (Z : zTn a b v C D lf cur w d f) {i : Int} (i0 : 0 ≤ i) (iv : i < v) : b 131 i = 8 → 0 ≤ b 134 i ∧ b 134 i ≤ D := fun h => by
  have c := Z.T.ct i i0 iv
  have g := c.2.2.2.1 (Or.inl h)
  have := c.2.1
  omega
theorem k_stepChar (Z : zTn a b v C D lf cur w d f) (hm : a 45 1 = m ∧ a 47 1 = m) (P0 : 0 ≤ P) (Pm : P < m) (m2 : m ≤ 240) (hr : a 48 P = 0) (hx : a 46 P = x) (v2 : v ≤ 481) (C2 : C < 300) (D2 : D < 300)
    (h : ∀ a' b' v' w', zTn a' b' v' (C + 1) (D + 1) lf cur w' d f → v ≤ v' → v' ≤ v + 1 → zWf a a' b b' (lf + 1) C → (∀ Kf : qM → Prop, Kf b' → c_m_addsCharacter X x b Kf) → L_Tree_addInline_8 X cur w' (P + 1) a' K) : L_Tree_addInline_8 X cur w P a K := by
  obtain ⟨l0, lc, cv, nc, k66, k68, k70, c0, c2⟩ := Z.cur'
  obtain ⟨t1, t2, t3, t4, t5, t6, t7, t8, t9, t10, t11, t12, t13⟩ := Z.T.sz
  have u0 : 0 ≤ cur := Int.le_trans l0 lc
  have v1 : 1 ≤ v := by omega
  refine k_role hm P0 Pm m2 hr (z_f (by decide) (k_Row_at q_row_65 (by omega) ?_))
  rw [zT_in u0 (by omega), show a (65 + 1) cur = b 131 cur from k66]
  refine z_t nc ?_
  rcases Z.go with ⟨e, ng⟩ | ⟨e, hw, g1, g2, g3, eC, eD⟩
  · obtain ⟨b', ⟨b1, B1, B, e55⟩, W⟩ := z_1V (k_m_addsNew (X := X) (b := b) (x := x) (K := fun b' => ∃ b1, zNb2 b b1 v 8 cur 0 D ∧ zPx b1 b' v D x ∧ b' 113 55 = 0) t9 Z.cu t10 v1 (by omega) t13 D2 ng ⟨u0, cv⟩ ⟨c0, by omega⟩ (fun b1 b' h1 h2 h3 => ⟨b1, h1, h2, h3⟩))
    refine z_f (fun z => z e) (k_Tree_add ⟨t1, t2, t3, t4, t5, t6, t7, t8⟩ t11 (by omega) (Or.inr ⟨u0, cv⟩) (fun _ => by rw [k70]; omega) (fun a1 A1 => ?_))
    refine k_char (by rw [A1.fr 45 (by decide)]; exact hm.1) P0 Pm m2 ?_
    rw [A1.fr 46 (by decide), hx]
    have T1 : zTr a1 b1 (v + 1) C D := Z.T.add (c' := a1) (d' := b1) A1 B1 ⟨by decide, by decide⟩ (Or.inr ⟨v1, u0, cv⟩) Z.insc (fun _ => rfl) (fun z => absurd z (by decide)) (fun z => absurd z (by decide)) (fun z => absurd z (by decide)) (fun _ _ _ => rfl) (fun r _ => rfl) (fun _ _ => rfl) (by rw [A1.f72, q_u_at]) (fun r _ _ _ _ => rfl) ⟨rfl, rfl⟩ (fun i hi => by rw [B1.f136, q_u_ne hi]) (Int.le_refl 0) (fun z => absurd z (by decide))
    refine k_Tree_put T1 (by omega) (by omega) t11 (by omega) (fun a' A => ?_)
    obtain ⟨Z', F'⟩ := Z.putNew A1 B1 A B e55
    exact ⟨⟨by omega, by omega⟩, h a' b' (v + 1) v Z' (by omega) (Int.le_refl _) F' W⟩
  · have w0 : 0 ≤ w := by omega
    have bt := Z.bnd w0 (by omega) g1
    obtain ⟨b', ⟨B, e55⟩, W⟩ := z_1V (k_m_addsGo (X := X) (b := b) (x := x) (K := fun b' => zPx b b' w D x ∧ b' 113 55 = 0) t9 t10 v1 (by omega) t13 D2 (by rw [← e]; exact g1) (by rw [← e, Z.cu]; exact g2) g3 (by rw [← e]; exact bt.1) (by rw [← e]; omega) (fun b' h1 h2 => ⟨by rw [e]; exact h1, h2⟩))
    refine z_t (by omega) (k_char hm.1 P0 Pm m2 ?_)
    rw [hx]
    refine k_Tree_put Z.T (by omega) (by omega) w0 (by omega) (fun a' A => ?_)
    obtain ⟨Z', F'⟩ := Z.putGo e hw g1 g2 eC eD A B e55
    exact ⟨⟨by omega, by omega⟩, h a' b' v w Z' (Int.le_refl _) (by omega) F' W⟩
theorem k_stepLeave (Z : zTn a b v C D lf cur w (d + 1) f) (hm : a 45 1 = m ∧ a 47 1 = m) (P0 : 0 ≤ P) (Pm : P < m) (m2 : m ≤ 240) (hr : a 48 P = -4) (v2 : v ≤ 482)
    (h : ∀ b', zTn a b' v C D lf (f d) (-1) d f → zWf a a b b' (lf + 1) C → (∀ Kf : qM → Prop, Kf b' → c_m_leaves X b Kf) → L_Tree_addInline_8 X (f d) (-1) (P + 1) a K) : L_Tree_addInline_8 X cur w P a K := by
  obtain ⟨l0, lc, cv, nc, k66, k68, k70, c0, c2⟩ := Z.cur'
  obtain ⟨t1, t2, t3, t4, t5, t6, t7, t8, t9, t10, t11, t12, t13⟩ := Z.T.sz
  have u0 : 0 ≤ cur := Int.le_trans l0 lc
  obtain ⟨b', ⟨g1, g2, g3, g4⟩, W⟩ := z_1V (k_m_leaves (X := X) (b := b) (K := fun b' => (∀ r, r ≠ 113 → b' r = b r) ∧ (∀ j, j ≠ 54 → j ≠ 55 → b' 113 j = b 113 j) ∧ b' 113 54 = b 132 (b 113 54) ∧ b' 113 55 = 1) (by rw [Z.cu]; exact ⟨u0, by omega⟩) (fun b' h1 h2 h3 h4 => ⟨h1, h2, h3, h4⟩))
  rw [Z.cu] at g3
  obtain ⟨e, Z', F'⟩ := Z.lv g1 g2 g3 g4
  refine k_role hm P0 Pm m2 hr (z_t (by decide) (z_f (by decide) (k_Row_at q_row_67 (by omega) ?_)))
  rw [zT_in u0 (by omega), show a (67 + 1) cur = b 132 cur from k68, e]
  exact ⟨⟨by omega, by omega⟩, h b' Z' F' W⟩
/-- both enter a node of stars -/
theorem k_stepEnter (Z : zTn a b v C D lf cur w d f) (hm : a 45 1 = m ∧ a 47 1 = m ∧ a 49 1 = m) (P0 : 0 ≤ P) (Pm : P < m) (m2 : m ≤ 240) (hr : a 48 P = κ) (hs : a 50 P = -1) (v2 : v ≤ 481) (kk : κ = 9 ∨ κ = 10)
    (h : ∀ a' b', zTn a' b' (v + 1) C D lf v (-1) (d + 1) (fun i => if i ≤ d then f i else v) → zWf a a' b b' (lf + 1) C → (∀ Kf : qM → Prop, Kf b' → c_m_enters X κ b Kf) → L_Tree_addInline_8 X v (-1) (P + 1) a' K) : L_Tree_addInline_8 X cur w P a K := by
  obtain ⟨l0, lc, cv, nc, k66, k68, k70, c0, c2⟩ := Z.cur'
  obtain ⟨t1, t2, t3, t4, t5, t6, t7, t8, t9, t10, t11, t12, t13⟩ := Z.T.sz
  have u0 : 0 ≤ cur := Int.le_trans l0 lc
  obtain ⟨b', ⟨b1, B1, g1, g2, g3, g4⟩, W⟩ := z_1V (k_m_enters (X := X) (b := b) (κ := κ) (K := fun b' => ∃ b1, zNb2 b b1 v κ cur 0 D ∧ (∀ r, r ≠ 113 → b' r = b1 r) ∧ (∀ j, j ≠ 54 → j ≠ 55 → b' 113 j = b1 113 j) ∧ b' 113 54 = v ∧ b' 113 55 = 0) t9 Z.cu t10 (by omega) (by omega) ⟨u0, cv⟩ ⟨c0, by omega⟩ (fun b1 b' h1 h2 h3 h4 h5 => ⟨b1, h1, h2, h3, h4, h5⟩))
  refine k_role ⟨hm.1, hm.2.1⟩ P0 Pm m2 hr (z_t (by omega) (z_t (by omega) (z_f (by omega) (sg_Il_signAt (k_Row_at q_row_49 (by omega) ?_)))))
  rw [zT_in P0 (by omega), show a (49 + 1) P = -1 from hs]
  refine k_Tree_add ⟨t1, t2, t3, t4, t5, t6, t7, t8⟩ t11 (by omega) (Or.inr ⟨u0, cv⟩) (fun _ => by rw [k70]; omega) (fun a' A1 => ?_)
  obtain ⟨Z', F'⟩ := Z.ent A1 B1 (fun r x _ => g1 r x) g2 g3 g4 (fun i hi => by rw [g1 136 (by decide), B1.f136, q_u_ne hi]) (by omega) (fun _ => rfl) (fun z => by omega)
  exact ⟨⟨by omega, by omega⟩, h a' b' Z' F' W⟩
/-- both enter a link -/
theorem k_stepLink {k τ : Int} (Z : zTn a b v C D lf cur w d f) (hm : a 45 1 = m ∧ a 47 1 = m ∧ a 49 1 = m) (P0 : 0 ≤ P) (Pm : P < m) (m2 : m ≤ 240) (hr : a 48 P = 12) (k0 : 0 ≤ k) (k2 : k < 241) (hτ : b 143 k = τ) (hs : zLk a b (a 50 P) τ) (v2 : v ≤ 481)
    (h : ∀ a' b', zTn a' b' (v + 1) C D lf v (-1) (d + 1) (fun i => if i ≤ d then f i else v) → zWf a a' b b' (lf + 1) C → (∀ Kf : qM → Prop, Kf b' → c_m_enters X 12 b (fun s4 => ((0 : Int) ≤ k) ∧ (k < (241 : Int)) ∧ ((0 : Int) ≤ (s4 113 54)) ∧ ((s4 113 54) < (900 : Int)) ∧ (∀ s5 : qM, s5 = q_up s4 136 (s4 113 54) (s4 143 k) → Kf s5))) → L_Tree_addInline_8 X v (-1) (P + 1) a' K) : L_Tree_addInline_8 X cur w P a K := by
  obtain ⟨l0, lc, cv, nc, k66, k68, k70, c0, c2⟩ := Z.cur'
  obtain ⟨t1, t2, t3, t4, t5, t6, t7, t8, t9, t10, t11, t12, t13⟩ := Z.T.sz
  have u0 : 0 ≤ cur := Int.le_trans l0 lc
  obtain ⟨b2, ⟨b1, B1, g1, g2, g3, g4⟩, W⟩ := z_1V (k_m_enters (X := X) (b := b) (κ := 12) (K := fun b' => ∃ b1, zNb2 b b1 v 12 cur 0 D ∧ (∀ r, r ≠ 113 → b' r = b1 r) ∧ (∀ j, j ≠ 54 → j ≠ 55 → b' 113 j = b1 113 j) ∧ b' 113 54 = v ∧ b' 113 55 = 0) t9 Z.cu t10 (by omega) (by omega) ⟨u0, cv⟩ ⟨c0, by omega⟩ (fun b1 b' h1 h2 h3 h4 h5 => ⟨b1, h1, h2, h3, h4, h5⟩))
  generalize e : q_up b2 136 v τ = b'
  have f1 : ∀ r, r ≠ 113 → r ≠ 136 → b' r = b1 r := fun r x y => by rw [← e, q_up_ne y]; exact g1 r x
  have f113 : b' 113 = b2 113 := by rw [← e, q_up_ne (by decide)]
  have f136 : b' 136 = q_u (b1 136) v τ := by rw [← e, q_up_fn, g1 136 (by decide)]
  have e143 : b2 143 k = τ := by rw [g1 143 (by decide), B1.fr 143 (by decide) (by decide) (by decide) (by decide) (by decide) (by decide) (by decide)]; exact hτ
  refine k_role ⟨hm.1, hm.2.1⟩ P0 Pm m2 hr (z_t (by decide) (z_t (by decide) (z_f (by decide) (sg_Il_signAt (k_Row_at q_row_49 (by omega) ?_)))))
  rw [zT_in P0 (by omega), show a (49 + 1) P = a 50 P from rfl]
  refine k_Tree_add ⟨t1, t2, t3, t4, t5, t6, t7, t8⟩ t11 (by omega) (Or.inr ⟨u0, cv⟩) (fun _ => by rw [k70]; omega) (fun a' A1 => ?_)
  obtain ⟨Z', F'⟩ := Z.ent (b' := b') A1 B1 f1 (fun j x y => by rw [f113]; exact g2 j x y) (by rw [f113]; exact g3) (by rw [f113]; exact g4) (fun i hi => by rw [f136, q_u_ne hi, B1.f136, q_u_ne hi]) (Or.inr (Or.inr rfl)) (fun z => absurd rfl z) (fun _ => by rw [f136, q_u_at]; exact hs)
  refine ⟨⟨by omega, by omega⟩, h a' b' Z' F' (fun Kf hk => W _ ?_)⟩
  rw [g3, e143]
  exact ⟨k0, k2, t11, by omega, fun s5 e5 => by rw [e5, e]; exact hk⟩
end Step2
