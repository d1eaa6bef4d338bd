/-! The tree: the steps of the walk through a leaf, in both at once. -/
/-- in the leaf lf: the current node is cur, d levels down; w the class's text that goes on -/
def zTn (a b : qM) (v C D lf cur w : Int) (d : Nat) (f : Nat → Int) : Prop := (zTr a b v C D) ∧ (b 113 54 = cur) ∧ (f 0 = lf ∧ f d = cur ∧ 0 ≤ lf) ∧ (∀ i, i ≤ d → lf ≤ f i ∧ f i < v ∧ b 131 (f i) ≠ 11) ∧ (∀ i, i < d → b 132 (f (i + 1)) = f i) ∧ (∀ i, i ≤ d → ∀ j, f i < j → j < v → f i ≤ b 132 j) ∧ (∀ j, lf < j → j < v → 8 ≤ b 131 j) ∧ ((w = -1 ∧ ¬ (b 131 (v - 1) = 8 ∧ b 132 (v - 1) = cur ∧ b 113 55 = 0)) ∨ (w = v - 1 ∧ lf < w ∧ b 131 w = 8 ∧ b 132 w = cur ∧ b 113 55 = 0 ∧ a 76 w + a 78 w = C ∧ b 153 w + b 134 w = D))
theorem zTn.mk {a b : qM} {v C D lf cur w : Int} {d : Nat} {f : Nat → Int} (T : zTr a b v C D) (cu : b 113 54 = cur) (ch : f 0 = lf ∧ f d = cur ∧ 0 ≤ lf) (cl : ∀ i, i ≤ d → lf ≤ f i ∧ f i < v ∧ b 131 (f i) ≠ 11) (pa : ∀ i, i < d → b 132 (f (i + 1)) = f i) (ins : ∀ i, i ≤ d → ∀ j, f i < j → j < v → f i ≤ b 132 j) (inl : ∀ j, lf < j → j < v → 8 ≤ b 131 j) (go : (w = -1 ∧ ¬ (b 131 (v - 1) = 8 ∧ b 132 (v - 1) = cur ∧ b 113 55 = 0)) ∨ (w = v - 1 ∧ lf < w ∧ b 131 w = 8 ∧ b 132 w = cur ∧ b 113 55 = 0 ∧ a 76 w + a 78 w = C ∧ b 153 w + b 134 w = D)) : zTn a b v C D lf cur w d f := ⟨T, cu, ch, cl, pa, ins, inl, go⟩
theorem zTn.T {a b : qM} {v C D lf cur w : Int} {d : Nat} {f : Nat → Int} (h : zTn a b v C D lf cur w d f) : zTr a b v C D := h.1
theorem zTn.cu {a b : qM} {v C D lf cur w : Int} {d : Nat} {f : Nat → Int} (h : zTn a b v C D lf cur w d f) : b 113 54 = cur := h.2.1
theorem zTn.ch {a b : qM} {v C D lf cur w : Int} {d : Nat} {f : Nat → Int} (h : zTn a b v C D lf cur w d f) : f 0 = lf ∧ f d = cur ∧ 0 ≤ lf := h.2.2.1
theorem zTn.cl {a b : qM} {v C D lf cur w : Int} {d : Nat} {f : Nat → Int} (h : zTn a b v C D lf cur w d f) : ∀ i, i ≤ d → lf ≤ f i ∧ f i < v ∧ b 131 (f i) ≠ 11 := h.2.2.2.1
theorem zTn.pa {a b : qM} {v C D lf cur w : Int} {d : Nat} {f : Nat → Int} (h : zTn a b v C D lf cur w d f) : ∀ i, i < d → b 132 (f (i + 1)) = f i := h.2.2.2.2.1
theorem zTn.ins {a b : qM} {v C D lf cur w : Int} {d : Nat} {f : Nat → Int} (h : zTn a b v C D lf cur w d f) : ∀ i, i ≤ d → ∀ j, f i < j → j < v → f i ≤ b 132 j := h.2.2.2.2.2.1
theorem zTn.inl {a b : qM} {v C D lf cur w : Int} {d : Nat} {f : Nat → Int} (h : zTn a b v C D lf cur w d f) : ∀ j, lf < j → j < v → 8 ≤ b 131 j := h.2.2.2.2.2.2.1
theorem zTn.go {a b : qM} {v C D lf cur w : Int} {d : Nat} {f : Nat → Int} (h : zTn a b v C D lf cur w d f) : (w = -1 ∧ ¬ (b 131 (v - 1) = 8 ∧ b 132 (v - 1) = cur ∧ b 113 55 = 0)) ∨ (w = v - 1 ∧ lf < w ∧ b 131 w = 8 ∧ b 132 w = cur ∧ b 113 55 = 0 ∧ a 76 w + a 78 w = C ∧ b 153 w + b 134 w = D) := h.2.2.2.2.2.2.2
/-- what the walk leaves as it is -/
def zWf (a a' b b' : qM) (V0 C0 : Int) : Prop := (∀ r, r < 65 ∨ 80 < r → a' r = a r) ∧ (∀ r, r ≠ 113 → r < 131 ∨ r = 135 ∨ 136 < r → r ≠ 152 → r ≠ 153 → b' r = b r) ∧ (∀ j, j ≠ 20 → j ≠ 51 → j ≠ 54 → j ≠ 55 → b' 113 j = b 113 j) ∧ (∀ i, i < V0 → b' 131 i = b 131 i ∧ b' 132 i = b 132 i ∧ b' 134 i = b 134 i ∧ a' 76 i = a 76 i ∧ a' 78 i = a 78 i) ∧ (∀ i, i < C0 → a' 80 i = a 80 i)
theorem zWf.mk {a a' b b' : qM} {V0 C0 : Int} (fa : ∀ r, r < 65 ∨ 80 < r → a' r = a r) (fb : ∀ r, r ≠ 113 → r < 131 ∨ r = 135 ∨ 136 < r → r ≠ 152 → r ≠ 153 → b' r = b r) (fj : ∀ j, j ≠ 20 → j ≠ 51 → j ≠ 54 → j ≠ 55 → b' 113 j = b 113 j) (od : ∀ i, i < V0 → b' 131 i = b 131 i ∧ b' 132 i = b 132 i ∧ b' 134 i = b 134 i ∧ a' 76 i = a 76 i ∧ a' 78 i = a 78 i) (oc : ∀ i, i < C0 → a' 80 i = a 80 i) : zWf a a' b b' V0 C0 := ⟨fa, fb, fj, od, oc⟩
theorem zWf.fa {a a' b b' : qM} {V0 C0 : Int} (h : zWf a a' b b' V0 C0) : ∀ r, r < 65 ∨ 80 < r → a' r = a r := h.1
theorem zWf.fb {a a' b b' : qM} {V0 C0 : Int} (h : zWf a a' b b' V0 C0) : ∀ r, r ≠ 113 → r < 131 ∨ r = 135 ∨ 136 < r → r ≠ 152 → r ≠ 153 → b' r = b r := h.2.1
theorem zWf.fj {a a' b b' : qM} {V0 C0 : Int} (h : zWf a a' b b' V0 C0) : ∀ j, j ≠ 20 → j ≠ 51 → j ≠ 54 → j ≠ 55 → b' 113 j = b 113 j := h.2.2.1
theorem zWf.od {a a' b b' : qM} {V0 C0 : Int} (h : zWf a a' b b' V0 C0) : ∀ i, i < V0 → b' 131 i = b 131 i ∧ b' 132 i = b 132 i ∧ b' 134 i = b 134 i ∧ a' 76 i = a 76 i ∧ a' 78 i = a 78 i := h.2.2.2.1
theorem zWf.oc {a a' b b' : qM} {V0 C0 : Int} (h : zWf a a' b b' V0 C0) : ∀ i, i < C0 → a' 80 i = a 80 i := h.2.2.2.2
section Steps
variable {X : Nat × (Nat → Int32)} {a b a' b' a'' b'' : qM} {K : qM → Prop} {KI : Int → qM → Prop} {v C D κ par σ told w x lf cur V0 C0 P m : Int} {d : Nat} {f : Nat → Int}
theorem zWf.rfl' : zWf a a b b V0 C0 := zWf.mk (fun _ _ => rfl) (fun _ _ _ _ _ => rfl) (fun _ _ _ _ _ => rfl) (fun _ _ => ⟨rfl, rfl, rfl, rfl, rfl⟩) (fun _ _ => rfl)
theorem zWf.tr {C1 : Int} (F : zWf a a' b b' V0 C0) (G : zWf a' a'' b' b'' V0 C1) (hc : C0 ≤ C1) : zWf a a'' b b'' V0 C0 := by
  refine zWf.mk (fun r h => (G.fa r h).trans (F.fa r h)) (fun r h1 h2 h3 h4 => (G.fb r h1 h2 h3 h4).trans (F.fb r h1 h2 h3 h4)) (fun j h1 h2 h3 h4 => (G.fj j h1 h2 h3 h4).trans (F.fj j h1 h2 h3 h4)) (fun i hi => ?_) (fun i hi => (G.oc i (by omega)).trans (F.oc i hi))
  obtain ⟨g1, g2, g3, g4, g5⟩ := G.od i hi
  obtain ⟨f1, f2, f3, f4, f5⟩ := F.od i hi
  exact ⟨g1.trans f1, g2.trans f2, g3.trans f3, g4.trans f4, g5.trans f5⟩
theorem zWf.lo {V1 C1 : Int} (F : zWf a a' b b' V0 C0) (hv : V1 ≤ V0) (hc : C1 ≤ C0) : zWf a a' b b' V1 C1 :=
  zWf.mk F.fa F.fb F.fj (fun i hi => F.od i (by omega)) (fun i hi => F.oc i (by omega))
/-- the model's steps -/
theorem k_m_addsGo (h20 : b 113 20 = v) (h51 : b 113 51 = D) (v1 : 1 ≤ v) (v2 : v ≤ 900) (D0 : 0 ≤ D) (D2 : D < 300) (g1 : b 131 (v - 1) = 8) (g2 : b 132 (v - 1) = b 113 54) (g3 : b 113 55 = 0) (t0 : 0 ≤ b 134 (v - 1)) (t2 : b 134 (v - 1) ≤ 1000) (h : ∀ b', zPx b b' (v - 1) D x → b' 113 55 = 0 → K b') : c_m_addsCharacter X x b K := by
  refine sg_m_addsCharacter ?_
  rw [h20]
  refine ⟨by omega, by omega, by omega, z_f (fun z => z g1) ⟨by omega, by omega, by omega, z_f (fun z => z g2) (z_f (fun z => z g3) (sg_m_addsCharacter_46 (z_f (by decide) ?_)))⟩⟩
  rw [h20, h51]
  refine ⟨by omega, D0, D2, fun s7 e7 => ?_⟩
  have q51 : s7 113 51 = D := by rw [e7, q_up_ne (by decide)]; exact h51
  rw [q51]
  refine ⟨by omega, fun s8 e8 => ?_⟩
  have q134 : s8 134 = b 134 := by rw [e8, q_up_ne (by decide), e7, q_up_ne (by decide)]
  rw [q134]
  refine ⟨by omega, by omega, by omega, by omega, by omega, fun s9 e9 s10 e10 => h s10 (zPx.mk (fun r x y z => ?_) (fun j u w => ?_) ?_ ?_ ?_) (by rw [e10, q_up_at])⟩
  · rw [e10, q_up_ne x, e9, q_up_ne y, e8, q_up_ne x, e7, q_up_ne z]
  · rw [e10, q_up_nj w, e9, q_up_ne (by decide), e8, q_up_nj u, e7, q_up_ne (by decide)]
  · rw [e10, q_up_nj (by decide), e9, q_up_ne (by decide), e8, q_up_at]
  · rw [e10, q_up_ne (by decide), e9, q_up_fn, q134]
  · rw [e10, q_up_ne (by decide), e9, q_up_ne (by decide), e8, q_up_ne (by decide), e7, q_up_fn]
theorem k_m_addsNew (h20 : b 113 20 = v) (h54 : b 113 54 = par) (h51 : b 113 51 = D) (v1 : 1 ≤ v) (v2 : v < 900) (D0 : 0 ≤ D) (D2 : D < 300) (hg : ¬ (b 131 (v - 1) = 8 ∧ b 132 (v - 1) = par ∧ b 113 55 = 0)) (hp : 0 ≤ par ∧ par < v) (c0 : 0 ≤ b 133 par ∧ b 133 par ≤ 1000) (h : ∀ b1 b', zNb2 b b1 v 8 par 0 D → zPx b1 b' v D x → b' 113 55 = 0 → K b') : c_m_addsCharacter X x b K := by
  have new : L_m_addsCharacter_46 X x 0 b K := by
    refine sg_m_addsCharacter_46 (z_t rfl (k_m_addsNode h20 h54 h51 (by omega) v2 (Or.inr hp) (fun _ => c0) (fun b1 B => ?_)))
    have q51 : b1 113 51 = D := by rw [B.f113 51 (by decide)]; exact h51
    rw [q51]
    refine ⟨D0, D2, fun s3 e3 => ?_⟩
    have r51 : s3 113 51 = D := by rw [e3, q_up_ne (by decide)]; exact q51
    rw [r51]
    refine ⟨by omega, fun s4 e4 => ?_⟩
    have q134 : s4 134 = b1 134 := by rw [e4, q_up_ne (by decide), e3, q_up_ne (by decide)]
    have q134v : b1 134 v = 0 := by rw [B.f134, q_u_at]
    rw [q134, q134v]
    refine ⟨by omega, v2, by omega, by omega, v2, fun s5 e5 s6 e6 => h b1 s6 B (zPx.mk (fun r x y z => ?_) (fun j u w => ?_) ?_ ?_ ?_) (by rw [e6, q_up_at])⟩
    · rw [e6, q_up_ne x, e5, q_up_ne y, e4, q_up_ne x, e3, q_up_ne z]
    · rw [e6, q_up_nj w, e5, q_up_ne (by decide), e4, q_up_nj u, e3, q_up_ne (by decide)]
    · rw [e6, q_up_nj (by decide), e5, q_up_ne (by decide), e4, q_up_at]
    · rw [e6, q_up_ne (by decide), e5, q_up_fn, q134, q134v]
    · rw [e6, q_up_ne (by decide), e5, q_up_ne (by decide), e4, q_up_ne (by decide), e3, q_up_fn]
  refine sg_m_addsCharacter ?_
  rw [h20, h54]
  refine ⟨by omega, by omega, by omega, z_c (fun _ => new) (fun g1 => ⟨by omega, by omega, by omega, z_c (fun _ => new) (fun g2 => z_c (fun _ => new) (fun g3 => ?_))⟩)⟩
  exact absurd ⟨Decidable.not_not.mp g1, Decidable.not_not.mp g2, Decidable.not_not.mp g3⟩ hg
theorem k_m_enters (h20 : b 113 20 = v) (h54 : b 113 54 = par) (h51 : b 113 51 = D) (v1 : 1 ≤ v) (v2 : v < 900) (hp : 0 ≤ par ∧ par < v) (c0 : 0 ≤ b 133 par ∧ b 133 par ≤ 1000) (h : ∀ b1 b', zNb2 b b1 v κ par 0 D → (∀ r, r ≠ 113 → b' r = b1 r) → (∀ j, j ≠ 54 → j ≠ 55 → b' 113 j = b1 113 j) → b' 113 54 = v → b' 113 55 = 0 → K b') : c_m_enters X κ b K := by
  refine sg_m_enters (k_m_addsNode h20 h54 h51 (by omega) v2 (Or.inr hp) (fun _ => c0) (fun b1 B s3 e3 s4 e4 => h b1 s4 B (fun r hr => ?_) (fun j x y => ?_) ?_ ?_))
  · rw [e4, q_up_ne hr, e3, q_up_ne hr]
  · rw [e4, q_up_nj y, e3, q_up_nj x]
  · rw [e4, q_up_nj (by decide), e3, q_up_at]
  · rw [e4, q_up_at]
theorem k_m_leaves (hp : 0 ≤ b 113 54 ∧ b 113 54 < 900) (h : ∀ b', (∀ r, r ≠ 113 → b' r = b r) → (∀ j, j ≠ 54 → j ≠ 55 → b' 113 j = b 113 j) → b' 113 54 = b 132 (b 113 54) → b' 113 55 = 1 → K b') : c_m_leaves X b K := by
  refine sg_m_leaves ⟨hp.1, hp.2, fun s1 e1 s2 e2 => h s2 (fun r hr => ?_) (fun j x y => ?_) ?_ ?_⟩
  · rw [e2, q_up_ne hr, e1, q_up_ne hr]
  · rw [e2, q_up_nj y, e1, q_up_nj x]
  · rw [e2, q_up_nj (by decide), e1, q_up_at]
  · rw [e2, q_up_at]
/-- the class at a place: its role -/
theorem k_role {ro : Int} (hm : a 45 1 = m ∧ a 47 1 = m) (P0 : 0 ≤ P) (Pm : P < m) (m2 : m ≤ 240) (hr : a 48 P = ro) {cu ww : Int} (h : (((ro ≠ 0) → (((ro ≠ (-4)) → (((ro = (-3)) → (-2147483648 ≤ (P + 1) ∧ (P + 1) < 2147483648) ∧ L_Tree_addInline_8 X cu ww (P + 1) a K) ∧ (¬ (ro = (-3)) → c_Il_signAt X P a (fun r6 s5 => c_Tree_add X ro cu r6 s5 (fun r8 s7 => (-2147483648 ≤ (P + 1) ∧ (P + 1) < 2147483648) ∧ L_Tree_addInline_8 X r8 (-1) (P + 1) s7 K))))) ∧ (¬ (ro ≠ (-4)) → c_Row_at X 67 cu a (fun r10 s9 => (-2147483648 ≤ (P + 1) ∧ (P + 1) < 2147483648) ∧ L_Tree_addInline_8 X r10 (-1) (P + 1) s9 K)))) ∧ (¬ (ro ≠ 0) → c_Row_at X 65 cu a (fun r12 s11 => (((r12 ≠ 11) → (((ww ≠ (-1)) → c_Il_characterAt X P s11 (fun r14 s13 => c_Tree_addContent X ww r14 s13 (fun s15 => c_Row_at X 77 ww s15 (fun r17 s16 => c_Row_set X 71 ww r17 s16 (fun s18 => (-2147483648 ≤ (P + 1) ∧ (P + 1) < 2147483648) ∧ L_Tree_addInline_8 X cu ww (P + 1) s18 K))))) ∧ (¬ (ww ≠ (-1)) → c_Tree_add X 8 cu (-1) s11 (fun r20 s19 => c_Il_characterAt X P s19 (fun r22 s21 => c_Tree_addContent X r20 r22 s21 (fun s23 => c_Row_at X 77 r20 s23 (fun r25 s24 => c_Row_set X 71 r20 r25 s24 (fun s26 => (-2147483648 ≤ (P + 1) ∧ (P + 1) < 2147483648) ∧ L_Tree_addInline_8 X cu r20 (P + 1) s26 K)))))))) ∧ (¬ (r12 ≠ 11) → c_Il_characterAt X P s11 (fun r28 s27 => c_Tree_addContent X cu r28 s27 (fun s29 => c_Row_at X 77 cu s29 (fun r31 s30 => c_Row_set X 71 cu r31 s30 (fun s32 => (-2147483648 ≤ (P + 1) ∧ (P + 1) < 2147483648) ∧ L_Tree_addInline_8 X cu cu (P + 1) s32 K)))))))))) : L_Tree_addInline_8 X cu ww P a K := by
  refine sg_Tree_addInline_8 (sg_Il_size (k_Row_size q_row_45 (z_f (by omega) (sg_Il_roleAt (k_Row_at q_row_47 (by omega) ?_)))))
  rw [zT_in P0 (by omega), show a (47 + 1) P = ro from hr]
  exact h
theorem k_char (hm : a 45 1 = m) (P0 : 0 ≤ P) (Pm : P < m) (m2 : m ≤ 240) (h : KI (a 46 P) a) : c_Il_characterAt X P a KI := by
  refine sg_Il_characterAt (k_Row_at q_row_45 (by omega) ?_)
  rw [zT_in P0 (by omega)]; exact h
/-- PASSED -/
theorem k_passed (hm : a 45 1 = m ∧ a 47 1 = m) (P0 : 0 ≤ P) (Pm : P < m) (m2 : m ≤ 240) (hr : a 48 P = -3) {cu ww : Int} (h : L_Tree_addInline_8 X cu ww (P + 1) a K) : L_Tree_addInline_8 X cu ww P a K :=
  k_role hm P0 Pm m2 hr (z_t (by decide) (z_t (by decide) (z_t rfl ⟨⟨by omega, by omega⟩, h⟩)))
end Steps
