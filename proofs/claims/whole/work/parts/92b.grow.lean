/-! The class's tree, made once, is what the model's trees() makes at every call. -/
/-- the model's store b has the text of s -/
def zSame (s b : qM) : Prop := b 113 0 = s 1 1 ∧ ∀ i, 0 ≤ i → i < s 1 1 → b 114 i = s 2 i
/-- what the model's trees() leaves -/
def zMf (b b' : qM) : Prop := (∀ r, r < 113 ∨ r = 114 ∨ r = 115 ∨ r = 116 ∨ 154 ≤ r → b' r = b r) ∧ (b' 113 0 = b 113 0 ∧ b' 113 47 = b 113 47)
theorem zMf.mk {b b' : qM} (fr : ∀ r, r < 113 ∨ r = 114 ∨ r = 115 ∨ r = 116 ∨ 154 ≤ r → b' r = b r) (fj : b' 113 0 = b 113 0 ∧ b' 113 47 = b 113 47) : zMf b b' := ⟨fr, fj⟩
theorem zMf.fr {b b' : qM} (h : zMf b b') : ∀ r, r < 113 ∨ r = 114 ∨ r = 115 ∨ r = 116 ∨ 154 ≤ r → b' r = b r := h.1
theorem zMf.fj {b b' : qM} (h : zMf b b') : b' 113 0 = b 113 0 ∧ b' 113 47 = b 113 47 := h.2
/-- the row r is what the model prints to target τ -/
def zPq (X : Nat × (Nat → Int32)) (a b : qM) (r : Nat) (τ : Int) : Prop := ∃ g : qM, (∀ Kf : qM → Prop, Kf g → L_m_prints_13 X τ (-1) 0 (q_up b 113 45 0) Kf) ∧ (∀ q, q ≠ 113 → q ≠ 151 → g q = b q) ∧ (∀ j, j ≠ 45 → g 113 j = b 113 j) ∧ a r 1 = g 113 45 ∧ 0 ≤ a r 1 ∧ a r 1 ≤ 1927 ∧ ∀ i, 0 ≤ i → i < a r 1 → a (r + 1) i = g 151 i
/-- the class's tree and prints are those of the model's store b, that is behind its trees() -/
def zRt (X : Nat × (Nat → Int32)) (a b : qM) : Prop := ∃ (a0 : qM) (t : Int → Int) (N LL n v C D : Int), zGw a0 b t N LL n n v C D n ∧ v ≤ 481 ∧ (∀ r, 12 ≤ r → r < 84 → a r = a0 r) ∧ a 1 = a0 1 ∧ zPq X a b 84 0 ∧ zPq X a b 86 1
/-- the class's blocks are those of the model's store b, that is behind its blocks() -/
def zRb (a b : qM) : Prop := ∃ (a0 : qM) (t : Int → Int) (N LL n : Int), zBk a0 b t N LL n ∧ (∀ r, 12 ≤ r → r < 43 → a r = a0 r) ∧ a 1 = a0 1 ∧ a 2 = a0 2 ∧ a 8 1 = LL ∧ a 10 1 = LL ∧ zLn t N LL (a 9) (a 11)
section Grow
variable {X : Nat × (Nat → Int32)} {a b a' b' s : qM} {K : qM → Prop} {n : Int}
theorem k_Tree_start (h : ∀ a', (∀ r, r < 65 ∨ 82 < r → a' r = a r) → (a' 65 1 = 0 ∧ a' 67 1 = 0 ∧ a' 69 1 = 0 ∧ a' 71 1 = 0 ∧ a' 73 1 = 0 ∧ a' 75 1 = 0 ∧ a' 77 1 = 0 ∧ a' 79 1 = 0 ∧ a' 81 1 = 0) → K a') : c_Tree_start X a K := by
  refine sg_Tree_start (k_Row_clear q_row_65 (fun s1 f1 g1 => k_Row_clear q_row_67 (fun s2 f2 g2 => k_Row_clear q_row_69 (fun s3 f3 g3 => k_Row_clear q_row_71 (fun s4 f4 g4 => k_Row_clear q_row_73 (fun s5 f5 g5 => k_Row_clear q_row_75 (fun s6 f6 g6 => k_Row_clear q_row_77 (fun s7 f7 g7 => k_Row_clear q_row_79 (fun s8 f8 g8 => k_Row_clear q_row_81 (fun s9 f9 g9 => h s9 ?_ ⟨?_, ?_, ?_, ?_, ?_, ?_, ?_, ?_, g9⟩))))))))))
  · intro q hq
    rw [f9 q (by omega), f8 q (by omega), f7 q (by omega), f6 q (by omega), f5 q (by omega), f4 q (by omega), f3 q (by omega), f2 q (by omega), f1 q (by omega)]
  · rw [f9 65 (by decide), f8 65 (by decide), f7 65 (by decide), f6 65 (by decide), f5 65 (by decide), f4 65 (by decide), f3 65 (by decide), f2 65 (by decide)]; exact g1
  · rw [f9 67 (by decide), f8 67 (by decide), f7 67 (by decide), f6 67 (by decide), f5 67 (by decide), f4 67 (by decide), f3 67 (by decide)]; exact g2
  · rw [f9 69 (by decide), f8 69 (by decide), f7 69 (by decide), f6 69 (by decide), f5 69 (by decide), f4 69 (by decide)]; exact g3
  · rw [f9 71 (by decide), f8 71 (by decide), f7 71 (by decide), f6 71 (by decide), f5 71 (by decide)]; exact g4
  · rw [f9 73 (by decide), f8 73 (by decide), f7 73 (by decide), f6 73 (by decide)]; exact g5
  · rw [f9 75 (by decide), f8 75 (by decide), f7 75 (by decide)]; exact g6
  · rw [f9 77 (by decide), f8 77 (by decide)]; exact g7
  · rw [f9 79 (by decide)]; exact g8
theorem k_grow1 (N0 : 0 ≤ s 1 1) (N2 : s 1 1 ≤ 240) (ch : ∀ i, 0 ≤ i → i < s 1 1 → zChr (s 2 i)) (r0 : s 54 1 = 0 ∧ s 56 1 = 0 ∧ s 58 1 = 0 ∧ s 60 1 = 0 ∧ s 62 1 = 0) (hs : s 0 11 ≠ 0) (hb : zSame s b)
    (h : ∀ a' b', zRt X a' b' → zMf b b' → (∀ r, (1 ≤ r ∧ r < 8) ∨ 88 ≤ r → a' r = s r) → (∀ j, j ≠ 11 → a' 0 j = s 0 j) → a' 0 11 = 0 → (a' 54 1 = 0 ∧ a' 56 1 = 0 ∧ a' 58 1 = 0 ∧ a' 60 1 = 0 ∧ a' 62 1 = 0) → (∀ Kf : qM → Prop, Kf b' → c_m_trees X b Kf) → (∃ b1, zRb a' b1 ∧ zMf b b1 ∧ ∀ Kf : qM → Prop, Kf b1 → c_m_blocks X b Kf) → K a') : c_T_growTree X s K := by
  obtain ⟨hb1, hb2⟩ := hb
  refine sg_T_growTree (z_t hs (k_blocks (N := s 1 1) (b := b) rfl N0 N2 (fun i u w => ⟨(hb2 i u w).symm, by rw [hb2 i u w]; exact ch i u w⟩) hb1 (fun a1 b1 n d c LL Q Z W => ?_)))
  obtain ⟨x1, x2, x3⟩ := Z.T.fx
  have bk := Z.bk
  refine k_Tree_start (fun a2 f2 z2 => ?_)
  obtain ⟨y1, y2, y3, y4, y5, y6, y7, y8, y9⟩ := z2
  generalize e2 : q_up (q_up b1 113 20 0) 113 51 0 = b2
  have g2 : ∀ r, r ≠ 113 → b2 r = b1 r := fun r hr => by rw [← e2, q_up_ne hr, q_up_ne hr]
  have j2 : ∀ j, j ≠ 20 → j ≠ 51 → b2 113 j = b1 113 j := fun j u w => by rw [← e2, q_up_nj w, q_up_nj u]
  have n1 := bk.B.n1
  have G : zGw a2 b2 (b 114) (s 1 1) LL n 0 0 0 0 0 := by
    refine zGw.mk (bk.fr (fun q hq => f2 q (by omega)) (fun q u w => g2 q (by omega)) (j2 0 (by decide) (by decide)) (j2 4 (by decide) (by decide)) (j2 17 (by decide) (by decide))) ?_ ?_ ⟨y9, Int.le_refl 0, by omega, Int.le_refl 0⟩ (fun j u w => by omega) (fun j j' u w z => by omega) (fun i u w => by omega) (fun j u w => by omega) ⟨fun _ => rfl, fun z => by omega⟩
    · refine zTr.mk ⟨y1, y2, y3, y4, y5, y6, y7, y8, by rw [← e2, q_up_nj (by decide), q_up_at], by rw [← e2, q_up_at], Int.le_refl 0, Int.le_refl 0, Int.le_refl 0⟩ (fun i u w => by omega) (fun i u w => by omega) (fun i u w => by omega) (fun i u w => by omega) (fun k j u w => by omega) rfl (fun i u w => by omega)
    · rw [f2 54 (by decide), f2 56 (by decide), f2 58 (by decide), f2 60 (by decide), f2 62 (by decide), x1 54 (by omega), x1 56 (by omega), x1 58 (by omega), x1 60 (by omega), x1 62 (by omega)]; exact r0
  refine k_trees16 (U := zU1 a2 b2) (V := zV a2 b2) n.toNat 0 a2 b2 0 0 0 (by omega) G rfl rfl (Int.le_refl 0) (Int.le_refl 0) (Int.le_refl 0) (fun a3 b3 v C D G3 F3 W3 l1 l2 l3 => ?_)
  refine k_write G3 l1 (by omega) (by omega) (fun a4 g0 g1 P w0 w1 V0 V1 s4 e4 => ?_)
  have c0 : ∀ r, r ≠ 0 → s4 r = a4 r := fun r hr => by rw [e4, q_up_ne hr]
  have cj : ∀ j, j ≠ 11 → s4 0 j = a4 0 j := fun j hj => by rw [e4, q_up_nj hj]
  have r3 := G3.r0
  refine h s4 b3 ⟨a3, b 114, s 1 1, LL, n, v, C, D, G3, l1, fun r u w => by rw [c0 r (by omega)]; exact P.fa r (by omega), by rw [c0 1 (by decide)]; exact P.fa 1 (by omega), ?_, ?_⟩ (zMf.mk (fun r hr => ?_) ⟨?_, ?_⟩) (fun r hr => ?_) (fun j hj => ?_) ?_ ?_ (fun Kf hk => ?_) ⟨b1, ⟨a1, b 114, s 1 1, LL, n, bk, fun r u w => ?_, ?_, ?_, ?_, ?_, ?_⟩, zMf.mk (fun r hr => ?_) ⟨?_, ?_⟩, fun Kf hk => W Kf hk⟩
  · refine ⟨g0, V0, P.f0.1, P.f0.2, ?_⟩
    rw [c0 84 (by decide), c0 (84 + 1) (by decide)]
    exact ⟨P.m.1, P.m.2.1, w0, P.m.2.2⟩
  · refine ⟨g1, V1, P.f1.1, P.f1.2, ?_⟩
    rw [c0 86 (by decide), c0 (86 + 1) (by decide)]
    exact ⟨P.p.1, P.p.2.1, w1, P.p.2.2⟩
  · rw [F3.fb r (by omega) (by omega), g2 r (by omega)]
    by_cases z : r = 114
    · rw [z]; exact Z.T.bt.2
    · exact x2 r (by omega)
  · rw [F3.fj 0 (by decide) (by decide) (by decide) (by decide) (by decide) (by decide) (by decide), j2 0 (by decide) (by decide)]; exact x3 0 (by decide) (by decide) (by decide) (by decide) (by decide)
  · rw [F3.fj 47 (by decide) (by decide) (by decide) (by decide) (by decide) (by decide) (by decide), j2 47 (by decide) (by decide)]; exact x3 47 (by decide) (by decide) (by decide) (by decide) (by decide)
  · rw [c0 r (by omega), P.fa r (by omega), F3.fa r (by omega), f2 r (by omega)]; exact x1 r (by omega)
  · rw [cj j hj, P.fa 0 (by omega), F3.fa 0 (by omega), f2 0 (by omega), x1 0 (by omega)]
  · rw [e4, q_up_at]
  · rw [c0 54 (by decide), c0 56 (by decide), c0 58 (by decide), c0 60 (by decide), c0 62 (by decide), P.fa 54 (by omega), P.fa 56 (by omega), P.fa 58 (by omega), P.fa 60 (by omega), P.fa 62 (by omega)]; exact r3
  · refine sg_m_trees (W _ (fun s2 es2 s3 es3 => ?_))
    rw [es3, es2, e2]
    exact W3 Kf hk
  · rw [c0 r (by omega), P.fa r (by omega), F3.fa r (by omega), f2 r (by omega)]
  · rw [c0 1 (by decide), P.fa 1 (by omega), F3.fa 1 (by omega), f2 1 (by omega)]
  · rw [c0 2 (by decide), P.fa 2 (by omega), F3.fa 2 (by omega), f2 2 (by omega)]
  · rw [c0 8 (by decide), P.fa 8 (by omega), F3.fa 8 (by omega), f2 8 (by omega)]; exact bk.sz.1
  · rw [c0 10 (by decide), P.fa 10 (by omega), F3.fa 10 (by omega), f2 10 (by omega)]; exact bk.sz.2.1
  · rw [c0 9 (by decide), P.fa 9 (by omega), F3.fa 9 (by omega), f2 9 (by omega), c0 11 (by decide), P.fa 11 (by omega), F3.fa 11 (by omega), f2 11 (by omega)]; exact bk.ln
  · by_cases z : r = 114
    · rw [z]; exact Z.T.bt.2
    · exact x2 r (by omega)
  · exact x3 0 (by decide) (by decide) (by decide) (by decide) (by decide)
  · exact x3 47 (by decide) (by decide) (by decide) (by decide) (by decide)
/-- what the class has in store is the tree of its text -/
def zCc (X : Nat × (Nat → Int32)) (s : qM) : Prop := ∀ b : qM, zSame s b → (∃ b', zRt X s b' ∧ zMf b b' ∧ ∀ Kf : qM → Prop, Kf b' → c_m_trees X b Kf) ∧ ∃ b1, zRb s b1 ∧ zMf b b1 ∧ ∀ Kf : qM → Prop, Kf b1 → c_m_blocks X b Kf
theorem k_grow (T : zTx s) (r0 : s 54 1 = 0 ∧ s 56 1 = 0 ∧ s 58 1 = 0 ∧ s 60 1 = 0 ∧ s 62 1 = 0) (hc : s 0 11 = 0 → zCc X s)
    (h : ∀ a', zCc X a' → (∀ r, (1 ≤ r ∧ r < 8) ∨ 88 ≤ r → a' r = s r) → (∀ j, j ≠ 11 → a' 0 j = s 0 j) → a' 0 11 = 0 → (a' 54 1 = 0 ∧ a' 56 1 = 0 ∧ a' 58 1 = 0 ∧ a' 60 1 = 0 ∧ a' 62 1 = 0) → K a') : c_T_growTree X s K := by
  by_cases hs : s 0 11 = 0
  · exact sg_T_growTree (z_f (fun z => z hs) (h s (hc hs) (fun _ _ => rfl) (fun _ _ => rfl) hs r0))
  · obtain ⟨t1, t2, t3, t4⟩ := T
    have ch : ∀ i, 0 ≤ i → i < s 1 1 → zChr (s 2 i) := fun i u w => (t4 i u w).2
    have sm : zSame s s := ⟨t3, fun i u w => (t4 i u w).1⟩
    -- one end
    have one := z_2V (k_grow1 (X := X) (K := fun a' => (∀ r, (1 ≤ r ∧ r < 8) ∨ 88 ≤ r → a' r = s r) ∧ (∀ j, j ≠ 11 → a' 0 j = s 0 j) ∧ a' 0 11 = 0 ∧ (a' 54 1 = 0 ∧ a' 56 1 = 0 ∧ a' 58 1 = 0 ∧ a' 60 1 = 0 ∧ a' 62 1 = 0)) t1 t2 ch r0 hs sm (fun a' b' _ _ x y z w _ _ => ⟨x, y, z, w⟩))
    obtain ⟨a', ⟨f1, f2, f3, f4⟩, W, U⟩ := one
    refine W K (h a' (fun b hb => ?_) f1 f2 f3 f4)
    have hb' : zSame s b := by
      obtain ⟨q1, q2⟩ := hb
      have e1 : a' 1 = s 1 := f1 1 (by omega)
      have e2 : a' 2 = s 2 := f1 2 (by omega)
      exact ⟨by rw [q1, e1], fun i u w => by rw [q2 i u (by rw [e1]; exact w), e2]⟩
    exact U (fun a' => (∃ b', zRt X a' b' ∧ zMf b b' ∧ ∀ Kf : qM → Prop, Kf b' → c_m_trees X b Kf) ∧ ∃ b1, zRb a' b1 ∧ zMf b b1 ∧ ∀ Kf : qM → Prop, Kf b1 → c_m_blocks X b Kf) (k_grow1 (X := X) t1 t2 ch r0 hs hb' (fun a' b' R M _ _ _ _ W' B' => ⟨⟨b', R, M, W'⟩, B'⟩))
end Grow
