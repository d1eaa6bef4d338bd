/-! The blocks of the class are the model's. -/
section BlocksAll
variable {X : Nat × (Nat → Int32)} {a b s : qM} {K : qM → Prop} {gh : qM × qM} {t : Int → Int} {N LL n L P Q : Int} {d : Nat} {c : Nat → Int}
theorem k_lines : ∀ (m : Nat) (a b : qM) (n L P Q : Int) (d : Nat) (c : Nat → Int), LL - L = m → zLi a b gh t N LL n L P Q d c →
    (∀ a' b' n' d' c' Q', zLi a' b' gh t N LL n' LL (N + 1) Q' d' c' → (∀ Kf : qM → Prop, Kf b' → L_m_blocks_52 X P b Kf) → c_Tree_start X a' (fun s3 => L_T_growTree_58 X 0 s3 K)) → L_T_growTree_24 X L a K := by
  intro m
  induction m with
  | zero =>
    intro a b n L P Q d c hm Z h
    obtain ⟨n1, n2, n3⟩ := Z.T.n1
    have sz := Z.T.sz
    obtain ⟨p1, p2, p3, p4, p5⟩ := Z.pos
    have eL : L = LL := by omega
    rw [if_neg (by omega)] at p2
    refine sg_T_growTree_24 (sg_Lines_many q_lines_7 (k_Row_size q_row_10 (z_t (by omega) ?_)))
    rw [eL, p2] at Z
    refine h a b n d c Q Z (fun Kf hk => sg_m_blocks_52 (z_t ?_ hk))
    rw [Z.T.bt.1]; omega
  | succ m ih =>
    intro a b n L P Q d c hm Z h
    obtain ⟨n1, n2, n3⟩ := Z.T.n1
    have sz := Z.T.sz
    obtain ⟨p1, p2, p3, p4, p5⟩ := Z.pos
    obtain ⟨q1, q2, q3, q4, q5, q6⟩ := Z.T.ln
    have L0 := Z.S.L0
    have lt : L < LL := by omega
    rw [if_pos lt] at p2
    obtain ⟨hB1, hB2, hB3⟩ := q4 L L0 lt
    rw [← p2] at hB1 hB2 hB3
    refine sg_T_growTree_24 (sg_Lines_many q_lines_7 (k_Row_size q_row_10 (z_f (by omega) (k_line Z lt (fun a' b' n' d' c' Z' W => ⟨by omega, ?_⟩)))))
    refine ih a' b' n' (L + 1) (a 11 L + 1) (a 11 L) d' c' (by omega) Z' (fun a2 b2 n2 d2 c2 Q2 Z2 W2 => h a2 b2 n2 d2 c2 Q2 Z2 (fun Kf hk => ?_))
    have bt := Z.T.bt
    have bt' := Z'.T.bt
    have ge := zEnd_is (t := t) hB2
    refine sg_m_blocks_52 (z_f (by rw [bt.1]; omega) (W _ (k_m_endOf hB1 (by rw [bt'.1]; omega) (by rw [bt'.1]; omega) ?_)))
    rw [show b' 114 = t from bt'.2, show b' 113 0 = N from bt'.1, ← hB3]
    exact ⟨by rw [hB3]; omega, W2 Kf hk⟩
theorem k_Row_clear {r M : Nat} (hr : q_isRow r M) (h : ∀ s', (∀ q, q ≠ r → s' q = s q) → s' r 1 = 0 → K s') : c_Row_empty X r s K :=
  k_Row_empty hr (h _ (fun q hq => q_up_ne hq) q_up_at)
theorem k_Blocks_start (hN : 0 ≤ N) (hN2 : N ≤ 240) (hL : 0 ≤ LL) (hL2 : LL ≤ 241) (h : ∀ s', (∀ q, q < 13 ∨ 42 < q → s' q = s q) → (s' 13 1 = 0 ∧ s' 15 1 = 0 ∧ s' 17 1 = 0 ∧ s' 19 1 = 0 ∧ s' 21 1 = 0 ∧ s' 23 1 = 0 ∧ s' 25 1 = 0 ∧ s' 27 1 = 0) → s' 29 1 = LL → s' 31 1 = LL → s' 33 1 = N → s' 37 1 = 0 → s' 41 1 = 0 → K s') : c_Blocks_start X N LL s K := by
  refine sg_Blocks_start (k_Row_clear q_row_13 (fun s1 f1 g1 => k_Row_clear q_row_15 (fun s2 f2 g2 => k_Row_clear q_row_17 (fun s3 f3 g3 => k_Row_clear q_row_19 (fun s4 f4 g4 => k_Row_clear q_row_21 (fun s5 f5 g5 => k_Row_clear q_row_23 (fun s6 f6 g6 => k_Row_clear q_row_25 (fun s7 f7 g7 => k_Row_clear q_row_27 (fun s8 f8 g8 => ?_)))))))))
  refine k_Row_fill q_row_29 hL hL2 (fun s9 f9 g9 _ => k_Row_fill q_row_31 hL hL2 (fun s10 f10 g10 _ => k_Row_fill q_row_33 hN hN2 (fun s11 f11 g11 _ => ?_)))
  refine sg_Names_empty q_names_35 (k_Row_clear q_row_37 (fun s12 f12 g12 => sg_Names_empty q_names_39 (k_Row_clear q_row_41 (fun s13 f13 g13 => h s13 ?_ ⟨?_, ?_, ?_, ?_, ?_, ?_, ?_, ?_⟩ ?_ ?_ ?_ ?_ g13))))
  · intro q hq
    rw [f13 q (by omega), f12 q (by omega), f11 q (by omega) (by omega), f10 q (by omega) (by omega), f9 q (by omega) (by omega), f8 q (by omega), f7 q (by omega), f6 q (by omega), f5 q (by omega), f4 q (by omega), f3 q (by omega), f2 q (by omega), f1 q (by omega)]
  · rw [f13 13 (by decide), f12 13 (by decide), f11 13 (by decide) (by decide), f10 13 (by decide) (by decide), f9 13 (by decide) (by decide), f8 13 (by decide), f7 13 (by decide), f6 13 (by decide), f5 13 (by decide), f4 13 (by decide), f3 13 (by decide), f2 13 (by decide)]; exact g1
  · rw [f13 15 (by decide), f12 15 (by decide), f11 15 (by decide) (by decide), f10 15 (by decide) (by decide), f9 15 (by decide) (by decide), f8 15 (by decide), f7 15 (by decide), f6 15 (by decide), f5 15 (by decide), f4 15 (by decide), f3 15 (by decide)]; exact g2
  · rw [f13 17 (by decide), f12 17 (by decide), f11 17 (by decide) (by decide), f10 17 (by decide) (by decide), f9 17 (by decide) (by decide), f8 17 (by decide), f7 17 (by decide), f6 17 (by decide), f5 17 (by decide), f4 17 (by decide)]; exact g3
  · rw [f13 19 (by decide), f12 19 (by decide), f11 19 (by decide) (by decide), f10 19 (by decide) (by decide), f9 19 (by decide) (by decide), f8 19 (by decide), f7 19 (by decide), f6 19 (by decide), f5 19 (by decide)]; exact g4
  · rw [f13 21 (by decide), f12 21 (by decide), f11 21 (by decide) (by decide), f10 21 (by decide) (by decide), f9 21 (by decide) (by decide), f8 21 (by decide), f7 21 (by decide), f6 21 (by decide)]; exact g5
  · rw [f13 23 (by decide), f12 23 (by decide), f11 23 (by decide) (by decide), f10 23 (by decide) (by decide), f9 23 (by decide) (by decide), f8 23 (by decide), f7 23 (by decide)]; exact g6
  · rw [f13 25 (by decide), f12 25 (by decide), f11 25 (by decide) (by decide), f10 25 (by decide) (by decide), f9 25 (by decide) (by decide), f8 25 (by decide)]; exact g7
  · rw [f13 27 (by decide), f12 27 (by decide), f11 27 (by decide) (by decide), f10 27 (by decide) (by decide), f9 27 (by decide) (by decide)]; exact g8
  · rw [f13 29 (by decide), f12 29 (by decide), f11 29 (by decide) (by decide), f10 29 (by decide) (by decide)]; exact g9
  · rw [f13 31 (by decide), f12 31 (by decide), f11 31 (by decide) (by decide)]; exact g10
  · rw [f13 33 (by decide), f12 33 (by decide)]; exact g11
  · rw [f13 37 (by decide)]; exact g12
/-- the class makes its blocks; whatever store the model starts from, with the same text, it makes the same -/
theorem k_blocks (hN : s 1 1 = N) (N0 : 0 ≤ N) (N2 : N ≤ 240) (ch : ∀ i, 0 ≤ i → i < N → s 2 i = b 114 i ∧ zChr (b 114 i)) (hb : b 113 0 = N)
    (h : ∀ a' b' n' d' c' LL Q', zLi a' b' (s, b) (b 114) N LL n' LL (N + 1) Q' d' c' → (∀ Kf : qM → Prop, Kf b' → c_m_blocks X b Kf) → c_Tree_start X a' (fun s3 => L_T_growTree_58 X 0 s3 K)) : c_Lines_split X 7 s (fun s1 => c_Rd_start X s1 (fun s2 => L_T_growTree_24 X 0 s2 K)) := by
  refine k_Lines_split q_lines_7 (by decide) (by omega) (by omega) (fun s1 f1 eb Ln => ?_)
  have e2 : s1 1 = s 1 := f1 1 (by omega)
  rw [hN] at Ln
  have Ln' : zLn (b 114) N (s1 10 1) (s1 9) (s1 11) := by
    obtain ⟨q1, q2, q3, q4, q5, q6⟩ := Ln
    exact ⟨q1, q2, q3, fun l l0 lL => ⟨(q4 l l0 lL).1, (q4 l l0 lL).2.1, (q4 l l0 lL).2.2.trans (zEnd_congr (q4 l l0 lL).2.1 (fun i u w => (ch i (by have := (q4 l l0 lL).1; omega) w).1))⟩, q5, q6⟩
  have LL1 : s1 10 1 ≤ N + 1 := Ln.2.1
  have LLr : 1 ≤ s1 10 1 ∧ s1 10 1 ≤ 241 := ⟨Ln.1, by omega⟩
  refine sg_Rd_start (k_Row_size q_row_1 (sg_Lines_many q_lines_7 (k_Row_size q_row_10 ?_)))
  rw [e2, hN]
  refine k_Blocks_start N0 N2 (by omega) LLr.2 (fun s2 f2 r0 r29 r31 r33 r37 r41 => ?_)
  refine k_Blocks_add (n := 0) r0 (by decide) (by decide) (Or.inl rfl) (fun z => absurd z (by decide)) (fun s3 y g1 g2 g3 g4 _ g6 _ g8 g9 g10 g11 g12 _ => ?_)
  intro s4 e4
  have f4 : ∀ q, q ≠ 43 → s4 q = s3 q := fun q hq => by rw [e4]; exact q_up_ne hq
  have fs : ∀ q, q < 13 ∨ 28 < q → q ≠ 43 → s4 q = s2 q := fun q hq h43 => (f4 q h43).trans (g1 q hq)
  -- the model's first block
  generalize eb8 : q_up (q_up (q_up (q_up (q_up (q_up (q_up (q_up b 117 0 0) 118 0 (-1)) 119 0 1) 122 0 (-1)) 123 0 0) 113 4 1) 113 17 0) 113 48 0 = b8
  have m1 : ∀ q, q ≠ 113 → q ≠ 117 → q ≠ 118 → q ≠ 119 → q ≠ 122 → q ≠ 123 → b8 q = b q := fun q u1 u2 u3 u4 u5 u6 => by rw [← eb8, q_up_ne u1, q_up_ne u1, q_up_ne u1, q_up_ne u6, q_up_ne u5, q_up_ne u4, q_up_ne u3, q_up_ne u2]
  have mj : ∀ j, j ≠ 4 → j ≠ 17 → j ≠ 48 → b8 113 j = b 113 j := fun j u v w => by rw [← eb8, q_up_nj w, q_up_nj v, q_up_nj u, q_up_ne (by decide), q_up_ne (by decide), q_up_ne (by decide), q_up_ne (by decide), q_up_ne (by decide)]
  have m4 : b8 113 4 = 1 := by rw [← eb8, q_up_nj (by decide), q_up_nj (by decide), q_up_at]
  have m17 : b8 113 17 = 0 := by rw [← eb8, q_up_nj (by decide), q_up_at]
  have m48 : b8 113 48 = 0 := by rw [← eb8, q_up_at]
  have m117 : b8 117 0 = 0 := by rw [← eb8]; simp [q_up_get]
  have m118 : b8 118 0 = -1 := by rw [← eb8]; simp [q_up_get]
  have m119 : b8 119 0 = 1 := by rw [← eb8]; simp [q_up_get]
  have m122 : b8 122 0 = -1 := by rw [← eb8]; simp [q_up_get]
  have m123 : b8 123 0 = 0 := by rw [← eb8]; simp [q_up_get]
  have k0 : ∀ k : Int, 0 ≤ k → k < 1 → k = 0 := fun k u v => by omega
  have Z : zLi s4 b8 (s, b) (b 114) N (s1 10 1) 1 0 0 0 0 (fun _ => 0) := by
    refine zLi.mk (zTxt.mk ⟨?_, N0, N2⟩ ?_ ⟨by rw [mj 0 (by decide) (by decide) (by decide)]; exact hb, m1 114 (by decide) (by decide) (by decide) (by decide) (by decide) (by decide)⟩ ?_ ?_ ⟨?_, ?_, ?_⟩) ?_ ?_ ?_ ?_ ?_ m17 ?_ ?_ ?_ ?_ ?_ ?_ ⟨fun l u w => by omega, fun k u w z => by rw [k0 k u w, m117] at z; exact absurd z (by decide)⟩
    · rw [fs 1 (by omega) (by decide), f2 1 (by omega), e2]; exact hN
    · rw [fs 2 (by omega) (by decide), f2 2 (by omega), f1 2 (by omega)]; exact ch
    · rw [fs 9 (by omega) (by decide), f2 9 (by omega), fs 11 (by omega) (by decide), f2 11 (by omega)]; exact Ln'
    · rw [fs 8 (by omega) (by decide), f2 8 (by omega), fs 10 (by omega) (by decide), f2 10 (by omega), fs 29 (by omega) (by decide), fs 31 (by omega) (by decide), fs 33 (by omega) (by decide)]
      exact ⟨eb, rfl, r29, r31, r33⟩
    · intro q hq
      rw [fs q (by omega) (by omega), f2 q (by omega), f1 q (by omega)]
    · intro q hq
      exact m1 q (by omega) (by omega) (by omega) (by omega) (by omega) (by omega)
    · intro j u v w _ _
      exact mj j u v w
    · refine ⟨by omega, ?_, by decide, by decide, N0⟩
      rw [if_pos (by omega), fs 9 (by omega) (by decide), f2 9 (by omega)]; exact Ln.2.2.1.symm
    · refine zB.mk (by decide) ?_ ⟨m117, m118⟩ (fun k u v => ?_) (fun k u v => by omega) (fun k u v => ?_) (fun k u v => ?_) (fun k u v => ?_) (fun k j u v w x => by omega)
      · rw [f4 13 (by decide), f4 15 (by decide), f4 17 (by decide), f4 19 (by decide), f4 21 (by decide), f4 23 (by decide), f4 25 (by decide), f4 27 (by decide)]
        exact ⟨g2.1, g2.2.1, g2.2.2.1, g2.2.2.2.1, g2.2.2.2.2.1, g2.2.2.2.2.2.1, g2.2.2.2.2.2.2.1, g2.2.2.2.2.2.2.2, m4⟩
      · rw [k0 k u v, f4 14 (by decide), g3, q_u_at, f4 16 (by decide), g4, q_u_at, m117, m118]; exact ⟨rfl, by decide, by decide, rfl⟩
      · rw [k0 k u v, m117, f4 22 (by decide), g9, q_u_at]
        exact ⟨fun z => absurd z (by decide), fun z => absurd z (by decide), fun z => absurd z (by decide), fun z => absurd z (by decide), fun _ _ _ => rfl⟩
      · rw [k0 k u v, m123, m17, f4 20 (by decide), g8 rfl, q_u_at]
        exact ⟨by decide, by decide, fun _ => by decide⟩
      · rw [k0 k u v]; exact Or.inl m122
    · refine zCh.mk rfl (fun i hi => absurd hi (by omega)) ?_ (by decide) (fun k u v => ?_) (fun i hi j u v => by have u' : (0 : Int) < j := u; omega)
      · show s4 18 0 = -1
        rw [f4 18 (by decide), g6 rfl, q_u_at]
      · rw [k0 k u v]
        exact ⟨Or.inr m119, fun _ => ⟨0, Nat.le_refl 0, rfl⟩, fun _ => m119⟩
    · exact zOw.mk (fun k u v => by rw [if_pos (by omega)] at v; omega) trivial
    · refine zLs.mk (by decide) (fun l u v => by omega) (fun l u v => by omega) (fun k u v h4 _ => ?_) (fun l u v => by omega)
      rw [k0 k u v, m117] at h4; exact absurd h4 (by decide)
    · have u0 : zU1 s4 b8 0 = 0 := by unfold zU1; rw [m117, if_neg (by decide)]
      have v0 : zV s4 b8 0 = 0 := by unfold zV; rw [m117, if_neg (by decide)]
      refine zPt.mk ?_ ?_
      · show 0 + zU1 s4 b8 ((0 : Nat) : Int) ≤ 0
        rw [show ((0 : Nat) : Int) = 0 from rfl, u0]; decide
      · show 1 + (0 + zV s4 b8 ((0 : Nat) : Int)) ≤ 1 + 2 * 0
        rw [show ((0 : Nat) : Int) = 0 from rfl, v0]; decide
    · refine zNm.mk ?_ (fun i u v => ?_) (fun i j u v w => ?_) (fun k u v w => ?_)
      · rw [fs 37 (by omega) (by decide), r37]; decide
      · rw [fs 37 (by omega) (by decide), r37] at v; omega
      · rw [fs 37 (by omega) (by decide), r37] at w; omega
      · rw [k0 k u v, m117] at w; exact absurd w (by decide)
    · refine zNm.mk ?_ (fun i u v => ?_) (fun i j u v w => ?_) (fun k u v w => ?_)
      · rw [fs 41 (by omega) (by decide), r41]; decide
      · rw [fs 41 (by omega) (by decide), r41] at v; omega
      · rw [fs 41 (by omega) (by decide), r41] at w; omega
      · rw [k0 k u v, m117] at w; exact absurd w (by decide)
    · rw [fs 37 (by omega) (by decide), r37, fs 41 (by omega) (by decide), r41]; decide
    · intro z
      rw [show b8 117 0 = 0 from m117] at z; omega
    · rw [e4, q_up_at, m48]
  have ini : ∀ Kf : qM → Prop, L_m_blocks_52 X 0 b8 Kf → c_m_blocks X b Kf := by
    intro Kf hk
    refine sg_m_blocks (fun u1 w1 u2 w2 u3 w3 u4 w4 u5 w5 u6 w6 u7 w7 u8 w8 => ?_)
    rw [w8, w7, w6, w5, w4, w3, w2, w1, eb8]; exact hk
  exact k_lines (X := X) (LL := s1 10 1) (s1 10 1).toNat s4 b8 1 0 0 0 0 (fun _ => 0) (by omega) Z (fun a' b' n' d' c' Q' Z' W => h a' b' n' d' c' _ Q' Z' (fun Kf hk => ini Kf (W Kf hk)))
end BlocksAll
