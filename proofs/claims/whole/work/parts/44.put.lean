/-! put and take. -/
section Put
variable {X : Nat × (Nat → Int32)} {s s' : qM} {I : qM → Prop}
theorem k_m_put {x c : Int} {K : Int → qM → Prop} (h0 : 0 ≤ s 113 0) (hn : s 113 0 ≤ 240) (h1 : ¬ (0 ≤ x ∧ x ≤ s 113 0) → K 0 (q_up s 113 47 1)) (h2 : 0 ≤ x → x ≤ s 113 0 → ¬ zChr c → K 0 (q_up s 113 47 2)) (h3 : 0 ≤ x → x ≤ s 113 0 → zChr c → s 113 0 = 240 → K 0 (q_up s 113 47 3))
    (h4 : 0 ≤ x → x ≤ s 113 0 → zChr c → s 113 0 < 240 → ∀ s', (∀ q, q ≠ 113 → q ≠ 114 → s' q = s q) → (∀ j, j ≠ 0 → j ≠ 47 → s' 113 j = s 113 j) → s' 113 47 = 0 → s' 113 0 = s 113 0 + 1 → (∀ i, 0 ≤ i → i < x → s' 114 i = s 114 i) → s' 114 x = c → (∀ i, x < i → i ≤ s 113 0 → s' 114 i = s 114 (i - 1)) → K (s' 113 0) s') : c_m_put X x c s K := by
  have L : 0 ≤ x → x ≤ s 113 0 → zChr c → s 113 0 < 240 → ∀ (m : Nat) (k : Int) (s1 : qM), k = x + m → k ≤ s 113 0 → (∀ q, q ≠ 113 → q ≠ 114 → s1 q = s q) → (∀ j, j ≠ 47 → s1 113 j = s 113 j) → s1 113 47 = 0 → (∀ i, 0 ≤ i → i < k → s1 114 i = s 114 i) → (∀ i, k < i → i ≤ s 113 0 → s1 114 i = s 114 (i - 1)) → L_m_put_77 X x c k s1 K := by
    intro hx0 hxn hc hlt m
    induction m with
    | zero =>
      intro k s1 hk hkn f1 f2 f3 f4 f5
      have hk : k = x := by omega
      subst hk
      refine sg_m_put_77 (z_t (by omega) ⟨hx0, by omega, fun s2 e => ?_⟩)
      subst e
      have e1 : q_up s1 114 k c 113 = s1 113 := q_up_ne (by decide)
      have e2 : s1 113 0 = s 113 0 := f2 0 (by decide)
      rw [e1, e2]
      refine ⟨⟨by omega, by omega⟩, fun s3 e => ?_⟩
      have g0 : s3 113 0 = s 113 0 + 1 := by rw [e]; exact q_up_at
      have g1 : ∀ q, q ≠ 113 → s3 q = q_up s1 114 k c q := fun q hq => by rw [e]; exact q_up_ne hq
      have g2 : ∀ j, j ≠ 0 → s3 113 j = s1 113 j := fun j hj => by rw [e, q_up_nj hj, e1]
      refine h4 hx0 hxn hc hlt s3 (fun q a b => ?_) (fun j a b => ?_) ?_ g0 (fun i a b => ?_) ?_ (fun i a b => ?_)
      · rw [g1 q a, q_up_ne b]; exact f1 q a b
      · rw [g2 j a]; exact f2 j b
      · rw [g2 _ (by decide)]; exact f3
      · rw [g1 114 (by decide), q_up_nj (by omega)]; exact f4 i a b
      · rw [g1 114 (by decide)]; exact q_up_at
      · rw [g1 114 (by decide), q_up_nj (by omega)]; exact f5 i a b
    | succ m ih =>
      intro k s1 hk hkn f1 f2 f3 f4 f5
      refine sg_m_put_77 (z_f (by omega) ⟨⟨by omega, by omega⟩, by omega, by omega, by omega, by omega, fun s2 e => ⟨⟨by omega, by omega⟩, ?_⟩⟩)
      have g1 : ∀ q, q ≠ 114 → s2 q = s1 q := fun q hq => by rw [e]; exact q_up_ne hq
      refine ih (k + -1) s2 (by omega) (by omega) (fun q a b => by rw [g1 q b]; exact f1 q a b) (fun j hj => by rw [g1 113 (by decide)]; exact f2 j hj) (by rw [g1 113 (by decide)]; exact f3) (fun i a b => ?_) (fun i a b => ?_)
      · rw [e, q_up_nj (by omega)]; exact f4 i a (by omega)
      · by_cases hi : i = k
        · rw [e, hi, q_up_at]; exact f4 (k - 1) (by omega) (by omega)
        · rw [e, q_up_nj hi]; exact f5 i (by omega) b
  have head : ∀ t0 : Int, (t0 ≠ 0 ↔ zChr c) → L_m_put_22 X x c t0 s K := by
    intro t0 ht
    refine sg_m_put_22 (k_m_isIn (fun a b => ?_) (fun a => ?_))
    · refine z_t (by decide) (z_c (fun q => ?_) (fun q => ?_))
      · have hc := ht.mp q
        refine z_c (fun q2 => ?_) (fun q2 => ?_)
        · refine k_m_can (fun z => absurd rfl z) (fun _ => z_t (by decide) ?_)
          have e1 : q_up s 113 47 0 113 0 = s 113 0 := q_up_nj (by decide)
          rw [e1]
          refine L a b hc (by omega) (s 113 0 - x).toNat (s 113 0) _ (by omega) (by omega) (fun q u v => q_up_ne u) (fun j hj => q_up_nj hj) q_up_at (fun i u v => ?_) (fun i u v => by omega)
          rw [show q_up s 113 47 0 114 = s 114 from q_up_ne (by decide)]
        · refine k_m_can (fun _ => z_f (by decide) ?_) (fun z => absurd z (by decide))
          exact h3 a b hc (by omega)
      · refine k_m_can (fun _ => z_f (by decide) ?_) (fun z => absurd z (by decide))
        exact h2 a b (fun z => q (ht.mpr z))
    · refine z_f (by decide) (k_m_can (fun _ => z_f (by decide) (h1 (by omega))) (fun z => absurd z (by decide)))
  refine sg_m_put (z_c (fun e => head 1 ⟨fun _ => Or.inl e, fun _ => by decide⟩) (fun e => k_m_isIn (fun a b => ?_) (fun a => ?_)))
  · exact z_f (by decide) (head 1 ⟨fun _ => Or.inr ⟨a, b⟩, fun _ => by decide⟩)
  · exact z_t rfl (head 0 ⟨fun z => absurd rfl z, fun z => by omega⟩)
theorem o_put_in {x c : Int} (T : zTx s) (h : ∀ s', zEd s s' → I s') (h0 : 0 ≤ x) (h1 : x ≤ s 1 1) (hc : zChr c) (hn : s 1 1 < 240) :
    c_Row_insert X 1 x c s (fun s5 => ∀ s6 : qM, s6 = q_up s5 0 11 1 → c_Row_size X 1 s6 (fun r8 s7 => c_m_put X x c (q_up s7 161 0 r8) (fun y s2 => c_m_thrown X s2 (fun e s3 => e = 0 ∧ ((0 : Int) = 0 → s3 161 0 = y) ∧ I s3)))) := by
  obtain ⟨t1, t2, t3, t4⟩ := T
  refine k_Row_insert q_row_1 h0 h1 hn (fun s5 f1 f2 f3 f4 f5 => ?_)
  intro s6 e
  refine k_Row_size q_row_1 ?_
  have b1 : ∀ q, q ≠ 0 → q ≠ 161 → q_up s6 161 0 (s6 1 1) q = s5 q := fun q a b => by rw [q_up_ne b, e, q_up_ne a]
  have b2 : q_up s6 161 0 (s6 1 1) 113 = s 113 := (b1 113 (by decide) (by decide)).trans (f1 113 (by decide) (by decide))
  have b3 : q_up s6 161 0 (s6 1 1) 114 = s 114 := (b1 114 (by decide) (by decide)).trans (f1 114 (by decide) (by decide))
  have b4 : q_up s6 161 0 (s6 1 1) 161 0 = s 1 1 + 1 := by rw [q_up_at, e, show q_up s5 0 11 1 1 = s5 1 from q_up_ne (by decide)]; exact f2
  have b5 : ∀ j, j ≠ 11 → q_up s6 161 0 (s6 1 1) 0 j = s 0 j := fun j hj => by rw [show q_up s6 161 0 (s6 1 1) 0 = s6 0 from q_up_ne (by decide), e, q_up_nj hj, f1 0 (by decide) (by decide)]
  have b6 : q_up s6 161 0 (s6 1 1) 0 11 = 1 := by rw [show q_up s6 161 0 (s6 1 1) 0 = s6 0 from q_up_ne (by decide), e, q_up_at]
  generalize q_up s6 161 0 (s6 1 1) = u at b1 b2 b3 b4 b5 b6
  refine k_m_put (by rw [b2]; omega) (by rw [b2]; omega) (fun z => absurd ⟨h0, by rw [b2]; omega⟩ z) (fun _ _ z => absurd hc z) (fun _ _ _ z => by rw [b2] at z; omega) (fun _ _ _ _ v g1 g2 g3 g4 g5 g6 g7 => ?_)
  rw [b2] at g4 g7
  rw [b3] at g5 g7
  refine sg_m_thrown ⟨g3, fun _ => ?_, h v ⟨fun q a0 a1 a2 a3 a4 a5 => ?_, fun j hj => ?_, fun j j1 j2 => ?_, ?_, ?_⟩⟩
  · rw [g1 161 (by decide) (by decide), b4, g4, t3]
  · rw [g1 q a3 a4, b1 q a0 a5]; exact f1 q a1 a2
  · rw [g1 0 (by decide) (by decide)]; exact b5 j hj
  · rw [g2 j j1 j2, b2]
  · rw [g1 0 (by decide) (by decide)]; exact b6
  · have v1 : v 1 = s5 1 := (g1 1 (by decide) (by decide)).trans (b1 1 (by decide) (by decide))
    have v2 : v 2 = s5 2 := (g1 2 (by decide) (by decide)).trans (b1 2 (by decide) (by decide))
    unfold zTx
    rw [v1, v2, f2, g4]
    refine ⟨by omega, by omega, by omega, fun i i0 i1 => ?_⟩
    rcases Int.lt_trichotomy i x with hi | hi | hi
    · rw [g5 i i0 hi, f3 i i0 hi]; exact t4 i i0 (by omega)
    · subst hi
      rw [g6, f4]; exact ⟨rfl, hc⟩
    · rw [g7 i hi (by omega), f5 i hi (by omega)]; exact t4 (i - 1) (by omega) (by omega)
theorem o_put {x c : Int} (T : zTx s) (hS : ∀ s', zSm s s' → I s') (h : ∀ s', zEd s s' → I s') : O_put I X x c s := by
  unfold O_put
  have hT := T
  obtain ⟨t1, t2, t3, t4⟩ := T
  have o1 : ¬ (0 ≤ x ∧ x ≤ s 1 1) → c_m_put X x c s (fun y s2 => c_m_thrown X s2 (fun e s3 => e = 1 ∧ ((1 : Int) = 0 → s3 161 0 = y) ∧ I s3)) := fun z =>
    k_m_put (by omega) (by omega) (fun _ => sg_m_thrown ⟨q_up_at, fun q => absurd q (by decide), hS _ (zSm_47 zSm_rf)⟩) (fun a b => absurd ⟨a, by omega⟩ z) (fun a b => absurd ⟨a, by omega⟩ z) (fun a b => absurd ⟨a, by omega⟩ z)
  have o2 : 0 ≤ x → x ≤ s 1 1 → ¬ zChr c → c_m_put X x c s (fun y s2 => c_m_thrown X s2 (fun e s3 => e = 2 ∧ ((2 : Int) = 0 → s3 161 0 = y) ∧ I s3)) := fun a b z =>
    k_m_put (by omega) (by omega) (fun w => absurd ⟨a, by omega⟩ w) (fun _ _ _ => sg_m_thrown ⟨q_up_at, fun q => absurd q (by decide), hS _ (zSm_47 zSm_rf)⟩) (fun _ _ w => absurd w z) (fun _ _ w => absurd w z)
  have o3 : 0 ≤ x → x ≤ s 1 1 → zChr c → ¬ s 1 1 < 240 → c_m_put X x c s (fun y s2 => c_m_thrown X s2 (fun e s3 => e = 3 ∧ ((3 : Int) = 0 → s3 161 0 = y) ∧ I s3)) := fun a b z n =>
    k_m_put (by omega) (by omega) (fun w => absurd ⟨a, by omega⟩ w) (fun _ _ w => absurd z w) (fun _ _ _ _ => sg_m_thrown ⟨q_up_at, fun q => absurd q (by decide), hS _ (zSm_47 zSm_rf)⟩) (fun _ _ _ w => absurd w (by omega))
  refine k_W_put (sg_T_put (z_c (fun e => o1 (by omega)) (fun e => k_Row_size q_row_1 (z_c (fun e2 => ?_) (fun e2 => o1 (by omega))))))
  refine z_c (fun e3 => k_Row_size q_row_1 (z_c (fun e4 => ?_) (fun e4 => ?_))) (fun e3 => z_c (fun e4 => ?_) (fun e4 => z_c (fun e5 => k_Row_size q_row_1 (z_c (fun e6 => ?_) (fun e6 => ?_))) (fun e5 => ?_)))
  · exact o_put_in hT h (by omega) e2 (Or.inl e3) e4
  · exact o3 (by omega) e2 (Or.inl e3) e4
  · exact o2 (by omega) e2 (by omega)
  · exact o_put_in hT h (by omega) e2 (Or.inr ⟨by omega, e5⟩) e6
  · exact o3 (by omega) e2 (Or.inr ⟨by omega, e5⟩) e6
  · exact o2 (by omega) e2 (by omega)
end Put
