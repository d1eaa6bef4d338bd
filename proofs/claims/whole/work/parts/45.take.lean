/-! take. -/
section Take
variable {X : Nat × (Nat → Int32)} {s s' : qM} {I : qM → Prop}
theorem k_m_takes {x m : Int} {KV : qM → Prop} (h0 : 0 ≤ x) (h1 : 1 ≤ m) (h2 : m ≤ s 113 0 - x) (hn : s 113 0 ≤ 240)
    (h : ∀ s', (∀ q, q ≠ 113 → q ≠ 114 → s' q = s q) → (∀ j, j ≠ 0 → s' 113 j = s 113 j) → s' 113 0 = s 113 0 - m → (∀ i, 0 ≤ i → i < x → s' 114 i = s 114 i) → (∀ i, x ≤ i → i < s 113 0 - m → s' 114 i = s 114 (i + m)) → KV s') : c_m_takes X x m s KV := by
  refine sg_m_takes ⟨⟨by omega, by omega⟩, fun s0 e => ?_⟩
  have L : ∀ (n : Nat) (k : Int) (s1 : qM), k + n = s 113 0 - m → x ≤ k → (∀ q, q ≠ 113 → q ≠ 114 → s1 q = s q) → (∀ j, j ≠ 0 → s1 113 j = s 113 j) → s1 113 0 = s 113 0 - m → (∀ i, 0 ≤ i → i < x → s1 114 i = s 114 i) → (∀ i, x ≤ i → i < k → s1 114 i = s 114 (i + m)) → (∀ i, k ≤ i → i < 240 → s1 114 i = s 114 i) → L_m_takes_12 X m k s1 KV := by
    intro n
    induction n with
    | zero =>
      intro k s1 hk hx f1 f2 f3 f4 f5 f6
      exact sg_m_takes_12 (z_t (by omega) (h s1 f1 f2 f3 f4 (fun i a b => f5 i a (by omega))))
    | succ n ih =>
      intro k s1 hk hx f1 f2 f3 f4 f5 f6
      refine sg_m_takes_12 (z_f (by omega) ⟨⟨by omega, by omega⟩, by omega, by omega, by omega, by omega, fun s2 e2 => ⟨⟨by omega, by omega⟩, ?_⟩⟩)
      have g1 : ∀ q, q ≠ 114 → s2 q = s1 q := fun q hq => by rw [e2]; exact q_up_ne hq
      refine ih (k + 1) s2 (by omega) (by omega) (fun q a b => by rw [g1 q b]; exact f1 q a b) (fun j hj => by rw [g1 113 (by decide)]; exact f2 j hj) (by rw [g1 113 (by decide)]; exact f3) (fun i a b => ?_) (fun i a b => ?_) (fun i a b => ?_)
      · rw [e2, q_up_nj (by omega)]; exact f4 i a b
      · by_cases hi : i = k
        · rw [e2, hi, q_up_at]; exact f6 (k + m) (by omega) (by omega)
        · rw [e2, q_up_nj hi]; exact f5 i a (by omega)
      · rw [e2, q_up_nj (by omega)]; exact f6 i (by omega) b
  have e1 : s0 114 = s 114 := by rw [e]; exact q_up_ne (by decide)
  refine L (s 113 0 - m - x).toNat x s0 (by omega) (by omega) (fun q a b => by rw [e]; exact q_up_ne a) (fun j hj => by rw [e]; exact q_up_nj hj) (by rw [e]; exact q_up_at) (fun i a b => by rw [e1]) (fun i a b => by omega) (fun i a b => by rw [e1])
theorem k_m_take {x m : Int} {K : Int → qM → Prop} (hm : q_r32 m) (h0 : 0 ≤ s 113 0) (hn : s 113 0 ≤ 240) (h1 : ¬ (0 ≤ x ∧ x < s 113 0) → K 0 (q_up s 113 47 1)) (h2 : 0 ≤ x → x < s 113 0 → ¬ (1 ≤ m ∧ m ≤ s 113 0 - x) → K 0 (q_up s 113 47 2))
    (h3 : 0 ≤ x → x < s 113 0 → 1 ≤ m → m ≤ s 113 0 - x → ∀ s', (∀ q, q ≠ 113 → q ≠ 114 → s' q = s q) → (∀ j, j ≠ 0 → j ≠ 47 → s' 113 j = s 113 j) → s' 113 47 = 0 → s' 113 0 = s 113 0 - m → (∀ i, 0 ≤ i → i < x → s' 114 i = s 114 i) → (∀ i, x ≤ i → i < s 113 0 - m → s' 114 i = s 114 (i + m)) → K (s' 113 0) s') : c_m_take X x m s K := by
  refine sg_m_take ⟨⟨by omega, by omega⟩, k_m_isIn (fun a b => ?_) (fun a => ?_)⟩
  · refine z_t (by decide) ⟨⟨by omega, by omega⟩, k_m_isIn (fun c d => ?_) (fun c => ?_)⟩
    · refine z_f (by decide) (k_m_can (fun z => absurd rfl z) (fun _ => z_t (by decide) ?_))
      have e1 : q_up s 113 47 0 113 0 = s 113 0 := q_up_nj (by decide)
      have e2 : q_up s 113 47 0 114 = s 114 := q_up_ne (by decide)
      refine k_m_takes a c (by rw [e1]; exact d) (by rw [e1]; exact hn) (fun s1 f1 f2 f3 f4 f5 => ?_)
      rw [e1] at f3 f5
      rw [e2] at f4 f5
      exact h3 a (by omega) c d s1 (fun q u v => (f1 q u v).trans (q_up_ne u)) (fun j u v => (f2 j u).trans (q_up_nj v)) ((f2 47 (by decide)).trans q_up_at) f3 f4 f5
    · exact z_t rfl (k_m_can (fun _ => z_f (by decide) (h2 a (by omega) c)) (fun z => absurd z (by decide)))
  · exact z_f (by decide) (k_m_can (fun _ => z_f (by decide) (h1 (by omega))) (fun z => absurd z (by decide)))
theorem o_take_in {x m : Int} (hm : q_r32 m) (T : zTx s) (h : ∀ s', zEd s s' → I s') (h0 : 0 ≤ x) (h1 : 1 ≤ m) (h2 : m ≤ s 1 1 - x) :
    c_Row_remove X 1 x m s (fun s5 => ∀ s6 : qM, s6 = q_up s5 0 11 1 → c_Row_size X 1 s6 (fun r8 s7 => c_m_take X x m (q_up s7 161 0 r8) (fun y s2 => c_m_thrown X s2 (fun e s3 => e = 0 ∧ ((0 : Int) = 0 → s3 161 0 = y) ∧ I s3)))) := by
  obtain ⟨t1, t2, t3, t4⟩ := T
  refine k_Row_remove q_row_1 h0 h1 (by omega) t2 (fun s5 f1 f2 f3 f4 => ?_)
  intro s6 e
  refine k_Row_size q_row_1 ?_
  have b1 : ∀ q, q ≠ 0 → q ≠ 161 → q_up s6 161 0 (s6 1 1) q = s5 q := fun q a b => by rw [q_up_ne b, e, q_up_ne a]
  have b2 : q_up s6 161 0 (s6 1 1) 113 = s 113 := (b1 113 (by decide) (by decide)).trans (f1 113 (by decide) (by decide))
  have b3 : q_up s6 161 0 (s6 1 1) 114 = s 114 := (b1 114 (by decide) (by decide)).trans (f1 114 (by decide) (by decide))
  have b4 : q_up s6 161 0 (s6 1 1) 161 0 = s 1 1 - m := by rw [q_up_at, e, show q_up s5 0 11 1 1 = s5 1 from q_up_ne (by decide)]; exact f2
  have b5 : ∀ j, j ≠ 11 → q_up s6 161 0 (s6 1 1) 0 j = s 0 j := fun j hj => by rw [show q_up s6 161 0 (s6 1 1) 0 = s6 0 from q_up_ne (by decide), e, q_up_nj hj, f1 0 (by decide) (by decide)]
  have b6 : q_up s6 161 0 (s6 1 1) 0 11 = 1 := by rw [show q_up s6 161 0 (s6 1 1) 0 = s6 0 from q_up_ne (by decide), e, q_up_at]
  generalize q_up s6 161 0 (s6 1 1) = u at b1 b2 b3 b4 b5 b6
  refine k_m_take hm (by rw [b2]; omega) (by rw [b2]; omega) (fun z => absurd ⟨h0, by rw [b2]; omega⟩ z) (fun _ _ z => absurd ⟨h1, by rw [b2]; omega⟩ z) (fun _ _ _ _ v g1 g2 g3 g4 g5 g6 => ?_)
  rw [b2] at g4 g6
  rw [b3] at g5 g6
  refine sg_m_thrown ⟨g3, fun _ => ?_, h v ⟨fun q a0 a1 a2 a3 a4 a5 => ?_, fun j hj => ?_, fun j j1 j2 => ?_, ?_, ?_⟩⟩
  · rw [g1 161 (by decide) (by decide), b4, g4, t3]
  · rw [g1 q a3 a4, b1 q a0 a5]; exact f1 q a1 a2
  · rw [g1 0 (by decide) (by decide)]; exact b5 j hj
  · rw [g2 j j1 j2, b2]
  · rw [g1 0 (by decide) (by decide)]; exact b6
  · have v1 : v 1 = s5 1 := (g1 1 (by decide) (by decide)).trans (b1 1 (by decide) (by decide))
    have v2 : v 2 = s5 2 := (g1 2 (by decide) (by decide)).trans (b1 2 (by decide) (by decide))
    unfold zTx
    rw [v1, v2, f2, g4]
    refine ⟨by omega, by omega, by omega, fun i i0 i1 => ?_⟩
    by_cases hi : i < x
    · rw [g5 i i0 hi, f3 i i0 hi]; exact t4 i i0 (by omega)
    · rw [g6 i (by omega) (by omega), f4 i (by omega) i1]; exact t4 (i + m) (by omega) (by omega)
theorem o_take {x m : Int} (hm : q_r32 m) (T : zTx s) (hS : ∀ s', zSm s s' → I s') (h : ∀ s', zEd s s' → I s') : O_take I X x m s := by
  unfold O_take
  have hT := T
  obtain ⟨t1, t2, t3, t4⟩ := T
  have o1 : ¬ (0 ≤ x ∧ x < s 1 1) → c_m_take X x m s (fun y s2 => c_m_thrown X s2 (fun e s3 => e = 1 ∧ ((1 : Int) = 0 → s3 161 0 = y) ∧ I s3)) := fun z =>
    k_m_take hm (by omega) (by omega) (fun _ => sg_m_thrown ⟨q_up_at, fun q => absurd q (by decide), hS _ (zSm_47 zSm_rf)⟩) (fun a b => absurd ⟨a, by omega⟩ z) (fun a b => absurd ⟨a, by omega⟩ z)
  have o2 : 0 ≤ x → x < s 1 1 → ¬ (1 ≤ m ∧ m ≤ s 1 1 - x) → c_m_take X x m s (fun y s2 => c_m_thrown X s2 (fun e s3 => e = 2 ∧ ((2 : Int) = 0 → s3 161 0 = y) ∧ I s3)) := fun a b z =>
    k_m_take hm (by omega) (by omega) (fun w => absurd ⟨a, by omega⟩ w) (fun _ _ _ => sg_m_thrown ⟨q_up_at, fun q => absurd q (by decide), hS _ (zSm_47 zSm_rf)⟩) (fun _ _ c d => absurd ⟨c, by omega⟩ z)
  refine k_W_take (sg_T_take (z_c (fun e => o1 (by omega)) (fun e => k_Row_size q_row_1 (z_c (fun e2 => ?_) (fun e2 => o1 (by omega))))))
  refine z_c (fun e3 => o2 (by omega) e2 (by omega)) (fun e3 => k_Row_size q_row_1 ⟨⟨by omega, by omega⟩, z_c (fun e4 => ?_) (fun e4 => o2 (by omega) e2 (by omega))⟩)
  exact o_take_in hm hT h (by omega) (by omega) e4
end Take
