/-! The text's operations and the slots. -/
section Slots
variable {X : Nat × (Nat → Int32)} {a b s s' : qM} {Q : Int → qM → Prop} {x1 x2 N : Int}
theorem zIv.ed (H : zIv X s) (E : zEd s s') : zIv X s' := by
  obtain ⟨f, f0, fj, e11, tx⟩ := E
  have g : ∀ q, q ≠ 0 → q ≠ 1 → q ≠ 2 → q ≠ 113 → q ≠ 114 → q ≠ 161 → s' q = s q := f
  refine zIv.mk tx (H.k0.fr (g 3 (by decide) (by decide) (by decide) (by decide) (by decide) (by decide)) (g 4 (by decide) (by decide) (by decide) (by decide) (by decide) (by decide)) (g 115 (by decide) (by decide) (by decide) (by decide) (by decide) (by decide)) (g 116 (by decide) (by decide) (by decide) (by decide) (by decide) (by decide))) (H.k1.fr (g 5 (by decide) (by decide) (by decide) (by decide) (by decide) (by decide)) (g 6 (by decide) (by decide) (by decide) (by decide) (by decide) (by decide)) (g 115 (by decide) (by decide) (by decide) (by decide) (by decide) (by decide)) (g 116 (by decide) (by decide) (by decide) (by decide) (by decide) (by decide))) ?_ (fun z => by omega)
  rw [g 54 (by decide) (by decide) (by decide) (by decide) (by decide) (by decide), g 56 (by decide) (by decide) (by decide) (by decide) (by decide) (by decide), g 58 (by decide) (by decide) (by decide) (by decide) (by decide) (by decide), g 60 (by decide) (by decide) (by decide) (by decide) (by decide) (by decide), g 62 (by decide) (by decide) (by decide) (by decide) (by decide) (by decide)]
  exact H.r0
theorem O_length' (H : zIv X s) : O_length (zIv X) X s := o_length H.tx (fun _ S => H.sm S)
theorem O_character' (H : zIv X s) : O_character (zIv X) X x1 s := o_character H.tx (fun _ S => H.sm S)
theorem O_clear' (H : zIv X s) : O_clear (zIv X) X s := o_clear H.tx (fun _ S => H.ed S)
theorem O_put' (H : zIv X s) : O_put (zIv X) X x1 x2 s := o_put H.tx (fun _ S => H.sm S) (fun _ S => H.ed S)
theorem O_take' (hm : q_r32 x2) (H : zIv X s) : O_take (zIv X) X x1 x2 s := o_take hm H.tx (fun _ S => H.sm S) (fun _ S => H.ed S)
theorem k_m_keep (h1 : x1 = 0 ∨ x1 = 1) (hN : s 113 0 = N) (N0 : 0 ≤ N) (N2 : N ≤ 240) (h : ∀ s', (∀ q, q ≠ 113 → q ≠ 115 → q ≠ 116 → s' q = s q) → (∀ j, j ≠ 47 → s' 113 j = s 113 j) → s' 113 47 = 0 → s' 116 = q_u (s 116) x1 N → (∀ i, 0 ≤ i → i < N → s' 115 (240 * x1 + i) = s 114 i) → (∀ j, j < 240 * x1 ∨ 240 * x1 + N ≤ j → s' 115 j = s 115 j) → Q (s 116 x1) s') : c_m_keep X x1 s Q := by
  refine sg_m_keep (k_m_isIn (fun u w => z_f (by decide) (k_m_can (fun z => absurd rfl z) (fun _ => z_t (by decide) ⟨by omega, by omega, by omega, by omega, fun s5 e5 => ?_⟩))) (fun n => absurd ⟨by omega, by omega⟩ n))
  have g47 : ∀ q, q ≠ 113 → q_up s 113 47 0 q = s q := fun q hq => q_up_ne hq
  have g5 : ∀ q, q ≠ 113 → q ≠ 116 → s5 q = s q := fun q x y => by rw [e5, q_up_ne y, g47 q x]
  have g5j : ∀ j, j ≠ 47 → s5 113 j = s 113 j := fun j hj => by rw [e5, q_up_ne (by decide), q_up_nj hj]
  have g547 : s5 113 47 = 0 := by rw [e5, q_up_ne (by decide), q_up_at]
  have g116 : s5 116 = q_u (s 116) x1 N := by rw [e5, q_up_fn, g47 116 (by decide), show q_up s 113 47 0 113 0 = N by rw [q_up_nj (by decide)]; exact hN]
  rw [g47 116 (by decide)]
  have L : ∀ (c : Nat) (i : Int) (s1 : qM), i + c = N → 0 ≤ i → (∀ q, q ≠ 115 → s1 q = s5 q) → (∀ j, 0 ≤ j → j < i → s1 115 (240 * x1 + j) = s 114 j) → (∀ j, j < 240 * x1 ∨ 240 * x1 + i ≤ j → s1 115 j = s 115 j) → L_m_keep_42 X x1 (s 116 x1) i s1 Q := by
    intro c
    induction c with
    | zero =>
      intro i s1 hi i0 f w o
      have ei : i = N := by omega
      have e0 : s1 113 0 = N := by rw [f 113 (by decide), g5j 0 (by decide)]; exact hN
      rw [ei] at w o
      refine sg_m_keep_42 (z_t (by omega) (h s1 (fun q x y z => by rw [f q y, g5 q x z]) (fun j hj => by rw [f 113 (by decide)]; exact g5j j hj) (by rw [f 113 (by decide)]; exact g547) (by rw [f 116 (by decide)]; exact g116) w o))
    | succ c ih =>
      intro i s1 hi i0 f w o
      have e0 : s1 113 0 = N := by rw [f 113 (by decide), g5j 0 (by decide)]; exact hN
      have e114 : s1 114 = s 114 := by rw [f 114 (by decide), g5 114 (by decide) (by decide)]
      refine sg_m_keep_42 (z_f (by omega) ⟨by omega, by omega, by omega, by omega, by omega, by omega, fun s2 e2 => ⟨by omega, ?_⟩⟩)
      refine ih (i + 1) s2 (by omega) (by omega) (fun q hq => by rw [e2, q_up_ne hq]; exact f q hq) (fun j j0 ji => ?_) (fun j hj => ?_)
      · by_cases z : j = i
        · rw [z, e2, q_up_at, e114]
        · rw [e2, q_up_nj (by omega)]; exact w j j0 (by omega)
      · rw [e2, q_up_nj (by omega)]; exact o j (by omega)
  exact L N.toNat 0 s5 (by omega) (Int.le_refl 0) (fun _ _ => rfl) (fun j u w => by omega) (fun j _ => by rw [g5 115 (by decide) (by decide)])
theorem o_keep (H : zIv X s) : O_keep (zIv X) X x1 s := by
  unfold O_keep
  refine k_W_keep ?_
  obtain ⟨t1, t2, t3, t4⟩ := H.tx
  have go : ∀ r : Nat, ((r = 3 ∧ x1 = 0) ∨ (r = 5 ∧ x1 = 1)) → q_isRow r 240 → c_Row_size X r s (fun r2 s1 => c_Row_become X r 1 s1 (fun s3 => c_m_keep X x1 (q_up s3 161 0 r2) (fun y s2 => c_m_thrown X s2 (fun e s3 => e = 0 ∧ ((0 : Int) = 0 → s3 161 0 = y) ∧ zIv X s3)))) := by
    intro r hr qr
    refine k_Row_size qr (k_Row_become qr q_row_1 t1 t2 t2 (by omega) (by omega) (by omega) (fun a f e1 w => ?_))
    have k : zSl s r x1 := by rcases hr with z | z; · { rw [z.1, z.2]; exact H.k0 }; · { rw [z.1, z.2]; exact H.k1 }
    have g : ∀ q, q ≠ 161 → q_up a 161 0 (s r 1) q = a q := fun q hq => q_up_ne hq
    refine k_m_keep (N := s 1 1) (by omega) (by rw [g 113 (by decide), f 113 (by omega) (by omega)]; exact t3) t1 t2 (fun b fb fj e47 e116 w2 o2 => q_fin e47 (fun _ => ?_) ?_)
    · rw [fb 161 (by decide) (by decide) (by decide), q_up_at, g 116 (by decide), f 116 (by omega) (by omega)]; exact k.2.2.1.symm
    · have fq : ∀ q, q ≠ r → q ≠ r + 1 → q ≠ 113 → q ≠ 115 → q ≠ 116 → q ≠ 161 → b q = s q := fun q x y z u v p => by rw [fb q z u v, g q p]; exact f q x y
      have bq : ∀ q, q = r ∨ q = r + 1 → b q = a q := fun q hq => by rw [fb q (by omega) (by omega) (by omega), g q (by omega)]
      have b116 : b 116 = q_u (s 116) x1 (s 1 1) := by rw [e116, g 116 (by decide), f 116 (by omega) (by omega)]
      have o115 : ∀ j, j < 240 * x1 ∨ 240 * x1 + s 1 1 ≤ j → b 115 j = s 115 j := fun j hj => by rw [o2 j hj, g 115 (by decide), f 115 (by omega) (by omega)]
      have new : zSl b r x1 := by
        unfold zSl
        rw [bq r (Or.inl rfl), bq (r + 1) (Or.inr rfl), e1, b116, q_u_at]
        refine ⟨t1, t2, rfl, fun i u z => ?_⟩
        rw [w2 i u z, g 114 (by decide), f 114 (by omega) (by omega), w i u z]
        exact t4 i u z
      have old : ∀ (r' : Nat) (k' : Int), zSl s r' k' → r' ≠ r → r' ≠ r + 1 → r' + 1 ≠ r → r' < 7 → k' ≠ x1 → (k' = 0 ∨ k' = 1) → zSl b r' k' := by
        intro r' k' S d1 d2 d3 d4 dk k01
        obtain ⟨S1, S2, S3, S4⟩ := S
        unfold zSl
        rw [fq r' d1 d2 (by omega) (by omega) (by omega) (by omega), fq (r' + 1) (by omega) (by omega) (by omega) (by omega) (by omega) (by omega), b116, q_u_ne dk]
        refine ⟨S1, S2, S3, fun i u z => ?_⟩
        rw [o115 _ (by omega)]
        exact S4 i u z
      have txb : zTx b := H.tx.fr (fq 1 (by omega) (by omega) (by decide) (by decide) (by decide) (by decide)) (fq 2 (by omega) (by omega) (by decide) (by decide) (by decide) (by decide)) (by rw [fj 0 (by decide), g 113 (by decide), f 113 (by omega) (by omega)]) (fq 114 (by omega) (by omega) (by decide) (by decide) (by decide) (by decide))
      have r0 : b 54 1 = 0 ∧ b 56 1 = 0 ∧ b 58 1 = 0 ∧ b 60 1 = 0 ∧ b 62 1 = 0 := by
        rw [fq 54 (by omega) (by omega) (by decide) (by decide) (by decide) (by decide), fq 56 (by omega) (by omega) (by decide) (by decide) (by decide) (by decide), fq 58 (by omega) (by omega) (by decide) (by decide) (by decide) (by decide), fq 60 (by omega) (by omega) (by decide) (by decide) (by decide) (by decide), fq 62 (by omega) (by omega) (by decide) (by decide) (by decide) (by decide)]; exact H.r0
      have cc : b 0 11 = 0 → zCc X b := by
        rw [fq 0 (by omega) (by omega) (by decide) (by decide) (by decide) (by decide)]
        intro z
        refine (H.cc z).re (fun q u w => fq q (by omega) (by omega) (by omega) (by omega) (by omega) (by omega)) (fq 1 (by omega) (by omega) (by decide) (by decide) (by decide) (by decide)) (fq 2 (by omega) (by omega) (by decide) (by decide) (by decide) (by decide)) (fun b' R => ?_)
        obtain ⟨a0, t, N, LL, n, G, fa, f1, f2, g8, g10, l⟩ := R
        have h8 : ∀ q, 7 ≤ q → q < 43 → b q = s q := fun q u w => fq q (by omega) (by omega) (by omega) (by omega) (by omega) (by omega)
        exact ⟨a0, t, N, LL, n, G, fun q u w => by rw [h8 q (by omega) w]; exact fa q u w, by rw [fq 1 (by omega) (by omega) (by decide) (by decide) (by decide) (by decide)]; exact f1, by rw [fq 2 (by omega) (by omega) (by decide) (by decide) (by decide) (by decide)]; exact f2, by rw [h8 8 (by decide) (by decide)]; exact g8, by rw [h8 10 (by decide) (by decide)]; exact g10, by rw [h8 9 (by decide) (by decide), h8 11 (by decide) (by decide)]; exact l⟩
      rcases hr with ⟨z1, z2⟩ | ⟨z1, z2⟩
      · exact zIv.mk txb (by rw [← z1, ← z2]; exact new) (old 5 1 H.k1 (by omega) (by omega) (by omega) (by omega) (by omega) (Or.inr rfl)) r0 cc
      · exact zIv.mk txb (old 3 0 H.k0 (by omega) (by omega) (by omega) (by omega) (by omega) (Or.inl rfl)) (by rw [← z1, ← z2]; exact new) r0 cc
  refine sg_T_keep (z_c (fun e => z_f (fun z => z e) (go 3 (Or.inl ⟨rfl, e⟩) q_row_3)) (fun e => z_c (fun e1 => z_t e (go 5 (Or.inr ⟨rfl, e1⟩) q_row_5)) (fun e1 => ?_)))
  exact sg_m_keep (k_m_isIn (fun u w => by omega) (fun _ => z_t rfl (k_m_can (fun _ => z_f (by decide) (q_fin q_up_at (fun z => absurd z (by decide)) (H.sm (zSm_47 zSm_rf)))) (fun z => absurd z (by decide)))))
theorem k_m_load (h1 : x1 = 0 ∨ x1 = 1) (hN : s 116 x1 = N) (N0 : 0 ≤ N) (N2 : N ≤ 240) (h : ∀ s', (∀ q, q ≠ 113 → q ≠ 114 → s' q = s q) → (∀ j, j ≠ 0 → j ≠ 47 → s' 113 j = s 113 j) → s' 113 47 = 0 → s' 113 0 = N → (∀ i, 0 ≤ i → i < N → s' 114 i = s 115 (240 * x1 + i)) → Q N s') : c_m_load X x1 s Q := by
  refine sg_m_load (k_m_isIn (fun u w => z_f (by decide) (k_m_can (fun z => absurd rfl z) (fun _ => z_t (by decide) ⟨by omega, by omega, fun s5 e5 => ?_⟩))) (fun n => absurd ⟨by omega, by omega⟩ n))
  have g5 : ∀ q, q ≠ 113 → s5 q = s q := fun q x => by rw [e5, q_up_ne x, q_up_ne x]
  have g5j : ∀ j, j ≠ 0 → j ≠ 47 → s5 113 j = s 113 j := fun j x y => by rw [e5, q_up_nj x, q_up_nj y]
  have g547 : s5 113 47 = 0 := by rw [e5, q_up_nj (by decide), q_up_at]
  have g50 : s5 113 0 = N := by rw [e5, q_up_at, q_up_ne (by decide)]; exact hN
  have L : ∀ (c : Nat) (i : Int) (s1 : qM), i + c = N → 0 ≤ i → (∀ q, q ≠ 114 → s1 q = s5 q) → (∀ j, 0 ≤ j → j < i → s1 114 j = s 115 (240 * x1 + j)) → L_m_load_35 X x1 i s1 Q := by
    intro c
    induction c with
    | zero =>
      intro i s1 hi i0 f w
      have ei : i = N := by omega
      have e0 : s1 113 0 = N := by rw [f 113 (by decide)]; exact g50
      rw [ei] at w
      have r := h s1 (fun q x y => by rw [f q y, g5 q x]) (fun j x y => by rw [f 113 (by decide)]; exact g5j j x y) (by rw [f 113 (by decide)]; exact g547) e0 w
      exact sg_m_load_35 (z_t (by omega) (by rw [e0]; exact r))
    | succ c ih =>
      intro i s1 hi i0 f w
      have e0 : s1 113 0 = N := by rw [f 113 (by decide)]; exact g50
      have e115 : s1 115 = s 115 := by rw [f 115 (by decide), g5 115 (by decide)]
      refine sg_m_load_35 (z_f (by omega) ⟨by omega, by omega, by omega, by omega, by omega, by omega, fun s2 e2 => ⟨by omega, ?_⟩⟩)
      refine ih (i + 1) s2 (by omega) (by omega) (fun q hq => by rw [e2, q_up_ne hq]; exact f q hq) (fun j j0 ji => ?_)
      by_cases z : j = i
      · rw [z, e2, q_up_at, e115]
      · rw [e2, q_up_nj (by omega)]; exact w j j0 (by omega)
  exact L N.toNat 0 s5 (by omega) (Int.le_refl 0) (fun _ _ => rfl) (fun j u w => by omega)
theorem o_load (H : zIv X s) : O_load (zIv X) X x1 s := by
  unfold O_load
  refine k_W_load ?_
  have go : ∀ r : Nat, ((r = 3 ∧ x1 = 0) ∨ (r = 5 ∧ x1 = 1)) → q_isRow r 240 → c_Row_become X 1 r s (fun s1 => (∀ s2 : qM, s2 = q_up s1 0 11 1 → c_Row_size X 1 s2 (fun r4 s3 => c_m_load X x1 (q_up s3 161 0 r4) (fun y s2 => c_m_thrown X s2 (fun e s3 => e = 0 ∧ ((0 : Int) = 0 → s3 161 0 = y) ∧ zIv X s3))))) := by
    intro r hr qr
    have k : zSl s r x1 := by rcases hr with z | z; · { rw [z.1, z.2]; exact H.k0 }; · { rw [z.1, z.2]; exact H.k1 }
    obtain ⟨S1, S2, S3, S4⟩ := k
    refine k_Row_become q_row_1 qr S1 S2 S2 (by omega) (by omega) (by omega) (fun a f e1 w a2 ea => k_Row_size q_row_1 ?_)
    have g : ∀ q, q ≠ 0 → a2 q = a q := fun q hq => by rw [ea, q_up_ne hq]
    have e2 : a2 1 1 = s r 1 := by rw [g 1 (by decide)]; exact e1
    rw [e2]
    have g2 : ∀ q, q ≠ 161 → q_up a2 161 0 (s r 1) q = a2 q := fun q hq => q_up_ne hq
    refine k_m_load (N := s r 1) (by omega) (by rw [g2 116 (by decide), g 116 (by decide), f 116 (by decide) (by decide)]; exact S3) S1 S2 (fun b fb fj e47 e0 w2 => q_fin e47 (fun _ => by rw [fb 161 (by decide) (by decide), q_up_at]) (H.ed ⟨fun q x0 x1' x2 x3 x4 x5 => ?_, fun j hj => ?_, fun j x y => ?_, ?_, ?_⟩))
    · rw [fb q x3 x4, g2 q x5, g q x0]; exact f q x1' x2
    · rw [fb 0 (by decide) (by decide), g2 0 (by decide), ea, q_up_nj hj, f 0 (by decide) (by decide)]
    · rw [fj j x y, g2 113 (by decide), g 113 (by decide), f 113 (by decide) (by decide)]
    · rw [fb 0 (by decide) (by decide), g2 0 (by decide), ea, q_up_at]
    · have b1 : b 1 1 = s r 1 := by rw [fb 1 (by decide) (by decide), g2 1 (by decide)]; exact e2
      have b2 : ∀ i, 0 ≤ i → i < s r 1 → b 2 i = s (r + 1) i := fun i u z => by rw [fb 2 (by decide) (by decide), g2 2 (by decide), g 2 (by decide)]; exact w i u z
      unfold zTx
      rw [b1]
      refine ⟨S1, S2, e0, fun i u z => ?_⟩
      rw [w2 i u z, b2 i u z, g2 115 (by decide), g 115 (by decide), f 115 (by decide) (by decide)]
      exact S4 i u z
  refine sg_T_load (z_c (fun e => z_f (fun z => z e) (go 3 (Or.inl ⟨rfl, e⟩) q_row_3)) (fun e => z_c (fun e1 => z_t e (go 5 (Or.inr ⟨rfl, e1⟩) q_row_5)) (fun e1 => ?_)))
  exact sg_m_load (k_m_isIn (fun u w => by omega) (fun _ => z_t rfl (k_m_can (fun _ => z_f (by decide) (q_fin q_up_at (fun z => absurd z (by decide)) (H.sm (zSm_47 zSm_rf)))) (fun z => absurd z (by decide)))))
end Slots
