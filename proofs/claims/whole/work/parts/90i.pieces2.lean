/-! The tree: all pieces of a leaf. -/
section Pieces2
variable {X : Nat × (Nat → Int32)} {a0 b0 a b : qM} {K : qM → Prop} {V C0 D0 lf cur w P m n p k E B : Int} {d q : Nat} {S : Int → Int}
theorem zDp_at {b : qM} (k0 : 0 ≤ k) : zDp b (k + 1).toNat = zDp b k.toNat + (if b 141 k = 4 then 1 else if b 141 k = 5 then -1 else 0) := by
  rw [show (k + 1).toNat = k.toNat + 1 by omega]
  show zDp b k.toNat + (if b 141 ((k.toNat : Nat) : Int) = 4 then 1 else if b 141 ((k.toNat : Nat) : Int) = 5 then -1 else 0) = _
  rw [show ((k.toNat : Nat) : Int) = k by omega]
theorem zDone.noc (H : zDone a0 b0 n m S p q) (k0 : 0 ≤ k) (hk : b0 141 k ≠ 1) : zOc b0 (k + 1) q 0 q = zOc b0 k q 0 q := by
  rw [zOc_next q (Nat.le_refl q)]
  refine zOc_none q (fun j hj => ?_)
  obtain ⟨_, _, _, p4, p5, _⟩ := H.Z.pr j hj
  exact ⟨fun e => hk (by rw [← e]; exact p4), fun e => hk (by rw [← e]; exact p5)⟩
theorem zDone.at' (H : zDone a0 b0 n m S p q) (k0 : 0 ≤ k) (kp : k < p) : 0 ≤ S k ∧ S k < S (k + 1) ∧ S (k + 1) ≤ m := by
  have h := H.nn.2.2.2.2
  have s := H.Z.sep2 k0 kp (Int.le_refl p)
  have s0 := H.Z.sep k.toNat 0 (by decide) (by omega)
  rw [H.Z.s0, show (0 : Int) + (k.toNat : Int) = k by omega] at s0
  exact ⟨by omega, H.Z.mono k k0 kp, by omega⟩
/-- one piece -/
theorem zDone.pce (H : zDone a0 b0 n m S p q) (cp : V + m ≤ 481 ∧ C0 + m ≤ 299 ∧ D0 + m ≤ 299) (k0 : 0 ≤ k) (kp : k < p) (W : zWs a0 b0 V C0 D0 lf a b (S k) cur w d) (hd : (d : Int) = zDp b0 k.toNat + zOc b0 k q 0 q)
    (h : ∀ a' b' cur' w' d', zWs a0 b0 V C0 D0 lf a' b' (S (k + 1)) cur' w' d' → (d' : Int) = zDp b0 (k + 1).toNat + zOc b0 (k + 1) q 0 q → (∀ Kf : qM → Prop, L_m_treesInline_12 X (k + 1) b' Kf → L_m_treesInline_12 X k b Kf) → L_Tree_addInline_8 X cur' w' (S (k + 1)) a' K) : L_Tree_addInline_8 X cur w (S k) a K := by
  obtain ⟨q2, p2⟩ := H.q240
  obtain ⟨s0, s1, s2⟩ := H.at' k0 kp
  have ty := H.Z.ty k k0 kp
  have dp := zDp_at (b := b0) k0
  have e141 : b 141 k = b0 141 k := by rw [W.fr.2.1 141 (by decide) (by decide) (by decide) (by decide)]
  have e142 : b 142 k = b0 142 k := by rw [W.fr.2.1 142 (by decide) (by decide) (by decide) (by decide)]
  have e33 : b 113 33 = p := by rw [W.fr.2.2 33 (by decide) (by decide) (by decide) (by decide)]; exact H.nn.2.1
  have mod : ∀ Kf : qM → Prop, ((((b 141 k) = 0) → ((((b 141 k) ≠ 3) → ((0 : Int) ≤ k) ∧ (k < (241 : Int)) ∧ c_m_addsCharacter X (b 142 k) b (fun s1 => (-2147483648 ≤ (k + 1) ∧ (k + 1) < 2147483648) ∧ L_m_treesInline_12 X (k + 1) s1 Kf)) ∧ (¬ ((b 141 k) ≠ 3) → c_m_addsCharacter X 91 b (fun s2 => (-2147483648 ≤ (k + 1) ∧ (k + 1) < 2147483648) ∧ L_m_treesInline_12 X (k + 1) s2 Kf)))) ∧ (¬ ((b 141 k) = 0) → ((((b 141 k) ≠ 3) → ((((b 141 k) ≠ 1) → ((((b 141 k) ≠ 2) → ((((b 141 k) ≠ 4) → c_m_leaves X  b (fun s3 => (-2147483648 ≤ (k + 1) ∧ (k + 1) < 2147483648) ∧ L_m_treesInline_12 X (k + 1) s3 Kf)) ∧ (¬ ((b 141 k) ≠ 4) → c_m_enters X 12 b (fun s4 => ((0 : Int) ≤ k) ∧ (k < (241 : Int)) ∧ ((0 : Int) ≤ (s4 113 54)) ∧ ((s4 113 54) < (900 : Int)) ∧ (∀ s5 : qM, s5 = q_up s4 136 (s4 113 54) (s4 143 k) → (-2147483648 ≤ (k + 1) ∧ (k + 1) < 2147483648) ∧ L_m_treesInline_12 X (k + 1) s5 Kf))))) ∧ (¬ ((b 141 k) ≠ 2) → c_m_enters X 11 b (fun s6 => ((0 : Int) ≤ k) ∧ (k < (241 : Int)) ∧ L_m_treesInline_91 X k (s6 142 k) s6 Kf)))) ∧ (¬ ((b 141 k) ≠ 1) → c_m_treesRun X k b (fun s7 => (-2147483648 ≤ (k + 1) ∧ (k + 1) < 2147483648) ∧ L_m_treesInline_12 X (k + 1) s7 Kf)))) ∧ (¬ ((b 141 k) ≠ 3) → ((((b 141 k) ≠ 3) → ((0 : Int) ≤ k) ∧ (k < (241 : Int)) ∧ c_m_addsCharacter X (b 142 k) b (fun s8 => (-2147483648 ≤ (k + 1) ∧ (k + 1) < 2147483648) ∧ L_m_treesInline_12 X (k + 1) s8 Kf)) ∧ (¬ ((b 141 k) ≠ 3) → c_m_addsCharacter X 91 b (fun s9 => (-2147483648 ≤ (k + 1) ∧ (k + 1) < 2147483648) ∧ L_m_treesInline_12 X (k + 1) s9 Kf))))))) → L_m_treesInline_12 X k b Kf := fun Kf hk => sg_m_treesInline_12 (z_f (by omega) ⟨k0, by omega, hk⟩)
  have rg : -2147483648 ≤ (k + 1) ∧ (k + 1) < 2147483648 := by omega
  rw [e141, e142] at mod
  by_cases t0 : b0 141 k = 0
  · have nc := H.noc k0 (show b0 141 k ≠ 1 by omega)
    rw [if_neg (by omega), if_neg (by omega)] at dp
    have go : ∀ P, 0 ≤ P → P + 1 = S (k + 1) → a0 48 P = 0 → b0 142 k = b0 138 P → zWs a0 b0 V C0 D0 lf a b P cur w d → L_Tree_addInline_8 X cur w P a K := by
      intro P P0 hP hr hx W1
      refine W1.char H cp P0 (by omega) hr hx.symm (fun a' b' w' W' M' => ?_)
      rw [hP] at W' ⊢
      exact h a' b' cur w' d W' (by omega) (fun Kf hk => mod Kf (z_t t0 (z_t (by omega) ⟨k0, by omega, M' _ ⟨rg, hk⟩⟩)))
    rcases H.Z.k0 k k0 kp t0 with ⟨x1, x2, x3⟩ | ⟨x1, x2, x3, x4⟩
    · exact go (S k) s0 (by omega) x2 x3 W
    · exact H.pass W.fr.1 (E := S k + 1) (by omega) (go (S k + 1) (by omega) (by omega) x3 x4 (W.mono (by omega))) 1 (S k) rfl s0 (fun i u z => by rw [show i = S k by omega]; exact x2)
  by_cases t3 : b0 141 k = 3
  · have nc := H.noc k0 (show b0 141 k ≠ 1 by omega)
    rw [if_neg (by omega), if_neg (by omega)] at dp
    obtain ⟨x1, x2, x3, x4⟩ := H.Z.k3 k k0 kp t3
    refine W.char H cp s0 (by omega) x2 x4 (fun a' b' w' W' M' => ?_)
    rw [← x1] at W' ⊢
    exact h a' b' cur w' d W' (by omega) (fun Kf hk => mod Kf (z_f t0 (z_f (by omega) (z_f (by omega) (M' _ ⟨rg, hk⟩)))))
  by_cases t1 : b0 141 k = 1
  · rw [if_neg (by omega), if_neg (by omega)] at dp
    refine W.run H cp k0 kp t1 (H.dp k.toNat (by omega)) hd (fun a' b' cur' w' d' W' hd' M' => h a' b' cur' w' d' W' (by omega) (fun Kf hk => mod Kf (z_f t0 (z_t t3 (z_f (by omega) (M' _ ⟨rg, hk⟩))))))
  have nc := H.noc k0 t1
  by_cases t2 : b0 141 k = 2
  · rw [if_neg (by omega), if_neg (by omega)] at dp
    obtain ⟨x1, x2, x3, x4, x5, x6, x7, x8⟩ := H.Z.k2 k k0 kp t2
    refine W.code H cp s0 x1 x2 x3 s2 k0 (by omega) rfl rfl x4 x5 x6 x7 x8 (fun a' b' W' M' => h a' b' cur (-1) d W' (by omega) (fun Kf hk => mod Kf (z_f t0 (z_t t3 (z_t t1 (z_f (by omega) (M' Kf hk)))))))
  by_cases t4 : b0 141 k = 4
  · rw [if_pos t4] at dp
    obtain ⟨x1, x2⟩ := H.Z.k4 k k0 kp t4
    refine W.link H cp s0 (by omega) x2 k0 (by omega) (H.lk k k0 kp t4) (fun a' b' cur' W' M' => ?_)
    rw [← x1] at W' ⊢
    exact h a' b' cur' (-1) (d + 1) W' (by omega) (fun Kf hk => mod Kf (z_f t0 (z_t t3 (z_t t1 (z_t t2 (z_f (by omega) (M' (fun s5 => (-2147483648 ≤ (k + 1) ∧ (k + 1) < 2147483648) ∧ L_m_treesInline_12 X (k + 1) s5 Kf) ⟨rg, hk⟩)))))))
  · have t5 : b0 141 k = 5 := by omega
    rw [if_neg t4, if_pos t5] at dp
    obtain ⟨x1, x2⟩ := H.Z.k5 k k0 kp t5
    have d0 := H.dp (k + 1).toNat (by omega)
    have nn := zOc_nn (b := b0) (k := k) (P := q) (Q := 0) q (fun j hj => (H.Z.pr j hj).2.1)
    obtain ⟨d', ed⟩ : ∃ d', d = d' + 1 := ⟨d - 1, by omega⟩
    subst ed
    refine W.leave H cp s0 (by omega) x1 (fun b' cur' W' M' => ?_)
    exact H.pass W'.fr.1 s2 (h a b' cur' (-1) d' (W'.mono (by omega)) (by omega) (fun Kf hk => mod Kf (z_f t0 (z_t t3 (z_t t1 (z_t t2 (z_t t4 (M' _ ⟨rg, hk⟩)))))))) (S (k + 1) - (S k + 1)).toNat (S k + 1) (by omega) (by omega) (fun i u z => x2 i (by omega) z)
theorem zDone.pcs (H : zDone a0 b0 n m S p q) (cp : V + m ≤ 481 ∧ C0 + m ≤ 299 ∧ D0 + m ≤ 299) : ∀ (c : Nat) (k : Int), 0 ≤ k → k + c = p → ∀ (a b : qM) (cur w : Int) (d : Nat), zWs a0 b0 V C0 D0 lf a b (S k) cur w d → (d : Int) = zDp b0 k.toNat + zOc b0 k q 0 q →
    (∀ a' b' cur' w' d', zWs a0 b0 V C0 D0 lf a' b' m cur' w' d' → (∀ Kf : qM → Prop, Kf b' → L_m_treesInline_12 X k b Kf) → K a') → L_Tree_addInline_8 X cur w (S k) a K := by
  intro c
  induction c with
  | zero =>
    intro k k0 hk a b cur w d W hd h
    have sp := H.nn.2.2.2.2
    have hs := H.W.sz.1
    have m2 := H.W.m0.2
    have F45 := W.fr.1 45 (by decide)
    have e33 : b 113 33 = p := by rw [W.fr.2.2 33 (by decide) (by decide) (by decide) (by decide)]; exact H.nn.2.1
    have kp : k = p := by omega
    rw [kp, sp] at W ⊢
    rw [kp] at h
    refine sg_Tree_addInline_8 (sg_Il_size (k_Row_size q_row_45 (z_t (by rw [F45]; omega) (h a b cur w d W (fun Kf hk => sg_m_treesInline_12 (z_t (by omega) hk))))))
  | succ c ih =>
    intro k k0 hk a b cur w d W hd h
    exact H.pce cp k0 (by omega) W hd (fun a1 b1 cur1 w1 d1 W1 hd1 M1 => ih (k + 1) (by omega) (by omega) a1 b1 cur1 w1 d1 W1 hd1 (fun a' b' cur' w' d' W' M' => h a' b' cur' w' d' W' (fun Kf hk => M1 Kf (M' Kf hk))))
end Pieces2
