/-! The tree: a run of stars. -/
section Stars
variable {X : Nat × (Nat → Int32)} {a0 b0 a b : qM} {K : qM → Prop} {V C0 D0 lf cur w P m n p k E B : Int} {d q : Nat} {S : Int → Int}
theorem zCw_succ {b : qM} {j : Nat} : zCw b k (j + 1) = zCw b k j + (if b 149 (j : Int) = k then zWd b j else 0) := rfl
theorem zOu_succ {b : qM} {j : Nat} : zOu b k (j + 1) = zOu b k j + (if b 148 (j : Int) = k then zWd b j else 0) := rfl
theorem zDone.q240 (H : zDone a0 b0 n m S p q) : (q : Int) ≤ 240 ∧ p ≤ 240 := by
  have h := H.nn.2.2.2.2
  have g := H.Z.qle
  have := H.W.m0.2
  omega
theorem zDone.run1 (H : zDone a0 b0 n m S p q) (k0 : 0 ≤ k) (kp : k < p) (hk : b0 141 k = 1) : 0 ≤ S k ∧ S (k + 1) ≤ m ∧ (∀ J : Nat, 0 ≤ zCw b0 k J ∧ 0 ≤ zOu b0 k J) ∧ S k + zCw b0 k q + b0 146 k = S (k + 1) - zOu b0 k q ∧ 0 ≤ b0 146 k := by
  have h := H.nn.2.2.2.2
  have s := H.Z.sep2 k0 kp (Int.le_refl p)
  have s0 := H.Z.sep k.toNat 0 (by decide) (by omega)
  rw [H.Z.s0, show (0 : Int) + (k.toNat : Int) = k by omega] at s0
  obtain ⟨e1, e2, e3, _⟩ := H.Z.k1 k k0 kp hk
  refine ⟨by omega, by omega, fun J => ⟨?_, ?_⟩, by omega, e3⟩
  · exact zCw_le (b := b0) (k := k) (Nat.zero_le J)
  · exact zOu_le (b := b0) (k := k) (Nat.zero_le J)
theorem zDone.clos (H : zDone a0 b0 n m S p q) (cp : V + m ≤ 481 ∧ C0 + m ≤ 299 ∧ D0 + m ≤ 299) (k0 : 0 ≤ k) (kp : k < p) (hk : b0 141 k = 1) (B0 : 0 ≤ B) : ∀ (c J : Nat), J + c = q → ∀ (b : qM) (cur w : Int) (d : Nat), zWs a0 b0 V C0 D0 lf a b (S k + zCw b0 k J) cur w d → (d : Int) = B + zOc b0 k q J q →
    (∀ b' cur' w' d', zWs a0 b0 V C0 D0 lf a b' (S k + zCw b0 k q) cur' w' d' → (d' : Int) = B + zOc b0 k q q q → (∀ Kf : qM → Prop, L_m_treesRun_32 X k 0 b' Kf → L_m_treesRun_2 X k J b Kf) → L_Tree_addInline_8 X cur' w' (S k + zCw b0 k q) a K) → L_Tree_addInline_8 X cur w (S k + zCw b0 k J) a K := by
  intro c
  induction c with
  | zero =>
    intro J hJ b cur w d W hd h
    rw [show J = q by omega] at W hd h ⊢
    refine h b cur w d W hd (fun Kf hk => sg_m_treesRun_2 (z_t ?_ hk))
    rw [W.fr.2.2 41 (by decide) (by decide) (by decide) (by decide), H.nn.1]; exact Int.le_refl _
  | succ c ih =>
    intro J hJ b cur w d W hd h
    have q2 := H.q240.1
    have e41 : b 113 41 = q := by rw [W.fr.2.2 41 (by decide) (by decide) (by decide) (by decide)]; exact H.nn.1
    have e149 : b 149 J = b0 149 J := by rw [W.fr.2.1 149 (by decide) (by decide) (by decide) (by decide)]
    have cs := zCw_succ (b := b0) (k := k) (j := J)
    by_cases cl : b0 149 (J : Int) = k
    · rw [if_pos cl] at cs
      have oc := zOc_close (b := b0) (k := k) (P := q) (J := J) q
      rw [if_pos ⟨by omega, cl⟩] at oc
      have nn := zOc_nn (b := b0) (k := k) (P := q) (Q := J + 1) q (fun j hj => (H.Z.pr j hj).2.1)
      obtain ⟨r1, r2, r3, r4, r5⟩ := H.run1 k0 kp hk
      have rq := (r3 q).2
      have rj := (r3 J).1
      have cle := zCw_le (b := b0) (k := k) (i := J + 1) (j := q) (by omega)
      have wd := zWd_12 (b := b0) (j := J)
      obtain ⟨_, _, _, _, _, p6, p7, p8, _⟩ := H.Z.pr J (by omega)
      rw [cl] at p7 p8
      obtain ⟨d', ed⟩ : ∃ d', d = d' + 1 := ⟨d - 1, by omega⟩
      subst ed
      refine W.leave H cp (by omega) (by omega) p7 (fun b1 cur1 W1 M1 => ?_)
      have nxt : ∀ (b2 : qM), b2 = b1 → zWs a0 b0 V C0 D0 lf a b2 (S k + zCw b0 k (J + 1)) cur1 (-1) d' → L_Tree_addInline_8 X cur1 (-1) (S k + zCw b0 k (J + 1)) a K := by
        intro b2 e2 W2
        refine ih (J + 1) (by omega) b2 cur1 (-1) d' W2 (by omega) (fun b' cur' w' d'' W' hd' M' => h b' cur' w' d'' W' hd' (fun Kf hkf => ?_))
        have m' := M' Kf hkf
        rw [e2, show ((J + 1 : Nat) : Int) = (J : Int) + 1 by omega] at m'
        exact sg_m_treesRun_2 (z_f (by omega) ⟨by omega, by omega, z_f (fun z => z (by rw [e149]; exact cl)) (M1 _ ⟨by omega, m'⟩)⟩)
      rcases p6 with w9 | w10
      · have e1 : zWd b0 J = 1 := by unfold zWd; rw [if_neg (by omega)]
        have ep : S k + zCw b0 k J + 1 = S k + zCw b0 k (J + 1) := by omega
        rw [ep] at W1 ⊢
        exact nxt b1 rfl W1
      · have e2 : zWd b0 J = 2 := by unfold zWd; rw [if_pos w10]
        have ep : S k + zCw b0 k J + 1 + 1 = S k + zCw b0 k (J + 1) := by omega
        refine H.pass W1.fr.1 (E := S k + zCw b0 k J + 1 + 1) (by omega) ?_ 1 _ rfl (by omega) (fun i u z => by rw [show i = S k + zCw b0 k J + 1 by omega]; exact p8 w10)
        rw [ep]
        exact nxt b1 rfl (W1.mono (by omega))
    · rw [if_neg cl, Int.add_zero] at cs
      have oc := zOc_close (b := b0) (k := k) (P := q) (J := J) q
      rw [if_neg (fun z => cl z.2), Int.sub_zero] at oc
      rw [← cs] at W ⊢
      refine ih (J + 1) (by omega) b cur w d W (by rw [oc]; exact hd) (fun b' cur' w' d'' W' hd' M' => h b' cur' w' d'' W' hd' (fun Kf hkf => ?_))
      have m' := M' Kf hkf
      rw [show ((J + 1 : Nat) : Int) = (J : Int) + 1 by omega] at m'
      exact sg_m_treesRun_2 (z_f (by omega) ⟨by omega, by omega, z_t (by rw [e149]; exact cl) ⟨by omega, m'⟩⟩)
theorem zDone.strs (H : zDone a0 b0 n m S p q) (cp : V + m ≤ 481 ∧ C0 + m ≤ 299 ∧ D0 + m ≤ 299) (k0 : 0 ≤ k) (kp : k < p) (hk : b0 141 k = 1) : ∀ (c : Nat) (i : Int), 0 ≤ i → i + c = b0 146 k → ∀ (a b : qM) (w : Int), zWs a0 b0 V C0 D0 lf a b (S k + zCw b0 k q + i) cur w d →
    (∀ a' b' w', zWs a0 b0 V C0 D0 lf a' b' (S (k + 1) - zOu b0 k q) cur w' d → (∀ Kf : qM → Prop, L_m_treesRun_61 X k ((q : Int) - 1) b' Kf → L_m_treesRun_32 X k i b Kf) → L_Tree_addInline_8 X cur w' (S (k + 1) - zOu b0 k q) a' K) → L_Tree_addInline_8 X cur w (S k + zCw b0 k q + i) a K := by
  obtain ⟨q2, p2⟩ := H.q240
  obtain ⟨r1, r2, r3, r4, r5⟩ := H.run1 k0 kp hk
  intro c
  induction c with
  | zero =>
    intro i i0 hi a b w W h
    have e41 : b 113 41 = q := by rw [W.fr.2.2 41 (by decide) (by decide) (by decide) (by decide)]; exact H.nn.1
    have e146 : b 146 k = b0 146 k := by rw [W.fr.2.1 146 (by decide) (by decide) (by decide) (by decide)]
    rw [show S k + zCw b0 k q + i = S (k + 1) - zOu b0 k q by omega] at W ⊢
    refine h a b w W (fun Kf hkf => sg_m_treesRun_32 ⟨k0, by omega, z_t (by omega) ⟨by omega, ?_⟩⟩)
    rw [e41]; exact hkf
  | succ c ih =>
    intro i i0 hi a b w W h
    have e146 : b 146 k = b0 146 k := by rw [W.fr.2.1 146 (by decide) (by decide) (by decide) (by decide)]
    have rq := r3 q
    have m2 := H.W.m0.2
    obtain ⟨_, _, _, st, ze⟩ := H.Z.k1 k k0 kp hk
    refine W.char (x := 42) H cp (by omega) (by omega) (ze _ (by omega) (by omega)) (st _ (by omega) (by omega)) (fun a1 b1 w1 W1 M1 => ?_)
    rw [show S k + zCw b0 k q + i + 1 = S k + zCw b0 k q + (i + 1) by omega] at W1 ⊢
    refine ih (i + 1) (by omega) (by omega) a1 b1 w1 W1 (fun a' b' w' W' M' => h a' b' w' W' (fun Kf hkf => ?_))
    exact sg_m_treesRun_32 ⟨k0, by omega, z_f (by omega) (M1 _ ⟨by omega, M' Kf hkf⟩)⟩
theorem zDone.open1 (H : zDone a0 b0 n m S p q) (cp : V + m ≤ 481 ∧ C0 + m ≤ 299 ∧ D0 + m ≤ 299) (k0 : 0 ≤ k) (kp : k < p) (hk : b0 141 k = 1) : ∀ (J : Nat), J ≤ q → ∀ (a b : qM) (cur w : Int) (d : Nat), zWs a0 b0 V C0 D0 lf a b (S (k + 1) - zOu b0 k J) cur w d → (d : Int) = B + zOc b0 k J q q →
    (∀ a' b' cur' w' d', zWs a0 b0 V C0 D0 lf a' b' (S (k + 1)) cur' w' d' → (d' : Int) = B + zOc b0 k 0 q q → (∀ Kf : qM → Prop, Kf b' → L_m_treesRun_61 X k ((J : Int) - 1) b Kf) → L_Tree_addInline_8 X cur' w' (S (k + 1)) a' K) → L_Tree_addInline_8 X cur w (S (k + 1) - zOu b0 k J) a K := by
  obtain ⟨q2, p2⟩ := H.q240
  obtain ⟨r1, r2, r3, r4, r5⟩ := H.run1 k0 kp hk
  intro J
  induction J with
  | zero =>
    intro hJ a b cur w d W hd h
    rw [show zOu b0 k 0 = 0 from rfl, Int.sub_zero] at W ⊢
    exact h a b cur w d W hd (fun Kf hkf => sg_m_treesRun_61 (z_t (by decide) hkf))
  | succ J ih =>
    intro hJ a b cur w d W hd h
    have e148 : b 148 J = b0 148 J := by rw [W.fr.2.1 148 (by decide) (by decide) (by decide) (by decide)]
    have e150 : b 150 J = b0 150 J := by rw [W.fr.2.1 150 (by decide) (by decide) (by decide) (by decide)]
    have os := zOu_succ (b := b0) (k := k) (j := J)
    have ej : ((J + 1 : Nat) : Int) - 1 = J := by omega
    rw [ej] at h
    have oo := zOc_open (b := b0) (k := k) (Q := q) (J := J) q
    by_cases cl : b0 148 (J : Int) = k
    · rw [if_pos cl] at os
      rw [if_pos ⟨by omega, cl⟩] at oo
      have rq := (r3 q).1
      have rj := (r3 J).2
      have ole := zOu_le (b := b0) (k := k) (i := J + 1) (j := q) hJ
      have wd := zWd_12 (b := b0) (j := J)
      obtain ⟨_, _, _, _, _, p6, _, _, p9, p10⟩ := H.Z.pr J (by omega)
      rw [cl] at p9 p10
      refine W.enter (κ := b0 150 J) H cp (by omega) (by omega) p9 p6 (fun a1 b1 cur1 W1 M1 => ?_)
      have nxt : zWs a0 b0 V C0 D0 lf a1 b1 (S (k + 1) - zOu b0 k J) cur1 (-1) (d + 1) → L_Tree_addInline_8 X cur1 (-1) (S (k + 1) - zOu b0 k J) a1 K := by
        intro W2
        refine ih (by omega) a1 b1 cur1 (-1) (d + 1) W2 (by omega) (fun a' b' cur' w' d'' W' hd' M' => h a' b' cur' w' d'' W' hd' (fun Kf hkf => ?_))
        refine sg_m_treesRun_61 (z_f (by omega) ⟨by omega, by omega, z_f (fun z => z (by rw [e148]; exact cl)) ⟨by omega, by omega, ?_⟩⟩)
        rw [e150]
        exact M1 _ ⟨by omega, M' Kf hkf⟩
      rcases p6 with w9 | w10
      · have e1 : zWd b0 J = 1 := by unfold zWd; rw [if_neg (by omega)]
        have ep : S (k + 1) - zOu b0 k (J + 1) + 1 = S (k + 1) - zOu b0 k J := by omega
        rw [ep] at W1 ⊢
        exact nxt W1
      · have e2 : zWd b0 J = 2 := by unfold zWd; rw [if_pos w10]
        have ep : S (k + 1) - zOu b0 k (J + 1) + 1 + 1 = S (k + 1) - zOu b0 k J := by omega
        refine H.pass W1.fr.1 (E := S (k + 1) - zOu b0 k (J + 1) + 1 + 1) (by omega) ?_ 1 _ rfl (by omega) (fun i u z => by rw [show i = S (k + 1) - zOu b0 k (J + 1) + 1 by omega]; exact p10 w10)
        rw [ep]
        exact nxt (W1.mono (by omega))
    · rw [if_neg cl, Int.add_zero] at os
      rw [if_neg (fun z => cl z.2), Int.add_zero] at oo
      rw [os] at W ⊢
      refine ih (by omega) a b cur w d W (by rw [oo]; exact hd) (fun a' b' cur' w' d'' W' hd' M' => h a' b' cur' w' d'' W' hd' (fun Kf hkf => ?_))
      exact sg_m_treesRun_61 (z_f (by omega) ⟨by omega, by omega, z_t (by rw [e148]; exact cl) ⟨by omega, M' Kf hkf⟩⟩)
theorem zWs.run (W : zWs a0 b0 V C0 D0 lf a b (S k) cur w d) (H : zDone a0 b0 n m S p q) (cp : V + m ≤ 481 ∧ C0 + m ≤ 299 ∧ D0 + m ≤ 299) (k0 : 0 ≤ k) (kp : k < p) (hk : b0 141 k = 1) (B0 : 0 ≤ B) (hd : (d : Int) = B + zOc b0 k q 0 q)
    (h : ∀ a' b' cur' w' d', zWs a0 b0 V C0 D0 lf a' b' (S (k + 1)) cur' w' d' → (d' : Int) = B + zOc b0 (k + 1) q 0 q → (∀ Kf : qM → Prop, Kf b' → c_m_treesRun X k b Kf) → L_Tree_addInline_8 X cur' w' (S (k + 1)) a' K) : L_Tree_addInline_8 X cur w (S k) a K := by
  have z0 : zCw b0 k 0 = 0 := rfl
  have r5 := (H.run1 k0 kp hk).2.2.2.2
  have t := H.clos (X := X) (K := K) (a := a) (lf := lf) (V := V) (C0 := C0) (D0 := D0) cp k0 kp hk B0 q 0 (by omega) b cur w d (by rw [z0, Int.add_zero]; exact W) hd (fun b1 cur1 w1 d1 W1 hd1 M1 => ?_)
  · rw [z0, Int.add_zero] at t; exact t
  · have t2 := H.strs (X := X) (K := K) (V := V) (C0 := C0) (D0 := D0) (lf := lf) (cur := cur1) (d := d1) cp k0 kp hk (b0 146 k).toNat 0 (Int.le_refl 0) (by omega) a b1 w1 (by rw [Int.add_zero]; exact W1) (fun a2 b2 w2 W2 M2 => ?_)
    · rw [Int.add_zero] at t2; exact t2
    · refine H.open1 (B := B) cp k0 kp hk q (Nat.le_refl q) a2 b2 cur1 w2 d1 W2 hd1 (fun a' b' cur' w' d' W' hd' M' => h a' b' cur' w' d' W' (by rw [zOc_next q (Nat.le_refl q)]; exact hd') (fun Kf hkf => sg_m_treesRun (M1 Kf (M2 Kf (M' Kf hkf)))))
end Stars
