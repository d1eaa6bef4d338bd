/-! Merges: the table, row by row. -/
section Table
variable {X : Nat × (Nat → Int32)} {a b a0 b0 a' b' s : qM} {K : qM → Prop} {KI : Int → qM → Prop} {i j n m M0 M1 w v : Int} {r2 t2 : Nat}
theorem k_fillOne (hr : (r2 = 7 ∧ t2 = 1) ∨ (r2 = 96 ∧ t2 = 5)) (hq : q_isLines r2 t2 (r2 + 1) (r2 + 3)) (A0 : zLm a0 b0 91 3 0 M0 n) (B0 : zLm a0 b0 r2 t2 w M1 m) (P : zPf a0 b0 a b (fun i j => zEq a0 91 3 i r2 t2 j) n m i j) (i0 : 0 ≤ i) (iN : i < n) (j0 : 0 ≤ j) (jm : j < m)
    (h : ∀ a' b', zPf a0 b0 a' b' (fun i j => zEq a0 91 3 i r2 t2 j) n m i (j - 1) → (∀ Kf : qM → Prop, L_m_takesTogether_25 X w n m i (j - 1) b' Kf → L_m_takesTogether_25 X w n m i j b Kf) → L_Pairing_fillLeavings_47 X 91 r2 i (j - 1) a' K) : L_Pairing_fillLeavings_47 X 91 r2 i j a K := by
  have nb := A0.bd
  have mb := B0.bd
  have w0 := B0.w0
  obtain ⟨z1, z2⟩ := P.sz
  have fa := P.fa
  have fb := P.fb
  obtain ⟨u1, u2, u3⟩ := P.up j j0 (by omega)
  obtain ⟨v1, v2, v3⟩ := P.up (j + 1) (by omega) (by omega)
  obtain ⟨x1, x2, x3⟩ := P.lo (j + 1) (by omega) (by omega)
  have A : zLm a b 91 3 0 M0 n := A0.fr2 (by omega) fa fb
  have B : zLm a b r2 t2 w M1 m := B0.fr2 (by omega) fa fb
  have eqS : zEq a 91 3 i r2 t2 j ↔ zEq a0 91 3 i r2 t2 j := zEq.fr hr fa
  have e242 : 242 * i + j + 242 = 242 * (i + 1) + j := by omega
  have e243 : 242 * i + j + 243 = 242 * (i + 1) + (j + 1) := by omega
  have e1 : 242 * i + j + 1 = 242 * i + (j + 1) := by omega
  generalize ep : b 159 (242 * (i + 1) + j) = p at u1 u2 u3
  generalize eq : b 159 (242 * i + (j + 1)) = q at x1 x2 x3
  generalize eo : b 159 (242 * (i + 1) + (j + 1)) = o at v1 v2 v3
  -- the model
  have mod : ∀ (x : Int), (zEq a0 91 3 i r2 t2 j → x = o + 1) → (¬ zEq a0 91 3 i r2 t2 j → x = if p ≤ q then q else p) → ∀ Kf : qM → Prop, L_m_takesTogether_25 X w n m i (j - 1) (q_up b 159 (242 * i + j) x) Kf → L_m_takesTogether_25 X w n m i j b Kf := by
    intro x hs hn Kf hk
    refine sg_m_takesTogether_25 (z_f (by omega) ⟨by omega, by omega, z_f (by omega) (z_t (by omega) ⟨by omega, by omega, k_m_isSame A B i0 iN j0 jm (fun y => z_f (by decide) ?_) (fun y => z_t rfl ?_) (by omega) rfl⟩)⟩)
    · rw [e243, eo]
      refine ⟨by omega, by omega, by omega, by omega, by omega, by omega, fun s6 e6 => ⟨by omega, ?_⟩⟩
      rw [e6, ← hs (eqS.mp y)]; exact hk
    · have hx := hn (fun z => y (eqS.mpr z))
      rw [e242, e1, ep, eq]
      refine ⟨by omega, by omega, by omega, by omega, by omega, by omega, z_c (fun le => ⟨by omega, by omega, by omega, by omega, by omega, fun s4 e4 => ⟨by omega, ?_⟩⟩) (fun gt => ⟨by omega, by omega, by omega, by omega, by omega, fun s5 e5 => ⟨by omega, ?_⟩⟩)⟩
      · rw [if_pos le] at hx; rw [e4, ← hx]; exact hk
      · rw [if_neg gt] at hx; rw [e5, ← hx]; exact hk
  -- the class behind the comparison
  have go : ∀ v : Int, (v ≠ 0 ↔ q ≤ p) → L_Pairing_fillLeavings_92 X 91 r2 i j p q i j v a K := by
    intro v hv
    refine sg_Pairing_fillLeavings_92 q_lines_91 hq (k_leaveOut i0 (by omega) j0 (by omega) (fun a1 f1 l1 l2 => ?_))
    have fa1 : ∀ r, r < 102 ∨ 106 < r → a1 r = a0 r := fun r hr => (f1 r (by omega)).trans (fa r hr)
    have A1 : zLm a1 b 91 3 0 M0 n := A0.fr2 (by omega) fa1 fb
    have B1 : zLm a1 b r2 t2 w M1 m := B0.fr2 (by omega) fa1 fb
    have eqS1 : zEq a1 91 3 i r2 t2 j ↔ zEq a0 91 3 i r2 t2 j := zEq.fr hr fa1
    have s103 : a1 103 1 = m + 1 := by rw [f1 103 (by decide)]; exact z1
    have s105 : a1 105 1 = m + 1 := by rw [f1 105 (by decide)]; exact z2
    have fin : ∀ x : Int, 0 ≤ x → x ≤ n - i → (zEq a0 91 3 i r2 t2 j → x = o + 1) → (¬ zEq a0 91 3 i r2 t2 j → x = if p ≤ q then q else p) → L_Pairing_fillLeavings_47 X 91 r2 i (j + (-1)) (q_up a1 (103 + 1) j x) K := by
      intro x x0 xn hs hn
      rw [show j + (-1) = j - 1 by omega]
      refine h _ (q_up b 159 (242 * i + j) x) (P.step i0 iN j0 jm mb.2 (x := x) (fun r y z => by rw [q_up_ne z]; exact f1 r y) ?_ (fun r hr => q_up_ne hr) q_up_fn x0 xn ?_ (fun i' j' y1 y2 y3 y4 => ?_) (fun y => by rw [ep, eq]; exact hn y)) (mod x hs hn)
      · rw [show q_up a1 (103 + 1) j x 104 = q_u (a1 104) j x from q_up_fn, f1 104 (by decide)]
      · unfold zLv at l1 ⊢
        rw [q_up_ne (by decide), l1, hv, ep, eq]
      · have := l2 i' j' y1 y2 y3 y4
        unfold zLv at this ⊢
        rw [q_up_ne (by decide)]; exact this
    refine k_isSame q_lines_91 hq A1 B1 i0 iN j0 jm (fun y => z_f (by decide) ⟨by omega, k_Row_at q_row_105 (by omega) ?_⟩) (fun y => z_t rfl (k_Row_set q_row_103 (by omega) (fun _ _ => ⟨by omega, ?_⟩) (fun z => absurd ⟨j0, by omega⟩ z)))
    · rw [zT_in (by omega) (by omega), f1 (105 + 1) (by decide), show a (105 + 1) (j + 1) = o from v1]
      refine ⟨by omega, k_Row_set q_row_103 (by omega) (fun _ _ => ⟨by omega, fin (o + 1) (by omega) (by omega) (fun _ => rfl) (fun z => absurd (eqS1.mp y) z)⟩) (fun z => absurd ⟨j0, by omega⟩ z)⟩
    · have ex : (if p < q then q else p) = if p ≤ q then q else p := by
        by_cases y1 : p < q
        · rw [if_pos y1, if_pos (by omega)]
        · rw [if_neg y1]
          by_cases y2 : p ≤ q
          · rw [if_pos y2]; omega
          · rw [if_neg y2]
      refine fin _ ?_ ?_ (fun z => absurd (eqS1.mpr z) y) (fun _ => ex)
      · split <;> omega
      · split <;> omega
  refine sg_Pairing_fillLeavings_47 q_lines_91 hq (z_f (by omega) (k_Row_at q_row_105 (by omega) ?_))
  rw [zT_in j0 (by omega), show a (105 + 1) j = p from u1]
  refine ⟨by omega, k_Row_at q_row_103 (by omega) ?_⟩
  rw [zT_in (by omega) (by omega), show a (103 + 1) (j + 1) = q from x1]
  exact z_c (fun lt => go 0 ⟨fun z => absurd rfl z, fun z => by omega⟩) (fun ge => go 1 ⟨fun _ => by omega, fun _ => by decide⟩)
theorem k_fillRow (hr : (r2 = 7 ∧ t2 = 1) ∨ (r2 = 96 ∧ t2 = 5)) (hq : q_isLines r2 t2 (r2 + 1) (r2 + 3)) (A0 : zLm a0 b0 91 3 0 M0 n) (B0 : zLm a0 b0 r2 t2 w M1 m) (i0 : 0 ≤ i) (iN : i < n) : ∀ (c : Nat) (j : Int) (a b : qM), j + 1 = c → j < m → zPf a0 b0 a b (fun i j => zEq a0 91 3 i r2 t2 j) n m i j →
    (∀ a' b', zPf a0 b0 a' b' (fun i j => zEq a0 91 3 i r2 t2 j) n m i (-1) → (∀ Kf : qM → Prop, L_m_takesTogether_25 X w n m i (-1) b' Kf → L_m_takesTogether_25 X w n m i j b Kf) → L_Pairing_fillLeavings_47 X 91 r2 i (-1) a' K) → L_Pairing_fillLeavings_47 X 91 r2 i j a K := by
  intro c
  induction c with
  | zero =>
    intro j a b hj jm P h
    rw [show j = -1 by omega] at P h ⊢
    exact h a b P (fun _ z => z)
  | succ c ih =>
    intro j a b hj jm P h
    exact k_fillOne hr hq A0 B0 P i0 iN (by omega) jm (fun a1 b1 P1 W1 => ih (j - 1) a1 b1 (by omega) (by omega) P1 (fun a' b' P' W' => h a' b' P' (fun Kf z => W1 Kf (W' Kf z))))
/-- rows i and below -/
theorem k_fillRows (hr : (r2 = 7 ∧ t2 = 1) ∨ (r2 = 96 ∧ t2 = 5)) (hq : q_isLines r2 t2 (r2 + 1) (r2 + 3)) (A0 : zLm a0 b0 91 3 0 M0 n) (B0 : zLm a0 b0 r2 t2 w M1 m) : ∀ (c : Nat) (i : Int) (a b : qM), i + 1 = c → i < n → zPf a0 b0 a b (fun i j => zEq a0 91 3 i r2 t2 j) n m i m →
    (∀ a' b', zPf a0 b0 a' b' (fun i j => zEq a0 91 3 i r2 t2 j) n m (-1) m → (∀ Kf : qM → Prop, L_m_takesTogether_17 X w n m (-1) b' Kf → L_m_takesTogether_17 X w n m i b Kf) → K a') → L_Pairing_fillLeavings_35 X 91 r2 i a K := by
  have nb := A0.bd
  have mb := B0.bd
  have sB := B0.s
  intro c
  induction c with
  | zero =>
    intro i a b hi iN P h
    rw [show i = -1 by omega] at P h ⊢
    exact sg_Pairing_fillLeavings_35 q_lines_91 hq (z_t (by decide) (h a b P (fun _ z => z)))
  | succ c ih =>
    intro i a b hi iN P h
    have fa := P.fa
    have e2 : a (r2 + 1) 1 = m := by rw [fa (r2 + 1) (by omega)]; exact sB.1
    have e3 : a (r2 + 3) 1 = m := by rw [fa (r2 + 3) (by omega)]; exact sB.2.1
    -- the model: column m
    generalize eb : q_up b 159 (242 * i + m) 0 = b1
    have o1 : ∀ x, x ≠ 242 * i + m → b1 159 x = b 159 x := fun x hx => by rw [← eb, q_up_nj hx]
    have om : b1 159 (242 * i + m) = 0 := by rw [← eb, q_up_at]
    have st : ∀ Kf : qM → Prop, L_m_takesTogether_25 X w n m i (m - 1) b1 Kf → L_m_takesTogether_17 X w n m i b Kf := by
      intro Kf hk
      refine sg_m_takesTogether_17 (z_f (by omega) (sg_m_takesTogether_25 (z_f (by omega) ⟨by omega, by omega, z_f (by omega) (z_f (fun z => z rfl) ⟨by omega, by omega, fun s7 e7 => ⟨by omega, ?_⟩⟩)⟩)))
      rw [e7, eb]; exact hk
    have P1 : zPf a0 b0 a b1 (fun i j => zEq a0 91 3 i r2 t2 j) n m i (m - 1) := by
      refine zPf.mk fa (fun r hr => by rw [← eb, q_up_ne hr]; exact P.fb r hr) P.sz P.z (fun q q0 qm => ?_) (fun q q0 qm => ?_) (fun i' j' h => ?_)
      · rw [o1 _ (by omega)]; exact P.up q q0 qm
      · rw [show q = m by omega, om]; exact ⟨P.z, by omega, by omega⟩
      · have hj : i < i' ∧ i' < n ∧ 0 ≤ j' ∧ j' < m := by
          rcases h with h | h
          · exact h
          · omega
        rw [o1 _ (by omega), o1 _ (by omega), o1 _ (by omega)]
        exact P.tb i' j' (Or.inl hj)
    refine sg_Pairing_fillLeavings_35 q_lines_91 hq (z_f (by omega) (sg_Lines_many hq (k_Row_size hq.ends ?_)))
    rw [e3]
    refine ⟨by omega, k_fillRow hr hq A0 B0 (by omega) iN (m - 1 + 1).toNat (m - 1) a b1 (by omega) (by omega) P1 (fun a2 b2 P2 W2 => ?_)⟩
    obtain ⟨z1, z2⟩ := P2.sz
    refine sg_Pairing_fillLeavings_47 q_lines_91 hq (z_t (by decide) (k_Row_become q_row_105 q_row_103 (by omega) (by omega) (by omega) (by decide) (by decide) (by decide) (fun a3 f3 g3 w3 => ⟨by omega, ?_⟩)))
    rw [show i + (-1) = i - 1 by omega]
    have P3 : zPf a0 b0 a3 b2 (fun i j => zEq a0 91 3 i r2 t2 j) n m (i - 1) m := by
      refine zPf.mk (fun r hr => by rw [f3 r (by omega) (by omega)]; exact P2.fa r hr) P2.fb ⟨by rw [f3 103 (by decide) (by decide)]; exact z1, by rw [g3]; exact z1⟩ (by rw [f3 104 (by decide) (by decide)]; exact P2.z) (fun q q0 qm => ?_) (fun q q0 qm => by omega) (fun i' j' h => ?_)
      · have l := P2.lo q (by omega) qm
        have w3' := w3 q q0 (by omega)
        rw [show i - 1 + 1 = i by omega]
        exact ⟨by rw [show a3 106 q = a3 (105 + 1) q from rfl, w3']; exact l.1, l.2.1, l.2.2⟩
      · have hj : (i < i' ∧ i' < n ∧ 0 ≤ j' ∧ j' < m) ∨ (i' = i ∧ -1 < j' ∧ j' < m) := by
          rcases h with h | h
          · by_cases y : i' = i
            · exact Or.inr ⟨y, by omega, h.2.2.2⟩
            · exact Or.inl ⟨by omega, h.2.1, h.2.2⟩
          · omega
        have t := P2.tb i' j' hj
        have e : zLv a3 i' j' ↔ zLv a2 i' j' := by unfold zLv; rw [f3 102 (by decide) (by decide)]
        rw [e]; exact t
    exact ih (i - 1) a3 b2 (by omega) (by omega) P3 (fun a' b' P' W' => h a' b' P' (fun Kf z => st Kf (W2 Kf (sg_m_takesTogether_25 (z_t (by decide) ⟨by omega, by rw [show i + (-1) = i - 1 by omega]; exact W' Kf z⟩)))))
end Table
