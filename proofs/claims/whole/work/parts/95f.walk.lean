/-! Merges: which lines are taken together. -/
/-- the lines of slot 0 up to i and of the other text up to j are walked -/
def zMw (a b : qM) (x3 : Nat) (w n i j : Int) : Prop := (a x3 1 = n) ∧ (∀ k, 0 ≤ k → k < n → a (x3 + 1) k = b 160 (241 * (w - 1) + k)) ∧ (∀ k, 0 ≤ k → k < i → a (x3 + 1) k = -1 ∨ (0 ≤ a (x3 + 1) k ∧ a (x3 + 1) k < j)) ∧ (∀ k, i ≤ k → k < n → a (x3 + 1) k = -1) ∧ (∀ k k', 0 ≤ k → k < k' → k' < i → a (x3 + 1) k ≠ -1 → a (x3 + 1) k' ≠ -1 → a (x3 + 1) k < a (x3 + 1) k')
theorem zMw.mk {a b : qM} {x3 : Nat} {w n i j : Int} (sz : a x3 1 = n) (eq : ∀ k, 0 ≤ k → k < n → a (x3 + 1) k = b 160 (241 * (w - 1) + k)) (lo : ∀ k, 0 ≤ k → k < i → a (x3 + 1) k = -1 ∨ (0 ≤ a (x3 + 1) k ∧ a (x3 + 1) k < j)) (hi : ∀ k, i ≤ k → k < n → a (x3 + 1) k = -1) (mo : ∀ k k', 0 ≤ k → k < k' → k' < i → a (x3 + 1) k ≠ -1 → a (x3 + 1) k' ≠ -1 → a (x3 + 1) k < a (x3 + 1) k') : zMw a b x3 w n i j := ⟨sz, eq, lo, hi, mo⟩
theorem zMw.sz {a b : qM} {x3 : Nat} {w n i j : Int} (h : zMw a b x3 w n i j) : a x3 1 = n := h.1
theorem zMw.eq {a b : qM} {x3 : Nat} {w n i j : Int} (h : zMw a b x3 w n i j) : ∀ k, 0 ≤ k → k < n → a (x3 + 1) k = b 160 (241 * (w - 1) + k) := h.2.1
theorem zMw.lo {a b : qM} {x3 : Nat} {w n i j : Int} (h : zMw a b x3 w n i j) : ∀ k, 0 ≤ k → k < i → a (x3 + 1) k = -1 ∨ (0 ≤ a (x3 + 1) k ∧ a (x3 + 1) k < j) := h.2.2.1
theorem zMw.hi {a b : qM} {x3 : Nat} {w n i j : Int} (h : zMw a b x3 w n i j) : ∀ k, i ≤ k → k < n → a (x3 + 1) k = -1 := h.2.2.2.1
theorem zMw.mo {a b : qM} {x3 : Nat} {w n i j : Int} (h : zMw a b x3 w n i j) : ∀ k k', 0 ≤ k → k < k' → k' < i → a (x3 + 1) k ≠ -1 → a (x3 + 1) k' ≠ -1 → a (x3 + 1) k < a (x3 + 1) k' := h.2.2.2.2
/-- what a pairing changes -/
def zMu (a a' b b' : qM) (x3 : Nat) (w : Int) : Prop := (∀ r, r < 102 ∨ 106 < r → r ≠ x3 → r ≠ x3 + 1 → a' r = a r) ∧ (∀ r, r ≠ 159 → r ≠ 160 → b' r = b r) ∧ (∀ k, k < 241 * (w - 1) ∨ 241 * (w - 1) + 241 ≤ k → b' 160 k = b 160 k)
theorem zMu.mk {a a' b b' : qM} {x3 : Nat} {w : Int} (fa : ∀ r, r < 102 ∨ 106 < r → r ≠ x3 → r ≠ x3 + 1 → a' r = a r) (fb : ∀ r, r ≠ 159 → r ≠ 160 → b' r = b r) (o : ∀ k, k < 241 * (w - 1) ∨ 241 * (w - 1) + 241 ≤ k → b' 160 k = b 160 k) : zMu a a' b b' x3 w := ⟨fa, fb, o⟩
theorem zMu.fa {a a' b b' : qM} {x3 : Nat} {w : Int} (h : zMu a a' b b' x3 w) : ∀ r, r < 102 ∨ 106 < r → r ≠ x3 → r ≠ x3 + 1 → a' r = a r := h.1
theorem zMu.fb {a a' b b' : qM} {x3 : Nat} {w : Int} (h : zMu a a' b b' x3 w) : ∀ r, r ≠ 159 → r ≠ 160 → b' r = b r := h.2.1
theorem zMu.o {a a' b b' : qM} {x3 : Nat} {w : Int} (h : zMu a a' b b' x3 w) : ∀ k, k < 241 * (w - 1) ∨ 241 * (w - 1) + 241 ≤ k → b' 160 k = b 160 k := h.2.2
section Walk3
variable {X : Nat × (Nat → Int32)} {a b a0 b0 a1 b1 a' b' s : qM} {K : qM → Prop} {KI : Int → qM → Prop} {i j n m M0 M1 w v : Int} {r2 t2 x3 N3 : Nat}
theorem k_zeroRow (n0 : 1 ≤ n) (n2 : n ≤ 241) (m0 : 1 ≤ m) (m2 : m ≤ 241) : ∀ (c : Nat) (j : Int) (b : qM), j + 1 = c → j ≤ m → (∀ q, j < q → q ≤ m → b 159 (242 * n + q) = 0) → ∃ b', (∀ r, r ≠ 159 → b' r = b r) ∧ (∀ q, 0 ≤ q → q ≤ m → b' 159 (242 * n + q) = 0) ∧ ∀ Kf : qM → Prop, L_m_takesTogether_17 X w n m (n - 1) b' Kf → L_m_takesTogether_25 X w n m n j b Kf := by
  intro c
  induction c with
  | zero =>
    intro j b hj jm hz
    refine ⟨b, fun _ _ => rfl, fun q u x => hz q (by omega) x, fun Kf hk => sg_m_takesTogether_25 (z_t (by omega) ⟨by omega, by rw [show n + (-1) = n - 1 by omega]; exact hk⟩)⟩
  | succ c ih =>
    intro j b hj jm hz
    obtain ⟨b', f, z, W⟩ := ih (j - 1) (q_up b 159 (242 * n + j) 0) (by omega) (by omega) (fun q u x => by
      by_cases e : q = j
      · rw [e, q_up_at]
      · rw [q_up_nj (by omega)]; exact hz q (by omega) x)
    refine ⟨b', fun r hr => by rw [f r hr, q_up_ne hr], z, fun Kf hk => sg_m_takesTogether_25 (z_f (by omega) ⟨by omega, by omega, z_t rfl ⟨by omega, by omega, fun s1 e1 => ⟨by omega, ?_⟩⟩⟩)⟩
    rw [e1, show j + (-1) = j - 1 by omega]; exact W Kf hk
theorem k_fill (hr : (r2 = 7 ∧ t2 = 1) ∨ (r2 = 96 ∧ t2 = 5)) (hq : q_isLines r2 t2 (r2 + 1) (r2 + 3)) (A0 : zLm a0 b0 91 3 0 M0 n) (B0 : zLm a0 b0 r2 t2 w M1 m)
    (h : ∀ a' b', zPf a0 b0 a' b' (fun i j => zEq a0 91 3 i r2 t2 j) n m (-1) m → (∀ Kf : qM → Prop, L_m_takesTogether_178 X w n m 0 0 0 b' Kf → c_m_takesTogether X w b0 Kf) → K a') : c_Pairing_fillLeavings X 91 r2 a0 K := by
  have nb := A0.bd
  have mb := B0.bd
  have sA := A0.s
  have sB := B0.s
  have w0 := B0.w0
  refine sg_Pairing_fillLeavings q_lines_91 hq (sg_Lines_many hq (k_Row_size hq.ends ?_))
  rw [sB.2.1]
  refine ⟨by omega, k_Row_fill q_row_105 (by omega) (by omega) (fun a1 f1 g1 w1 => sg_Lines_many hq (k_Row_size hq.ends ?_))⟩
  rw [f1 (r2 + 3) (by omega) (by omega), sB.2.1]
  refine ⟨by omega, k_Row_fill q_row_103 (by omega) (by omega) (fun a2 f2 g2 w2 => sg_Lines_many q_lines_91 (k_Row_size q_lines_91.ends ?_))⟩
  rw [f2 94 (by decide) (by decide), f1 94 (by decide) (by decide), show a0 94 1 = n from sA.2.1]
  obtain ⟨b1, fb, zb, Wb⟩ := k_zeroRow (X := X) (w := w) nb.1 nb.2 mb.1 mb.2 (m + 1).toNat m b0 (by omega) (Int.le_refl m) (fun q u x => by omega)
  have P : zPf a0 b0 a2 b1 (fun i j => zEq a0 91 3 i r2 t2 j) n m (n - 1) m := by
    refine zPf.mk (fun r hr => by rw [f2 r (by omega) (by omega), f1 r (by omega) (by omega)]) fb ⟨g2, by rw [f2 105 (by decide) (by decide)]; exact g1⟩ (w2 m (by omega) (by omega)) (fun q q0 qm => ?_) (fun q q0 qm => by omega) (fun i' j' h => by omega)
    rw [show n - 1 + 1 = n by omega, zb q q0 qm, f2 106 (by decide) (by decide)]
    exact ⟨w1 q q0 (by omega), by omega, by omega⟩
  refine ⟨by omega, k_fillRows hr hq A0 B0 (n - 1 + 1).toNat (n - 1) a2 b1 (by omega) (by omega) P (fun a' b' P' W' => h a' b' P' (fun Kf hk => ?_))⟩
  refine sg_m_takesTogether ⟨by omega, by omega, ?_⟩
  rw [show b0 156 0 = n from sA.2.2, sB.2.2]
  refine sg_m_takesTogether_17 (z_f (by omega) (Wb Kf (W' Kf (sg_m_takesTogether_17 (z_t (by decide) hk)))))
theorem k_mates (w0 : 1 ≤ w ∧ w ≤ 2) (n2 : n ≤ 241) : ∀ (c : Nat) (k : Int) (b : qM), k + c = n → 0 ≤ k → (∀ q, 0 ≤ q → q < k → b 160 (241 * (w - 1) + q) = -1) → ∃ b', (∀ r, r ≠ 160 → b' r = b r) ∧ (∀ q, q < 241 * (w - 1) ∨ 241 * (w - 1) + 241 ≤ q → b' 160 q = b 160 q) ∧ (∀ q, 0 ≤ q → q < n → b' 160 (241 * (w - 1) + q) = -1) ∧ ∀ Kf : qM → Prop, L_m_takesTogether_206 X w n m 0 0 b' Kf → L_m_takesTogether_178 X w n m 0 0 k b Kf := by
  intro c
  induction c with
  | zero =>
    intro k b hk k0 hz
    exact ⟨b, fun _ _ => rfl, fun _ _ => rfl, fun q u x => hz q u (by omega), fun Kf h => sg_m_takesTogether_178 (z_t (by omega) h)⟩
  | succ c ih =>
    intro k b hk k0 hz
    obtain ⟨b', f, o, z, W⟩ := ih (k + 1) (q_up b 160 (241 * (w - 1) + k) (-1)) (by omega) (by omega) (fun q u x => by
      by_cases e : q = k
      · rw [e, q_up_at]
      · rw [q_up_nj (by omega)]; exact hz q u (by omega))
    refine ⟨b', fun r hr => by rw [f r hr, q_up_ne hr], fun q hq => by rw [o q hq, q_up_nj (by omega)], z, fun Kf h => sg_m_takesTogether_178 (z_f (by omega) ⟨by omega, by omega, by omega, by omega, by omega, fun s1 e1 => ⟨by omega, ?_⟩⟩)⟩
    rw [e1]; exact W Kf h
theorem k_walk (hr : (r2 = 7 ∧ t2 = 1) ∨ (r2 = 96 ∧ t2 = 5)) (hq : q_isLines r2 t2 (r2 + 1) (r2 + 3)) (hx : (x3 = 107 ∨ x3 = 109)) (qx : q_isRow x3 241) (w1 : 1 ≤ w) (A0 : zLm a0 b0 91 3 0 M0 n) (B0 : zLm a0 b0 r2 t2 w M1 m) (P : zPf a0 b0 a1 b1 (fun i j => zEq a0 91 3 i r2 t2 j) n m (-1) m) :
    ∀ (c : Nat) (i j v6 : Int) (a b : qM), (n - i) + (m - j) ≤ c → 0 ≤ v6 → v6 ≤ i + j → 0 ≤ i → 0 ≤ j → i ≤ n → j ≤ m → (∀ r, r ≠ x3 → r ≠ x3 + 1 → a r = a1 r) → (∀ r, r ≠ 160 → b r = b1 r) → zMw a b x3 w n i j →
    (∀ a' b' j', zMw a' b' x3 w n n j' → j' ≤ m → (∀ r, r ≠ x3 → r ≠ x3 + 1 → a' r = a1 r) → (∀ r, r ≠ 160 → b' r = b1 r) → (∀ q, q < 241 * (w - 1) ∨ 241 * (w - 1) + 241 ≤ q → b' 160 q = b 160 q) → (∀ Kf : qM → Prop, Kf b' → L_m_takesTogether_206 X w n m i j b Kf) → K a') → L_Pairing_pair_24 X 91 r2 x3 i j v6 a K := by
  have nb := A0.bd
  have mb := B0.bd
  have sA := A0.s
  have sB := B0.s
  have w0 := B0.w0
  intro c
  induction c with
  | zero =>
    intro i j v6 a b hc g0 g1 i0 j0 iN jm fa fb Q h
    have e : i = n := by omega
    have r := fun (z : zMw a b x3 w n n j) => h a b j z jm fa fb (fun _ _ => rfl) (fun Kf hk => sg_m_takesTogether_206 (z_t (by omega) hk))
    have e94 : a 94 1 = n := by rw [fa 94 (by omega) (by omega), P.fa 94 (by omega)]; exact sA.2.1
    rw [e] at Q
    refine sg_Pairing_pair_24 q_lines_91 hq qx (z_c (fun _ => r Q) (fun _ => sg_Lines_many q_lines_91 (k_Row_size q_lines_91.ends (z_t (by show a 94 1 ≤ i; omega) (r Q)))))
  | succ c ih =>
    intro i j v6 a b hc g0 g1 i0 j0 iN jm fa fb Q h
    have e94 : a 94 1 = n := by rw [fa 94 (by omega) (by omega), P.fa 94 (by omega)]; exact sA.2.1
    have e3 : a (r2 + 3) 1 = m := by rw [fa (r2 + 3) (by omega) (by omega), P.fa (r2 + 3) (by omega)]; exact sB.2.1
    -- the walk is over
    have over : i = n ∨ j = m → K a := by
      intro z
      refine h a b j (zMw.mk Q.sz Q.eq (fun k k0 kn => ?_) (fun k k0 kn => by omega) (fun k k' u x y n1 n2 => ?_)) jm fa fb (fun _ _ => rfl) (fun Kf hk => ?_)
      · by_cases y : k < i
        · exact Q.lo k k0 y
        · exact Or.inl (Q.hi k (by omega) kn)
      · by_cases z2 : k' < i
        · exact Q.mo k k' u x z2 n1 n2
        · exact absurd (Q.hi k' (by omega) y) n2
      · refine sg_m_takesTogether_206 (z_c (fun _ => hk) (fun n1 => z_t (by omega) hk))
    by_cases iN' : i < n
    · by_cases jm' : j < m
      · -- both have a line
        have fa0 : ∀ r, r < 102 → a r = a0 r := fun r hr => by rw [fa r (by omega) (by omega), P.fa r (by omega)]
        have A : zLm a b 91 3 0 M0 n := A0.fr ⟨fa0 3 (by decide), fa0 4 (by decide)⟩ ⟨fa0 92 (by decide), fa0 93 (by decide), fa0 94 (by decide), fa0 95 (by decide)⟩ ⟨by rw [fb 155 (by decide), P.fb 155 (by decide)], by rw [fb 156 (by decide), P.fb 156 (by decide)], by rw [fb 157 (by decide), P.fb 157 (by decide)], by rw [fb 158 (by decide), P.fb 158 (by decide)]⟩
        have B : zLm a b r2 t2 w M1 m := B0.fr ⟨fa0 t2 (by omega), fa0 (t2 + 1) (by omega)⟩ ⟨fa0 (r2 + 1) (by omega), fa0 (r2 + 2) (by omega), fa0 (r2 + 3) (by omega), fa0 (r2 + 4) (by omega)⟩ ⟨by rw [fb 155 (by decide), P.fb 155 (by decide)], by rw [fb 156 (by decide), P.fb 156 (by decide)], by rw [fb 157 (by decide), P.fb 157 (by decide)], by rw [fb 158 (by decide), P.fb 158 (by decide)]⟩
        have eqS : zEq a 91 3 i r2 t2 j ↔ zEq a0 91 3 i r2 t2 j := by
          unfold zEq
          rw [fa0 (91 + 4) (by omega), fa0 (91 + 2) (by omega), fa0 (r2 + 4) (by omega), fa0 (r2 + 2) (by omega), fa0 (3 + 1) (by omega), fa0 (t2 + 1) (by omega)]
        have tb := P.tb i j (Or.inl ⟨by omega, iN', j0, jm'⟩)
        have b159 : b 159 = b1 159 := fb 159 (by decide)
        have lv : zLv a i j ↔ zLv a1 i j := by unfold zLv; rw [fa 102 (by omega) (by omega)]
        -- the next line of slot 0
        have nx1 : (¬ zEq a0 91 3 i r2 t2 j → b1 159 (242 * i + (j + 1)) ≤ b1 159 (242 * (i + 1) + j) → zMw a b x3 w n (i + 1) j) := fun _ _ => by
          refine zMw.mk Q.sz Q.eq (fun k k0 kn => ?_) (fun k k0 kn => Q.hi k (by omega) kn) (fun k k' u x y n1 n2 => ?_)
          · by_cases y : k < i
            · exact Q.lo k k0 y
            · exact Or.inl (Q.hi k (by omega) (by omega))
          · by_cases z2 : k' < i
            · exact Q.mo k k' u x z2 n1 n2
            · exact absurd (Q.hi k' (by omega) (by omega)) n2
        have nx2 : zMw a b x3 w n i (j + 1) := by
          refine zMw.mk Q.sz Q.eq (fun k k0 kn => ?_) Q.hi Q.mo
          rcases Q.lo k k0 kn with z | z
          · exact Or.inl z
          · exact Or.inr ⟨z.1, by omega⟩
        -- the model, lines that differ
        have mod : ¬ zEq a0 91 3 i r2 t2 j → ∀ Kf : qM → Prop, (b1 159 (242 * i + (j + 1)) ≤ b1 159 (242 * (i + 1) + j) → L_m_takesTogether_206 X w n m (i + 1) j b Kf) → (¬ b1 159 (242 * i + (j + 1)) ≤ b1 159 (242 * (i + 1) + j) → L_m_takesTogether_206 X w n m i (j + 1) b Kf) → L_m_takesTogether_206 X w n m i j b Kf := by
          intro ne Kf k1 k2
          have hv := tb.2 ne
          refine sg_m_takesTogether_206 (z_f (by omega) (z_f (by omega) ⟨by omega, by omega, k_m_isSame A B i0 iN' j0 jm' (fun y => absurd (eqS.mp y) ne) (fun _ => z_t rfl ?_) (by omega) rfl⟩))
          rw [b159]
          refine ⟨by omega, by omega, by omega, by omega, by omega, by omega, by omega, by omega, by omega, z_c (fun d => ⟨by omega, ?_⟩) (fun d => ⟨by omega, ?_⟩)⟩
          · refine k2 (fun le => d ?_)
            rw [hv]
            by_cases y : b1 159 (242 * (i + 1) + j) ≤ b1 159 (242 * i + (j + 1))
            · rw [if_pos y]; omega
            · rw [if_neg y]
          · refine k1 ?_
            have d := Decidable.not_not.mp d
            rw [hv] at d
            by_cases y : b1 159 (242 * (i + 1) + j) ≤ b1 159 (242 * i + (j + 1))
            · rw [if_pos y] at d; omega
            · omega
        refine sg_Pairing_pair_24 q_lines_91 hq qx (z_f (by omega) (sg_Lines_many q_lines_91 (k_Row_size q_lines_91.ends (z_f (by show ¬ a 94 1 ≤ i; omega) (sg_Lines_many hq (k_Row_size hq.ends (z_f (by omega) (k_isSame q_lines_91 hq A B i0 iN' j0 jm' (fun y => z_f (by decide) ?_) (fun y => z_t rfl ?_)))))))))
        · -- the same
          have sz := Q.sz
          refine k_Row_set qx (by omega) (fun _ _ => ⟨by omega, by omega, by omega, ?_⟩) (fun z => absurd ⟨i0, by omega⟩ z)
          generalize ea : q_up a (x3 + 1) i j = a2
          generalize eb : q_up b 160 (241 * (w - 1) + i) j = b2
          have ga : ∀ r, r ≠ x3 + 1 → a2 r = a r := fun r hr => by rw [← ea, q_up_ne hr]
          have gi : a2 (x3 + 1) i = j := by rw [← ea, q_up_at]
          have gk : ∀ k, k ≠ i → a2 (x3 + 1) k = a (x3 + 1) k := fun k hk => by rw [← ea, q_up_nj hk]
          have Q2 : zMw a2 b2 x3 w n (i + 1) (j + 1) := by
            refine zMw.mk (by rw [ga x3 (by omega)]; exact sz) (fun k k0 kn => ?_) (fun k k0 kn => ?_) (fun k k0 kn => ?_) (fun k k' u x y n1 n2 => ?_)
            · by_cases z : k = i
              · rw [z, gi, ← eb, q_up_at]
              · rw [gk k z, ← eb, q_up_nj (by omega)]; exact Q.eq k k0 kn
            · by_cases z : k = i
              · rw [z, gi]; exact Or.inr ⟨j0, by omega⟩
              · rw [gk k z]
                rcases Q.lo k k0 (by omega) with y | y
                · exact Or.inl y
                · exact Or.inr ⟨y.1, by omega⟩
            · rw [gk k (by omega)]; exact Q.hi k (by omega) kn
            · rw [gk k (by omega)] at n1 ⊢
              by_cases z : k' = i
              · rw [z, gi]
                rcases Q.lo k u (by omega) with q | q
                · exact absurd q n1
                · exact q.2
              · rw [gk k' z] at n2 ⊢
                exact Q.mo k k' u x (by omega) n1 n2
          refine ih (i + 1) (j + 1) (v6 + 1) a2 b2 (by omega) (by omega) (by omega) (by omega) (by omega) (by omega) (by omega) (fun r u z => by rw [ga r z]; exact fa r u z) (fun r hr => by rw [← eb, q_up_ne hr]; exact fb r hr) Q2 (fun a' b' j' Q' l' f1 f2 f3 W => h a' b' j' Q' l' f1 f2 (fun q hq => by rw [f3 q hq, ← eb, q_up_nj (by omega)]) (fun Kf hk => ?_))
          refine sg_m_takesTogether_206 (z_f (by omega) (z_f (by omega) ⟨by omega, by omega, k_m_isSame A B i0 iN' j0 jm' (fun _ => z_f (by decide) ⟨by omega, by omega, by omega, by omega, by omega, fun s3 e3 => ⟨by omega, by omega, ?_⟩⟩) (fun z => absurd y z) (by omega) rfl⟩))
          rw [e3, eb]; exact W Kf hk
        · -- they differ
          refine k_isLeftOut i0 (by omega) j0 (by omega) (fun l => z_f (by decide) ⟨by omega, by omega, ?_⟩) (fun l => z_t rfl ⟨by omega, by omega, ?_⟩)
          · have le := tb.1.mp (lv.mp l)
            exact ih (i + 1) j (v6 + 1) a b (by omega) (by omega) (by omega) (by omega) j0 (by omega) jm fa fb (nx1 (fun z => y (eqS.mpr z)) le) (fun a' b' j' Q' l' f1 f2 f3 W => h a' b' j' Q' l' f1 f2 f3 (fun Kf hk => mod (fun z => y (eqS.mpr z)) Kf (fun _ => W Kf hk) (fun z => absurd le z)))
          · have nle : ¬ b1 159 (242 * i + (j + 1)) ≤ b1 159 (242 * (i + 1) + j) := fun z => l (lv.mpr (tb.1.mpr z))
            exact ih i (j + 1) (v6 + 1) a b (by omega) (by omega) (by omega) i0 (by omega) iN (by omega) fa fb nx2 (fun a' b' j' Q' l' f1 f2 f3 W => h a' b' j' Q' l' f1 f2 f3 (fun Kf hk => mod (fun z => y (eqS.mpr z)) Kf (fun z => absurd z nle) (fun _ => W Kf hk)))
      · refine sg_Pairing_pair_24 q_lines_91 hq qx (z_c (fun _ => over (Or.inr (by omega))) (fun _ => sg_Lines_many q_lines_91 (k_Row_size q_lines_91.ends (z_f (by show ¬ a 94 1 ≤ i; omega) (sg_Lines_many hq (k_Row_size hq.ends (z_t (by omega) (over (Or.inr (by omega))))))))))
    · refine sg_Pairing_pair_24 q_lines_91 hq qx (z_c (fun _ => over (Or.inl (by omega))) (fun _ => sg_Lines_many q_lines_91 (k_Row_size q_lines_91.ends (z_t (by show a 94 1 ≤ i; omega) (over (Or.inl (by omega)))))))
end Walk3
