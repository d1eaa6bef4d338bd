/-! The model's printing: what it gives. -/
/-- g' is g with m numbers given, f 0 .. -/
def zGv (g g' : qM) (m : Int) (f : Int → Int) : Prop := (0 ≤ m) ∧ (∀ r, r ≠ 113 → r ≠ 151 → g' r = g r) ∧ (∀ j, j ≠ 45 → g' 113 j = g 113 j) ∧ (g' 113 45 = g 113 45 + m) ∧ (∀ j, 0 ≤ j → j < m → g' 151 (g 113 45 + j) = f j) ∧ (∀ i, i < g 113 45 → g' 151 i = g 151 i)
theorem zGv.mk {g g' : qM} {m : Int} {f : Int → Int} (m0 : 0 ≤ m) (fr : ∀ r, r ≠ 113 → r ≠ 151 → g' r = g r) (fj : ∀ j, j ≠ 45 → g' 113 j = g 113 j) (n : g' 113 45 = g 113 45 + m) (w : ∀ j, 0 ≤ j → j < m → g' 151 (g 113 45 + j) = f j) (o : ∀ i, i < g 113 45 → g' 151 i = g 151 i) : zGv g g' m f := ⟨m0, fr, fj, n, w, o⟩
theorem zGv.m0 {g g' : qM} {m : Int} {f : Int → Int} (h : zGv g g' m f) : 0 ≤ m := h.1
theorem zGv.fr {g g' : qM} {m : Int} {f : Int → Int} (h : zGv g g' m f) : ∀ r, r ≠ 113 → r ≠ 151 → g' r = g r := h.2.1
theorem zGv.fj {g g' : qM} {m : Int} {f : Int → Int} (h : zGv g g' m f) : ∀ j, j ≠ 45 → g' 113 j = g 113 j := h.2.2.1
theorem zGv.n {g g' : qM} {m : Int} {f : Int → Int} (h : zGv g g' m f) : g' 113 45 = g 113 45 + m := h.2.2.2.1
theorem zGv.w {g g' : qM} {m : Int} {f : Int → Int} (h : zGv g g' m f) : ∀ j, 0 ≤ j → j < m → g' 151 (g 113 45 + j) = f j := h.2.2.2.2.1
theorem zGv.o {g g' : qM} {m : Int} {f : Int → Int} (h : zGv g g' m f) : ∀ i, i < g 113 45 → g' 151 i = g 151 i := h.2.2.2.2.2
section Gives
variable {X : Nat × (Nat → Int32)} {a b g g' : qM} {K : qM → Prop} {KI : Int → qM → Prop} {v C D N LL n k e x m : Int} {f t : Int → Int}
theorem zGv.zero : zGv g g 0 f := zGv.mk (Int.le_refl 0) (fun _ _ _ => rfl) (fun _ _ => rfl) (Int.add_zero _).symm (fun j u w => by omega) (fun _ _ => rfl)
theorem k_m_give (h0 : 0 ≤ g 113 45) (h2 : g 113 45 < 3000) (h : ∀ g', zGv g g' 1 (fun _ => x) → K g') : c_m_gives X x g K := by
  refine sg_m_gives ⟨h0, h2, fun s1 e1 => ?_⟩
  have q45 : s1 113 45 = g 113 45 := by rw [e1, q_up_ne (by decide)]
  rw [q45]
  refine ⟨by omega, fun s2 e2 => h s2 (zGv.mk (show (0 : Int) ≤ 1 by decide) (fun r u w => ?_) (fun j u => ?_) ?_ (fun j u w => ?_) (fun i u => ?_))⟩
  · rw [e2, q_up_ne u, e1, q_up_ne w]
  · rw [e2, q_up_nj u, e1, q_up_ne (by decide)]
  · rw [e2, q_up_at]
  · rw [show j = 0 by omega, Int.add_zero, e2, q_up_ne (by decide), e1, q_up_at]
  · rw [e2, q_up_ne (by decide), e1, q_up_nj (by omega)]
theorem zGv.step {g1 : qM} (A : zGv g g1 m f) (B : zGv g1 g' 1 (fun _ => x)) (hx : x = f m) : zGv g g' (m + 1) f := by
  have m0 := A.m0
  have n := A.n
  refine zGv.mk (by omega) (fun r u w => (B.fr r u w).trans (A.fr r u w)) (fun j u => (B.fj j u).trans (A.fj j u)) (by rw [B.n, n]; omega) (fun j u w => ?_) (fun i u => by rw [B.o i (by omega), A.o i u])
  by_cases e : j = m
  · have z := B.w 0 (by decide) (by decide)
    rw [e, ← hx, ← z, n]
    congr 1; omega
  · rw [B.o _ (by omega)]; exact A.w j u (by omega)
/-- the characters of a TEXT or CODE -/
theorem k_m_pool (h0 : 0 ≤ g 113 45) (hm : 0 ≤ b 134 k) (hc : g 113 45 + b 134 k ≤ 3000) (k0 : 0 ≤ k) (k9 : k < 900) (fr : ∀ r, r ≠ 113 → r ≠ 151 → g r = b r) (p0 : 0 ≤ b 153 k) (p3 : b 153 k + b 134 k ≤ 300) (hf : ∀ j, 0 ≤ j → j < b 134 k → b 152 (b 153 k + j) = f j)
    (h : ∀ g', zGv g g' (b 134 k) f → K g') : L_m_givesBeginning_132 X k 0 g K := by
  have Lp : ∀ (c : Nat) (j : Int) (g1 : qM), j + c = b 134 k → 0 ≤ j → zGv g g1 j f → L_m_givesBeginning_132 X k j g1 K := by
    intro c
    induction c with
    | zero =>
      intro j g1 hj j0 A
      have ej : j = b 134 k := by omega
      have e134 : g1 134 = b 134 := by rw [A.fr 134 (by decide) (by decide), fr 134 (by decide) (by decide)]
      refine sg_m_givesBeginning_132 ⟨k0, k9, z_t (by rw [e134]; omega) (h g1 (by rw [← ej]; exact A))⟩
    | succ c ih =>
      intro j g1 hj j0 A
      have e134 : g1 134 = b 134 := by rw [A.fr 134 (by decide) (by decide), fr 134 (by decide) (by decide)]
      have e153 : g1 153 = b 153 := by rw [A.fr 153 (by decide) (by decide), fr 153 (by decide) (by decide)]
      have e152 : g1 152 = b 152 := by rw [A.fr 152 (by decide) (by decide), fr 152 (by decide) (by decide)]
      have n := A.n
      refine sg_m_givesBeginning_132 ⟨k0, k9, z_f (by rw [e134]; omega) ⟨k0, k9, by rw [e153]; omega, by rw [e153]; omega, by rw [e153]; omega, ?_⟩⟩
      rw [e152, e153]
      exact k_m_give (by omega) (by omega) (fun g2 B => ⟨by omega, ih (j + 1) g2 (by omega) (by omega) (A.step B (hf j j0 (by omega)))⟩)
  exact Lp (b 134 k).toNat 0 g (by omega) (Int.le_refl 0) zGv.zero
/-- the lines of a FENCE -/
theorem k_m_lines (Z : zBk a b t N LL n) (k0 : 0 ≤ k) (kn : k < n) (hk : b 117 k = 5) (h0 : 0 ≤ g 113 45) (hc : g 113 45 + zU1 a b k ≤ 3000) (fr : ∀ r, r ≠ 113 → r ≠ 151 → g r = b r) (fj : ∀ j, j ≠ 45 → g 113 j = b 113 j)
    (hf : ∀ e : Nat, (e : Int) < a 28 k → (∀ x, 0 ≤ x → x < a 11 (zF a b k + e) - a 30 (zF a b k + e) → f (zW (a 30) (a 11) (zF a b k) e + x) = t (a 30 (zF a b k + e) + x)) ∧ f (zW (a 30) (a 11) (zF a b k) e + (a 11 (zF a b k + e) - a 30 (zF a b k + e))) = 10)
    (h : ∀ g', zGv g g' (zU1 a b k) f → K g') : c_m_givesLines X k g K := by
  obtain ⟨n1, n2, n3⟩ := Z.n1
  obtain ⟨g1, g2, g3, g4, g5, g6⟩ := Z.S.rg k k0 kn (by omega) (by omega)
  have LLr : 1 ≤ LL ∧ LL ≤ N + 1 := ⟨Z.ln.1, Z.ln.2.1⟩
  have ef : zF a b k = a 26 k + 1 := by unfold zF; rw [if_pos hk]
  have eu : zU1 a b k = zW (a 30) (a 11) (zF a b k) (a 28 k).toNat := by unfold zU1; rw [if_pos (by omega)]
  have l17 := Z.l17
  have line : ∀ l, zF a b k ≤ l → l < zF a b k + a 28 k → 0 ≤ l ∧ l < LL ∧ 0 ≤ a 30 l ∧ a 30 l ≤ a 11 l ∧ a 11 l ≤ N ∧ b 124 l = k ∧ b 125 l = a 30 l ∧ b 126 l = a 11 l := by
    intro l u z
    have e := (g4 l (by omega) (by omega)).mpr ⟨u, z⟩
    have hb := Z.S.bl l (by omega) (by omega) (by omega)
    have hl := Z.ln.2.2.2.1 l (by omega) (by omega)
    have he := zEnd_is (t := t) hl.2.1
    rw [← hl.2.2] at he
    exact ⟨by omega, by omega, by omega, hb.2.2.2.2.2.2.2, he.2.1, e, hb.2.2.2.2.1, hb.2.2.2.2.2.1⟩
  have mono : ∀ i : Nat, (i : Int) ≤ a 28 k → zW (a 30) (a 11) (zF a b k) i ≤ zU1 a b k := fun i hi => by
    rw [eu]; exact zW_mono (fun l u z => (line l u (by omega)).2.2.2.1) (by omega)
  have nn : ∀ i : Nat, (i : Int) ≤ a 28 k → 0 ≤ zW (a 30) (a 11) (zF a b k) i := fun i hi => zW_mono (i := 0) (fun l u z => (line l u (by omega)).2.2.2.1) (Nat.zero_le i)
  have st : ∀ {m : Int} {g' : qM}, zGv g g' m f → g' 113 17 = LL ∧ g' 124 = b 124 ∧ g' 125 = b 125 ∧ g' 126 = b 126 ∧ g' 114 = t := fun A =>
    ⟨by rw [A.fj 17 (by decide), fj 17 (by decide)]; exact l17, by rw [A.fr 124 (by decide) (by decide), fr 124 (by decide) (by decide)], by rw [A.fr 125 (by decide) (by decide), fr 125 (by decide) (by decide)], by rw [A.fr 126 (by decide) (by decide), fr 126 (by decide) (by decide)], by rw [A.fr 114 (by decide) (by decide), fr 114 (by decide) (by decide)]; exact Z.bt.2⟩
  -- behind the lines
  have tail : ∀ (c : Nat) (l : Int) (g' : qM), l + c = LL → zF a b k + a 28 k ≤ l → zGv g g' (zU1 a b k) f → L_m_givesLines_2 X k l g' K := by
    intro c
    induction c with
    | zero =>
      intro l g' hl _ A
      have s := st A
      exact sg_m_givesLines_2 (z_t (by omega) (h g' A))
    | succ c ih =>
      intro l g' hl lo A
      have s := st A
      have z0 : 0 ≤ zF a b k := by omega
      have ne : b 124 l ≠ k := fun e => by have := (g4 l (by omega) (by omega)).mp e; omega
      exact sg_m_givesLines_2 (z_f (by omega) ⟨by omega, by omega, z_t (by rw [s.2.1]; exact ne) ⟨by omega, ih (l + 1) g' (by omega) (by omega) A⟩⟩)
  have In : ∀ (c : Nat) (e : Nat) (g' : qM), (e : Int) + c = a 28 k → zGv g g' (zW (a 30) (a 11) (zF a b k) e) f → L_m_givesLines_2 X k (zF a b k + e) g' K := by
    intro c
    induction c with
    | zero =>
      intro e g' he A
      have ee : (a 28 k).toNat = e := by omega
      exact tail (LL - (zF a b k + e)).toNat (zF a b k + e) g' (by omega) (by omega) (by rw [eu, ee]; exact A)
    | succ c ih =>
      intro e g' he A
      have s := st A
      obtain ⟨l0, lL, C0, CF, FN, q4, q5, q6⟩ := line (zF a b k + e) (by omega) (by omega)
      have zi : zW (a 30) (a 11) (zF a b k) (e + 1) = zW (a 30) (a 11) (zF a b k) e + (a 11 (zF a b k + e) - a 30 (zF a b k + e) + 1) := rfl
      have m1 := mono (e + 1) (by omega)
      have m0 := nn e (by omega)
      have fe := hf e (by omega)
      have Ch : ∀ (c2 : Nat) (x : Int) (g2 : qM), x + c2 = a 11 (zF a b k + e) - a 30 (zF a b k + e) → 0 ≤ x → zGv g g2 (zW (a 30) (a 11) (zF a b k) e + x) f → L_m_givesLines_27 X k (zF a b k + e) (a 30 (zF a b k + e) + x) g2 K := by
        intro c2
        induction c2 with
        | zero =>
          intro x g2 hx x0 A2
          have s2 := st A2
          have n2' := A2.n
          refine sg_m_givesLines_27 ⟨l0, by omega, z_t (by rw [s2.2.2.2.1, q6]; omega) (k_m_give (by omega) (by omega) (fun g3 B => ⟨by omega, ?_⟩))⟩
          have ex : x = a 11 (zF a b k + e) - a 30 (zF a b k + e) := by omega
          have A3 := A2.step B (by rw [ex]; exact fe.2.symm)
          have res := ih (e + 1) g3 (by omega) (by rw [zi, show zW (a 30) (a 11) (zF a b k) e + (a 11 (zF a b k + e) - a 30 (zF a b k + e) + 1) = zW (a 30) (a 11) (zF a b k) e + x + 1 by omega]; exact A3)
          rw [show zF a b k + ((e + 1 : Nat) : Int) = zF a b k + e + 1 by omega] at res
          exact res
        | succ c2 ih2 =>
          intro x g2 hx x0 A2
          have s2 := st A2
          have n2' := A2.n
          refine sg_m_givesLines_27 ⟨l0, by omega, z_f (by rw [s2.2.2.2.1, q6]; omega) ⟨by omega, by omega, ?_⟩⟩
          rw [s2.2.2.2.2]
          refine k_m_give (by omega) (by omega) (fun g3 B => ⟨by omega, ?_⟩)
          have A3 := A2.step B (fe.1 x x0 (by omega)).symm
          have res := ih2 (x + 1) g3 (by omega) (by omega) (by rw [show zW (a 30) (a 11) (zF a b k) e + (x + 1) = zW (a 30) (a 11) (zF a b k) e + x + 1 by omega]; exact A3)
          rw [show a 30 (zF a b k + e) + (x + 1) = a 30 (zF a b k + e) + x + 1 by omega] at res
          exact res
      refine sg_m_givesLines_2 (z_f (by omega) ⟨l0, by omega, z_f (fun z => z (by rw [s.2.1]; exact q4)) ⟨l0, by omega, ?_⟩⟩)
      rw [s.2.2.1, q5]
      have res := Ch (a 11 (zF a b k + e) - a 30 (zF a b k + e)).toNat 0 g' (by omega) (Int.le_refl 0) (by rw [Int.add_zero]; exact A)
      rw [Int.add_zero] at res
      exact res
  have first : ∀ (c : Nat) (l : Int), l + c = zF a b k → 0 ≤ l → L_m_givesLines_2 X k l g K := by
    intro c
    induction c with
    | zero =>
      intro l hl l0
      have res := In (a 28 k).toNat 0 g (by omega) zGv.zero
      rw [show zF a b k + ((0 : Nat) : Int) = l by omega] at res
      exact res
    | succ c ih =>
      intro l hl l0
      have s := st (zGv.zero (g := g) (f := f))
      have ne : b 124 l ≠ k := fun e => by have := (g4 l (by omega) (by omega)).mp e; omega
      exact sg_m_givesLines_2 (z_f (by omega) ⟨l0, by omega, z_t (by rw [s.2.1]; exact ne) ⟨by omega, ih (l + 1) (by omega) (by omega)⟩⟩)
  exact sg_m_givesLines (first (zF a b k).toNat 0 (by omega) (Int.le_refl 0))
/-- how many of a kind are ahead: the place in the list of names -/
theorem k_m_ahead {κ i : Int} {r cc : Nat} (M : zNm a b n κ r cc) (n2 : n ≤ 600) (fr : g 117 = b 117) (i0 : 0 ≤ i) (ir : i < a r 1) (hi : a (r + 1) i = x) (h : KI i g) : c_m_ahead X x g KI := by
  have li := M.ls i i0 ir
  rw [hi] at li
  obtain ⟨x0, xn, xk, _⟩ := li
  have Lp : ∀ (c : Nat) (j o : Int), j + c = x → 0 ≤ j → 0 ≤ o → o ≤ j → (∀ i', 0 ≤ i' → i' < o → a (r + 1) i' < j) → (o < a r 1 → j ≤ a (r + 1) o) → L_m_ahead_4 X x o j g KI := by
    intro c
    induction c with
    | zero =>
      intro j o hj j0 o0 oj lo hi2
      refine sg_m_ahead_4 (z_t (by omega) ?_)
      have e : o = i := by
        by_cases z : i < o
        · have := lo i i0 z; omega
        · by_cases y : o < i
          · have p := hi2 (by omega)
            have q := M.mo o i o0 y ir
            omega
          · omega
      rw [e]; exact h
    | succ c ih =>
      intro j o hj j0 o0 oj lo hi2
      refine sg_m_ahead_4 (z_f (by omega) ⟨j0, by omega, x0, by omega, ?_⟩)
      rw [fr, xk]
      refine z_c (fun ne => ⟨by omega, by omega, ?_⟩) (fun eq => ⟨by omega, by omega, ?_⟩)
      · refine ih (j + 1) (o + 0) (by omega) (by omega) (by omega) (by omega) (fun i' u w => by have := lo i' u (by omega); omega) (fun z => ?_)
        rw [Int.add_zero] at z ⊢
        have p := hi2 z
        have l := (M.ls o o0 z).2.2.1
        have : a (r + 1) o ≠ j := fun e => ne (by rw [← e]; exact l)
        omega
      · have eq := Decidable.not_not.mp eq
        obtain ⟨i', u, w, e⟩ := M.al j j0 (by omega) eq
        have eo : i' = o := by
          by_cases z : i' < o
          · have := lo i' u z; omega
          · by_cases y : o < i'
            · have p := hi2 (by omega)
              have q := M.mo o i' o0 y w
              omega
            · omega
        rw [eo] at e
        refine ih (j + 1) (o + 1) (by omega) (by omega) (by omega) (by omega) (fun i2 u2 w2 => ?_) (fun z => ?_)
        · by_cases y : i2 = o
          · rw [y, e]; omega
          · have := lo i2 u2 (by omega); omega
        · have := M.mo o (o + 1) o0 (by omega) z
          omega
  exact sg_m_ahead (Lp x.toNat 0 0 (by omega) (Int.le_refl 0) (Int.le_refl 0) (Int.le_refl 0) (fun i' u w => by omega) (fun z => (M.ls 0 (Int.le_refl 0) z).1))
end Gives
