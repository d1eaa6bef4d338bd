/-! The text of a PARAGRAPH or HEADING, in both at once. -/
/-- m characters have been written, all of them plain so far -/
def zCp (a b : qM) (m : Int) : Prop := (0 ≤ m ∧ m ≤ 240) ∧ (a 45 1 = m ∧ a 47 1 = m ∧ a 49 1 = m ∧ b 113 28 = m) ∧ (∀ i, 0 ≤ i → i < m → a 46 i = b 138 i ∧ zChr (b 138 i) ∧ a 48 i = 0 ∧ a 50 i = -1)
theorem zCp.mk {a b : qM} {m : Int} (m0 : 0 ≤ m ∧ m ≤ 240) (sz : a 45 1 = m ∧ a 47 1 = m ∧ a 49 1 = m ∧ b 113 28 = m) (ch : ∀ i, 0 ≤ i → i < m → a 46 i = b 138 i ∧ zChr (b 138 i) ∧ a 48 i = 0 ∧ a 50 i = -1) : zCp a b m := ⟨m0, sz, ch⟩
theorem zCp.m0 {a b : qM} {m : Int} (h : zCp a b m) : 0 ≤ m ∧ m ≤ 240 := h.1
theorem zCp.sz {a b : qM} {m : Int} (h : zCp a b m) : a 45 1 = m ∧ a 47 1 = m ∧ a 49 1 = m ∧ b 113 28 = m := h.2.1
theorem zCp.ch {a b : qM} {m : Int} (h : zCp a b m) : ∀ i, 0 ≤ i → i < m → a 46 i = b 138 i ∧ zChr (b 138 i) ∧ a 48 i = 0 ∧ a 50 i = -1 := h.2.2
/-- what writing leaves as it is -/
def zCf (a a' b b' : qM) : Prop := (∀ q, q < 45 ∨ 50 < q → a' q = a q) ∧ (∀ q, q ≠ 113 → q ≠ 138 → b' q = b q) ∧ (∀ j, j ≠ 28 → b' 113 j = b 113 j)
theorem zCf.mk {a a' b b' : qM} (fa : ∀ q, q < 45 ∨ 50 < q → a' q = a q) (fb : ∀ q, q ≠ 113 → q ≠ 138 → b' q = b q) (f113 : ∀ j, j ≠ 28 → b' 113 j = b 113 j) : zCf a a' b b' := ⟨fa, fb, f113⟩
theorem zCf.fa {a a' b b' : qM} (h : zCf a a' b b') : ∀ q, q < 45 ∨ 50 < q → a' q = a q := h.1
theorem zCf.fb {a a' b b' : qM} (h : zCf a a' b b') : ∀ q, q ≠ 113 → q ≠ 138 → b' q = b q := h.2.1
theorem zCf.f113 {a a' b b' : qM} (h : zCf a a' b b') : ∀ j, j ≠ 28 → b' 113 j = b 113 j := h.2.2
section Copy
variable {X : Nat × (Nat → Int32)} {a b s : qM} {K : qM → Prop} {gh : qM × qM} {t : Int → Int} {n m N LL : Int}
theorem zCf.rf : zCf a a b b := zCf.mk (fun _ _ => rfl) (fun _ _ _ => rfl) (fun _ _ => rfl)
theorem zCf.tr {a1 a2 b1 b2 : qM} (F : zCf a a1 b b1) (G : zCf a1 a2 b1 b2) : zCf a a2 b b2 :=
  zCf.mk (fun q h => (G.fa q h).trans (F.fa q h)) (fun q x y => (G.fb q x y).trans (F.fb q x y)) (fun j x => (G.f113 j x).trans (F.f113 j x))
/-- one character more -/
theorem zCp.add {a1 b1 : qM} {c : Int} (Z : zCp a b m) (hm : m < 240) (hc : zChr c) (fa : ∀ q, q < 45 ∨ 50 < q → a1 q = a q) (s1 : a1 45 1 = m + 1) (s2 : a1 47 1 = m + 1) (s3 : a1 49 1 = m + 1) (e1 : a1 46 = q_u (a 46) m c) (e2 : a1 48 = q_u (a 48) m 0) (e3 : a1 50 = q_u (a 50) m (-1))
    (fb : ∀ q, q ≠ 113 → q ≠ 138 → b1 q = b q) (f113 : ∀ j, j ≠ 28 → b1 113 j = b 113 j) (s4 : b1 113 28 = m + 1) (e4 : b1 138 = q_u (b 138) m c) : zCp a1 b1 (m + 1) ∧ zCf a a1 b b1 := by
  have h0 := Z.m0
  refine ⟨zCp.mk ⟨by omega, by omega⟩ ⟨s1, s2, s3, s4⟩ (fun i i0 hi => ?_), zCf.mk fa fb f113⟩
  rw [e1, e2, e3, e4]
  by_cases e : i = m
  · rw [e, q_u_at, q_u_at, q_u_at, q_u_at]; exact ⟨rfl, hc, rfl, rfl⟩
  · rw [q_u_ne e, q_u_ne e, q_u_ne e, q_u_ne e]; exact Z.ch i i0 (by omega)
theorem k_Il_addCharacter {c : Int} (Z : zCp a b m) (hm : m < 240) (h : ∀ a1, (∀ q, q < 45 ∨ 50 < q → a1 q = a q) → a1 45 1 = m + 1 → a1 47 1 = m + 1 → a1 49 1 = m + 1 → a1 46 = q_u (a 46) m c → a1 48 = q_u (a 48) m 0 → a1 50 = q_u (a 50) m (-1) → K a1) : c_Il_addCharacter X c a K := by
  obtain ⟨m0, m2⟩ := Z.m0
  obtain ⟨s1, s2, s3, s4⟩ := Z.sz
  have step : ∀ (r : Nat) (v : Int) (u : qM) (F : qM → Prop), q_isRow r 240 → u r 1 = m → (∀ u', (∀ q, q ≠ r → q ≠ r + 1 → u' q = u q) → u' r 1 = m + 1 → u' (r + 1) = q_u (u (r + 1)) m v → F u') → c_Row_add X r v u F := by
    intro r v u F hr hu hF
    refine k_Row_add hr (by omega) (by omega) ?_
    rw [hu]
    exact hF _ (fun q x y => by rw [q_up_ne x, q_up_ne y]) q_up_at (by rw [q_up_ne (by omega), q_up_fn])
  refine sg_Il_addCharacter (step 45 c a _ q_row_45 s1 (fun u1 f1 g1 h1 => step 47 0 u1 _ q_row_47 (by rw [f1 47 (by decide) (by decide)]; exact s2) (fun u2 f2 g2 h2 => step 49 (-1) u2 _ q_row_49 (by rw [f2 49 (by decide) (by decide), f1 49 (by decide) (by decide)]; exact s3) (fun u3 f3 g3 h3 => ?_))))
  refine h u3 (fun q hq => by rw [f3 q (by omega) (by omega), f2 q (by omega) (by omega), f1 q (by omega) (by omega)]) ?_ ?_ g3 ?_ ?_ ?_
  · rw [f3 45 (by decide) (by decide), f2 45 (by decide) (by decide)]; exact g1
  · rw [f3 47 (by decide) (by decide)]; exact g2
  · rw [f3 46 (by decide) (by decide), f2 46 (by decide) (by decide)]; exact h1
  · rw [f3 48 (by decide) (by decide), h2, f1 48 (by decide) (by decide)]
  · rw [h3, f2 50 (by decide) (by decide), f1 50 (by decide) (by decide)]
theorem zW_mono {C F : Int → Int} {f : Int} {i k : Nat} (h : ∀ l, f ≤ l → l < f + k → C l ≤ F l) (hik : i ≤ k) : zW C F f i ≤ zW C F f k := by
  induction k with
  | zero => rw [show i = 0 by omega]; exact Int.le_refl _
  | succ k ih =>
    by_cases e : i = k + 1
    · rw [e]; exact Int.le_refl _
    · have h1 := ih (fun l u w => h l u (by omega)) (by omega)
      have h2 := h (f + k) (by omega) (by omega)
      have : zW C F f (k + 1) = zW C F f k + (F (f + k) - C (f + k) + 1) := rfl
      omega
theorem zSig_ge {f : Int → Int} {x : Int} (x0 : 0 ≤ x) : ∀ (k : Nat), x < k → (∀ i : Int, 0 ≤ i → i < k → 0 ≤ f i) → f x ≤ zSig f k
  | 0, h, _ => by omega
  | k + 1, h, e => by
    show f x ≤ zSig f k + f (k : Int)
    by_cases y : x = k
    · have := zSig_nn k (fun i u w => e i u (by omega)); rw [y]; omega
    · have := zSig_ge x0 k (by omega) (fun i u w => e i u (by omega)); have := e k (by omega) (by omega); omega
/-- the characters of a line are copied -/
theorem k_copy94 {v1 v2 v3 e cap : Int} (hcap : cap ≤ 240) (e0 : e ≤ N) : ∀ (k : Nat) (p : Int) (a b : qM) (m : Int) (K : qM → Prop), p + k = e → 0 ≤ p → zCp a b m → m + k ≤ cap → (a 1 1 = N ∧ N ≤ 240 ∧ ∀ i, 0 ≤ i → i < N → a 2 i = b 114 i ∧ zChr (b 114 i)) → -2147483648 ≤ v3 + 1 → v3 + 1 < 2147483648 → -2147483648 ≤ v2 + 1 → v2 + 1 < 2147483648 →
    (∀ a' b', zCp a' b' (m + k) → zCf a a' b b' → (∀ Kf : qM → Prop, L_m_laysInline_7 X v1 (v2 + 1) b' Kf → L_m_laysInline_115 X v1 v2 e p b Kf) → L_T_copyLines_18 X v1 v3 (v2 + 1) a' K) → L_T_copyLines_94 X v1 v3 v2 e p a K := by
  intro k
  induction k with
  | zero =>
    intro p a b m K hp p0 Z hm T u1 u2 w1 w2 h
    refine sg_T_copyLines_94 (z_t (by omega) ⟨⟨by omega, by omega⟩, h a b (by rw [show m + ((0 : Nat) : Int) = m by omega]; exact Z) zCf.rf (fun Kf hk => sg_m_laysInline_115 (z_t (by omega) ⟨⟨by omega, by omega⟩, hk⟩))⟩)
  | succ k ih =>
    intro p a b m K hp p0 Z hm T u1 u2 w1 w2 h
    obtain ⟨t1, t2, t3⟩ := T
    have m0 := Z.m0
    obtain ⟨s1, s2, s3, s4⟩ := Z.sz
    have c := t3 p p0 (by omega)
    refine sg_T_copyLines_94 (z_f (by omega) (k_Row_at q_row_1 (by omega) ?_))
    rw [zT_in p0 (by omega), c.1]
    refine k_Il_addCharacter Z (by omega) (fun a1 f1 g1 g2 g3 h1 h2 h3 => ⟨by omega, ?_⟩)
    generalize eb : q_up (q_up b 138 m (b 114 p)) 113 28 (m + 1) = b1
    have fb : ∀ q, q ≠ 113 → q ≠ 138 → b1 q = b q := fun q x y => by rw [← eb, q_up_ne x, q_up_ne y]
    have fj : ∀ j, j ≠ 28 → b1 113 j = b 113 j := fun j hj => by rw [← eb, q_up_nj hj, q_up_ne (by decide)]
    obtain ⟨Z1, F1⟩ := Z.add (by omega) c.2 f1 g1 g2 g3 h1 h2 h3 fb fj (by rw [← eb, q_up_at]) (by rw [← eb, q_up_ne (by decide), q_up_fn])
    refine ih (p + 1) a1 b1 (m + 1) K (by omega) (by omega) Z1 (by omega) ⟨by rw [f1 1 (by omega)]; exact t1, t2, by rw [f1 2 (by omega), fb 114 (by decide) (by decide)]; exact t3⟩ u1 u2 w1 w2 (fun a' b' Z' F' W => h a' b' (by rw [show m + ((k + 1 : Nat) : Int) = m + 1 + k by omega]; exact Z') (F1.tr F') (fun Kf hk => ?_))
    refine sg_m_laysInline_115 (z_f (by omega) ⟨p0, by omega, by omega, by omega, fun q1 e1 => ?_⟩)
    have e28 : q1 113 28 = m := by rw [e1, q_up_ne (by decide)]; exact s4
    rw [e28]
    refine ⟨⟨by omega, by omega⟩, fun q2 e2 => ⟨⟨by omega, by omega⟩, ?_⟩⟩
    rw [s4] at e1
    rw [e2, e1, eb]
    exact W Kf hk
theorem k_m_skip87 {v1 v2 to : Int} (h0 : to ≤ 240) : ∀ (k : Nat) (p : Int) (Kf : qM → Prop), p + k = zSkip (b 114) p to → 0 ≤ p → p ≤ to → L_m_laysInline_115 X v1 v2 to (zSkip (b 114) p to) b Kf → L_m_laysInline_87 X v1 v2 to p b Kf := by
  intro k
  induction k with
  | zero =>
    intro p Kf hp p0 pt hk
    have g := zSkip_is (t := b 114) pt
    have e : zSkip (b 114) p to = p := by omega
    rw [e] at hk g
    exact sg_m_laysInline_87 (z_c (fun _ => hk) (fun x => ⟨p0, by omega, z_t (g.2.2.2.resolve_left (by omega)) hk⟩))
  | succ k ih =>
    intro p Kf hp p0 pt hk
    have g := zSkip_is (t := b 114) pt
    have e32 := g.2.2.1 p (Int.le_refl p) (by omega)
    have e : zSkip (b 114) (p + 1) to = zSkip (b 114) p to := zSkip_eq (by omega) g.2.1 (fun i u w => g.2.2.1 i (by omega) w) g.2.2.2
    exact sg_m_laysInline_87 (z_f (by omega) ⟨p0, by omega, z_f (fun x => x e32) ⟨by omega, ih (p + 1) Kf (by omega) (by omega) (by omega) (by rw [e]; exact hk)⟩⟩)
/-- both cut a line's content to the same -/
theorem zCut {C F : Int} (h : C ≤ F) : zSkip t C F ≤ zTrim t (zSkip t C F) F ∧ zTrim t (zSkip t C F) F ≤ F ∧ ((zSkip t C F = F ∧ zTrim t C F = C ∧ zTrim t (zSkip t C F) F = F) ∨ (zSkip t C F < F ∧ zTrim t C F = zTrim t (zSkip t C F) F ∧ zSkip t C (zTrim t C F) = zSkip t C F ∧ zSkip t C F < zTrim t C F)) := by
  obtain ⟨g1, g2, g3, g4⟩ := zSkip_is (t := t) h
  obtain ⟨k1, k2, k3, k4⟩ := zTrim_is (t := t) g2
  obtain ⟨l1, l2, l3, l4⟩ := zTrim_is (t := t) h
  refine ⟨k1, k2, ?_⟩
  by_cases e : zSkip t C F = F
  · left
    rw [e] at g3 k1 k2 ⊢
    refine ⟨rfl, ?_, by omega⟩
    rcases l4 with x | x
    · exact x
    · by_cases y : zTrim t C F = C
      · exact y
      · exact absurd (g3 (zTrim t C F - 1) (by omega) (by omega)) x
  · right
    have ne : t (zSkip t C F) ≠ 32 := g4.resolve_left e
    have lt : zSkip t C F < zTrim t C F := by
      by_cases y : zSkip t C F < zTrim t C F
      · exact y
      · exact absurd (l3 _ (by omega) (by omega)) ne
    have e2 : zTrim t (zSkip t C F) F = zTrim t C F := by
      refine zD_eq (by omega) l2 (fun i u w => decide_eq_true (l3 i u w)) ?_
      rcases l4 with x | x
      · omega
      · exact Or.inr (decide_eq_false x)
    exact ⟨by omega, e2.symm, zSkip_eq g1 (by omega) g3 (Or.inr ne), lt⟩
end Copy
