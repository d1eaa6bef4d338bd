/-! Reading a leaf's characters, in both at once. -/
section ScanLoop
variable {X : Nat × (Nat → Int32)} {a a' b b' s : qM} {K : qM → Prop} {n m p R P : Int} {q : Nat} {S rho : Int → Int}
/-- what a step of reading comes to -/
def zNx (X : Nat × (Nat → Int32)) (a b : qM) (n m P : Int) (KI : Int → qM → Prop) : Prop := ∀ a' b' S' p' q' R' rho' P', zSc a' b' n m S' p' q' R' rho' P' → zSf a a' b b' → P < P' → (∀ Kf : qM → Prop, L_m_cuts_17 X P' b' Kf → L_m_cuts_17 X P b Kf) → KI P' a'
theorem zSc.c0 (H : zSc a b n m S p q R rho P) : 0 ≤ P ∧ p ≤ P ∧ 0 ≤ p ∧ m ≤ 240 := by
  have := H.Z.qle
  have := H.nn
  have := H.Z.p0
  have := H.W.m0
  omega
/-- the model looks at the character -/
theorem zSc.cuts (H : zSc a b n m S p q R rho P) (lt : P < m) {Kf : qM → Prop} (ne : b 138 P ≠ 92 ∨ ¬ zSign (zI b m (P + 1))) (hk : L_m_cuts_69 X P (b 138 P) b Kf) : L_m_cuts_17 X P b Kf := by
  obtain ⟨m0, m2⟩ := H.W.m0
  obtain ⟨s1, s2⟩ := H.W.sz
  obtain ⟨c1, c2, c3, _⟩ := H.c0
  refine sg_m_cuts_17 (z_f (by omega) (k_m_in s2 m0 m2 ?_))
  rw [zI_in c1 lt]
  refine z_c (fun _ => hk) (fun e => ⟨by omega, k_m_in s2 m0 m2 (k_m_isSign (fun sg => ?_) (fun _ => z_t rfl hk))⟩)
  exact absurd sg (ne.resolve_left e)
/-- a plain character -/
theorem zSc.plain (H : zSc a b n m S p q R rho P) (lt : P < m) {v : Int} (hv : v = b 138 P) : ∃ b', (∃ S' p', zSc a b' n m S' p' q R rho (P + 1)) ∧ zSf a a b b' ∧ ∀ KV : qM → Prop, KV b' → c_m_adds X 0 v 0 b KV := by
  obtain ⟨n1, n2, n3, n4, n5, n6⟩ := H.nn
  obtain ⟨c1, c2, c3, c4⟩ := H.c0
  obtain ⟨b', A, W⟩ := z_1V (k_m_adds (X := X) (b := b) (p := p) (τ := 0) (v := v) (u := 0) (KV := fun b' => zAd b b' p 0 v 0) n2 c3 (by omega) (fun b' A => A))
  obtain ⟨Z, F⟩ := H.app (a' := a) (P1 := P + 1) A (Or.inl rfl) (by omega) (by omega) (fun _ _ => rfl) (fun _ _ => rfl) (fun _ => Or.inl ⟨rfl, (H.rest P (Int.le_refl P) lt).1, hv⟩) (fun z => by omega)
  exact ⟨b', ⟨_, _, Z⟩, F, fun KV hk => W KV hk⟩
/-- ticks that are not closed -/
theorem zSc.ticks {x : Int} : ∀ (d : Nat) (b : qM) (S : Int → Int) (p P v : Int), zSc a b n m S p q R rho P → P + d ≤ m → (∀ i, P ≤ i → i < P + d → b 138 i = b 138 x) → 0 ≤ x → x < m → 0 ≤ v → ∃ b', (∃ S' p', zSc a b' n m S' p' q R rho (P + d)) ∧ zSf a a b b' ∧ ∀ K : Int → qM → Prop, -2147483648 ≤ x + (v + d) → x + (v + d) < 2147483648 → K (x + (v + d)) b' → L_m_cutsCode_36 X x (v + d) v b K := by
  intro d
  induction d with
  | zero =>
    intro b S p P v H hP hc x0 xm v0
    refine ⟨b, ⟨S, p, by rw [show P + ((0 : Nat) : Int) = P by omega]; exact H⟩, zSf.rf, fun K k1 k2 hk => sg_m_cutsCode_36 (z_t (by omega) ⟨⟨k1, k2⟩, hk⟩)⟩
  | succ d ih =>
    intro b S p P v H hP hc x0 xm v0
    obtain ⟨m0, m2⟩ := H.W.m0
    obtain ⟨s1, s2⟩ := H.W.sz
    obtain ⟨b1, ⟨S1, p1, H1⟩, F1, W1⟩ := H.plain (X := X) (by omega) (hc P (Int.le_refl P) (by omega)).symm
    obtain ⟨b2, ⟨S2, p2, H2⟩, F2, W2⟩ := ih b1 S1 p1 (P + 1) (v + 1) H1 (by omega) (fun i u w => by rw [F1.fb 138 (by decide) (by omega)]; exact hc i (by omega) (by omega)) x0 xm (by omega)
    refine ⟨b2, ⟨S2, p2, by rw [show P + ((d + 1 : Nat) : Int) = P + 1 + d by omega]; exact H2⟩, F1.tr F2, fun K k1 k2 hk => ?_⟩
    refine sg_m_cutsCode_36 (z_f (by omega) (k_m_in s2 m0 m2 ?_))
    rw [zI_in x0 xm]
    refine W1 _ ⟨by omega, ?_⟩
    have := W2 K (by omega) (by omega) (by rw [show x + (v + 1 + d) = x + (v + ((d + 1 : Nat) : Int)) by omega]; exact hk)
    rw [show v + 1 + (d : Int) = v + ((d + 1 : Nat) : Int) by omega] at this
    exact this
end ScanLoop
