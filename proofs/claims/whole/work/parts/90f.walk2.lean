/-! The tree: steps of the walk, with what has been walked. -/
def zWs (a0 b0 : qM) (V C0 D0 lf : Int) (a b : qM) (P cur w : Int) (d : Nat) : Prop := ∃ v C D f, zTn a b v C D lf cur w d f ∧ zWf a0 a b0 b (lf + 1) C0 ∧ v ≤ V + P ∧ C0 ≤ C ∧ C ≤ C0 + P ∧ D ≤ D0 + P
section Walk2
variable {X : Nat × (Nat → Int32)} {a0 b0 a b : qM} {K : qM → Prop} {V C0 D0 lf cur w P m n p κ x : Int} {d q : Nat} {S : Int → Int}
theorem zWs.mono {P' : Int} (W : zWs a0 b0 V C0 D0 lf a b P cur w d) (h : P ≤ P') : zWs a0 b0 V C0 D0 lf a b P' cur w d := by
  obtain ⟨v, C, D, f, Z, F, h1, h2, h3, h4⟩ := W
  exact ⟨v, C, D, f, Z, F, by omega, h2, by omega, by omega⟩
theorem zWs.fr (W : zWs a0 b0 V C0 D0 lf a b P cur w d) : (∀ r, r < 65 ∨ 80 < r → a r = a0 r) ∧ (∀ r, r ≠ 113 → r < 131 ∨ r = 135 ∨ 136 < r → r ≠ 152 → r ≠ 153 → b r = b0 r) ∧ (∀ j, j ≠ 20 → j ≠ 51 → j ≠ 54 → j ≠ 55 → b 113 j = b0 113 j) := by
  obtain ⟨v, C, D, f, Z, F, h1, h2, h3, h4⟩ := W
  exact ⟨F.fa, F.fb, F.fj⟩
theorem zWs.char (W : zWs a0 b0 V C0 D0 lf a b P cur w d) (H : zDone a0 b0 n m S p q) (cp : V + m ≤ 481 ∧ C0 + m ≤ 299 ∧ D0 + m ≤ 299) (P0 : 0 ≤ P) (Pm : P < m) (hr : a0 48 P = 0) (hx : b0 138 P = x)
    (h : ∀ a' b' w', zWs a0 b0 V C0 D0 lf a' b' (P + 1) cur w' d → (∀ Kf : qM → Prop, Kf b' → c_m_addsCharacter X x b Kf) → L_Tree_addInline_8 X cur w' (P + 1) a' K) : L_Tree_addInline_8 X cur w P a K := by
  obtain ⟨v, C, D, f, Z, F, h1, h2, h3, h4⟩ := W
  obtain ⟨m0, m2⟩ := H.W.m0
  have F45 := F.fa 45 (by decide)
  have F46 := F.fa 46 (by decide)
  have F47 := F.fa 47 (by decide)
  have F48 := F.fa 48 (by decide)
  refine k_stepChar (x := x) Z ⟨by rw [F45]; exact H.W.sz.1, by rw [F47]; exact H.nn.2.2.1⟩ P0 Pm m2 (by rw [F48]; exact hr) (by rw [F46, (H.W.ch P P0 Pm).1]; exact hx) (by omega) (by omega) (by omega) (fun a' b' v' w' Z' g1 g2 F' W' => ?_)
  exact h a' b' w' ⟨v', C + 1, D + 1, f, Z', F.tr F' h2, by omega, by omega, by omega, by omega⟩ W'
theorem zWs.leave (W : zWs a0 b0 V C0 D0 lf a b P cur w (d + 1)) (H : zDone a0 b0 n m S p q) (cp : V + m ≤ 481 ∧ C0 + m ≤ 299 ∧ D0 + m ≤ 299) (P0 : 0 ≤ P) (Pm : P < m) (hr : a0 48 P = -4)
    (h : ∀ b' cur', zWs a0 b0 V C0 D0 lf a b' (P + 1) cur' (-1) d → (∀ Kf : qM → Prop, Kf b' → c_m_leaves X b Kf) → L_Tree_addInline_8 X cur' (-1) (P + 1) a K) : L_Tree_addInline_8 X cur w P a K := by
  obtain ⟨v, C, D, f, Z, F, h1, h2, h3, h4⟩ := W
  obtain ⟨m0, m2⟩ := H.W.m0
  have F45 := F.fa 45 (by decide)
  have F47 := F.fa 47 (by decide)
  have F48 := F.fa 48 (by decide)
  refine k_stepLeave Z ⟨by rw [F45]; exact H.W.sz.1, by rw [F47]; exact H.nn.2.2.1⟩ P0 Pm m2 (by rw [F48]; exact hr) (by omega) (fun b' Z' F' W' => ?_)
  exact h b' (f d) ⟨v, C, D, f, Z', F.tr F' h2, by omega, by omega, by omega, by omega⟩ W'
theorem zWs.enter (W : zWs a0 b0 V C0 D0 lf a b P cur w d) (H : zDone a0 b0 n m S p q) (cp : V + m ≤ 481 ∧ C0 + m ≤ 299 ∧ D0 + m ≤ 299) (P0 : 0 ≤ P) (Pm : P < m) (hr : a0 48 P = κ) (kk : κ = 9 ∨ κ = 10)
    (h : ∀ a' b' cur', zWs a0 b0 V C0 D0 lf a' b' (P + 1) cur' (-1) (d + 1) → (∀ Kf : qM → Prop, Kf b' → c_m_enters X κ b Kf) → L_Tree_addInline_8 X cur' (-1) (P + 1) a' K) : L_Tree_addInline_8 X cur w P a K := by
  obtain ⟨v, C, D, f, Z, F, h1, h2, h3, h4⟩ := W
  obtain ⟨m0, m2⟩ := H.W.m0
  have F45 := F.fa 45 (by decide)
  have F47 := F.fa 47 (by decide)
  have F48 := F.fa 48 (by decide)
  have F49 := F.fa 49 (by decide)
  have F50 := F.fa 50 (by decide)
  have hs : a0 50 P = -1 := (H.sg P P0 Pm).resolve_left (fun z => by omega)
  refine k_stepEnter Z ⟨by rw [F45]; exact H.W.sz.1, by rw [F47]; exact H.nn.2.2.1, by rw [F49]; exact H.nn.2.2.2.1⟩ P0 Pm m2 (by rw [F48]; exact hr) (by rw [F50]; exact hs) (by omega) kk (fun a' b' Z' F' W' => ?_)
  exact h a' b' v ⟨v + 1, C, D, _, Z', F.tr F' h2, by omega, by omega, by omega, by omega⟩ W'
theorem zWs.link {k : Int} (W : zWs a0 b0 V C0 D0 lf a b P cur w d) (H : zDone a0 b0 n m S p q) (cp : V + m ≤ 481 ∧ C0 + m ≤ 299 ∧ D0 + m ≤ 299) (P0 : 0 ≤ P) (Pm : P < m) (hr : a0 48 P = 12) (k0 : 0 ≤ k) (k2 : k < 241) (hs : zLk a0 b0 (a0 50 P) (b0 143 k))
    (h : ∀ a' b' cur', zWs a0 b0 V C0 D0 lf a' b' (P + 1) cur' (-1) (d + 1) → (∀ Kf : qM → Prop, Kf b' → c_m_enters X 12 b (fun s4 => ((0 : Int) ≤ k) ∧ (k < (241 : Int)) ∧ ((0 : Int) ≤ (s4 113 54)) ∧ ((s4 113 54) < (900 : Int)) ∧ (∀ s5 : qM, s5 = q_up s4 136 (s4 113 54) (s4 143 k) → Kf s5))) → L_Tree_addInline_8 X cur' (-1) (P + 1) a' K) : L_Tree_addInline_8 X cur w P a K := by
  obtain ⟨v, C, D, f, Z, F, h1, h2, h3, h4⟩ := W
  obtain ⟨m0, m2⟩ := H.W.m0
  have F45 := F.fa 45 (by decide)
  have F47 := F.fa 47 (by decide)
  have F48 := F.fa 48 (by decide)
  have F49 := F.fa 49 (by decide)
  have F50 := F.fa 50 (by decide)
  have lk : zLk a b (a 50 P) (b0 143 k) := by rw [F50]; exact hs.fr (F.fa 37 (by decide)) (F.fa 38 (by decide)) (F.fa 41 (by decide)) (F.fa 42 (by decide)) (F.fb 117 (by decide) (by decide) (by decide) (by decide))
  refine k_stepLink (τ := b0 143 k) Z ⟨by rw [F45]; exact H.W.sz.1, by rw [F47]; exact H.nn.2.2.1, by rw [F49]; exact H.nn.2.2.2.1⟩ P0 Pm m2 (by rw [F48]; exact hr) k0 k2 (by rw [F.fb 143 (by decide) (by decide) (by decide) (by decide)]) lk (by omega) (fun a' b' Z' F' W' => ?_)
  exact h a' b' v ⟨v + 1, C, D, _, Z', F.tr F' h2, by omega, by omega, by omega, by omega⟩ W'
/-- what is PASSED -/
theorem zDone.pass (H : zDone a0 b0 n m S p q) (ha : ∀ r, r < 65 ∨ 80 < r → a r = a0 r) {cu ww E : Int} (hE : E ≤ m) (h : L_Tree_addInline_8 X cu ww E a K) : ∀ (e : Nat) (P : Int), P + e = E → 0 ≤ P → (∀ i, P ≤ i → i < E → a0 48 i = -3) → L_Tree_addInline_8 X cu ww P a K := by
  intro e
  induction e with
  | zero => intro P h1 P0 hp; rw [show P = E by omega]; exact h
  | succ e ih =>
    intro P h1 P0 hp
    have r := ih (P + 1) (by omega) (by omega) (fun i u w => hp i (by omega) w)
    exact k_passed (m := m) ⟨by rw [ha 45 (by decide)]; exact H.W.sz.1, by rw [ha 47 (by decide)]; exact H.nn.2.2.1⟩ P0 (by omega) H.W.m0.2 (by rw [ha 48 (by decide)]; exact hp P (Int.le_refl P) (by omega)) r
end Walk2
