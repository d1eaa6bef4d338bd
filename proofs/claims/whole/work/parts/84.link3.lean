/-! A link is made: what holds behind it. -/
section Link3
variable {X : Nat × (Nat → Int32)} {a a' b b' s : qM} {K : Int → qM → Prop} {n m p R P B : Int} {q : Nat} {S rho : Int → Int}
theorem zDp_add {o : Int} (o0 : 0 ≤ o) : ∀ (j : Nat), (∀ i : Nat, i < j → (i : Int) ≠ o → ((b' 141 i = 4 ↔ b 141 i = 4) ∧ (b' 141 i = 5 ↔ b 141 i = 5))) → (o < j → b' 141 o = 4 ∧ b 141 o ≠ 4 ∧ b 141 o ≠ 5) → zDp b' j = zDp b j + (if o < (j : Int) then 1 else 0)
  | 0, _, _ => by show (0 : Int) = 0 + _; rw [if_neg (by omega)]; rfl
  | j + 1, h, ho => by
    have ih := zDp_add o0 j (fun i hi => h i (by omega)) (fun z => ho (by omega))
    show zDp b' j + (if b' 141 (j : Int) = 4 then 1 else if b' 141 (j : Int) = 5 then -1 else 0) = zDp b j + (if b 141 (j : Int) = 4 then 1 else if b 141 (j : Int) = 5 then -1 else 0) + _
    rw [ih]
    by_cases e : (j : Int) = o
    · obtain ⟨x1, x2, x3⟩ := ho (by omega)
      rw [e, if_neg (show ¬ o < o by omega), if_pos x1, if_neg x2, if_neg x3, if_pos (show o < ((j + 1 : Nat) : Int) by omega)]
    · obtain ⟨y1, y2⟩ := h j (by omega) e
      have e1 : (if b' 141 (j : Int) = 4 then (1 : Int) else if b' 141 (j : Int) = 5 then -1 else 0) = (if b 141 (j : Int) = 4 then 1 else if b 141 (j : Int) = 5 then -1 else 0) := by
        by_cases z : b 141 (j : Int) = 4
        · rw [if_pos z, if_pos (y1.mpr z)]
        · rw [if_neg z, if_neg (fun w => z (y1.mp w))]
          by_cases z2 : b 141 (j : Int) = 5
          · rw [if_pos z2, if_pos (y2.mpr z2)]
          · rw [if_neg z2, if_neg (fun w => z2 (y2.mp w))]
      rw [e1]
      generalize (if b 141 (j : Int) = 4 then (1 : Int) else if b 141 (j : Int) = 5 then -1 else 0) = w
      by_cases z : o < (j : Int)
      · rw [if_pos z, if_pos (show o < ((j + 1 : Nat) : Int) by omega)]; omega
      · rw [if_neg z, if_neg (show ¬ o < ((j + 1 : Nat) : Int) by omega)]; omega
set_option maxHeartbeats 4000000 in
theorem zSc.link (H : zSc a b n m S p q R rho P) {a1 : qM} {o σ τ nb : Int} (fa1 : ∀ r, r ≠ 51 → a1 r = a r) (o0 : 0 ≤ o) (op : o < p) (to : b 141 o = 3) (mx : ∀ k, o < k → k < p → b 141 k ≠ 3) (σn : σ ≠ -1) (lk : zLk a b σ τ) (τ0 : 0 ≤ τ) (τn : τ < n) (nb0 : 0 ≤ nb) (hB : B = if 0 < nb then P + nb + 3 else P + 1) (Bm : B ≤ m) (hP : P < m)
    (h : ∀ a' b' S' p' q' R' rho', zSc a' b' n m S' p' q' R' rho' B → zSf a a' b b' → (∀ K' : Int → qM → Prop, K' B b' → L_m_closesLink_104 X P o nb τ 0 (q_up b 141 o 0) K') → K B a') : L_Il_passBracket_123 X P (S o) B σ a1 K := by
  obtain ⟨n1, n2, n3, n4, n5, n6⟩ := H.nn
  obtain ⟨m0, m2⟩ := H.W.m0
  obtain ⟨t1, t2, t3, t4, t5, t6, t7, t8⟩ := H.N.sz
  obtain ⟨l1, l2, l3, l4, l5⟩ := H.nl
  have p0 := H.Z.p0
  have Rp := H.Rp
  have ql := H.Z.qle
  obtain ⟨k3a, k3b, k3c, k3d⟩ := H.Z.k3 o o0 op to
  have so := H.Z.sep2 o0 op (Int.le_refl p)
  have s0 := H.Z.sep o.toNat 0 (by decide) (by omega)
  rw [H.Z.s0, show (0 : Int) + (o.toNat : Int) = o by omega] at s0
  have PB : P < B := by rw [hB]; split <;> omega
  -- the class: roles and the sign
  refine sg_Il_passBracket_123 (z_t σn (k_Row_set q_row_47 (by rw [fa1 47 (by decide)]; omega) (fun _ _ => ?_) (fun z => absurd ⟨by omega, by rw [fa1 47 (by decide)]; omega⟩ z)))
  refine k_Row_set q_row_49 (by rw [q_up_ne (by decide), fa1 49 (by decide)]; omega) (fun _ _ => ?_) (fun z => absurd ⟨by omega, by rw [q_up_ne (by decide), fa1 49 (by decide)]; omega⟩ z)
  refine k_Row_set q_row_47 (by rw [q_up_ne (by decide), q_up_ne (by decide), fa1 47 (by decide)]; omega) (fun _ _ => ⟨by omega, ?_⟩) (fun z => absurd ⟨by omega, by rw [q_up_ne (by decide), q_up_ne (by decide), fa1 47 (by decide)]; omega⟩ z)
  generalize e2 : q_up (q_up (q_up a1 (47 + 1) (S o) 12) (49 + 1) (S o) σ) (47 + 1) P (-4) = a2
  have g2 : ∀ r, r ≠ 48 → r ≠ 50 → a2 r = a1 r := fun r x y => by rw [← e2, q_up_ne x, q_up_ne y, q_up_ne x]
  have g48 : a2 48 = q_u (q_u (a 48) (S o) 12) P (-4) := by rw [← e2, q_up_fn, q_up_ne (by decide), q_up_fn, fa1 (47 + 1) (by decide)]
  have g50 : a2 50 = q_u (a 50) (S o) σ := by rw [← e2, q_up_ne (by decide), q_up_fn, q_up_ne (by decide), fa1 (49 + 1) (by decide)]
  refine k_Il_pass (m := m) (by rw [g2 47 (by decide) (by decide), fa1 47 (by decide)]; exact n3) m2 (by omega) Bm (fun a3 f3 f3a f3b => ?_)
  refine k_Row_empty q_row_51 ?_
  generalize e4 : q_up a3 51 1 0 = a4
  have g4 : ∀ r, r ≠ 51 → a4 r = a3 r := fun r x => by rw [← e4, q_up_ne x]
  have g451 : a4 51 1 = 0 := by rw [← e4, q_up_at]
  have fa4 : ∀ r, r ≠ 48 → r ≠ 50 → r ≠ 51 → a4 r = a r := fun r x y z => by rw [g4 r z, f3 r x, g2 r x y, fa1 r z]
  have f4P : a4 48 P = -4 := by rw [g4 48 (by decide), f3b P (by omega), g48, q_u_at]
  have f4B : ∀ i, P < i → i < B → a4 48 i = -3 := fun i u v => by rw [g4 48 (by decide)]; exact f3a i (by omega) v
  have f4o : a4 48 (S o) = 12 := by rw [g4 48 (by decide), f3b _ (by omega), g48, q_u_ne (by omega), q_u_at]
  have f4r : ∀ i, i ≠ S o → ¬ (P ≤ i ∧ i < B) → a4 48 i = a 48 i := fun i u v => by rw [g4 48 (by decide), f3b i (by omega), g48, q_u_ne (by omega), q_u_ne u]
  have f450 : a4 50 = q_u (a 50) (S o) σ := by rw [g4 50 (by decide), f3 50 (by decide)]; exact g50
  refine k_Runs_firstBehind (R := R) (by rw [fa4 54 (by decide) (by decide) (by decide)]; exact t1) t7 t8 (fun g g0 gR glo ghi => ?_)
  rw [fa4 55 (by decide) (by decide) (by decide)] at glo ghi
  -- runs ahead of the bracket and behind it
  have before : ∀ r, 0 ≤ r → r < R → (r < g ↔ rho r < o) := by
    intro r u v
    obtain ⟨h1, h2, h3⟩ := H.N.rg r u v
    have bg := H.N.bg r u v
    have un := (H.un r u v).2.1
    have ne : rho r ≠ o := fun z => by rw [z] at h3; omega
    constructor
    · intro z
      have := glo r u z
      rcases Int.lt_or_lt_of_ne ne with y | y
      · exact y
      · have := H.Z.sep2 o0 y (by omega)
        have := H.Z.mono o o0 op
        omega
    · intro z
      by_cases y : r < g
      · exact y
      · exfalso
        have gg := ghi (by omega)
        have m1 : rho g ≤ rho r := by
          by_cases w : g = r
          · rw [w]; exact Int.le_refl _
          · have := H.N.mo g r g0 (by omega) v; omega
        have bgg := H.N.bg g g0 (by omega)
        have ung := (H.un g g0 (by omega)).2.1
        have rgg := H.N.rg g g0 (by omega)
        have := H.Z.sep2 (k := rho g) (l := o) (by omega) (by omega) (by omega)
        have := H.Z.mono (rho g) (by omega) (by omega)
        omega
  -- the model: brackets ahead are plain, this one is a LINK
  generalize eb3 : q_up (q_up (zCv (q_up b 141 o 0) o) 141 o 4) 143 o τ = b3
  have c3 : ∀ r, r ≠ 141 → r ≠ 142 → r ≠ 143 → b3 r = b r := fun r x y z => by
    rw [← eb3, q_up_ne z, q_up_ne x]; unfold zCv; rw [if_neg x, if_neg y, q_up_ne x]
  have c141 : ∀ k, b3 141 k = if k = o then 4 else if (0 ≤ k ∧ k < o) ∧ b 141 k = 3 then 0 else b 141 k := fun k => by
    rw [← eb3, q_up_ne (by decide)]
    by_cases z : k = o
    · rw [z, q_up_at, if_pos rfl]
    · rw [q_up_nj z, if_neg z]; unfold zCv; rw [if_pos rfl, q_up_nj z]
  have c142 : ∀ k, k ≠ o → b3 142 k = if (0 ≤ k ∧ k < o) ∧ b 141 k = 3 then 91 else b 142 k := fun k z => by
    rw [← eb3, q_up_ne (by decide), q_up_ne (by decide)]; unfold zCv; rw [if_neg (by decide), if_pos rfl, q_up_nj z, q_up_ne (by decide)]
  have c143 : b3 143 = q_u (b 143) o τ := by
    rw [← eb3, q_up_fn, q_up_ne (by decide)]; unfold zCv; rw [if_neg (by decide), if_neg (by decide), q_up_ne (by decide)]
  have Z3 : zPc (a4 48) b3 S p q := by
    refine H.Z.conv (fun k k0 kp => ?_) (c3 138 (by decide) (by decide) (by decide)) (c3 146 (by decide) (by decide) (by decide)) (c3 148 (by decide) (by decide) (by decide)) (c3 149 (by decide) (by decide) (by decide)) (c3 150 (by decide) (by decide) (by decide))
    have sk := H.Z.sep2 k0 kp (Int.le_refl p)
    by_cases z : k = o
    · rw [z]; exact Or.inr (Or.inr ⟨to, by rw [c141, if_pos rfl], f4o⟩)
    · have keep : ∀ i, S k ≤ i → i < S (k + 1) → a4 48 i = a 48 i := fun i u v => f4r i (fun w => by
        rcases Int.lt_or_lt_of_ne z with y | y
        · have := H.Z.sep2 k0 y (by omega); omega
        · have := H.Z.sep2 o0 y (by omega); omega) (by omega)
      by_cases y : (0 ≤ k ∧ k < o) ∧ b 141 k = 3
      · exact Or.inr (Or.inl ⟨y.2, by rw [c141, if_neg z, if_pos y], by rw [c142 k z, if_pos y], keep⟩)
      · exact Or.inl ⟨by rw [c141, if_neg z, if_neg y], by rw [c142 k z, if_neg y], by rw [c143, q_u_ne z], keep⟩
  have one : ∀ k, 0 ≤ k → k < p → (b3 141 k = 1 ↔ b 141 k = 1) := fun k k0 kp => by
    rw [c141]
    by_cases z : k = o
    · rw [if_pos z, z]; constructor <;> intro w <;> omega
    · rw [if_neg z]
      by_cases y : (0 ≤ k ∧ k < o) ∧ b 141 k = 3
      · rw [if_pos y]; constructor <;> intro w <;> omega
      · rw [if_neg y]
  have cC : ∀ k (j : Nat), zCw b3 k j = zCw b k j := fun k j => zCw_congr j (fun _ _ => ⟨by rw [c3 149 (by decide) (by decide) (by decide)], by rw [c3 150 (by decide) (by decide) (by decide)]⟩)
  have cO : ∀ k (j : Nat), zOu b3 k j = zOu b k j := fun k j => zOu_congr j (fun _ _ => ⟨by rw [c3 148 (by decide) (by decide) (by decide)], by rw [c3 150 (by decide) (by decide) (by decide)]⟩)
  have ne143 : ∀ k, 0 ≤ k → k < p → b 141 k = 1 → b3 143 k = b 143 k := fun k _ _ hk => by rw [c143, q_u_ne (fun z => by rw [z] at hk; omega)]
  have Rs : zRs a4 b3 S p q g R rho (o + 1) m g := by
    refine zRs.mk Z3 (zRn.mk ?_ (fun r u v => ?_) (fun r r' u v w => H.N.mo r r' (by omega) v w) (fun r u v => ?_) (fun r u v => ?_) (fun r u v => ?_) (fun k u v w y => ?_)) (by rw [c3 113 (by decide) (by decide) (by decide)]; exact n1) ⟨by rw [fa4 47 (by decide) (by decide) (by decide)]; exact n3, m2, by omega, by omega⟩ (fun r u v => by rw [c3 147 (by decide) (by decide) (by decide)]; exact (H.un r (by omega) v).1)
    · rw [fa4 54 (by decide) (by decide) (by decide), fa4 56 (by decide) (by decide) (by decide), fa4 58 (by decide) (by decide) (by decide), fa4 60 (by decide) (by decide) (by decide), fa4 62 (by decide) (by decide) (by decide)]
      exact ⟨t1, t2, t3, t4, t5, g0, gR, t8⟩
    · obtain ⟨h1, h2, h3⟩ := H.N.rg r (by omega) v
      have := (before r (by omega) v)
      have ne : rho r ≠ o := fun z => by rw [z] at h3; omega
      exact ⟨by omega, h2, (one _ h1 h2).mpr h3⟩
    · obtain ⟨h1, h2, h3⟩ := H.N.rg r (by omega) v
      rw [fa4 59 (by decide) (by decide) (by decide), fa4 61 (by decide) (by decide) (by decide), fa4 63 (by decide) (by decide) (by decide), ne143 _ h1 h2 h3, c3 144 (by decide) (by decide) (by decide), c3 145 (by decide) (by decide) (by decide), c3 147 (by decide) (by decide) (by decide)]
      exact H.N.dt r (by omega) v
    · rw [fa4 55 (by decide) (by decide) (by decide), cC]; exact H.N.bg r (by omega) v
    · rw [fa4 55 (by decide) (by decide) (by decide), fa4 57 (by decide) (by decide) (by decide), c3 144 (by decide) (by decide) (by decide), c3 147 (by decide) (by decide) (by decide), cO]; exact H.N.en r (by omega) v
    · rw [c3 147 (by decide) (by decide) (by decide)] at y
      obtain ⟨r, r0, hr, er⟩ := H.N.lv k (by omega) v ((one k (by omega) v).mp w) y
      exact ⟨r, by have := before r r0 hr; omega, hr, er⟩
  refine sg_Runs_resolve q_row_47 (k_resolve2 (p - (o + 1)).toNat g (o + 1) a4 b3 q (by omega) Rs (Int.le_refl g) gR (Int.le_refl _) (fun r u v => by omega) (fun z => (Rs.N.rg g (Int.le_refl g) z).1) (fun a5 b5 q5 R5 F5 W5 => ?_))
  obtain ⟨u1, u2, u3, u4, u5, u6, u7, u8⟩ := R5.N.sz
  refine k_Runs_cut (R := R) ⟨u1, u2, u3, u4, u5⟩ g0 gR (fun a6 f6 s6 => ?_)
  have h33 : b5 113 33 = p := by rw [F5.f113 33 (by decide), c3 113 (by decide) (by decide) (by decide)]; exact n2
  -- the model's last piece
  have h33' : zBt b5 o p 113 33 = p := by unfold zBt; rw [if_neg (by decide)]; exact h33
  obtain ⟨b7, A7, W7⟩ := z_1V (k_m_adds (X := X) (b := zBt b5 o p) (p := p) (τ := 5) (v := o) (u := 0) (KV := fun b7 => zAd (zBt b5 o p) b7 p 5 o 0) h33' p0 (by omega) (fun b' A => A))
  have bt : ∀ r, r ≠ 147 → zBt b5 o p r = b5 r := fun r hr => by unfold zBt; rw [if_neg hr]
  have bt7 : ∀ k, zBt b5 o p 147 k = if o < k ∧ k < p then 1 else b5 147 k := fun k => by unfold zBt; rw [if_pos rfl]
  have fa6 : ∀ r, r ≠ 48 → r ≠ 50 → r ≠ 51 → r < 54 ∨ 63 < r → a6 r = a r := fun r x y z w => by rw [f6 r (by omega) (by omega) (by omega) (by omega) (by omega), F5.fa r x (by omega) (by omega), fa4 r x y z]
  have fb7 : ∀ r, r ≠ 113 → r < 141 ∨ 150 < r → b7 r = b r := fun r x y => by rw [A7.fr r x (by omega) (by omega) (by omega) (by omega), bt r (by omega), F5.fb r x (by omega), c3 r (by omega) (by omega) (by omega)]
  have fj7 : ∀ j, j ≠ 33 → j ≠ 41 → b7 113 j = b 113 j := fun j x y => by rw [A7.f113 j x, bt 113 (by decide), F5.f113 j y, c3 113 (by decide) (by decide) (by decide)]
  have t7' : ∀ k, k ≠ p → b7 141 k = b3 141 k := fun k z => by rw [A7.t, q_u_ne z, bt 141 (by decide), F5.fb 141 (by decide) (by omega)]
  have f648 : a6 48 = a5 48 := f6 48 (by decide) (by decide) (by decide) (by decide) (by decide)
  have cC7 : ∀ k (j : Nat), zCw b7 k j = zCw b5 k j := fun k j => zCw_congr j (fun _ _ => ⟨by rw [A7.fr 149 (by decide) (by decide) (by decide) (by decide) (by decide), bt 149 (by decide)], by rw [A7.fr 150 (by decide) (by decide) (by decide) (by decide) (by decide), bt 150 (by decide)]⟩)
  have cO7 : ∀ k (j : Nat), zOu b7 k j = zOu b5 k j := fun k j => zOu_congr j (fun _ _ => ⟨by rw [A7.fr 148 (by decide) (by decide) (by decide) (by decide) (by decide), bt 148 (by decide)], by rw [A7.fr 150 (by decide) (by decide) (by decide) (by decide) (by decide), bt 150 (by decide)]⟩)
  have Z7 : zPc (a6 48) b7 (zS1 S p B) (p + 1) q5 := by
    refine R5.Z.app (τ := 5) (by omega) (fun i _ => by rw [f648]) ?_ ?_ (fun k z => ?_) (fun k z => ?_) (fun k _ => ?_) ?_ ?_ ?_ (by decide) (by decide) (fun z => by omega) (fun z => by omega) (fun z => by omega) (by decide) (fun _ => ?_) (fun z => by omega)
    · rw [A7.fr 138 (by decide) (by decide) (by decide) (by decide) (by decide), bt 138 (by decide)]
    · rw [A7.t, bt 141 (by decide)]
    · rw [A7.v2, q_u_ne z, bt 142 (by decide)]
    · rw [A7.v3, q_u_ne z, bt 143 (by decide)]
    · rw [A7.fr 146 (by decide) (by decide) (by decide) (by decide) (by decide), bt 146 (by decide)]
    · rw [A7.fr 148 (by decide) (by decide) (by decide) (by decide) (by decide), bt 148 (by decide)]
    · rw [A7.fr 149 (by decide) (by decide) (by decide) (by decide) (by decide), bt 149 (by decide)]
    · rw [A7.fr 150 (by decide) (by decide) (by decide) (by decide) (by decide), bt 150 (by decide)]
    · rw [f648, n5, F5.far P (by omega)]
      exact ⟨f4P, fun i u v => by rw [F5.far i (by omega)]; exact f4B i u v⟩
  have pcx : ∀ r, 0 ≤ r → r < g → rho r < o ∧ rho r < p ∧ b3 141 (rho r) = 1 ∧ b7 147 (rho r) = b 147 (rho r) ∧ zCw b7 (rho r) q5 = zCw b (rho r) q ∧ zOu b7 (rho r) q5 = zOu b (rho r) q := fun r u v => by
    obtain ⟨h1, h2, h3⟩ := H.N.rg r u (by omega)
    have bf := (before r u (by omega)).mp v
    obtain ⟨y1, y2, y3, y4⟩ := F5.pc (rho r) (by omega)
    refine ⟨bf, h2, (one _ h1 h2).mpr h3, ?_, by rw [cC7, y3, cC], by rw [cO7, y4, cO]⟩
    rw [A7.d, q_u_ne (by omega), bt7, if_neg (by omega), y2, c3 147 (by decide) (by decide) (by decide)]
  have N7 : zRn a6 b7 (zS1 S p B) (p + 1) q5 0 g rho 0 := by
    refine zRn.mk ⟨s6.1, s6.2.1, s6.2.2.1, s6.2.2.2.1, s6.2.2.2.2, by decide, by omega, by omega⟩ (fun r u v => ?_) (fun r r' u v w => H.N.mo r r' u v (by omega)) (fun r u v => ?_) (fun r u v => ?_) (fun r u v => ?_) (fun k u v w y => ?_)
    · obtain ⟨x1, x2, x3, _⟩ := pcx r u v
      have := H.N.rg r u (by omega)
      exact ⟨this.1, by omega, by rw [t7' _ (by omega)]; exact x3⟩
    · obtain ⟨x1, x2, x3, x4, _⟩ := pcx r u v
      have rg := H.N.rg r u (by omega)
      rw [f6 59 (by decide) (by decide) (by decide) (by decide) (by decide), f6 61 (by decide) (by decide) (by decide) (by decide) (by decide), f6 63 (by decide) (by decide) (by decide) (by decide) (by decide), F5.fa 59 (by decide) (by decide) (by decide), F5.fa 61 (by decide) (by decide) (by decide), F5.fa 63 (by decide) (by decide) (by decide), fa4 59 (by decide) (by decide) (by decide), fa4 61 (by decide) (by decide) (by decide), fa4 63 (by decide) (by decide) (by decide), A7.v3, q_u_ne (by omega), bt 143 (by decide), F5.fb 143 (by decide) (by omega), ne143 _ rg.1 rg.2.1 rg.2.2, A7.fr 144 (by decide) (by decide) (by decide) (by decide) (by decide), bt 144 (by decide), F5.fb 144 (by decide) (by omega), c3 144 (by decide) (by decide) (by decide), A7.fr 145 (by decide) (by decide) (by decide) (by decide) (by decide), bt 145 (by decide), F5.fb 145 (by decide) (by omega), c3 145 (by decide) (by decide) (by decide), x4]
      exact H.N.dt r u (by omega)
    · obtain ⟨x1, x2, x3, x4, x5, x6⟩ := pcx r u v
      rw [f6 55 (by decide) (by decide) (by decide) (by decide) (by decide), (F5.ru r v).1, fa4 55 (by decide) (by decide) (by decide), zS1_lo (by omega), x5]; exact H.N.bg r u (by omega)
    · obtain ⟨x1, x2, x3, x4, x5, x6⟩ := pcx r u v
      rw [f6 55 (by decide) (by decide) (by decide) (by decide) (by decide), f6 57 (by decide) (by decide) (by decide) (by decide) (by decide), (F5.ru r v).1, (F5.ru r v).2, fa4 55 (by decide) (by decide) (by decide), fa4 57 (by decide) (by decide) (by decide), zS1_lo (by omega), x6, x4, A7.fr 144 (by decide) (by decide) (by decide) (by decide) (by decide), bt 144 (by decide), F5.fb 144 (by decide) (by omega), c3 144 (by decide) (by decide) (by decide)]; exact H.N.en r u (by omega)
    · by_cases e : k = p
      · rw [e, A7.t, q_u_at] at w; omega
      · rw [t7' k e] at w
        rw [A7.d, q_u_ne e, bt7] at y
        by_cases z : o < k ∧ k < p
        · rw [if_pos z] at y; omega
        · rw [if_neg z] at y
          have ko : k ≠ o := fun x => by rw [x, c141, if_pos rfl] at w; omega
          have klt : k < o := by omega
          rw [(F5.pc k (by omega)).2.1, c3 147 (by decide) (by decide) (by decide)] at y
          obtain ⟨r, r0, hr, er⟩ := H.N.lv k u (by omega) ((one k u (by omega)).mp w) y
          exact ⟨r, r0, by have := before r r0 hr; omega, er⟩
  have f650 : a6 50 = q_u (a 50) (S o) σ := by rw [f6 50 (by decide) (by decide) (by decide) (by decide) (by decide), F5.fa 50 (by decide) (by decide) (by decide)]; exact f450
  have f651 : a6 51 1 = 0 := by rw [f6 51 (by decide) (by decide) (by decide) (by decide) (by decide), F5.fa 51 (by decide) (by decide) (by decide)]; exact g451
  have e117 : b7 117 = b 117 := fb7 117 (by decide) (by omega)
  have so12 : a6 48 (S o) = 12 := by rw [f648]; exact F5.lk _ f4o
  have four : ∀ k, 0 ≤ k → k < p → (b3 141 k = 4 → k = o ∨ b 141 k = 4) := fun k _ _ w => by
    rw [c141] at w
    by_cases z : k = o
    · exact Or.inl z
    · rw [if_neg z] at w
      by_cases y : (0 ≤ k ∧ k < o) ∧ b 141 k = 3
      · rw [if_pos y] at w; omega
      · rw [if_neg y] at w; exact Or.inr w
  have Fin : zSc a6 b7 n m (zS1 S p B) (p + 1) q5 g rho B := by
    refine zSc.mk ?_ ?_ ?_ ?_ Z7 N7 ?_ (fun r u v => ?_) (fun i u v => ?_) (fun i u v => ?_) (fun k u v w => ?_) ⟨by omega, by omega⟩ (fun i u v => by omega) (fun i j u v w => by omega) (fun k u v w => ?_) (fun j hj => ?_)
    · refine zWr.mk H.W.m0 ?_ ?_
      · rw [fa6 45 (by decide) (by decide) (by decide) (by omega), fj7 28 (by decide) (by decide)]; exact H.W.sz
      · rw [fa6 46 (by decide) (by decide) (by decide) (by omega), fb7 138 (by decide) (by omega)]; exact H.W.ch
    · exact H.nd.fr (Int.le_refl n) (by rw [fa6 37 (by decide) (by decide) (by decide) (by omega)]) (fa6 38 (by decide) (by decide) (by decide) (by omega)) (fa6 36 (by decide) (by decide) (by decide) (by omega)) (fun k _ _ => by rw [e117]) (fun k x y => by omega) (fun j _ => by rw [fb7 130 (by decide) (by omega)])
    · exact H.nh.fr (Int.le_refl n) (by rw [fa6 41 (by decide) (by decide) (by decide) (by omega)]) (fa6 42 (by decide) (by decide) (by decide) (by omega)) (fa6 40 (by decide) (by decide) (by decide) (by omega)) (fun k _ _ => by rw [e117]) (fun k x y => by omega) (fun j _ => by rw [fb7 130 (by decide) (by omega)])
    · rw [fa6 37 (by decide) (by decide) (by decide) (by omega), fa6 41 (by decide) (by decide) (by decide) (by omega), fj7 4 (by decide) (by decide)]; exact H.nl
    · rw [fa6 47 (by decide) (by decide) (by decide) (by omega), fa6 49 (by decide) (by decide) (by decide) (by omega), A7.f113 41 (by decide), bt 113 (by decide)]
      exact ⟨R5.nq, A7.f33, n3, n4, zS1_hi, Bm⟩
    · obtain ⟨x1, x2, x3, x4, x5, x6⟩ := pcx r u v
      rw [x4, x5, x6]; exact H.un r u (by omega)
    · rw [f648, F5.far i (by omega), f4r i (by omega) (by omega), f650, q_u_ne (by omega)]; exact H.rest i (by omega) v
    · rw [f650]
      by_cases z : i = S o
      · left; rw [z]; exact so12
      · rw [q_u_ne z]
        by_cases y : P ≤ i
        · exact Or.inr (H.rest i y v).2
        · rcases H.sg i u v with w | w
          · left; rw [f648]; exact F5.lk i (by rw [f4r i z (by omega)]; exact w)
          · exact Or.inr w
    · have e : k ≠ p := fun z => by rw [z, A7.t, q_u_at] at w; omega
      rw [t7' k e] at w
      unfold zLk
      rw [f650, fa6 37 (by decide) (by decide) (by decide) (by omega), fa6 38 (by decide) (by decide) (by decide) (by omega), fa6 41 (by decide) (by decide) (by decide) (by omega), fa6 42 (by decide) (by decide) (by decide) (by omega), A7.v3, q_u_ne e, bt 143 (by decide), F5.fb 143 (by decide) (by omega), c143, e117, zS1_lo (by omega)]
      rcases four k u (by omega) w with z | z
      · rw [z, q_u_at, q_u_at]; exact lk
      · have ko : k ≠ o := fun x => by rw [x] at z; omega
        have sne : S k ≠ S o := fun x => by
          rcases Int.lt_or_lt_of_ne ko with y | y
          · have := H.Z.sep2 u y (by omega); have := H.Z.mono k u (by omega); omega
          · have := H.Z.sep2 o0 y (by omega); have := H.Z.mono o o0 op; omega
        rw [q_u_ne sne, q_u_ne ko]; exact H.lk k u (by omega) z
    · exfalso
      by_cases e : k = p
      · rw [e, A7.t, q_u_at] at w; omega
      · rw [t7' k e, c141] at w
        by_cases z : k = o
        · rw [if_pos z] at w; omega
        · rw [if_neg z] at w
          by_cases y : (0 ≤ k ∧ k < o) ∧ b 141 k = 3
          · rw [if_pos y] at w; omega
          · rw [if_neg y] at w
            by_cases x : k < o
            · exact y ⟨⟨u, x⟩, w⟩
            · exact mx k (by omega) (by omega) w
    · have hyp : ∀ i : Nat, (i : Int) < p → (i : Int) ≠ o → ((b7 141 i = 4 ↔ b 141 i = 4) ∧ (b7 141 i = 5 ↔ b 141 i = 5)) := fun i hi io => by
        rw [t7' _ (by omega), c141, if_neg io]
        by_cases y : (0 ≤ (i : Int) ∧ (i : Int) < o) ∧ b 141 (i : Int) = 3
        · rw [if_pos y]; constructor <;> constructor <;> intro w <;> omega
        · rw [if_neg y]; exact ⟨Iff.rfl, Iff.rfl⟩
      have at_ : o < p → b7 141 o = 4 ∧ b 141 o ≠ 4 ∧ b 141 o ≠ 5 := fun _ => ⟨by rw [t7' o (by omega), c141, if_pos rfl], by omega, by omega⟩
      by_cases e : (j : Int) ≤ p
      · rw [zDp_add o0 j (fun i hi io => hyp i (by omega) io) (fun z => at_ op)]
        have := H.dp j e
        split <;> omega
      · have ej : j = p.toNat + 1 := by omega
        rw [ej]
        show 0 ≤ zDp b7 p.toNat + (if b7 141 ((p.toNat : Nat) : Int) = 4 then 1 else if b7 141 ((p.toNat : Nat) : Int) = 5 then -1 else 0)
        rw [zDp_add o0 p.toNat (fun i hi io => hyp i (by omega) io) (fun z => at_ op), show ((p.toNat : Nat) : Int) = p by omega, A7.t, q_u_at, if_pos op, if_neg (by decide), if_pos rfl]
        have := H.dp p.toNat (by omega)
        omega
  refine h a6 b7 _ _ q5 g rho Fin (zSf.mk (fun r hr => fa6 r (by omega) (by omega) (by omega) (by omega)) fb7 fj7) (fun K' hk => ?_)
  have c104 := k_m_104 (X := X) (b := q_up b 141 o 0) (P := P) (K := K') (o := o) (nb := nb) (τ := τ) o0 (by omega) ?_ o.toNat 0 (by omega) (by decide)
  · rw [zCv_0] at c104; exact c104
  · rw [eb3, show b3 113 33 = p by rw [c3 113 (by decide) (by decide) (by decide)]; exact n2]
    refine sg_m_pairsUp (W5 _ ⟨by omega, ?_⟩)
    have c175 := k_m_175 (X := X) (b := b5) (P := P) (K := K') (nb := nb) o0 (by omega) h33 ⟨by omega, by omega, nb0, by rw [hB] at Bm; split at Bm <;> omega⟩ (fun b' A => ?_) op (p - (o + 1)).toNat (o + 1) (by omega) (by omega)
    · rw [zBt_0] at c175; exact c175
    · -- the same end
      have eB : (if nb ≤ 0 then P + 1 else P + nb + 3) = B := by
        rw [hB]; by_cases z : nb ≤ 0
        · rw [if_pos z, if_neg (by omega)]
        · rw [if_neg z, if_pos (by omega)]
      rw [eB]
      have : b' = b7 := by
        funext r k
        by_cases x1 : r = 113
        · rw [x1]
          by_cases x2 : k = 33
          · rw [x2, A.f33, A7.f33]
          · rw [A.f113 k x2, A7.f113 k x2]
        · by_cases x2 : r = 141
          · rw [x2, A.t, A7.t]
          · by_cases x3 : r = 142
            · rw [x3, A.v2, A7.v2]
            · by_cases x4 : r = 143
              · rw [x4, A.v3, A7.v3]
              · by_cases x5 : r = 147
                · rw [x5, A.d, A7.d]
                · rw [A.fr r x1 x2 x3 x4 x5, A7.fr r x1 x2 x3 x4 x5]
      rw [this]; exact hk
end Link3
