/-! The tree: a step of both. -/
section Lock
variable {X : Nat × (Nat → Int32)} {a b a' b' a1 b1 : qM} {K : qM → Prop} {KI : Int → qM → Prop} {v C D κ par σ told w x lf cur V0 C0 P m : Int} {d : Nat} {f : Nat → Int}
theorem zTn.cur' (Z : zTn a b v C D lf cur w d f) : 0 ≤ lf ∧ lf ≤ cur ∧ cur < v ∧ b 131 cur ≠ 11 ∧ a 66 cur = b 131 cur ∧ a 68 cur = b 132 cur ∧ a 70 cur = b 133 cur ∧ 0 ≤ b 133 cur ∧ b 133 cur ≤ v := by
  have h := Z.cl d (Nat.le_refl d)
  rw [Z.ch.2.1] at h
  have l0 := Z.ch.2.2
  obtain ⟨n1, n2, n3, _, _, _, _, _, n9, n10⟩ := Z.T.nd cur (by omega) h.2.1
  exact ⟨l0, h.1, h.2.1, h.2.2, n1, n2, n3, n9, n10⟩
theorem zTn.insc (Z : zTn a b v C D lf cur w d f) : ∀ j, 0 ≤ cur → cur < j → j < v → cur ≤ b 132 j := fun j _ u w => by
  have h := Z.ins d (Nat.le_refl d) j
  rw [Z.ch.2.1] at h
  exact h u w
theorem zTn.mono (Z : zTn a b v C D lf cur w d f) : ∀ (c i : Nat), i + c = d → f i ≤ cur := by
  intro c
  induction c with
  | zero => intro i h; rw [show i = d by omega, Z.ch.2.1]; exact Int.le_refl _
  | succ c ih =>
    intro i h
    have h1 := ih (i + 1) (by omega)
    have h2 := Z.cl (i + 1) (by omega)
    have h3 := Z.cl i (by omega)
    have h4 := Z.pa i (by omega)
    have h5 := Z.T.nd (f (i + 1)) (by have := Z.ch.2.2; omega) h2.2.1
    have l0 := Z.ch.2.2
    by_cases z : f (i + 1) = 0
    · have := h5.2.2.2.2.2.2.1 z; omega
    · have := h5.2.2.2.2.2.2.2.1 (by omega); omega
theorem zTn.insn (Z : zTn a b v C D lf cur w d f) (o132 : ∀ i, i ≠ v → b' 132 i = b 132 i) (n132 : b' 132 v = cur) : ∀ i, i ≤ d → ∀ j, f i < j → j < v + 1 → f i ≤ b' 132 j := fun i hi j u x => by
  by_cases e : j = v
  · rw [e, n132]; exact Z.mono (d - i) i (by omega)
  · rw [o132 j e]; exact Z.ins i hi j u (by omega)
theorem zTn.inln (Z : zTn a b v C D lf cur w d f) (o131 : ∀ i, i ≠ v → b' 131 i = b 131 i) (n131 : 8 ≤ b' 131 v) : ∀ j, lf < j → j < v + 1 → 8 ≤ b' 131 j := fun j u x => by
  by_cases e : j = v
  · rw [e]; exact n131
  · rw [o131 j e]; exact Z.inl j u (by omega)
theorem zTn.inse (Z : zTn a b v C D lf cur w d f) (o132 : ∀ i, i ≠ v → b' 132 i = b 132 i) (n132 : b' 132 v = cur) : ∀ i, i ≤ d + 1 → ∀ j, (if i ≤ d then f i else v) < j → j < v + 1 → (if i ≤ d then f i else v) ≤ b' 132 j := fun i hi j u x => by
  by_cases e : i ≤ d
  · rw [if_pos e] at u ⊢; exact Z.insn o132 n132 i e j u x
  · rw [if_neg e] at u; omega
theorem zTn.putGo (Z : zTn a b v C D lf cur w d f) (e : w = v - 1) (hw : lf < w) (g1 : b 131 w = 8) (g2 : b 132 w = cur) (eC : a 76 w + a 78 w = C) (eD : b 153 w + b 134 w = D) (A : zPu a a' w C x) (B : zPx b b' w D x) (e55 : b' 113 55 = 0) : zTn a' b' v (C + 1) (D + 1) lf cur w d f ∧ zWf a a' b b' (lf + 1) C := by
  have w0 : 0 ≤ w := Int.le_trans Z.ch.2.2 (Int.le_of_lt hw)
  obtain ⟨T', q1, q2⟩ := Z.T.put A B w0 (by rw [e]; exact Int.sub_lt_self v (by decide)) (Or.inl g1) eC eD
  have g131 : b' 131 = b 131 := B.fr 131 (by decide) (by decide) (by decide)
  have g132 : b' 132 = b 132 := B.fr 132 (by decide) (by decide) (by decide)
  refine ⟨zTn.mk T' (by rw [B.f113 54 (by decide) (by decide)]; exact Z.cu) Z.ch (fun i hi => by rw [g131]; exact Z.cl i hi) (fun i hi => by rw [g132]; exact Z.pa i hi) (by rw [g132]; exact Z.ins) (by rw [g131]; exact Z.inl) (Or.inr ⟨e, hw, by rw [g131]; exact g1, by rw [g132]; exact g2, e55, q1, q2⟩), zWf.mk (fun r hr => A.fr r (fun z => by omega) (fun z => by omega) (fun z => by omega) (fun z => by omega)) (fun r h1 h2 h3 h4 => B.fr r h1 (fun z => by omega) h3) (fun j h1 h2 h3 h4 => B.f113 j h2 h4) (fun i hi => ⟨by rw [g131], by rw [g132], by rw [B.f134, q_u_ne (by omega)], by rw [A.fr 76 (by decide) (by decide) (by decide) (by decide)], by rw [A.f78, q_u_ne (by omega)]⟩) (fun i hi => by rw [A.f80, q_u_ne (by omega)])⟩
theorem zTn.putNew (Z : zTn a b v C D lf cur w d f) (A1 : zNa a a1 v 8 cur (-1) C) (B1 : zNb2 b b1 v 8 cur 0 D) (A : zPu a1 a' v C x) (B : zPx b1 b' v D x) (e55 : b' 113 55 = 0) : zTn a' b' (v + 1) (C + 1) (D + 1) lf cur v d f ∧ zWf a a' b b' (lf + 1) C := by
  obtain ⟨l0, lc, cv, _⟩ := Z.cur'
  have v0 : 0 < v := by omega
  have pv : v - 1 + 1 = v := by omega
  have T1 : zTr a1 b1 (v + 1) C D := Z.T.add (c' := a1) (d' := b1) A1 B1 ⟨by decide, by decide⟩ (Or.inr ⟨v0, by omega, cv⟩) Z.insc (fun _ => rfl) (fun z => absurd z (by decide)) (fun z => absurd z (by decide)) (fun z => absurd z (by decide)) (fun _ _ _ => rfl) (fun r _ => rfl) (fun _ _ => rfl) (by rw [A1.f72, q_u_at]) (fun r _ _ _ _ => rfl) ⟨rfl, rfl⟩ (fun i hi => by rw [B1.f136, q_u_ne hi]) (Int.le_refl 0) (fun z => absurd z (by decide))
  have u131 : b1 131 v = 8 := by rw [B1.f131, q_u_at]
  have u132 : b1 132 v = cur := by rw [B1.f132, q_u_at]
  have eC : a1 76 v + a1 78 v = C := by rw [A1.f76, A1.f78, q_u_at, q_u_at, Int.add_zero]
  have eD : b1 153 v + b1 134 v = D := by rw [B1.f153, B1.f134, q_u_at, q_u_at, Int.add_zero]
  obtain ⟨T', q1, q2⟩ := T1.put A B (Int.le_of_lt v0) (by omega) (Or.inl u131) eC eD
  have g131 : b' 131 = b1 131 := B.fr 131 (by decide) (by decide) (by decide)
  have g132 : b' 132 = b1 132 := B.fr 132 (by decide) (by decide) (by decide)
  have o131 : ∀ i, i ≠ v → b' 131 i = b 131 i := fun i hi => by rw [g131, B1.f131, q_u_ne hi]
  have o132 : ∀ i, i ≠ v → b' 132 i = b 132 i := fun i hi => by rw [g132, B1.f132, q_u_ne hi]
  refine ⟨zTn.mk T' ?_ Z.ch (fun i hi => ?_) (fun i hi => ?_) (Z.insn o132 (by rw [g132]; exact u132)) (Z.inln o131 (by rw [g131, u131]; decide)) (Or.inr ⟨(Int.add_sub_cancel v 1).symm, by omega, by rw [g131]; exact u131, by rw [g132]; exact u132, e55, q1, q2⟩), zWf.mk (fun r hr => ?_) (fun r h1 h2 h3 h4 => ?_) (fun j h1 h2 h3 h4 => ?_) (fun i hi => ⟨o131 i (by omega), o132 i (by omega), ?_, ?_, ?_⟩) (fun i hi => ?_)⟩
  · rw [B.f113 54 (by decide) (by decide), B1.f113 54 (by decide)]; exact Z.cu
  · have h := Z.cl i hi
    rw [o131 _ (by omega)]; exact ⟨h.1, by omega, h.2.2⟩
  · have h := Z.cl (i + 1) hi
    rw [o132 _ (by omega)]; exact Z.pa i hi
  · rw [A.fr r (fun z => by omega) (fun z => by omega) (fun z => by omega) (fun z => by omega), A1.fr r (by omega)]
  · rw [B.fr r h1 (fun z => by omega) h3, B1.fr r h1 (fun z => by omega) (fun z => by omega) (fun z => by omega) (fun z => by omega) (fun z => by omega) h4]
  · rw [B.f113 j h2 h4, B1.f113 j h1]
  · rw [B.f134, q_u_ne (by omega), B1.f134, q_u_ne (by omega)]
  · rw [A.fr 76 (by decide) (by decide) (by decide) (by decide), A1.f76, q_u_ne (by omega)]
  · rw [A.f78, q_u_ne (by omega), A1.f78, q_u_ne (by omega)]
  · rw [A.f80, q_u_ne (by omega), A1.fr 80 (by decide)]
/-- a node is entered -/
theorem zTn.ent (Z : zTn a b v C D lf cur w d f) (A1 : zNa a a' v κ cur σ C) (B1 : zNb2 b b1 v κ cur 0 D) (fb : ∀ r, r ≠ 113 → r ≠ 136 → b' r = b1 r) (fj : ∀ j, j ≠ 54 → j ≠ 55 → b' 113 j = b1 113 j) (e54 : b' 113 54 = v) (e55 : b' 113 55 = 0) (f136 : ∀ i, i ≠ v → b' 136 i = b 136 i) (kk : κ = 9 ∨ κ = 10 ∨ κ = 12) (ss : κ ≠ 12 → σ = -1) (sl : κ = 12 → zLk a b σ (b' 136 v)) : zTn a' b' (v + 1) C D lf v (-1) (d + 1) (fun i => if i ≤ d then f i else v) ∧ zWf a a' b b' (lf + 1) C := by
  obtain ⟨l0, lc, cv, _⟩ := Z.cur'
  have T' : zTr a' b' (v + 1) C D := Z.T.add (c' := a') (d' := b') A1 B1 ⟨by omega, by omega⟩ (Or.inr ⟨by omega, by omega, cv⟩) Z.insc (fun _ => rfl) (fun z => by omega) (fun z => by omega) sl (fun _ _ z => ss z) (fun r _ => rfl) (fun _ _ => rfl) (by rw [A1.f72, q_u_at]) (fun r h1 _ h2 _ => fb r h1 h2) ⟨fj 20 (by decide) (by decide), fj 51 (by decide) (by decide)⟩ f136 (Int.le_refl 0) (fun z => by omega)
  have g131 : b' 131 = b1 131 := fb 131 (by decide) (by decide)
  have g132 : b' 132 = b1 132 := fb 132 (by decide) (by decide)
  have o131 : ∀ i, i ≠ v → b' 131 i = b 131 i := fun i hi => by rw [g131, B1.f131, q_u_ne hi]
  have o132 : ∀ i, i ≠ v → b' 132 i = b 132 i := fun i hi => by rw [g132, B1.f132, q_u_ne hi]
  have n131 : b' 131 v = κ := by rw [g131, B1.f131, q_u_at]
  have n132 : b' 132 v = cur := by rw [g132, B1.f132, q_u_at]
  refine ⟨zTn.mk T' e54 ⟨?_, ?_, l0⟩ (fun i hi => ?_) (fun i hi => ?_) (Z.inse o132 n132) (Z.inln o131 (by rw [n131]; omega)) (Or.inl ⟨rfl, fun z => ?_⟩), zWf.mk (fun r hr => A1.fr r (by omega)) (fun r h1 h2 h3 h4 => ?_) (fun j h1 h2 h3 h4 => ?_) (fun i hi => ⟨o131 i (by omega), o132 i (by omega), ?_, ?_, ?_⟩) (fun i hi => by rw [A1.fr 80 (by decide)])⟩
  · rw [if_pos (Nat.zero_le d)]; exact Z.ch.1
  · rw [if_neg (by omega)]
  · by_cases e : i ≤ d
    · have h := Z.cl i e
      rw [if_pos e, o131 _ (by omega)]; exact ⟨h.1, by omega, h.2.2⟩
    · rw [if_neg e, n131]; exact ⟨by omega, by omega, by omega⟩
  · by_cases e : i + 1 ≤ d
    · have h := Z.cl (i + 1) e
      rw [if_pos e, if_pos (by omega), o132 _ (by omega)]; exact Z.pa i e
    · rw [if_neg e, if_pos (by omega), n132, show i = d by omega]; exact Z.ch.2.1.symm
  · have z1 := z.1
    rw [Int.add_sub_cancel v 1, n131] at z1
    omega
  · rw [fb r h1 (fun z => by omega), B1.fr r h1 (fun z => by omega) (fun z => by omega) (fun z => by omega) (fun z => by omega) (fun z => by omega) h4]
  · rw [fj j h3 h4, B1.f113 j h1]
  · rw [fb 134 (by decide) (by decide), B1.f134, q_u_ne (by omega)]
  · rw [A1.f76, q_u_ne (by omega)]
  · rw [A1.f78, q_u_ne (by omega)]
/-- a node is left -/
theorem zTn.lv (Z : zTn a b v C D lf cur w (d + 1) f) (fb : ∀ r, r ≠ 113 → b' r = b r) (fj : ∀ j, j ≠ 54 → j ≠ 55 → b' 113 j = b 113 j) (e54 : b' 113 54 = b 132 cur) (e55 : b' 113 55 = 1) : b 132 cur = f d ∧ zTn a b' v C D lf (f d) (-1) d f ∧ zWf a a b b' (lf + 1) C := by
  have e : b 132 cur = f d := by rw [← Z.ch.2.1]; exact Z.pa d (Nat.lt_succ_self d)
  have T := Z.T
  obtain ⟨t1, t2, t3, t4, t5, t6, t7, t8, t9, t10, t11, t12, t13⟩ := T.sz
  have g131 := fb 131 (by decide)
  have g132 := fb 132 (by decide)
  have g134 := fb 134 (by decide)
  refine ⟨e, zTn.mk (zTr.mk ⟨t1, t2, t3, t4, t5, t6, t7, t8, by rw [fj 20 (by decide) (by decide)]; exact t9, by rw [fj 51 (by decide) (by decide)]; exact t10, t11, t12, t13⟩ ?_ (fun i i0 iv => ?_) ?_ (by rw [g132, fb 133 (by decide)]; exact T.kc) (by rw [g132]; exact T.pre) T.sm (by rw [g131, g134]; exact T.tl)) (by rw [e54, e]) ⟨Z.ch.1, rfl, Z.ch.2.2⟩ (fun i hi => by rw [g131]; exact Z.cl i (by omega)) (fun i hi => by rw [g132]; exact Z.pa i (by omega)) (by rw [g132]; exact fun i hi => Z.ins i (by omega)) (by rw [g131]; exact Z.inl) (Or.inl ⟨rfl, fun z => by have := z.2.2; omega⟩), zWf.mk (fun _ _ => rfl) (fun r h _ _ _ => fb r h) (fun j _ _ h3 h4 => fj j h3 h4) (fun i _ => ⟨by rw [g131], by rw [g132], by rw [g134], rfl, rfl⟩) (fun _ _ => rfl)⟩
  · rw [g131, g132, fb 133 (by decide), g134]; exact T.nd
  · have h := T.sg i i0 iv
    rw [g131, g134, fb 136 (by decide)]
    exact ⟨h.1, h.2.1, fun z => (h.2.2.1 z).fr rfl rfl rfl rfl (fb 117 (by decide)), h.2.2.2⟩
  · rw [g131, g134, fb 153 (by decide), fb 152 (by decide)]; exact T.ct
end Lock
