/-! The formatter's loop over the lines, and format. -/
/-- at line l -/
def zFq (a b a' b' : qM) (LL l m f n some : Int) : Prop := (zOt a b a' b' m) ∧ ((f = 0 ∧ (0 < l → ¬ zGa a b (l - 1))) ∨ (f = 1 ∧ 0 < l ∧ zGa a b (l - 1))) ∧ ((m = 0 ∧ n = 0 ∧ some = 0 ∧ ∀ k, 0 ≤ k → k < l → zGa a b k) ∨ (0 < m ∧ some = 1 ∧ 0 < l ∧ m + f ≤ a 11 (l - 1) ∧ ((f = 1 ∧ (∃ k, l ≤ k ∧ k < LL ∧ ¬ zGa a b k) ∧ n = m + 1 ∧ b' 154 m = 10) ∨ (¬ (f = 1 ∧ ∃ k, l ≤ k ∧ k < LL ∧ ¬ zGa a b k) ∧ n = m))))
theorem zFq.mk {a b a' b' : qM} {LL l m f n some : Int} (O : zOt a b a' b' m) (hf : (f = 0 ∧ (0 < l → ¬ zGa a b (l - 1))) ∨ (f = 1 ∧ 0 < l ∧ zGa a b (l - 1))) (hs : (m = 0 ∧ n = 0 ∧ some = 0 ∧ ∀ k, 0 ≤ k → k < l → zGa a b k) ∨ (0 < m ∧ some = 1 ∧ 0 < l ∧ m + f ≤ a 11 (l - 1) ∧ ((f = 1 ∧ (∃ k, l ≤ k ∧ k < LL ∧ ¬ zGa a b k) ∧ n = m + 1 ∧ b' 154 m = 10) ∨ (¬ (f = 1 ∧ ∃ k, l ≤ k ∧ k < LL ∧ ¬ zGa a b k) ∧ n = m)))) : zFq a b a' b' LL l m f n some := ⟨O, hf, hs⟩
theorem zFq.O {a b a' b' : qM} {LL l m f n some : Int} (h : zFq a b a' b' LL l m f n some) : zOt a b a' b' m := h.1
theorem zFq.hf {a b a' b' : qM} {LL l m f n some : Int} (h : zFq a b a' b' LL l m f n some) : (f = 0 ∧ (0 < l → ¬ zGa a b (l - 1))) ∨ (f = 1 ∧ 0 < l ∧ zGa a b (l - 1)) := h.2.1
theorem zFq.hs {a b a' b' : qM} {LL l m f n some : Int} (h : zFq a b a' b' LL l m f n some) : (m = 0 ∧ n = 0 ∧ some = 0 ∧ ∀ k, 0 ≤ k → k < l → zGa a b k) ∨ (0 < m ∧ some = 1 ∧ 0 < l ∧ m + f ≤ a 11 (l - 1) ∧ ((f = 1 ∧ (∃ k, l ≤ k ∧ k < LL ∧ ¬ zGa a b k) ∧ n = m + 1 ∧ b' 154 m = 10) ∨ (¬ (f = 1 ∧ ∃ k, l ≤ k ∧ k < LL ∧ ¬ zGa a b k) ∧ n = m))) := h.2.2
section FmLoop
variable {X : Nat × (Nat → Int32)} {a b a' b' s : qM} {K : qM → Prop} {KI : Int → qM → Prop} {N LL l m x had some f n e : Int} {t : Int → Int}
theorem zFq.ni (Q : zFq a b a' b' LL l m f n some) : 0 ≤ n ∧ n ≤ m + 1 := by
  have om := Q.O.sz
  rcases Q.hs with ⟨m0, n0, _, _⟩ | ⟨_, _, _, _, z | z⟩
  · omega
  · have := z.2.2.1; omega
  · have := z.2; omega
/-- behind a gap -/
theorem zFq.gap (Q : zFq a b a' b' LL l m f n some) (F : zFm a b t N LL) (l0 : 0 ≤ l) (lL : l < LL) (g : zGa a b l) :
    ∃ b2 n2 some2, zFq a b a' b2 LL (l + 1) m 1 n2 some2 ∧ ∀ Kf : Int → qM → Prop, L_m_format_21 X had n2 some2 (l + 1) b2 Kf → L_m_format_21 X had n some l b' Kf := by
  have ni := Q.ni
  have om := Q.O.sz
  obtain ⟨g1, g2, g3, g4⟩ := F.li l0 lL
  have hf : ((1 : Int) = 0 ∧ (0 < l + 1 → ¬ zGa a b (l + 1 - 1))) ∨ ((1 : Int) = 1 ∧ 0 < l + 1 ∧ zGa a b (l + 1 - 1)) := Or.inr ⟨rfl, by omega, by rw [show l + 1 - 1 = l by omega]; exact g⟩
  have e1 : a 11 (l + 1 - 1) = a 11 l := by rw [show l + 1 - 1 = l by omega]
  have nst : (f = 1 ∨ m = 0) → ¬ zSt2 a b LL l := by
    intro hh st
    rcases st with z | ⟨z1, z2, z3⟩
    · exact z g
    · rcases Q.hs with ⟨_, _, _, ag⟩ | ⟨mp, _⟩
      · exact z3 (ag (l - 1) (by omega) (by omega))
      · rcases Q.hf with ⟨f0, _⟩ | ⟨_, _, fg⟩
        · omega
        · exact z3 fg
  rcases Q.hs with ⟨m0, n0, s0, ag⟩ | ⟨mp, s1, lp, bd, hs⟩
  · refine ⟨b', n, some, zFq.mk Q.O hf (Or.inl ⟨m0, n0, s0, fun k k0 kl => ?_⟩), fun Kf hk => k_fmGap F l0 lL g Q.O (by omega) (fun z => absurd z (nst (Or.inr m0))) (fun _ => hk)⟩
    by_cases y : k = l
    · rw [y]; exact g
    · exact ag k k0 (by omega)
  · have lb := (F.ln.2.2.2.2.1 (l - 1) (by omega) (by omega)).2
    rw [show l - 1 + 1 = l by omega] at lb
    rcases Q.hf with ⟨f0, fg⟩ | ⟨f1, fl, fg⟩
    · have nm : n = m := by
        rcases hs with z | z
        · have := z.1; omega
        · exact z.2
      by_cases ex : ∃ k, l < k ∧ k < LL ∧ ¬ zGa a b k
      · have st : zSt2 a b LL l := Or.inr ⟨lp, ex, fg lp⟩
        refine ⟨q_up b' 154 n 10, n + 1, 1, zFq.mk (zOt.mk Q.O.fa (fun r u => by rw [q_up_ne u]; exact Q.O.fb r u) Q.O.sz (fun i u w => by rw [q_up_nj (by omega)]; exact Q.O.w i u w)) hf (Or.inr ⟨mp, rfl, by omega, by rw [e1]; omega, Or.inl ⟨rfl, ?_, by omega, by rw [nm, q_up_at]⟩⟩), fun Kf hk => k_fmGap F l0 lL g Q.O (by omega) (fun _ => ⟨s1, hk⟩) (fun z => absurd st z)⟩
        obtain ⟨k, k1, k2, k3⟩ := ex
        exact ⟨k, by omega, k2, k3⟩
      · have ns : ¬ zSt2 a b LL l := fun st => by
          rcases st with z | z
          · exact z g
          · exact ex z.2.1
        refine ⟨b', n, some, zFq.mk Q.O hf (Or.inr ⟨mp, s1, by omega, by rw [e1]; omega, Or.inr ⟨fun z => ex ?_, nm⟩⟩), fun Kf hk => k_fmGap F l0 lL g Q.O (by omega) (fun z => absurd z ns) (fun _ => hk)⟩
        obtain ⟨k, k1, k2, k3⟩ := z.2
        exact ⟨k, by omega, k2, k3⟩
    · have shift : (∃ k, l ≤ k ∧ k < LL ∧ ¬ zGa a b k) ↔ ∃ k, l + 1 ≤ k ∧ k < LL ∧ ¬ zGa a b k := by
        constructor
        · rintro ⟨k, k1, k2, k3⟩
          refine ⟨k, ?_, k2, k3⟩
          by_cases y : k = l
          · rw [y] at k3; exact absurd g k3
          · omega
        · rintro ⟨k, k1, k2, k3⟩; exact ⟨k, by omega, k2, k3⟩
      refine ⟨b', n, some, zFq.mk Q.O hf (Or.inr ⟨mp, s1, by omega, by rw [e1]; omega, ?_⟩), fun Kf hk => k_fmGap F l0 lL g Q.O (by omega) (fun z => absurd z (nst (Or.inl f1))) (fun _ => hk)⟩
      rcases hs with z | z
      · exact Or.inl ⟨rfl, shift.mp z.2.1, z.2.2⟩
      · exact Or.inr ⟨fun y => z.1 ⟨f1, shift.mpr y.2⟩, z.2⟩
theorem zFq.line (Q : zFq a b a' b' LL l m f n some) (F : zFm a b t N LL) (l0 : 0 ≤ l) (lL : l < LL) (ng : ¬ zGa a b l) (he : e = if b 128 l = 0 then zTrim t (a 9 l) (a 11 l) else a 11 l)
    (h : ∀ a'' b'' m', zFq a b a'' b'' LL (l + 1) m' 0 m' 1 → (∀ Kf : Int → qM → Prop, L_m_format_21 X had m' 1 (l + 1) b'' Kf → L_m_format_21 X had n some l b' Kf) → K a'') : c_T_writeLine X (a 9 l) e f a' K := by
  have om := Q.O.sz
  obtain ⟨g1, g2, g3, g4⟩ := F.li l0 lL
  have bt := F.bt
  obtain ⟨d1, d2, _, _⟩ := zD_is (p := zIsB t) g2
  have er : a 9 l ≤ e ∧ e ≤ a 11 l := by
    rw [he]
    by_cases z : b 128 l = 0
    · rw [if_pos z]; exact ⟨d1, d2⟩
    · rw [if_neg z]; omega
  have lb : 0 < l → a 9 l = a 11 (l - 1) + 1 := fun lp => by
    have lb := (F.ln.2.2.2.2.1 (l - 1) (by omega) (by omega)).2
    rw [show l - 1 + 1 = l by omega] at lb
    exact lb
  have hs : (m = 0 ∧ n = 0 ∧ some = 0) ∨ (0 < m ∧ some = 1 ∧ (f = 0 → n = m) ∧ (f ≠ 0 → n = m + 1 ∧ b' 154 m = 10)) := by
    rcases Q.hs with ⟨m0, n0, s0, _⟩ | ⟨mp, s1, lp, bd, hs⟩
    · exact Or.inl ⟨m0, n0, s0⟩
    · refine Or.inr ⟨mp, s1, fun f0 => ?_, fun f1 => ?_⟩
      · rcases hs with z | z
        · have := z.1; omega
        · exact z.2
      · have f1' : f = 1 := by
          rcases Q.hf with z | z
          · exact absurd z.1 f1
          · exact z.1
        rcases hs with z | z
        · exact z.2.2
        · exact absurd ⟨f1', l, Int.le_refl l, lL, ng⟩ z.1
  have ff : f = 0 ∨ f = 1 := by
    rcases Q.hf with z | z
    · exact Or.inl z.1
    · exact Or.inr z.1
  have bd : 0 < m → m + 1 + (if f = 0 then 0 else 1) ≤ a 9 l := by
    intro mp
    rcases Q.hs with ⟨m0, _⟩ | ⟨_, _, lp, bd, _⟩
    · omega
    · have := lb lp
      rcases ff with z | z
      · rw [if_pos z]; omega
      · rw [if_neg (by omega)]; omega
  have first : m = 0 → a 9 l < e := by
    intro m0
    have ag : ∀ k, 0 ≤ k → k < l → zGa a b k := by
      rcases Q.hs with ⟨_, _, _, ag⟩ | ⟨mp, _⟩
      · exact ag
      · omega
    by_cases z : b 128 l = 0
    · rw [if_pos z] at he
      have : e ≠ a 9 l := fun y => ng ⟨z, by rw [bt.2.1, ← he]; exact y⟩
      omega
    · rw [if_neg z] at he
      obtain ⟨l', q1, q2, q3, q4⟩ := F.fz l l0 lL z
      by_cases y : l' = l
      · rw [y] at q4; omega
      · exact absurd (ag l' q1 (by omega)).1 q3
  refine k_fmLine F l0 lL he ng Q.O hs bd (fun a'' b'' m' O' b1 _ b3 b4 W => h a'' b'' m' (zFq.mk O' (Or.inl ⟨rfl, fun _ => by rw [show l + 1 - 1 = l by omega]; exact ng⟩) (Or.inr ⟨?_, rfl, by omega, by rw [show l + 1 - 1 = l by omega]; omega, Or.inr ⟨fun z => absurd z.1 (by decide), rfl⟩⟩)) W)
  by_cases z : m = 0
  · exact b3 (first z)
  · exact b4 (by omega)
theorem k_fmLoop (F : zFm a b t N LL) : ∀ (c : Nat) (l m f n some : Int) (a' b' : qM), l + c = LL → 0 ≤ l → zFq a b a' b' LL l m f n some → (∀ a'' b'' m', zOt a b a'' b'' m' → (∀ Kf : Int → qM → Prop, L_m_format_151 X had m' 0 (q_up b'' 113 0 m') Kf → L_m_format_21 X had n some l b' Kf) → K a'') → L_T_writeFormatted_11 X f l a' K := by
  have LLr := F.ln.2.1
  have n1 := F.n1
  have sz := F.sz
  intro c
  induction c with
  | zero =>
    intro l m f n some a' b' hl l0 Q h
    have e10 : a' 10 1 = LL := by rw [Q.O.fa 10 (by decide) (by decide)]; exact sz.2.1
    have nm : n = m := by
      rcases Q.hs with ⟨m0, n0, _, _⟩ | ⟨_, _, _, _, z | z⟩
      · omega
      · obtain ⟨_, ⟨k, k1, k2, _⟩, _⟩ := z; omega
      · exact z.2
    refine sg_T_writeFormatted_11 (sg_Lines_many q_lines_7 (k_Row_size q_row_10 (z_t (by omega) (h a' b' m Q.O (fun Kf hk => ?_)))))
    refine sg_m_format_21 (z_t (by rw [Q.O.fb 113 (by decide), F.bt.2.2]; omega) (fun s1 e1 => ?_))
    rw [e1, nm]; exact hk
  | succ c ih =>
    intro l m f n some a' b' hl l0 Q h
    have lL : l < LL := by omega
    have o := F.ow l l0 lL
    obtain ⟨g1, g2, g3, g4⟩ := F.li l0 lL
    have fa : ∀ r, r < 88 → a' r = a r := fun r hr => Q.O.fa r (by omega) (by omega)
    have next : ∀ (e : Int), e = (if b 128 l = 0 then zTrim t (a 9 l) (a 11 l) else a 11 l) → ∀ v4 : Int, (v4 ≠ 0 ↔ b 128 l ≠ 0) → L_T_writeFormatted_89 X f l (a 9 l) v4 e a' K := by
      intro e he v4 hv
      by_cases g : zGa a b l
      · obtain ⟨ga, gb⟩ := g
        have ee : e = a 9 l := by rw [he, if_pos ga]; rw [F.bt.2.1] at gb; exact gb
        have v0 : v4 = 0 := by
          by_cases z : v4 = 0
          · exact z
          · exact absurd ga (hv.mp z)
        obtain ⟨b2, n2, some2, Q2, W2⟩ := Q.gap (X := X) (had := had) F l0 lL ⟨ga, gb⟩
        exact sg_T_writeFormatted_89 (z_f (fun z => z ee) (z_f (fun z => z v0) ⟨by omega, ih (l + 1) m 1 n2 some2 a' b2 (by omega) (by omega) Q2 (fun a'' b'' m' O' W' => h a'' b'' m' O' (fun Kf hk => W2 Kf (W' Kf hk)))⟩))
      · have wr : c_T_writeLine X (a 9 l) e f a' (fun s1 => (-2147483648 ≤ (l + 1) ∧ (l + 1) < 2147483648) ∧ L_T_writeFormatted_11 X 0 (l + 1) s1 K) :=
          Q.line (X := X) (had := had) F l0 lL g he (fun a2 b2 m2 Q2 W2 => ⟨by omega, ih (l + 1) m2 0 m2 1 a2 b2 (by omega) (by omega) Q2 (fun a'' b'' m' O' W' => h a'' b'' m' O' (fun Kf hk => W2 Kf (W' Kf hk)))⟩)
        refine sg_T_writeFormatted_89 (z_c (fun _ => wr) (fun z => z_c (fun _ => wr) (fun v0 => ?_)))
        have z := Decidable.not_not.mp z
        have v0 := Decidable.not_not.mp v0
        have b0 : b 128 l = 0 := by
          by_cases y : b 128 l = 0
          · exact y
          · exact absurd v0 (hv.mpr y)
        rw [if_pos b0] at he
        exact absurd ⟨b0, by rw [F.bt.2.1, ← he]; exact z⟩ g
    refine sg_T_writeFormatted_11 (sg_Lines_many q_lines_7 (k_Row_size q_row_10 (z_f (by rw [fa 10 (by decide)]; omega) (sg_Lines_begin q_lines_7 (k_Row_at q_row_8 (by rw [fa 8 (by decide)]; omega) ?_)))))
    rw [zT_in l0 (by rw [fa 8 (by decide)]; omega), fa (8 + 1) (by decide), show a (8 + 1) l = a 9 l from rfl]
    refine sg_Blocks_ownerOfLine (k_Row_at q_row_31 (by rw [fa 31 (by decide)]; omega) ?_)
    rw [zT_in l0 (by rw [fa 31 (by decide)]; omega), fa (31 + 1) (by decide), show a (31 + 1) l = a 32 l from rfl]
    refine sg_Blocks_kindOf (k_Row_at q_row_13 (by rw [fa 13 (by decide)]; omega) ?_)
    rw [zT_in o.1 (by rw [fa 13 (by decide)]; exact o.2.1), fa (13 + 1) (by decide), show a (13 + 1) (a 32 l) = a 14 (a 32 l) from rfl]
    have ends : ∀ (F2 : Int → qM → Prop), F2 (a 11 l) a' → c_Lines_end X 7 l a' F2 := by
      intro F2 hF
      refine sg_Lines_end q_lines_7 (k_Row_at q_row_10 (by rw [fa 10 (by decide)]; omega) ?_)
      rw [zT_in l0 (by rw [fa 10 (by decide)]; omega), fa (10 + 1) (by decide)]; exact hF
    refine z_c (fun n5 => ends _ ?_) (fun e5 => ends _ ?_)
    · rw [if_neg n5] at o
      refine k_T_cutBlanks q_row_1 (by rw [fa 1 (by decide)]; omega) (by omega) (by omega) ?_
      have et : zTrim (zT a' 1) (a 9 l) (a 11 l) = zTrim t (a 9 l) (a 11 l) := by
        refine zD_congr g2 (fun i u w => ?_)
        unfold zIsB
        rw [zT_in (by omega) (by rw [fa 1 (by decide)]; omega), fa (1 + 1) (by decide), show a (1 + 1) i = t i from (F.ch i (by omega) (by omega)).1]
      rw [et]
      exact next _ (by rw [if_pos o.2.2.1]) 0 ⟨fun z => absurd rfl z, fun z => absurd o.2.2.1 z⟩
    · rw [if_pos (Decidable.not_not.mp e5)] at o
      exact next _ (by rw [if_neg (by omega)]) 1 ⟨fun _ => by omega, fun _ => by decide⟩
/-- the model's text is what was laid -/
theorem k_fmText (m0 : 0 ≤ m) (m2 : m ≤ 240) (h2 : -2147483648 ≤ had - m ∧ had - m < 2147483648) (h : ∀ s', (∀ r, r ≠ 114 → s' r = s r) → (∀ i, 0 ≤ i → i < m → s' 114 i = s 154 i) → KI (had - m) s') : L_m_format_151 X had m 0 s KI := by
  have L : ∀ (c : Nat) (i : Int) (s1 : qM), i + c = m → 0 ≤ i → (∀ r, r ≠ 114 → s1 r = s r) → (∀ j, 0 ≤ j → j < i → s1 114 j = s 154 j) → L_m_format_151 X had m i s1 KI := by
    intro c
    induction c with
    | zero =>
      intro i s1 hi i0 f w
      have ei : i = m := by omega
      rw [ei] at w
      exact sg_m_format_151 (z_t (by omega) ⟨h2, h s1 f w⟩)
    | succ c ih =>
      intro i s1 hi i0 f w
      refine sg_m_format_151 (z_f (by omega) ⟨i0, by omega, i0, by omega, fun s2 e2 => ⟨by omega, ?_⟩⟩)
      refine ih (i + 1) s2 (by omega) (by omega) (fun r hr => by rw [e2, q_up_ne hr]; exact f r hr) (fun j j0 ji => ?_)
      by_cases z : j = i
      · rw [z, e2, q_up_at, f 154 (by decide)]
      · rw [e2, q_up_nj z]; exact w j j0 (by omega)
  exact L m.toNat 0 s (by omega) (Int.le_refl 0) (fun _ _ => rfl) (fun j u w => by omega)
theorem k_writeFormatted (R : zRb a b) (h : ∀ a'' b'' m', zOt a b a'' b'' m' → (∀ Kf : Int → qM → Prop, L_m_format_151 X (b 113 0) m' 0 (q_up b'' 113 0 m') Kf → L_m_format_21 X (b 113 0) 0 0 0 b Kf) → K a'') : c_T_writeFormatted X a K := by
  obtain ⟨t, N, LL, F⟩ := R.fm
  have LL1 := F.ln.1
  refine sg_T_writeFormatted (k_Row_clear q_row_88 (fun a1 f1 g1 => ?_))
  refine k_fmLoop F LL.toNat 0 0 0 0 0 a1 b (by omega) (Int.le_refl 0) (zFq.mk (zOt.mk (fun r u _ => f1 r u) (fun _ _ => rfl) ⟨g1, Int.le_refl 0, by decide⟩ (fun i u w => by omega)) (Or.inl ⟨rfl, fun z => by omega⟩) (Or.inl ⟨rfl, rfl, rfl, fun k u w => by omega⟩)) h
theorem o_format (H : zIv X s) : O_format (zIv X) X s := by
  unfold O_format
  refine sg_T_format (k_growI H (fun a H C f => k_Row_size q_row_1 ?_))
  obtain ⟨t1, t2, t3, t4⟩ := H.tx
  obtain ⟨_, b0, R0, _, _⟩ := C a H.same
  obtain ⟨a1, W1, U1⟩ : ∃ a1, (∀ K' : qM → Prop, K' a1 → c_T_writeFormatted X a K') ∧ ∀ K' : qM → Prop, c_T_writeFormatted X a K' → K' a1 := by
    obtain ⟨a1, _, W1, U1⟩ := z_2V (k_writeFormatted (X := X) (K := fun _ => True) R0 (fun _ _ _ _ _ => trivial))
    exact ⟨a1, W1, U1⟩
  refine W1 _ ?_
  have fact := fun (b : qM) (R : zRb a b) => U1 (fun a'' => ∃ b'' m', zOt a b a'' b'' m' ∧ ∀ Kf : Int → qM → Prop, L_m_format_151 X (b 113 0) m' 0 (q_up b'' 113 0 m') Kf → L_m_format_21 X (b 113 0) 0 0 0 b Kf) (k_writeFormatted (X := X) R (fun a'' b'' m' O W => ⟨b'', m', O, W⟩))
  obtain ⟨_, m, O0, _⟩ := fact b0 R0
  obtain ⟨e88, m0, m2⟩ := O0.sz
  refine k_Row_become q_row_1 q_row_88 (by omega) (by omega) (by omega) (by decide) (by decide) (by decide) (fun a2 f2 g2 w2 a3 e3 => k_Row_size q_row_1 ?_)
  have c3 : ∀ r, r ≠ 0 → a3 r = a2 r := fun r hr => by rw [e3, q_up_ne hr]
  have e31 : a3 1 1 = m := by rw [c3 1 (by decide), g2]; exact e88
  rw [e31]
  have fr3 : ∀ r, r ≠ 0 → r ≠ 1 → r ≠ 2 → r ≠ 88 → r ≠ 89 → a3 r = a r := fun r x0 x1 x2 x3 x4 => by rw [c3 r x0, f2 r x1 x2]; exact O0.fa r x3 x4
  refine ⟨by omega, sg_m_format (fun s1 es1 => ?_)⟩
  have s1r : ∀ r, r ≠ 113 → s1 r = a3 r := fun r hr => by rw [es1, q_up_ne hr]
  have s10 : s1 113 0 = a 1 1 := by rw [es1, q_up_nj (by decide), fr3 113 (by decide) (by decide) (by decide) (by decide) (by decide)]; exact t3
  have sm : zSame a s1 := ⟨s10, fun i u w => by rw [s1r 114 (by decide), fr3 114 (by decide) (by decide) (by decide) (by decide) (by decide)]; exact (t4 i u w).1⟩
  obtain ⟨_, b1, R1, M1, V1⟩ := C s1 sm
  obtain ⟨b2, m', O2, Y2⟩ := fact b1 R1
  have em : m' = m := by have := O2.sz.1; omega
  rw [em] at O2 Y2
  have b10 : b1 113 0 = a 1 1 := by rw [M1.fj.1]; exact s10
  refine V1 _ ?_
  refine Y2 _ (k_fmText m0 m2 (by rw [b10]; omega) (fun s' fs ws => ⟨by rw [b10], ?_⟩))
  have q1 : ∀ r, r < 113 ∨ r = 115 ∨ r = 116 → s' r = a3 r := fun r hr => by
    rw [fs r (by omega), q_up_ne (by omega), O2.fb r (by omega), M1.fr r (by omega), s1r r (by omega)]
  have d : ∀ r, r < 113 ∨ r = 115 ∨ r = 116 → r ≠ 0 → r ≠ 1 → r ≠ 2 → r ≠ 88 → r ≠ 89 → s' r = a r := fun r hr x0 x1 x2 x3 x4 => by rw [q1 r hr]; exact fr3 r x0 x1 x2 x3 x4
  refine zIv.mk ?_ (H.k0.fr (d 3 (by omega) (by decide) (by decide) (by decide) (by decide) (by decide)) (d 4 (by omega) (by decide) (by decide) (by decide) (by decide) (by decide)) (d 115 (by omega) (by decide) (by decide) (by decide) (by decide) (by decide)) (d 116 (by omega) (by decide) (by decide) (by decide) (by decide) (by decide))) (H.k1.fr (d 5 (by omega) (by decide) (by decide) (by decide) (by decide) (by decide)) (d 6 (by omega) (by decide) (by decide) (by decide) (by decide) (by decide)) (d 115 (by omega) (by decide) (by decide) (by decide) (by decide) (by decide)) (d 116 (by omega) (by decide) (by decide) (by decide) (by decide) (by decide))) ?_ (fun z => ?_)
  · have a31 : s' 1 1 = m := by rw [q1 1 (by omega)]; exact e31
    unfold zTx
    rw [a31]
    refine ⟨m0, m2, ?_, fun i u w => ?_⟩
    · rw [fs 113 (by decide), q_up_at]
    · have w2' := w2 i u (by omega)
      have o := O2.w i u w
      rw [ws i u w, q_up_ne (by decide), q1 2 (by omega), c3 2 (by decide), show a2 2 i = a2 (1 + 1) i from rfl, w2', show a1 (88 + 1) i = a1 89 i from rfl]
      exact o
  · rw [d 54 (by omega) (by decide) (by decide) (by decide) (by decide) (by decide), d 56 (by omega) (by decide) (by decide) (by decide) (by decide) (by decide), d 58 (by omega) (by decide) (by decide) (by decide) (by decide) (by decide), d 60 (by omega) (by decide) (by decide) (by decide) (by decide) (by decide), d 62 (by omega) (by decide) (by decide) (by decide) (by decide) (by decide)]; exact H.r0
  · rw [q1 0 (by omega), e3, q_up_at] at z; exact absurd z (by decide)
end FmLoop
