/-! The formatter. -/
/-- the first m numbers of the class's row and of the model's are the same -/
def zOt (a b a' b' : qM) (m : Int) : Prop := (∀ r, r ≠ 88 → r ≠ 89 → a' r = a r) ∧ (∀ r, r ≠ 154 → b' r = b r) ∧ (a' 88 1 = m ∧ 0 ≤ m ∧ m ≤ 240) ∧ (∀ i, 0 ≤ i → i < m → b' 154 i = a' 89 i ∧ zChr (a' 89 i))
theorem zOt.mk {a b a' b' : qM} {m : Int} (fa : ∀ r, r ≠ 88 → r ≠ 89 → a' r = a r) (fb : ∀ r, r ≠ 154 → b' r = b r) (sz : a' 88 1 = m ∧ 0 ≤ m ∧ m ≤ 240) (w : ∀ i, 0 ≤ i → i < m → b' 154 i = a' 89 i ∧ zChr (a' 89 i)) : zOt a b a' b' m := ⟨fa, fb, sz, w⟩
theorem zOt.fa {a b a' b' : qM} {m : Int} (h : zOt a b a' b' m) : ∀ r, r ≠ 88 → r ≠ 89 → a' r = a r := h.1
theorem zOt.fb {a b a' b' : qM} {m : Int} (h : zOt a b a' b' m) : ∀ r, r ≠ 154 → b' r = b r := h.2.1
theorem zOt.sz {a b a' b' : qM} {m : Int} (h : zOt a b a' b' m) : a' 88 1 = m ∧ 0 ≤ m ∧ m ≤ 240 := h.2.2.1
theorem zOt.w {a b a' b' : qM} {m : Int} (h : zOt a b a' b' m) : ∀ i, 0 ≤ i → i < m → b' 154 i = a' 89 i ∧ zChr (a' 89 i) := h.2.2.2
section Format
variable {X : Nat × (Nat → Int32)} {a b a' b' s : qM} {K : qM → Prop} {KI : Int → qM → Prop} {N LL l m x had some : Int} {t : Int → Int}
theorem zOt.add (O : zOt a b a' b' m) (m2 : m < 240) (hx : zChr x) (h : ∀ a'', zOt a b a'' (q_up b' 154 m x) (m + 1) → K a'') : c_Row_add X 88 x a' K := by
  obtain ⟨m1, m0, _⟩ := O.sz
  refine k_Row_add q_row_88 (by omega) (by omega) ?_
  rw [m1]
  refine h _ (zOt.mk (fun r u w => by rw [q_up_ne u, q_up_ne w]; exact O.fa r u w) (fun r u => by rw [q_up_ne u]; exact O.fb r u) ⟨q_up_at, by omega, by omega⟩ (fun i i0 im => ?_))
  rw [q_up_ne (show (89 : Nat) ≠ 88 by decide)]
  by_cases e : i = m
  · rw [e, q_up_at, q_up_at]; exact ⟨rfl, hx⟩
  · rw [q_up_nj e, q_up_nj e]; exact O.w i i0 (by omega)
/-- the characters of a line -/
theorem k_fmChars (F : zFm a b t N LL) (l0 : 0 ≤ l) (lL : l < LL) {e : Int} (eN : e ≤ N) (s1 : some = 1) : ∀ (c : Nat) (p m : Int) (a' b' : qM) (K : qM → Prop), p + c = e → 0 ≤ p → zOt a b a' b' m → m + c ≤ 240 → (∀ a'' b'', zOt a b a'' b'' (m + c) → (∀ Kf : Int → qM → Prop, L_m_format_21 X had (m + c) 1 (l + 1) b'' Kf → L_m_format_108 X had m some l e p b' Kf) → K a'') → L_T_writeLine_35 X e p a' K := by
  intro c
  induction c with
  | zero =>
    intro p m a' b' K hp p0 O hm h
    have LLr := F.ln.2.1
    have n1 := F.n1
    refine sg_T_writeLine_35 (z_t (by omega) (h a' b' (by rw [show m + ((0 : Nat) : Int) = m by omega]; exact O) (fun Kf hk => sg_m_format_108 (z_t (by omega) ⟨by omega, ?_⟩))))
    rw [s1]
    rw [show m + ((0 : Nat) : Int) = m by omega] at hk
    exact hk
  | succ c ih =>
    intro p m a' b' K hp p0 O hm h
    have n1 := F.n1
    have om := O.sz
    have ch := F.ch p p0 (by omega)
    have e1 : a' 1 = a 1 := O.fa 1 (by decide) (by decide)
    have e114 : b' 114 p = t p := by rw [O.fb 114 (by decide), F.bt.2.1]
    refine sg_T_writeLine_35 (z_f (by omega) (k_Row_at q_row_1 (by rw [e1]; omega) ?_))
    rw [zT_in p0 (by rw [e1]; omega), O.fa (1 + 1) (by decide) (by decide), show a (1 + 1) p = t p from ch.1]
    refine O.add (by omega) ch.2 (fun a2 O2 => ⟨by omega, ?_⟩)
    refine ih (p + 1) (m + 1) a2 _ K (by omega) (by omega) O2 (by omega) (fun a'' b'' O' W => ?_)
    rw [show m + 1 + (c : Int) = m + ((c + 1 : Nat) : Int) by omega] at O' W
    refine h a'' b'' O' (fun Kf hk => sg_m_format_108 (z_f (by omega) ⟨p0, by omega, by omega, by omega, fun s1 es => ⟨by omega, by omega, ?_⟩⟩))
    rw [es, e114]; exact W Kf hk
/-- one line that is no gap -/
theorem k_fmLine {f e : Int} (F : zFm a b t N LL) (l0 : 0 ≤ l) (lL : l < LL) (he : e = if b 128 l = 0 then zTrim t (a 9 l) (a 11 l) else a 11 l) (ng : ¬ zGa a b l) (O : zOt a b a' b' m) {n : Int} (hs : (m = 0 ∧ n = 0 ∧ some = 0) ∨ (0 < m ∧ some = 1 ∧ (f = 0 → n = m) ∧ (f ≠ 0 → n = m + 1 ∧ b' 154 m = 10))) (bd : 0 < m → m + 1 + (if f = 0 then 0 else 1) ≤ a 9 l)
    (h : ∀ a'' b'' m', zOt a b a'' b'' m' → m' ≤ e → (e ≤ a 9 l → m' = 0 ∨ 0 < m) → (a 9 l < e → 0 < m') → (0 < m → 0 < m') → (∀ Kf : Int → qM → Prop, L_m_format_21 X had m' 1 (l + 1) b'' Kf → L_m_format_21 X had n some l b' Kf) → K a'') : c_T_writeLine X (a 9 l) e f a' K := by
  obtain ⟨g1, g2, g3, g4⟩ := F.li l0 lL
  have n1 := F.n1
  have LLr := F.ln.2.1
  have bt := F.bt
  have o := F.ow l l0 lL
  have om := O.sz
  obtain ⟨d1, d2, _, _⟩ := zD_is (p := zIsB t) g2
  have er : a 9 l ≤ e ∧ e ≤ a 11 l := by
    rw [he]
    by_cases z : b 128 l = 0
    · rw [if_pos z]; exact ⟨d1, d2⟩
    · rw [if_neg z]; omega
  -- the model up to the characters
  have mod : ∀ (Kf : Int → qM → Prop), ((some = 0) → L_m_format_108 X had n 1 l e (a 9 l) b' Kf) → (¬ (some = 0) → (0 : Int) ≤ n ∧ n < 800 ∧ L_m_format_108 X had (n + 1) 1 l e (a 9 l) (q_up b' 154 n 10) Kf) → L_m_format_21 X had n some l b' Kf := by
    intro Kf k0 k1
    have i128 : b' 128 = b 128 := O.fb 128 (by decide)
    have i127 : b' 127 = b 127 := O.fb 127 (by decide)
    have i113 : b' 113 = b 113 := O.fb 113 (by decide)
    have i114 : b' 114 = b 114 := O.fb 114 (by decide)
    refine sg_m_format_21 (z_f (by rw [i113]; omega) (k_m_stays F O.fb l0 lL (fun _ => z_f (by decide) ⟨l0, by omega, ?_⟩) (fun z => absurd (Or.inl ng) z)))
    rw [i127, o.2.2.2]
    refine k_m_endOf g1 (by rw [i113]; omega) (by rw [i113]; omega) ?_
    rw [i113, i114, bt.1, bt.2.1, ← g4, i128]
    refine ⟨l0, by omega, z_c (fun z => ⟨l0, by omega, ?_⟩) (fun z => ?_)⟩
    · rw [i127, o.2.2.2]
      refine k_m_trimmed g1 g2 (by omega) ?_
      rw [i114, bt.2.1, show zTrim t (a 9 l) (a 11 l) = e by rw [he, if_pos z], i127, o.2.2.2]
      refine z_c (fun s0 => ⟨l0, by omega, k0 s0⟩) (fun s0 => ?_)
      obtain ⟨r1, r2, r3⟩ := k1 s0
      refine ⟨r1, r2, fun s8 e8 => ⟨by omega, l0, by omega, ?_⟩⟩
      rw [show s8 127 = b 127 by rw [e8, q_up_ne (by decide)]; exact i127, o.2.2.2, e8]
      exact r3
    · rw [show a 11 l = e by rw [he, if_neg z], i127, o.2.2.2]
      refine z_c (fun s0 => ⟨l0, by omega, k0 s0⟩) (fun s0 => ?_)
      obtain ⟨r1, r2, r3⟩ := k1 s0
      refine ⟨r1, r2, fun s9 e9 => ⟨by omega, l0, by omega, ?_⟩⟩
      rw [show s9 127 = b 127 by rw [e9, q_up_ne (by decide)]; exact i127, o.2.2.2, e9]
      exact r3
  refine sg_T_writeLine (k_Row_size q_row_88 ?_)
  rw [om.1]
  rcases hs with ⟨m0, n0, s0⟩ | ⟨mp, s1, hf0, hf1⟩
  · refine z_t (by omega) (k_fmChars F l0 lL (e := e) (had := had) (some := 1) (by omega) rfl (e - a 9 l).toNat (a 9 l) m a' b' K (by omega) g1 O (by omega) (fun a2 b2 O2 W2 => ?_))
    refine h a2 b2 _ O2 (by omega) (fun z => Or.inl (by omega)) (fun z => by omega) (fun z => by omega) (fun Kf hk => mod Kf (fun _ => ?_) (fun z => absurd s0 z))
    rw [n0, ← m0]; exact W2 Kf hk
  · have bd := bd mp
    refine z_f (by omega) (O.add (by omega) (Or.inl rfl) (fun a1 O1 => z_c (fun f0 => ?_) (fun f1 => ?_)))
    · rw [if_pos f0] at bd
      refine k_fmChars F l0 lL (e := e) (had := had) (some := 1) (by omega) rfl (e - a 9 l).toNat (a 9 l) (m + 1) a1 _ K (by omega) g1 O1 (by omega) (fun a2 b2 O2 W2 => ?_)
      refine h a2 b2 _ O2 (by omega) (fun z => Or.inr mp) (fun z => by omega) (fun z => by omega) (fun Kf hk => mod Kf (fun z => by omega) (fun _ => ⟨by have := hf0 f0; omega, by have := hf0 f0; omega, ?_⟩))
      rw [hf0 f0]; exact W2 Kf hk
    · rw [if_neg f1] at bd
      have w1 := hf1 f1
      refine O1.add (by omega) (Or.inl rfl) (fun a2 O2 => ?_)
      have eq : q_up (q_up b' 154 m 10) 154 (m + 1) 10 = q_up b' 154 (m + 1) 10 := by
        have : q_up b' 154 m 10 = b' := by
          funext r i
          by_cases er : r = 154
          · rw [er]
            by_cases ei : i = m
            · rw [ei, q_up_at, w1.2]
            · rw [q_up_nj ei]
          · rw [q_up_ne er]
        rw [this]
      rw [eq] at O2
      refine k_fmChars F l0 lL (e := e) (had := had) (some := 1) (by omega) rfl (e - a 9 l).toNat (a 9 l) (m + 1 + 1) a2 _ K (by omega) g1 O2 (by omega) (fun a3 b3 O3 W3 => ?_)
      refine h a3 b3 _ O3 (by omega) (fun z => Or.inr mp) (fun z => by omega) (fun z => by omega) (fun Kf hk => mod Kf (fun z => by omega) (fun _ => ⟨by omega, by omega, ?_⟩))
      rw [w1.1]; exact W3 Kf hk
/-- a gap, in the model -/
theorem k_fmGap {n : Int} (F : zFm a b t N LL) (l0 : 0 ≤ l) (lL : l < LL) (g : zGa a b l) (O : zOt a b a' b' m) (n8 : 0 ≤ n ∧ n < 700) {Kf : Int → qM → Prop} (stay : zSt2 a b LL l → some = 1 ∧ L_m_format_21 X had (n + 1) 1 (l + 1) (q_up b' 154 n 10) Kf) (go : ¬ zSt2 a b LL l → L_m_format_21 X had n some (l + 1) b' Kf) : L_m_format_21 X had n some l b' Kf := by
  obtain ⟨g1, g2, g3, g4⟩ := F.li l0 lL
  have n1 := F.n1
  have LLr := F.ln.2.1
  have bt := F.bt
  have o := F.ow l l0 lL
  have i128 : b' 128 = b 128 := O.fb 128 (by decide)
  have i127 : b' 127 = b 127 := O.fb 127 (by decide)
  have i113 : b' 113 = b 113 := O.fb 113 (by decide)
  have i114 : b' 114 = b 114 := O.fb 114 (by decide)
  obtain ⟨ga, gb⟩ := g
  rw [bt.2.1] at gb
  refine sg_m_format_21 (z_f (by rw [i113]; omega) (k_m_stays F O.fb l0 lL (fun st => z_f (by decide) ⟨l0, by omega, ?_⟩) (fun z => z_t rfl ⟨by omega, go z⟩)))
  obtain ⟨s1, hk⟩ := stay st
  rw [i127, o.2.2.2]
  refine k_m_endOf g1 (by rw [i113]; omega) (by rw [i113]; omega) ?_
  rw [i113, i114, bt.1, bt.2.1, ← g4, i128]
  refine ⟨l0, by omega, z_t ga ⟨l0, by omega, ?_⟩⟩
  rw [i127, o.2.2.2]
  refine k_m_trimmed g1 g2 (by omega) ?_
  rw [i114, bt.2.1, gb]
  refine z_f (by omega) ⟨by omega, by omega, fun s8 e8 => ⟨by omega, l0, by omega, ?_⟩⟩
  rw [show s8 127 = b 127 by rw [e8, q_up_ne (by decide)]; exact i127, o.2.2.2, e8]
  exact sg_m_format_108 (z_t (Int.le_refl _) ⟨by omega, hk⟩)
end Format
