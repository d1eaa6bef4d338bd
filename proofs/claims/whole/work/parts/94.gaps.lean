/-! The formatter: which lines stay. -/
/-- what the formatter reads: the lines, which are fenced -/
def zFm (a b : qM) (t : Int → Int) (N LL : Int) : Prop := (a 1 1 = N ∧ 0 ≤ N ∧ N ≤ 240) ∧ (∀ i, 0 ≤ i → i < N → a 2 i = t i ∧ zChr (t i)) ∧ (b 113 0 = N ∧ b 114 = t ∧ b 113 17 = LL) ∧ (a 8 1 = LL ∧ a 10 1 = LL ∧ a 31 1 = LL ∧ 0 ≤ a 13 1 ∧ a 13 1 ≤ 482) ∧ (zLn t N LL (a 9) (a 11)) ∧ (∀ l, 0 ≤ l → l < LL → 0 ≤ a 32 l ∧ a 32 l < a 13 1 ∧ b 128 l = (if a 14 (a 32 l) = 5 then 1 else 0) ∧ b 127 l = a 9 l) ∧ (∀ l, 0 ≤ l → l < LL → b 128 l ≠ 0 → ∃ l', 0 ≤ l' ∧ l' ≤ l ∧ b 128 l' ≠ 0 ∧ a 9 l' < a 11 l')
theorem zFm.mk {a b : qM} {t : Int → Int} {N LL : Int} (n1 : a 1 1 = N ∧ 0 ≤ N ∧ N ≤ 240) (ch : ∀ i, 0 ≤ i → i < N → a 2 i = t i ∧ zChr (t i)) (bt : b 113 0 = N ∧ b 114 = t ∧ b 113 17 = LL) (sz : a 8 1 = LL ∧ a 10 1 = LL ∧ a 31 1 = LL ∧ 0 ≤ a 13 1 ∧ a 13 1 ≤ 482) (ln : zLn t N LL (a 9) (a 11)) (ow : ∀ l, 0 ≤ l → l < LL → 0 ≤ a 32 l ∧ a 32 l < a 13 1 ∧ b 128 l = (if a 14 (a 32 l) = 5 then 1 else 0) ∧ b 127 l = a 9 l) (fz : ∀ l, 0 ≤ l → l < LL → b 128 l ≠ 0 → ∃ l', 0 ≤ l' ∧ l' ≤ l ∧ b 128 l' ≠ 0 ∧ a 9 l' < a 11 l') : zFm a b t N LL := ⟨n1, ch, bt, sz, ln, ow, fz⟩
theorem zFm.n1 {a b : qM} {t : Int → Int} {N LL : Int} (h : zFm a b t N LL) : a 1 1 = N ∧ 0 ≤ N ∧ N ≤ 240 := h.1
theorem zFm.ch {a b : qM} {t : Int → Int} {N LL : Int} (h : zFm a b t N LL) : ∀ i, 0 ≤ i → i < N → a 2 i = t i ∧ zChr (t i) := h.2.1
theorem zFm.bt {a b : qM} {t : Int → Int} {N LL : Int} (h : zFm a b t N LL) : b 113 0 = N ∧ b 114 = t ∧ b 113 17 = LL := h.2.2.1
theorem zFm.sz {a b : qM} {t : Int → Int} {N LL : Int} (h : zFm a b t N LL) : a 8 1 = LL ∧ a 10 1 = LL ∧ a 31 1 = LL ∧ 0 ≤ a 13 1 ∧ a 13 1 ≤ 482 := h.2.2.2.1
theorem zFm.ln {a b : qM} {t : Int → Int} {N LL : Int} (h : zFm a b t N LL) : zLn t N LL (a 9) (a 11) := h.2.2.2.2.1
theorem zFm.ow {a b : qM} {t : Int → Int} {N LL : Int} (h : zFm a b t N LL) : ∀ l, 0 ≤ l → l < LL → 0 ≤ a 32 l ∧ a 32 l < a 13 1 ∧ b 128 l = (if a 14 (a 32 l) = 5 then 1 else 0) ∧ b 127 l = a 9 l := h.2.2.2.2.2.1
theorem zFm.fz {a b : qM} {t : Int → Int} {N LL : Int} (h : zFm a b t N LL) : ∀ l, 0 ≤ l → l < LL → b 128 l ≠ 0 → ∃ l', 0 ≤ l' ∧ l' ≤ l ∧ b 128 l' ≠ 0 ∧ a 9 l' < a 11 l' := h.2.2.2.2.2.2
/-- line l is a gap -/
def zGa (a b : qM) (l : Int) : Prop := b 128 l = 0 ∧ zTrim (b 114) (a 9 l) (a 11 l) = a 9 l
/-- line l stays -/
def zSt2 (a b : qM) (LL l : Int) : Prop := ¬ zGa a b l ∨ (0 < l ∧ (∃ k, l < k ∧ k < LL ∧ ¬ zGa a b k) ∧ ¬ zGa a b (l - 1))
section Gaps
variable {X : Nat × (Nat → Int32)} {a b b' : qM} {K : qM → Prop} {KI : Int → qM → Prop} {N LL l : Int} {t : Int → Int}
theorem zRb.fm (R : zRb a b) : ∃ t N LL, zFm a b t N LL := by
  obtain ⟨a0, t, N, LL, n, G, fa, f1, f2, g8, g10, ln⟩ := R
  have un := G.ln.uniq ln (fun _ _ _ => rfl)
  have c := G.cap
  have b13 := G.B.rows.1
  have e13 : a 13 = a0 13 := fa 13 (by decide) (by decide)
  have e32 : a 32 = a0 32 := fa 32 (by decide) (by decide)
  have e14 : a 14 = a0 14 := fa 14 (by decide) (by decide)
  refine ⟨t, N, LL, zFm.mk (by rw [f1]; exact G.n1) (by rw [f2]; exact G.ch) ⟨G.bt.1, G.bt.2, G.l17⟩ ⟨g8, g10, by rw [fa 31 (by decide) (by decide)]; exact G.sz.2.2.2.1, by rw [e13]; omega, by rw [e13]; omega⟩ ln (fun l l0 lL => ?_) (fun l l0 lL h => ?_)⟩
  · have o := G.S.ow l l0 lL
    have kd := (G.B.kd _ o.1 o.2.1).1
    rw [e32, e13, e14, kd, (un.2 l l0 lL).1]
    exact ⟨o.1, by omega, o.2.2.1, o.2.2.2⟩
  · have o := G.S.ow l l0 lL
    have k5 : b 117 (a0 32 l) = 5 := by
      by_cases z : b 117 (a0 32 l) = 5
      · exact z
      · rw [o.2.2.1, if_neg z] at h; exact absurd rfl h
    obtain ⟨l', q1, q2, q3, q4⟩ := G.fz.1 l l0 lL k5
    have o' := G.S.ow l' q1 (by omega)
    have u := un.2 l' q1 (by omega)
    exact ⟨l', q1, q2, by rw [o'.2.2.1, if_pos q3]; decide, by rw [u.1, u.2]; exact q4⟩
/-- where the lines lie -/
theorem zFm.li (F : zFm a b t N LL) (l0 : 0 ≤ l) (lL : l < LL) : 0 ≤ a 9 l ∧ a 9 l ≤ a 11 l ∧ a 11 l ≤ N ∧ a 11 l = zEnd t (a 9 l) N := by
  have h := F.ln.2.2.2.1 l l0 lL
  have e := zEnd_is (t := t) h.2.1
  rw [← h.2.2] at e
  exact ⟨h.1, e.1, e.2.1, h.2.2⟩
theorem zTr_bl {A E : Int} (h : A ≤ E) : zSkip t A E = E ↔ zTrim t A E = A := by
  have s := zSkip_is (t := t) h
  obtain ⟨d1, d2, d3, d4⟩ := zD_is (p := zIsB t) h
  refine ⟨fun e => ?_, fun e => ?_⟩
  · rcases d4 with z | z
    · exact z
    · by_cases y : zTrim t A E = A
      · exact y
      · have y2 : A < zD (zIsB t) A E := by
          have : zD (zIsB t) A E ≠ A := y
          omega
        have q := s.2.2.1 (zD (zIsB t) A E - 1) (by omega) (by omega)
        exact absurd q (of_decide_eq_false (p := t (zD (zIsB t) A E - 1) = 32) z)
  · rcases s.2.2.2 with z | z
    · exact z
    · by_cases y : zSkip t A E = E
      · exact y
      · have q := d3 (zSkip t A E) (by have : zD (zIsB t) A E = A := e; omega) (by omega)
        exact absurd (of_decide_eq_true (p := t (zSkip t A E) = 32) q) z
theorem k_m_isGap (F : zFm a b t N LL) (fr : ∀ r, r ≠ 154 → b' r = b r) (l0 : 0 ≤ l) (lL : l < LL) (h1 : zGa a b l → KI 1 b') (h0 : ¬ zGa a b l → KI 0 b') : c_m_isGap X l b' KI := by
  have LLr := F.ln.2.1
  have n1 := F.n1
  obtain ⟨e1, e2, e3, e4⟩ := F.li l0 lL
  have o := F.ow l l0 lL
  have bt := F.bt
  refine sg_m_isGap ⟨l0, by omega, ?_⟩
  rw [fr 128 (by decide), fr 127 (by decide), o.2.2.2]
  refine z_c (fun ne => h0 (fun g => ne g.1)) (fun eq => ⟨l0, by omega, l0, by omega, ?_⟩)
  have eq := Decidable.not_not.mp eq
  refine k_m_endOf e1 ?_ ?_ ?_
  · rw [fr 113 (by decide)]; omega
  · rw [fr 113 (by decide)]; omega
  · rw [fr 113 (by decide), fr 114 (by decide), bt.1, bt.2.1, ← e4]
    refine k_m_isBlank e1 e2 (by omega) (fun y => ?_) (fun y => ?_)
    · rw [fr 114 (by decide), bt.2.1] at y
      exact z_f (by decide) (h1 ⟨eq, by rw [bt.2.1]; exact (zTr_bl e2).mp y⟩)
    · rw [fr 114 (by decide), bt.2.1] at y
      exact z_t rfl (h0 (fun g => y (by have := g.2; rw [bt.2.1] at this; exact (zTr_bl e2).mpr this)))
theorem k_m_stays (F : zFm a b t N LL) (fr : ∀ r, r ≠ 154 → b' r = b r) (l0 : 0 ≤ l) (lL : l < LL) (h1 : zSt2 a b LL l → KI 1 b') (h0 : ¬ zSt2 a b LL l → KI 0 b') : c_m_stays X l b' KI := by
  have LLr := F.ln.2.1
  have n1 := F.n1
  have e17 : b' 113 17 = LL := by rw [fr 113 (by decide)]; exact F.bt.2.2
  refine sg_m_stays (k_m_isGap F fr l0 lL (fun g => z_t (by decide) ⟨by omega, ?_⟩) (fun g => z_f (fun z => z rfl) (h1 (Or.inl g))))
  have Lp : ∀ (c : Nat) (k w : Int), k + c = LL → l < k → ((w = 0 ∧ ∀ j, l < j → j < k → zGa a b j) ∨ (w = 1 ∧ ∃ j, l < j ∧ j < k ∧ ¬ zGa a b j)) → L_m_stays_16 X l w k b' KI := by
    intro c
    induction c with
    | zero =>
      intro k w hk lk hw
      refine sg_m_stays_16 (z_t (by omega) (z_c (fun z => h0 (fun s => ?_)) (fun z => z_c (fun w0 => h0 (fun s => ?_)) (fun w0 => ⟨by omega, k_m_isGap F fr (by omega) (by omega) (fun g2 => z_t (by decide) (h0 (fun s => ?_))) (fun g2 => z_f (fun y => y rfl) (h1 (Or.inr ⟨by omega, ?_, g2⟩)))⟩))))
      · rcases s with s | s
        · exact s g
        · have := s.1; omega
      · rcases s with s | ⟨s1, ⟨j, j1, j2, j3⟩, s3⟩
        · exact s g
        · rcases hw with hw | hw
          · exact j3 (hw.2 j j1 (by omega))
          · have := hw.1; omega
      · rcases s with s | s
        · exact s g
        · exact s.2.2 g2
      · rcases hw with hw | ⟨_, j, j1, j2, j3⟩
        · exact absurd hw.1 w0
        · exact ⟨j, j1, by omega, j3⟩
    | succ c ih =>
      intro k w hk lk hw
      refine sg_m_stays_16 (z_f (by omega) (z_c (fun w1 => ⟨by omega, ?_⟩) (fun w0 => k_m_isGap F fr (by omega) (by omega) (fun g2 => z_t (by decide) ⟨by omega, ?_⟩) (fun g2 => z_f (fun y => y rfl) ⟨by omega, ?_⟩))))
      · refine ih (k + 1) 1 (by omega) (by omega) (Or.inr ⟨rfl, ?_⟩)
        rcases hw with hw | ⟨_, j, j1, j2, j3⟩
        · exact absurd hw.1 w1
        · exact ⟨j, j1, by omega, j3⟩
      · have w0 := Decidable.not_not.mp w0
        refine ih (k + 1) 0 (by omega) (by omega) (Or.inl ⟨rfl, fun j j1 j2 => ?_⟩)
        rcases hw with hw | hw
        · by_cases e : j = k
          · rw [e]; exact g2
          · exact hw.2 j j1 (by omega)
        · have := hw.1; omega
      · exact ih (k + 1) 1 (by omega) (by omega) (Or.inr ⟨rfl, k, lk, by omega, g2⟩)
  exact Lp (LL - (l + 1)).toNat (l + 1) 0 (by omega) (by omega) (Or.inl ⟨rfl, fun j u w => by omega⟩)
end Gaps
