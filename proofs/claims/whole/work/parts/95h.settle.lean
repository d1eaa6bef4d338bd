/-! Merges: what lies between two firm lines. -/
/-- what settle leaves -/
def zMz (a a' b b' : qM) (r : Int) : Prop := (∀ q, q ≠ 90 → q ≠ 111 → q ≠ 112 → a' q = a q) ∧ (∀ j, j ≠ 7 → j ≠ 8 → j ≠ 9 → a' 90 j = a 90 j) ∧ (a' 90 9 = a 90 9 + r) ∧ (∀ q, q ≠ 113 → q ≠ 154 → b' q = b q) ∧ (∀ j, j ≠ 63 → j ≠ 64 → b' 113 j = b 113 j)
theorem zMz.mk {a a' b b' : qM} {r : Int} (fa : ∀ q, q ≠ 90 → q ≠ 111 → q ≠ 112 → a' q = a q) (fc : ∀ j, j ≠ 7 → j ≠ 8 → j ≠ 9 → a' 90 j = a 90 j) (c9 : a' 90 9 = a 90 9 + r) (fb : ∀ q, q ≠ 113 → q ≠ 154 → b' q = b q) (fj : ∀ j, j ≠ 63 → j ≠ 64 → b' 113 j = b 113 j) : zMz a a' b b' r := ⟨fa, fc, c9, fb, fj⟩
theorem zMz.fa {a a' b b' : qM} {r : Int} (h : zMz a a' b b' r) : ∀ q, q ≠ 90 → q ≠ 111 → q ≠ 112 → a' q = a q := h.1
theorem zMz.fc {a a' b b' : qM} {r : Int} (h : zMz a a' b b' r) : ∀ j, j ≠ 7 → j ≠ 8 → j ≠ 9 → a' 90 j = a 90 j := h.2.1
theorem zMz.c9 {a a' b b' : qM} {r : Int} (h : zMz a a' b b' r) : a' 90 9 = a 90 9 + r := h.2.2.1
theorem zMz.fb {a a' b b' : qM} {r : Int} (h : zMz a a' b b' r) : ∀ q, q ≠ 113 → q ≠ 154 → b' q = b q := h.2.2.2.1
theorem zMz.fj {a a' b b' : qM} {r : Int} (h : zMz a a' b b' r) : ∀ j, j ≠ 63 → j ≠ 64 → b' 113 j = b 113 j := h.2.2.2.2
section Settle
variable {X : Nat × (Nat → Int32)} {a b a0 b0 a' b' s : qM} {K : qM → Prop} {KI : Int → qM → Prop} {n m1 m2 M0 M1 M2 c g y v2 v3 v4 x1 x2 x3 : Int}
theorem zMo.rebase (O : zMo a0 b0 a b c g y) : zMo a b a b c g y := zMo.mk (fun _ _ _ _ => rfl) (fun _ _ _ => rfl) (fun _ _ _ => rfl) (fun _ _ _ => rfl) O.ct O.ln O.sz O.tx
theorem k_settle (O : zMo a b a b c g y) (hc : (c = 0 ∧ g = 0) ∨ (0 < c ∧ g = 1)) (cy : c ≤ y + 1) (A0 : zLm a b 91 3 0 M0 n) (A1 : zLm a b 7 1 1 M1 m1) (A2 : zLm a b 96 5 2 M2 m2) (s10 : a 90 10 = v2) (s11 : a 90 11 = v3) (s12 : a 90 12 = v4) (s9 : 0 ≤ a 90 9 ∧ a 90 9 ≤ 1000)
    (r2 : 0 ≤ v2 ∧ v2 ≤ x1 + 1 ∧ x1 ≤ n) (r3 : 0 ≤ v3 ∧ v3 ≤ x2 ∧ x2 ≤ m1) (r4 : 0 ≤ v4 ∧ v4 ≤ x3 ∧ x3 ≤ m2) (y3 : y + (zWl a 7 M1 m1 x2 - zWl a 7 M1 m1 v3) ≤ 800) (y4 : y + (zWl a 96 M2 m2 x3 - zWl a 96 M2 m2 v4) ≤ 800)
    (h : ∀ a' b' c' g' y' r, zMz a a' b b' r → (r = 0 ∨ r = 1) → zMo a' b' a' b' c' g' y' → ((c' = 0 ∧ g' = 0) ∨ (0 < c' ∧ g' = 1)) → c' ≤ y' + 1 → (y' ≤ y + (zWl a 7 M1 m1 x2 - zWl a 7 M1 m1 v3) ∨ y' ≤ y + (zWl a 96 M2 m2 x3 - zWl a 96 M2 m2 v4)) → (∀ KI : Int → qM → Prop, KI r b' → c_m_takesPart X v2 x1 v3 x2 v4 x3 b KI) → K a') : c_Merger_settle X x1 x2 x3 a K := by
  have b0 := A0.bd
  have b1 := A1.bd
  have b2 := A2.bd
  -- lines of the present text
  have w1 : (∀ KI : Int → qM → Prop, c_m_takesLines X 1 v3 x2 b (fun s5 => KI 0 s5) → c_m_takesPart X v2 x1 v3 x2 v4 x3 b KI) → c_Merger_write X 7 v3 x2 a K := by
    intro M
    refine sg_Merger_write q_lines_7 (k_mwLines (by omega) q_lines_7 A1 r3.2.2 (x2 - v3).toNat v3 c g y a b (by omega) r3.1 O hc cy y3 (fun a' b' c' g' y' O' hc' cy' hy' W => h a' b' c' g' y' 0 (zMz.mk O'.fa (fun j u v _ => O'.fc j u v) (by rw [O'.fc 9 (by decide) (by decide)]; omega) O'.fb O'.fj) (Or.inl rfl) O'.rebase hc' cy' (Or.inl hy') (fun KI hk => M KI (sg_m_takesLines ⟨by omega, by omega, W _ hk⟩))))
  have w2 : (∀ KI : Int → qM → Prop, c_m_takesLines X 2 v4 x3 b (fun s5 => KI 0 s5) → c_m_takesPart X v2 x1 v3 x2 v4 x3 b KI) → c_Merger_write X 96 v4 x3 a K := by
    intro M
    refine sg_Merger_write q_lines_96 (k_mwLines (by omega) q_lines_96 A2 r4.2.2 (x3 - v4).toNat v4 c g y a b (by omega) r4.1 O hc cy y4 (fun a' b' c' g' y' O' hc' cy' hy' W => h a' b' c' g' y' 0 (zMz.mk O'.fa (fun j u v _ => O'.fc j u v) (by rw [O'.fc 9 (by decide) (by decide)]; omega) O'.fb O'.fj) (Or.inl rfl) O'.rebase hc' cy' (Or.inr hy') (fun KI hk => M KI (sg_m_takesLines ⟨by omega, by omega, W _ hk⟩))))
  refine sg_Merger_settle ?_
  rw [s11, s10]
  by_cases P1 : zPs a 7 1 v3 x2 91 3 v2 x1
  · refine k_areSame q_lines_7 q_lines_91 A1 A0 r3.1 r3.2.2 (by omega) (by omega) r2.1 r2.2.2 (by omega) (by omega) (fun _ => z_f (by decide) ?_) (fun z => absurd P1 z)
    rw [s12]
    refine w2 (fun KI hk => sg_m_takesPart (k_m_isSamePart A1 A0 r3.1 r3.2.2 (by omega) (by omega) r2.1 r2.2.2 (by omega) (by omega) (fun _ => z_f (by decide) hk) (fun z => absurd P1 z)))
  · refine k_areSame q_lines_7 q_lines_91 A1 A0 r3.1 r3.2.2 (by omega) (by omega) r2.1 r2.2.2 (by omega) (by omega) (fun z => absurd z P1) (fun _ => z_t rfl ?_)
    rw [s12, s10]
    by_cases P2 : zPs a 96 5 v4 x3 91 3 v2 x1
    · refine k_areSame q_lines_96 q_lines_91 A2 A0 r4.1 r4.2.2 (by omega) (by omega) r2.1 r2.2.2 (by omega) (by omega) (fun _ => z_t (by decide) ?_) (fun z => absurd P2 z)
      rw [s11]
      refine w1 (fun KI hk => sg_m_takesPart (k_m_isSamePart A1 A0 r3.1 r3.2.2 (by omega) (by omega) r2.1 r2.2.2 (by omega) (by omega) (fun z => absurd z P1) (fun _ => z_t rfl (k_m_isSamePart A2 A0 r4.1 r4.2.2 (by omega) (by omega) r2.1 r2.2.2 (by omega) (by omega) (fun _ => z_t (by decide) hk) (fun z => absurd P2 z)))))
    · refine k_areSame q_lines_96 q_lines_91 A2 A0 r4.1 r4.2.2 (by omega) (by omega) r2.1 r2.2.2 (by omega) (by omega) (fun z => absurd z P2) (fun _ => z_f (fun z => z rfl) ?_)
      rw [s12, s11]
      by_cases P3 : zPs a 96 5 v4 x3 7 1 v3 x2
      · refine k_areSame q_lines_96 q_lines_7 A2 A1 r4.1 r4.2.2 (by omega) (by omega) r3.1 r3.2.2 (by omega) (by omega) (fun _ => z_f (by decide) ?_) (fun z => absurd P3 z)
        rw [s11]
        refine w1 (fun KI hk => sg_m_takesPart (k_m_isSamePart A1 A0 r3.1 r3.2.2 (by omega) (by omega) r2.1 r2.2.2 (by omega) (by omega) (fun z => absurd z P1) (fun _ => z_t rfl (k_m_isSamePart A2 A0 r4.1 r4.2.2 (by omega) (by omega) r2.1 r2.2.2 (by omega) (by omega) (fun z => absurd z P2) (fun _ => z_f (fun z => z rfl) (k_m_isSamePart A2 A1 r4.1 r4.2.2 (by omega) (by omega) r3.1 r3.2.2 (by omega) (by omega) (fun _ => z_f (by decide) hk) (fun z => absurd P3 z)))))))
      · refine k_areSame q_lines_96 q_lines_7 A2 A1 r4.1 r4.2.2 (by omega) (by omega) r3.1 r3.2.2 (by omega) (by omega) (fun z => absurd z P3) (fun _ => z_t rfl ⟨by omega, fun s8 e8 => ?_⟩)
        have O8 : zMo s8 b s8 b c g y := by
          refine zMo.mk (fun _ _ _ _ => rfl) (fun _ _ _ => rfl) (fun _ _ _ => rfl) (fun _ _ _ => rfl) ⟨by rw [e8, q_up_nj (by decide)]; exact O.ct.1, O.ct.2⟩ ⟨by rw [e8, q_up_nj (by decide)]; exact O.ln.1, O.ln.2⟩ (by rw [e8, q_up_ne (by decide)]; exact O.sz) (by rw [e8, q_up_ne (by decide), q_up_ne (by decide)]; exact O.tx)
        have mo1 := zWl.mono A1 (x2 - v3).toNat v3 r3.1 (by omega)
        rw [show v3 + (((x2 - v3).toNat : Nat) : Int) = x2 by omega] at mo1
        refine h s8 b c g y 1 (zMz.mk (fun q u _ _ => by rw [e8, q_up_ne u]) (fun j _ _ u => by rw [e8, q_up_nj u]) (by rw [e8, q_up_at]) (fun _ _ _ => rfl) (fun _ _ _ => rfl)) (Or.inr rfl) O8 hc cy (Or.inl (by omega)) (fun KI hk => sg_m_takesPart (k_m_isSamePart A1 A0 r3.1 r3.2.2 (by omega) (by omega) r2.1 r2.2.2 (by omega) (by omega) (fun z => absurd z P1) (fun _ => z_t rfl (k_m_isSamePart A2 A0 r4.1 r4.2.2 (by omega) (by omega) r2.1 r2.2.2 (by omega) (by omega) (fun z => absurd z P2) (fun _ => z_f (fun z => z rfl) (k_m_isSamePart A2 A1 r4.1 r4.2.2 (by omega) (by omega) r3.1 r3.2.2 (by omega) (by omega) (fun z => absurd z P3) (fun _ => z_t rfl hk)))))))
end Settle
