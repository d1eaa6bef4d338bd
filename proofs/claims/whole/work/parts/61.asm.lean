/-! A line put together. -/
/-- between the containers of a line and its leaf -/
def zMd (a b : qM) (gh : qM × qM) (t : Int → Int) (N LL n L P : Int) (d : Nat) (c : Nat → Int) (i : Nat) (R E : Int) : Prop := (zSt a b t n d c i R E) ∧ (zTxt a b gh t N LL) ∧ (zLs a b n L) ∧ (zPt a b n P (1 + 2 * R)) ∧ (zNm a b n 7 37 36) ∧ (zNm a b n 4 41 40) ∧ (7 * a 37 1 ≤ P ∧ a 41 1 ≤ L) ∧ (0 ≤ L ∧ L < LL ∧ P = a 9 L ∧ E = a 11 L ∧ 0 ≤ P ∧ P ≤ R) ∧ (b 113 17 = L) ∧ (b 124 L = -1) ∧ (∀ i, P ≤ i → i < E → 32 ≤ t i ∧ t i ≤ 126) ∧ (b 117 (c d) = 5 ∨ b 117 (c d) = 6 → zF a b (c d) + a 28 (c d) = L) ∧ (zFz a b n L)
theorem zMd.mk {a b : qM} {gh : qM × qM} {t : Int → Int} {N LL n L P : Int} {d : Nat} {c : Nat → Int} {i : Nat} {R E : Int} (S : zSt a b t n d c i R E) (T : zTxt a b gh t N LL) (Ls : zLs a b n L) (pt : zPt a b n P (1 + 2 * R)) (nd : zNm a b n 7 37 36) (nh : zNm a b n 4 41 40) (nl : 7 * a 37 1 ≤ P ∧ a 41 1 ≤ L) (ll : 0 ≤ L ∧ L < LL ∧ P = a 9 L ∧ E = a 11 L ∧ 0 ≤ P ∧ P ≤ R) (l17 : b 113 17 = L) (lb : b 124 L = -1) (hl : ∀ i, P ≤ i → i < E → 32 ≤ t i ∧ t i ≤ 126) (cur : b 117 (c d) = 5 ∨ b 117 (c d) = 6 → zF a b (c d) + a 28 (c d) = L) (fz : zFz a b n L) : zMd a b gh t N LL n L P d c i R E := ⟨S, T, Ls, pt, nd, nh, nl, ll, l17, lb, hl, cur, fz⟩
theorem zMd.S {a b : qM} {gh : qM × qM} {t : Int → Int} {N LL n L P : Int} {d : Nat} {c : Nat → Int} {i : Nat} {R E : Int} (h : zMd a b gh t N LL n L P d c i R E) : zSt a b t n d c i R E := h.1
theorem zMd.T {a b : qM} {gh : qM × qM} {t : Int → Int} {N LL n L P : Int} {d : Nat} {c : Nat → Int} {i : Nat} {R E : Int} (h : zMd a b gh t N LL n L P d c i R E) : zTxt a b gh t N LL := h.2.1
theorem zMd.Ls {a b : qM} {gh : qM × qM} {t : Int → Int} {N LL n L P : Int} {d : Nat} {c : Nat → Int} {i : Nat} {R E : Int} (h : zMd a b gh t N LL n L P d c i R E) : zLs a b n L := h.2.2.1
theorem zMd.pt {a b : qM} {gh : qM × qM} {t : Int → Int} {N LL n L P : Int} {d : Nat} {c : Nat → Int} {i : Nat} {R E : Int} (h : zMd a b gh t N LL n L P d c i R E) : zPt a b n P (1 + 2 * R) := h.2.2.2.1
theorem zMd.nd {a b : qM} {gh : qM × qM} {t : Int → Int} {N LL n L P : Int} {d : Nat} {c : Nat → Int} {i : Nat} {R E : Int} (h : zMd a b gh t N LL n L P d c i R E) : zNm a b n 7 37 36 := h.2.2.2.2.1
theorem zMd.nh {a b : qM} {gh : qM × qM} {t : Int → Int} {N LL n L P : Int} {d : Nat} {c : Nat → Int} {i : Nat} {R E : Int} (h : zMd a b gh t N LL n L P d c i R E) : zNm a b n 4 41 40 := h.2.2.2.2.2.1
theorem zMd.nl {a b : qM} {gh : qM × qM} {t : Int → Int} {N LL n L P : Int} {d : Nat} {c : Nat → Int} {i : Nat} {R E : Int} (h : zMd a b gh t N LL n L P d c i R E) : 7 * a 37 1 ≤ P ∧ a 41 1 ≤ L := h.2.2.2.2.2.2.1
theorem zMd.ll {a b : qM} {gh : qM × qM} {t : Int → Int} {N LL n L P : Int} {d : Nat} {c : Nat → Int} {i : Nat} {R E : Int} (h : zMd a b gh t N LL n L P d c i R E) : 0 ≤ L ∧ L < LL ∧ P = a 9 L ∧ E = a 11 L ∧ 0 ≤ P ∧ P ≤ R := h.2.2.2.2.2.2.2.1
theorem zMd.l17 {a b : qM} {gh : qM × qM} {t : Int → Int} {N LL n L P : Int} {d : Nat} {c : Nat → Int} {i : Nat} {R E : Int} (h : zMd a b gh t N LL n L P d c i R E) : b 113 17 = L := h.2.2.2.2.2.2.2.2.1
theorem zMd.lb {a b : qM} {gh : qM × qM} {t : Int → Int} {N LL n L P : Int} {d : Nat} {c : Nat → Int} {i : Nat} {R E : Int} (h : zMd a b gh t N LL n L P d c i R E) : b 124 L = -1 := h.2.2.2.2.2.2.2.2.2.1
theorem zMd.hl {a b : qM} {gh : qM × qM} {t : Int → Int} {N LL n L P : Int} {d : Nat} {c : Nat → Int} {i : Nat} {R E : Int} (h : zMd a b gh t N LL n L P d c i R E) : ∀ i, P ≤ i → i < E → 32 ≤ t i ∧ t i ≤ 126 := h.2.2.2.2.2.2.2.2.2.2.1
theorem zMd.cur {a b : qM} {gh : qM × qM} {t : Int → Int} {N LL n L P : Int} {d : Nat} {c : Nat → Int} {i : Nat} {R E : Int} (h : zMd a b gh t N LL n L P d c i R E) : b 117 (c d) = 5 ∨ b 117 (c d) = 6 → zF a b (c d) + a 28 (c d) = L := h.2.2.2.2.2.2.2.2.2.2.2.1
theorem zMd.fz {a b : qM} {gh : qM × qM} {t : Int → Int} {N LL n L P : Int} {d : Nat} {c : Nat → Int} {i : Nat} {R E : Int} (h : zMd a b gh t N LL n L P d c i R E) : zFz a b n L := h.2.2.2.2.2.2.2.2.2.2.2.2
/-- what a leaf leaves as it is -/
def zFl (a a' b b' : qM) (L : Int) : Prop := (∀ q, q < 13 ∨ 31 ≤ q → q < 36 ∨ 42 < q → a' q = a q) ∧ (a' 29 = a 29) ∧ (∀ l, l ≠ L → a' 30 l = a 30 l) ∧ (∀ q, q ≠ 113 → q < 117 ∨ 126 < q → q ≠ 130 → b' q = b q) ∧ (∀ j, j ≠ 4 → b' 113 j = b 113 j) ∧ (∀ q, 124 ≤ q → q ≤ 126 → ∀ l, l ≠ L → b' q l = b q l)
theorem zFl.mk {a a' b b' : qM} {L : Int} (fa : ∀ q, q < 13 ∨ 31 ≤ q → q < 36 ∨ 42 < q → a' q = a q) (f29 : a' 29 = a 29) (f30 : ∀ l, l ≠ L → a' 30 l = a 30 l) (fb : ∀ q, q ≠ 113 → q < 117 ∨ 126 < q → q ≠ 130 → b' q = b q) (f113 : ∀ j, j ≠ 4 → b' 113 j = b 113 j) (fl : ∀ q, 124 ≤ q → q ≤ 126 → ∀ l, l ≠ L → b' q l = b q l) : zFl a a' b b' L := ⟨fa, f29, f30, fb, f113, fl⟩
theorem zFl.fa {a a' b b' : qM} {L : Int} (h : zFl a a' b b' L) : ∀ q, q < 13 ∨ 31 ≤ q → q < 36 ∨ 42 < q → a' q = a q := h.1
theorem zFl.f29 {a a' b b' : qM} {L : Int} (h : zFl a a' b b' L) : a' 29 = a 29 := h.2.1
theorem zFl.f30 {a a' b b' : qM} {L : Int} (h : zFl a a' b b' L) : ∀ l, l ≠ L → a' 30 l = a 30 l := h.2.2.1
theorem zFl.fb {a a' b b' : qM} {L : Int} (h : zFl a a' b b' L) : ∀ q, q ≠ 113 → q < 117 ∨ 126 < q → q ≠ 130 → b' q = b q := h.2.2.2.1
theorem zFl.f113 {a a' b b' : qM} {L : Int} (h : zFl a a' b b' L) : ∀ j, j ≠ 4 → b' 113 j = b 113 j := h.2.2.2.2.1
theorem zFl.fl {a a' b b' : qM} {L : Int} (h : zFl a a' b b' L) : ∀ q, 124 ≤ q → q ≤ 126 → ∀ l, l ≠ L → b' q l = b q l := h.2.2.2.2.2
section Asm
variable {X : Nat × (Nat → Int32)} {a b a4 b4 a5 b5 : qM} {K : Int → qM → Prop} {gh : qM × qM} {t : Int → Int} {N LL n n4 L P R E E2 v x : Int} {d d4 i : Nat} {c c4 : Nat → Int}
theorem zFl.rf : zFl a a b b L := zFl.mk (fun _ _ _ => rfl) rfl (fun _ _ => rfl) (fun _ _ _ _ => rfl) (fun _ _ => rfl) (fun _ _ _ _ _ => rfl)
theorem zMd.geo (D : zMd a b gh t N LL n L P d c i R E) : LL ≤ 241 ∧ LL ≤ N + 1 ∧ 0 ≤ N ∧ N ≤ 240 ∧ a 1 1 = N ∧ P ≤ R ∧ R ≤ E ∧ E ≤ N ∧ 0 ≤ P ∧ (L + 1 < LL → E < N ∧ a 9 (L + 1) = E + 1) ∧ (¬ L + 1 < LL → E = N) := by
  obtain ⟨n1, n2, n3⟩ := D.T.n1
  obtain ⟨q1, q2, q3, q4, q5, q6⟩ := D.T.ln
  obtain ⟨l0, l1, l2, l3, l4, l5⟩ := D.ll
  have hE := D.S.H1.En
  have hR := D.S.H1.RE
  refine ⟨by omega, q2, n2, n3, n1, l5, hR, by omega, l4, fun z => ?_, fun z => ?_⟩
  · rw [l3]; exact q5 L l0 z
  · rw [l3]; have : LL - 1 = L := by omega
    rw [this] at q6; exact q6
theorem zLf.asm (D : zMd a b gh t N LL n L P d c i R E) (F : zFl a a4 b b4 L) (nn : n ≤ n4) (old : ∀ k, 0 ≤ k → k < n → a4 26 k = a 26 k ∧ b4 117 k = b 117 k) (v0 : 0 ≤ v) (vn : v < n4) (EA : zEa a4 a5 L v R E x) (EB : zEb b4 b5 L v P R E2 x) : zLf a a5 b b5 n n4 L := by
  refine zLf.mk nn ?_ ?_ ?_ (fun k k0 kn => ?_) (fun l l0 lL => ?_) ?_
  · rw [EA.fr 9 (by decide) (by decide) (by decide) (by decide)]; exact F.fa 9 (by omega) (by omega)
  · rw [EA.fr 11 (by decide) (by decide) (by decide) (by decide)]; exact F.fa 11 (by omega) (by omega)
  · rw [EB.fr 114 (by decide) (by decide) (by decide) (by decide)]; exact F.fb 114 (by decide) (by omega) (by decide)
  · rw [EA.fr 26 (by decide) (by decide) (by decide) (by decide), EB.fr 117 (by decide) (by decide) (by decide) (by decide)]; exact old k k0 kn
  · have ne : l ≠ L := by omega
    refine ⟨?_, ?_, ?_, ?_, ?_, ?_, ?_⟩
    · rw [EA.f30, ← F.f30 l ne]
      by_cases z : a4 14 v = 4
      · rw [if_pos z]
      · rw [if_neg z, q_u_ne ne]
    · rw [EA.f32, q_u_ne ne]; rw [F.fa 32 (by omega) (by omega)]
    · rw [EB.fr 124 (by decide) (by decide) (by decide) (by decide)]; exact F.fl 124 (by decide) (by decide) l ne
    · rw [EB.fr 125 (by decide) (by decide) (by decide) (by decide)]; exact F.fl 125 (by decide) (by decide) l ne
    · rw [EB.fr 126 (by decide) (by decide) (by decide) (by decide)]; exact F.fl 126 (by decide) (by decide) l ne
    · rw [EB.f127, q_u_ne ne, F.fb 127 (by decide) (by omega) (by decide)]
    · rw [EB.f128, q_u_ne ne, F.fb 128 (by decide) (by omega) (by decide)]
  · rw [EA.f32, q_u_at, EB.f128, q_u_at, EB.f127, q_u_at, EB.fr 117 (by decide) (by decide) (by decide) (by decide)]
    exact ⟨v0, vn, rfl, D.ll.2.2.1⟩
theorem zLi.asm (D : zMd a b gh t N LL n L P d c i R E) (F : zFl a a4 b b4 L) (nn : n ≤ n4) (B5 : zB a5 b5 n4) (C4 : zCh a4 b4 n4 d4 c4) (S5 : zLs a5 b5 n4 (L + 1)) (P5 : zPt a5 b5 n4 (E + 1) (1 + 2 * E)) (nd4 : zNm a4 b4 n4 7 37 36) (nh4 : zNm a4 b4 n4 4 41 40) (nl4 : 7 * a4 37 1 ≤ E + 1 ∧ a4 41 1 ≤ L + 1) (v0 : 0 ≤ v) (vn : v < n4) (EA : zEa a4 a5 L v R E x) (EB : zEb b4 b5 L v P R E2 x) (hE2 : E2 = if E < N then E + 1 else E) (cur : b4 117 (c4 d4) = 5 ∨ b4 117 (c4 d4) = 6 → zF a4 b4 (c4 d4) + a4 28 (c4 d4) = L + 1) (old : ∀ k, 0 ≤ k → k < n → b4 117 k = b 117 k) (hf : ∀ k, n ≤ k → k < n4 → k = v ∧ R < E) : zLi a5 b5 gh t N LL n4 (L + 1) (E + 1) E d4 c4 := by
  obtain ⟨g1, g2, g3, g4, g5, g6, g7, g8, g9, g10, g11⟩ := D.geo
  have e9 : a5 9 = a 9 := by rw [EA.fr 9 (by decide) (by decide) (by decide) (by decide)]; exact F.fa 9 (by omega) (by omega)
  have f117 : b5 117 = b4 117 := EB.fr 117 (by decide) (by decide) (by decide) (by decide)
  have ea : ∀ q, q ≠ 30 → q ≠ 32 → q ≠ 34 → q ≠ 43 → a5 q = a4 q := EA.fr
  have hL := D.ll
  refine zLi.mk ?_ ?_ B5 ?_ ?_ S5 EB.ln P5 ?_ ?_ ?_ ?_ ?_ (D.fz.asm (v := v) (fun l u w => ⟨(D.Ls.ow l u w).1, (D.Ls.ow l u w).2.1⟩) (by rw [EA.f32, F.fa 32 (by omega) (by omega)]) e9 (by rw [EA.fr 11 (by decide) (by decide) (by decide) (by decide)]; exact F.fa 11 (by omega) (by omega)) (fun k u w => by rw [f117]; exact old k u w) hL.1 v0 (fun k u w => by have := hf k u w; omega) vn)
  · refine D.T.fr (fun q hq => by rw [ea q (by omega) (by omega) (by omega) (by omega)]; exact F.fa q (by omega) (by omega)) ?_ ?_ ?_ ?_ ?_
    · rw [ea 29 (by decide) (by decide) (by decide) (by decide), F.f29]
    · rw [ea 31 (by decide) (by decide) (by decide) (by decide), F.fa 31 (by omega) (by omega)]
    · rw [ea 33 (by decide) (by decide) (by decide) (by decide), F.fa 33 (by omega) (by omega)]
    · intro q hq; rw [EB.fr q (by omega) (by omega) (by omega) (by omega)]; exact F.fb q (by omega) (by omega) (by omega)
    · intro j u v w y z; rw [EB.f113 j v w]; exact F.f113 j u
  · refine ⟨by omega, ?_, by omega, by omega, g8⟩
    by_cases z : L + 1 < LL
    · rw [if_pos z, e9]; exact (g10 z).2.symm
    · rw [if_neg z, g11 z]
  · exact C4.fr (ea 18 (by decide) (by decide) (by decide) (by decide)) (EB.fr 118 (by decide) (by decide) (by decide) (by decide)) (EB.fr 119 (by decide) (by decide) (by decide) (by decide)) (EB.fr 122 (by decide) (by decide) (by decide) (by decide))
  · refine zOw.mk (fun k k0 kR => ?_) trivial
    have n4k : a4 1 1 = N := by rw [F.fa 1 (by omega) (by omega)]; exact g5
    have kE : k < E2 := by
      rw [hE2]
      by_cases z : L + 1 < LL
      · rw [if_pos z] at kR; rw [if_pos (g10 z).1]; exact kR
      · rw [if_neg z] at kR; rw [g11 z, if_neg (by omega)]; exact kR
    have kN : k < N := by
      by_cases z : L + 1 < LL
      · rw [if_pos z] at kR; have := (g10 z).1; omega
      · rw [if_neg z] at kR; exact kR
    have kE1 : k ≤ E := by
      rw [hE2] at kE
      by_cases z : E < N
      · rw [if_pos z] at kE; omega
      · rw [if_neg z] at kE; omega
    by_cases z : R ≤ k
    · rw [EA.own k z kE1 (by omega), EB.own k z kE]; exact ⟨rfl, v0, vn⟩
    · rw [EA.old k (by omega), EB.old k (by omega), F.fa 34 (by omega) (by omega), F.fb 129 (by decide) (by omega) (by decide)]
      have o := D.S.O.own k k0 (by omega)
      exact ⟨o.1, o.2.1, by omega⟩
  · exact nd4.fr (Int.le_refl _) (by rw [ea 37 (by decide) (by decide) (by decide) (by decide)]) (ea 38 (by decide) (by decide) (by decide) (by decide)) (ea 36 (by decide) (by decide) (by decide) (by decide)) (fun k _ _ => by rw [f117]) (fun k x y => by omega) (fun j _ => by rw [EB.fr 130 (by decide) (by decide) (by decide) (by decide)])
  · exact nh4.fr (Int.le_refl _) (by rw [ea 41 (by decide) (by decide) (by decide) (by decide)]) (ea 42 (by decide) (by decide) (by decide) (by decide)) (ea 40 (by decide) (by decide) (by decide) (by decide)) (fun k _ _ => by rw [f117]) (fun k x y => by omega) (fun j _ => by rw [EB.fr 130 (by decide) (by decide) (by decide) (by decide)])
  · rw [ea 37 (by decide) (by decide) (by decide) (by decide), ea 41 (by decide) (by decide) (by decide) (by decide)]; exact nl4
  · unfold zF
    rw [f117, ea 26 (by decide) (by decide) (by decide) (by decide), ea 28 (by decide) (by decide) (by decide) (by decide)]
    exact cur
  · rw [EA.blank, EB.blank]
theorem k_Blocks_innermostOpen (C : zCh a b n d c) (h17 : a 17 1 = n) (hn : n ≤ 482) (h : K (c d) a) : c_Blocks_innermostOpen X a K := by
  have r := C.rng (Nat.le_refl d)
  have L : ∀ (m i : Nat), i + m = d → L_Blocks_innermostOpen_4 X (c i) i a K := by
    intro m
    induction m with
    | zero =>
      intro i hi
      have e : i = d := by omega
      refine sg_Blocks_innermostOpen_4 (z_f (by omega) (k_Blocks_openIn (by omega) ?_))
      rw [C.next h17 (by omega), if_neg (by omega), e]
      exact z_t rfl h
    | succ m ih =>
      intro i hi
      have ri := C.rng (i := i + 1) (by omega)
      refine sg_Blocks_innermostOpen_4 (z_f (by omega) (k_Blocks_openIn (by omega) ?_))
      rw [C.next h17 (by omega), if_pos (by omega)]
      refine z_f (by omega) (k_Blocks_openIn (by omega) ?_)
      rw [C.next h17 (by omega), if_pos (by omega)]
      exact ⟨by omega, ih (i + 1) (by omega)⟩
  have := L d 0 (by omega)
  rw [C.c0] at this
  exact sg_Blocks_innermostOpen this
theorem k_m_openParagraph (B : zB a b n) (C : zCh a b n d c) (hn : n ≤ 482) (h : K (if b 117 (c d) = 6 ∨ b 117 (c d) = 5 then c d else -1) b) : c_m_openParagraph X b K := by
  have r := C.rng (Nat.le_refl d)
  have fin : ((0 : Int) ≤ (c d)) ∧ ((c d) < (600 : Int)) ∧ ((((b 117 (c d)) = 6) → K (c d) b) ∧ (¬ ((b 117 (c d)) = 6) → ((0 : Int) ≤ (c d)) ∧ ((c d) < (600 : Int)) ∧ ((((b 117 (c d)) ≠ 5) → K (-1) b) ∧ (¬ ((b 117 (c d)) ≠ 5) → K (c d) b)))) := by
    refine ⟨by omega, by omega, z_c (fun e => ?_) (fun e => ⟨by omega, by omega, z_c (fun e2 => ?_) (fun e2 => ?_)⟩)⟩
    · rw [if_pos (Or.inl e)] at h; exact h
    · rw [if_neg (by omega)] at h; exact h
    · rw [if_pos (Or.inr (Decidable.not_not.mp e2))] at h; exact h
  have L : ∀ (m i : Nat), i + m = d → L_m_openParagraph_2 X (c i) b K := by
    intro m
    induction m with
    | zero =>
      intro i hi
      have e : i = d := by omega
      rw [e]
      have hst := C.stop B
      have hla := B.la (c d) (by omega) r.2
      refine sg_m_openParagraph_2 ⟨by omega, by omega, z_c (fun _ => fin) (fun x => ⟨by omega, by omega, by omega, by omega, z_t (by omega) fin⟩)⟩
    | succ m ih =>
      intro i hi
      have ri := C.rng (i := i) (by omega)
      have ri1 := C.rng (i := i + 1) (by omega)
      have st := C.step i (by omega)
      have one := C.is1 (i := i + 1) (by omega)
      refine sg_m_openParagraph_2 ⟨by omega, by omega, ?_⟩
      rw [st.2.1]
      exact z_f (by omega) ⟨by omega, by omega, by omega, by omega, z_f (by omega) ⟨by omega, by omega, ih (i + 1) (by omega)⟩⟩
  have := L d 0 (by omega)
  rw [C.c0] at this
  exact sg_m_openParagraph this
end Asm
