/-! The blocks as they stay; copying a leaf's lines. -/
def zBk (a b : qM) (t : Int → Int) (N LL n : Int) : Prop := (a 1 1 = N ∧ 0 ≤ N ∧ N ≤ 240) ∧ (∀ i, 0 ≤ i → i < N → a 2 i = t i ∧ zChr (t i)) ∧ (b 113 0 = N ∧ b 114 = t) ∧ (zLn t N LL (a 9) (a 11)) ∧ (a 8 1 = LL ∧ a 10 1 = LL ∧ a 29 1 = LL ∧ a 31 1 = LL ∧ a 33 1 = N) ∧ (zB a b n) ∧ (zLs a b n LL) ∧ (zOw a b n N) ∧ (b 113 17 = LL) ∧ (zPt a b n (N + 1) 481) ∧ (zNm a b n 7 37 36) ∧ (zNm a b n 4 41 40) ∧ (7 * a 37 1 ≤ N + 1 ∧ a 41 1 ≤ LL) ∧ (zFz a b n LL)
theorem zBk.mk {a b : qM} {t : Int → Int} {N LL n : Int} (n1 : a 1 1 = N ∧ 0 ≤ N ∧ N ≤ 240) (ch : ∀ i, 0 ≤ i → i < N → a 2 i = t i ∧ zChr (t i)) (bt : b 113 0 = N ∧ b 114 = t) (ln : zLn t N LL (a 9) (a 11)) (sz : a 8 1 = LL ∧ a 10 1 = LL ∧ a 29 1 = LL ∧ a 31 1 = LL ∧ a 33 1 = N) (B : zB a b n) (S : zLs a b n LL) (O : zOw a b n N) (l17 : b 113 17 = LL) (pt : zPt a b n (N + 1) 481) (nd : zNm a b n 7 37 36) (nh : zNm a b n 4 41 40) (nl : 7 * a 37 1 ≤ N + 1 ∧ a 41 1 ≤ LL) (fz : zFz a b n LL) : zBk a b t N LL n := ⟨n1, ch, bt, ln, sz, B, S, O, l17, pt, nd, nh, nl, fz⟩
theorem zBk.n1 {a b : qM} {t : Int → Int} {N LL n : Int} (h : zBk a b t N LL n) : a 1 1 = N ∧ 0 ≤ N ∧ N ≤ 240 := h.1
theorem zBk.ch {a b : qM} {t : Int → Int} {N LL n : Int} (h : zBk a b t N LL n) : ∀ i, 0 ≤ i → i < N → a 2 i = t i ∧ zChr (t i) := h.2.1
theorem zBk.bt {a b : qM} {t : Int → Int} {N LL n : Int} (h : zBk a b t N LL n) : b 113 0 = N ∧ b 114 = t := h.2.2.1
theorem zBk.ln {a b : qM} {t : Int → Int} {N LL n : Int} (h : zBk a b t N LL n) : zLn t N LL (a 9) (a 11) := h.2.2.2.1
theorem zBk.sz {a b : qM} {t : Int → Int} {N LL n : Int} (h : zBk a b t N LL n) : a 8 1 = LL ∧ a 10 1 = LL ∧ a 29 1 = LL ∧ a 31 1 = LL ∧ a 33 1 = N := h.2.2.2.2.1
theorem zBk.B {a b : qM} {t : Int → Int} {N LL n : Int} (h : zBk a b t N LL n) : zB a b n := h.2.2.2.2.2.1
theorem zBk.S {a b : qM} {t : Int → Int} {N LL n : Int} (h : zBk a b t N LL n) : zLs a b n LL := h.2.2.2.2.2.2.1
theorem zBk.O {a b : qM} {t : Int → Int} {N LL n : Int} (h : zBk a b t N LL n) : zOw a b n N := h.2.2.2.2.2.2.2.1
theorem zBk.l17 {a b : qM} {t : Int → Int} {N LL n : Int} (h : zBk a b t N LL n) : b 113 17 = LL := h.2.2.2.2.2.2.2.2.1
theorem zBk.pt {a b : qM} {t : Int → Int} {N LL n : Int} (h : zBk a b t N LL n) : zPt a b n (N + 1) 481 := h.2.2.2.2.2.2.2.2.2.1
theorem zBk.nd {a b : qM} {t : Int → Int} {N LL n : Int} (h : zBk a b t N LL n) : zNm a b n 7 37 36 := h.2.2.2.2.2.2.2.2.2.2.1
theorem zBk.nh {a b : qM} {t : Int → Int} {N LL n : Int} (h : zBk a b t N LL n) : zNm a b n 4 41 40 := h.2.2.2.2.2.2.2.2.2.2.2.1
theorem zBk.nl {a b : qM} {t : Int → Int} {N LL n : Int} (h : zBk a b t N LL n) : 7 * a 37 1 ≤ N + 1 ∧ a 41 1 ≤ LL := h.2.2.2.2.2.2.2.2.2.2.2.2.1
theorem zBk.fz {a b : qM} {t : Int → Int} {N LL n : Int} (h : zBk a b t N LL n) : zFz a b n LL := h.2.2.2.2.2.2.2.2.2.2.2.2.2
section CopyL
variable {X : Nat × (Nat → Int32)} {a b a' b' s : qM} {K : qM → Prop} {gh : qM × qM} {t : Int → Int} {n m N LL P Q : Int} {d : Nat} {c : Nat → Int}
theorem zLi.bk (Z : zLi a b gh t N LL n LL (N + 1) Q d c) : zBk a b t N LL n := by
  obtain ⟨p1, p2, p3, p4, p5⟩ := Z.pos
  have O := Z.O
  rw [if_neg (by omega)] at O
  have pt := Z.pt
  obtain ⟨n1, n2, n3⟩ := Z.T.n1
  exact zBk.mk Z.T.n1 Z.T.ch Z.T.bt Z.T.ln Z.T.sz Z.B Z.S O Z.l17 (pt.le (Int.le_refl _) (by omega)) Z.nd Z.nh Z.nl Z.fz
theorem zBk.fr (Z : zBk a b t N LL n) (fa : ∀ q, q < 43 → a' q = a q) (fb : ∀ q, 114 ≤ q → q ≤ 130 → b' q = b q) (f0 : b' 113 0 = b 113 0) (f4 : b' 113 4 = b 113 4) (f17 : b' 113 17 = b 113 17) : zBk a' b' t N LL n := by
  have e117 := fb 117 (by decide) (by decide)
  have ezf : zF a' b' = zF a b := by funext k; unfold zF; rw [fa 26 (by decide), e117]
  have eu : zU1 a' b' = zU1 a b := by funext k; unfold zU1; rw [ezf, fa 28 (by decide), fa 30 (by decide), fa 11 (by decide), e117]
  have ev : zV a' b' = zV a b := by funext k; unfold zV; rw [eu, e117]
  refine zBk.mk ?_ ?_ ?_ ?_ ?_ (Z.B.fr (fun q _ w => fa q (by omega)) (fun q u w => fb q (by omega) (by omega)) f4 f17) ?_ ?_ (by rw [f17]; exact Z.l17) (zPt.mk (by rw [eu]; exact Z.pt.p1) (by rw [ev]; exact Z.pt.p2)) ?_ ?_ (by rw [fa 37 (by decide), fa 41 (by decide)]; exact Z.nl) (Z.fz.gr (fa 32 (by decide)) (fa 9 (by decide)) (fa 11 (by decide)) (fun l u w => ⟨(Z.S.ow l u w).1, (Z.S.ow l u w).2.1⟩) (fun k _ _ => by rw [e117]) (fun k u w => by omega))
  · rw [fa 1 (by decide)]; exact Z.n1
  · rw [fa 2 (by decide)]; exact Z.ch
  · rw [f0, fb 114 (by decide) (by decide)]; exact Z.bt
  · rw [fa 9 (by decide), fa 11 (by decide)]; exact Z.ln
  · rw [fa 8 (by decide), fa 10 (by decide), fa 29 (by decide), fa 31 (by decide), fa 33 (by decide)]; exact Z.sz
  · refine zLs.mk Z.S.L0 ?_ ?_ ?_ ?_
    · rw [fa 32 (by decide), fa 9 (by decide), fb 128 (by decide) (by decide), fb 127 (by decide) (by decide), e117]; exact Z.S.ow
    · rw [fa 9 (by decide), fa 11 (by decide), fa 30 (by decide), fb 124 (by decide) (by decide), fb 125 (by decide) (by decide), fb 126 (by decide) (by decide), e117]; exact Z.S.bl
    · rw [ezf, fa 26 (by decide), fa 28 (by decide), fb 124 (by decide) (by decide), e117]; exact Z.S.rg
    · rw [fb 114 (by decide) (by decide), fb 124 (by decide) (by decide), fb 125 (by decide) (by decide), fb 126 (by decide) (by decide), e117]; exact Z.S.nb
  · exact zOw.mk (by rw [fa 34 (by decide), fb 129 (by decide) (by decide)]; exact Z.O.own) trivial
  · exact Z.nd.fr (Int.le_refl n) (by rw [fa 37 (by decide)]) (fa 38 (by decide)) (fa 36 (by decide)) (fun k _ _ => by rw [e117]) (fun k u w => by omega) (fun j _ => by rw [fb 130 (by decide) (by decide)])
  · exact Z.nh.fr (Int.le_refl n) (by rw [fa 41 (by decide)]) (fa 42 (by decide)) (fa 40 (by decide)) (fun k _ _ => by rw [e117]) (fun k u w => by omega) (fun j _ => by rw [fb 130 (by decide) (by decide)])
theorem zBk.cap (Z : zBk a b t N LL n) : 1 ≤ n ∧ n ≤ 481 := by
  have h := Z.pt.p2
  have := zSig_nn (f := zV a b) n.toNat (fun k u w => (Z.S.u1 u (by omega)).2)
  have := Z.B.n1
  omega
theorem zBk.u241 (Z : zBk a b t N LL n) {k : Int} (k0 : 0 ≤ k) (kn : k < n) : zU1 a b k ≤ 241 := by
  have h := Z.pt.p1
  have g := zSig_ge (f := zU1 a b) k0 n.toNat (by omega) (fun i u w => (Z.S.u1 u (by omega)).1)
  have := Z.n1
  omega
/-- lines that are not the block's -/
theorem k_m_pass7 {k L2 : Int} (h2 : L2 ≤ 241) (hL : b 113 17 ≤ 241) : ∀ (c : Nat) (l : Int) (Kf : qM → Prop), l + c = L2 → 0 ≤ l → L2 ≤ b 113 17 → (∀ i, l ≤ i → i < L2 → b 124 i ≠ k) → L_m_laysInline_7 X k L2 b Kf → L_m_laysInline_7 X k l b Kf := by
  intro c
  induction c with
  | zero => intro l Kf hl l0 h2 hn hk; rw [show l = L2 by omega]; exact hk
  | succ c ih =>
    intro l Kf hl l0 h2 hn hk
    exact sg_m_laysInline_7 (z_f (by omega) ⟨l0, by omega, z_t (hn l (Int.le_refl l) (by omega)) ⟨by omega, ih (l + 1) Kf (by omega) (by omega) h2 (fun i u w => hn i (by omega) w) hk⟩⟩)
theorem k_copyLines {k : Int} (Z : zBk a b t N LL n) (k0 : 0 ≤ k) (kn : k < n) (hk : b 117 k = 4 ∨ b 117 k = 6) (r0 : a 54 1 = 0 ∧ a 56 1 = 0 ∧ a 58 1 = 0 ∧ a 60 1 = 0 ∧ a 62 1 = 0)
    (h : ∀ a' b' m, zCp a' b' m → m + 1 ≤ zU1 a b k → a' 51 1 = 0 → (∀ q, q < 45 ∨ 51 < q → a' q = a q) → (∀ q, q ≠ 113 → q ≠ 138 → b' q = b q) → (∀ j, j ≠ 28 → b' 113 j = b 113 j) → (∀ Kf : qM → Prop, Kf b' → c_m_laysInline X k b Kf) → K a') : c_T_copyLines X k a K := by
  obtain ⟨n1, n2, n3⟩ := Z.n1
  obtain ⟨s8, s10, s29, s31, s33⟩ := Z.sz
  obtain ⟨b0, bt⟩ := Z.bt
  obtain ⟨c1, c2⟩ := Z.cap
  have u241 := Z.u241 k0 kn
  have rg := Z.S.rg k k0 kn (by omega) (by omega)
  obtain ⟨g1, g2, g3, g4, g5, g6⟩ := rg
  have LLr : 1 ≤ LL ∧ LL ≤ N + 1 := ⟨Z.ln.1, Z.ln.2.1⟩
  have l17 := Z.l17
  obtain ⟨_, _, _, _, _, _, r25, r27, _⟩ := Z.B.rows
  have ef : zF a b k = a 26 k := by unfold zF; rw [if_neg (by omega)]; omega
  rw [ef] at g3 g4
  have cnt1 : 1 ≤ a 28 k := by rcases hk with e | e; · { have := g5 e; omega }; · { exact g6 e }
  have eu : zU1 a b k = zW (a 30) (a 11) (a 26 k) (a 28 k).toNat := by unfold zU1; rw [if_pos (by omega), ef]
  -- a line of the block
  have line : ∀ l, a 26 k ≤ l → l < a 26 k + a 28 k → b 124 l = k ∧ b 125 l = a 30 l ∧ b 126 l = a 11 l ∧ 0 ≤ a 30 l ∧ a 30 l ≤ a 11 l ∧ a 11 l ≤ N ∧ (b 117 k = 6 → zSkip t (a 30 l) (a 11 l) ≠ a 11 l) := by
    intro l u w
    have e := (g4 l (by omega) (by omega)).mpr ⟨u, w⟩
    have hb := Z.S.bl l (by omega) (by omega) (by omega)
    have hl := Z.ln.2.2.2.1 l (by omega) (by omega)
    have he := zEnd_is (t := t) hl.2.1
    rw [← hl.2.2] at he
    refine ⟨e, hb.2.2.2.2.1, hb.2.2.2.2.2.1, by omega, hb.2.2.2.2.2.2.2, he.2.1, fun k6 => ?_⟩
    have := Z.S.nb l (by omega) (by omega) (by omega) (by rw [e]; exact k6)
    rw [bt, hb.2.2.2.2.1, hb.2.2.2.2.2.1] at this
    exact this
  have mono : ∀ i : Nat, (i : Int) ≤ a 28 k → zW (a 30) (a 11) (a 26 k) i ≤ zU1 a b k := fun i hi => by
    rw [eu]; exact zW_mono (fun l u w => (line l u (by omega)).2.2.2.2.1) (by omega)
  -- the loop
  have Lp : ∀ (c i : Nat) (a1 b1 : qM) (m : Int), (i : Int) + c = a 28 k → zCp a1 b1 m → (∀ q, q < 45 ∨ 51 < q → a1 q = a q) → a1 51 1 = 0 → (∀ q, q ≠ 113 → q ≠ 138 → b1 q = b q) → (∀ j, j ≠ 28 → b1 113 j = b 113 j) → ((i = 0 ∧ m = 0) ∨ (0 < i ∧ m ≤ zW (a 30) (a 11) (a 26 k) i - 1)) → (0 < c → i = 0 ∨ 0 < m) → (∀ Kf : qM → Prop, L_m_laysInline_7 X k (a 26 k + i) b1 Kf → c_m_laysInline X k b Kf) → L_T_copyLines_18 X k (a 26 k) (a 26 k + i) a1 K := by
    intro c
    induction c with
    | zero =>
      intro i a1 b1 m hi Zc fa f51 fb fj hm _ W
      refine sg_T_copyLines_18 (sg_Blocks_linesOf (k_Row_at q_row_27 (by rw [fa 27 (by omega)]; omega) ?_))
      rw [zT_in k0 (by rw [fa 27 (by omega)]; omega), fa (27 + 1) (by omega), show a (27 + 1) k = a 28 k from rfl]
      refine ⟨by omega, z_t (by omega) (h a1 b1 m Zc ?_ f51 fa fb fj (fun Kf hk => W Kf ?_))⟩
      · have := mono i (by omega); omega
      · refine k_m_pass7 (L2 := LL) (by omega) (by rw [fj 17 (by decide)]; omega) (LL - (a 26 k + i)).toNat (a 26 k + i) Kf (by omega) (by omega) (by rw [fj 17 (by decide)]; omega) (fun l u w => ?_) (sg_m_laysInline_7 (z_t (by rw [fj 17 (by decide)]; omega) hk))
        rw [fb 124 (by decide) (by decide)]
        intro z
        have := (g4 l (by omega) w).mp z
        omega
    | succ c ih =>
      intro i a1 b1 m hi Zc fa f51 fb fj hm hp W
      have hp := hp (by omega)
      obtain ⟨e124, e125, e126, C0, CF, FN, nb⟩ := line (a 26 k + i) (by omega) (by omega)
      have zi : zW (a 30) (a 11) (a 26 k) (i + 1) = zW (a 30) (a 11) (a 26 k) i + (a 11 (a 26 k + i) - a 30 (a 26 k + i) + 1) := rfl
      have mi := mono (i + 1) (by omega)
      have mi0 := mono i (by omega)
      have cut := zCut (t := t) CF
      have gs := zSkip_is (t := t) CF
      generalize eC : a 30 (a 26 k + i) = C at *
      generalize eF : a 11 (a 26 k + i) = F at *
      have eT : zSkip (zT a1 1) C F = zSkip t C F := zSkip_congr CF (fun p u w => by rw [zT_in (by omega) (by rw [fa 1 (by omega)]; omega), fa (1 + 1) (by omega)]; exact (Z.ch p (by omega) (by omega)).1)
      have eT2 : zTrim (zT a1 1) (zSkip t C F) F = zTrim t (zSkip t C F) F := zD_congr gs.2.1 (fun p u w => by unfold zIsB; rw [zT_in (by omega) (by rw [fa 1 (by omega)]; omega), fa (1 + 1) (by omega), show a (1 + 1) p = t p from (Z.ch p (by omega) (by omega)).1])
      -- what is copied, in either case of a line end ahead
      have go : ∀ (a2 b2 : qM) (m2 : Int), zCp a2 b2 m2 → (∀ q, q < 45 ∨ 51 < q → a2 q = a q) → a2 51 1 = 0 → (∀ q, q ≠ 113 → q ≠ 138 → b2 q = b q) → (∀ j, j ≠ 28 → b2 113 j = b 113 j) → m2 + (F - C) ≤ zW (a 30) (a 11) (a 26 k) (i + 1) - 1 → (∀ Kf : qM → Prop, L_m_laysInline_87 X k (a 26 k + i) (zTrim t C F) C b2 Kf → c_m_laysInline X k b Kf) → L_T_copyLines_94 X k (a 26 k) (a 26 k + i) (zTrim t (zSkip t C F) F) (zSkip t C F) a2 K := by
        intro a2 b2 m2 Z2 fa2 f512 fb2 fj2 hm2 W2
        have t2 : b2 114 = t := by rw [fb2 114 (by decide) (by decide)]; exact bt
        rcases cut.2.2 with ⟨x1, x2, x3⟩ | ⟨x1, x2, x3, x4⟩
        · rw [x3, x1]
          have fin := ih (i + 1) a2 b2 m2 (by omega) Z2 fa2 f512 fb2 fj2 (Or.inr ⟨by omega, by omega⟩) (fun hc => by
            rcases hk with k4 | k6
            · have := g5 k4; omega
            · exact absurd x1 (nb k6)) (fun Kf hk => W2 Kf (by
              rw [x2]
              have hk' : L_m_laysInline_7 X k (a 26 k + i + 1) b2 Kf := by rw [show a 26 k + (i : Int) + 1 = a 26 k + ((i + 1 : Nat) : Int) by omega]; exact hk
              exact sg_m_laysInline_87 (z_t (Int.le_refl C) (sg_m_laysInline_115 (z_t (Int.le_refl C) ⟨by omega, hk'⟩)))))
          rw [show a 26 k + ((i + 1 : Nat) : Int) = a 26 k + i + 1 by omega] at fin
          exact sg_T_copyLines_94 (z_t (Int.le_refl F) ⟨by omega, fin⟩)
        · refine k_copy94 (N := N) (cap := 240) (by decide) (by omega) (zTrim t (zSkip t C F) F - zSkip t C F).toNat (zSkip t C F) a2 b2 m2 K (by omega) (by omega) Z2 (by omega) ⟨by rw [fa2 1 (by omega)]; exact n1, n3, by rw [fa2 2 (by omega), t2]; exact Z.ch⟩ (by omega) (by omega) (by omega) (by omega) (fun a3 b3 Z3 F3 W3 => ?_)
          have fin := ih (i + 1) a3 b3 _ (by omega) Z3 (fun q hq => by rw [F3.fa q (by omega)]; exact fa2 q hq) (by rw [F3.fa 51 (by omega)]; exact f512) (fun q u w => by rw [F3.fb q u w]; exact fb2 q u w) (fun j u => by rw [F3.f113 j u]; exact fj2 j u) (Or.inr ⟨by omega, by omega⟩) (fun _ => Or.inr (by have := Z2.m0; omega)) (fun Kf hk => W2 Kf (by
            rw [show a 26 k + ((i + 1 : Nat) : Int) = a 26 k + i + 1 by omega] at hk
            have w3 := W3 Kf hk
            rw [← x2] at w3
            have gt := zTrim_is (t := t) CF
            have sk := k_m_skip87 (X := X) (b := b2) (v1 := k) (v2 := a 26 k + i) (to := zTrim t C F) (by omega) (zSkip t C F - C).toNat C Kf (by rw [t2, x3]; omega) (by omega) gt.1
            rw [t2, x3] at sk
            exact sk w3))
          rw [show a 26 k + ((i + 1 : Nat) : Int) = a 26 k + i + 1 by omega] at fin
          exact fin
      -- the class's steps behind the line end
      have cls : ∀ (a2 b2 : qM) (m2 : Int), zCp a2 b2 m2 → (∀ q, q < 45 ∨ 51 < q → a2 q = a q) → a2 51 1 = 0 → (∀ q, q ≠ 113 → q ≠ 138 → b2 q = b q) → (∀ j, j ≠ 28 → b2 113 j = b 113 j) → m2 + (F - C) ≤ zW (a 30) (a 11) (a 26 k) (i + 1) - 1 → (∀ Kf : qM → Prop, L_m_laysInline_87 X k (a 26 k + i) (zTrim t C F) C b2 Kf → c_m_laysInline X k b Kf) → c_Blocks_contentBegin X (a 26 k + i) a2 (fun r15 s14 => c_Lines_end X 7 (a 26 k + i) s14 (fun r17 s16 => c_T_skipBlanks X 1 r15 r17 s16 (fun r19 s18 => c_Lines_end X 7 (a 26 k + i) s18 (fun r21 s20 => c_T_cutBlanks X 1 r19 r21 s20 (fun r23 s22 => L_T_copyLines_94 X k (a 26 k) (a 26 k + i) r23 r19 s22 K))))) := by
        intro a2 b2 m2 Z2 fa2 f512 fb2 fj2 hm2 W2
        have o1 : a2 1 = a1 1 := by rw [fa2 1 (by omega), fa 1 (by omega)]
        have o2 : a2 (1 + 1) = a1 (1 + 1) := by rw [fa2 (1 + 1) (by omega), fa (1 + 1) (by omega)]
        have ezt : zT a2 1 = zT a1 1 := by funext p; unfold zT; rw [o1, o2]
        have r11 : zT a2 10 (a 26 k + i) = F := by rw [zT_in (by omega) (by rw [fa2 10 (by omega)]; omega), fa2 (10 + 1) (by omega)]; exact eF
        refine sg_Blocks_contentBegin (k_Row_at q_row_29 (by rw [fa2 29 (by omega)]; omega) ?_)
        rw [show zT a2 29 (a 26 k + i) = C by rw [zT_in (by omega) (by rw [fa2 29 (by omega)]; omega), fa2 (29 + 1) (by omega)]; exact eC]
        refine sg_Lines_end q_lines_7 (k_Row_at q_row_10 (by rw [fa2 10 (by omega)]; omega) ?_)
        rw [r11]
        refine k_T_skipBlanks q_row_1 (by rw [fa2 1 (by omega)]; omega) (by omega) (by omega) ?_
        rw [ezt, eT]
        refine sg_Lines_end q_lines_7 (k_Row_at q_row_10 (by rw [fa2 10 (by omega)]; omega) ?_)
        rw [r11]
        refine k_T_cutBlanks q_row_1 (by rw [fa2 1 (by omega)]; omega) (by omega) (by omega) ?_
        rw [ezt, eT2]
        exact go a2 b2 m2 Z2 fa2 f512 fb2 fj2 hm2 W2
      have f125 : b1 125 (a 26 k + i) = C := by rw [fb 125 (by decide) (by decide)]; exact e125
      have f126 : b1 126 (a 26 k + i) = F := by rw [fb 126 (by decide) (by decide)]; exact e126
      have t1 : b1 114 = t := by rw [fb 114 (by decide) (by decide)]; exact bt
      have s4 := Zc.sz.2.2.2
      have m0 := Zc.m0
      refine sg_T_copyLines_18 (sg_Blocks_linesOf (k_Row_at q_row_27 (by rw [fa 27 (by omega)]; omega) ?_))
      rw [zT_in k0 (by rw [fa 27 (by omega)]; omega), fa (27 + 1) (by omega), show a (27 + 1) k = a 28 k from rfl]
      refine ⟨by omega, z_f (by omega) (z_c (fun i0 => ?_) (fun i0 => ?_))⟩
      · -- the first line
        have em : m = 0 := by omega
        have w0 : zW (a 30) (a 11) (a 26 k) i = 0 := by rw [show i = 0 by omega]; rfl
        refine cls a1 b1 m Zc fa f51 fb fj (by rw [zi]; omega) (fun Kf hk => W Kf ?_)
        refine sg_m_laysInline_7 (z_f (by rw [fj 17 (by decide)]; omega) ⟨by omega, by omega, z_f (fun z => z (by rw [fb 124 (by decide) (by decide)]; exact e124)) (z_f (by omega) ⟨by omega, by omega, ?_⟩)⟩)
        rw [f125, f126]
        refine z_t C0 ⟨by omega, by omega, by omega, by omega, k_m_trimmed C0 CF (by omega) ⟨by omega, by omega, ?_⟩⟩
        rw [f125, show b1 114 = t from t1]
        exact hk
      · have mp : 0 < m := by omega
        refine k_Il_addCharacter Zc (by omega) (fun a2 fa2 z1 z2 z3 z4 z5 z6 => ?_)
        generalize eb : q_up (q_up b1 138 m 10) 113 28 (m + 1) = b2
        have fb2 : ∀ q, q ≠ 113 → q ≠ 138 → b2 q = b1 q := fun q x y => by rw [← eb, q_up_ne x, q_up_ne y]
        have fj2 : ∀ j, j ≠ 28 → b2 113 j = b1 113 j := fun j hj => by rw [← eb, q_up_nj hj, q_up_ne (by decide)]
        obtain ⟨Z2, F2⟩ := Zc.add (by omega) (Or.inl rfl) fa2 z1 z2 z3 z4 z5 z6 fb2 fj2 (by rw [← eb, q_up_at]) (by rw [← eb, q_up_ne (by decide), q_up_fn])
        refine cls a2 b2 (m + 1) Z2 (fun q hq => by rw [fa2 q (by omega)]; exact fa q hq) (by rw [fa2 51 (by omega)]; exact f51) (fun q u w => by rw [fb2 q u w]; exact fb q u w) (fun j u => by rw [fj2 j u]; exact fj j u) (by rw [zi]; omega) (fun Kf hk => W Kf ?_)
        refine sg_m_laysInline_7 (z_f (by rw [fj 17 (by decide)]; omega) ⟨by omega, by omega, z_f (fun z => z (by rw [fb 124 (by decide) (by decide)]; exact e124)) (z_t (by omega) ⟨by omega, by omega, fun q1 e1 => ?_⟩)⟩)
        have e28 : q1 113 28 = m := by rw [e1, q_up_ne (by decide)]; exact s4
        rw [e28]
        refine ⟨⟨by omega, by omega⟩, fun q2 e2 => ?_⟩
        rw [s4] at e1
        have eq2 : q2 = b2 := by rw [e2, e1, eb]
        rw [eq2, show b2 125 (a 26 k + i) = C by rw [fb2 125 (by decide) (by decide)]; exact f125, show b2 126 (a 26 k + i) = F by rw [fb2 126 (by decide) (by decide)]; exact f126]
        refine ⟨by omega, by omega, by omega, by omega, k_m_trimmed C0 CF (by omega) ⟨by omega, by omega, ?_⟩⟩
        rw [show b2 125 (a 26 k + i) = C by rw [fb2 125 (by decide) (by decide)]; exact f125, show b2 114 = t by rw [fb2 114 (by decide) (by decide)]; exact t1]
        exact hk
  obtain ⟨r54, r56, r58, r60, r62⟩ := r0
  refine sg_T_copyLines (sg_Il_start (k_Row_clear q_row_45 (fun s1 f1 z1 => k_Row_clear q_row_47 (fun s2 f2 z2 => k_Row_clear q_row_49 (fun s3 f3 z3 => k_Row_clear q_row_51 (fun s4 f4 z4 => ?_))))))
  have fs : ∀ q, q < 45 ∨ 51 < q → s4 q = a q := fun q hq => by rw [f4 q (by omega), f3 q (by omega), f2 q (by omega), f1 q (by omega)]
  have nocut : ∀ (r : Nat) (F : qM → Prop), q_isRow r 240 → s4 r 1 = 0 → F s4 → c_Row_cut X r 0 s4 F := fun r F hr h0 hF => k_Row_cut hr (fun _ z => by omega) (fun _ => hF)
  refine sg_Runs_empty (sg_Runs_cut (nocut 54 _ q_row_54 (by rw [fs 54 (by omega)]; exact r54) (nocut 56 _ q_row_56 (by rw [fs 56 (by omega)]; exact r56) (nocut 58 _ q_row_58 (by rw [fs 58 (by omega)]; exact r58) (nocut 60 _ q_row_60 (by rw [fs 60 (by omega)]; exact r60) (nocut 62 _ q_row_62 (by rw [fs 62 (by omega)]; exact r62) ?_))))))
  refine sg_Blocks_firstLineOf (k_Row_at q_row_25 (by rw [fs 25 (by omega)]; omega) ?_)
  rw [zT_in k0 (by rw [fs 25 (by omega)]; omega), fs (25 + 1) (by omega), show a (25 + 1) k = a 26 k from rfl]
  generalize eb : q_up b 113 28 0 = b1
  have fb : ∀ q, q ≠ 113 → b1 q = b q := fun q hq => by rw [← eb, q_up_ne hq]
  have fj : ∀ j, j ≠ 28 → b1 113 j = b 113 j := fun j hj => by rw [← eb, q_up_nj hj]
  have Z0 : zCp s4 b1 0 := zCp.mk ⟨by decide, by decide⟩ ⟨by rw [f4 45 (by decide), f3 45 (by decide), f2 45 (by decide)]; exact z1, by rw [f4 47 (by decide), f3 47 (by decide)]; exact z2, by rw [f4 49 (by decide)]; exact z3, by rw [← eb, q_up_at]⟩ (fun i u w => by omega)
  have res := Lp (a 28 k).toNat 0 s4 b1 0 (by omega) Z0 fs z4 (fun q u _ => fb q u) fj (Or.inl ⟨rfl, rfl⟩) (fun _ => Or.inl rfl) (fun Kf hk => by
    refine sg_m_laysInline (fun q1 e1 => ?_)
    rw [e1, eb]
    refine k_m_pass7 (L2 := a 26 k) (by omega) (by rw [fj 17 (by decide)]; omega) (a 26 k).toNat 0 Kf (by omega) (by decide) (by rw [fj 17 (by decide)]; omega) (fun l u w => ?_) (by rw [show a 26 k + ((0 : Nat) : Int) = a 26 k by omega] at hk; exact hk)
    rw [fb 124 (by decide)]
    intro z
    have := (g4 l u (by omega)).mp z
    omega)
  rw [show a 26 k + ((0 : Nat) : Int) = a 26 k by omega] at res
  exact res
end CopyL
