/-! All lines: the blocks of the class are the model's. -/
section Lines2
variable {X : Nat × (Nat → Int32)} {a b : qM} {K : qM → Prop} {gh : qM × qM} {t : Int → Int} {N LL n L P Q : Int} {d : Nat} {c : Nat → Int}
/-- the containers' phase: from the ones that go on to the leaf -/
theorem k_rest {a2 b2 : qM} {R E : Int} {j : Nat} {al from_ : Int} (D : zMd a2 b2 gh t N LL n L P d c (zIn b2 c j) R E) (Q : zNp a2 b2 t d c (zIn b2 c j) j al R E) (h7 : a2 43 7 = 0) (hal : al = 1 ∨ al = 0) (ef : from_ = P)
    (hK : ∀ a5 b5 n5 d5 c5, zLi a5 b5 gh t N LL n5 (L + 1) (E + 1) E d5 c5 → (∀ Kf : qM → Prop, Kf b5 → L_m_looksAt_129 X from_ (c j) (c (zIn b2 c j)) al b2 Kf) → K a5) : ∀ t0, t0 = (if al = 1 then zT a2 17 (c (zIn b2 c j)) else -1) → L_Rd_read_56 X L t0 a2 K := by
  intro t0 ht
  subst ef
  obtain ⟨nr, n1⟩ := D.nr
  obtain ⟨r13, r15, r17, _⟩ := D.S.B.rows
  have rd := D.S.C.rng (Nat.le_refl d)
  have rj := D.S.C.rng Q.jd
  have d0 : 0 ≤ c d := by omega
  have j0 : 0 ≤ c j := by omega
  have jd := Q.jd
  have hl : ∀ i, R ≤ i → i < E → 32 ≤ t i ∧ t i ≤ 126 := fun i u w => D.hl i (by have := D.ll; omega) w
  -- the model: what openParagraph answers
  have mo : ∀ Kf : qM → Prop, (b2 117 (c d) = 5 → al = 1 → c_m_isFence X b2 (fun r10 s9 => (((r10 = 0) → ((0 : Int) ≤ (c d)) ∧ ((c d) < (600 : Int)) ∧ (-2147483648 ≤ ((s9 123 (c d)) + 1) ∧ ((s9 123 (c d)) + 1) < 2147483648) ∧ ((0 : Int) ≤ (c d)) ∧ ((c d) < (600 : Int)) ∧ (∀ s11 : qM, s11 = q_up s9 123 (c d) ((s9 123 (c d)) + 1) → c_m_lays X (c d) s11 (fun s12 => zTl X from_ 0 (c d) s12 Kf))) ∧ (¬ (r10 = 0) → ((0 : Int) ≤ (c d)) ∧ ((c d) < (600 : Int)) ∧ (∀ s13 : qM, s13 = q_up s9 119 (c d) 0 → zTl X from_ 0 (c d) s13 Kf)))))
      → (¬ (b2 117 (c d) = 5 ∧ al = 1) → c_m_putsContainers X (c (zIn b2 c j)) b2 (fun r4 s3 => ((((s3 113 4) ≤ (b2 113 4)) → L_m_looksAt_228 X from_ (c j) r4 (if b2 117 (c d) = 6 ∨ b2 117 (c d) = 5 then c d else -1) 0 0 s3 Kf) ∧ (¬ ((s3 113 4) ≤ (b2 113 4)) → L_m_looksAt_228 X from_ (c j) r4 (if b2 117 (c d) = 6 ∨ b2 117 (c d) = 5 then c d else -1) 0 1 s3 Kf)))) → L_m_looksAt_129 X from_ (c j) (c (zIn b2 c j)) al b2 Kf := by
    intro Kf h5 hn
    refine sg_m_looksAt_129 (k_m_openParagraph D.S.B D.S.C (by omega) ?_)
    by_cases k6 : b2 117 (c d) = 6
    · rw [if_pos (Or.inl k6)] at hn ⊢
      exact z_f (by omega) ⟨d0, by omega, z_t (by omega) (hn (by omega))⟩
    · by_cases k5 : b2 117 (c d) = 5
      · rw [if_pos (Or.inr k5)] at hn ⊢
        exact z_f (by omega) ⟨d0, by omega, z_f (fun y => y k5) (z_c (fun z => hn (by omega)) (fun z => h5 k5 (by omega)))⟩
      · rw [if_neg (by omega)] at hn ⊢
        exact z_t rfl (hn (by omega))
  -- the place of the open leaf
  have leafAt : b2 117 (c d) = 5 → al = 1 → j + 1 = d ∧ zIn b2 c j = j := by
    intro k5 al1
    rcases Q.how with ⟨_, _, q⟩ | ⟨z, _⟩
    · have jlt : j < d := by
        by_cases z : j < d
        · exact z
        · have e : j = d := by omega
          have := Q.kj; rw [e] at this; omega
      have q := q.resolve_left (by omega)
      have ed : j + 1 = d := by
        by_cases z : j + 1 < d
        · have := D.S.C.con D.S.B z; omega
        · omega
      refine ⟨ed, ?_⟩
      have rj1 := D.S.C.rng (i := j + 1) (by omega)
      have hp := D.S.B.par (c (j + 1)) (by omega) rj1.2
      rw [(D.S.C.step j jlt).2.2.2, ed] at hp
      unfold zIn; rw [if_neg (fun z => by have := hp.2.2.2.mp z; omega)]
    · omega
  by_cases F : b2 117 (c d) = 5 ∧ al = 1
  · obtain ⟨k5, al1⟩ := F
    obtain ⟨ed, ez⟩ := leafAt k5 al1
    have et : t0 = c d := by rw [ht, if_pos al1, ez, D.S.C.next r17 Q.jd, if_pos (by omega), ed]
    rw [et]
    refine sg_Rd_read_56 (k_Blocks_kindOf (by omega) ?_)
    rw [zT_in d0 (by omega), (D.S.B.kd (c d) d0 rd.2).1]
    refine z_f (fun y => y k5) (D.inside k5 (fun a5 b5 d5 c5 Z W => hK a5 b5 _ _ _ Z (fun Kf hk => mo Kf (fun _ _ => W Kf hk) (fun y => absurd ⟨k5, al1⟩ y))))
  · have kt : zT a2 13 t0 ≠ 5 := by
      rw [ht]
      by_cases al1 : al = 1
      · rw [if_pos al1, D.S.C.next r17 D.S.id]
        by_cases z : zIn b2 c j < d
        · rw [if_pos z]
          have rz := D.S.C.rng (i := zIn b2 c j + 1) (by omega)
          rw [zT_in (by omega) (by omega), (D.S.B.kd _ (by omega) rz.2).1]
          by_cases y : zIn b2 c j + 1 = d
          · rw [y]; exact fun w => F ⟨w, al1⟩
          · have := D.S.C.con D.S.B (i := zIn b2 c j + 1) (by omega); omega
        · rw [if_neg z, zT_out (by omega)]; decide
      · rw [if_neg al1, zT_out (by omega)]; decide
    refine sg_Rd_read_56 (k_Blocks_kindOf (by omega) (z_t kt (sg_Rd_putContainersIn (k_Rd_pci (E - R).toNat 0 a2 b2 n d c (zIn b2 c j) R _ (by have := D.S.H1.RE; omega) D.S hl (by decide) D.S.H1.R0 (fun a3 b3 n3 d3 c3 i3 R3 Pe W3 => ?_)))))
    have S3 := Pe.S
    have G := Pe.G
    have Fr := Pe.F
    have nn := G.nn
    have hll := D.ll
    have rr := Pe.RR
    have inc := Pe.inc
    have D3 : zMd a3 b3 gh t N LL n3 L from_ d3 c3 i3 R3 E := by
      have nmf : ∀ κ r cc, 3 < κ → (r = 37 ∧ cc = 36 ∨ r = 41 ∧ cc = 40) → zNm a2 b2 n κ r cc → zNm a3 b3 n3 κ r cc := fun κ r cc hk hc M => M.fr nn (by rw [Fr.fa r (by omega) (by omega) (by omega)]) (Fr.fa (r + 1) (by omega) (by omega) (by omega)) (Fr.fa cc (by omega) (by omega) (by omega)) (fun k k0 kn => (G.old k k0 kn).2.2) (fun k u w => by have := G.new k u w; omega) (fun j _ => by rw [Fr.fb 130 (by decide) (by omega) (by decide)])
      refine zMd.mk S3 ?_ (D.Ls.gr Fr G) ((D.pt.gr (by omega) Fr G).le (Int.le_refl _) (by omega)) (nmf 7 37 36 (by decide) (by omega) D.nd) (nmf 4 41 40 (by decide) (by omega) D.nh) (by rw [Fr.fa 37 (by omega) (by decide) (by decide), Fr.fa 41 (by omega) (by decide) (by decide)]; exact D.nl) ?_ (by rw [Fr.f113 17 (by decide) (by decide)]; exact D.l17) (by rw [Fr.fb 124 (by decide) (by omega) (by decide)]; exact D.lb) D.hl ?_ (D.fz.gr (Fr.fa 32 (by omega) (by decide) (by decide)) (Fr.fa 9 (by omega) (by decide) (by decide)) (Fr.fa 11 (by omega) (by decide) (by decide)) (fun l u w => ⟨(D.Ls.ow l u w).1, (D.Ls.ow l u w).2.1⟩) (fun k u w => (G.old k u w).2.2) (fun k u w => G.new k u w))
      · exact D.T.fr (fun q hq => Fr.fa q (by omega) (by omega) (by omega)) (by rw [Fr.fa 29 (by omega) (by decide) (by decide)]) (by rw [Fr.fa 31 (by omega) (by decide) (by decide)]) (by rw [Fr.fa 33 (by omega) (by decide) (by decide)]) (fun q hq => Fr.fb q (by omega) (by omega) (by omega)) (fun j u v w y z => Fr.f113 j u y)
      · rw [Fr.fa 9 (by omega) (by decide) (by decide), Fr.fa 11 (by omega) (by decide) (by decide)]
        exact ⟨hll.1, hll.2.1, hll.2.2.1, hll.2.2.2.1, hll.2.2.2.2.1, by omega⟩
      · rcases Pe.how with ⟨y1, y2, y3, y4, y5, y6, y7⟩ | ⟨y1, y2, y3⟩
        · rw [y2, y3, y5, y6]; exact D.cur
        · intro z; have := S3.ki; rw [y3] at this; omega
    have kop : (if b2 117 (c d) = 6 ∨ b2 117 (c d) = 5 then c d else -1) = -1 ∨ (0 ≤ (if b2 117 (c d) = 6 ∨ b2 117 (c d) = 5 then c d else -1) ∧ (if b2 117 (c d) = 6 ∨ b2 117 (c d) = 5 then c d else -1) < 600) := by
      by_cases z : b2 117 (c d) = 6 ∨ b2 117 (c d) = 5
      · rw [if_pos z]; right; omega
      · rw [if_neg z]; exact Or.inl rfl
    have e4 : b2 113 4 = n := D.S.B.rows.2.2.2.2.2.2.2.2
    have e4' : b3 113 4 = n3 := S3.B.rows.2.2.2.2.2.2.2.2
    -- what is left for either case of the rest
    have fin : ∀ pt0 : Int, ((a3 43 7 ≠ 0 ∧ pt0 = 1 ∧ i3 = d3 ∧ n < n3) ∨ (a3 43 7 = 0 ∧ pt0 = 0 ∧ n3 = n)) → ∀ Kf : qM → Prop, L_m_looksAt_228 X from_ (c j) (c3 i3) (if b2 117 (c d) = 6 ∨ b2 117 (c d) = 5 then c d else -1) 0 pt0 b3 Kf → L_m_looksAt_129 X from_ (c j) (c (zIn b2 c j)) al b2 Kf := by
      intro pt0 hp Kf hk
      refine mo Kf (fun u w => absurd ⟨u, w⟩ F) (fun _ => sg_m_putsContainers (k_m_marker D.S.H2 hl (W3 _ ?_)))
      rw [e4, e4']
      rcases hp with ⟨_, y, _, z⟩ | ⟨_, y, z⟩
      · rw [y] at hk; exact z_f (by omega) hk
      · rw [y] at hk; exact z_t (by omega) hk
    obtain ⟨pt0, hp, hp2⟩ : ∃ pt0 : Int, ((a3 43 7 ≠ 0 ∧ pt0 = 1 ∧ i3 = d3 ∧ n < n3) ∨ (a3 43 7 = 0 ∧ pt0 = 0 ∧ n3 = n)) ∧ ((a3 43 7 ≠ 0 ∧ pt0 ≠ 0 ∧ i3 = d3) ∨ (a3 43 7 = 0 ∧ pt0 = 0 ∧ (if b2 117 (c d) = 6 ∨ b2 117 (c d) = 5 then c d else -1) = (if b3 117 (c3 d3) = 6 ∨ b3 117 (c3 d3) = 5 then c3 d3 else -1) ∧ zNp a3 b3 t d3 c3 i3 j al R3 E ∧ (al = 1 → b3 117 (c3 d3) ≠ 5) ∧ c j = c3 j)) := by
      rcases Pe.how with ⟨y1, y2, y3, y4, y5, y6, y7⟩ | ⟨y1, y2, y3⟩
      · refine ⟨0, Or.inr ⟨by rw [y2]; exact h7, rfl, y1⟩, Or.inr ⟨by rw [y2]; exact h7, rfl, by rw [y3, y5, y6], ?_, by rw [y3, y5, y6]; exact fun w z => F ⟨z, w⟩, by rw [y6]⟩⟩
        rw [y2, y3, y4, y5, y6, y7]; exact Q
      · exact ⟨1, Or.inl ⟨by omega, rfl, y3, y1⟩, Or.inl ⟨by omega, by decide, y3⟩⟩
    have r3 := S3.H1.rest
    have e3 := S3.H1.stop
    refine k_T_skipBlanks q_row_1 S3.H1.n240 (by rw [r3]; have := S3.H1.R0; omega) (by rw [e3]; have := S3.H1.En; have := S3.H1.n240; omega) ?_
    rw [r3, e3, S3.H1.skip S3.H1.R0 S3.H1.RE]
    refine z_c (fun nb => ?_) (fun bl => ?_)
    · refine D3.leaf (at_ := c j) (pt0 := pt0) nb kop (by
        rcases hp2 with y | ⟨y1, y2, y3, _⟩
        · exact Or.inl y
        · exact Or.inr ⟨y1, y2, y3⟩) (fun a5 b5 n5 d5 c5 Z W => hK a5 b5 _ _ _ Z (fun Kf hk => fin pt0 hp Kf (W Kf hk)))
    · have bl := Decidable.not_not.mp bl
      rcases hp2 with y | ⟨y1, y2, y3, y4, y5, y6⟩
      · exact D3.blank (j := j) (al := al) (pt0 := pt0) bl (Or.inl y) (fun z => absurd z y.2.1) (fun a5 b5 n5 d5 c5 Z W => hK a5 b5 _ _ _ Z (fun Kf hk => fin pt0 hp Kf (W Kf hk)))
      · exact D3.blank (j := j) (al := al) (pt0 := pt0) bl (Or.inr ⟨y1, y2, y4, y5⟩) (fun _ => y6) (fun a5 b5 n5 d5 c5 Z W => hK a5 b5 _ _ _ Z (fun Kf hk => fin pt0 hp Kf (W Kf hk)))
theorem k_line (Z : zLi a b gh t N LL n L P Q d c) (hL : L < LL) (h : ∀ a' b' n' d' c', zLi a' b' gh t N LL n' (L + 1) (a 11 L + 1) (a 11 L) d' c' → (∀ Kf : qM → Prop, Kf b' → c_m_looksAt X P b Kf) → K a') : c_Rd_read X L a K := by
  obtain ⟨n1, n2, n3⟩ := Z.T.n1
  obtain ⟨q1, q2, q3, q4, q5, q6⟩ := Z.T.ln
  obtain ⟨s8, s10, s29, s31, s33⟩ := Z.T.sz
  have L0 := Z.S.L0
  obtain ⟨p1, p2, p3, p4, p5⟩ := Z.pos
  rw [if_pos hL] at p2
  have hB := q4 L L0 hL
  rw [← p2] at hB
  obtain ⟨hB1, hB2, hB3⟩ := hB
  have hE := zEnd_is (t := t) hB2
  rw [← hB3] at hE
  obtain ⟨e1, e2, e3, e4⟩ := hE
  have cap := Z.cap
  have r13 := Z.B.rows.1
  have r17 := Z.B.rows.2.2.1
  have rb := Z.B.root
  have d0 := Z.C.rng (Nat.le_refl d)
  have n0 := Z.B.n1
  generalize eE : a 11 L = E at *
  -- the class's store as the containers begin
  refine sg_Rd_read (sg_Lines_begin q_lines_7 (k_Row_at q_row_8 (by omega) ?_))
  rw [zT_in L0 (by omega)]
  intro s3 h3
  have f3 : ∀ q, q ≠ 43 → s3 q = a q := fun q hq => by rw [h3]; exact q_up_ne hq
  refine sg_Lines_end q_lines_7 (k_Row_at q_row_10 (by rw [f3 10 (by decide)]; omega) ?_)
  rw [zT_in L0 (by rw [f3 10 (by decide)]; omega), f3 (10 + 1) (by decide)]
  intro s6 h6 s7 h7
  have f7 : ∀ q, q ≠ 43 → s7 q = a q := fun q hq => by rw [h7, q_up_ne hq, h6, q_up_ne hq]; exact f3 q hq
  refine sg_Rd_goOn (fun s1 g1 s2 g2 => ?_)
  have f2 : ∀ q, q ≠ 43 → s2 q = a q := fun q hq => by rw [g2, q_up_ne hq, g1, q_up_ne hq]; exact f7 q hq
  have v3 : s2 43 3 = P := by rw [g2, q_up_nj (by decide), g1, q_up_nj (by decide), h7, q_up_nj (by decide), h6, q_up_nj (by decide), h3, q_up_at]; exact p2.symm
  have v4 : s2 43 4 = E := by rw [g2, q_up_nj (by decide), g1, q_up_nj (by decide), h7, q_up_nj (by decide), h6, q_up_at]; exact eE
  have v5 : s2 43 5 = 0 := by rw [g2, q_up_nj (by decide), g1, q_up_at]
  have v6 : s2 43 6 = -1 := by rw [g2, q_up_at]
  have v7 : s2 43 7 = 0 := by rw [g2, q_up_nj (by decide), g1, q_up_nj (by decide), h7, q_up_at]
  have v8 : s2 43 8 = a 43 8 := by rw [g2, q_up_nj (by decide), g1, q_up_nj (by decide), h7, q_up_nj (by decide), h6, q_up_nj (by decide), h3, q_up_nj (by decide)]
  -- the model's
  have bt := Z.T.bt
  generalize eb : q_up (q_up (q_up b 113 49 P) 113 50 E) 124 L (-1) = b1
  have m1 : ∀ q, q ≠ 113 → q ≠ 124 → b1 q = b q := fun q u w => by rw [← eb, q_up_ne w, q_up_ne u, q_up_ne u]
  have m49 : b1 113 49 = P := by rw [← eb, q_up_ne (by decide), q_up_nj (by decide), q_up_at]
  have m50 : b1 113 50 = E := by rw [← eb, q_up_ne (by decide), q_up_at]
  have mj : ∀ j, j ≠ 49 → j ≠ 50 → b1 113 j = b 113 j := fun j u w => by rw [← eb, q_up_ne (by decide), q_up_nj w, q_up_nj u]
  have m124 : b1 124 L = -1 := by rw [← eb, q_up_at]
  have m124' : ∀ l, l ≠ L → b1 124 l = b 124 l := fun l hl => by rw [← eb, q_up_nj hl, q_up_ne (by decide), q_up_ne (by decide)]
  have start : ∀ Kf : qM → Prop, L_m_looksAt_31 X P 0 0 1 b1 Kf → c_m_looksAt X P b Kf := by
    intro Kf hk
    refine sg_m_looksAt (fun u1 w1 => k_m_endOf hB1 ?_ ?_ ?_)
    · rw [w1, q_up_nj (by decide)]; omega
    · rw [w1, q_up_nj (by decide)]; omega
    · rw [show zEnd (u1 114) P (u1 113 0) = E by rw [w1, q_up_nj (by decide), q_up_ne (by decide), bt.1, bt.2]; exact hB3.symm]
      intro u4 w4
      have : u4 113 17 = L := by rw [w4, q_up_nj (by decide), w1, q_up_nj (by decide)]; exact Z.l17
      rw [this]
      refine ⟨L0, by omega, fun u5 w5 => ?_⟩
      rw [w5, w4, w1, eb]; exact hk
  have H1 : zCl s2 t P E := zCl.mk v3 v4 hB1 e1 (by rw [f2 1 (by decide)]; omega) (by rw [f2 1 (by decide)]; omega) (by rw [f2 33 (by decide), f2 1 (by decide)]; omega) (by rw [f2 1 (by decide), f2 2 (by decide)]; exact fun i u w => (Z.T.ch i u (by omega)).1)
  have H2 : zMl b1 t P E := zMl.mk m49 m50 hB1 e1 (by rw [mj 0 (by decide) (by decide)]; omega) (by rw [mj 0 (by decide) (by decide)]; omega) (by rw [m1 114 (by decide) (by decide)]; exact bt.2)
  have B1 : zB s2 b1 n := Z.B.fr (fun q u w => f2 q (by omega)) (fun q u w => m1 q (by omega) (by omega)) (mj 4 (by decide) (by decide)) (mj 17 (by decide) (by decide))
  have C1 : zCh s2 b1 n d c := Z.C.fr (f2 18 (by decide)) (m1 118 (by decide) (by decide)) (m1 119 (by decide) (by decide)) (m1 122 (by decide) (by decide))
  have O1 : zOw s2 b1 n P := zOw.mk (fun k u w => by rw [f2 34 (by decide), m1 129 (by decide) (by decide)]; exact Z.O.own k u (by rw [if_pos hL]; exact w)) trivial
  have z0 : zIn b1 c 0 = 0 := by unfold zIn; split <;> rfl
  have k0 : b1 117 (c 0) ≤ 3 := by rw [C1.c0, B1.root.1]; decide
  refine k_Blocks_openIn (by rw [f2 17 (by decide)]; omega) ?_
  have nx := C1.next B1.rows.2.2.1 (Nat.zero_le d)
  rw [C1.c0] at nx
  rw [nx]
  have hl : ∀ i, P ≤ i → i < E → 32 ≤ t i ∧ t i ≤ 126 := fun i u w => by
    have h1 := (Z.T.ch i (by omega) (by omega)).2
    have h2 := e3 i u w
    unfold zChr at h1
    omega
  have go := k_Rd_goOn_21 (X := X) (t := t) (E := E) (from_ := P) (show n ≤ 482 by omega) d 0 s2 b1 P (fun s8 => (((s8 43 6) ≠ (-1)) → L_Rd_read_56 X L (-1) s8 K) ∧ (¬ ((s8 43 6) ≠ (-1)) → c_Blocks_openIn X (s8 43 5) s8 (fun r10 s9 => L_Rd_read_56 X L r10 s9 K))) (by omega) (Nat.zero_le d) H1 H2 B1 C1 O1 (by rw [z0, C1.c0]; exact v5) v6 k0
  refine go (fun a2 b2 j al R G W => ?_)
  have fa2 : ∀ q, q ≠ 34 → q ≠ 43 → a2 q = a q := fun q u w => (G.fa q u w).trans (f2 q w)
  have i117 : b2 117 = b1 117 := G.fb 117 (by decide) (by decide)
  have i120 : b2 120 = b1 120 := G.fb 120 (by decide) (by decide)
  have zin : zIn b2 c j = zIn b1 c j := by unfold zIn; rw [i117]
  have B2 : zB a2 b2 n := B1.fr (fun q u w => G.fa q (by omega) (by omega)) (fun q u w => G.fb q (by omega) (by omega)) (G.f113 4 (by decide)) (G.f113 17 (by decide))
  have C2 : zCh a2 b2 n d c := C1.fr (G.fa 18 (by decide) (by decide)) (G.fb 118 (by decide) (by decide)) (G.fb 119 (by decide) (by decide)) (G.fb 122 (by decide) (by decide))
  have l17' : b2 113 17 = L := by rw [G.f113 17 (by decide), mj 17 (by decide) (by decide)]; exact Z.l17
  have kz : b2 117 (c (zIn b2 c j)) ≤ 3 ∧ b2 117 (c (zIn b2 c j)) ≠ 2 := by
    have kj : b2 117 (c j) ≤ 3 := by rw [i117]; exact G.kj
    unfold zIn
    by_cases k2 : b2 117 (c j) = 2
    · rw [if_pos k2]
      have j0 : j ≠ 0 := fun z => by rw [z, C2.c0, B2.root.1] at k2; exact absurd k2 (by decide)
      have st := C2.step (j - 1) (by have := G.jd; omega)
      rw [show j - 1 + 1 = j by omega] at st
      have rj := C2.rng G.jd
      have hp := B2.par (c j) (by omega) rj.2
      rw [st.2.2.2] at hp
      exact ⟨hp.2.2.1, fun z => by have := hp.2.2.2.mp z; omega⟩
    · rw [if_neg k2]; exact ⟨kj, k2⟩
  have D : zMd a2 b2 gh t N LL n L P d c (zIn b2 c j) R E := by
    have rr := G.RR
    refine zMd.mk (zSt.mk ?_ ?_ B2 C2 G.own (Nat.le_trans zIn_le G.jd) (by rw [zin]; exact G.inn) kz (by omega) ?_ (by omega)) ?_ ?_ ?_ ?_ ?_ (by rw [fa2 37 (by decide) (by decide), fa2 41 (by decide) (by decide)]; exact Z.nl) ?_ l17' (by rw [G.fb 124 (by decide) (by decide)]; exact m124) hl ?_ (Z.fz.gr (fa2 32 (by decide) (by decide)) (fa2 9 (by decide) (by decide)) (fa2 11 (by decide) (by decide)) (fun l u w => ⟨(Z.S.ow l u w).1, (Z.S.ow l u w).2.1⟩) (fun k _ _ => by rw [i117, m1 117 (by decide) (by decide)]) (fun k u w => by omega))
    · exact zCl.mk G.ra (by rw [G.f43 4 (by decide) (by decide) (by decide)]; exact v4) (by omega) rr.2 (by rw [fa2 1 (by decide) (by decide)]; omega) (by rw [fa2 1 (by decide) (by decide)]; omega) (by rw [fa2 33 (by decide) (by decide), fa2 1 (by decide) (by decide)]; omega) (by rw [fa2 1 (by decide) (by decide), fa2 2 (by decide) (by decide)]; exact fun i u w => (Z.T.ch i u (by omega)).1)
    · exact zMl.mk G.rb (by rw [G.f113 50 (by decide)]; exact m50) (by omega) rr.2 (by rw [G.f113 0 (by decide)]; exact H2.En) (by rw [G.f113 0 (by decide)]; exact H2.n240) (by rw [G.fb 114 (by decide) (by decide)]; exact H2.tx)
    · rw [G.f43 8 (by decide) (by decide) (by decide), v8, G.f113 48 (by decide), mj 48 (by decide) (by decide)]; exact Z.ib
    · exact Z.T.fr (fun q hq => fa2 q (by omega) (by omega)) (by rw [fa2 29 (by decide) (by decide)]) (by rw [fa2 31 (by decide) (by decide)]) (by rw [fa2 33 (by decide) (by decide)]) (fun q hq => by rw [G.fb q (by omega) (by omega), m1 q (by omega) (by omega)]) (fun j u v w y z => by rw [G.f113 j y, mj j y z])
    · exact Z.S.fr fa2 (by rw [G.fb 114 (by decide) (by decide), m1 114 (by decide) (by decide)]) (by rw [i117, m1 117 (by decide) (by decide)]) (by rw [G.fb 125 (by decide) (by decide), m1 125 (by decide) (by decide)]) (by rw [G.fb 126 (by decide) (by decide), m1 126 (by decide) (by decide)]) (by rw [G.fb 127 (by decide) (by decide), m1 127 (by decide) (by decide)]) (by rw [G.fb 128 (by decide) (by decide), m1 128 (by decide) (by decide)]) (fun l hl => by rw [G.fb 124 (by decide) (by decide)]; exact m124' l (by omega))
    · exact (Z.pt.fr fa2 (by rw [i117, m1 117 (by decide) (by decide)])).le (Int.le_refl _) (by omega)
    · exact Z.nd.fr (Int.le_refl n) (by rw [fa2 37 (by decide) (by decide)]) (fa2 38 (by decide) (by decide)) (fa2 36 (by decide) (by decide)) (fun k _ _ => by rw [i117, m1 117 (by decide) (by decide)]) (fun k u w => by omega) (fun j _ => by rw [G.fb 130 (by decide) (by decide), m1 130 (by decide) (by decide)])
    · exact Z.nh.fr (Int.le_refl n) (by rw [fa2 41 (by decide) (by decide)]) (fa2 42 (by decide) (by decide)) (fa2 40 (by decide) (by decide)) (fun k _ _ => by rw [i117, m1 117 (by decide) (by decide)]) (fun k u w => by omega) (fun j _ => by rw [G.fb 130 (by decide) (by decide), m1 130 (by decide) (by decide)])
    · rw [fa2 9 (by decide) (by decide), fa2 11 (by decide) (by decide)]
      exact ⟨L0, hL, p2, eE.symm, hB1, rr.1⟩
    · unfold zF
      rw [i117, m1 117 (by decide) (by decide), fa2 26 (by decide) (by decide), fa2 28 (by decide) (by decide)]
      exact Z.cur
  have Np : zNp a2 b2 t d c (zIn b2 c j) j al R E := zNp.mk G.jd (by rw [i117]; exact G.kj) rfl (by rw [i117, i120]; exact G.how)
  have a7 : a2 43 7 = 0 := by rw [G.f43 7 (by decide) (by decide) (by decide)]; exact v7
  have W1 : ∀ Kf : qM → Prop, L_m_looksAt_129 X P (c j) (c (zIn b2 c j)) al b2 Kf → c_m_looksAt X P b Kf := fun Kf hk => start Kf (by
    have := W Kf (by rw [← zin]; exact hk)
    rw [z0, C1.c0] at this
    exact this)
  have al01 : al = 1 ∨ al = 0 := by
    rcases G.how with y | y
    · exact Or.inl y.1
    · exact Or.inr y.1
  have rest := k_rest (X := X) (K := K) D Np a7 al01 rfl (fun a5 b5 n5 d5 c5 Z5 W5 => h a5 b5 n5 d5 c5 Z5 (fun Kf hk => W1 Kf (W5 Kf hk)))
  have r17' := B2.rows.2.2.1
  rcases G.how with ⟨y1, y2, _⟩ | ⟨y1, y2, y3, _⟩
  · refine z_f (fun z => z y2) (k_Blocks_openIn (by omega) ?_)
    rw [G.inn, ← zin]
    exact rest _ (by rw [if_pos y1])
  · have := C2.rng (i := j + 1) (by omega)
    exact z_t (by omega) (rest _ (by rw [if_neg (by omega)]))
end Lines2
