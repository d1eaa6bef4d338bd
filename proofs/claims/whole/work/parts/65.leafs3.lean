/-! Definitions, lazy lines, lines in a FENCE, blank lines. -/
section Leafs3
variable {X : Nat × (Nat → Int32)} {a b s : qM} {K : qM → Prop} {KI : Int → qM → Prop} {gh : qM × qM} {t : Int → Int} {N LL n L P R E v x : Int} {d i : Nat} {c : Nat → Int}
theorem zMd.defn (D : zMd a b gh t N LL n L P d c i R E) (lt : R < E) (df : zDf t R E)
    (hK : ∀ a5 b5 d4 c4, zLi a5 b5 gh t N LL (n + 1) (L + 1) (E + 1) E d4 c4 → (∀ Kf : qM → Prop, Kf b5 → c_m_puts X (c i) 7 0 b (fun r7 s6 => (-2147483648 ≤ ((s6 113 49) + 1) ∧ ((s6 113 49) + 1) < 2147483648) ∧ (-2147483648 ≤ ((s6 113 49) + 1) ∧ ((s6 113 49) + 1) < 2147483648) ∧ (-2147483648 ≤ ((s6 113 49) + 1) ∧ ((s6 113 49) + 1) < 2147483648) ∧ c_m_letters X ((s6 113 49) + 1) (s6 113 50) s6 (fun r9 s8 => (-2147483648 ≤ (((s6 113 49) + 1) + r9) ∧ (((s6 113 49) + 1) + r9) < 2147483648) ∧ c_m_names X r7 ((s6 113 49) + 1) (((s6 113 49) + 1) + r9) s8 (fun s10 => zTl X P 0 r7 s10 Kf)))) → K a5) :
    c_Rd_putLeaf X 7 L a (fun r7 s6 => c_Blocks_define X (zCode (zAnc t (R + 1) (zWord t (R + 1) E))) r7 s6 (fun s8 => c_Blocks_close X r7 s8 (fun s9 => L_Rd_read_129 X L 0 r7 s9 K))) := by
  obtain ⟨g1, g2, g3, g4, g5, g6, g7, g8, g9, g10, g11⟩ := D.geo
  have n1 := D.S.B.n1
  have cap := D.S.cap
  have r := D.S.C.rng D.S.id
  have hll := D.ll
  have sz := D.T.sz
  have nl := D.nl
  have e6 : R + 6 ≤ E := by
    obtain ⟨f1, f2, f3, f4, ⟨f5, f6⟩, f7, f8, f9⟩ := df
    have l3 := zLook_lt f3 (by decide)
    have g := zSkip_is (t := t) (show zWord t (R + 1) E + 2 ≤ E by omega)
    have u := zWord_is (t := t) (show zSkip t (zWord t (R + 1) E + 2) E ≤ E by omega)
    omega
  obtain ⟨w1, w2, w3, w4⟩ := zWord_is (t := t) (show R + 1 ≤ E by omega)
  obtain ⟨p1, p2, p3⟩ := zAnc_good (t := t) (a := R + 1) (b := zWord t (R + 1) E)
  refine k_Rd_putLeaf D.S.B (by omega) D.S.inn (by omega) r.2 (fun a1 a2 A f26 e26 => ?_)
  have fo : ∀ q, q < 13 ∨ 28 < q → a2 q = a q := fun q hq => by rw [f26 q (by omega)]; exact A.fr q hq
  have s37 : a2 37 1 = a 37 1 := by rw [fo 37 (by omega)]
  refine sg_Blocks_define (k_Names_add q_names_35 (by decide) (by decide) (by rw [s37]; exact D.nd.s0) (by rw [s37]; omega) (fun a6 f6 m1 m2 m3 => ?_))
  have fB : ∀ q, q ≠ 26 → q ≠ 36 → q ≠ 37 → q ≠ 38 → a6 q = a1 q := fun q u w z y => (f6 q w z y).trans (f26 q u)
  refine k_Blocks_close (p := c i) (by rw [fB 15 (by decide) (by decide) (by decide) (by decide), A.rows.2.1]; omega) (by rw [fB 17 (by decide) (by decide) (by decide) (by decide), A.rows.2.2.1]; omega) (by omega) (by rw [fB 15 (by decide) (by decide) (by decide) (by decide), A.rows.2.1]; omega) (by rw [fB 16 (by decide) (by decide) (by decide) (by decide), A.f16, q_u_at]) (by omega) (by rw [fB 17 (by decide) (by decide) (by decide) (by decide), A.rows.2.2.1]; omega) (fun a7 f7 e18 => ?_)
  have fC : ∀ q, q ≠ 18 → q ≠ 26 → q ≠ 36 → q ≠ 37 → q ≠ 38 → a7 q = a1 q := fun q u w z y x => (f7 q u).trans (fB q w z y x)
  have a18 : a7 18 = q_u (a1 18) (c i) (-1) := by rw [e18, fB 18 (by decide) (by decide) (by decide) (by decide)]
  have a26 : a7 26 = q_u (a1 26) n L := by rw [f7 26 (by decide), f6 26 (by decide) (by decide) (by decide), e26]
  have M : zMod a1 a7 n (c i) 7 0 := zMod.mk (fun q u w y z w' y' z' => fC q y y' (by omega) (by omega) (by omega)) (fun k hk => ⟨by rw [fC 22 (by decide) (by decide) (by decide) (by decide) (by decide)], by rw [fC 24 (by decide) (by decide) (by decide) (by decide) (by decide)], by rw [a26, q_u_ne hk], by rw [fC 28 (by decide) (by decide) (by decide) (by decide) (by decide)]⟩) (by rw [fC 22 (by decide) (by decide) (by decide) (by decide) (by decide), if_neg (by omega)]; exact A.z22) (fun z => by omega) (fun z => by omega) (by rw [if_pos (Or.inr rfl)]; exact a18)
  obtain ⟨rr, b1, ⟨er, Pu⟩, W⟩ := z_1I (k_m_puts1 (X := X) (κ := 7) (τ := 0) (K := fun r b1 => r = n ∧ zPut b b1 n (c i) 7 0) D.S.B (by omega) D.S.l17.2 (by omega) r.2 (fun b2 P => ⟨rfl, P⟩))
  subst er
  have t1 : b1 114 = t := by rw [Pu.fr 114 (by decide) (by omega)]; exact D.S.H2.tx
  obtain ⟨b5, ⟨u1, u2, u3⟩, W5⟩ := z_1V (k_m_names (X := X) (s := b1) (k := rr) (a := R + 1) (b := zWord t (R + 1) E) (KV := fun s' => (∀ q, q ≠ 130 → s' q = b1 q) ∧ (∀ j, j < 6 * rr ∨ 6 * rr + 6 ≤ j → s' 130 j = b1 130 j) ∧ (∀ i : Nat, i < 6 → s' 130 (6 * rr + i) = (zAnc (b1 114) (R + 1) (zWord t (R + 1) E)).getD i 0)) (by omega) (by omega) (by omega) w1 (by omega) (fun s' u v w => ⟨u, v, w⟩))
  rw [t1] at u3
  have j5 : ∀ j, j ≠ 4 → b5 113 j = b 113 j := fun j hj => by rw [u1 113 (by decide)]; exact Pu.f113 j hj
  have fo7 : ∀ q, q < 13 ∨ 28 < q → q ≠ 36 → q ≠ 37 → q ≠ 38 → a7 q = a q := fun q u y z x => by rw [fC q (by omega) (by omega) y z x]; exact A.fr q u
  have F : zFl a a7 b b5 L := zFl.mk (fun q u w => fo7 q (by omega) (by omega) (by omega) (by omega)) (fo7 29 (by omega) (by decide) (by decide) (by decide)) (fun l hl => by rw [fo7 30 (by omega) (by decide) (by decide) (by decide)]) (fun q u w z => by rw [u1 q z]; exact Pu.fr q u (by omega)) j5 (fun q u w l hl => by rw [u1 q (by omega), Pu.fr q (by omega) (by omega)])
  have o1 : a7 1 = a 1 := fo7 1 (by omega) (by decide) (by decide) (by decide)
  have o43 : a7 43 = a 43 := fo7 43 (by omega) (by decide) (by decide) (by decide)
  have o29 : a7 29 = a 29 := fo7 29 (by omega) (by decide) (by decide) (by decide)
  have o31 : a7 31 = a 31 := fo7 31 (by omega) (by decide) (by decide) (by decide)
  have H4 : zCl a7 t R E := zCl.mk (by rw [o43]; exact D.S.H1.rest) (by rw [o43]; exact D.S.H1.stop) D.S.H1.R0 g7 (by rw [o1]; exact D.S.H1.En) (by rw [o1]; exact D.S.H1.n240) (by rw [o1, fo7 33 (by omega) (by decide) (by decide) (by decide)]; exact D.S.H1.ow) (by rw [o1, fo7 2 (by omega) (by decide) (by decide) (by decide)]; exact D.S.H1.tx)
  have H4b : zMl b5 t R E := zMl.mk (by rw [j5 49 (by decide)]; exact D.S.H2.rest) (by rw [j5 50 (by decide)]; exact D.S.H2.stop) D.S.H2.R0 g7 (by rw [j5 0 (by decide)]; exact D.S.H2.En) (by rw [j5 0 (by decide)]; exact D.S.H2.n240) (by rw [u1 114 (by decide)]; exact t1)
  have r13 : a7 13 1 = rr + 1 := by rw [fC 13 (by decide) (by decide) (by decide) (by decide) (by decide)]; exact A.rows.1
  have mk7 : b5 117 = q_u (b 117) rr 7 := by rw [u1 117 (by decide)]; exact Pu.f117
  have o130 : ∀ j, j < 6 * rr ∨ 6 * rr + 6 ≤ j → b5 130 j = b 130 j := fun j hj => by rw [u2 j hj, Pu.fr 130 (by decide) (by omega)]
  obtain ⟨b6, EB, W6⟩ := k_m_tail (X := X) (x := 0) (v := rr) (P := P) (N := N) (L := L) H4b (by rw [j5 0 (by decide)]; exact D.T.bt.1) (by decide) (by decide) (by omega) (by omega) (by rw [j5 17 (by decide)]; exact D.l17) hll.1 (by omega)
  refine k_Rd_129 (x := 0) H4 hll.1 (by rw [o31]; omega) (by rw [o29]; omega) (by rw [o31]; omega) (by rw [o29]; omega) (by omega) (by omega) (by omega) (by rw [if_pos rfl]) (fun a8 EA => ?_)
  have nh4 : zNm a7 b5 (rr + 1) 4 41 40 := D.nh.fr (by omega) (by rw [fo7 41 (by omega) (by decide) (by decide) (by decide)]) (fo7 42 (by omega) (by decide) (by decide) (by decide)) (fo7 40 (by omega) (by decide) (by decide) (by decide)) (fun k k0 kn => by rw [mk7, q_u_ne (by omega)]) (fun k u w => by rw [show k = rr by omega, mk7, q_u_at]; decide) (fun j hj => o130 j (by omega))
  have y37 : a7 37 1 = a 37 1 + 1 := by rw [f7 37 (by decide), m1, s37]
  have nd4 : zNm a7 b5 (rr + 1) 7 37 36 := D.nd.add (by omega) ⟨p1, p2, p3⟩ y37 (by rw [f7 (37 + 1) (by decide), m2, s37, fo (37 + 1) (by omega)]) (by rw [f7 36 (by decide), m3, s37, fo 36 (by omega)]) (fun k k0 kn => by rw [mk7, q_u_ne (by omega)]) (by rw [mk7, q_u_at]) (fun j hj => o130 j (by omega)) u3
  obtain ⟨d4, c4, Z⟩ := D.new (κ := 7) (τ := 0) (by omega) (fun z => by omega) (fun z => by omega) lt A M Pu F (fun q u w => u1 q (by omega)) (by rw [u1 113 (by decide)]) (fun z => absurd rfl z) (fun z => by omega) (fun z => by omega) (fun z => by omega) (fun _ => by rw [u1 124 (by decide), Pu.fr 124 (by decide) (by omega)]) nd4 nh4 (by rw [y37, fo7 41 (by omega) (by decide) (by decide) (by decide)]; omega) EA EB
  refine hK a8 b6 d4 c4 Z (fun Kf hk => W _ ?_)
  rw [show b1 113 49 = R by rw [Pu.f113 49 (by decide)]; exact D.S.H2.rest, show b1 113 50 = E by rw [Pu.f113 50 (by decide)]; exact D.S.H2.stop]
  refine ⟨by omega, by omega, by omega, k_m_letters (by omega) (by omega) (by omega) ?_⟩
  rw [t1]
  refine ⟨by omega, ?_⟩
  rw [show R + 1 + (zWord t (R + 1) E - (R + 1)) = zWord t (R + 1) E by omega]
  exact W5 _ (W6 Kf hk)
/-- a line that goes on with an open PARAGRAPH -/
theorem zMd.lazy (D : zMd a b gh t N LL n L P d c i R E) (k6 : b 117 (c d) = 6) (nb : zSkip t R E ≠ E)
    (hK : ∀ a5 b5, zLi a5 b5 gh t N LL n (L + 1) (E + 1) E d c → (∀ Kf : qM → Prop, Kf b5 → c_m_lays X (c d) b (fun s7 => zTl X P 0 (c d) s7 Kf)) → K a5) : c_Blocks_addLine X (c d) a (fun s9 => L_Rd_read_129 X L 0 (c d) s9 K) := by
  obtain ⟨g1, g2, g3, g4, g5, g6, g7, g8, g9, g10, g11⟩ := D.geo
  have n1 := D.S.B.n1
  have cap := D.S.cap
  have r := D.S.C.rng (Nat.le_refl d)
  have hll := D.ll
  have sz := D.T.sz
  have rg := D.Ls.rg (c d) (by omega) r.2 (by omega) (by omega)
  have hR := D.S.H1.R0
  have r27 := D.S.B.rows.2.2.2.2.2.2.2.1
  have r13 := D.S.B.rows.1
  have zf0 : 0 ≤ zF a b (c d) := by unfold zF; split <;> omega
  refine k_Blocks_addLine (by omega) (by omega) (by omega) (by omega) (by omega) (fun a4 fa e28 => ?_)
  obtain ⟨b4, ⟨fl, e124, e125, e126⟩, W4⟩ := z_1V (k_m_lays (X := X) (y := c d) (s := b) (L := L) (R := R) (E := E) (K := fun s' => (∀ q, q ≠ 124 → q ≠ 125 → q ≠ 126 → s' q = b q) ∧ s' 124 = q_u (b 124) L (c d) ∧ s' 125 = q_u (b 125) L R ∧ s' 126 = q_u (b 126) L E) D.l17 hll.1 (by omega) D.S.H2.rest D.S.H2.stop (fun s' u v w z => ⟨u, v, w, z⟩))
  have m113 : b4 113 = b 113 := fl 113 (by decide) (by decide) (by decide)
  have H4 : zCl a4 t R E := zCl.mk (by rw [fa 43 (by decide)]; exact D.S.H1.rest) (by rw [fa 43 (by decide)]; exact D.S.H1.stop) hR g7 (by rw [fa 1 (by decide)]; exact D.S.H1.En) (by rw [fa 1 (by decide)]; exact D.S.H1.n240) (by rw [fa 33 (by decide), fa 1 (by decide)]; exact D.S.H1.ow) (by rw [fa 1 (by decide), fa 2 (by decide)]; exact D.S.H1.tx)
  have H4b : zMl b4 t R E := zMl.mk (by rw [m113]; exact D.S.H2.rest) (by rw [m113]; exact D.S.H2.stop) hR g7 (by rw [m113]; exact D.S.H2.En) (by rw [m113]; exact D.S.H2.n240) (by rw [fl 114 (by decide) (by decide) (by decide)]; exact D.S.H2.tx)
  obtain ⟨b5, EB, W5⟩ := k_m_tail (X := X) (x := 0) (v := c d) (P := P) (N := N) (L := L) H4b (by rw [m113]; exact D.T.bt.1) (by decide) (by decide) (by omega) (by omega) (by rw [m113]; exact D.l17) hll.1 (by omega)
  refine k_Rd_129 (x := 0) H4 hll.1 (by rw [fa 31 (by decide)]; omega) (by rw [fa 29 (by decide)]; omega) (by rw [fa 31 (by decide)]; omega) (by rw [fa 29 (by decide)]; omega) (by rw [fa 13 (by decide)]; omega) (by omega) (by rw [fa 13 (by decide)]; omega) (by rw [if_pos rfl]) (fun a5 EA => ?_)
  exact hK a5 b5 (D.old (Or.inr k6) (fun _ => nb) fa e28 (fun q _ u w z => fl q u w z) (by rw [if_neg (by omega)]; exact fl 123 (by decide) (by decide) (by decide)) e124 e125 e126 EA EB) (fun Kf hk => W4 _ (W5 Kf hk))
/-- a line of a FENCE, or its end -/
theorem zMd.inside (D : zMd a b gh t N LL n L P d c i R E) (k5 : b 117 (c d) = 5)
    (hK : ∀ a5 b5 d5 c5, zLi a5 b5 gh t N LL n (L + 1) (E + 1) E d5 c5 → (∀ Kf : qM → Prop, Kf b5 → c_m_isFence X b (fun r10 s9 => (((r10 = 0) → ((0 : Int) ≤ (c d)) ∧ ((c d) < (600 : Int)) ∧ (-2147483648 ≤ ((s9 123 (c d)) + 1) ∧ ((s9 123 (c d)) + 1) < 2147483648) ∧ ((0 : Int) ≤ (c d)) ∧ ((c d) < (600 : Int)) ∧ (∀ s11 : qM, s11 = q_up s9 123 (c d) ((s9 123 (c d)) + 1) → c_m_lays X (c d) s11 (fun s12 => zTl X P 0 (c d) s12 Kf))) ∧ (¬ (r10 = 0) → ((0 : Int) ≤ (c d)) ∧ ((c d) < (600 : Int)) ∧ (∀ s13 : qM, s13 = q_up s9 119 (c d) 0 → zTl X P 0 (c d) s13 Kf))))) → K a5) :
    c_Rd_readInFence X (c d) a (fun r11 s10 => c_Blocks_kindOf X r11 s10 (fun r16 s15 => (((r16 = 4) → c_Rd_ownRest X L r11 s15 (fun s17 => (∀ s18 : qM, s18 = q_up s17 43 8 0 → K s18))) ∧ (¬ (r16 = 4) → c_Blocks_beginContent X L (s15 43 3) s15 (fun s19 => c_Rd_ownRest X L r11 s19 (fun s20 => (∀ s21 : qM, s21 = q_up s20 43 8 0 → K s21))))))) := by
  obtain ⟨g1, g2, g3, g4, g5, g6, g7, g8, g9, g10, g11⟩ := D.geo
  have n1 := D.S.B.n1
  have cap := D.S.cap
  have r := D.S.C.rng (Nat.le_refl d)
  have hll := D.ll
  have sz := D.T.sz
  have rg := D.Ls.rg (c d) (by omega) r.2 (by omega) (by omega)
  have fl := D.S.B.fl (c d) (by omega) r.2
  have hR := D.S.H1.R0
  obtain ⟨r13, r15, r17, _, _, _, _, r27, _⟩ := D.S.B.rows
  have zf0 : 0 ≤ zF a b (c d) := by unfold zF; split <;> omega
  have l17 := D.l17
  refine sg_Rd_readInFence (k_Rd_isFenceMark D.S.H1 (fun f => z_f (by decide) ?_) (fun f => z_t rfl ?_))
  · -- its end
    have d0 : d ≠ 0 := fun z => by rw [z, D.S.C.c0, D.S.B.root.1] at k5; omega
    have st := D.S.C.step (d - 1) (by omega)
    rw [show d - 1 + 1 = d by omega] at st
    have rp := D.S.C.rng (i := d - 1) (by omega)
    have kp := D.S.C.con D.S.B (i := d - 1) (by omega)
    refine k_Blocks_close (p := c (d - 1)) (by omega) (by omega) (by omega) (by omega) (by rw [(D.S.B.kd (c d) (by omega) r.2).2.2.2]; exact st.2.2.2) (by omega) (by omega) (fun a4 fa e18 => ?_)
    generalize eb : q_up b 119 (c d) 0 = b4
    have fb : ∀ q, q ≠ 119 → b4 q = b q := fun q hq => by rw [← eb, q_up_ne hq]
    have e119 : b4 119 = q_u (b 119) (c d) 0 := by rw [← eb, q_up_fn]
    have H4 : zCl a4 t R E := zCl.mk (by rw [fa 43 (by decide)]; exact D.S.H1.rest) (by rw [fa 43 (by decide)]; exact D.S.H1.stop) hR g7 (by rw [fa 1 (by decide)]; exact D.S.H1.En) (by rw [fa 1 (by decide)]; exact D.S.H1.n240) (by rw [fa 33 (by decide), fa 1 (by decide)]; exact D.S.H1.ow) (by rw [fa 1 (by decide), fa 2 (by decide)]; exact D.S.H1.tx)
    have H4b : zMl b4 t R E := zMl.mk (by rw [fb 113 (by decide)]; exact D.S.H2.rest) (by rw [fb 113 (by decide)]; exact D.S.H2.stop) hR g7 (by rw [fb 113 (by decide)]; exact D.S.H2.En) (by rw [fb 113 (by decide)]; exact D.S.H2.n240) (by rw [fb 114 (by decide)]; exact D.S.H2.tx)
    have C4 : zCh a4 b4 n (d - 1) c := by
      refine D.S.C.cut (i := d - 1) (by omega) (fun k k0 kn => ?_) (by rw [e18, q_u_at]) (fun k hk => by rw [e18, q_u_ne (by omega)]) (fb 122 (by decide)) (fb 118 (by decide))
      have o := D.S.C.opn k k0 kn
      rw [e119]
      by_cases e : k = c d
      · rw [e, q_u_at]
        refine ⟨Or.inl rfl, fun z => absurd z (by decide), fun ⟨j, hj, z⟩ => ?_⟩
        have := D.S.C.lts (i := j) (j := d) (Nat.lt_of_le_of_lt hj (Nat.sub_lt (Nat.pos_of_ne_zero d0) Nat.one_pos)) (Nat.le_refl d)
        rw [z] at this
        exact absurd this (Int.lt_irrefl _)
      · rw [q_u_ne e]
        refine ⟨o.1, fun z => ?_, fun ⟨j, hj, z⟩ => o.2.mpr ⟨j, Nat.le_trans hj (Nat.sub_le d 1), z⟩⟩
        obtain ⟨j, hj, z⟩ := o.2.mp z
        exact ⟨j, Nat.le_sub_one_of_lt (Nat.lt_of_le_of_ne hj (fun y => e (by rw [y] at z; exact z))), z⟩
    obtain ⟨b5, EB, W5⟩ := k_m_tail (X := X) (x := 0) (v := c d) (P := P) (N := N) (L := L) H4b (by rw [fb 113 (by decide)]; exact D.T.bt.1) (by decide) (by decide) (by omega) (by omega) (by rw [fb 113 (by decide)]; exact D.l17) hll.1 (by omega)
    refine k_Rd_end H4 hll.1 (by rw [fa 31 (by decide)]; omega) (by rw [fa 29 (by decide)]; omega) (by rw [fa 31 (by decide)]; omega) (by rw [fa 29 (by decide)]; omega) (by rw [fa 13 (by decide)]; omega) (by omega) (by rw [fa 13 (by decide)]; omega) (fun a5 EA => ?_)
    refine hK a5 b5 _ _ (D.none fa fb C4 (by omega) (by omega) r.2 EA EB) (fun Kf hk => k_m_isFence D.S.H2 (fun _ => z_f (by decide) ⟨by omega, by omega, fun s13 e13 => ?_⟩) (fun y => absurd f y))
    rw [e13, eb]; exact W5 Kf hk
  · refine k_Blocks_addLine (by omega) (by omega) (by omega) (by omega) (by omega) (fun a4 fa e28 => ?_)
    generalize eb : q_up b 123 (c d) (b 123 (c d) + 1) = b1
    have f1 : ∀ q, q ≠ 123 → b1 q = b q := fun q hq => by rw [← eb, q_up_ne hq]
    have e123 : b1 123 = q_u (b 123) (c d) (b 123 (c d) + 1) := by rw [← eb, q_up_fn]
    obtain ⟨b4, ⟨fl4, e124, e125, e126⟩, W4⟩ := z_1V (k_m_lays (X := X) (y := c d) (s := b1) (L := L) (R := R) (E := E) (K := fun s' => (∀ q, q ≠ 124 → q ≠ 125 → q ≠ 126 → s' q = b1 q) ∧ s' 124 = q_u (b1 124) L (c d) ∧ s' 125 = q_u (b1 125) L R ∧ s' 126 = q_u (b1 126) L E) (by rw [f1 113 (by decide)]; exact D.l17) hll.1 (by omega) (by rw [f1 113 (by decide)]; exact D.S.H2.rest) (by rw [f1 113 (by decide)]; exact D.S.H2.stop) (fun s' u v w z => ⟨u, v, w, z⟩))
    have m113 : b4 113 = b 113 := by rw [fl4 113 (by decide) (by decide) (by decide), f1 113 (by decide)]
    have H4 : zCl a4 t R E := zCl.mk (by rw [fa 43 (by decide)]; exact D.S.H1.rest) (by rw [fa 43 (by decide)]; exact D.S.H1.stop) hR g7 (by rw [fa 1 (by decide)]; exact D.S.H1.En) (by rw [fa 1 (by decide)]; exact D.S.H1.n240) (by rw [fa 33 (by decide), fa 1 (by decide)]; exact D.S.H1.ow) (by rw [fa 1 (by decide), fa 2 (by decide)]; exact D.S.H1.tx)
    have H4b : zMl b4 t R E := zMl.mk (by rw [m113]; exact D.S.H2.rest) (by rw [m113]; exact D.S.H2.stop) hR g7 (by rw [m113]; exact D.S.H2.En) (by rw [m113]; exact D.S.H2.n240) (by rw [fl4 114 (by decide) (by decide) (by decide), f1 114 (by decide)]; exact D.S.H2.tx)
    obtain ⟨b5, EB, W5⟩ := k_m_tail (X := X) (x := 0) (v := c d) (P := P) (N := N) (L := L) H4b (by rw [m113]; exact D.T.bt.1) (by decide) (by decide) (by omega) (by omega) (by rw [m113]; exact D.l17) hll.1 (by omega)
    refine k_Rd_end H4 hll.1 (by rw [fa 31 (by decide)]; omega) (by rw [fa 29 (by decide)]; omega) (by rw [fa 31 (by decide)]; omega) (by rw [fa 29 (by decide)]; omega) (by rw [fa 13 (by decide)]; omega) (by omega) (by rw [fa 13 (by decide)]; omega) (fun a5 EA => ?_)
    refine hK a5 b5 _ _ (D.old (Or.inl k5) (fun z => by omega) fa e28 (fun q y u w z => by rw [fl4 q u w z, f1 q y]) (by rw [if_pos k5, fl4 123 (by decide) (by decide) (by decide)]; exact e123) (by rw [e124, f1 124 (by decide)]) (by rw [e125, f1 125 (by decide)]) (by rw [e126, f1 126 (by decide)]) EA EB) (fun Kf hk => k_m_isFence D.S.H2 (fun y => absurd y f) (fun _ => z_t rfl ⟨by omega, by omega, by omega, by omega, by omega, fun s11 e11 => ?_⟩))
    rw [e11, eb]; exact W4 _ (W5 Kf hk)
end Leafs3
