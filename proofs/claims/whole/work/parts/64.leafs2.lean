/-! Headings, definitions, lazy lines. -/
section Leafs2
variable {X : Nat × (Nat → Int32)} {a b s : qM} {K : qM → Prop} {KI : Int → qM → Prop} {gh : qM × qM} {t : Int → Int} {N LL n L P R E v x : Int} {d i : Nat} {c : Nat → Int}
/-- what the model does at the end of a line, as a formula -/
def zTl (X : Nat × (Nat → Int32)) (P x v : Int) (s : qM) (Kf : qM → Prop) : Prop := (((s 113 0) ≤ (s 113 50)) → L_m_looksAt_496 X P x v (s 113 49) (s 113 50) s Kf) ∧ (¬ ((s 113 0) ≤ (s 113 50)) → (-2147483648 ≤ ((s 113 50) + 1) ∧ ((s 113 50) + 1) < 2147483648) ∧ L_m_looksAt_496 X P x v (s 113 49) ((s 113 50) + 1) s Kf)
theorem zMd.head {h : Int} (D : zMd a b gh t N LL n L P d c i R E) (lt : R < E) (h1 : 1 ≤ h) (h3 : h ≤ 3) (hE : R + h ≤ E)
    (hK : ∀ a5 b5 d4 c4, zLi a5 b5 gh t N LL (n + 1) (L + 1) (E + 1) E d4 c4 → (∀ Kf : qM → Prop, Kf b5 → c_m_puts X (c i) 4 h b (fun r11 s10 => (-2147483648 ≤ ((s10 113 49) + h) ∧ ((s10 113 49) + h) < 2147483648) ∧ (∀ s12 : qM, s12 = q_up s10 113 49 ((s10 113 49) + h) → c_m_lays X r11 s12 (fun s13 => (-2147483648 ≤ ((s13 113 49) - h) ∧ ((s13 113 49) - h) < 2147483648) ∧ (∀ s14 : qM, s14 = q_up s13 113 49 ((s13 113 49) - h) → (-2147483648 ≤ ((s14 113 49) + h) ∧ ((s14 113 49) + h) < 2147483648) ∧ c_m_names X r11 ((s14 113 49) + h) (s14 113 50) s14 (fun s15 => zTl X P 0 r11 s15 Kf)))))) → K a5) : c_Rd_putHeading X L h a (fun r s => L_Rd_read_129 X L 0 r s K) := by
  obtain ⟨g1, g2, g3, g4, g5, g6, g7, g8, g9, g10, g11⟩ := D.geo
  have n1 := D.S.B.n1
  have cap := D.S.cap
  have r := D.S.C.rng D.S.id
  have hll := D.ll
  have sz := D.T.sz
  have nl := D.nl
  refine sg_Rd_putHeading (k_Rd_putLeaf D.S.B (by omega) D.S.inn (by omega) r.2 (fun a1 a2 A f26 e26 => ?_))
  refine sg_Blocks_measure (k_Row_set q_row_21 (by rw [f26 21 (by decide), A.rows.2.2.2.2.1]; omega) (fun _ _ => ?_) (fun z => absurd ⟨by omega, by rw [f26 21 (by decide), A.rows.2.2.2.2.1]; omega⟩ z))
  generalize e3 : q_up a2 (21 + 1) n h = a3
  have f3 : ∀ q, q ≠ 22 → a3 q = a2 q := fun q hq => by rw [← e3, q_up_ne hq]
  have e22 : a3 22 = q_u (a2 22) n h := by rw [← e3, q_up_fn]
  have z28 : a3 28 n = 0 := by rw [f3 28 (by decide), f26 28 (by decide), A.f28, q_u_at]
  have z27 : a3 27 1 = n + 1 := by rw [f3 27 (by decide), f26 27 (by decide)]; exact A.rows.2.2.2.2.2.2.2
  refine k_Blocks_addLine (by omega) (by omega) (by omega) (by omega) (by omega) (fun a4 f28 e28 => ?_)
  rw [z28] at e28
  have fA : ∀ q, q ≠ 26 → q ≠ 22 → q ≠ 28 → a4 q = a1 q := fun q u w z => (f28 q z).trans ((f3 q w).trans (f26 q u))
  have fo : ∀ q, q < 13 ∨ 28 < q → a4 q = a q := fun q hq => by rw [fA q (by omega) (by omega) (by omega)]; exact A.fr q hq
  have r3 : a4 43 3 = R := by rw [fo 43 (by omega)]; exact D.S.H1.rest
  rw [r3]
  refine ⟨by omega, sg_Blocks_beginContent (k_Row_set q_row_29 (by rw [fo 29 (by omega)]; omega) (fun _ _ => ?_) (fun z => absurd ⟨hll.1, by rw [fo 29 (by omega)]; omega⟩ z))⟩
  generalize e5 : q_up a4 (29 + 1) L (R + h) = a5
  have f5 : ∀ q, q ≠ 30 → a5 q = a4 q := fun q hq => by rw [← e5, q_up_ne hq]
  have e30 : a5 30 = q_u (a4 30) L (R + h) := by rw [← e5, q_up_fn]
  have ft : ∀ q, q ≠ 30 → q < 13 ∨ 28 < q → a5 q = a q := fun q u w => (f5 q u).trans (fo q w)
  have r35 : a5 43 3 = R := by rw [ft 43 (by decide) (by omega)]; exact D.S.H1.rest
  have r45 : a5 43 4 = E := by rw [ft 43 (by decide) (by omega)]; exact D.S.H1.stop
  rw [r35, r45]
  refine ⟨by omega, k_T_anchorCode q_row_1 (by rw [ft 1 (by decide) (by omega)]; omega) (by omega) hE (by omega) ?_⟩
  have ec : zAnc (zT a5 1) (R + h) E = zAnc t (R + h) E := zAnc_congr (fun j u w => by
    have : zT a5 1 j = zT a 1 j := by unfold zT; rw [ft 1 (by decide) (by omega), ft (1 + 1) (by decide) (by omega)]
    rw [this]; exact D.S.H1.zt (by omega) (by omega))
  rw [ec]
  obtain ⟨p1, p2, p3⟩ := zAnc_good (t := t) (a := R + h) (b := E)
  have s41 : a5 41 1 = a 41 1 := by rw [ft 41 (by decide) (by omega)]
  refine sg_Blocks_anchor (k_Names_add q_names_39 (by decide) (by decide) (by rw [s41]; exact D.nh.s0) (by rw [s41]; omega) (fun a6 f6 m1 m2 m3 => ?_))
  have fB : ∀ q, q ≠ 30 → q ≠ 40 → q ≠ 41 → q ≠ 42 → a6 q = a4 q := fun q u w z y => (f6 q w z y).trans (f5 q u)
  refine k_Blocks_close (p := c i) (by rw [fB 15 (by decide) (by decide) (by decide) (by decide), fA 15 (by decide) (by decide) (by decide), A.rows.2.1]; omega) (by rw [fB 17 (by decide) (by decide) (by decide) (by decide), fA 17 (by decide) (by decide) (by decide), A.rows.2.2.1]; omega) (by omega) (by rw [fB 15 (by decide) (by decide) (by decide) (by decide), fA 15 (by decide) (by decide) (by decide), A.rows.2.1]; omega) (by rw [fB 16 (by decide) (by decide) (by decide) (by decide), fA 16 (by decide) (by decide) (by decide), A.f16, q_u_at]) (by omega) (by rw [fB 17 (by decide) (by decide) (by decide) (by decide), fA 17 (by decide) (by decide) (by decide), A.rows.2.2.1]; omega) (fun a7 f7 e18 => ?_)
  have fC : ∀ q, q ≠ 18 → q ≠ 30 → q ≠ 40 → q ≠ 41 → q ≠ 42 → a7 q = a4 q := fun q u w z y x => (f7 q u).trans (fB q w z y x)
  have a18 : a7 18 = q_u (a1 18) (c i) (-1) := by rw [e18, fB 18 (by decide) (by decide) (by decide) (by decide), fA 18 (by decide) (by decide) (by decide)]
  have a22 : a7 22 = q_u (a1 22) n h := by rw [fC 22 (by decide) (by decide) (by decide) (by decide) (by decide), f28 22 (by decide), e22, f26 22 (by decide)]
  have a26 : a7 26 = q_u (a1 26) n L := by rw [fC 26 (by decide) (by decide) (by decide) (by decide) (by decide), f28 26 (by decide), f3 26 (by decide), e26]
  have a28 : a7 28 = q_u (a1 28) n (0 + 1) := by rw [fC 28 (by decide) (by decide) (by decide) (by decide) (by decide), e28, f3 28 (by decide), f26 28 (by decide)]
  have a30 : a7 30 = q_u (a 30) L (R + h) := by rw [f7 30 (by decide), f6 30 (by decide) (by decide) (by decide), e30, fo 30 (by omega)]
  have M : zMod a1 a7 n (c i) 4 h := zMod.mk (fun q u w y z w' y' z' => by rw [fC q y (by omega) (by omega) (by omega) (by omega)]; exact fA q y' z z') (fun k hk => ⟨by rw [a22, q_u_ne hk], by rw [fC 24 (by decide) (by decide) (by decide) (by decide) (by decide), fA 24 (by decide) (by decide) (by decide)], by rw [a26, q_u_ne hk], by rw [a28, q_u_ne hk]⟩) (by rw [a22, q_u_at, if_pos (Or.inr rfl)]) (fun z => by omega) (fun z => by omega) (by rw [if_pos (Or.inl rfl)]; exact a18)
  obtain ⟨rr, b1, ⟨er, Pu⟩, W⟩ := z_1I (k_m_puts1 (X := X) (κ := 4) (τ := h) (K := fun r b1 => r = n ∧ zPut b b1 n (c i) 4 h) D.S.B (by omega) D.S.l17.2 (by omega) r.2 (fun b2 P => ⟨rfl, P⟩))
  subst er
  -- the model: the rest is moved, laid, moved back, named
  have q49 : b1 113 49 = R := by rw [Pu.f113 49 (by decide)]; exact D.S.H2.rest
  generalize eb2 : q_up b1 113 49 (b1 113 49 + h) = b2
  have h2f : ∀ q, q ≠ 113 → b2 q = b1 q := fun q hq => by rw [← eb2, q_up_ne hq]
  have h2j : ∀ j, j ≠ 49 → b2 113 j = b1 113 j := fun j hj => by rw [← eb2, q_up_nj hj]
  have h2r : b2 113 49 = R + h := by rw [← eb2, q_up_at, q49]
  obtain ⟨b3, ⟨fl, e124, e125, e126⟩, W3⟩ := z_1V (k_m_lays (X := X) (y := rr) (s := b2) (L := L) (R := R + h) (E := E) (K := fun s' => (∀ q, q ≠ 124 → q ≠ 125 → q ≠ 126 → s' q = b2 q) ∧ s' 124 = q_u (b2 124) L rr ∧ s' 125 = q_u (b2 125) L (R + h) ∧ s' 126 = q_u (b2 126) L E) (by rw [h2j 17 (by decide), Pu.f113 17 (by decide)]; exact D.l17) hll.1 (by omega) h2r (by rw [h2j 50 (by decide), Pu.f113 50 (by decide)]; exact D.S.H2.stop) (fun s' u v w z => ⟨u, v, w, z⟩))
  have r3b : b3 113 49 = R + h := by rw [fl 113 (by decide) (by decide) (by decide)]; exact h2r
  generalize eb4 : q_up b3 113 49 (b3 113 49 - h) = b4
  have h4f : ∀ q, q ≠ 113 → b4 q = b3 q := fun q hq => by rw [← eb4, q_up_ne hq]
  have h4j : ∀ j, j ≠ 49 → b4 113 j = b3 113 j := fun j hj => by rw [← eb4, q_up_nj hj]
  have h4r : b4 113 49 = R := by rw [← eb4, q_up_at, r3b]; omega
  have j4 : ∀ j, j ≠ 4 → b4 113 j = b 113 j := fun j hj => by
    by_cases z : j = 49
    · rw [z, h4r, ← D.S.H2.rest]
    · rw [h4j j z, fl 113 (by decide) (by decide) (by decide), h2j j z, Pu.f113 j hj]
  have f4b : ∀ q, q ≠ 113 → q ≠ 124 → q ≠ 125 → q ≠ 126 → b4 q = b1 q := fun q u w y z => by rw [h4f q u, fl q w y z, h2f q u]
  have t4 : b4 114 = t := by rw [f4b 114 (by decide) (by decide) (by decide) (by decide), Pu.fr 114 (by decide) (by omega)]; exact D.S.H2.tx
  obtain ⟨b5, ⟨u1, u2, u3⟩, W5⟩ := z_1V (k_m_names (X := X) (s := b4) (k := rr) (a := R + h) (b := E) (KV := fun s' => (∀ q, q ≠ 130 → s' q = b4 q) ∧ (∀ j, j < 6 * rr ∨ 6 * rr + 6 ≤ j → s' 130 j = b4 130 j) ∧ (∀ i : Nat, i < 6 → s' 130 (6 * rr + i) = (zAnc (b4 114) (R + h) E).getD i 0)) (by omega) (by omega) (by omega) hE (by omega) (fun s' u v w => ⟨u, v, w⟩))
  rw [t4] at u3
  have j5 : ∀ j, j ≠ 4 → b5 113 j = b 113 j := fun j hj => by rw [u1 113 (by decide)]; exact j4 j hj
  have g5b : ∀ q, q ≠ 113 → q ≠ 124 → q ≠ 125 → q ≠ 126 → q ≠ 130 → b5 q = b1 q := fun q u w y z x => by rw [u1 q x]; exact f4b q u w y z
  have v124 : b5 124 = q_u (b 124) L rr := by rw [u1 124 (by decide), h4f 124 (by decide), e124, h2f 124 (by decide), Pu.fr 124 (by decide) (by omega)]
  have v125 : b5 125 = q_u (b 125) L (R + h) := by rw [u1 125 (by decide), h4f 125 (by decide), e125, h2f 125 (by decide), Pu.fr 125 (by decide) (by omega)]
  have v126 : b5 126 = q_u (b 126) L E := by rw [u1 126 (by decide), h4f 126 (by decide), e126, h2f 126 (by decide), Pu.fr 126 (by decide) (by omega)]
  have fo7 : ∀ q, q < 13 ∨ 28 < q → q ≠ 30 → q ≠ 40 → q ≠ 41 → q ≠ 42 → a7 q = a q := fun q u w y z x => by rw [fC q (by omega) w y z x]; exact fo q u
  have F : zFl a a7 b b5 L := zFl.mk (fun q u w => fo7 q (by omega) (by omega) (by omega) (by omega) (by omega)) (fo7 29 (by omega) (by decide) (by decide) (by decide) (by decide)) (fun l hl => by rw [a30, q_u_ne hl]) (fun q u w z => by rw [g5b q u (by omega) (by omega) (by omega) z]; exact Pu.fr q u (by omega)) j5 (fun q u w l hl => by
    rcases (show q = 124 ∨ q = 125 ∨ q = 126 by omega) with e | e | e
    · rw [e, v124, q_u_ne hl]
    · rw [e, v125, q_u_ne hl]
    · rw [e, v126, q_u_ne hl])
  have o1 : a7 1 = a 1 := fo7 1 (by omega) (by decide) (by decide) (by decide) (by decide)
  have o43 : a7 43 = a 43 := fo7 43 (by omega) (by decide) (by decide) (by decide) (by decide)
  have o29 : a7 29 = a 29 := fo7 29 (by omega) (by decide) (by decide) (by decide) (by decide)
  have o31 : a7 31 = a 31 := fo7 31 (by omega) (by decide) (by decide) (by decide) (by decide)
  have H4 : zCl a7 t R E := zCl.mk (by rw [o43]; exact D.S.H1.rest) (by rw [o43]; exact D.S.H1.stop) D.S.H1.R0 g7 (by rw [o1]; exact D.S.H1.En) (by rw [o1]; exact D.S.H1.n240) (by rw [o1, fo7 33 (by omega) (by decide) (by decide) (by decide) (by decide)]; exact D.S.H1.ow) (by rw [o1, fo7 2 (by omega) (by decide) (by decide) (by decide) (by decide)]; exact D.S.H1.tx)
  have H4b : zMl b5 t R E := zMl.mk (by rw [j5 49 (by decide)]; exact D.S.H2.rest) (by rw [j5 50 (by decide)]; exact D.S.H2.stop) D.S.H2.R0 g7 (by rw [j5 0 (by decide)]; exact D.S.H2.En) (by rw [j5 0 (by decide)]; exact D.S.H2.n240) (by rw [u1 114 (by decide)]; exact t4)
  have r13 : a7 13 1 = rr + 1 := by rw [fC 13 (by decide) (by decide) (by decide) (by decide) (by decide), fA 13 (by decide) (by decide) (by decide)]; exact A.rows.1
  have mk7 : b5 117 = q_u (b 117) rr 4 := by rw [g5b 117 (by decide) (by decide) (by decide) (by decide) (by decide)]; exact Pu.f117
  have o130 : ∀ j, j < 6 * rr ∨ 6 * rr + 6 ≤ j → b5 130 j = b 130 j := fun j hj => by rw [u2 j hj, f4b 130 (by decide) (by decide) (by decide) (by decide), Pu.fr 130 (by decide) (by omega)]
  obtain ⟨b6, EB, W6⟩ := k_m_tail (X := X) (x := 0) (v := rr) (P := P) (N := N) (L := L) H4b (by rw [j5 0 (by decide)]; exact D.T.bt.1) (by decide) (by decide) (by omega) (by omega) (by rw [j5 17 (by decide)]; exact D.l17) hll.1 (by omega)
  refine k_Rd_129 (x := 0) H4 hll.1 (by rw [o31]; omega) (by rw [o29]; omega) (by rw [o31]; omega) (by rw [o29]; omega) (by omega) (by omega) (by omega) (by rw [if_pos rfl]) (fun a8 EA => ?_)
  have nd4 : zNm a7 b5 (rr + 1) 7 37 36 := D.nd.fr (by omega) (by rw [fo7 37 (by omega) (by decide) (by decide) (by decide) (by decide)]) (fo7 38 (by omega) (by decide) (by decide) (by decide) (by decide)) (fo7 36 (by omega) (by decide) (by decide) (by decide) (by decide)) (fun k k0 kn => by rw [mk7, q_u_ne (by omega)]) (fun k u w => by rw [show k = rr by omega, mk7, q_u_at]; decide) (fun j hj => o130 j (by omega))
  have y41 : a7 41 1 = a 41 1 + 1 := by rw [f7 41 (by decide), m1, s41]
  have nh4 : zNm a7 b5 (rr + 1) 4 41 40 := D.nh.add (by omega) ⟨p1, p2, p3⟩ y41 (by rw [f7 (41 + 1) (by decide), m2, s41, ft (41 + 1) (by decide) (by omega)]) (by rw [f7 40 (by decide), m3, s41, ft 40 (by decide) (by omega)]) (fun k k0 kn => by rw [mk7, q_u_ne (by omega)]) (by rw [mk7, q_u_at]) (fun j hj => o130 j (by omega)) u3
  obtain ⟨d4, c4, Z⟩ := D.new (κ := 4) (τ := h) (by omega) (fun _ => ⟨h1, h3, hE⟩) (fun z => by omega) lt A M Pu F (fun q u w => g5b q (by omega) (by omega) (by omega) (by omega) (by omega)) (by rw [u1 113 (by decide), h4j 4 (by decide), fl 113 (by decide) (by decide) (by decide), h2j 4 (by decide)]) (fun _ => by rw [a26, q_u_at]) (fun _ => by rw [a28, q_u_at]; rfl) (fun _ => ⟨by rw [v124, q_u_at], by rw [v125, q_u_at, if_pos rfl], by rw [v126, q_u_at]⟩) (fun _ => by rw [a30, q_u_at]) (fun z => by omega) nd4 nh4 (by rw [y41, fo7 37 (by omega) (by decide) (by decide) (by decide) (by decide)]; omega) EA EB
  refine hK a8 b6 d4 c4 Z (fun Kf hk => W _ ?_)
  rw [q49]
  refine ⟨by omega, fun s12 e12 => ?_⟩
  have : s12 = b2 := by rw [e12, ← eb2, q49]
  rw [this]
  refine W3 _ ?_
  rw [r3b]
  refine ⟨by omega, fun s14 e14 => ?_⟩
  have : s14 = b4 := by rw [e14, ← eb4, r3b]
  rw [this, h4r, show b4 113 50 = E by rw [j4 50 (by decide)]; exact D.S.H2.stop]
  exact ⟨by omega, W5 _ (W6 Kf hk)⟩
end Leafs2
