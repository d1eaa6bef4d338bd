/-! The leaf of a line, in both at once. -/
section Leafs
variable {X : Nat × (Nat → Int32)} {a b s : qM} {K : qM → Prop} {KI : Int → qM → Prop} {gh : qM × qM} {t : Int → Int} {N LL n L P R E v x : Int} {d i : Nat} {c : Nat → Int}
theorem zCode_pos0 : ∀ (l : List Int) (acc : Int), 0 < acc → (∀ x, x ∈ l → zLet x) → 0 < l.foldl (fun c x => c * 128 + x) acc
  | [], _, h, _ => h
  | y :: l, acc, h, hx => by
    have hy := hx y (by simp)
    unfold zLet at hy
    exact zCode_pos0 l (acc * 128 + y) (by omega) (fun x m => hx x (by simp [m]))
theorem zCode_pos {l : List Int} (h1 : 1 ≤ l.length) (hx : ∀ x, x ∈ l → zLet x) : 0 < zCode l := by
  cases l with
  | nil => simp at h1
  | cons y l =>
    have hy := hx y (by simp)
    unfold zLet at hy
    exact zCode_pos0 l (0 * 128 + y) (by omega) (fun x m => hx x (by simp [m]))
theorem k_Rd_129 {v3 : Int} (H : zCl s t R E) (L0 : 0 ≤ L) (hL : L < s 31 1) (hL2 : L < s 29 1) (h31 : s 31 1 ≤ 241) (h29 : s 29 1 ≤ 241) (h13 : s 13 1 ≤ 482) (v0 : 0 ≤ v) (vn : v < s 13 1) (hx : x = if v3 = 0 then 0 else if s 43 7 ≠ 0 then 0 else 1) (h : ∀ s', zEa s s' L v R E x → K s') : L_Rd_read_129 X L v3 v s K := by
  refine sg_Rd_read_129 (z_c (fun e => ?_) (fun e => z_c (fun e2 => ?_) (fun e2 => ?_)))
  · rw [if_pos e] at hx; subst hx
    exact k_Rd_end H L0 hL hL2 h31 h29 h13 v0 vn h
  · rw [if_neg e, if_pos e2] at hx; subst hx
    exact k_Rd_end H L0 hL hL2 h31 h29 h13 v0 vn h
  · rw [if_neg e, if_neg e2] at hx; subst hx
    exact k_Rd_end H L0 hL hL2 h31 h29 h13 v0 vn h
theorem k_m_tail (H : zMl s t R E) (hN : s 113 0 = N) (x0 : 0 ≤ x) (x1 : x ≤ 1) (v0 : 0 ≤ v) (vn : v < 600) (hL : s 113 17 = L) (L0 : 0 ≤ L) (L1 : L < 241) :
    ∃ s', zEb s s' L v P R (if E < N then E + 1 else E) x ∧ ∀ Kf : qM → Prop, Kf s' → ((((s 113 0) ≤ (s 113 50)) → L_m_looksAt_496 X P x v (s 113 49) (s 113 50) s Kf) ∧ (¬ ((s 113 0) ≤ (s 113 50)) → (-2147483648 ≤ ((s 113 50) + 1) ∧ ((s 113 50) + 1) < 2147483648) ∧ L_m_looksAt_496 X P x v (s 113 49) ((s 113 50) + 1) s Kf)) := by
  have hR := H.R0
  have hE := H.En
  have h240 := H.n240
  have hRE := H.RE
  have hb : (if E < N then E + 1 else E) ≤ 240 := by split <;> omega
  obtain ⟨s', Z, W⟩ := z_1V (k_m_496 (X := X) (s := s) (K := fun s' => zEb s s' L v P R (if E < N then E + 1 else E) x) hR hb x0 x1 v0 vn hL L0 L1 (fun s' z => z))
  refine ⟨s', Z, fun Kf hk => ?_⟩
  rw [H.rest, H.stop, hN]
  refine z_c (fun e => ?_) (fun e => ⟨by omega, ?_⟩)
  · have := W Kf hk
    rw [if_neg (by omega)] at this
    exact this
  · have := W Kf hk
    rw [if_pos (by omega)] at this
    exact this
theorem k_m_lays {y : Int} (hL : s 113 17 = L) (L0 : 0 ≤ L) (L1 : L < 241) (hR : s 113 49 = R) (hE : s 113 50 = E) (h : ∀ s', (∀ q, q ≠ 124 → q ≠ 125 → q ≠ 126 → s' q = s q) → s' 124 = q_u (s 124) L y → s' 125 = q_u (s 125) L R → s' 126 = q_u (s 126) L E → K s') : c_m_lays X y s K := by
  refine sg_m_lays ?_
  rw [hL]
  refine ⟨L0, L1, fun s1 e1 => ?_⟩
  have f1 : ∀ q, q ≠ 124 → s1 q = s q := fun q hq => by rw [e1]; exact q_up_ne hq
  rw [f1 113 (by decide), hL, hR]
  refine ⟨L0, L1, fun s2 e2 => ?_⟩
  have f2 : ∀ q, q ≠ 125 → s2 q = s1 q := fun q hq => by rw [e2]; exact q_up_ne hq
  rw [f2 113 (by decide), f1 113 (by decide), hL, hE]
  refine ⟨L0, L1, fun s3 e3 => h s3 (fun q u w z => ?_) ?_ ?_ ?_⟩
  · rw [e3, q_up_ne z, f2 q w, f1 q u]
  · rw [e3, q_up_ne (by decide), f2 124 (by decide), e1, q_up_fn]
  · rw [e3, q_up_ne (by decide), e2, q_up_fn, f1 125 (by decide)]
  · rw [e3, q_up_fn, f2 126 (by decide), f1 126 (by decide)]
theorem k_Blocks_addLine {y : Int} (h27 : s 27 1 ≤ 482) (y0 : 0 ≤ y) (yn : y < s 27 1) (b0 : 0 ≤ s 28 y) (b1 : s 28 y ≤ 100000) (h : ∀ s', (∀ q, q ≠ 28 → s' q = s q) → s' 28 = q_u (s 28) y (s 28 y + 1) → K s') : c_Blocks_addLine X y s K := by
  refine sg_Blocks_addLine (k_Row_at q_row_27 h27 ?_)
  rw [zT_in y0 yn]
  exact ⟨by have e : s (27 + 1) y = s 28 y := rfl
            omega, k_Row_set q_row_27 h27 (fun _ _ => h _ (fun q hq => q_up_ne hq) q_up_fn) (fun z => absurd ⟨y0, yn⟩ z)⟩
theorem k_Blocks_close {y p : Int} (h15 : s 15 1 ≤ 482) (h17 : s 17 1 ≤ 482) (y0 : 0 ≤ y) (yn : y < s 15 1) (hp : s 16 y = p) (p0 : 0 ≤ p) (pn : p < s 17 1) (h : ∀ s', (∀ q, q ≠ 18 → s' q = s q) → s' 18 = q_u (s 18) p (-1) → K s') : c_Blocks_close X y s K := by
  refine sg_Blocks_close (k_Row_at q_row_15 h15 ?_)
  rw [zT_in y0 yn, hp]
  exact k_Row_set q_row_17 h17 (fun _ _ => h _ (fun q hq => q_up_ne hq) q_up_fn) (fun z => absurd ⟨p0, pn⟩ z)
theorem k_Rd_putLeaf {κ : Int} (B : zB a b n) (hn : n < 482) (hp : a 43 5 = c i) (p0 : 0 ≤ c i) (pn : c i < n) (h : ∀ a1 a2, zAdd a a1 n (c i) κ (a 43 8) → (∀ q, q ≠ 26 → a2 q = a1 q) → a2 26 = q_u (a1 26) n L → KI n a2) : c_Rd_putLeaf X κ L a KI := by
  have n1 := B.n1
  refine sg_Rd_putLeaf ?_
  rw [hp]
  refine k_Blocks_add1 B hn p0 pn (fun a1 A => sg_Blocks_beginAt (k_Row_set q_row_25 (by rw [A.rows.2.2.2.2.2.2.1]; omega) (fun _ _ => h a1 _ A (fun q hq => q_up_ne hq) q_up_fn) (fun z => absurd ⟨by omega, by rw [A.rows.2.2.2.2.2.2.1]; omega⟩ z)))
theorem zAdd.z22 {a1 : qM} {p κ ib : Int} (A : zAdd a a1 n p κ ib) : a1 22 n = 0 := by obtain ⟨y, ey, _⟩ := A.f22; rw [ey, q_u_at]
/-- a FENCE begins -/
theorem zMd.fence (D : zMd a b gh t N LL n L P d c i R E) (lt : R < E)
    (h : ∀ a5 b5 d4 c4, zLi a5 b5 gh t N LL (n + 1) (L + 1) (E + 1) E d4 c4 → (∀ Kf : qM → Prop, Kf b5 → c_m_puts X (c i) 5 0 b (fun r9 s8 => ((((s8 113 0) ≤ (s8 113 50)) → L_m_looksAt_496 X P 0 r9 (s8 113 49) (s8 113 50) s8 Kf) ∧ (¬ ((s8 113 0) ≤ (s8 113 50)) → (-2147483648 ≤ ((s8 113 50) + 1) ∧ ((s8 113 50) + 1) < 2147483648) ∧ L_m_looksAt_496 X P 0 r9 (s8 113 49) ((s8 113 50) + 1) s8 Kf)))) → K a5) : c_Rd_putLeaf X 5 L a (fun r s => L_Rd_read_129 X L 0 r s K) := by
  obtain ⟨g1, g2, g3, g4, g5, g6, g7, g8, g9, g10, g11⟩ := D.geo
  have n1 := D.S.B.n1
  have cap := D.S.cap
  have r := D.S.C.rng D.S.id
  have hll := D.ll
  have sz := D.T.sz
  refine k_Rd_putLeaf D.S.B (by omega) D.S.inn (by omega) r.2 (fun a1 a4 A f26 e26 => ?_)
  have M : zMod a1 a4 n (c i) 5 0 := zMod.mk (fun q _ _ _ _ _ y _ => f26 q y) (fun k hk => ⟨by rw [f26 22 (by decide)], by rw [f26 24 (by decide)], by rw [e26, q_u_ne hk], by rw [f26 28 (by decide)]⟩) (by rw [f26 22 (by decide), if_neg (by omega)]; exact A.z22) (fun z => by omega) (fun _ => by rw [f26 28 (by decide), A.f28, q_u_at]) (by rw [if_neg (by omega), f26 18 (by decide)])
  obtain ⟨rr, b1, ⟨er, Pu⟩, W⟩ := z_1I (k_m_puts1 (X := X) (κ := 5) (τ := 0) (K := fun r b1 => r = n ∧ zPut b b1 n (c i) 5 0) D.S.B (by omega) D.S.l17.2 (by omega) r.2 (fun b2 P => ⟨rfl, P⟩))
  subst er
  have fa : ∀ q, q < 13 ∨ 28 < q → a4 q = a q := fun q hq => by rw [f26 q (by omega)]; exact A.fr q hq
  have F : zFl a a4 b b1 L := zFl.mk (fun q u _ => fa q (by omega)) (fa 29 (by omega)) (fun l _ => by rw [fa 30 (by omega)]) (fun q u w z => Pu.fr q u (by omega)) Pu.f113 (fun q u w l _ => by rw [Pu.fr q (by omega) (by omega)])
  have H4 : zCl a4 t R E := zCl.mk (by rw [fa 43 (by omega)]; exact D.S.H1.rest) (by rw [fa 43 (by omega)]; exact D.S.H1.stop) D.S.H1.R0 g7 (by rw [fa 1 (by omega)]; exact D.S.H1.En) (by rw [fa 1 (by omega)]; exact D.S.H1.n240) (by rw [fa 33 (by omega), fa 1 (by omega)]; exact D.S.H1.ow) (by rw [fa 1 (by omega), fa 2 (by omega)]; exact D.S.H1.tx)
  have H4b : zMl b1 t R E := zMl.mk (by rw [Pu.f113 49 (by decide)]; exact D.S.H2.rest) (by rw [Pu.f113 50 (by decide)]; exact D.S.H2.stop) D.S.H2.R0 g7 (by rw [Pu.f113 0 (by decide)]; exact D.S.H2.En) (by rw [Pu.f113 0 (by decide)]; exact D.S.H2.n240) (by rw [Pu.fr 114 (by decide) (by omega)]; exact D.S.H2.tx)
  have r13 : a4 13 1 = rr + 1 := by rw [f26 13 (by decide)]; exact A.rows.1
  have mk7 : b1 117 = q_u (b 117) rr 5 := Pu.f117
  obtain ⟨b5, EB, W5⟩ := k_m_tail (X := X) (x := 0) (v := rr) (P := P) (N := N) (L := L) H4b (by rw [Pu.f113 0 (by decide)]; exact D.T.bt.1) (by decide) (by decide) (by omega) (by omega) (by rw [Pu.f113 17 (by decide)]; exact D.l17) hll.1 (by omega)
  refine k_Rd_129 (x := 0) H4 hll.1 (by rw [fa 31 (by omega)]; omega) (by rw [fa 29 (by omega)]; omega) (by rw [fa 31 (by omega)]; omega) (by rw [fa 29 (by omega)]; omega) (by omega) (by omega) (by omega) (by rw [if_pos rfl]) (fun a5 EA => ?_)
  have nd4 : ∀ κ r cc, κ ≠ 5 → (r = 37 ∧ cc = 36 ∨ r = 41 ∧ cc = 40) → zNm a b rr κ r cc → zNm a4 b1 (rr + 1) κ r cc := fun κ r cc hk hc M => M.fr (by omega) (by rw [fa r (by omega)]) (fa (r + 1) (by omega)) (fa cc (by omega)) (fun k k0 kn => by rw [mk7, q_u_ne (by omega)]) (fun k u w => by rw [show k = rr by omega, mk7, q_u_at]; omega) (fun j _ => by rw [Pu.fr 130 (by decide) (by omega)])
  obtain ⟨d4, c4, Z⟩ := D.new (κ := 5) (τ := 0) (by omega) (fun z => by omega) (fun z => by omega) lt A M Pu F (fun _ _ _ => rfl) rfl (fun _ => by rw [e26, q_u_at]) (fun z => by omega) (fun z => by omega) (fun z => by omega) (fun _ => by rw [Pu.fr 124 (by decide) (by omega)]) (nd4 7 37 36 (by decide) (by omega) D.nd) (nd4 4 41 40 (by decide) (by omega) D.nh) (by rw [fa 37 (by omega), fa 41 (by omega)]; have := D.nl; omega) EA EB
  exact h a5 b5 d4 c4 Z (fun Kf hk => W _ (W5 Kf hk))
/-- a PARAGRAPH begins -/
theorem zMd.para (D : zMd a b gh t N LL n L P d c i R E) (lt : R < E) (nb : zSkip t R E ≠ E)
    (h : ∀ a5 b5 d4 c4, zLi a5 b5 gh t N LL (n + 1) (L + 1) (E + 1) E d4 c4 → (∀ Kf : qM → Prop, Kf b5 → c_m_puts X (c i) 6 0 b (fun r4 s3 => c_m_lays X r4 s3 (fun s5 => ((((s5 113 0) ≤ (s5 113 50)) → L_m_looksAt_496 X P 0 r4 (s5 113 49) (s5 113 50) s5 Kf) ∧ (¬ ((s5 113 0) ≤ (s5 113 50)) → (-2147483648 ≤ ((s5 113 50) + 1) ∧ ((s5 113 50) + 1) < 2147483648) ∧ L_m_looksAt_496 X P 0 r4 (s5 113 49) ((s5 113 50) + 1) s5 Kf))))) → K a5) : c_Rd_putLeaf X 6 L a (fun r4 s3 => c_Blocks_addLine X r4 s3 (fun s5 => L_Rd_read_129 X L 0 r4 s5 K)) := by
  obtain ⟨g1, g2, g3, g4, g5, g6, g7, g8, g9, g10, g11⟩ := D.geo
  have n1 := D.S.B.n1
  have cap := D.S.cap
  have r := D.S.C.rng D.S.id
  have hll := D.ll
  have sz := D.T.sz
  refine k_Rd_putLeaf D.S.B (by omega) D.S.inn (by omega) r.2 (fun a1 a2 A f26 e26 => ?_)
  have z28 : a2 28 n = 0 := by rw [f26 28 (by decide), A.f28, q_u_at]
  have z27 : a2 27 1 = n + 1 := by rw [f26 27 (by decide)]; exact A.rows.2.2.2.2.2.2.2
  refine k_Blocks_addLine (by omega) (by omega) (by omega) (by omega) (by omega) (fun a4 f28 e28 => ?_)
  rw [z28] at e28
  have f : ∀ q, q ≠ 26 → q ≠ 28 → a4 q = a1 q := fun q u w => (f28 q w).trans (f26 q u)
  have M : zMod a1 a4 n (c i) 6 0 := zMod.mk (fun q _ _ _ _ _ y z => f q y z) (fun k hk => ⟨by rw [f 22 (by decide) (by decide)], by rw [f 24 (by decide) (by decide)], by rw [f28 26 (by decide), e26, q_u_ne hk], by rw [e28, q_u_ne hk, f26 28 (by decide)]⟩) (by rw [f 22 (by decide) (by decide), if_neg (by omega)]; exact A.z22) (fun z => by omega) (fun z => by omega) (by rw [if_neg (by omega), f 18 (by decide) (by decide)])
  obtain ⟨rr, b1, ⟨er, Pu⟩, W⟩ := z_1I (k_m_puts1 (X := X) (κ := 6) (τ := 0) (K := fun r b1 => r = n ∧ zPut b b1 n (c i) 6 0) D.S.B (by omega) D.S.l17.2 (by omega) r.2 (fun b2 P => ⟨rfl, P⟩))
  subst er
  have fa : ∀ q, q < 13 ∨ 28 < q → a4 q = a q := fun q hq => by rw [f q (by omega) (by omega)]; exact A.fr q hq
  obtain ⟨b4, ⟨fl, e124, e125, e126⟩, W4⟩ := z_1V (k_m_lays (X := X) (y := rr) (s := b1) (L := L) (R := R) (E := E) (K := fun s' => (∀ q, q ≠ 124 → q ≠ 125 → q ≠ 126 → s' q = b1 q) ∧ s' 124 = q_u (b1 124) L rr ∧ s' 125 = q_u (b1 125) L R ∧ s' 126 = q_u (b1 126) L E) (by rw [Pu.f113 17 (by decide)]; exact D.l17) hll.1 (by omega) (by rw [Pu.f113 49 (by decide)]; exact D.S.H2.rest) (by rw [Pu.f113 50 (by decide)]; exact D.S.H2.stop) (fun s' u v w z => ⟨u, v, w, z⟩))
  have j113 : ∀ j, j ≠ 4 → b4 113 j = b 113 j := fun j hj => by rw [fl 113 (by decide) (by decide) (by decide)]; exact Pu.f113 j hj
  have F : zFl a a4 b b4 L := zFl.mk (fun q u _ => fa q (by omega)) (fa 29 (by omega)) (fun l _ => by rw [fa 30 (by omega)]) (fun q u w z => by rw [fl q (by omega) (by omega) (by omega)]; exact Pu.fr q u (by omega)) j113 (fun q u w l hl => by
    rcases (show q = 124 ∨ q = 125 ∨ q = 126 by omega) with e | e | e
    · rw [e, e124, q_u_ne hl, Pu.fr 124 (by decide) (by omega)]
    · rw [e, e125, q_u_ne hl, Pu.fr 125 (by decide) (by omega)]
    · rw [e, e126, q_u_ne hl, Pu.fr 126 (by decide) (by omega)])
  have H4 : zCl a4 t R E := zCl.mk (by rw [fa 43 (by omega)]; exact D.S.H1.rest) (by rw [fa 43 (by omega)]; exact D.S.H1.stop) D.S.H1.R0 g7 (by rw [fa 1 (by omega)]; exact D.S.H1.En) (by rw [fa 1 (by omega)]; exact D.S.H1.n240) (by rw [fa 33 (by omega), fa 1 (by omega)]; exact D.S.H1.ow) (by rw [fa 1 (by omega), fa 2 (by omega)]; exact D.S.H1.tx)
  have H4b : zMl b4 t R E := zMl.mk (by rw [j113 49 (by decide)]; exact D.S.H2.rest) (by rw [j113 50 (by decide)]; exact D.S.H2.stop) D.S.H2.R0 g7 (by rw [j113 0 (by decide)]; exact D.S.H2.En) (by rw [j113 0 (by decide)]; exact D.S.H2.n240) (by rw [fl 114 (by decide) (by decide) (by decide), Pu.fr 114 (by decide) (by omega)]; exact D.S.H2.tx)
  have r13 : a4 13 1 = rr + 1 := by rw [f 13 (by decide) (by decide)]; exact A.rows.1
  have mk7 : b4 117 = q_u (b 117) rr 6 := by rw [fl 117 (by decide) (by decide) (by decide)]; exact Pu.f117
  obtain ⟨b5, EB, W5⟩ := k_m_tail (X := X) (x := 0) (v := rr) (P := P) (N := N) (L := L) H4b (by rw [j113 0 (by decide)]; exact D.T.bt.1) (by decide) (by decide) (by omega) (by omega) (by rw [j113 17 (by decide)]; exact D.l17) hll.1 (by omega)
  refine k_Rd_129 (x := 0) H4 hll.1 (by rw [fa 31 (by omega)]; omega) (by rw [fa 29 (by omega)]; omega) (by rw [fa 31 (by omega)]; omega) (by rw [fa 29 (by omega)]; omega) (by omega) (by omega) (by omega) (by rw [if_pos rfl]) (fun a5 EA => ?_)
  have nd4 : ∀ κ r cc, κ ≠ 6 → (r = 37 ∧ cc = 36 ∨ r = 41 ∧ cc = 40) → zNm a b rr κ r cc → zNm a4 b4 (rr + 1) κ r cc := fun κ r cc hk hc M => M.fr (by omega) (by rw [fa r (by omega)]) (fa (r + 1) (by omega)) (fa cc (by omega)) (fun k k0 kn => by rw [mk7, q_u_ne (by omega)]) (fun k u w => by rw [show k = rr by omega, mk7, q_u_at]; omega) (fun j _ => by rw [fl 130 (by decide) (by decide) (by decide), Pu.fr 130 (by decide) (by omega)])
  obtain ⟨d4, c4, Z⟩ := D.new (κ := 6) (τ := 0) (by omega) (fun z => by omega) (fun _ => nb) lt A M Pu F (fun q u w => fl q (by omega) (by omega) (by omega)) (by rw [fl 113 (by decide) (by decide) (by decide)]) (fun _ => by rw [f28 26 (by decide), e26, q_u_at]) (fun _ => by rw [e28, q_u_at]; rfl) (fun _ => ⟨by rw [e124, q_u_at], by rw [e125, q_u_at, if_neg (by omega)], by rw [e126, q_u_at]⟩) (fun z => by omega) (fun z => by omega) (nd4 7 37 36 (by decide) (by omega) D.nd) (nd4 4 41 40 (by decide) (by omega) D.nh) (by rw [fa 37 (by omega), fa 41 (by omega)]; have := D.nl; omega) EA EB
  exact h a5 b5 d4 c4 Z (fun Kf hk => W _ (W4 _ (W5 Kf hk)))
end Leafs
