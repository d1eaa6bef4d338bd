/-! Blank lines. -/
section Blank
variable {X : Nat × (Nat → Int32)} {a b s : qM} {K : qM → Prop} {gh : qM × qM} {t : Int → Int} {N LL n L P R E v x : Int} {d i : Nat} {c : Nat → Int}
/-- where the containers that go on end, if none is put in -/
def zNp (a b : qM) (t : Int → Int) (d : Nat) (c : Nat → Int) (i j : Nat) (al R E : Int) : Prop := (j ≤ d) ∧ (b 117 (c j) ≤ 3) ∧ (i = zIn b c j) ∧ ((al = 1 ∧ a 43 6 = -1 ∧ (j = d ∨ 3 < b 117 (c (j + 1)))) ∨ (al = 0 ∧ j < d ∧ a 43 6 = c (j + 1) ∧ b 117 (c (j + 1)) ≤ 3 ∧ zGo t (b 117 (c (j + 1))) (b 120 (c (j + 1))) R E = -1))
theorem zNp.mk {a b : qM} {t : Int → Int} {d : Nat} {c : Nat → Int} {i j : Nat} {al R E : Int} (jd : j ≤ d) (kj : b 117 (c j) ≤ 3) (ij : i = zIn b c j) (how : (al = 1 ∧ a 43 6 = -1 ∧ (j = d ∨ 3 < b 117 (c (j + 1)))) ∨ (al = 0 ∧ j < d ∧ a 43 6 = c (j + 1) ∧ b 117 (c (j + 1)) ≤ 3 ∧ zGo t (b 117 (c (j + 1))) (b 120 (c (j + 1))) R E = -1)) : zNp a b t d c i j al R E := ⟨jd, kj, ij, how⟩
theorem zNp.jd {a b : qM} {t : Int → Int} {d : Nat} {c : Nat → Int} {i j : Nat} {al R E : Int} (h : zNp a b t d c i j al R E) : j ≤ d := h.1
theorem zNp.kj {a b : qM} {t : Int → Int} {d : Nat} {c : Nat → Int} {i j : Nat} {al R E : Int} (h : zNp a b t d c i j al R E) : b 117 (c j) ≤ 3 := h.2.1
theorem zNp.ij {a b : qM} {t : Int → Int} {d : Nat} {c : Nat → Int} {i j : Nat} {al R E : Int} (h : zNp a b t d c i j al R E) : i = zIn b c j := h.2.2.1
theorem zNp.how {a b : qM} {t : Int → Int} {d : Nat} {c : Nat → Int} {i j : Nat} {al R E : Int} (h : zNp a b t d c i j al R E) : (al = 1 ∧ a 43 6 = -1 ∧ (j = d ∨ 3 < b 117 (c (j + 1)))) ∨ (al = 0 ∧ j < d ∧ a 43 6 = c (j + 1) ∧ b 117 (c (j + 1)) ≤ 3 ∧ zGo t (b 117 (c (j + 1))) (b 120 (c (j + 1))) R E = -1) := h.2.2.2
theorem zCl.fr {a4 : qM} (H : zCl a t R E) (f1 : a4 1 = a 1) (f2 : a4 2 = a 2) (f33 : a4 33 = a 33) (f43 : a4 43 = a 43) : zCl a4 t R E :=
  zCl.mk (by rw [f43]; exact H.rest) (by rw [f43]; exact H.stop) H.R0 H.RE (by rw [f1]; exact H.En) (by rw [f1]; exact H.n240) (by rw [f33, f1]; exact H.ow) (by rw [f1, f2]; exact H.tx)
theorem zMl.fr {b4 : qM} (H : zMl b t R E) (f : b4 113 = b 113) (f4 : b4 114 = b 114) : zMl b4 t R E :=
  zMl.mk (by rw [f]; exact H.rest) (by rw [f]; exact H.stop) H.R0 H.RE (by rw [f]; exact H.En) (by rw [f]; exact H.n240) (by rw [f4]; exact H.tx)
/-- both close alike, and the line ends -/
theorem zMd.shut {a4 b4 : qM} {d4 : Nat} (D : zMd a b gh t N LL n L P d c i R E) (fa : ∀ q, q ≠ 18 → a4 q = a q) (fb : ∀ q, q ≠ 119 → b4 q = b q) (C4 : zCh a4 b4 n d4 c) (k4 : b 117 (c d4) ≠ 5 ∧ b 117 (c d4) ≠ 6) {v3 x : Int} (x0 : 0 ≤ x) (x1 : x ≤ 1) (hx : x = if v3 = 0 then 0 else if a 43 7 ≠ 0 then 0 else 1)
    (hK : ∀ a5 b5, zLi a5 b5 gh t N LL n (L + 1) (E + 1) E d4 c → (∀ Kf : qM → Prop, Kf b5 → zTl X P x (c i) b4 Kf) → K a5) : L_Rd_read_129 X L v3 (c i) a4 K := by
  obtain ⟨g1, g2, g3, g4, g5, g6, g7, g8, g9, g10, g11⟩ := D.geo
  have n1 := D.S.B.n1
  have cap := D.S.cap
  have r := D.S.C.rng D.S.id
  have hll := D.ll
  have sz := D.T.sz
  have r13 := D.S.B.rows.1
  have H4 := D.S.H1.fr (a4 := a4) (fa 1 (by decide)) (fa 2 (by decide)) (fa 33 (by decide)) (fa 43 (by decide))
  have H4b := D.S.H2.fr (b4 := b4) (fb 113 (by decide)) (fb 114 (by decide))
  obtain ⟨b5, EB, W5⟩ := k_m_tail (X := X) (x := x) (v := c i) (P := P) (N := N) (L := L) H4b (by rw [fb 113 (by decide)]; exact D.T.bt.1) x0 x1 (by omega) (by omega) (by rw [fb 113 (by decide)]; exact D.l17) hll.1 (by omega)
  refine k_Rd_129 (x := x) H4 hll.1 (by rw [fa 31 (by decide)]; omega) (by rw [fa 29 (by decide)]; omega) (by rw [fa 31 (by decide)]; omega) (by rw [fa 29 (by decide)]; omega) (by rw [fa 13 (by decide)]; omega) (by omega) (by rw [fa 13 (by decide)]; omega) (by rw [fa 43 (by decide)]; exact hx) (fun a5 EA => ?_)
  exact hK a5 b5 (D.none fa fb C4 k4 (by omega) r.2 EA EB) (fun Kf hk => W5 Kf hk)
theorem zMd.nr (D : zMd a b gh t N LL n L P d c i R E) : n ≤ 481 ∧ 1 ≤ n := by
  have n1 := D.S.B.n1
  have cap := D.S.cap
  obtain ⟨g1, g2, g3, g4, g5, g6, g7, g8, _⟩ := D.geo
  omega
/-- the rest is blank, and containers have been put in -/
theorem zMd.blankPut (D : zMd a b gh t N LL n L P d c i R E) (hi : i = d) (h7 : a 43 7 ≠ 0)
    (hK : ∀ a5 b5 d5 c5, zLi a5 b5 gh t N LL n (L + 1) (E + 1) E d5 c5 → (∀ Kf : qM → Prop, Kf b5 → zTl X P 0 (c i) b Kf) → K a5) : c_Rd_readBlank X a (fun r9 s8 => L_Rd_read_129 X L 1 r9 s8 K) := by
  obtain ⟨nr, n1⟩ := D.nr
  obtain ⟨r13, _, r17, _⟩ := D.S.B.rows
  have k := D.S.ki
  have fin : L_Rd_read_129 X L 1 (a 43 5) a K := by
    rw [D.S.inn]
    exact D.shut (x := 0) (fun _ _ => rfl) (fun _ _ => rfl) (by rw [hi] at k; exact D.S.C) (by rw [← hi]; omega) (by decide) (by decide) (by rw [if_neg (by decide), if_pos h7]) (fun a5 b5 Z W => hK a5 b5 _ _ Z W)
  refine sg_Rd_readBlank (k_Blocks_openIn (by omega) ?_)
  rw [show zT a 17 (a 43 5) = -1 by rw [D.S.inn, D.S.C.next r17 D.S.id, if_neg (by omega)]]
  have z : zT a 13 (-1) = -1 := zT_out (by omega)
  refine z_c (fun _ => k_Blocks_kindOf (by omega) ?_) (fun _ => z_f (by omega) (k_Blocks_kindOf (by omega) ?_))
  · rw [z]; exact z_t (by decide) fin
  · rw [z]; exact z_t (by decide) fin
theorem k_m_cb_none {p q : Int} {Kf : qM → Prop} (p0 : 0 ≤ p) (p6 : p < 600) (q0 : 0 ≤ q) (q6 : q < 600) (hp : b 122 p = -1 ∨ (0 ≤ b 122 p ∧ b 122 p < 600 ∧ b 119 (b 122 p) = 0)) (hq : b 122 q = -1 ∨ (0 ≤ b 122 q ∧ b 122 q < 600 ∧ (b 119 (b 122 q) = 0 ∨ b 117 (b 122 q) ≠ 6))) (hk : Kf b) : c_m_closesBehind X p q b Kf := by
  have last : ((0 : Int) ≤ q) ∧ (q < (600 : Int)) ∧ ((((b 122 q) = (-1)) → Kf b) ∧ (¬ ((b 122 q) = (-1)) → ((0 : Int) ≤ (b 122 q)) ∧ ((b 122 q) < (600 : Int)) ∧ ((((b 119 (b 122 q)) = 0) → Kf b) ∧ (¬ ((b 119 (b 122 q)) = 0) → ((0 : Int) ≤ (b 122 q)) ∧ ((b 122 q) < (600 : Int)) ∧ ((((b 117 (b 122 q)) ≠ 6) → Kf b) ∧ (¬ ((b 117 (b 122 q)) ≠ 6) → ((0 : Int) ≤ (b 122 q)) ∧ ((b 122 q) < (600 : Int)) ∧ (∀ s1 : qM, s1 = q_up b 119 (b 122 q) 0 → Kf s1))))))) := by
    refine ⟨q0, q6, z_c (fun _ => hk) (fun y => ?_)⟩
    obtain ⟨h1, h2, h3⟩ := hq.resolve_left y
    exact ⟨h1, h2, z_c (fun _ => hk) (fun w => ⟨h1, h2, z_t (h3.resolve_left w) hk⟩)⟩
  refine sg_m_closesBehind ⟨p0, p6, z_c (fun _ => last) (fun y => ?_)⟩
  obtain ⟨h1, h2, h3⟩ := hp.resolve_left y
  exact ⟨h1, h2, z_t h3 last⟩
theorem k_m_cb_leaf {p r : Int} {Kf : qM → Prop} (p0 : 0 ≤ p) (p6 : p < 600) (r0 : 0 ≤ r) (r6 : r < 600) (hr : b 122 p = r) (ho : b 119 r ≠ 0) (h3 : 3 < b 117 r) (n6 : b 117 r ≠ 6 → Kf b) (y6 : b 117 r = 6 → Kf (q_up b 119 r 0)) : c_m_closesBehind X p p b Kf := by
  have ne : r ≠ -1 := by omega
  refine sg_m_closesBehind ⟨p0, p6, ?_⟩
  rw [hr]
  refine z_f ne ⟨r0, r6, z_f ho ⟨r0, r6, k_m_isContainer (fun y => absurd y (by omega)) (fun _ => z_t rfl ⟨p0, p6, ?_⟩)⟩⟩
  rw [hr]
  exact z_f ne ⟨r0, r6, z_f ho ⟨r0, r6, z_c n6 (fun w => ⟨r0, r6, fun s1 e1 => by rw [e1]; exact y6 (Decidable.not_not.mp w)⟩)⟩⟩
theorem k_m_cb_cont {p r : Int} {Kf : qM → Prop} (p0 : 0 ≤ p) (p6 : p < 600) (r0 : 0 ≤ r) (r6 : r < 600) (hr : b 122 p = r) (ho : b 119 r ≠ 0) (h3 : b 117 r ≤ 3) (h : c_m_closesIn X r (q_up b 119 r 0) (fun s6 => s6 122 p = r ∧ s6 119 r = 0 ∧ Kf s6)) : c_m_closesBehind X p p b Kf := by
  have ne : r ≠ -1 := by omega
  refine sg_m_closesBehind ⟨p0, p6, ?_⟩
  rw [hr]
  refine z_f ne ⟨r0, r6, z_f ho ⟨r0, r6, k_m_isContainer (fun _ => z_f (by decide) (sg_m_closes ⟨r0, r6, fun s1 e1 => ?_⟩)) (fun y => absurd h3 y)⟩⟩
  rw [e1]
  refine z_mV h (fun s6 ⟨h1, h2, hk⟩ => ⟨p0, p6, ?_⟩)
  rw [h1]
  exact z_f ne ⟨r0, r6, z_t h2 hk⟩
theorem zCh.leaf {a' b' : qM} {j : Nat} (C : zCh a b n d c) (ed : j + 1 = d) (e119 : b' 119 = q_u (b 119) (c (j + 1)) 0) (e18 : a' 18 = q_u (a 18) (c j) (-1)) (f2 : b' 122 = b 122) (f8 : b' 118 = b 118) : zCh a' b' n j c := by
  have jd : j ≤ d := by omega
  refine C.cut (i := j) jd (fun k k0 kn => ?_) (by rw [e18, q_u_at]) (fun k hk => by rw [e18, q_u_ne (Int.ne_of_lt hk)]) f2 f8
  obtain ⟨o1, o2⟩ := C.opn k k0 kn
  rw [e119]
  by_cases e : k = c (j + 1)
  · rw [e, q_u_at]
    refine ⟨Or.inl rfl, fun z => absurd z (by decide), fun ⟨j', hj, z⟩ => ?_⟩
    have := C.lts (i := j') (j := j + 1) (Nat.lt_succ_of_le hj) (Nat.le_of_eq ed)
    rw [z] at this
    exact absurd this (Int.lt_irrefl _)
  · rw [q_u_ne e]
    refine ⟨o1, fun z => ?_, fun ⟨j', hj, z⟩ => o2.mpr ⟨j', Nat.le_trans hj jd, z⟩⟩
    obtain ⟨j', hj, z⟩ := o2.mp z
    rw [← ed] at hj
    exact ⟨j', Nat.le_of_lt_succ (Nat.lt_of_le_of_ne hj (fun y => e (by rw [y] at z; exact z))), z⟩
theorem zCh.shut {a' b' : qM} {j : Nat} (C : zCh a b n d c) (jlt : j < d) (h2 : b 122 (c (j + 1)) = -1 ∨ b' 119 (b 122 (c (j + 1))) = 0) (h3 : ∀ k, b' 119 k = q_u (b 119) (c (j + 1)) 0 k ∨ b' 119 k = 0) (h4 : ∀ k, k ≤ c (j + 1) → b' 119 k = q_u (b 119) (c (j + 1)) 0 k) (h5 : ∀ k, q_u (b 119) (c (j + 1)) 0 k = 1 → b' 119 k = 0 → b 122 k = -1 ∨ b' 119 (b 122 k) = 0) (e18 : a' 18 = q_u (a 18) (c j) (-1)) (f2 : b' 122 = b 122) (f8 : b' 118 = b 118) : zCh a' b' n j c := by
  have jd : j ≤ d := by omega
  have st := C.step j jlt
  have zero : b' 119 (c (j + 1)) = 0 := by rw [h4 _ (Int.le_refl _), q_u_at]
  refine C.cut (i := j) jd ?_ (by rw [e18, q_u_at]) (fun k hk => by rw [e18, q_u_ne (Int.ne_of_lt hk)]) f2 f8
  refine C.closed (b' := b') jd (Or.inr (by rw [st.2.1]; exact zero)) (fun k => ?_) (fun k hk => ?_) (fun k u v => ?_)
  · rcases h3 k with z | z
    · by_cases e : k = c (j + 1)
      · rw [e]; exact Or.inr zero
      · rw [q_u_ne e] at z; exact Or.inl z
    · exact Or.inr z
  · have lt : k < c (j + 1) := Int.lt_of_le_of_lt hk st.1
    rw [h4 k (Int.le_of_lt lt), q_u_ne (Int.ne_of_lt lt)]
  · by_cases e : k = c (j + 1)
    · rw [e]; exact h2
    · exact h5 k (by rw [q_u_ne e]; exact u) v
/-- a container stops, ahead of blanks -/
theorem zMd.blankStop {j : Nat} (D : zMd a b gh t N LL n L P d c i R E) (jlt : j < d) (eij : i = j) (s6 : a 43 6 = c (j + 1)) (k3 : b 117 (c (j + 1)) ≤ 3) (h7 : a 43 7 = 0)
    (hK : ∀ a5 b5 d5 c5, zLi a5 b5 gh t N LL n (L + 1) (E + 1) E d5 c5 → (∀ Kf : qM → Prop, Kf b5 → c_m_closesBehind X (c j) (c i) b (fun s1 => zTl X P 1 (c i) s1 Kf)) → K a5) : c_Rd_readBlank X a (fun r9 s8 => L_Rd_read_129 X L 1 r9 s8 K) := by
  obtain ⟨nr, n1⟩ := D.nr
  obtain ⟨r13, r15, r17, _⟩ := D.S.B.rows
  have st := D.S.C.step j jlt
  have rj := D.S.C.rng (i := j) (by omega)
  have rj1 := D.S.C.rng (i := j + 1) (by omega)
  have j0 : 0 ≤ c j := by omega
  have j10 : 0 ≤ c (j + 1) := by omega
  have kp := D.S.B.kd (c (j + 1)) j10 rj1.2
  have one := D.S.C.is1 (i := j + 1) (by omega)
  have hla : ∀ k, 0 ≤ k → k < n → b 122 k = -1 ∨ (k < b 122 k ∧ b 122 k < n) := fun k k0 kn => by
    rcases D.S.B.la k k0 kn with z | z
    · exact Or.inl z
    · exact Or.inr ⟨z.1, z.2.1⟩
  have kc := D.S.C.con D.S.B jlt
  refine sg_Rd_readBlank (k_Blocks_openIn (by omega) ?_)
  rw [show zT a 17 (a 43 5) = c (j + 1) by rw [D.S.inn, D.S.C.next r17 D.S.id, eij, if_pos jlt]]
  refine z_f (fun y => y s6.symm) (z_t (by omega) ?_)
  refine k_Blocks_close (p := c j) (by omega) (by omega) j10 (by omega) (by rw [kp.2.2.2]; exact st.2.2.2) j0 (by omega) (fun a4 fa e18 => ?_)
  rw [fa 43 (by decide), D.S.inn]
  obtain ⟨b4, ⟨h1, h2, h3, h4, h5⟩, W4⟩ := z_1V (k_m_closesIn (X := X) (s := q_up b 119 (c (j + 1)) 0) (n := n) (p := c (j + 1)) (KV := fun s' => (∀ q, q ≠ 119 → s' q = q_up b 119 (c (j + 1)) 0 q) ∧ (q_up b 119 (c (j + 1)) 0 122 (c (j + 1)) = -1 ∨ s' 119 (q_up b 119 (c (j + 1)) 0 122 (c (j + 1))) = 0) ∧ (∀ k, s' 119 k = q_up b 119 (c (j + 1)) 0 119 k ∨ s' 119 k = 0) ∧ (∀ k, k ≤ c (j + 1) → s' 119 k = q_up b 119 (c (j + 1)) 0 119 k) ∧ (∀ k, q_up b 119 (c (j + 1)) 0 119 k = 1 → s' 119 k = 0 → q_up b 119 (c (j + 1)) 0 122 k = -1 ∨ s' 119 (q_up b 119 (c (j + 1)) 0 122 k) = 0)) (by omega) j10 rj1.2 (by rw [show q_up b 119 (c (j + 1)) 0 122 = b 122 from q_up_ne (by decide)]; exact hla) (fun s' u v w y z => ⟨u, v, w, y, z⟩))
  rw [show q_up b 119 (c (j + 1)) 0 119 = q_u (b 119) (c (j + 1)) 0 from q_up_fn] at h3 h4 h5
  rw [show q_up b 119 (c (j + 1)) 0 122 = b 122 from q_up_ne (by decide)] at h2 h5
  have fb : ∀ q, q ≠ 119 → b4 q = b q := fun q hq => (h1 q hq).trans (q_up_ne hq)
  have C4 : zCh a4 b4 n j c := D.S.C.shut jlt h2 h3 h4 h5 e18 (fb 122 (by decide)) (fb 118 (by decide))
  refine D.shut (x := 1) (v3 := 1) fa fb C4 ⟨by omega, by omega⟩ (by decide) (by decide) (by rw [if_neg (by decide), if_neg (fun z => z h7)]) (fun a5 b5 Z W => hK a5 b5 _ _ Z (fun Kf hk => ?_))
  have hk := W Kf hk
  rw [eij] at hk ⊢
  refine k_m_cb_cont j0 (by omega) j10 (by omega) st.2.1 (by omega) k3 (W4 _ ⟨?_, ?_, hk⟩)
  · rw [fb 122 (by decide)]; exact st.2.1
  · rw [h4 _ (Int.le_refl _), q_u_at]
/-- all go on, and a leaf is open -/
theorem zMd.blankLeaf {j : Nat} (D : zMd a b gh t N LL n L P d c i R E) (ed : j + 1 = d) (eij : i = j) (s6 : a 43 6 = -1) (k3 : 3 < b 117 (c (j + 1))) (k5 : b 117 (c (j + 1)) ≠ 5) (h7 : a 43 7 = 0)
    (hK : ∀ a5 b5 d5 c5, zLi a5 b5 gh t N LL n (L + 1) (E + 1) E d5 c5 → (∀ Kf : qM → Prop, Kf b5 → c_m_closesBehind X (c j) (c i) b (fun s1 => zTl X P 1 (c i) s1 Kf)) → K a5) : c_Rd_readBlank X a (fun r9 s8 => L_Rd_read_129 X L 1 r9 s8 K) := by
  obtain ⟨nr, n1⟩ := D.nr
  obtain ⟨r13, r15, r17, _⟩ := D.S.B.rows
  have jlt : j < d := by omega
  have st := D.S.C.step j jlt
  have rj := D.S.C.rng (i := j) (by omega)
  have rj1 := D.S.C.rng (i := j + 1) (by omega)
  have j0 : 0 ≤ c j := by omega
  have j10 : 0 ≤ c (j + 1) := by omega
  have kp := D.S.B.kd (c (j + 1)) j10 rj1.2
  have one := D.S.C.is1 (i := j + 1) (by omega)
  have kc := D.S.C.con D.S.B jlt
  have hx : (1 : Int) = if (1 : Int) = 0 then 0 else if a 43 7 ≠ 0 then 0 else 1 := by rw [if_neg (by decide), if_neg (fun z => z h7)]
  refine sg_Rd_readBlank (k_Blocks_openIn (by omega) ?_)
  rw [show zT a 17 (a 43 5) = c (j + 1) by rw [D.S.inn, D.S.C.next r17 D.S.id, eij, if_pos jlt]]
  refine z_t (by omega) (k_Blocks_kindOf (by omega) ?_)
  rw [zT_in j10 (by omega), kp.1]
  refine z_c (fun n6 => ?_) (fun e6 => ?_)
  · rw [D.S.inn]
    refine D.shut (x := 1) (v3 := 1) (fun _ _ => rfl) (fun _ _ => rfl) D.S.C (by rw [← ed]; exact ⟨k5, n6⟩) (by decide) (by decide) hx (fun a5 b5 Z W => hK a5 b5 _ _ Z (fun Kf hk => ?_))
    have hk := W Kf hk
    rw [eij] at hk ⊢
    exact k_m_cb_leaf j0 (by omega) j10 (by omega) st.2.1 (by omega) k3 (fun _ => hk) (fun z => absurd z n6)
  · have e6 := Decidable.not_not.mp e6
    refine k_Blocks_close (p := c j) (by omega) (by omega) j10 (by omega) (by rw [kp.2.2.2]; exact st.2.2.2) j0 (by omega) (fun a4 fa e18 => ?_)
    rw [fa 43 (by decide), D.S.inn]
    refine D.shut (b4 := q_up b 119 (c (j + 1)) 0) (x := 1) (v3 := 1) fa (fun q hq => q_up_ne hq) (D.S.C.leaf ed q_up_fn e18 (q_up_ne (by decide)) (q_up_ne (by decide))) ⟨by omega, by omega⟩ (by decide) (by decide) hx (fun a5 b5 Z W => hK a5 b5 _ _ Z (fun Kf hk => ?_))
    have hk := W Kf hk
    rw [eij] at hk ⊢
    exact k_m_cb_leaf j0 (by omega) j10 (by omega) st.2.1 (by omega) k3 (fun z => absurd e6 z) (fun _ => hk)
/-- all go on, and no leaf is open -/
theorem zMd.blankEnd (D : zMd a b gh t N LL n L P d c i R E) (kd : b 117 (c d) ≤ 3) (ij : i = zIn b c d) (s6 : a 43 6 = -1) (h7 : a 43 7 = 0)
    (hK : ∀ a5 b5 d5 c5, zLi a5 b5 gh t N LL n (L + 1) (E + 1) E d5 c5 → (∀ Kf : qM → Prop, Kf b5 → c_m_closesBehind X (c d) (c i) b (fun s1 => zTl X P 1 (c i) s1 Kf)) → K a5) : c_Rd_readBlank X a (fun r9 s8 => L_Rd_read_129 X L 1 r9 s8 K) := by
  obtain ⟨nr, n1⟩ := D.nr
  obtain ⟨r13, r15, r17, _⟩ := D.S.B.rows
  have rd := D.S.C.rng (Nat.le_refl d)
  have ri := D.S.C.rng D.S.id
  have d0 : 0 ≤ c d := by omega
  have i0 : 0 ≤ c i := by omega
  have kp := D.S.B.kd (c d) d0 rd.2
  have hx : (1 : Int) = if (1 : Int) = 0 then 0 else if a 43 7 ≠ 0 then 0 else 1 := by rw [if_neg (by decide), if_neg (fun z => z h7)]
  have hst : b 122 (c d) = -1 ∨ (0 ≤ b 122 (c d) ∧ b 122 (c d) < 600 ∧ b 119 (b 122 (c d)) = 0) := by
    rcases D.S.C.stop D.S.B with z | z
    · exact Or.inl z
    · rcases D.S.B.la (c d) d0 rd.2 with w | ⟨w1, w2, _⟩
      · exact Or.inl w
      · exact Or.inr ⟨by omega, by omega, z⟩
  have sh : ∀ (hq : b 122 (c i) = -1 ∨ (0 ≤ b 122 (c i) ∧ b 122 (c i) < 600 ∧ (b 119 (b 122 (c i)) = 0 ∨ b 117 (b 122 (c i)) ≠ 6))), L_Rd_read_129 X L 1 (c i) a K := fun hq =>
    D.shut (x := 1) (v3 := 1) (fun _ _ => rfl) (fun _ _ => rfl) D.S.C ⟨by omega, by omega⟩ (by decide) (by decide) hx (fun a5 b5 Z W => hK a5 b5 _ _ Z (fun Kf hk => k_m_cb_none d0 (by omega) i0 (by omega) hst hq (W Kf hk)))
  refine sg_Rd_readBlank (k_Blocks_openIn (by omega) ?_)
  by_cases k2 : b 117 (c d) = 2
  · have nz : d ≠ 0 := fun z => by rw [z, D.S.C.c0, D.S.B.root.1] at k2; exact absurd k2 (by decide)
    have eid : i = d - 1 := by rw [ij]; unfold zIn; rw [if_pos k2]
    have ei1 : i + 1 = d := by omega
    have st := D.S.C.step i (by omega)
    rw [ei1] at st
    rw [show zT a 17 (a 43 5) = c d by rw [D.S.inn, D.S.C.next r17 D.S.id, if_pos (by omega), ei1]]
    refine z_t (by omega) (k_Blocks_kindOf (by omega) ?_)
    rw [zT_in d0 (by omega), kp.1, k2, D.S.inn]
    exact z_t (by decide) (sh (Or.inr (by rw [st.2.1]; exact ⟨d0, by omega, Or.inr (by omega)⟩)))
  · have eid : i = d := by rw [ij]; unfold zIn; rw [if_neg k2]
    rw [show zT a 17 (a 43 5) = -1 by rw [D.S.inn, D.S.C.next r17 D.S.id, if_neg (by omega)]]
    refine z_f (fun y => y s6.symm) (z_f (by decide) (k_Blocks_kindOf (by omega) ?_))
    rw [zT_out (by omega), D.S.inn]
    refine z_t (by decide) (sh ?_)
    rw [eid]
    exact hst.imp id (fun z => ⟨z.1, z.2.1, Or.inl z.2.2⟩)
/-- the rest is blank, and no container has been put in -/
theorem zMd.blankNo {j : Nat} {al : Int} (D : zMd a b gh t N LL n L P d c i R E) (Q : zNp a b t d c i j al R E) (bl : zSkip t R E = E) (h7 : a 43 7 = 0) (nf : al = 1 → b 117 (c d) ≠ 5)
    (hK : ∀ a5 b5 d5 c5, zLi a5 b5 gh t N LL n (L + 1) (E + 1) E d5 c5 → (∀ Kf : qM → Prop, Kf b5 → c_m_closesBehind X (c j) (c i) b (fun s1 => zTl X P 1 (c i) s1 Kf)) → K a5) : c_Rd_readBlank X a (fun r9 s8 => L_Rd_read_129 X L 1 r9 s8 K) := by
  have jd := Q.jd
  have noList : ∀ (h : j < d), b 117 (c (j + 1)) ≠ 3 → i = j := by
    intro h n3
    have rj1 := D.S.C.rng (i := j + 1) (by omega)
    have hp := D.S.B.par (c (j + 1)) (by omega) rj1.2
    rw [(D.S.C.step j h).2.2.2] at hp
    rw [Q.ij]; unfold zIn
    rw [if_neg (fun z => n3 (hp.2.2.2.mp z))]
  rcases Q.how with ⟨al1, s6, q⟩ | ⟨al0, jlt, s6, q3, q⟩
  · by_cases jlt : j < d
    · have q := q.resolve_left (Nat.ne_of_lt jlt)
      have ed : j + 1 = d := by
        by_cases z : j + 1 < d
        · have := D.S.C.con D.S.B z; omega
        · omega
      exact D.blankLeaf ed (noList jlt (by omega)) s6 q (by rw [ed]; exact nf al1) h7 hK
    · have ej : j = d := by omega
      have kj := Q.kj
      have ij := Q.ij
      rw [ej] at kj ij hK
      exact D.blankEnd kj ij s6 h7 hK
  · have n3 : b 117 (c (j + 1)) ≠ 3 := by
      intro z
      rw [z] at q; unfold zGo at q; rw [if_neg (by decide), if_pos rfl, if_pos bl] at q
      have := D.S.H1.RE; omega
    exact D.blankStop jlt (noList jlt n3) s6 q3 h7 hK
end Blank
