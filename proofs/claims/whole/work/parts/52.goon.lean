/-! The containers that go on, in both at once. -/
def zOw (a b : qM) (n p : Int) : Prop := (∀ k, 0 ≤ k → k < p → a 34 k = b 129 k ∧ 0 ≤ a 34 k ∧ a 34 k < n) ∧ (True)
theorem zOw.mk {a b : qM} {n p : Int} (own : ∀ k, 0 ≤ k → k < p → a 34 k = b 129 k ∧ 0 ≤ a 34 k ∧ a 34 k < n) (all : True) : zOw a b n p := ⟨own, all⟩
theorem zOw.own {a b : qM} {n p : Int} (h : zOw a b n p) : ∀ k, 0 ≤ k → k < p → a 34 k = b 129 k ∧ 0 ≤ a 34 k ∧ a 34 k < n := h.1
theorem zOw.all {a b : qM} {n p : Int} (h : zOw a b n p) : True := h.2
/-- the innermost of c 0 .. c i that is no LIST -/
def zIn (b : qM) (c : Nat → Int) (i : Nat) : Nat := if b 117 (c i) = 2 then i - 1 else i
def zGE (a a' b b' : qM) (n : Int) (d : Nat) (c : Nat → Int) (t : Int → Int) (R R' E : Int) (j : Nat) (al : Int) : Prop := (∀ q, q ≠ 34 → q ≠ 43 → a' q = a q) ∧ (∀ q, q ≠ 113 → q ≠ 129 → b' q = b q) ∧ (∀ j, j ≠ 3 → j ≠ 5 → j ≠ 6 → a' 43 j = a 43 j) ∧ (∀ j, j ≠ 49 → b' 113 j = b 113 j) ∧ (a' 43 3 = R') ∧ (b' 113 49 = R') ∧ (R ≤ R' ∧ R' ≤ E) ∧ (j ≤ d) ∧ (a' 43 5 = c (zIn b c j)) ∧ (b 117 (c j) ≤ 3) ∧ ((al = 1 ∧ a' 43 6 = -1 ∧ (j = d ∨ 3 < b 117 (c (j + 1)))) ∨ (al = 0 ∧ j < d ∧ a' 43 6 = c (j + 1) ∧ b 117 (c (j + 1)) ≤ 3 ∧ zGo t (b 117 (c (j + 1))) (b 120 (c (j + 1))) R' E = -1)) ∧ (zOw a' b' n R')
theorem zGE.mk {a a' b b' : qM} {n : Int} {d : Nat} {c : Nat → Int} {t : Int → Int} {R R' E : Int} {j : Nat} {al : Int} (fa : ∀ q, q ≠ 34 → q ≠ 43 → a' q = a q) (fb : ∀ q, q ≠ 113 → q ≠ 129 → b' q = b q) (f43 : ∀ j, j ≠ 3 → j ≠ 5 → j ≠ 6 → a' 43 j = a 43 j) (f113 : ∀ j, j ≠ 49 → b' 113 j = b 113 j) (ra : a' 43 3 = R') (rb : b' 113 49 = R') (RR : R ≤ R' ∧ R' ≤ E) (jd : j ≤ d) (inn : a' 43 5 = c (zIn b c j)) (kj : b 117 (c j) ≤ 3) (how : (al = 1 ∧ a' 43 6 = -1 ∧ (j = d ∨ 3 < b 117 (c (j + 1)))) ∨ (al = 0 ∧ j < d ∧ a' 43 6 = c (j + 1) ∧ b 117 (c (j + 1)) ≤ 3 ∧ zGo t (b 117 (c (j + 1))) (b 120 (c (j + 1))) R' E = -1)) (own : zOw a' b' n R') : zGE a a' b b' n d c t R R' E j al := ⟨fa, fb, f43, f113, ra, rb, RR, jd, inn, kj, how, own⟩
theorem zGE.fa {a a' b b' : qM} {n : Int} {d : Nat} {c : Nat → Int} {t : Int → Int} {R R' E : Int} {j : Nat} {al : Int} (h : zGE a a' b b' n d c t R R' E j al) : ∀ q, q ≠ 34 → q ≠ 43 → a' q = a q := h.1
theorem zGE.fb {a a' b b' : qM} {n : Int} {d : Nat} {c : Nat → Int} {t : Int → Int} {R R' E : Int} {j : Nat} {al : Int} (h : zGE a a' b b' n d c t R R' E j al) : ∀ q, q ≠ 113 → q ≠ 129 → b' q = b q := h.2.1
theorem zGE.f43 {a a' b b' : qM} {n : Int} {d : Nat} {c : Nat → Int} {t : Int → Int} {R R' E : Int} {j : Nat} {al : Int} (h : zGE a a' b b' n d c t R R' E j al) : ∀ j, j ≠ 3 → j ≠ 5 → j ≠ 6 → a' 43 j = a 43 j := h.2.2.1
theorem zGE.f113 {a a' b b' : qM} {n : Int} {d : Nat} {c : Nat → Int} {t : Int → Int} {R R' E : Int} {j : Nat} {al : Int} (h : zGE a a' b b' n d c t R R' E j al) : ∀ j, j ≠ 49 → b' 113 j = b 113 j := h.2.2.2.1
theorem zGE.ra {a a' b b' : qM} {n : Int} {d : Nat} {c : Nat → Int} {t : Int → Int} {R R' E : Int} {j : Nat} {al : Int} (h : zGE a a' b b' n d c t R R' E j al) : a' 43 3 = R' := h.2.2.2.2.1
theorem zGE.rb {a a' b b' : qM} {n : Int} {d : Nat} {c : Nat → Int} {t : Int → Int} {R R' E : Int} {j : Nat} {al : Int} (h : zGE a a' b b' n d c t R R' E j al) : b' 113 49 = R' := h.2.2.2.2.2.1
theorem zGE.RR {a a' b b' : qM} {n : Int} {d : Nat} {c : Nat → Int} {t : Int → Int} {R R' E : Int} {j : Nat} {al : Int} (h : zGE a a' b b' n d c t R R' E j al) : R ≤ R' ∧ R' ≤ E := h.2.2.2.2.2.2.1
theorem zGE.jd {a a' b b' : qM} {n : Int} {d : Nat} {c : Nat → Int} {t : Int → Int} {R R' E : Int} {j : Nat} {al : Int} (h : zGE a a' b b' n d c t R R' E j al) : j ≤ d := h.2.2.2.2.2.2.2.1
theorem zGE.inn {a a' b b' : qM} {n : Int} {d : Nat} {c : Nat → Int} {t : Int → Int} {R R' E : Int} {j : Nat} {al : Int} (h : zGE a a' b b' n d c t R R' E j al) : a' 43 5 = c (zIn b c j) := h.2.2.2.2.2.2.2.2.1
theorem zGE.kj {a a' b b' : qM} {n : Int} {d : Nat} {c : Nat → Int} {t : Int → Int} {R R' E : Int} {j : Nat} {al : Int} (h : zGE a a' b b' n d c t R R' E j al) : b 117 (c j) ≤ 3 := h.2.2.2.2.2.2.2.2.2.1
theorem zGE.how {a a' b b' : qM} {n : Int} {d : Nat} {c : Nat → Int} {t : Int → Int} {R R' E : Int} {j : Nat} {al : Int} (h : zGE a a' b b' n d c t R R' E j al) : (al = 1 ∧ a' 43 6 = -1 ∧ (j = d ∨ 3 < b 117 (c (j + 1)))) ∨ (al = 0 ∧ j < d ∧ a' 43 6 = c (j + 1) ∧ b 117 (c (j + 1)) ≤ 3 ∧ zGo t (b 117 (c (j + 1))) (b 120 (c (j + 1))) R' E = -1) := h.2.2.2.2.2.2.2.2.2.2.1
theorem zGE.own {a a' b b' : qM} {n : Int} {d : Nat} {c : Nat → Int} {t : Int → Int} {R R' E : Int} {j : Nat} {al : Int} (h : zGE a a' b b' n d c t R R' E j al) : zOw a' b' n R' := h.2.2.2.2.2.2.2.2.2.2.2
section GoOn
variable {X : Nat × (Nat → Int32)} {a b a' b' : qM} {K : qM → Prop} {t : Int → Int} {n R E : Int} {d : Nat} {c : Nat → Int}
theorem zB.fr (B : zB a b n) (fa : ∀ q, 13 ≤ q → q ≤ 28 → a' q = a q) (fb : ∀ q, 117 ≤ q → q ≤ 123 → b' q = b q) (h4 : b' 113 4 = b 113 4) (h17 : b' 113 17 = b 113 17) : zB a' b' n := by
  refine zB.mk B.n1 ?_ ?_ ?_ ?_ ?_ ?_ ?_ (by rw [fb 118 (by decide) (by decide)]; exact B.pre)
  · rw [fa 13 (by decide) (by decide), fa 15 (by decide) (by decide), fa 17 (by decide) (by decide), fa 19 (by decide) (by decide), fa 21 (by decide) (by decide), fa 23 (by decide) (by decide), fa 25 (by decide) (by decide), fa 27 (by decide) (by decide), h4]; exact B.rows
  · rw [fb 117 (by decide) (by decide), fb 118 (by decide) (by decide)]; exact B.root
  · rw [fa 14 (by decide) (by decide), fa 16 (by decide) (by decide), fb 117 (by decide) (by decide), fb 118 (by decide) (by decide)]; exact B.kd
  · rw [fb 117 (by decide) (by decide), fb 118 (by decide) (by decide)]; exact B.par
  · rw [fa 22 (by decide) (by decide), fa 24 (by decide) (by decide), fa 28 (by decide) (by decide), fb 117 (by decide) (by decide), fb 120 (by decide) (by decide), fb 121 (by decide) (by decide), fb 123 (by decide) (by decide)]; exact B.ms
  · rw [fa 20 (by decide) (by decide), fb 117 (by decide) (by decide), fb 123 (by decide) (by decide), h17]; exact B.fl
  · rw [fb 122 (by decide) (by decide), fb 118 (by decide) (by decide)]; exact B.la
theorem zCh.fr (C : zCh a b n d c) (fa : a' 18 = a 18) (f8 : b' 118 = b 118) (f9 : b' 119 = b 119) (f2 : b' 122 = b 122) : zCh a' b' n d c := by
  refine zCh.mk C.c0 ?_ ?_ C.lt ?_ (by rw [f8]; exact C.ins)
  · rw [fa, f8, f2]; exact C.step
  · rw [fa]; exact C.last
  · rw [f9]; exact C.opn
theorem zCh.next (C : zCh a b n d c) (h17 : a 17 1 = n) {i : Nat} (hi : i ≤ d) : zT a 17 (c i) = if i < d then c (i + 1) else -1 := by
  have r := C.rng hi
  rw [zT_in (by omega) (by omega)]
  by_cases e : i < d
  · rw [if_pos e]; exact (C.step i e).2.2.1
  · rw [if_neg e, show i = d by omega]; exact C.last
theorem zGo_rng {κ w : Int} (hR : R ≤ E) (hw : κ = 3 → 2 ≤ w ∧ w ≤ 3) (h : zGo t κ w R E ≠ -1) : 0 ≤ zGo t κ w R E ∧ R + zGo t κ w R E ≤ E := by
  obtain ⟨g1, g2, g3, g4⟩ := zSkip_is (t := t) hR
  unfold zGo at h ⊢
  by_cases e1 : κ = 1
  · rw [if_pos e1] at h ⊢
    by_cases x : zLook t E R = 62
    · rw [if_pos x] at h ⊢
      have lt : R < E := by
        by_cases y : R < E
        · exact y
        · unfold zLook at x; rw [if_neg y] at x; omega
      by_cases z : zLook t E (R + 1) = 32
      · have lt2 : R + 1 < E := by
          by_cases y : R + 1 < E
          · exact y
          · unfold zLook at z; rw [if_neg y] at z; omega
        rw [if_pos z]; omega
      · rw [if_neg z]; omega
    · rw [if_neg x] at h; exact absurd rfl h
  · rw [if_neg e1] at h ⊢
    by_cases e3 : κ = 3
    · rw [if_pos e3] at h ⊢
      have := hw e3
      by_cases x : zSkip t R E = E
      · rw [if_pos x]; omega
      · rw [if_neg x] at h ⊢
        by_cases y : R + w ≤ zSkip t R E
        · rw [if_pos y]; omega
        · rw [if_neg y] at h; exact absurd rfl h
    · rw [if_neg e3]; omega
theorem zIn_le {i : Nat} : zIn b c i ≤ i := by unfold zIn; split <;> omega
theorem k_Rd_goOn_21 {from_ : Int} (hn : n ≤ 482) : ∀ (m i : Nat) (a b : qM) (R : Int) (K : qM → Prop), d - i = m → i ≤ d → zCl a t R E → zMl b t R E → zB a b n → zCh a b n d c → zOw a b n R → a 43 5 = c (zIn b c i) → a 43 6 = -1 → b 117 (c i) ≤ 3 →
    (∀ a' b' j al R', zGE a a' b b' n d c t R R' E j al → (∀ Kf, L_m_looksAt_129 X from_ (c j) (c (zIn b c j)) al b' Kf → L_m_looksAt_31 X from_ (c i) (c (zIn b c i)) 1 b Kf) → K a') → L_Rd_goOn_21 X (if i < d then c (i + 1) else -1) i a K := by
  intro m
  induction m with
  | zero =>
    intro i a b R K hm hi H1 H2 B C O h5 h6 h3 h
    have e : i = d := by omega
    have ri := C.rng hi
    have r13 := B.rows.1
    refine sg_Rd_goOn_21 (z_f (by omega) (sg_Blocks_isContainer (k_Row_at q_row_13 (by omega) ?_)))
    rw [if_neg (by omega), zT_out (by omega)]
    refine z_t (by decide) (z_t rfl (h a b i 1 R (zGE.mk (fun _ _ _ => rfl) (fun _ _ _ => rfl) (fun _ _ _ _ => rfl) (fun _ _ => rfl) H1.rest H2.rest ⟨Int.le_refl R, H1.RE⟩ hi h5 h3 (Or.inl ⟨rfl, h6, Or.inl e⟩) O) (fun Kf hk => ?_)))
    refine sg_m_looksAt_31 (z_f (by decide) ⟨by omega, by omega, z_c (fun _ => hk) (fun x => ?_)⟩)
    have hla := B.la (c i) (by omega) ri.2
    have hst := C.stop B
    rw [← e] at hst
    exact ⟨by omega, by omega, by omega, by omega, z_t (by omega) hk⟩
  | succ m ih =>
    intro i a b R K hm hi H1 H2 B C O h5 h6 h3 h
    have lt : i < d := by omega
    have ri := C.rng hi
    have rk := C.rng (i := i + 1) (by omega)
    have st := C.step i lt
    have kd := B.kd (c (i + 1)) (by omega) rk.2
    have hms := B.ms (c (i + 1)) (by omega) rk.2
    have one := C.is1 (i := i + 1) (by omega)
    obtain ⟨r13, _, r17, _, r21, _⟩ := B.rows
    refine sg_Rd_goOn_21 (z_f (by omega) (sg_Blocks_isContainer (k_Row_at q_row_13 (by omega) ?_)))
    rw [if_pos lt, zT_in (by omega) (by omega), kd.1]
    refine z_f (by omega) (z_c (fun leaf => ?_) (fun cont => ?_))
    · refine z_t rfl (h a b i 1 R (zGE.mk (fun _ _ _ => rfl) (fun _ _ _ => rfl) (fun _ _ _ _ => rfl) (fun _ _ => rfl) H1.rest H2.rest ⟨Int.le_refl R, H1.RE⟩ hi h5 h3 (Or.inl ⟨rfl, h6, Or.inr leaf⟩) O) (fun Kf hk => ?_))
      refine sg_m_looksAt_31 (z_f (by decide) ⟨by omega, by omega, ?_⟩)
      rw [st.2.1]
      exact z_f (by omega) ⟨by omega, by omega, by omega, by omega, z_f (by omega) ⟨by omega, by omega, by omega, by omega, k_m_isContainer (fun x => by omega) (fun _ => z_t rfl hk)⟩⟩
    · refine z_f (by decide) ?_
      have hw : b 117 (c (i + 1)) = 3 → a 22 (c (i + 1)) = b 120 (c (i + 1)) ∧ 2 ≤ b 120 (c (i + 1)) ∧ b 120 (c (i + 1)) ≤ 3 := hms.1
      have hw2 : b 117 (c (i + 1)) = 3 → b 120 (c (i + 1)) = b 120 (c (i + 1)) ∧ 2 ≤ b 120 (c (i + 1)) ∧ b 120 (c (i + 1)) ≤ 3 := fun x => ⟨rfl, (hms.1 x).2⟩
      refine k_Rd_goesOn (κ := b 117 (c (i + 1))) (w := b 120 (c (i + 1))) H1 hn r13 r21 (by omega) rk.2 kd.1 kd.2.1 (by omega) hw (fun g => ?_) (fun g a1 T => ?_)
      · refine z_f (by decide) (fun a2 e2 => ?_)
        have q43 : ∀ q, q ≠ 43 → a2 q = a q := fun q hq => by rw [e2]; exact q_up_ne hq
        have j43 : ∀ j, j ≠ 6 → a2 43 j = a 43 j := fun j hj => by rw [e2]; exact q_up_nj hj
        refine h a2 b i 0 R (zGE.mk (fun q x y => q43 q y) (fun _ _ _ => rfl) (fun j x y z => j43 j z) (fun _ _ => rfl) ((j43 3 (by decide)).trans H1.rest) H2.rest ⟨Int.le_refl R, H1.RE⟩ hi ((j43 5 (by decide)).trans h5) h3 (Or.inr ⟨rfl, lt, by rw [e2, q_up_at], by omega, g⟩) (zOw.mk (by rw [q43 34 (by decide)]; exact O.own) trivial)) (fun Kf hk => ?_)
        refine sg_m_looksAt_31 (z_f (by decide) ⟨by omega, by omega, ?_⟩)
        rw [st.2.1]
        refine z_f (by omega) ⟨by omega, by omega, by omega, by omega, z_f (by omega) ⟨by omega, by omega, by omega, by omega, k_m_isContainer (fun x => z_f (by decide) ⟨by omega, by omega, ?_⟩) (fun x => by omega)⟩⟩
        rw [st.2.1]
        exact k_m_goesOn H2 (by omega) (by omega) rfl hw2 (fun _ => z_t rfl (z_t rfl (sg_m_looksAt_31 (z_t rfl hk)))) (fun x => absurd g x)
      · have gr := zGo_rng H1.RE (fun x => (hms.1 x).2) g
        refine z_t (by decide) ?_
        obtain ⟨r, b1, ⟨hr, T2⟩, W⟩ := z_1I (k_m_goesOn (X := X) (K := fun r b1 => r = 1 ∧ zTm b b1 R (zGo t (b 117 (c (i + 1))) (b 120 (c (i + 1))) R E) (c (i + 1))) H2 (by omega) (by omega) rfl hw2 (fun x => absurd x g) (fun _ b1 T => ⟨rfl, T⟩))
        subst hr
        generalize zGo t (b 117 (c (i + 1))) (b 120 (c (i + 1))) R E = g0 at T T2 gr
        have B1 : zB a1 b1 n := B.fr (fun q x y => T.fr q (by omega) (by omega)) (fun q x y => T2.fr q (by omega) (by omega)) (T2.f113 4 (by decide)) (T2.f113 17 (by decide))
        have C1 : zCh a1 b1 n d c := C.fr (T.fr 18 (by decide) (by decide)) (T2.fr 118 (by decide) (by decide)) (T2.fr 119 (by decide) (by decide)) (T2.fr 122 (by decide) (by decide))
        have O1 : zOw a1 b1 n (R + g0) := zOw.mk (fun k k0 kR => by
          by_cases x : R ≤ k
          · rw [T.own k x kR, T2.own k x kR]; omega
          · rw [T.old k (by omega), T2.old k (by omega)]; exact O.own k k0 (by omega)) trivial
        have H2' : zMl b1 t (R + g0) E := zMl.mk T2.rest ((T2.f113 50 (by decide)).trans H2.stop) (by have := H2.R0; omega) gr.2 (by rw [T2.f113 0 (by decide)]; exact H2.En) (by rw [T2.f113 0 (by decide)]; exact H2.n240) ((T2.fr 114 (by decide) (by decide)).trans H2.tx)
        have i117 : b1 117 = b 117 := T2.fr 117 (by decide) (by decide)
        have i120 : b1 120 = b 120 := T2.fr 120 (by decide) (by decide)
        have i122 : b1 122 = b 122 := T2.fr 122 (by decide) (by decide)
        have zin : ∀ j, zIn b1 c j = zIn b c j := fun j => by unfold zIn; rw [i117]
        have nx := C1.next B1.rows.2.2.1 (i := i + 1) (by omega)
        have fin : ∀ a2 : qM, (∀ q, q ≠ 43 → a2 q = a1 q) → (∀ j, j ≠ 5 → a2 43 j = a1 43 j) → a2 43 5 = c (zIn b c (i + 1)) → L_Rd_goOn_21 X (if i + 1 < d then c (i + 1 + 1) else -1) ((i : Int) + 1) a2 K := by
          intro a2 f1 f2 f3
          have e1 : a2 1 = a 1 := (f1 1 (by decide)).trans (T.fr 1 (by decide) (by decide))
          have H1' : zCl a2 t (R + g0) E := zCl.mk ((f2 3 (by decide)).trans T.rest) ((f2 4 (by decide)).trans ((T.f43 4 (by decide)).trans H1.stop)) (by have := H1.R0; omega) gr.2 (by rw [e1]; exact H1.En) (by rw [e1]; exact H1.n240) (by rw [e1, f1 33 (by decide), T.fr 33 (by decide) (by decide)]; exact H1.ow) (by rw [e1, f1 2 (by decide), T.fr 2 (by decide) (by decide)]; exact H1.tx)
          refine ih (i + 1) a2 b1 (R + g0) K (by omega) (by omega) H1' H2' (B1.fr (fun q x y => f1 q (by omega)) (fun _ _ _ => rfl) rfl rfl) (C1.fr (f1 18 (by decide)) rfl rfl rfl) (zOw.mk (by rw [f1 34 (by decide)]; exact O1.own) trivial) (by rw [zin]; exact f3) (by rw [f2 6 (by decide), T.f43 6 (by decide)]; exact h6) (by rw [i117]; omega) (fun a' b' j al R' G W' => ?_)
          refine h a' b' j al R' (zGE.mk (fun q x y => (G.fa q x y).trans ((f1 q y).trans (T.fr q x y))) (fun q x y => (G.fb q x y).trans (T2.fr q x y)) (fun j x y z => (G.f43 j x y z).trans ((f2 j y).trans (T.f43 j x))) (fun j x => (G.f113 j x).trans (T2.f113 j x)) G.ra G.rb ⟨by have := G.RR; omega, G.RR.2⟩ G.jd (by rw [← zin]; exact G.inn) (by rw [← i117]; exact G.kj) (by rw [← i117, ← i120]; exact G.how) G.own) (fun Kf hk => ?_)
          have hk2 := W' Kf (by rw [zin]; exact hk)
          refine sg_m_looksAt_31 (z_f (by decide) ⟨by omega, by omega, ?_⟩)
          rw [st.2.1]
          refine z_f (by omega) ⟨by omega, by omega, by omega, by omega, z_f (by omega) ⟨by omega, by omega, by omega, by omega, k_m_isContainer (fun x => z_f (by decide) ⟨by omega, by omega, ?_⟩) (fun x => by omega)⟩⟩
          rw [st.2.1]
          refine W _ (z_f (by decide) ⟨by omega, by omega, z_f (by decide) ?_⟩)
          rw [i122, st.2.1]
          rw [zin] at hk2
          refine ⟨by omega, by omega, z_c (fun x => ?_) (fun x => ?_)⟩
          · rw [i117] at x
            have hz : zIn b c (i + 1) = zIn b c i := by
              have hp := B.par (c (i + 1)) (by omega) rk.2
              rw [st.2.2.2] at hp
              unfold zIn
              rw [if_pos x, if_neg (fun y => by have := hp.2.2.2.mp y; omega)]
              omega
            rw [hz] at hk2
            exact hk2
          · rw [i117] at x
            have hz : zIn b c (i + 1) = i + 1 := by unfold zIn; rw [if_neg x]
            rw [hz] at hk2
            exact hk2
        have e14 : zT a1 13 (c (i + 1)) = b 117 (c (i + 1)) := by
          rw [zT_in (by omega) (by rw [B1.rows.1]; exact rk.2), T.fr 14 (by decide) (by decide)]; exact kd.1
        refine k_Blocks_kindOf (by rw [B1.rows.1]; omega) ?_
        rw [e14]
        refine z_c (fun e => ?_) (fun e a2 e2 => ?_)
        · refine k_Blocks_openIn (by rw [B1.rows.2.2.1]; omega) ⟨by omega, ?_⟩
          rw [nx]
          refine fin a1 (fun _ _ => rfl) (fun _ _ => rfl) ?_
          rw [T.f43 5 (by decide), h5]
          have hp := B.par (c (i + 1)) (by omega) rk.2
          rw [st.2.2.2] at hp
          unfold zIn
          rw [if_pos e, if_neg (fun y => by have := hp.2.2.2.mp y; omega)]
          rfl
        · have q43 : ∀ q, q ≠ 43 → a2 q = a1 q := fun q hq => by rw [e2]; exact q_up_ne hq
          refine k_Blocks_openIn (by rw [q43 17 (by decide), B1.rows.2.2.1]; omega) ⟨by omega, ?_⟩
          have : zT a2 17 (c (i + 1)) = zT a1 17 (c (i + 1)) := by unfold zT; rw [q43 17 (by decide), q43 (17 + 1) (by decide)]
          rw [this, nx]
          exact fin a2 q43 (fun j hj => by rw [e2]; exact q_up_nj hj) (by rw [e2, q_up_at]; unfold zIn; rw [if_neg e])
end GoOn
