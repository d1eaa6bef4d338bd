/-! The containers that are put in, in both at once. -/
/-- between two steps of reading a line: c i is the innermost container so far -/
def zSt (a b : qM) (t : Int → Int) (n : Int) (d : Nat) (c : Nat → Int) (i : Nat) (R E : Int) : Prop := (zCl a t R E) ∧ (zMl b t R E) ∧ (zB a b n) ∧ (zCh a b n d c) ∧ (zOw a b n R) ∧ (i ≤ d) ∧ (a 43 5 = c i) ∧ (b 117 (c i) ≤ 3 ∧ b 117 (c i) ≠ 2) ∧ (n ≤ 1 + 2 * R) ∧ (a 43 8 = b 113 48) ∧ (0 ≤ b 113 17 ∧ b 113 17 ≤ 241)
theorem zSt.mk {a b : qM} {t : Int → Int} {n : Int} {d : Nat} {c : Nat → Int} {i : Nat} {R E : Int} (H1 : zCl a t R E) (H2 : zMl b t R E) (B : zB a b n) (C : zCh a b n d c) (O : zOw a b n R) (id : i ≤ d) (inn : a 43 5 = c i) (ki : b 117 (c i) ≤ 3 ∧ b 117 (c i) ≠ 2) (cap : n ≤ 1 + 2 * R) (ib : a 43 8 = b 113 48) (l17 : 0 ≤ b 113 17 ∧ b 113 17 ≤ 241) : zSt a b t n d c i R E := ⟨H1, H2, B, C, O, id, inn, ki, cap, ib, l17⟩
theorem zSt.H1 {a b : qM} {t : Int → Int} {n : Int} {d : Nat} {c : Nat → Int} {i : Nat} {R E : Int} (h : zSt a b t n d c i R E) : zCl a t R E := h.1
theorem zSt.H2 {a b : qM} {t : Int → Int} {n : Int} {d : Nat} {c : Nat → Int} {i : Nat} {R E : Int} (h : zSt a b t n d c i R E) : zMl b t R E := h.2.1
theorem zSt.B {a b : qM} {t : Int → Int} {n : Int} {d : Nat} {c : Nat → Int} {i : Nat} {R E : Int} (h : zSt a b t n d c i R E) : zB a b n := h.2.2.1
theorem zSt.C {a b : qM} {t : Int → Int} {n : Int} {d : Nat} {c : Nat → Int} {i : Nat} {R E : Int} (h : zSt a b t n d c i R E) : zCh a b n d c := h.2.2.2.1
theorem zSt.O {a b : qM} {t : Int → Int} {n : Int} {d : Nat} {c : Nat → Int} {i : Nat} {R E : Int} (h : zSt a b t n d c i R E) : zOw a b n R := h.2.2.2.2.1
theorem zSt.id {a b : qM} {t : Int → Int} {n : Int} {d : Nat} {c : Nat → Int} {i : Nat} {R E : Int} (h : zSt a b t n d c i R E) : i ≤ d := h.2.2.2.2.2.1
theorem zSt.inn {a b : qM} {t : Int → Int} {n : Int} {d : Nat} {c : Nat → Int} {i : Nat} {R E : Int} (h : zSt a b t n d c i R E) : a 43 5 = c i := h.2.2.2.2.2.2.1
theorem zSt.ki {a b : qM} {t : Int → Int} {n : Int} {d : Nat} {c : Nat → Int} {i : Nat} {R E : Int} (h : zSt a b t n d c i R E) : b 117 (c i) ≤ 3 ∧ b 117 (c i) ≠ 2 := h.2.2.2.2.2.2.2.1
theorem zSt.cap {a b : qM} {t : Int → Int} {n : Int} {d : Nat} {c : Nat → Int} {i : Nat} {R E : Int} (h : zSt a b t n d c i R E) : n ≤ 1 + 2 * R := h.2.2.2.2.2.2.2.2.1
theorem zSt.ib {a b : qM} {t : Int → Int} {n : Int} {d : Nat} {c : Nat → Int} {i : Nat} {R E : Int} (h : zSt a b t n d c i R E) : a 43 8 = b 113 48 := h.2.2.2.2.2.2.2.2.2.1
theorem zSt.l17 {a b : qM} {t : Int → Int} {n : Int} {d : Nat} {c : Nat → Int} {i : Nat} {R E : Int} (h : zSt a b t n d c i R E) : 0 ≤ b 113 17 ∧ b 113 17 ≤ 241 := h.2.2.2.2.2.2.2.2.2.2
/-- what putting containers in leaves as it is -/
def zFr (a a' b b' : qM) : Prop := (∀ q, (q < 13 ∨ 28 < q) → q ≠ 34 → q ≠ 43 → a' q = a q) ∧ (∀ q, q ≠ 113 → (q < 117 ∨ 123 < q) → q ≠ 129 → b' q = b q) ∧ (∀ j, j ≠ 3 → j ≠ 5 → j ≠ 7 → a' 43 j = a 43 j) ∧ (∀ j, j ≠ 4 → j ≠ 49 → b' 113 j = b 113 j)
theorem zFr.mk {a a' b b' : qM} (fa : ∀ q, (q < 13 ∨ 28 < q) → q ≠ 34 → q ≠ 43 → a' q = a q) (fb : ∀ q, q ≠ 113 → (q < 117 ∨ 123 < q) → q ≠ 129 → b' q = b q) (f43 : ∀ j, j ≠ 3 → j ≠ 5 → j ≠ 7 → a' 43 j = a 43 j) (f113 : ∀ j, j ≠ 4 → j ≠ 49 → b' 113 j = b 113 j) : zFr a a' b b' := ⟨fa, fb, f43, f113⟩
theorem zFr.fa {a a' b b' : qM} (h : zFr a a' b b') : ∀ q, (q < 13 ∨ 28 < q) → q ≠ 34 → q ≠ 43 → a' q = a q := h.1
theorem zFr.fb {a a' b b' : qM} (h : zFr a a' b b') : ∀ q, q ≠ 113 → (q < 117 ∨ 123 < q) → q ≠ 129 → b' q = b q := h.2.1
theorem zFr.f43 {a a' b b' : qM} (h : zFr a a' b b') : ∀ j, j ≠ 3 → j ≠ 5 → j ≠ 7 → a' 43 j = a 43 j := h.2.2.1
theorem zFr.f113 {a a' b b' : qM} (h : zFr a a' b b') : ∀ j, j ≠ 4 → j ≠ 49 → b' 113 j = b 113 j := h.2.2.2
/-- blocks n .. n' - 1 are new, and containers -/
def zGr (a a' b b' : qM) (n n' : Int) : Prop := (n ≤ n') ∧ (∀ k, 0 ≤ k → k < n → a' 26 k = a 26 k ∧ a' 28 k = a 28 k ∧ b' 117 k = b 117 k) ∧ (∀ k, n ≤ k → k < n' → b' 117 k ≤ 3)
theorem zGr.mk {a a' b b' : qM} {n n' : Int} (nn : n ≤ n') (old : ∀ k, 0 ≤ k → k < n → a' 26 k = a 26 k ∧ a' 28 k = a 28 k ∧ b' 117 k = b 117 k) (new : ∀ k, n ≤ k → k < n' → b' 117 k ≤ 3) : zGr a a' b b' n n' := ⟨nn, old, new⟩
theorem zGr.nn {a a' b b' : qM} {n n' : Int} (h : zGr a a' b b' n n') : n ≤ n' := h.1
theorem zGr.old {a a' b b' : qM} {n n' : Int} (h : zGr a a' b b' n n') : ∀ k, 0 ≤ k → k < n → a' 26 k = a 26 k ∧ a' 28 k = a 28 k ∧ b' 117 k = b 117 k := h.2.1
theorem zGr.new {a a' b b' : qM} {n n' : Int} (h : zGr a a' b b' n n') : ∀ k, n ≤ k → k < n' → b' 117 k ≤ 3 := h.2.2
/-- how many characters a marker of z ones takes off -/
def zG (t : Int → Int) (R E z : Int) : Int := if zLook t E (R + z) = 32 then z + 1 else z
section Conts
variable {X : Nat × (Nat → Int32)} {a b s : qM} {K : qM → Prop} {KI : Int → qM → Prop} {t : Int → Int} {n R E : Int}
theorem zG_rng {z : Int} (h : R + z ≤ E) : z ≤ zG t R E z ∧ zG t R E z ≤ z + 1 ∧ R + zG t R E z ≤ E := by
  unfold zG
  by_cases x : zLook t E (R + z) = 32
  · rw [if_pos x]
    by_cases y : R + z < E
    · omega
    · rw [zLook_out y] at x; omega
  · rw [if_neg x]; omega
theorem k_Rd_put_53 {v v1 z : Int} (H : zCl s t R E) (z1 : 1 ≤ z) (hz : R + z ≤ E) (hv1 : 0 ≤ v1) (hv2 : v1 ≤ 1000)
    (h : ∀ s', (∀ q, q ≠ 34 → q ≠ 43 → s' q = s q) → (∀ j, j ≠ 3 → j ≠ 5 → j ≠ 7 → s' 43 j = s 43 j) → s' 43 3 = R + zG t R E z → s' 43 5 = v → s' 43 7 = 1 → (∀ i, R ≤ i → i < R + zG t R E z → s' 34 i = v) → (∀ i, ¬ (R ≤ i ∧ i < R + zG t R E z) → s' 34 i = s 34 i) → L_Rd_putContainersIn_2 X (v1 + 1) s' K) : L_Rd_putContainersIn_53 X v1 z v s K := by
  have hE := H.En
  have hN := H.n240
  have hR := H.R0
  have hg := zG_rng (t := t) hz
  have fin : ∀ g, zG t R E z = g → c_Rd_takeOff X g v s (fun s3 => ∀ s4 : qM, s4 = q_up s3 43 5 v → ∀ s5 : qM, s5 = q_up s4 43 7 1 → (-2147483648 ≤ (v1 + 1) ∧ (v1 + 1) < 2147483648) ∧ L_Rd_putContainersIn_2 X (v1 + 1) s5 K) := by
    intro g e
    rw [e] at h hg
    refine k_Rd_takeOff H.rest hR (by omega) (by rw [H.ow]; omega) (by rw [H.ow]; exact hN) (fun s3 T s4 e4 s5 e5 => ⟨by omega, ?_⟩)
    have f : ∀ q, q ≠ 43 → s5 q = s3 q := fun q hq => by rw [e5, q_up_ne hq, e4, q_up_ne hq]
    have g5 : ∀ j, j ≠ 5 → j ≠ 7 → s5 43 j = s3 43 j := fun j x y => by rw [e5, q_up_nj y, e4, q_up_nj x]
    refine h s5 (fun q x y => (f q y).trans (T.fr q x y)) (fun j x y w => (g5 j y w).trans (T.f43 j x)) ((g5 3 (by decide) (by decide)).trans T.rest) ?_ (by rw [e5, q_up_at]) (fun i x y => by rw [f 34 (by decide)]; exact T.own i x y) (fun i x => by rw [f 34 (by decide)]; exact T.old i x)
    rw [e5, q_up_nj (by decide), e4, q_up_at]
  refine sg_Rd_putContainersIn_53 (k_Rd_look H (by omega) (by omega) (z_c (fun e => ?_) (fun e => ⟨by omega, ?_⟩)))
  · exact fin z (by unfold zG; rw [if_neg e])
  · exact fin (z + 1) (by unfold zG; rw [if_pos (Decidable.not_not.mp e)])
theorem k_m_put_156 {v z : Int} (H : zMl s t (R + z) E) (R0 : 0 ≤ R) (z1 : 1 ≤ z) (hl : ∀ i, R ≤ i → i < E → 32 ≤ t i ∧ t i ≤ 126) :
    ∃ s', zTm s s' R (zG t R E z) v ∧ ∀ KI : Int → qM → Prop, L_m_putsContainers_7 X v (zMk t (R + zG t R E z) E) s' KI → L_m_putsContainers_156 X v R s KI := by
  have hE := H.En
  have hN := H.n240
  have hz := H.RE
  have hg := zG_rng (t := t) hz
  generalize eg : zG t R E z = g at hg
  have r1 : q_up s 113 49 (R + g) 113 49 = R + g := q_up_at
  have j1 : ∀ j, j ≠ 49 → q_up s 113 49 (R + g) 113 j = s 113 j := fun j hj => q_up_nj hj
  have q1 : ∀ q, q ≠ 113 → q_up s 113 49 (R + g) q = s q := fun q hq => q_up_ne hq
  generalize e1 : q_up s 113 49 (R + g) = s1 at r1 j1 q1
  obtain ⟨s2, ⟨f1, f2, f3⟩, W⟩ := z_1V (k_m_owns (X := X) (s := s1) (a := R) (b := R + g) (v := v) (KV := fun s2 => (∀ r, r ≠ 129 → s2 r = s1 r) ∧ (∀ i, R ≤ i → i < R + g → s2 129 i = v) ∧ (∀ i, ¬ (R ≤ i ∧ i < R + g) → s2 129 i = s1 129 i)) R0 (by omega) (fun s2 x y z => ⟨x, y, z⟩))
  refine ⟨s2, zTm.mk (fun q x y => (f1 q y).trans (q1 q x)) (fun j hj => by rw [f1 113 (by decide)]; exact j1 j hj) (by rw [f1 113 (by decide)]; exact r1) f2 (fun i x => by rw [f3 i x, q1 129 (by decide)]), fun KI hk => ?_⟩
  have H2 : zMl s2 t (R + g) E := zMl.mk (by rw [f1 113 (by decide)]; exact r1) (by rw [f1 113 (by decide), j1 50 (by decide)]; exact H.stop) (by omega) hg.2.2 (by rw [f1 113 (by decide), j1 0 (by decide)]; exact hE) (by rw [f1 113 (by decide), j1 0 (by decide)]; exact hN) (by rw [f1 114 (by decide), q1 114 (by decide)]; exact H.tx)
  have fin : ∀ x, z + x = g → ∀ s3 : qM, s3 = q_up s 113 49 ((s 113 49) + x) → c_m_owns X R (s3 113 49) v s3 (fun s2 => c_m_marker X s2 (fun r4 s3 => L_m_putsContainers_7 X v r4 s3 KI)) := by
    intro x ex s3 e3
    have : s3 = s1 := by rw [e3, ← e1, H.rest, show R + z + x = R + g by omega]
    rw [this, r1]
    exact W _ (k_m_marker H2 (fun i x y => hl i (by omega) y) hk)
  refine sg_m_putsContainers_156 (z_c (fun e => ?_) (fun e => ?_))
  · rw [H.rest, H.stop] at e
    refine ⟨by rw [H.rest]; omega, fin 0 ?_⟩
    rw [← eg]; unfold zG; rw [zLook_out (by omega), if_neg (by decide)]; omega
  · rw [H.rest, H.stop] at e
    have e1 : zLook t E (R + z) = t (R + z) := zLook_in (by omega)
    refine ⟨by rw [H.rest]; omega, by rw [H.rest]; omega, ?_⟩
    rw [show s 114 (s 113 49) = t (R + z) by rw [H.rest, H.tx]]
    refine z_c (fun x => ⟨by rw [H.rest]; omega, fin 0 ?_⟩) (fun x => ⟨by rw [H.rest]; omega, fin 1 ?_⟩)
    · rw [← eg]; unfold zG; rw [e1, if_neg x]; omega
    · rw [← eg]; unfold zG; rw [e1, if_pos (Decidable.not_not.mp x)]
theorem zSt.mv {a1 b1 a2 b2 : qM} {n1 g : Int} {d d1 i : Nat} {c c1 : Nat → Int} (S : zSt a b t n d c i R E) (fa1 : ∀ q, (q < 13 ∨ 28 < q) → a1 q = a q) (fb1 : ∀ q, q ≠ 113 → (q < 117 ∨ 123 < q) → b1 q = b q) (f113 : ∀ j, j ≠ 4 → j ≠ 49 → b1 113 j = b 113 j)
    (B1 : zB a1 b1 n1) (C1 : zCh a1 b1 n1 d1 c1) (nn : n ≤ n1) (kv : b1 117 (c1 d1) ≤ 3 ∧ b1 117 (c1 d1) ≠ 2) (g0 : 0 ≤ g) (hg : R + g ≤ E) (cap : n1 ≤ 1 + 2 * (R + g))
    (x1 : ∀ q, q ≠ 34 → q ≠ 43 → a2 q = a1 q) (x2 : ∀ j, j ≠ 3 → j ≠ 5 → j ≠ 7 → a2 43 j = a1 43 j) (x3 : a2 43 3 = R + g) (x4 : a2 43 5 = c1 d1) (x5 : ∀ i, R ≤ i → i < R + g → a2 34 i = c1 d1) (x6 : ∀ i, ¬ (R ≤ i ∧ i < R + g) → a2 34 i = a1 34 i) (T2 : zTm b1 b2 R g (c1 d1)) :
    zSt a2 b2 t n1 d1 c1 d1 (R + g) E := by
  have rv := C1.rng (Nat.le_refl d1)
  have e1 : a2 1 = a 1 := (x1 1 (by decide) (by decide)).trans (fa1 1 (by decide))
  have m0 : b2 113 0 = b 113 0 := (T2.f113 0 (by decide)).trans (f113 0 (by decide) (by decide))
  have hR := S.H1.R0
  refine zSt.mk ?_ ?_ ?_ ?_ ?_ (Nat.le_refl d1) x4 ?_ cap ?_ ?_
  · refine zCl.mk x3 (by rw [x2 4 (by decide) (by decide) (by decide), fa1 43 (by decide)]; exact S.H1.stop) (by omega) hg (by rw [e1]; exact S.H1.En) (by rw [e1]; exact S.H1.n240) (by rw [e1, x1 33 (by decide) (by decide), fa1 33 (by decide)]; exact S.H1.ow) (by rw [e1, x1 2 (by decide) (by decide), fa1 2 (by decide)]; exact S.H1.tx)
  · refine zMl.mk T2.rest (by rw [T2.f113 50 (by decide), f113 50 (by decide) (by decide)]; exact S.H2.stop) (by omega) hg (by rw [m0]; exact S.H2.En) (by rw [m0]; exact S.H2.n240) (by rw [T2.fr 114 (by decide) (by decide), fb1 114 (by decide) (by decide)]; exact S.H2.tx)
  · exact B1.fr (fun q u v => x1 q (by omega) (by omega)) (fun q u v => T2.fr q (by omega) (by omega)) (T2.f113 4 (by decide)) (T2.f113 17 (by decide))
  · exact C1.fr (x1 18 (by decide) (by decide)) (T2.fr 118 (by decide) (by decide)) (T2.fr 119 (by decide) (by decide)) (T2.fr 122 (by decide) (by decide))
  · refine zOw.mk (fun k k0 kR => ?_) trivial
    by_cases y : R ≤ k
    · rw [x5 k y kR, T2.own k y kR]; exact ⟨rfl, by omega, rv.2⟩
    · rw [x6 k (by omega), T2.old k (by omega), fa1 34 (by decide), fb1 129 (by decide) (by decide)]
      have := S.O.own k k0 (by omega)
      exact ⟨this.1, this.2.1, by omega⟩
  · rw [T2.fr 117 (by decide) (by decide)]; exact kv
  · rw [x2 8 (by decide) (by decide) (by decide), T2.f113 48 (by decide), fa1 43 (by decide), f113 48 (by decide) (by decide)]; exact S.ib
  · rw [T2.f113 17 (by decide), f113 17 (by decide) (by decide)]; exact S.l17
end Conts
