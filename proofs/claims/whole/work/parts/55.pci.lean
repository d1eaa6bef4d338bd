/-! The loop over the markers of a line. -/
def zPe (a a' b b' : qM) (t : Int → Int) (n n' : Int) (d d' : Nat) (c c' : Nat → Int) (i i' : Nat) (R R' E : Int) : Prop := (zSt a' b' t n' d' c' i' R' E) ∧ (zMk t R' E = -1) ∧ (zFr a a' b b') ∧ (zGr a a' b b' n n') ∧ (R ≤ R') ∧ (n' - n ≤ 2 * (R' - R)) ∧ ((n' = n ∧ a' = a ∧ b' = b ∧ i' = i ∧ d' = d ∧ c' = c ∧ R' = R) ∨ (n < n' ∧ a' 43 7 = 1 ∧ i' = d'))
theorem zPe.mk {a a' b b' : qM} {t : Int → Int} {n n' : Int} {d d' : Nat} {c c' : Nat → Int} {i i' : Nat} {R R' E : Int} (S : zSt a' b' t n' d' c' i' R' E) (mk0 : zMk t R' E = -1) (F : zFr a a' b b') (G : zGr a a' b b' n n') (RR : R ≤ R') (inc : n' - n ≤ 2 * (R' - R)) (how : (n' = n ∧ a' = a ∧ b' = b ∧ i' = i ∧ d' = d ∧ c' = c ∧ R' = R) ∨ (n < n' ∧ a' 43 7 = 1 ∧ i' = d')) : zPe a a' b b' t n n' d d' c c' i i' R R' E := ⟨S, mk0, F, G, RR, inc, how⟩
theorem zPe.S {a a' b b' : qM} {t : Int → Int} {n n' : Int} {d d' : Nat} {c c' : Nat → Int} {i i' : Nat} {R R' E : Int} (h : zPe a a' b b' t n n' d d' c c' i i' R R' E) : zSt a' b' t n' d' c' i' R' E := h.1
theorem zPe.mk0 {a a' b b' : qM} {t : Int → Int} {n n' : Int} {d d' : Nat} {c c' : Nat → Int} {i i' : Nat} {R R' E : Int} (h : zPe a a' b b' t n n' d d' c c' i i' R R' E) : zMk t R' E = -1 := h.2.1
theorem zPe.F {a a' b b' : qM} {t : Int → Int} {n n' : Int} {d d' : Nat} {c c' : Nat → Int} {i i' : Nat} {R R' E : Int} (h : zPe a a' b b' t n n' d d' c c' i i' R R' E) : zFr a a' b b' := h.2.2.1
theorem zPe.G {a a' b b' : qM} {t : Int → Int} {n n' : Int} {d d' : Nat} {c c' : Nat → Int} {i i' : Nat} {R R' E : Int} (h : zPe a a' b b' t n n' d d' c c' i i' R R' E) : zGr a a' b b' n n' := h.2.2.2.1
theorem zPe.RR {a a' b b' : qM} {t : Int → Int} {n n' : Int} {d d' : Nat} {c c' : Nat → Int} {i i' : Nat} {R R' E : Int} (h : zPe a a' b b' t n n' d d' c c' i i' R R' E) : R ≤ R' := h.2.2.2.2.1
theorem zPe.inc {a a' b b' : qM} {t : Int → Int} {n n' : Int} {d d' : Nat} {c c' : Nat → Int} {i i' : Nat} {R R' E : Int} (h : zPe a a' b b' t n n' d d' c c' i i' R R' E) : n' - n ≤ 2 * (R' - R) := h.2.2.2.2.2.1
theorem zPe.how {a a' b b' : qM} {t : Int → Int} {n n' : Int} {d d' : Nat} {c c' : Nat → Int} {i i' : Nat} {R R' E : Int} (h : zPe a a' b b' t n n' d d' c c' i i' R R' E) : (n' = n ∧ a' = a ∧ b' = b ∧ i' = i ∧ d' = d ∧ c' = c ∧ R' = R) ∨ (n < n' ∧ a' 43 7 = 1 ∧ i' = d') := h.2.2.2.2.2.2
section Pci
variable {X : Nat × (Nat → Int32)} {t : Int → Int} {E : Int}
theorem zFr.rf {a b : qM} : zFr a a b b := zFr.mk (fun _ _ _ _ => rfl) (fun _ _ _ _ => rfl) (fun _ _ _ _ => rfl) (fun _ _ _ => rfl)
theorem zGr.rf {a b : qM} {n : Int} : zGr a a b b n n := zGr.mk (Int.le_refl n) (fun _ _ _ => ⟨rfl, rfl, rfl⟩) (fun k x y => by omega)
theorem zFr.tr {a a1 a2 b b1 b2 : qM} (F : zFr a a1 b b1) (G : zFr a1 a2 b1 b2) : zFr a a2 b b2 :=
  zFr.mk (fun q x y z => (G.fa q x y z).trans (F.fa q x y z)) (fun q x y z => (G.fb q x y z).trans (F.fb q x y z)) (fun j x y z => (G.f43 j x y z).trans (F.f43 j x y z)) (fun j x y => (G.f113 j x y).trans (F.f113 j x y))
theorem zGr.tr {a a1 a2 b b1 b2 : qM} {n n1 n2 : Int} (n0 : 0 ≤ n) (F : zGr a a1 b b1 n n1) (G : zGr a1 a2 b1 b2 n1 n2) : zGr a a2 b b2 n n2 := by
  have h1 := F.nn
  have h2 := G.nn
  refine zGr.mk (by omega) (fun k x y => ?_) (fun k x y => ?_)
  · have u := F.old k x y
    have v := G.old k x (by omega)
    exact ⟨v.1.trans u.1, v.2.1.trans u.2.1, v.2.2.trans u.2.2⟩
  · by_cases z : k < n1
    · rw [(G.old k (by omega) z).2.2]; exact F.new k x z
    · exact G.new k (by omega) y
theorem zAdd.gr {a a1 a' b b' : qM} {n p κ ib τ : Int} (A : zAdd a a1 n p κ ib) (M : zMod a1 a' n p κ τ) (P : zPut b b' n p κ τ) (k3 : κ ≤ 3) : zGr a a' b b' n (n + 1) := by
  refine zGr.mk (by omega) (fun k x y => ?_) (fun k x y => ?_)
  · have nk : k ≠ n := by omega
    have h := M.pt k nk
    rw [h.2.2.1, h.2.2.2, A.f26, A.f28, P.f117, q_u_ne nk, q_u_ne nk, q_u_ne nk]
    exact ⟨rfl, rfl, rfl⟩
  · rw [show k = n by omega, P.f117, q_u_at]; exact k3
theorem zMod.rf {a1 : qM} {n p τ : Int} (h : a1 22 n = 0) : zMod a1 a1 n p 1 τ :=
  zMod.mk (fun _ _ _ _ _ _ _ _ => rfl) (fun _ _ => ⟨rfl, rfl, rfl, rfl⟩) (by rw [if_neg (by omega)]; exact h) (fun x => by omega) (fun x => by omega) (by rw [if_neg (by omega)])
set_option maxHeartbeats 4000000 in
theorem k_Rd_pci : ∀ (m : Nat) (v1 : Int) (a b : qM) (n : Int) (d : Nat) (c : Nat → Int) (i : Nat) (R : Int) (K : qM → Prop), E - R ≤ m → zSt a b t n d c i R E → (∀ i, R ≤ i → i < E → 32 ≤ t i ∧ t i ≤ 126) → 0 ≤ v1 → v1 ≤ R →
    (∀ a' b' n' d' c' i' R', zPe a a' b b' t n n' d d' c c' i i' R R' E → (∀ Kf : Int → qM → Prop, Kf (c' i') b' → L_m_putsContainers_7 X (c i) (zMk t R E) b Kf) → K a') → L_Rd_putContainersIn_2 X v1 a K := by
  intro m
  induction m with
  | zero =>
    intro v1 a b n d c i R K hm S hl v0 vR h
    have hRE := S.H1.RE
    have mk0 : zMk t R E = -1 := by
      have : zLook t E R = -1 := zLook_out (by omega)
      unfold zMk; rw [this, if_neg (by decide), if_neg (by omega), if_neg (by omega)]
    have done : K a := h a b n d c i R (zPe.mk S mk0 zFr.rf zGr.rf (Int.le_refl R) (by omega) (Or.inl ⟨rfl, rfl, rfl, rfl, rfl, rfl, rfl⟩)) (fun Kf hk => by rw [mk0]; exact sg_m_putsContainers_7 (z_t rfl hk))
    refine sg_Rd_putContainersIn_2 (z_c (fun _ => done) (fun _ => k_Rd_markerSize S.H1 ?_))
    rw [mk0]
    exact z_f (by decide) done
  | succ m ih =>
    intro v1 a b n d c i R K hm S hl v0 vR h
    have hRE := S.H1.RE
    have hR := S.H1.R0
    have hE := S.H1.En
    have hN := S.H1.n240
    by_cases mk0 : zMk t R E = -1
    · have done : K a := h a b n d c i R (zPe.mk S mk0 zFr.rf zGr.rf (Int.le_refl R) (by omega) (Or.inl ⟨rfl, rfl, rfl, rfl, rfl, rfl, rfl⟩)) (fun Kf hk => by rw [mk0]; exact sg_m_putsContainers_7 (z_t rfl hk))
      refine sg_Rd_putContainersIn_2 (z_c (fun _ => done) (fun _ => k_Rd_markerSize S.H1 ?_))
      rw [mk0]
      exact z_f (by decide) done
    · have hz := zMk_in mk0
      have hv := zMk_val mk0
      have z12 : (zMs (zMk t R E) = 1 ∨ zMs (zMk t R E) = 2) ∧ (zMs (zMk t R E) = 2 ↔ zMk t R E = 48) := by unfold zMs; rw [if_neg mk0]; by_cases x : zMk t R E = 48; · { rw [if_pos x]; omega }; · { rw [if_neg x]; omega }
      obtain ⟨z1, z48⟩ := z12
      have hz1 : R + 1 ≤ E := by omega
      have cap := S.cap
      have ri := S.C.rng S.id
      have n1 := S.B.n1
      -- what is common to all: the new container is there, its marker is taken off
      have finish : ∀ (a3 b2 : qM) (n2 : Int) (d2 : Nat) (c2 : Nat → Int), (∀ q, (q < 13 ∨ 28 < q) → a3 q = a q) → (∀ q, q ≠ 113 → (q < 117 ∨ 123 < q) → b2 q = b q) → (∀ j, j ≠ 4 → b2 113 j = b 113 j) → zB a3 b2 n2 → zCh a3 b2 n2 d2 c2 → n < n2 → zGr a a3 b b2 n n2 → b2 117 (c2 d2) ≤ 3 ∧ b2 117 (c2 d2) ≠ 2 → n2 ≤ 1 + 2 * (R + 1) → n2 ≤ n + 2 →
          (∀ Kf, (∀ s11 : qM, s11 = q_up b2 113 49 (b2 113 49 + zMs (zMk t R E)) → L_m_putsContainers_156 X (c2 d2) R s11 Kf) → L_m_putsContainers_7 X (c i) (zMk t R E) b Kf) → L_Rd_putContainersIn_53 X v1 (zMs (zMk t R E)) (c2 d2) a3 K := by
        intro a3 b2 n2 d2 c2 fa1 fb1 f113 B2 C2 nn G kv cap2 inc2 reach
        have e1 : a3 1 = a 1 := fa1 1 (by decide)
        have H3 : zCl a3 t R E := zCl.mk (by rw [fa1 43 (by decide)]; exact S.H1.rest) (by rw [fa1 43 (by decide)]; exact S.H1.stop) hR hRE (by rw [e1]; exact hE) (by rw [e1]; exact hN) (by rw [e1, fa1 33 (by decide)]; exact S.H1.ow) (by rw [e1, fa1 2 (by decide)]; exact S.H1.tx)
        have r49 : b2 113 49 = R := by rw [f113 49 (by decide)]; exact S.H2.rest
        have m0 : b2 113 0 = b 113 0 := f113 0 (by decide)
        obtain ⟨b3, T, W⟩ := k_m_put_156 (X := X) (s := q_up b2 113 49 (b2 113 49 + zMs (zMk t R E))) (t := t) (R := R) (E := E) (v := c2 d2) (z := zMs (zMk t R E))
          (zMl.mk (by rw [q_up_at, r49]) (by rw [q_up_nj (by decide), f113 50 (by decide)]; exact S.H2.stop) (by omega) hz (by rw [q_up_nj (by decide), m0]; exact S.H2.En) (by rw [q_up_nj (by decide), m0]; exact S.H2.n240) (by rw [q_up_ne (by decide), fb1 114 (by decide) (by decide)]; exact S.H2.tx)) hR (by omega) hl
        have T2 : zTm b2 b3 R (zG t R E (zMs (zMk t R E))) (c2 d2) := zTm.mk (fun q x y => by rw [T.fr q x y, q_up_ne x]) (fun j hj => by rw [T.f113 j hj, q_up_nj hj]) T.rest T.own (fun i x => by rw [T.old i x, q_up_ne (by decide)])
        have hg := zG_rng (t := t) hz
        refine k_Rd_put_53 H3 (by omega) hz v0 (by omega) (fun a4 x1 x2 x3 x4 x5 x6 x7 => ?_)
        generalize eg : zG t R E (zMs (zMk t R E)) = g at *
        have S2 : zSt a4 b3 t n2 d2 c2 d2 (R + g) E := S.mv fa1 fb1 (fun j x _ => f113 j x) B2 C2 (by omega) kv (by omega) hg.2.2 (by omega) x1 (fun j x y z => x2 j x y z) x3 x4 x6 x7 T2
        refine ih (v1 + 1) a4 b3 n2 d2 c2 d2 (R + g) K (by omega) S2 (fun i x y => hl i (by omega) y) (by omega) (by omega) (fun a' b' n' d' c' i' R' P W2 => ?_)
        have F1 : zFr a a4 b b3 := zFr.mk (fun q x y z => (x1 q y z).trans (fa1 q x)) (fun q x y z => (T2.fr q x z).trans (fb1 q x y)) (fun j x y z => (x2 j x y z).trans (by rw [fa1 43 (by decide)])) (fun j x y => (T2.f113 j y).trans (f113 j x))
        have G1 : zGr a a4 b b3 n n2 := zGr.mk G.nn (fun k x y => by rw [x1 26 (by decide) (by decide), x1 28 (by decide) (by decide), T2.fr 117 (by decide) (by decide)]; exact G.old k x y) (fun k x y => by rw [T2.fr 117 (by decide) (by decide)]; exact G.new k x y)
        refine h a' b' n' d' c' i' R' (zPe.mk P.S P.mk0 (F1.tr P.F) (zGr.tr (by omega) G1 P.G) (by have := P.RR; omega) (by have := P.inc; omega) (Or.inr ?_)) (fun Kf hk => reach Kf (fun s11 e11 => by rw [e11]; exact W Kf (W2 Kf hk)))
        rcases P.how with ⟨y1, y2, y3, y4, y5, y6, y7⟩ | ⟨y1, y2, y3⟩
        · exact ⟨by omega, by rw [y2]; exact x5, by omega⟩
        · exact ⟨by omega, y2, y3⟩
      -- an item goes into the list at i1
      have item : ∀ (a1 b1 : qM) (n1' : Int) (d1 : Nat) (c1 : Nat → Int) (i1 : Nat), (∀ q, (q < 13 ∨ 28 < q) → a1 q = a q) → (∀ q, q ≠ 113 → (q < 117 ∨ 123 < q) → b1 q = b q) → (∀ j, j ≠ 4 → b1 113 j = b 113 j) → zB a1 b1 n1' → zCh a1 b1 n1' d1 c1 → n ≤ n1' → n1' ≤ n + 1 → zGr a a1 b b1 n n1' → i1 ≤ d1 → b1 117 (c1 i1) = 2 → zMk t R E ≠ 62 →
          (∀ Kf, L_m_putsContainers_115 X (zMk t R E) R (c1 i1) b1 Kf → L_m_putsContainers_7 X (c i) (zMk t R E) b Kf) →
          c_Blocks_add X 3 (c1 i1) (a1 43 8) a1 (fun r8 s7 => (-2147483648 ≤ (zMs (zMk t R E) + 1) ∧ (zMs (zMk t R E) + 1) < 2147483648) ∧ c_Blocks_measure X r8 (zMs (zMk t R E) + 1) s7 (fun s9 => L_Rd_putContainersIn_53 X v1 (zMs (zMk t R E)) r8 s9 K)) := by
        intro a1 b1 n1' d1 c1 i1 fa1 fb1 f113 B1 C1 nn nn2 G hi1 k2 n62 reach
        have r1 := C1.rng hi1
        refine k_Blocks_add1 B1 (by omega) (by omega) r1.2 (fun a2 A => ⟨by omega, sg_Blocks_measure (k_Row_set q_row_21 (by rw [A.rows.2.2.2.2.1]; omega) (fun _ _ => ?_) (fun x => absurd ⟨by omega, by rw [A.rows.2.2.2.2.1]; omega⟩ x))⟩)
        generalize ea : q_up a2 (21 + 1) n1' (zMs (zMk t R E) + 1) = a3
        have g22 : ∀ q, q ≠ 22 → a3 q = a2 q := fun q hq => by rw [← ea, q_up_ne hq]
        have M : zMod a2 a3 n1' (c1 i1) 3 (zMs (zMk t R E) + 1) := zMod.mk (fun q _ _ _ x _ _ _ => g22 q x) (fun k hk => ⟨by rw [← ea]; exact q_up_nj hk, by rw [g22 24 (by decide)], by rw [g22 26 (by decide)], by rw [g22 28 (by decide)]⟩) (by rw [← ea, if_pos (Or.inl rfl)]; exact q_up_at) (fun x => by omega) (fun x => by omega) (by rw [if_neg (by omega), g22 18 (by decide)])
        obtain ⟨rr, b2, ⟨er, P⟩, W⟩ := z_1I (k_m_puts1 (X := X) (κ := 3) (τ := zMs (zMk t R E) + 1) (K := fun r b2 => r = n1' ∧ zPut b1 b2 n1' (c1 i1) 3 (zMs (zMk t R E) + 1)) B1 (by omega) (by rw [f113 17 (by decide)]; exact S.l17.2) (by omega) r1.2 (fun b2 P => ⟨rfl, P⟩))
        subst er
        obtain ⟨B2, C2, _⟩ := B1.join C1 hi1 (by rw [fa1 43 (by decide), f113 48 (by decide)]; exact S.ib) (by omega) (by decide) (by decide) ⟨fun _ => rfl, fun _ => k2⟩ (fun _ => by omega) (fun x => by omega) A M P
        have C2 := C2 (by omega)
        have cv : (if i1 + 1 ≤ i1 then c1 (i1 + 1) else rr) = rr := if_neg (by omega)
        have fin := finish a3 b2 (rr + 1) (i1 + 1) _ (fun q hq => by rw [g22 q (by omega), A.fr q hq]; exact fa1 q hq) (fun q x y => by rw [P.fr q x y]; exact fb1 q x y) (fun j x => by rw [P.f113 j x]; exact f113 j x) B2 C2 (by omega) (zGr.tr (by omega) G (A.gr M P (by decide))) (by rw [cv, P.f117, q_u_at]; decide) (by omega) (by omega)
        rw [cv] at fin
        refine fin (fun Kf hk => reach Kf ?_)
        have r49 : b1 113 49 = R := by rw [f113 49 (by decide)]; exact S.H2.rest
        have r492 : b2 113 49 = R := by rw [P.f113 49 (by decide)]; exact r49
        have tail : ∀ y, y = zMs (zMk t R E) → (-2147483648 ≤ ((b2 113 49) + y) ∧ ((b2 113 49) + y) < 2147483648) ∧ (∀ s3 : qM, s3 = q_up b2 113 49 ((b2 113 49) + y) → L_m_putsContainers_156 X rr R s3 Kf) := fun y ey => by rw [ey]; exact ⟨by omega, hk⟩
        refine sg_m_putsContainers_115 (z_c (fun x => ?_) (fun x => ?_))
        · have e1 : zMs (zMk t R E) = 1 := by omega
          rw [e1] at W tail
          exact W _ (z_t x (tail 1 rfl))
        · have e2 : zMs (zMk t R E) = 2 := z48.mpr (Decidable.not_not.mp x)
          rw [e2] at W tail
          exact W _ (z_f x (tail 2 rfl))
      refine sg_Rd_putContainersIn_2 (z_f (by omega) (k_Rd_markerSize S.H1 (z_t (by omega) (k_Rd_look S.H1 (by omega) (by omega) ?_))))
      rw [show R + 0 = R by omega]
      have r13 := S.B.rows.1
      have r17 := S.B.rows.2.2.1
      have r23 := S.B.rows.2.2.2.2.2.1
      refine z_c (fun n62 => ?_) (fun e62 => ?_)
      · have m62 : zMk t R E ≠ 62 := fun x => n62 (zMk_62.mp x)
        -- the marker that is looked for
        have mrk : ∀ F, L_Rd_putItem_15 X (zMs (zMk t R E)) (zMk t R E) a F → c_Rd_putItem X (zMs (zMk t R E)) a F := by
          intro F hF
          refine sg_Rd_putItem (z_c (fun x => k_Rd_look S.H1 (by omega) (by omega) ?_) (fun x => ?_))
          · rw [show R + 0 = R by omega, ← zMk_one mk0 (fun y => x (z48.mpr y))]; exact hF
          · have : zMk t R E = 48 := z48.mp (Decidable.not_not.mp x)
            rw [this] at hF ⊢; exact hF
        refine mrk _ (sg_Rd_putItem_15 (k_Blocks_openIn (by omega) (k_Blocks_kindOf (by omega) ?_)))
        rw [S.inn, S.C.next r17 S.id]
        -- a new list
        have newl : ∀ (hm : ∀ Kf, c_m_puts X (c i) 2 (zMk t R E) b (fun r2 s1 => L_m_putsContainers_115 X (zMk t R E) R r2 s1 Kf) → L_m_putsContainers_7 X (c i) (zMk t R E) b Kf), L_Rd_putItem_52 X (zMs (zMk t R E)) (zMk t R E) a (fun r6 s5 => L_Rd_putContainersIn_53 X v1 (zMs (zMk t R E)) r6 s5 K) := by
          intro hm
          refine sg_Rd_putItem_52 ?_
          rw [S.inn]
          refine k_Blocks_add1 S.B (by omega) (by omega) ri.2 (fun a1 A => sg_Blocks_mark (k_Row_set q_row_23 (by rw [A.rows.2.2.2.2.2.1]; omega) (fun _ _ => ?_) (fun x => absurd ⟨by omega, by rw [A.rows.2.2.2.2.2.1]; omega⟩ x)))
          generalize ea : q_up a1 (23 + 1) n (zMk t R E) = a2
          have g24 : ∀ q, q ≠ 24 → a2 q = a1 q := fun q hq => by rw [← ea, q_up_ne hq]
          have z22 : a1 22 n = 0 := by obtain ⟨y, ey, _⟩ := A.f22; rw [ey, q_u_at]
          have M : zMod a1 a2 n (c i) 2 (zMk t R E) := zMod.mk (fun q _ _ _ _ x _ _ => g24 q x) (fun k hk => ⟨by rw [g24 22 (by decide)], by rw [← ea]; exact q_up_nj hk, by rw [g24 26 (by decide)], by rw [g24 28 (by decide)]⟩) (by rw [if_neg (by omega), g24 22 (by decide)]; exact z22) (fun _ => by rw [← ea]; exact q_up_at) (fun x => by omega) (by rw [if_neg (by omega), g24 18 (by decide)])
          obtain ⟨rr, b1, ⟨er, P⟩, W⟩ := z_1I (k_m_puts1 (X := X) (κ := 2) (τ := zMk t R E) (K := fun r b1 => r = n ∧ zPut b b1 n (c i) 2 (zMk t R E)) S.B (by omega) S.l17.2 (by omega) ri.2 (fun b2 P => ⟨rfl, P⟩))
          subst er
          obtain ⟨B2, C2, _⟩ := S.B.join S.C S.id S.ib S.ki.1 (by decide) (by decide) ⟨fun x => absurd x S.ki.2, fun x => by omega⟩ (fun x => by omega) (fun x => by omega) A M P
          have C2 := C2 (by omega)
          have cv : (if i + 1 ≤ i then c (i + 1) else rr) = rr := if_neg (by omega)
          have it := item a2 b1 (rr + 1) (i + 1) _ (i + 1) (fun q hq => by rw [g24 q (by omega)]; exact A.fr q hq) (fun q x y => P.fr q x y) (fun j x => P.f113 j x) B2 C2 (by omega) (by omega) (A.gr M P (by decide)) (Nat.le_refl _) (by rw [cv, P.f117, q_u_at]) m62
          rw [cv] at it
          exact it (fun Kf hk => hm Kf (W _ hk))
        by_cases lt : i < d
        · have st := S.C.step i lt
          have rk := S.C.rng (i := i + 1) (by omega)
          have kd := S.B.kd (c (i + 1)) (by omega) rk.2
          have hms := S.B.ms (c (i + 1)) (by omega) rk.2
          have one := S.C.is1 (i := i + 1) (by omega)
          rw [if_pos lt, zT_in (by omega) (by omega), kd.1]
          have down : ∀ Kf, ((((b 117 (c (i + 1))) ≠ 2) → c_m_puts X (c i) 2 (zMk t R E) b (fun r6 s5 => L_m_putsContainers_115 X (zMk t R E) (b 113 49) r6 s5 Kf)) ∧ (¬ ((b 117 (c (i + 1))) ≠ 2) → ((0 : Int) ≤ (c i)) ∧ ((c i) < (600 : Int)) ∧ ((0 : Int) ≤ (c (i + 1))) ∧ ((c (i + 1)) < (600 : Int)) ∧ ((((b 120 (c (i + 1))) ≠ (zMk t R E)) → c_m_puts X (c i) 2 (zMk t R E) b (fun r8 s7 => L_m_putsContainers_115 X (zMk t R E) (b 113 49) r8 s7 Kf)) ∧ (¬ ((b 120 (c (i + 1))) ≠ (zMk t R E)) → ((0 : Int) ≤ (c i)) ∧ ((c i) < (600 : Int)) ∧ L_m_putsContainers_115 X (zMk t R E) (b 113 49) (c (i + 1)) b Kf)))) → L_m_putsContainers_7 X (c i) (zMk t R E) b Kf := by
            intro Kf hk
            refine sg_m_putsContainers_7 (z_f mk0 (z_t m62 ⟨by omega, by omega, ?_⟩))
            rw [st.2.1]
            exact z_f (by omega) ⟨by omega, by omega, by omega, by omega, z_f (by omega) ⟨by omega, by omega, by omega, by omega, hk⟩⟩
          have er : b 113 49 = R := S.H2.rest
          rw [er] at down
          refine z_c (fun k2 => newl (fun Kf hk => down Kf (z_t k2 hk))) (fun k2 => k_Blocks_markerOf (by omega) ?_)
          have k2' := Decidable.not_not.mp k2
          rw [zT_in (by omega) (by omega), (hms.2.2.1 k2').2.2.2]
          refine z_c (fun em => ?_) (fun nm => newl (fun Kf hk => down Kf (z_f k2 ⟨by omega, by omega, by omega, by omega, z_t nm hk⟩)))
          exact item a b n d c (i + 1) (fun _ _ => rfl) (fun _ _ _ => rfl) (fun _ _ => rfl) S.B S.C (Int.le_refl n) (by omega) zGr.rf (by omega) k2' m62 (fun Kf hk => down Kf (z_f k2 ⟨by omega, by omega, by omega, by omega, z_f (fun x => x em) ⟨by omega, by omega, hk⟩⟩))
        · rw [if_neg lt, zT_out (by omega)]
          refine z_t (by decide) (newl (fun Kf hk => ?_))
          have hst := S.C.stop S.B
          have hla := S.B.la (c i) (by omega) ri.2
          have ei : i = d := by have := S.id; omega
          rw [← ei] at hst
          have er : b 113 49 = R := S.H2.rest
          refine sg_m_putsContainers_7 (z_f mk0 (z_t m62 ⟨by omega, by omega, ?_⟩))
          rw [er]
          exact z_c (fun _ => hk) (fun x => ⟨by omega, by omega, by omega, by omega, z_t (by omega) hk⟩)
      · have e62 := Decidable.not_not.mp e62
        have m62 : zMk t R E = 62 := zMk_62.mpr e62
        have es : zMs (zMk t R E) = 1 := by rw [m62]; rfl
        rw [es]
        rw [es] at finish
        rw [S.inn]
        refine k_Blocks_add1 S.B (by omega) (by omega) ri.2 (fun a1 A => ?_)
        have z22 : a1 22 n = 0 := by obtain ⟨y, ey, _⟩ := A.f22; rw [ey, q_u_at]
        have M : zMod a1 a1 n (c i) 1 0 := zMod.rf z22
        obtain ⟨rr, b1, ⟨er, P⟩, W⟩ := z_1I (k_m_puts1 (X := X) (κ := 1) (τ := 0) (K := fun r b1 => r = n ∧ zPut b b1 n (c i) 1 0) S.B (by omega) S.l17.2 (by omega) ri.2 (fun b2 P => ⟨rfl, P⟩))
        subst er
        obtain ⟨B2, C2, _⟩ := S.B.join S.C S.id S.ib S.ki.1 (by decide) (by decide) ⟨fun x => absurd x S.ki.2, fun x => by omega⟩ (fun x => by omega) (fun x => by omega) A M P
        have C2 := C2 (by omega)
        have cv : (if i + 1 ≤ i then c (i + 1) else rr) = rr := if_neg (by omega)
        have fin := finish a1 b1 (rr + 1) (i + 1) _ A.fr P.fr P.f113 B2 C2 (by omega) (A.gr M P (by decide)) (by rw [cv, P.f117, q_u_at]; decide) (by omega) (by omega)
        rw [cv] at fin
        refine fin (fun Kf hk => ?_)
        have r49 : b 113 49 = R := S.H2.rest
        have r49' : b1 113 49 = R := by rw [P.f113 49 (by decide)]; exact r49
        rw [m62]
        refine sg_m_putsContainers_7 (z_f (by decide) (z_f (fun x => x rfl) ?_))
        rw [r49]
        exact W _ ⟨by omega, hk⟩
end Pci
