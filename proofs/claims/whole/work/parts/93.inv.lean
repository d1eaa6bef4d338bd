/-! What holds between two calls. -/
def zIv (X : Nat × (Nat → Int32)) (s : qM) : Prop := zTx s ∧ zSl s 3 0 ∧ zSl s 5 1 ∧ (s 54 1 = 0 ∧ s 56 1 = 0 ∧ s 58 1 = 0 ∧ s 60 1 = 0 ∧ s 62 1 = 0) ∧ (s 0 11 = 0 → zCc X s)
theorem zIv.mk {X : Nat × (Nat → Int32)} {s : qM} (tx : zTx s) (k0 : zSl s 3 0) (k1 : zSl s 5 1) (r0 : s 54 1 = 0 ∧ s 56 1 = 0 ∧ s 58 1 = 0 ∧ s 60 1 = 0 ∧ s 62 1 = 0) (cc : s 0 11 = 0 → zCc X s) : zIv X s := ⟨tx, k0, k1, r0, cc⟩
theorem zIv.tx {X : Nat × (Nat → Int32)} {s : qM} (h : zIv X s) : zTx s := h.1
theorem zIv.k0 {X : Nat × (Nat → Int32)} {s : qM} (h : zIv X s) : zSl s 3 0 := h.2.1
theorem zIv.k1 {X : Nat × (Nat → Int32)} {s : qM} (h : zIv X s) : zSl s 5 1 := h.2.2.1
theorem zIv.r0 {X : Nat × (Nat → Int32)} {s : qM} (h : zIv X s) : s 54 1 = 0 ∧ s 56 1 = 0 ∧ s 58 1 = 0 ∧ s 60 1 = 0 ∧ s 62 1 = 0 := h.2.2.2.1
theorem zIv.cc {X : Nat × (Nat → Int32)} {s : qM} (h : zIv X s) : s 0 11 = 0 → zCc X s := h.2.2.2.2
section Inv
variable {X : Nat × (Nat → Int32)} {a b a' b' s s' : qM} {K : qM → Prop} {KI : Int → qM → Prop} {k j : Int}
theorem zRt.fr (R : zRt X s b) (f : ∀ r, 12 ≤ r → r < 88 → s' r = s r) (e1 : s' 1 = s 1) : zRt X s' b := by
  obtain ⟨a0, t, N, LL, n, v, C0, D, G, l, fa, f1, p0, p1⟩ := R
  refine ⟨a0, t, N, LL, n, v, C0, D, G, l, fun r u w => by rw [f r u (by omega)]; exact fa r u w, by rw [e1]; exact f1, ?_, ?_⟩
  · unfold zPq at p0 ⊢; rw [f 84 (by decide) (by decide), f (84 + 1) (by decide) (by decide)]; exact p0
  · unfold zPq at p1 ⊢; rw [f 86 (by decide) (by decide), f (86 + 1) (by decide) (by decide)]; exact p1
/-- a text's lines are told by it -/
theorem zLn.uniq {t u B E B' E' : Int → Int} {N L L' : Int} (A : zLn t N L B E) (A' : zLn u N L' B' E') (h : ∀ i, 0 ≤ i → i < N → t i = u i) : L' = L ∧ ∀ l, 0 ≤ l → l < L → B' l = B l ∧ E' l = E l := by
  obtain ⟨q1, q2, q3, q4, q5, q6⟩ := A
  obtain ⟨r1, r2, r3, r4, r5, r6⟩ := A'
  have en : ∀ l, 0 ≤ l → l < L → l < L' → B' l = B l → E' l = E l := fun l l0 lL lL' e => by
    have a := q4 l l0 lL
    have b := r4 l l0 lL'
    rw [a.2.2, b.2.2, e]
    exact (zEnd_congr a.2.1 (fun i u w => h i (by omega) w)).symm
  have st : ∀ l : Nat, (l : Int) < L → (l : Int) < L' → B' l = B l ∧ E' l = E l := by
    intro l
    induction l with
    | zero => intro a b; have e : B' 0 = B 0 := by rw [q3, r3]
              exact ⟨e, en 0 (Int.le_refl 0) a b e⟩
    | succ l ih =>
      intro a b
      obtain ⟨i1, i2⟩ := ih (by omega) (by omega)
      have e1 := (q5 l (by omega) (by omega)).2
      have e2 := (r5 l (by omega) (by omega)).2
      have e : B' ((l + 1 : Nat) : Int) = B ((l + 1 : Nat) : Int) := by
        rw [show ((l + 1 : Nat) : Int) = (l : Int) + 1 by omega, e1, e2, i2]
      exact ⟨e, en _ (by omega) a b e⟩
  have eL : L' = L := by
    by_cases z : L < L'
    · have s := (st (L - 1).toNat (by omega) (by omega)).2
      rw [show (((L - 1).toNat : Nat) : Int) = L - 1 by omega] at s
      have w := r5 (L - 1) (by omega) (by omega)
      omega
    · by_cases y : L' < L
      · have s := (st (L' - 1).toNat (by omega) (by omega)).2
        rw [show (((L' - 1).toNat : Nat) : Int) = L' - 1 by omega] at s
        have w := q5 (L' - 1) (by omega) (by omega)
        omega
      · omega
  refine ⟨eL, fun l l0 lL => ?_⟩
  have s := st l.toNat (by omega) (by omega)
  rw [show ((l.toNat : Nat) : Int) = l by omega] at s
  exact s
theorem zLn.tr {t u B E : Int → Int} {N L : Int} (A : zLn t N L B E) (h : ∀ i, 0 ≤ i → i < N → t i = u i) : zLn u N L B E := by
  obtain ⟨q1, q2, q3, q4, q5, q6⟩ := A
  exact ⟨q1, q2, q3, fun l u w => ⟨(q4 l u w).1, (q4 l u w).2.1, (q4 l u w).2.2.trans (zEnd_congr (q4 l u w).2.1 (fun i x y => h i (by have := (q4 l u w).1; omega) y))⟩, q5, q6⟩
theorem zRb.fr (R : zRb s b) (f : ∀ r, 12 ≤ r → r < 43 → s' r = s r) (e1 : s' 1 = s 1) (e2 : s' 2 = s 2) (e8 : s' 8 1 = s' 10 1) (ln : zLn (s' 2) (s' 1 1) (s' 10 1) (s' 9) (s' 11)) : zRb s' b := by
  obtain ⟨a0, t, N, LL, n, G, fa, f1, f2, g8, g10, l⟩ := R
  have n1 := G.n1
  have ch := G.ch
  have eN : s' 1 1 = N := by rw [e1, f1]; exact n1.1
  rw [eN] at ln
  have te : ∀ i, 0 ≤ i → i < N → t i = s' 2 i := fun i u w => by rw [e2, f2]; exact (ch i u w).1.symm
  have un := l.uniq ln te
  refine ⟨a0, t, N, LL, n, G, fun r u w => by rw [f r u w]; exact fa r u w, by rw [e1]; exact f1, by rw [e2]; exact f2, by rw [e8]; exact un.1, un.1, ?_⟩
  rw [← un.1]
  exact ln.tr (fun i u w => (te i u w).symm)
theorem zCc.re (C : zCc X s) (f : ∀ r, 12 ≤ r → r < 88 → s' r = s r) (e1 : s' 1 = s 1) (e2 : s' 2 = s 2) (hb : ∀ b, zRb s b → zRb s' b) : zCc X s' := by
  intro b hb'
  obtain ⟨q1, q2⟩ := hb'
  obtain ⟨⟨b', R, M, W⟩, b1, R1, M1, W1⟩ := C b ⟨by rw [q1, e1], fun i u w => by rw [q2 i u (by rw [e1]; exact w), e2]⟩
  exact ⟨⟨b', R.fr f e1, M, W⟩, b1, hb b1 R1, M1, W1⟩
theorem zCc.fr (C : zCc X s) (f : ∀ r, r < 88 → s' r = s r) : zCc X s' := by
  refine C.re (fun r _ w => f r w) (f 1 (by decide)) (f 2 (by decide)) (fun b R => ?_)
  obtain ⟨a0, t, N, LL, n, G, fa, f1, f2, g8, g10, l⟩ := R
  exact ⟨a0, t, N, LL, n, G, fun r u w => by rw [f r (by omega)]; exact fa r u w, by rw [f 1 (by decide)]; exact f1, by rw [f 2 (by decide)]; exact f2, by rw [f 8 (by decide)]; exact g8, by rw [f 10 (by decide)]; exact g10, by rw [f 9 (by decide), f 11 (by decide)]; exact l⟩
theorem zTx.fr (T : zTx s) (e1 : s' 1 = s 1) (e2 : s' 2 = s 2) (e0 : s' 113 0 = s 113 0) (e114 : s' 114 = s 114) : zTx s' := by
  unfold zTx at T ⊢; rw [e1, e2, e0, e114]; exact T
theorem zSl.fr {r : Nat} (S : zSl s r k) (e1 : s' r = s r) (e2 : s' (r + 1) = s (r + 1)) (e5 : s' 115 = s 115) (e6 : s' 116 = s 116) : zSl s' r k := by
  unfold zSl at S ⊢; rw [e1, e2, e5, e6]; exact S
/-- nothing of the text, the slots, the class's tree and prints is changed -/
theorem zIv.fr (H : zIv X s) (f : ∀ r, r < 88 ∨ r = 114 ∨ r = 115 ∨ r = 116 → s' r = s r) (e0 : s' 113 0 = s 113 0) : zIv X s' := by
  refine zIv.mk (H.tx.fr (f 1 (by omega)) (f 2 (by omega)) e0 (f 114 (by omega))) (H.k0.fr (f 3 (by omega)) (f (3 + 1) (by omega)) (f 115 (by omega)) (f 116 (by omega))) (H.k1.fr (f 5 (by omega)) (f (5 + 1) (by omega)) (f 115 (by omega)) (f 116 (by omega))) ?_ ?_
  · rw [f 54 (by omega), f 56 (by omega), f 58 (by omega), f 60 (by omega), f 62 (by omega)]; exact H.r0
  · rw [f 0 (by omega)]; exact fun z => (H.cc z).fr (fun r hr => f r (by omega))
theorem zIv.sm (H : zIv X s) (S : zSm s s') : zIv X s' := H.fr (fun r hr => S.1 r (by omega) (by omega)) (S.2 0 (by decide))
theorem zIv.same (H : zIv X s) : zSame s s := ⟨H.tx.2.2.1, fun i u w => (H.tx.2.2.2 i u w).1⟩
theorem k_growI (H : zIv X s) (h : ∀ a', zIv X a' → zCc X a' → (∀ r, (1 ≤ r ∧ r < 8) ∨ 88 ≤ r → a' r = s r) → K a') : c_T_growTree X s K := by
  refine k_grow H.tx H.r0 H.cc (fun a' C f g z r0 => h a' (zIv.mk (H.tx.fr (f 1 (by omega)) (f 2 (by omega)) (by rw [f 113 (by omega)]) (f 114 (by omega))) (H.k0.fr (f 3 (by omega)) (f (3 + 1) (by omega)) (f 115 (by omega)) (f 116 (by omega))) (H.k1.fr (f 5 (by omega)) (f (5 + 1) (by omega)) (f 115 (by omega)) (f 116 (by omega))) r0 (fun _ => C)) C f)
/-- the model's trees() at a store with the class's text -/
theorem k_q_trees (H : zIv X a) (C : zCc X a) (S : zSm a b) (h : ∀ b', zRt X a b' → zIv X b' → b' 113 47 = b 113 47 → (∀ r, r < 113 ∨ r = 161 → b' r = b r) → K b') : c_m_trees X b K := by
  have sm := H.same
  obtain ⟨q1, q2⟩ := sm
  obtain ⟨⟨b', R, M, W⟩, _⟩ := C b ⟨by rw [S.2 0 (by decide)]; exact q1, fun i u w => by rw [S.1 114 (by decide) (by decide)]; exact q2 i u w⟩
  refine W K (h b' R (H.fr (fun r hr => ?_) ?_) M.fj.2 (fun r hr => M.fr r (by omega)))
  · rw [M.fr r (by omega), S.1 r (by omega) (by omega)]
  · rw [M.fj.1, S.2 0 (by decide)]
/-- the class's rows of the tree -/
def zRw (a : qM) : Prop := (0 ≤ a 65 1 ∧ a 65 1 ≤ 481 ∧ a 67 1 = a 65 1 ∧ a 69 1 = a 65 1 ∧ a 71 1 = a 65 1 ∧ a 73 1 = a 65 1) ∧ (0 ≤ a 81 1 ∧ a 81 1 ≤ 482)
theorem zRw.mk {a : qM} (sz : 0 ≤ a 65 1 ∧ a 65 1 ≤ 481 ∧ a 67 1 = a 65 1 ∧ a 69 1 = a 65 1 ∧ a 71 1 = a 65 1 ∧ a 73 1 = a 65 1) (zz : 0 ≤ a 81 1 ∧ a 81 1 ≤ 482) : zRw a := ⟨sz, zz⟩
theorem zRw.sz {a : qM} (h : zRw a) : 0 ≤ a 65 1 ∧ a 65 1 ≤ 481 ∧ a 67 1 = a 65 1 ∧ a 69 1 = a 65 1 ∧ a 71 1 = a 65 1 ∧ a 73 1 = a 65 1 := h.1
theorem zRw.zz {a : qM} (h : zRw a) : 0 ≤ a 81 1 ∧ a 81 1 ≤ 482 := h.2
theorem zRt.rw (R : zRt X a b) : zRw a := by
  obtain ⟨a0, t, N, LL, n, v, C, D, G, l, f, f1, p0, p1⟩ := R
  obtain ⟨t1, t2, t3, t4, t5, t6, t7, t8, t9, t10, t11, t12, t13⟩ := G.T.sz
  have s := G.sz
  have c := G.B.cap
  refine zRw.mk ?_ ?_
  · rw [f 65 (by decide) (by decide), f 67 (by decide) (by decide), f 69 (by decide) (by decide), f 71 (by decide) (by decide), f 73 (by decide) (by decide)]
    exact ⟨by omega, by omega, by omega, by omega, by omega, by omega⟩
  · rw [f 81 (by decide) (by decide)]; exact ⟨by omega, by omega⟩
theorem zRt.nd (R : zRt X a b) : b 113 20 = a 65 1 ∧ ∀ i, 0 ≤ i → i < a 65 1 → a 66 i = b 131 i ∧ a 68 i = b 132 i ∧ a 70 i = b 133 i ∧ a 72 i = b 134 i ∧ b 132 i < i ∧ b 133 i = zKid (b 132) i (a 65 1).toNat ∧ 0 ≤ b 133 i ∧ b 133 i ≤ 481 := by
  obtain ⟨a0, t, N, LL, n, v, C, D, G, l, f, f1, p0, p1⟩ := R
  obtain ⟨t1, t2, t3, t4, t5, t6, t7, t8, t9, t10, t11, t12, t13⟩ := G.T.sz
  rw [f 65 (by decide) (by decide), f 66 (by decide) (by decide), f 68 (by decide) (by decide), f 70 (by decide) (by decide), f 72 (by decide) (by decide), t1]
  refine ⟨t9, fun i i0 iv => ?_⟩
  obtain ⟨q1, q2, q3, q4, q5, q6, q7, q8, q9, q10⟩ := G.T.nd i i0 iv
  refine ⟨q1, q2, q3, q4, ?_, G.T.kc i i0 iv, q9, by omega⟩
  by_cases z : i = 0
  · have := q7 z; omega
  · exact (q8 (by omega)).2
theorem zRt.ow (R : zRt X a b) : a 33 1 = a 1 1 ∧ a 1 1 ≤ 240 ∧ ∀ i, 0 ≤ i → i < a 1 1 → a 34 i = b 129 i ∧ 0 ≤ a 34 i ∧ a 34 i < a 81 1 ∧ a 82 (a 34 i) = b 137 (a 34 i) := by
  obtain ⟨a0, t, N, LL, n, v, C, D, G, l, f, f1, p0, p1⟩ := R
  obtain ⟨n1, n2, n3⟩ := G.B.n1
  have s33 := G.B.sz.2.2.2.2
  have s81 := G.sz.1
  rw [f 33 (by decide) (by decide), f1, f 34 (by decide) (by decide), f 81 (by decide) (by decide), f 82 (by decide) (by decide)]
  refine ⟨by omega, by omega, fun i u w => ?_⟩
  have o := G.B.O.own i u (by omega)
  exact ⟨o.1, o.2.1, by omega, (G.no _ o.2.1 o.2.2).1⟩
/-- the block that a sign leads to -/
def zBlk (a : qM) (i : Int) : Int := if a 74 i < 400 then a 38 (a 74 i - 300) else a 42 (a 74 i - 400)
theorem zRt.lk (R : zRt X a b) {i : Int} (i0 : 0 ≤ i) (iv : i < a 65 1) (h : a 66 i = 12) : a 37 1 ≤ 241 ∧ a 41 1 ≤ 241 ∧ ((a 74 i < 400 ∧ 300 ≤ a 74 i ∧ a 74 i - 300 < a 37 1) ∨ (400 ≤ a 74 i ∧ a 74 i - 400 < a 41 1)) ∧ zBlk a i = b 136 i ∧ 0 ≤ zBlk a i ∧ zBlk a i < a 81 1 ∧ a 82 (zBlk a i) = b 137 (zBlk a i) := by
  obtain ⟨a0, t, N, LL, n, v, C, D, G, l, f, f1, p0, p1⟩ := R
  obtain ⟨n1, n2, n3⟩ := G.B.n1
  have nl := G.B.nl
  have ln := G.B.ln.2.1
  have s81 := G.sz.1
  have t1 := G.T.sz.1
  unfold zBlk
  rw [f 65 (by decide) (by decide)] at iv
  rw [f 66 (by decide) (by decide)] at h
  rw [f 37 (by decide) (by decide), f 41 (by decide) (by decide), f 74 (by decide) (by decide), f 38 (by decide) (by decide), f 42 (by decide) (by decide), f 81 (by decide) (by decide), f 82 (by decide) (by decide)]
  have nd := (G.T.nd i i0 (by omega)).1
  have lk := (G.T.sg i i0 (by omega)).2.2.1 (by omega)
  rcases lk with ⟨b7, j, j0, jr, ej, es⟩ | ⟨b4, j, j0, jr, ej, es⟩
  · have ls := G.B.nd.ls j j0 jr
    rw [show a0 (37 + 1) j = a0 38 j from rfl] at ls
    rw [es, if_pos (by omega), show 300 + j - 300 = j by omega]
    exact ⟨by omega, by omega, Or.inl ⟨by omega, by omega, by omega⟩, ej, ls.1, by omega, (G.no _ ls.1 ls.2.1).1⟩
  · have ls := G.B.nh.ls j j0 jr
    rw [show a0 (41 + 1) j = a0 42 j from rfl] at ls
    rw [es, if_neg (by omega), show 400 + j - 400 = j by omega]
    exact ⟨by omega, by omega, Or.inr ⟨by omega, by omega⟩, ej, ls.1, by omega, (G.no _ ls.1 ls.2.1).1⟩
theorem zRt.pq (R : zRt X a b) : zPq X a b 84 0 ∧ zPq X a b 86 1 := by
  obtain ⟨a0, t, N, LL, n, v, C, D, G, l, f, f1, p0, p1⟩ := R
  exact ⟨p0, p1⟩
theorem zCc.rw (H : zIv X a) (C : zCc X a) : zRw a := by
  obtain ⟨⟨b', R, _, _⟩, _⟩ := C a H.same
  exact R.rw
/-- counting -/
theorem k_count (W : zRw a) : ∃ r : Int, (∀ KI : Int → qM → Prop, KI r a → c_Tree_manyOf X k a KI) ∧ ∀ b' : qM, b' 113 20 = a 65 1 → (∀ i, 0 ≤ i → i < a 65 1 → a 66 i = b' 131 i) → ∀ KI : Int → qM → Prop, KI r b' → L_m_count_32 X k 0 0 b' KI := by
  obtain ⟨w1, w2, w3, w4, w5, w6⟩ := W.sz
  have Lp : ∀ (c : Nat) (i o : Int), i + c = a 65 1 → 0 ≤ i → 0 ≤ o → o ≤ i → ∃ r : Int, (∀ KI : Int → qM → Prop, KI r a → L_Tree_manyOf_4 X k o i a KI) ∧ ∀ b' : qM, b' 113 20 = a 65 1 → (∀ i, 0 ≤ i → i < a 65 1 → a 66 i = b' 131 i) → ∀ KI : Int → qM → Prop, KI r b' → L_m_count_32 X k o i b' KI := by
    intro c
    induction c with
    | zero =>
      intro i o hi i0 o0 oi
      exact ⟨o, fun KI hk => sg_Tree_manyOf_4 (k_Row_size q_row_65 (z_t (by omega) hk)), fun b' e20 _ KI hk => sg_m_count_32 (z_t (by omega) hk)⟩
    | succ c ih =>
      intro i o hi i0 o0 oi
      by_cases e : a 66 i = k
      · obtain ⟨r, h1, h2⟩ := ih (i + 1) (o + 1) (by omega) (by omega) (by omega) (by omega)
        refine ⟨r, fun KI hk => sg_Tree_manyOf_4 (k_Row_size q_row_65 (z_f (by omega) (k_Row_at q_row_65 (by omega) ?_))), fun b' e20 f KI hk => sg_m_count_32 (z_f (by omega) ⟨i0, by omega, ?_⟩)⟩
        · rw [zT_in i0 (by omega)]
          exact z_f (fun z => z e) ⟨by omega, by omega, h1 KI hk⟩
        · rw [← f i i0 (by omega)]
          exact z_f (fun z => z e) ⟨by omega, by omega, h2 b' e20 f KI hk⟩
      · obtain ⟨r, h1, h2⟩ := ih (i + 1) o (by omega) (by omega) (by omega) (by omega)
        refine ⟨r, fun KI hk => sg_Tree_manyOf_4 (k_Row_size q_row_65 (z_f (by omega) (k_Row_at q_row_65 (by omega) ?_))), fun b' e20 f KI hk => sg_m_count_32 (z_f (by omega) ⟨i0, by omega, ?_⟩)⟩
        · rw [zT_in i0 (by omega)]
          exact z_t e ⟨by omega, h1 KI hk⟩
        · rw [← f i i0 (by omega)]
          refine z_t e ⟨by omega, by omega, ?_⟩
          rw [Int.add_zero]; exact h2 b' e20 f KI hk
  obtain ⟨r, h1, h2⟩ := Lp (a 65 1).toNat 0 0 (by omega) (Int.le_refl 0) (Int.le_refl 0) (Int.le_refl 0)
  exact ⟨r, fun KI hk => sg_Tree_manyOf (h1 KI hk), h2⟩
theorem zKid_mono {f : Int → Int} {i : Int} (m : Nat) : zKid f i (m + 1) = zKid f i m + (if f (m : Int) = i then 1 else 0) := rfl
/-- the child -/
theorem k_child (W : zRw a) (k0 : 0 ≤ k) (kv : k < a 65 1) (j0 : 0 ≤ j) (jv : j < a 70 k) (lt : ∀ i, 0 ≤ i → i < a 65 1 → a 68 i < i) (kc : a 70 k = zKid (a 68) k (a 65 1).toNat) : ∃ r : Int, (∀ KI : Int → qM → Prop, KI r a → c_Tree_childOf X k j a KI) ∧ ∀ b' : qM, (∀ i, 0 ≤ i → i < a 65 1 → a 68 i = b' 132 i) → ∀ KI : Int → qM → Prop, KI r b' → L_m_child_53 X k j k (-1) b' KI := by
  obtain ⟨w1, w2, w3, w4, w5, w6⟩ := W.sz
  have j9 : j < 2147483647 := by
    have bd : ∀ m : Nat, zKid (a 68) k m ≤ m := by
      intro m
      induction m with
      | zero => exact Int.le_refl 0
      | succ m ih => rw [zKid_mono]; split <;> omega
    have := bd (a 65 1).toNat
    omega
  have Lp : ∀ (c : Nat) (o i : Int), i + c = a 65 1 → 0 ≤ i → 0 ≤ o → o ≤ j → o = zKid (a 68) k i.toNat → ∃ r : Int, (∀ KI : Int → qM → Prop, KI r a → L_Tree_childOf_7 X k j o i a KI) ∧ ∀ b' : qM, (∀ i, 0 ≤ i → i < a 65 1 → a 68 i = b' 132 i) → ∀ KI : Int → qM → Prop, KI r b' → L_m_child_62 X k j i (o - 1) b' KI := by
    intro c
    induction c with
    | zero =>
      intro o i hi i0 o0 oj eo
      rw [show i = a 65 1 by omega] at eo
      omega
    | succ c ih =>
      intro o i hi i0 o0 oj eo
      have st : zKid (a 68) k (i + 1).toNat = o + (if a 68 i = k then 1 else 0) := by
        rw [show (i + 1).toNat = i.toNat + 1 by omega, zKid_mono, ← eo, show ((i.toNat : Nat) : Int) = i by omega]
      by_cases e : a 68 i = k
      · by_cases eq : o = j
        · refine ⟨i, fun KI hk => sg_Tree_childOf_7 (k_Row_size q_row_67 (z_f (by omega) (k_Row_at q_row_67 (by omega) ?_))), fun b' f KI hk => sg_m_child_62 ⟨i0, by omega, z_t (by rw [← f i i0 (by omega)]; exact e) ⟨by omega, sg_m_child_53 (z_t (by omega) hk)⟩⟩⟩
          rw [zT_in i0 (by omega)]
          exact z_f (fun z => z e) (z_f (fun z => z eq) hk)
        · rw [if_pos e] at st
          obtain ⟨r, h1, h2⟩ := ih (o + 1) (i + 1) (by omega) (by omega) (by omega) (by omega) st.symm
          refine ⟨r, fun KI hk => sg_Tree_childOf_7 (k_Row_size q_row_67 (z_f (by omega) (k_Row_at q_row_67 (by omega) ?_))), fun b' f KI hk => sg_m_child_62 ⟨i0, by omega, z_t (by rw [← f i i0 (by omega)]; exact e) ⟨by omega, sg_m_child_53 (z_f (by omega) ⟨by omega, ?_⟩)⟩⟩⟩
          · rw [zT_in i0 (by omega)]
            exact z_f (fun z => z e) (z_t eq ⟨by omega, by omega, h1 KI hk⟩)
          · have y := h2 b' f KI hk
            rw [show o + 1 - 1 = o - 1 + 1 by omega] at y
            exact y
      · rw [if_neg e, Int.add_zero] at st
        obtain ⟨r, h1, h2⟩ := ih o (i + 1) (by omega) (by omega) o0 oj st.symm
        refine ⟨r, fun KI hk => sg_Tree_childOf_7 (k_Row_size q_row_67 (z_f (by omega) (k_Row_at q_row_67 (by omega) ?_))), fun b' f KI hk => sg_m_child_62 ⟨i0, by omega, z_f (by rw [← f i i0 (by omega)]; exact e) ⟨by omega, h2 b' f KI hk⟩⟩⟩
        rw [zT_in i0 (by omega)]
        exact z_t e ⟨by omega, h1 KI hk⟩
  have z : zKid (a 68) k (k + 1).toNat = 0 := zKid_no _ (fun i hi => by have := lt i (by omega) (by omega); omega)
  obtain ⟨r, h1, h2⟩ := Lp (a 65 1 - (k + 1)).toNat 0 (k + 1) (by omega) (by omega) (Int.le_refl 0) j0 z.symm
  exact ⟨r, fun KI hk => sg_Tree_childOf ⟨by omega, h1 KI hk⟩, fun b' f KI hk => sg_m_child_53 (z_f (by omega) ⟨by omega, h2 b' f KI hk⟩)⟩
end Inv
