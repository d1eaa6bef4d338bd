/-! The tree: the lines of a FENCE. -/
/-- node i holds the lines of block j -/
def zFn (a b : qM) (t : Int → Int) (i j : Int) : Prop := a 78 i = zU1 a b j ∧ ∀ e : Nat, (e : Int) < a 28 j → (∀ x, 0 ≤ x → x < a 11 (zF a b j + e) - a 30 (zF a b j + e) → a 80 (a 76 i + zW (a 30) (a 11) (zF a b j) e + x) = t (a 30 (zF a b j + e) + x)) ∧ a 80 (a 76 i + zW (a 30) (a 11) (zF a b j) e + (a 11 (zF a b j + e) - a 30 (zF a b j + e))) = 10
section Fence
variable {X : Nat × (Nat → Int32)} {a b a' a0 : qM} {K : qM → Prop} {v C D w x N LL n k : Int} {t : Int → Int}
theorem zTr.putF (T : zTr a b v C D) (w0 : 0 ≤ w) (wv : w < v) (kw : b 131 w = 5) (eC : a 76 w + a 78 w = C) (f : ∀ r, r ≠ 78 → r ≠ 79 → r ≠ 80 → a' r = a r) (g79 : a' 79 1 = C + 1) (g80 : a' 80 = q_u (a 80) C x) (g78 : a' 78 = q_u (a 78) w (a 78 w + 1)) : zTr a' b v (C + 1) D := by
  obtain ⟨t1, t2, t3, t4, t5, t6, t7, t8, t9, t10, t11, t12, t13⟩ := T.sz
  have ff : ∀ r, r < 78 → a' r = a r := fun r hr => f r (by omega) (by omega) (by omega)
  have cw := T.ct w w0 wv
  refine zTr.mk ⟨by rw [ff 65 (by decide)]; exact t1, by rw [ff 67 (by decide)]; exact t2, by rw [ff 69 (by decide)]; exact t3, by rw [ff 71 (by decide)]; exact t4, by rw [ff 73 (by decide)]; exact t5, by rw [ff 75 (by decide)]; exact t6, by rw [ff 77 (by decide)]; exact t7, g79, t9, t10, t11, z_nn1 t12, t13⟩ ?_ (fun i i0 iv => ?_) (fun i i0 iv => ?_) T.kc T.pre (by rw [g78, zSig_upd (f := a 78) (x := w) (d := 1) w0 q_u_at v.toNat (by omega) (fun k _ _ hk => q_u_ne hk), T.sm]) T.tl
  · rw [ff 66 (by decide), ff 68 (by decide), ff 70 (by decide), ff 72 (by decide)]; exact T.nd
  · have h := T.sg i i0 iv
    rw [ff 74 (by decide)]
    exact ⟨h.1, h.2.1, fun z => (h.2.2.1 z).fr (ff 37 (by decide)) (ff 38 (by decide)) (ff 41 (by decide)) (ff 42 (by decide)) rfl, h.2.2.2⟩
  · have hi := T.ct i i0 iv
    rw [ff 76 (by decide), g78, g80]
    by_cases e : i = w
    · rw [e, q_u_at]
      exact ⟨cw.1, by omega, by omega, fun z => by omega, fun z => absurd kw z⟩
    · rw [q_u_ne e]
      refine ⟨hi.1, hi.2.1, by omega, fun z => ?_, hi.2.2.2.2⟩
      have h := hi.2.2.2.1 z
      refine ⟨h.1, h.2.1, h.2.2.1, fun j j0 jt => ?_⟩
      rw [q_u_ne (by omega)]; exact h.2.2.2 j j0 jt
/-- a0 at the start, o characters are in -/
def zFo (a0 a b : qM) (v C D w o : Int) : Prop := (zTr a b v (C + o) D) ∧ (∀ r, r ≠ 78 → r ≠ 79 → r ≠ 80 → a r = a0 r) ∧ (a 78 w = o) ∧ (∀ i, i ≠ w → a 78 i = a0 78 i) ∧ (∀ i, i < C → a 80 i = a0 80 i)
theorem zFo.mk {a0 a b : qM} {v C D w o : Int} (T : zTr a b v (C + o) D) (fr : ∀ r, r ≠ 78 → r ≠ 79 → r ≠ 80 → a r = a0 r) (s : a 78 w = o) (s2 : ∀ i, i ≠ w → a 78 i = a0 78 i) (lo : ∀ i, i < C → a 80 i = a0 80 i) : zFo a0 a b v C D w o := ⟨T, fr, s, s2, lo⟩
theorem zFo.T {a0 a b : qM} {v C D w o : Int} (h : zFo a0 a b v C D w o) : zTr a b v (C + o) D := h.1
theorem zFo.fr {a0 a b : qM} {v C D w o : Int} (h : zFo a0 a b v C D w o) : ∀ r, r ≠ 78 → r ≠ 79 → r ≠ 80 → a r = a0 r := h.2.1
theorem zFo.s {a0 a b : qM} {v C D w o : Int} (h : zFo a0 a b v C D w o) : a 78 w = o := h.2.2.1
theorem zFo.s2 {a0 a b : qM} {v C D w o : Int} (h : zFo a0 a b v C D w o) : ∀ i, i ≠ w → a 78 i = a0 78 i := h.2.2.2.1
theorem zFo.lo {a0 a b : qM} {v C D w o : Int} (h : zFo a0 a b v C D w o) : ∀ i, i < C → a 80 i = a0 80 i := h.2.2.2.2
theorem zFo.put {o : Int} (F : zFo a0 a b v C D w o) (w0 : 0 ≤ w) (wv : w < v) (kw : b 131 w = 5) (e76 : a0 76 w = C) (o0 : 0 ≤ o) (v2 : v ≤ 482) (C2 : C + o < 400) (h : ∀ a', zFo a0 a' b v C D w (o + 1) → a' 80 (C + o) = x → (∀ i, i ≠ C + o → a' 80 i = a 80 i) → K a') : c_Tree_addContent X w x a K := by
  obtain ⟨t1, t2, t3, t4, t5, t6, t7, t8, t9, t10, t11, t12, t13⟩ := F.T.sz
  have s := F.s
  have C0 := (F.T.ct w w0 wv).1
  have e76' : a 76 w = C := by rw [F.fr 76 (by decide) (by decide) (by decide)]; exact e76
  refine k_Tree_addContent ⟨t7, t8⟩ v2 t12 (by omega) w0 wv ⟨by omega, by omega⟩ (fun a' f g79 g80 g78 => ?_)
  refine h a' (zFo.mk ?_ (fun r x y z => (f r x y z).trans (F.fr r x y z)) (by rw [g78, q_u_at]; omega) (fun i hi => by rw [g78, q_u_ne hi]; exact F.s2 i hi) (fun i hi => by rw [g80, q_u_ne (by omega)]; exact F.lo i hi)) (by rw [g80, q_u_at]) (fun i hi => by rw [g80, q_u_ne hi])
  rw [show C + (o + 1) = C + o + 1 by omega]
  exact F.T.putF w0 wv kw (by omega) f g79 g80 g78
theorem k_copyFence (Z : zBk a b t N LL n) (T : zTr a b v C D) (k0 : 0 ≤ k) (kn : k < n) (hk : b 117 k = 5) (w0 : 0 ≤ w) (wv : w < v) (kw : b 131 w = 5) (e76 : a 76 w = C) (e78 : a 78 w = 0) (v2 : v ≤ 482) (C2 : C + zU1 a b k < 400)
    (h : ∀ a', zFo a a' b v C D w (zU1 a b k) → zFn a' b t w k → K a') : c_T_copyFence X k w a K := by
  obtain ⟨n1, n2, n3⟩ := Z.n1
  obtain ⟨s8, s10, s29, s31, s33⟩ := Z.sz
  obtain ⟨c1, c2⟩ := Z.cap
  obtain ⟨g1, g2, g3, g4, g5, g6⟩ := Z.S.rg k k0 kn (by omega) (by omega)
  have LLr : 1 ≤ LL ∧ LL ≤ N + 1 := ⟨Z.ln.1, Z.ln.2.1⟩
  obtain ⟨_, _, _, _, _, _, r25, r27, _⟩ := Z.B.rows
  have ef : zF a b k = a 26 k + 1 := by unfold zF; rw [if_pos hk]
  have eu : zU1 a b k = zW (a 30) (a 11) (zF a b k) (a 28 k).toNat := by unfold zU1; rw [if_pos (by omega)]
  have line : ∀ l, zF a b k ≤ l → l < zF a b k + a 28 k → 0 ≤ l ∧ l < LL ∧ 0 ≤ a 30 l ∧ a 30 l ≤ a 11 l ∧ a 11 l ≤ N := by
    intro l u z
    have e := (g4 l (by omega) (by omega)).mpr ⟨u, z⟩
    have hb := Z.S.bl l (by omega) (by omega) (by omega)
    have hl := Z.ln.2.2.2.1 l (by omega) (by omega)
    have he := zEnd_is (t := t) hl.2.1
    rw [← hl.2.2] at he
    exact ⟨by omega, by omega, by omega, hb.2.2.2.2.2.2.2, he.2.1⟩
  have mono : ∀ i : Nat, (i : Int) ≤ a 28 k → zW (a 30) (a 11) (zF a b k) i ≤ zU1 a b k := fun i hi => by
    rw [eu]; exact zW_mono (fun l u z => (line l u (by omega)).2.2.2.1) (by omega)
  have nn : ∀ i : Nat, (i : Int) ≤ a 28 k → 0 ≤ zW (a 30) (a 11) (zF a b k) i := fun i hi => zW_mono (i := 0) (fun l u z => (line l u (by omega)).2.2.2.1) (Nat.zero_le i)
  have Lp : ∀ (c e : Nat) (a1 : qM), (e : Int) + c = a 28 k → zFo a a1 b v C D w (zW (a 30) (a 11) (zF a b k) e) → (∀ e' : Nat, e' < e → (∀ x, 0 ≤ x → x < a 11 (zF a b k + e') - a 30 (zF a b k + e') → a1 80 (C + zW (a 30) (a 11) (zF a b k) e' + x) = t (a 30 (zF a b k + e') + x)) ∧ a1 80 (C + zW (a 30) (a 11) (zF a b k) e' + (a 11 (zF a b k + e') - a 30 (zF a b k + e'))) = 10) → L_T_copyFence_14 X k w (zF a b k) (zF a b k + e) a1 K := by
    intro c
    induction c with
    | zero =>
      intro e a1 he F hc
      have fa : ∀ r, r < 78 → a1 r = a r := fun r hr => F.fr r (by omega) (by omega) (by omega)
      refine sg_T_copyFence_14 (sg_Blocks_linesOf (k_Row_at q_row_27 (by rw [fa 27 (by decide)]; omega) ?_))
      rw [zT_in k0 (by rw [fa 27 (by decide)]; omega), fa (27 + 1) (by decide), show a (27 + 1) k = a 28 k from rfl]
      have ez : zF a1 b k = zF a b k := by unfold zF; rw [fa 26 (by decide)]
      have eu1 : zU1 a1 b k = zU1 a b k := by unfold zU1; rw [ez, fa 28 (by decide), fa 30 (by decide), fa 11 (by decide)]
      have ee : (a 28 k).toNat = e := by omega
      have eue := eu
      rw [ee] at eue
      refine ⟨by omega, z_t (by omega) (h a1 (by rw [eue]; exact F) ⟨by rw [eu1, eue]; exact F.s, fun e' he' => ?_⟩)⟩
      rw [fa 28 (by decide)] at he'
      rw [ez, fa 30 (by decide), fa 11 (by decide), fa 76 (by decide), e76]
      exact hc e' (by omega)
    | succ c ih =>
      intro e a1 he F hc
      have fa : ∀ r, r < 78 → a1 r = a r := fun r hr => F.fr r (by omega) (by omega) (by omega)
      obtain ⟨l0, lL, C0', CF, FN⟩ := line (zF a b k + e) (by omega) (by omega)
      have zi : zW (a 30) (a 11) (zF a b k) (e + 1) = zW (a 30) (a 11) (zF a b k) e + (a 11 (zF a b k + e) - a 30 (zF a b k + e) + 1) := rfl
      have m1 := mono (e + 1) (by omega)
      have m0 := nn e (by omega)
      -- within the line
      have In : ∀ (c2 : Nat) (x : Int) (a2 : qM), x + c2 = a 11 (zF a b k + e) - a 30 (zF a b k + e) → 0 ≤ x → zFo a a2 b v C D w (zW (a 30) (a 11) (zF a b k) e + x) → (∀ e' : Nat, e' < e → (∀ x, 0 ≤ x → x < a 11 (zF a b k + e') - a 30 (zF a b k + e') → a2 80 (C + zW (a 30) (a 11) (zF a b k) e' + x) = t (a 30 (zF a b k + e') + x)) ∧ a2 80 (C + zW (a 30) (a 11) (zF a b k) e' + (a 11 (zF a b k + e') - a 30 (zF a b k + e'))) = 10) → (∀ y, 0 ≤ y → y < x → a2 80 (C + zW (a 30) (a 11) (zF a b k) e + y) = t (a 30 (zF a b k + e) + y)) → L_T_copyFence_40 X k w (zF a b k) (zF a b k + e) (a 30 (zF a b k + e) + x) a2 K := by
        have older : ∀ e' : Nat, e' < e → zW (a 30) (a 11) (zF a b k) e' + (a 11 (zF a b k + e') - a 30 (zF a b k + e') + 1) ≤ zW (a 30) (a 11) (zF a b k) e := fun e' he' =>
          zW_mono (C := a 30) (F := a 11) (f := zF a b k) (i := e' + 1) (k := e) (fun l u z => (line l u (by omega)).2.2.2.1) he'
        intro c2
        induction c2 with
        | zero =>
          intro x a2 hx x0 F2 hc2 hy
          have fa2 : ∀ r, r < 78 → a2 r = a r := fun r hr => F2.fr r (by omega) (by omega) (by omega)
          refine sg_T_copyFence_40 (sg_Lines_end q_lines_7 (k_Row_at q_row_10 (by rw [fa2 10 (by decide)]; omega) ?_))
          rw [zT_in l0 (by rw [fa2 10 (by decide)]; omega), fa2 (10 + 1) (by decide), show a (10 + 1) (zF a b k + e) = a 11 (zF a b k + e) from rfl]
          refine z_t (by omega) (F2.put (x := 10) w0 wv kw e76 (by omega) v2 (by omega) (fun a3 F3 x3 o3 => ⟨by omega, ?_⟩))
          have res := ih (e + 1) a3 (by omega) (by rw [zi, show zW (a 30) (a 11) (zF a b k) e + (a 11 (zF a b k + e) - a 30 (zF a b k + e) + 1) = zW (a 30) (a 11) (zF a b k) e + x + 1 by omega]; exact F3) (fun e' he' => ?_)
          · rw [show zF a b k + ((e + 1 : Nat) : Int) = zF a b k + e + 1 by omega] at res
            exact res
          · by_cases ee : e' = e
            · rw [ee]
              refine ⟨fun y y0 yx => ?_, ?_⟩
              · rw [o3 _ (by omega)]; exact hy y y0 (by omega)
              · rw [show C + zW (a 30) (a 11) (zF a b k) e + (a 11 (zF a b k + e) - a 30 (zF a b k + e)) = C + (zW (a 30) (a 11) (zF a b k) e + x) by omega]; exact x3
            · have od := older e' (by omega)
              have hh := hc2 e' (by omega)
              refine ⟨fun y y0 yx => ?_, ?_⟩
              · rw [o3 _ (by omega)]; exact hh.1 y y0 yx
              · rw [o3 _ (by omega)]; exact hh.2
        | succ c2 ih2 =>
          intro x a2 hx x0 F2 hc2 hy
          have fa2 : ∀ r, r < 78 → a2 r = a r := fun r hr => F2.fr r (by omega) (by omega) (by omega)
          refine sg_T_copyFence_40 (sg_Lines_end q_lines_7 (k_Row_at q_row_10 (by rw [fa2 10 (by decide)]; omega) ?_))
          rw [zT_in l0 (by rw [fa2 10 (by decide)]; omega), fa2 (10 + 1) (by decide), show a (10 + 1) (zF a b k + e) = a 11 (zF a b k + e) from rfl]
          refine z_f (by omega) (k_Row_at q_row_1 (by rw [fa2 1 (by decide)]; omega) ?_)
          rw [zT_in (by omega) (by rw [fa2 1 (by decide)]; omega), fa2 (1 + 1) (by decide), show a (1 + 1) (a 30 (zF a b k + e) + x) = t (a 30 (zF a b k + e) + x) from (Z.ch _ (by omega) (by omega)).1]
          refine F2.put (x := t (a 30 (zF a b k + e) + x)) w0 wv kw e76 (by omega) v2 (by omega) (fun a3 F3 x3 o3 => ⟨by omega, ?_⟩)
          rw [show a 30 (zF a b k + e) + x + 1 = a 30 (zF a b k + e) + (x + 1) by omega]
          refine ih2 (x + 1) a3 (by omega) (by omega) (by rw [show zW (a 30) (a 11) (zF a b k) e + (x + 1) = zW (a 30) (a 11) (zF a b k) e + x + 1 by omega]; exact F3) (fun e' he' => ?_) (fun y y0 yx => ?_)
          · have od := older e' he'
            have hh := hc2 e' he'
            refine ⟨fun y y0 yx => ?_, ?_⟩
            · rw [o3 _ (by omega)]; exact hh.1 y y0 yx
            · rw [o3 _ (by omega)]; exact hh.2
          · by_cases ey : y = x
            · rw [ey, show C + zW (a 30) (a 11) (zF a b k) e + x = C + (zW (a 30) (a 11) (zF a b k) e + x) by omega]; exact x3
            · rw [o3 _ (by omega)]; exact hy y y0 (by omega)
      refine sg_T_copyFence_14 (sg_Blocks_linesOf (k_Row_at q_row_27 (by rw [fa 27 (by decide)]; omega) ?_))
      rw [zT_in k0 (by rw [fa 27 (by decide)]; omega), fa (27 + 1) (by decide), show a (27 + 1) k = a 28 k from rfl]
      refine ⟨by omega, z_f (by omega) (sg_Blocks_contentBegin (k_Row_at q_row_29 (by rw [fa 29 (by decide)]; omega) ?_))⟩
      rw [zT_in l0 (by rw [fa 29 (by decide)]; omega), fa (29 + 1) (by decide), show a (29 + 1) (zF a b k + e) = a 30 (zF a b k + e) from rfl]
      have res := In (a 11 (zF a b k + e) - a 30 (zF a b k + e)).toNat 0 a1 (by omega) (Int.le_refl 0) (by rw [Int.add_zero]; exact F) hc (fun y y0 yx => by omega)
      rw [Int.add_zero] at res
      exact res
  refine sg_T_copyFence (sg_Blocks_firstLineOf (k_Row_at q_row_25 (by omega) ?_))
  rw [zT_in k0 (by omega), show a (25 + 1) k = a 26 k from rfl]
  have res := Lp (a 28 k).toNat 0 a (by omega) (zFo.mk (by rw [show zW (a 30) (a 11) (zF a b k) 0 = 0 from rfl, Int.add_zero]; exact T) (fun _ _ _ _ => rfl) e78 (fun _ _ => rfl) (fun _ _ => rfl)) (fun e' he' => by omega)
  rw [show zF a b k + ((0 : Nat) : Int) = zF a b k by omega, ef] at res
  exact ⟨by omega, res⟩
end Fence
