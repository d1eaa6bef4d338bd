/-! Merges: pairs, parts and what is written. -/
/-- the parts are the same -/
def zPs (a : qM) (r1 t1 : Nat) (f1 e1 : Int) (r2 t2 : Nat) (f2 e2 : Int) : Prop := e1 - f1 = e2 - f2 ∧ ∀ x, 0 ≤ x → x < e1 - f1 → zEq a r1 t1 (f1 + x) r2 t2 (f2 + x)
/-- where line l begins, or behind the text -/
def zWl (a : qM) (th : Nat) (M LL l : Int) : Int := if l < LL then a (th + 2) l else M + 1
/-- what is merged so far, y characters; c lines in the class, whether some in the model -/
def zMo (a0 b0 a b : qM) (c g y : Int) : Prop := (∀ r, r ≠ 90 → r ≠ 111 → r ≠ 112 → a r = a0 r) ∧ (∀ j, j ≠ 7 → j ≠ 8 → a 90 j = a0 90 j) ∧ (∀ r, r ≠ 113 → r ≠ 154 → b r = b0 r) ∧ (∀ j, j ≠ 63 → j ≠ 64 → b 113 j = b0 113 j) ∧ (a 90 7 = c ∧ b 113 64 = g) ∧ (a 90 8 = y ∧ b 113 63 = y ∧ 0 ≤ y) ∧ (a 111 1 = if y ≤ 240 then y else 240) ∧ (∀ i, 0 ≤ i → i < a 111 1 → a 112 i = b 154 i ∧ zChr (a 112 i))
theorem zMo.mk {a0 b0 a b : qM} {c g y : Int} (fa : ∀ r, r ≠ 90 → r ≠ 111 → r ≠ 112 → a r = a0 r) (fc : ∀ j, j ≠ 7 → j ≠ 8 → a 90 j = a0 90 j) (fb : ∀ r, r ≠ 113 → r ≠ 154 → b r = b0 r) (fj : ∀ j, j ≠ 63 → j ≠ 64 → b 113 j = b0 113 j) (ct : a 90 7 = c ∧ b 113 64 = g) (ln : a 90 8 = y ∧ b 113 63 = y ∧ 0 ≤ y) (sz : a 111 1 = if y ≤ 240 then y else 240) (tx : ∀ i, 0 ≤ i → i < a 111 1 → a 112 i = b 154 i ∧ zChr (a 112 i)) : zMo a0 b0 a b c g y := ⟨fa, fc, fb, fj, ct, ln, sz, tx⟩
theorem zMo.fa {a0 b0 a b : qM} {c g y : Int} (h : zMo a0 b0 a b c g y) : ∀ r, r ≠ 90 → r ≠ 111 → r ≠ 112 → a r = a0 r := h.1
theorem zMo.fc {a0 b0 a b : qM} {c g y : Int} (h : zMo a0 b0 a b c g y) : ∀ j, j ≠ 7 → j ≠ 8 → a 90 j = a0 90 j := h.2.1
theorem zMo.fb {a0 b0 a b : qM} {c g y : Int} (h : zMo a0 b0 a b c g y) : ∀ r, r ≠ 113 → r ≠ 154 → b r = b0 r := h.2.2.1
theorem zMo.fj {a0 b0 a b : qM} {c g y : Int} (h : zMo a0 b0 a b c g y) : ∀ j, j ≠ 63 → j ≠ 64 → b 113 j = b0 113 j := h.2.2.2.1
theorem zMo.ct {a0 b0 a b : qM} {c g y : Int} (h : zMo a0 b0 a b c g y) : a 90 7 = c ∧ b 113 64 = g := h.2.2.2.2.1
theorem zMo.ln {a0 b0 a b : qM} {c g y : Int} (h : zMo a0 b0 a b c g y) : a 90 8 = y ∧ b 113 63 = y ∧ 0 ≤ y := h.2.2.2.2.2.1
theorem zMo.sz {a0 b0 a b : qM} {c g y : Int} (h : zMo a0 b0 a b c g y) : a 111 1 = if y ≤ 240 then y else 240 := h.2.2.2.2.2.2.1
theorem zMo.tx {a0 b0 a b : qM} {c g y : Int} (h : zMo a0 b0 a b c g y) : ∀ i, 0 ≤ i → i < a 111 1 → a 112 i = b 154 i ∧ zChr (a 112 i) := h.2.2.2.2.2.2.2
section Parts
variable {X : Nat × (Nat → Int32)} {a b a0 b0 a1 b1 a' b' s : qM} {K : qM → Prop} {KI : Int → qM → Prop} {i j n m M M0 M1 M2 L1 L2 LL w w1 w2 v c g y x e f1 e1 f2 e2 : Int} {r1 t1 r2 t2 th rt x3 N3 : Nat}
theorem k_pair (hr : (r2 = 7 ∧ t2 = 1) ∨ (r2 = 96 ∧ t2 = 5)) (hq : q_isLines r2 t2 (r2 + 1) (r2 + 3)) (hx : (x3 = 107 ∨ x3 = 109)) (qx : q_isRow x3 241) (w1 : 1 ≤ w) (A0 : zLm a0 b0 91 3 0 M0 n) (B0 : zLm a0 b0 r2 t2 w M1 m)
    (h : ∀ a' b', zMw a' b' x3 w n n m → zMu a0 a' b0 b' x3 w → (∀ Kf : qM → Prop, Kf b' → c_m_takesTogether X w b0 Kf) → K a') : c_Pairing_pair X 91 r2 x3 a0 K := by
  have nb := A0.bd
  have mb := B0.bd
  have w0 := B0.w0
  have sA := A0.s
  refine sg_Pairing_pair q_lines_91 hq qx (k_fill hr hq A0 B0 (fun a1 b1 P W1 => sg_Lines_many q_lines_91 (k_Row_size q_lines_91.ends ?_)))
  rw [show a1 94 1 = n by rw [P.fa 94 (by omega)]; exact sA.2.1]
  refine k_Row_fill qx (by omega) (by omega) (fun a2 f2 g2 w2 => ?_)
  obtain ⟨b2, fb2, o2, z2, W2⟩ := k_mates (X := X) (w := w) (n := n) (m := m) ⟨w1, w0.2⟩ nb.2 n.toNat 0 b1 (by omega) (Int.le_refl 0) (fun q u x => by omega)
  refine k_walk hr hq hx qx w1 A0 B0 P (n + m).toNat 0 0 0 a2 b2 (by omega) (Int.le_refl 0) (by decide) (Int.le_refl 0) (Int.le_refl 0) (by omega) (by omega) f2 fb2 (zMw.mk g2 (fun k u z => by rw [w2 k u z, z2 k u z]) (fun k u z => by omega) (fun k u z => w2 k u z) (fun k k' u x z => by omega)) (fun a' b' j' Q l' g1 g3 g4 W3 => ?_)
  refine h a' b' (zMw.mk Q.sz Q.eq (fun k u z => ?_) Q.hi Q.mo) (zMu.mk (fun r u x z => by rw [g1 r x z, P.fa r u]) (fun r u x => by rw [g3 r x, P.fb r u]) (fun k hk => by rw [g4 k hk, o2 k hk, P.fb 160 (by decide)])) (fun Kf hk => W1 Kf (W2 Kf (W3 Kf hk)))
  rcases Q.lo k u z with q | q
  · exact Or.inl q
  · exact Or.inr ⟨q.1, by omega⟩
theorem k_areSame (h1 : q_isLines r1 t1 (r1 + 1) (r1 + 3)) (h2 : q_isLines r2 t2 (r2 + 1) (r2 + 3)) (A : zLm a b r1 t1 w1 M1 L1) (B : zLm a b r2 t2 w2 M2 L2) (x0 : 0 ≤ f1) (x1 : e1 ≤ L1) (x2 : f1 ≤ 1000) (x3 : -1 ≤ e1) (y0 : 0 ≤ f2) (y1 : e2 ≤ L2) (y2 : f2 ≤ 1000) (y3 : -1 ≤ e2) (hy : zPs a r1 t1 f1 e1 r2 t2 f2 e2 → KI 1 a) (hn : ¬ zPs a r1 t1 f1 e1 r2 t2 f2 e2 → KI 0 a) : c_Merger_areSame X r1 f1 e1 r2 f2 e2 a KI := by
  have bA := A.bd
  have bB := B.bd
  refine sg_Merger_areSame h1 h2 ⟨by omega, by omega, z_c (fun eq => ?_) (fun ne => hn (fun z => ne z.1))⟩
  have Lp : ∀ (c : Nat) (x : Int), e1 - f1 - x ≤ c → 0 ≤ x → (∀ y, 0 ≤ y → y < x → zEq a r1 t1 (f1 + y) r2 t2 (f2 + y)) → L_Merger_areSame_16 X r1 r2 f1 e1 f2 x a KI := by
    intro c
    induction c with
    | zero =>
      intro x hx x0' w
      exact sg_Merger_areSame_16 h1 h2 ⟨by omega, z_t (by omega) (hy ⟨eq, fun y u v => w y u (by omega)⟩)⟩
    | succ c ih =>
      intro x hx x0' w
      refine sg_Merger_areSame_16 h1 h2 ⟨by omega, z_c (fun le => hy ⟨eq, fun y u v => w y u (by omega)⟩) (fun gt => ⟨by omega, by omega, k_isSame h1 h2 A B (by omega) (by omega) (by omega) (by omega) (fun q => z_t (by decide) ⟨by omega, ih (x + 1) (by omega) (by omega) (fun y u v => ?_)⟩) (fun q => z_f (fun z => z rfl) (hn (fun z => q (z.2 x x0' (by omega)))))⟩)⟩
      by_cases z : y = x
      · rw [z]; exact q
      · exact w y u (by omega)
  exact Lp (e1 - f1).toNat 0 (by omega) (Int.le_refl 0) (fun y u v => by omega)
theorem k_m_isSamePart (A : zLm a b r1 t1 w1 M1 L1) (B : zLm a b r2 t2 w2 M2 L2) (x0 : 0 ≤ f1) (x1 : e1 ≤ L1) (x2 : f1 ≤ 1000) (x3 : -1 ≤ e1) (y0 : 0 ≤ f2) (y1 : e2 ≤ L2) (y2 : f2 ≤ 1000) (y3 : -1 ≤ e2) (hy : zPs a r1 t1 f1 e1 r2 t2 f2 e2 → KI 1 b) (hn : ¬ zPs a r1 t1 f1 e1 r2 t2 f2 e2 → KI 0 b) : c_m_isSamePart X w1 f1 e1 w2 f2 e2 b KI := by
  have bA := A.bd
  have bB := B.bd
  have wA := A.w0
  have wB := B.w0
  have Lp : ∀ (c : Nat) (x v : Int), e1 - f1 - x ≤ c → 0 ≤ x → ((v = 1 ∧ e1 - f1 = e2 - f2 ∧ ∀ y, 0 ≤ y → y < x → zEq a r1 t1 (f1 + y) r2 t2 (f2 + y)) ∨ (v = 0 ∧ ¬ zPs a r1 t1 f1 e1 r2 t2 f2 e2)) → L_m_isSamePart_21 X w1 f1 e1 w2 f2 v x b KI := by
    intro c
    induction c with
    | zero =>
      intro x v hx x0' h
      refine sg_m_isSamePart_21 ⟨by omega, z_t (by omega) ?_⟩
      rcases h with ⟨v1, eq, w⟩ | ⟨v0, nn⟩
      · rw [v1]; exact ⟨by decide, hy ⟨eq, fun y u v => w y u (by omega)⟩⟩
      · rw [v0]; exact ⟨by decide, hn nn⟩
    | succ c ih =>
      intro x v hx x0' h
      refine sg_m_isSamePart_21 ⟨by omega, z_c (fun le => ?_) (fun gt => ?_)⟩
      · rcases h with ⟨v1, eq, w⟩ | ⟨v0, nn⟩
        · rw [v1]; exact ⟨by decide, hy ⟨eq, fun y u v => w y u (by omega)⟩⟩
        · rw [v0]; exact ⟨by decide, hn nn⟩
      · rcases h with ⟨v1, eq, w⟩ | ⟨v0, nn⟩
        · rw [v1]
          refine z_f (by decide) ⟨by omega, by omega, by omega, by omega, by omega, by omega, k_m_isSame A B (l1 := f1 + x) (l2 := f2 + x) (by omega) (by omega) (by omega) (by omega) (fun q => ⟨by omega, ih (x + 1) 1 (by omega) (by omega) (Or.inl ⟨rfl, eq, fun y u z => ?_⟩)⟩) (fun q => ⟨by omega, ih (x + 1) 0 (by omega) (by omega) (Or.inr ⟨rfl, fun z => q (z.2 x x0' (by omega))⟩)⟩) (by omega) (by omega)⟩
          by_cases z2 : y = x
          · rw [z2]; exact q
          · exact w y u (by omega)
        · rw [v0]; exact z_t rfl ⟨by decide, hn nn⟩
  refine sg_m_isSamePart ⟨by omega, by omega, z_c (fun ne => Lp (e1 - f1).toNat 0 0 (by omega) (Int.le_refl 0) (Or.inr ⟨rfl, fun z => ne z.1⟩)) (fun eq => Lp (e1 - f1).toNat 0 1 (by omega) (Int.le_refl 0) (Or.inl ⟨rfl, Decidable.not_not.mp eq, fun y u z => by omega⟩))⟩
theorem zMo.put (O : zMo a0 b0 a b c g y) (hx : zChr x) (y8 : y < 800) (h : ∀ a', zMo a0 b0 a' (q_up (q_up b 154 y x) 113 63 (y + 1)) c g (y + 1) → K a') : c_Row_add X 111 x a (fun s3 => (-2147483648 ≤ ((s3 90 8) + 1) ∧ ((s3 90 8) + 1) < 2147483648) ∧ (∀ s4 : qM, s4 = q_up s3 90 8 ((s3 90 8) + 1) → K s4)) := by
  obtain ⟨l1, l2, l3⟩ := O.ln
  obtain ⟨c1, c2⟩ := O.ct
  have sz := O.sz
  have fin : ∀ a1 : qM, (∀ r, r ≠ 111 → r ≠ 112 → a1 r = a r) → a1 111 1 = (if y + 1 ≤ 240 then y + 1 else 240) → (∀ i, 0 ≤ i → i < a1 111 1 → a1 112 i = (q_up b 154 y x) 154 i ∧ zChr (a1 112 i)) → (-2147483648 ≤ ((a1 90 8) + 1) ∧ ((a1 90 8) + 1) < 2147483648) ∧ (∀ s4 : qM, s4 = q_up a1 90 8 ((a1 90 8) + 1) → K s4) := by
    intro a1 f1 s1 t1
    have e90 : a1 90 = a 90 := f1 90 (by decide) (by decide)
    rw [e90, l1]
    refine ⟨by omega, fun s4 e4 => h s4 ?_⟩
    refine zMo.mk (fun r u v z => by rw [e4, q_up_ne u, f1 r v z]; exact O.fa r u v z) (fun j u v => by rw [e4, q_up_nj v, e90]; exact O.fc j u v) (fun r u v => by rw [q_up_ne u, q_up_ne v]; exact O.fb r u v) (fun j u v => by rw [q_up_nj u, q_up_ne (by decide)]; exact O.fj j u v) ⟨by rw [e4, q_up_nj (by decide), e90]; exact c1, by rw [q_up_nj (by decide), q_up_ne (by decide)]; exact c2⟩ ⟨by rw [e4, q_up_at], by rw [q_up_at], by omega⟩ (by rw [e4, q_up_ne (by decide)]; exact s1) (fun i u v => ?_)
    rw [e4, q_up_ne (by decide)] at v ⊢
    rw [q_up_ne (by decide)]
    exact t1 i u v
  by_cases y2 : y < 240
  · rw [if_pos (by omega)] at sz
    refine k_Row_add q_row_111 (by omega) (by omega) ?_
    rw [sz]
    refine fin _ (fun r u v => by rw [q_up_ne u, q_up_ne v]) (by rw [q_up_at, if_pos (by omega)]) (fun i u v => ?_)
    rw [q_up_at] at v
    rw [q_up_ne (show (112 : Nat) ≠ 111 by decide)]
    by_cases z : i = y
    · rw [z, show q_up a (111 + 1) y x 112 y = x from q_up_at, q_up_at]; exact ⟨rfl, hx⟩
    · rw [show q_up a (111 + 1) y x 112 i = a 112 i from q_up_nj z, q_up_nj z]; exact O.tx i u (by omega)
  · have s240 : a 111 1 = 240 := by
      rw [sz]
      by_cases z : y ≤ 240
      · rw [if_pos z]; omega
      · rw [if_neg z]
    refine sg_Row_add q_row_111 (z_f (by omega) (z_t (by omega) (fin a (fun _ _ _ => rfl) (by rw [if_neg (by omega)]; exact s240) (fun i u v => ?_))))
    rw [q_up_nj (by omega)]; exact O.tx i u v
theorem zMo.lm (O : zMo a0 b0 a b c g y) {w' : Int} (A : zLm a0 b0 th rt w' M LL) (ht : (th < 86 ∨ (90 < th ∧ th < 107)) ∧ rt < 20) : zLm a b th rt w' M LL :=
  A.fr ⟨O.fa rt (by omega) (by omega) (by omega), O.fa (rt + 1) (by omega) (by omega) (by omega)⟩ ⟨O.fa (th + 1) (by omega) (by omega) (by omega), O.fa (th + 2) (by omega) (by omega) (by omega), O.fa (th + 3) (by omega) (by omega) (by omega), O.fa (th + 4) (by omega) (by omega) (by omega)⟩ ⟨O.fb 155 (by decide) (by decide), O.fb 156 (by decide) (by decide), O.fb 157 (by decide) (by decide), O.fb 158 (by decide) (by decide)⟩
theorem zWl.nx (A : zLm a b th rt w M LL) {l : Int} (l0 : 0 ≤ l) (lL : l < LL) : zWl a th M LL (l + 1) = zWl a th M LL l + (a (th + 4) l - a (th + 2) l + 1) := by
  obtain ⟨q1, q2, q3, q4, q5, q6⟩ := A.ln
  unfold zWl
  rw [if_pos lL]
  by_cases z : l + 1 < LL
  · rw [if_pos z, (q5 l l0 z).2]; omega
  · rw [if_neg z]
    rw [show LL - 1 = l by omega] at q6
    omega
theorem zWl.mono (A : zLm a b th rt w M LL) : ∀ (k : Nat) (l : Int), 0 ≤ l → l + k ≤ LL → zWl a th M LL l ≤ zWl a th M LL (l + k) := by
  intro k
  induction k with
  | zero => intro l _ _; rw [show l + ((0 : Nat) : Int) = l by omega]; exact Int.le_refl _
  | succ k ih =>
    intro l l0 lk
    have h := ih l l0 (by omega)
    have nx := zWl.nx A (l := l + k) (by omega) (by omega)
    have li := A.li (l := l + k) (by omega) (by omega)
    rw [show l + ((k + 1 : Nat) : Int) = l + k + 1 by omega, nx]
    omega
theorem k_mwChars {l : Int} (ht : (th < 86 ∨ (90 < th ∧ th < 107)) ∧ rt < 20) (hq : q_isLines th rt (th + 1) (th + 3)) (A0 : zLm a0 b0 th rt w M LL) (l0 : 0 ≤ l) (lL : l < LL) (c9 : 0 ≤ c ∧ c ≤ 10000) : ∀ (k : Nat) (p y : Int) (a b : qM), p + k = a0 (th + 4) l → a0 (th + 2) l ≤ p → zMo a0 b0 a b c 1 y → y + k ≤ 800 →
    (∀ a' b', zMo a0 b0 a' b' c 1 (y + k) → (∀ Kf : qM → Prop, L_m_takesLines_9 X w e (241 * w + l + 1) b' Kf → L_m_takesLines_63 X w e (241 * w + l) (240 * w + p) b Kf) → L_Merger_write_3 X th e (l + 1) (q_up a' 90 7 (c + 1)) K) → L_Merger_write_43 X th e l p a K := by
  have bd := A0.bd
  have mM := A0.m
  have w0 := A0.w0
  obtain ⟨li1, li2, li3⟩ := A0.li l0 lL
  intro k
  induction k with
  | zero =>
    intro p y a b hp hb O hy h
    rw [show y + ((0 : Nat) : Int) = y by omega] at h
    have A := O.lm A0 ht
    have sA := A.s
    have e4 : a (th + 4) l = a0 (th + 4) l := by rw [O.fa (th + 4) (by omega) (by omega) (by omega)]
    have e158 := (A.e l l0 lL).2
    refine sg_Merger_write_43 hq (sg_Lines_end hq (k_Row_at hq.ends (by omega) ?_))
    rw [zT_in l0 (by omega), show a (th + 3 + 1) l = a (th + 4) l from rfl, e4]
    refine z_t (by omega) ⟨by rw [O.ct.1]; omega, fun s3 e3 => ⟨by omega, ?_⟩⟩
    rw [e3, O.ct.1]
    exact h a b O (fun Kf hk => sg_m_takesLines_63 ⟨by omega, by omega, z_t (by rw [e158, e4]; omega) ⟨by omega, hk⟩⟩)
  | succ k ih =>
    intro p y a b hp hb O hy h
    have A := O.lm A0 ht
    have sA := A.s
    have e4 : a (th + 4) l = a0 (th + 4) l := by rw [O.fa (th + 4) (by omega) (by omega) (by omega)]
    have e158 := (A.e l l0 lL).2
    have tp := A.t p (by omega) (by omega)
    have mA := A.m
    refine sg_Merger_write_43 hq (sg_Lines_end hq (k_Row_at hq.ends (by omega) ?_))
    rw [zT_in l0 (by omega), show a (th + 3 + 1) l = a (th + 4) l from rfl, e4]
    refine z_f (by omega) (sg_Lines_characterAt hq (k_Row_at hq.text (by omega) ?_))
    rw [zT_in (by omega) (by omega)]
    refine O.put tp.2 (by omega) (fun a2 O2 => ⟨by omega, ?_⟩)
    refine ih (p + 1) (y + 1) a2 _ (by omega) (by omega) O2 (by omega) (fun a' b' O' W => ?_)
    rw [show y + 1 + (k : Int) = y + ((k + 1 : Nat) : Int) by omega] at O'
    refine h a' b' O' (fun Kf hk => ?_)
    have l2 := O.ln.2.1
    have l3 := O.ln.2.2
    refine sg_m_takesLines_63 ⟨by omega, by omega, z_f (by rw [e158, e4]; omega) ⟨by omega, by omega, by omega, by omega, fun s1 e1 => ?_⟩⟩
    rw [tp.1, l2] at e1
    have s63 : s1 113 63 = y := by rw [e1, q_up_ne (by decide)]; exact l2
    rw [s63]
    refine ⟨by omega, fun s2 e2 => ⟨by omega, ?_⟩⟩
    rw [e2, e1, show 240 * w + p + 1 = 240 * w + (p + 1) by omega]
    exact W Kf hk
theorem k_mwLines (ht : (th < 86 ∨ (90 < th ∧ th < 107)) ∧ rt < 20) (hq : q_isLines th rt (th + 1) (th + 3)) (A0 : zLm a0 b0 th rt w M LL) (eL : e ≤ LL) : ∀ (k : Nat) (l c g y : Int) (a b : qM), l + k = e → 0 ≤ l → zMo a0 b0 a b c g y → ((c = 0 ∧ g = 0) ∨ (0 < c ∧ g = 1)) → c ≤ y + 1 → y + (zWl a0 th M LL e - zWl a0 th M LL l) ≤ 800 →
    (∀ a' b' c' g' y', zMo a0 b0 a' b' c' g' y' → ((c' = 0 ∧ g' = 0) ∨ (0 < c' ∧ g' = 1)) → c' ≤ y' + 1 → y' ≤ y + (zWl a0 th M LL e - zWl a0 th M LL l) → (∀ Kf : qM → Prop, Kf b' → L_m_takesLines_9 X w e (241 * w + l) b Kf) → K a') → L_Merger_write_3 X th e l a K := by
  have bd := A0.bd
  have w0 := A0.w0
  intro k
  induction k with
  | zero =>
    intro l c g y a b hl l0 O hc cy hy h
    have el : l = e := by omega
    refine sg_Merger_write_3 hq (z_t (by omega) (h a b c g y O hc cy (by rw [el]; omega) (fun Kf hk => sg_m_takesLines_9 ⟨by omega, by omega, z_t (by omega) hk⟩)))
  | succ k ih =>
    intro l c g y a b hl l0 O hc cy hy h
    have lL : l < LL := by omega
    obtain ⟨li1, li2, li3⟩ := A0.li l0 lL
    have nx := zWl.nx A0 l0 lL
    have mo := zWl.mono A0 k (l + 1) (by omega) (by omega)
    rw [show l + 1 + (k : Int) = e by omega] at mo
    have ln := O.ln
    have A := O.lm A0 ht
    have sA := A.s
    have e2 : a (th + 2) l = a0 (th + 2) l := by rw [O.fa (th + 2) (by omega) (by omega) (by omega)]
    have e157 := (A.e l l0 lL).1
    have c90 := O.ct.1
    have g64 := O.ct.2
    -- behind the first line's break
    have next : ∀ (y2 : Int) (a2 b2 : qM), y ≤ y2 → y2 ≤ y + 1 → (c = 0 ∨ y2 = y + 1) → zMo a0 b0 a2 b2 c 1 y2 → (∀ Kf : qM → Prop, L_m_takesLines_63 X w e (241 * w + l) (240 * w + a0 (th + 2) l) b2 Kf → L_m_takesLines_9 X w e (241 * w + l) b Kf) → y2 + (a0 (th + 4) l - a0 (th + 2) l) ≤ 800 → y2 + (a0 (th + 4) l - a0 (th + 2) l) + (zWl a0 th M LL e - zWl a0 th M LL (l + 1)) ≤ 800 → L_Merger_write_43 X th e l (a0 (th + 2) l) a2 K := by
      intro y2 a2 b2 ya yb yc O2 W2 hy2 hy3
      refine k_mwChars ht hq A0 l0 lL (by omega) (a0 (th + 4) l - a0 (th + 2) l).toNat (a0 (th + 2) l) y2 a2 b2 (by omega) (Int.le_refl _) O2 (by omega) (fun a' b' O' W' => ?_)
      rw [show (((a0 (th + 4) l - a0 (th + 2) l).toNat : Nat) : Int) = a0 (th + 4) l - a0 (th + 2) l by omega] at O'
      have O3 : zMo a0 b0 (q_up a' 90 7 (c + 1)) b' (c + 1) 1 (y2 + (a0 (th + 4) l - a0 (th + 2) l)) := by
        refine zMo.mk (fun r u v z => by rw [q_up_ne u]; exact O'.fa r u v z) (fun j u v => by rw [q_up_nj u]; exact O'.fc j u v) O'.fb O'.fj ⟨q_up_at, O'.ct.2⟩ ⟨by rw [q_up_nj (by decide)]; exact O'.ln.1, O'.ln.2⟩ (by rw [q_up_ne (by decide)]; exact O'.sz) (by rw [q_up_ne (by decide), q_up_ne (by decide)]; exact O'.tx)
      refine ih (l + 1) (c + 1) 1 _ _ b' (by omega) (by omega) O3 (Or.inr ⟨by omega, rfl⟩) (by omega) (by omega) (fun a3 b3 c3 g3 y3 O4 hc4 cy4 hy4 W4 => h a3 b3 c3 g3 y3 O4 hc4 cy4 (by omega) (fun Kf hk => W2 Kf (W' Kf ?_)))
      rw [show 241 * w + l + 1 = 241 * w + (l + 1) by omega]; exact W4 Kf hk
    have begin_ : ∀ (a2 : qM) (F : Int → qM → Prop), (∀ r, r ≠ 90 → r ≠ 111 → r ≠ 112 → a2 r = a0 r) → F (a0 (th + 2) l) a2 → c_Lines_begin X th l a2 F := by
      intro a2 F fa hF
      have s1 : a2 (th + 1) 1 = LL := by rw [fa (th + 1) (by omega) (by omega) (by omega)]; exact A0.s.1
      refine sg_Lines_begin hq (k_Row_at hq.begins (by omega) ?_)
      rw [zT_in l0 (by omega), fa (th + 1 + 1) (by omega) (by omega) (by omega)]; exact hF
    refine sg_Merger_write_3 hq (z_f (by omega) ?_)
    rw [c90]
    rcases hc with ⟨c0, g0⟩ | ⟨cp, g1⟩
    · refine z_t (by omega) (begin_ a _ O.fa ?_)
      have O1 : zMo a0 b0 a (q_up b 113 64 1) c 1 y := by
        refine zMo.mk O.fa O.fc (fun r u v => by rw [q_up_ne u]; exact O.fb r u v) (fun j u v => by rw [q_up_nj v]; exact O.fj j u v) ⟨O.ct.1, q_up_at⟩ ⟨ln.1, by rw [q_up_nj (by decide)]; exact ln.2.1, ln.2.2⟩ O.sz (by rw [q_up_ne (by decide)]; exact O.tx)
      refine next y a _ (Int.le_refl y) (by omega) (Or.inl c0) O1 (fun Kf hk => sg_m_takesLines_9 ⟨by omega, by omega, z_f (by omega) (z_t (by omega) (fun s1 es1 => ⟨by omega, by omega, ?_⟩))⟩) (by omega) (by omega)
      rw [show s1 157 (241 * w + l) = 240 * w + a0 (th + 2) l by rw [es1, q_up_ne (by decide), e157, e2], es1]; exact hk
    · refine z_f (by omega) (O.put (Or.inl rfl) (by omega) (fun a2 O2 => begin_ a2 _ O2.fa ?_))
      have O3 : zMo a0 b0 a2 (q_up (q_up (q_up b 154 y 10) 113 63 (y + 1)) 113 64 1) c 1 (y + 1) := by
        refine zMo.mk O2.fa O2.fc (fun r u v => by rw [q_up_ne u]; exact O2.fb r u v) (fun j u v => by rw [q_up_nj v]; exact O2.fj j u v) ⟨O2.ct.1, q_up_at⟩ ⟨O2.ln.1, by rw [q_up_nj (by decide)]; exact O2.ln.2.1, O2.ln.2.2⟩ O2.sz (by rw [q_up_ne (by decide)]; exact O2.tx)
      refine next (y + 1) a2 _ (by omega) (Int.le_refl _) (Or.inr rfl) O3 (fun Kf hk => sg_m_takesLines_9 ⟨by omega, by omega, z_f (by omega) (z_f (by omega) ⟨by omega, by omega, fun s2 es2 => ?_⟩)⟩) (by omega) (by omega)
      rw [ln.2.1] at es2
      have s63 : s2 113 63 = y := by rw [es2, q_up_ne (by decide)]; exact ln.2.1
      rw [s63]
      refine ⟨by omega, fun s3 es3 s4 es4 => ⟨by omega, by omega, ?_⟩⟩
      rw [show s4 157 (241 * w + l) = 240 * w + a0 (th + 2) l by rw [es4, q_up_ne (by decide), es3, q_up_ne (by decide), es2, q_up_ne (by decide), e157, e2], es4, es3, es2]; exact hk
end Parts
