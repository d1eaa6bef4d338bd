/-! Merges: lines that are the same. -/
/-- the class's lines th, of the text rt, are the model's of text w -/
def zLm (a b : qM) (th rt : Nat) (w M LL : Int) : Prop := (0 ≤ w ∧ w ≤ 2) ∧ (a rt 1 = M ∧ 0 ≤ M ∧ M ≤ 240) ∧ (∀ i, 0 ≤ i → i < M → b 155 (240 * w + i) = a (rt + 1) i ∧ zChr (a (rt + 1) i)) ∧ (a (th + 1) 1 = LL ∧ a (th + 3) 1 = LL ∧ b 156 w = LL) ∧ (zLn (a (rt + 1)) M LL (a (th + 2)) (a (th + 4))) ∧ (∀ l, 0 ≤ l → l < LL → b 157 (241 * w + l) = 240 * w + a (th + 2) l ∧ b 158 (241 * w + l) = 240 * w + a (th + 4) l)
theorem zLm.mk {a b : qM} {th rt : Nat} {w M LL : Int} (w0 : 0 ≤ w ∧ w ≤ 2) (m : a rt 1 = M ∧ 0 ≤ M ∧ M ≤ 240) (t : ∀ i, 0 ≤ i → i < M → b 155 (240 * w + i) = a (rt + 1) i ∧ zChr (a (rt + 1) i)) (s : a (th + 1) 1 = LL ∧ a (th + 3) 1 = LL ∧ b 156 w = LL) (ln : zLn (a (rt + 1)) M LL (a (th + 2)) (a (th + 4))) (e : ∀ l, 0 ≤ l → l < LL → b 157 (241 * w + l) = 240 * w + a (th + 2) l ∧ b 158 (241 * w + l) = 240 * w + a (th + 4) l) : zLm a b th rt w M LL := ⟨w0, m, t, s, ln, e⟩
theorem zLm.w0 {a b : qM} {th rt : Nat} {w M LL : Int} (h : zLm a b th rt w M LL) : 0 ≤ w ∧ w ≤ 2 := h.1
theorem zLm.m {a b : qM} {th rt : Nat} {w M LL : Int} (h : zLm a b th rt w M LL) : a rt 1 = M ∧ 0 ≤ M ∧ M ≤ 240 := h.2.1
theorem zLm.t {a b : qM} {th rt : Nat} {w M LL : Int} (h : zLm a b th rt w M LL) : ∀ i, 0 ≤ i → i < M → b 155 (240 * w + i) = a (rt + 1) i ∧ zChr (a (rt + 1) i) := h.2.2.1
theorem zLm.s {a b : qM} {th rt : Nat} {w M LL : Int} (h : zLm a b th rt w M LL) : a (th + 1) 1 = LL ∧ a (th + 3) 1 = LL ∧ b 156 w = LL := h.2.2.2.1
theorem zLm.ln {a b : qM} {th rt : Nat} {w M LL : Int} (h : zLm a b th rt w M LL) : zLn (a (rt + 1)) M LL (a (th + 2)) (a (th + 4)) := h.2.2.2.2.1
theorem zLm.e {a b : qM} {th rt : Nat} {w M LL : Int} (h : zLm a b th rt w M LL) : ∀ l, 0 ≤ l → l < LL → b 157 (241 * w + l) = 240 * w + a (th + 2) l ∧ b 158 (241 * w + l) = 240 * w + a (th + 4) l := h.2.2.2.2.2
/-- two lines are the same -/
def zEq (a : qM) (r1 t1 : Nat) (l1 : Int) (r2 t2 : Nat) (l2 : Int) : Prop := a (r1 + 4) l1 - a (r1 + 2) l1 = a (r2 + 4) l2 - a (r2 + 2) l2 ∧ ∀ x, 0 ≤ x → x < a (r1 + 4) l1 - a (r1 + 2) l1 → a (t1 + 1) (a (r1 + 2) l1 + x) = a (t2 + 1) (a (r2 + 2) l2 + x)
section Same
variable {X : Nat × (Nat → Int32)} {a b a' b' : qM} {K : qM → Prop} {KI : Int → qM → Prop} {r1 t1 r2 t2 th rt : Nat} {w M LL w1 w2 M1 M2 L1 L2 l l1 l2 : Int}
theorem zLm.li (A : zLm a b th rt w M LL) (l0 : 0 ≤ l) (lL : l < LL) : 0 ≤ a (th + 2) l ∧ a (th + 2) l ≤ a (th + 4) l ∧ a (th + 4) l ≤ M := by
  have h := A.ln.2.2.2.1 l l0 lL
  have e := zEnd_is (t := a (rt + 1)) h.2.1
  rw [← h.2.2] at e
  exact ⟨h.1, e.1, e.2.1⟩
theorem zLm.bd (A : zLm a b th rt w M LL) : 1 ≤ LL ∧ LL ≤ 241 := by
  have h1 := A.ln.1
  have h2 := A.ln.2.1
  have m := A.m
  omega
theorem zLm.fr (A : zLm a b th rt w M LL) (ft : a' rt = a rt ∧ a' (rt + 1) = a (rt + 1)) (fl : a' (th + 1) = a (th + 1) ∧ a' (th + 2) = a (th + 2) ∧ a' (th + 3) = a (th + 3) ∧ a' (th + 4) = a (th + 4)) (fb : b' 155 = b 155 ∧ b' 156 = b 156 ∧ b' 157 = b 157 ∧ b' 158 = b 158) : zLm a' b' th rt w M LL := by
  obtain ⟨f1, f2⟩ := ft
  obtain ⟨g1, g2, g3, g4⟩ := fl
  obtain ⟨h1, h2, h3, h4⟩ := fb
  refine zLm.mk A.w0 ?_ ?_ ?_ ?_ ?_
  · rw [f1]; exact A.m
  · rw [f2, h1]; exact A.t
  · rw [g1, g3, h2]; exact A.s
  · rw [f2, g2, g4]; exact A.ln
  · rw [g2, g4, h3, h4]; exact A.e
theorem k_isSame (h1 : q_isLines r1 t1 (r1 + 1) (r1 + 3)) (h2 : q_isLines r2 t2 (r2 + 1) (r2 + 3)) (A : zLm a b r1 t1 w1 M1 L1) (B : zLm a b r2 t2 w2 M2 L2) (x0 : 0 ≤ l1) (x1 : l1 < L1) (y0 : 0 ≤ l2) (y1 : l2 < L2) (hy : zEq a r1 t1 l1 r2 t2 l2 → KI 1 a) (hn : ¬ zEq a r1 t1 l1 r2 t2 l2 → KI 0 a) : c_Lines_isSame X r1 l1 r2 l2 a KI := by
  obtain ⟨p1, p2, p3⟩ := A.li x0 x1
  obtain ⟨q1, q2, q3⟩ := B.li y0 y1
  have mA := A.m
  have mB := B.m
  have sA := A.s
  have sB := B.s
  have LA := A.bd
  have LB := B.bd
  have Lp : ∀ (c : Nat) (x : Int), x + c = a (r1 + 4) l1 - a (r1 + 2) l1 → 0 ≤ x → a (r1 + 4) l1 - a (r1 + 2) l1 = a (r2 + 4) l2 - a (r2 + 2) l2 → (∀ y, 0 ≤ y → y < x → a (t1 + 1) (a (r1 + 2) l1 + y) = a (t2 + 1) (a (r2 + 2) l2 + y)) → L_Lines_isSame_48 X r1 r2 (a (r1 + 2) l1) (a (r2 + 2) l2) (a (r1 + 4) l1 - a (r1 + 2) l1) x a KI := by
    intro c
    induction c with
    | zero =>
      intro x hx x0 e w
      exact sg_Lines_isSame_48 h1 h2 (z_t (by omega) (hy ⟨e, fun y u v => w y u (by omega)⟩))
    | succ c ih =>
      intro x hx x0 e w
      refine sg_Lines_isSame_48 h1 h2 (z_f (by omega) ⟨by omega, k_Row_at h1.text (by omega) ?_⟩)
      rw [zT_in (by omega) (by omega)]
      refine ⟨by omega, sg_Lines_characterAt h2 (k_Row_at h2.text (by omega) ?_)⟩
      rw [zT_in (by omega) (by omega)]
      refine z_c (fun eq => ⟨by omega, ih (x + 1) (by omega) (by omega) e (fun y u v => ?_)⟩) (fun ne => hn (fun z => ne (z.2 x x0 (by omega))))
      by_cases z : y = x
      · rw [z]; exact eq
      · exact w y u (by omega)
  refine sg_Lines_isSame h1 h2 (k_Row_at h1.begins (by omega) ?_)
  rw [zT_in x0 (by omega), show a (r1 + 1 + 1) l1 = a (r1 + 2) l1 from rfl]
  refine sg_Lines_begin h2 (k_Row_at h2.begins (by omega) ?_)
  rw [zT_in y0 (by omega), show a (r2 + 1 + 1) l2 = a (r2 + 2) l2 from rfl]
  refine k_Row_at h1.ends (by omega) ?_
  rw [zT_in x0 (by omega), show a (r1 + 3 + 1) l1 = a (r1 + 4) l1 from rfl]
  refine ⟨by omega, sg_Lines_end h2 (k_Row_at h2.ends (by omega) ?_)⟩
  rw [zT_in y0 (by omega), show a (r2 + 3 + 1) l2 = a (r2 + 4) l2 from rfl]
  refine ⟨by omega, z_c (fun e => ?_) (fun ne => hn (fun z => ne z.1.symm))⟩
  exact Lp (a (r1 + 4) l1 - a (r1 + 2) l1).toNat 0 (by omega) (Int.le_refl 0) e.symm (fun y u v => by omega)
theorem k_m_isSame (A : zLm a b r1 t1 w1 M1 L1) (B : zLm a b r2 t2 w2 M2 L2) (x0 : 0 ≤ l1) (x1 : l1 < L1) (y0 : 0 ≤ l2) (y1 : l2 < L2) (hy : zEq a r1 t1 l1 r2 t2 l2 → KI 1 b) (hn : ¬ zEq a r1 t1 l1 r2 t2 l2 → KI 0 b) {p q : Int} (hp : p = 241 * w1 + l1) (hq : q = 241 * w2 + l2) : c_m_isSameLine X p q b KI := by
  obtain ⟨p1, p2, p3⟩ := A.li x0 x1
  obtain ⟨q1, q2, q3⟩ := B.li y0 y1
  have mA := A.m
  have mB := B.m
  have LA := A.bd
  have LB := B.bd
  have wA := A.w0
  have wB := B.w0
  obtain ⟨e1, e2⟩ := A.e l1 x0 x1
  obtain ⟨f1, f2⟩ := B.e l2 y0 y1
  rw [← hp] at e1 e2
  rw [← hq] at f1 f2
  have Lp : ∀ (c : Nat) (x v : Int), x + c = a (r1 + 4) l1 - a (r1 + 2) l1 → 0 ≤ x → ((v = 1 ∧ a (r1 + 4) l1 - a (r1 + 2) l1 = a (r2 + 4) l2 - a (r2 + 2) l2 ∧ ∀ y, 0 ≤ y → y < x → a (t1 + 1) (a (r1 + 2) l1 + y) = a (t2 + 1) (a (r2 + 2) l2 + y)) ∨ (v = 0 ∧ ¬ zEq a r1 t1 l1 r2 t2 l2)) → L_m_isSameLine_38 X p q v x b KI := by
    intro c
    induction c with
    | zero =>
      intro x v hx x0 h
      refine sg_m_isSameLine_38 ⟨by omega, by omega, by omega, by omega, by rw [e1, e2]; omega, z_t (by rw [e1, e2]; omega) ?_⟩
      rcases h with ⟨v1, e, w⟩ | ⟨v0, n⟩
      · rw [v1]; exact ⟨by decide, hy ⟨e, fun y u z => w y u (by omega)⟩⟩
      · rw [v0]; exact ⟨by decide, hn n⟩
    | succ c ih =>
      intro x v hx x0 h
      refine sg_m_isSameLine_38 ⟨by omega, by omega, by omega, by omega, by rw [e1, e2]; omega, z_f (by rw [e1, e2]; omega) ?_⟩
      rcases h with ⟨v1, e, w⟩ | ⟨v0, n⟩
      · rw [v1]
        have tA := (A.t (a (r1 + 2) l1 + x) (by omega) (by omega)).1
        have tB := (B.t (a (r2 + 2) l2 + x) (by omega) (by omega)).1
        refine z_f (by decide) ⟨by omega, by omega, by rw [e1]; omega, by rw [e1]; omega, by rw [e1]; omega, by omega, by omega, by rw [f1]; omega, by rw [f1]; omega, by rw [f1]; omega, ?_⟩
        rw [e1, f1, show 240 * w1 + a (r1 + 2) l1 + x = 240 * w1 + (a (r1 + 2) l1 + x) by omega, show 240 * w2 + a (r2 + 2) l2 + x = 240 * w2 + (a (r2 + 2) l2 + x) by omega, tA, tB]
        refine z_c (fun ne => ⟨by omega, ih (x + 1) 0 (by omega) (by omega) (Or.inr ⟨rfl, fun z => ne (z.2 x x0 (by omega))⟩)⟩) (fun eq => ⟨by omega, ih (x + 1) 1 (by omega) (by omega) (Or.inl ⟨rfl, e, fun y u z => ?_⟩)⟩)
        by_cases yx : y = x
        · rw [yx]; exact Decidable.not_not.mp eq
        · exact w y u (by omega)
      · rw [v0]; exact z_t rfl ⟨by decide, hn n⟩
  refine sg_m_isSameLine ⟨by omega, by omega, by omega, by omega, by rw [e1, e2]; omega, by omega, by omega, by omega, by omega, by rw [f1, f2]; omega, ?_⟩
  rw [e1, e2, f1, f2]
  refine z_c (fun ne => ?_) (fun eq => ?_)
  · exact Lp (a (r1 + 4) l1 - a (r1 + 2) l1).toNat 0 0 (by omega) (Int.le_refl 0) (Or.inr ⟨rfl, fun z => ne (by have := z.1; omega)⟩)
  · exact Lp (a (r1 + 4) l1 - a (r1 + 2) l1).toNat 0 1 (by omega) (Int.le_refl 0) (Or.inl ⟨rfl, by have := Decidable.not_not.mp eq; omega, fun y u z => by omega⟩)
end Same
