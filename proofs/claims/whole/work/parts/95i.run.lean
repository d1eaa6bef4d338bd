/-! Merges: the loop over the lines of slot 0. -/
/-- at line k of slot 0; a1 and b1 behind the pairings -/
def zMq (a1 b1 a b : qM) (M0 M1 M2 n m1 m2 k v1 v2 v3 v4 c g y : Int) : Prop := (∀ r, r ≠ 90 → r ≠ 111 → r ≠ 112 → a r = a1 r) ∧ (∀ r, r ≠ 113 → r ≠ 154 → b r = b1 r) ∧ (∀ j, j ≠ 63 → j ≠ 64 → b 113 j = b1 113 j) ∧ (a 90 9 = v1 ∧ a 90 10 = v2 ∧ a 90 11 = v3 ∧ a 90 12 = v4) ∧ (zMo a b a b c g y) ∧ ((c = 0 ∧ g = 0) ∨ (0 < c ∧ g = 1)) ∧ (c ≤ y + 1) ∧ (0 ≤ v1 ∧ v1 ≤ k ∧ 0 ≤ v2 ∧ v2 ≤ k ∧ 0 ≤ v3 ∧ v3 ≤ m1 ∧ 0 ≤ v4 ∧ v4 ≤ m2) ∧ (y ≤ zWl a1 91 M0 n v2 + zWl a1 7 M1 m1 v3 + zWl a1 96 M2 m2 v4) ∧ (∀ q, k ≤ q → q < n → a1 108 q ≠ -1 → a1 110 q ≠ -1 → v3 ≤ a1 108 q ∧ v4 ≤ a1 110 q)
theorem zMq.mk {a1 b1 a b : qM} {M0 M1 M2 n m1 m2 k v1 v2 v3 v4 c g y : Int} (fa : ∀ r, r ≠ 90 → r ≠ 111 → r ≠ 112 → a r = a1 r) (fb : ∀ r, r ≠ 113 → r ≠ 154 → b r = b1 r) (fj : ∀ j, j ≠ 63 → j ≠ 64 → b 113 j = b1 113 j) (vs : a 90 9 = v1 ∧ a 90 10 = v2 ∧ a 90 11 = v3 ∧ a 90 12 = v4) (O : zMo a b a b c g y) (hc : (c = 0 ∧ g = 0) ∨ (0 < c ∧ g = 1)) (cy : c ≤ y + 1) (b0 : 0 ≤ v1 ∧ v1 ≤ k ∧ 0 ≤ v2 ∧ v2 ≤ k ∧ 0 ≤ v3 ∧ v3 ≤ m1 ∧ 0 ≤ v4 ∧ v4 ≤ m2) (yb : y ≤ zWl a1 91 M0 n v2 + zWl a1 7 M1 m1 v3 + zWl a1 96 M2 m2 v4) (nx : ∀ q, k ≤ q → q < n → a1 108 q ≠ -1 → a1 110 q ≠ -1 → v3 ≤ a1 108 q ∧ v4 ≤ a1 110 q) : zMq a1 b1 a b M0 M1 M2 n m1 m2 k v1 v2 v3 v4 c g y := ⟨fa, fb, fj, vs, O, hc, cy, b0, yb, nx⟩
theorem zMq.fa {a1 b1 a b : qM} {M0 M1 M2 n m1 m2 k v1 v2 v3 v4 c g y : Int} (h : zMq a1 b1 a b M0 M1 M2 n m1 m2 k v1 v2 v3 v4 c g y) : ∀ r, r ≠ 90 → r ≠ 111 → r ≠ 112 → a r = a1 r := h.1
theorem zMq.fb {a1 b1 a b : qM} {M0 M1 M2 n m1 m2 k v1 v2 v3 v4 c g y : Int} (h : zMq a1 b1 a b M0 M1 M2 n m1 m2 k v1 v2 v3 v4 c g y) : ∀ r, r ≠ 113 → r ≠ 154 → b r = b1 r := h.2.1
theorem zMq.fj {a1 b1 a b : qM} {M0 M1 M2 n m1 m2 k v1 v2 v3 v4 c g y : Int} (h : zMq a1 b1 a b M0 M1 M2 n m1 m2 k v1 v2 v3 v4 c g y) : ∀ j, j ≠ 63 → j ≠ 64 → b 113 j = b1 113 j := h.2.2.1
theorem zMq.vs {a1 b1 a b : qM} {M0 M1 M2 n m1 m2 k v1 v2 v3 v4 c g y : Int} (h : zMq a1 b1 a b M0 M1 M2 n m1 m2 k v1 v2 v3 v4 c g y) : a 90 9 = v1 ∧ a 90 10 = v2 ∧ a 90 11 = v3 ∧ a 90 12 = v4 := h.2.2.2.1
theorem zMq.O {a1 b1 a b : qM} {M0 M1 M2 n m1 m2 k v1 v2 v3 v4 c g y : Int} (h : zMq a1 b1 a b M0 M1 M2 n m1 m2 k v1 v2 v3 v4 c g y) : zMo a b a b c g y := h.2.2.2.2.1
theorem zMq.hc {a1 b1 a b : qM} {M0 M1 M2 n m1 m2 k v1 v2 v3 v4 c g y : Int} (h : zMq a1 b1 a b M0 M1 M2 n m1 m2 k v1 v2 v3 v4 c g y) : (c = 0 ∧ g = 0) ∨ (0 < c ∧ g = 1) := h.2.2.2.2.2.1
theorem zMq.cy {a1 b1 a b : qM} {M0 M1 M2 n m1 m2 k v1 v2 v3 v4 c g y : Int} (h : zMq a1 b1 a b M0 M1 M2 n m1 m2 k v1 v2 v3 v4 c g y) : c ≤ y + 1 := h.2.2.2.2.2.2.1
theorem zMq.b0 {a1 b1 a b : qM} {M0 M1 M2 n m1 m2 k v1 v2 v3 v4 c g y : Int} (h : zMq a1 b1 a b M0 M1 M2 n m1 m2 k v1 v2 v3 v4 c g y) : 0 ≤ v1 ∧ v1 ≤ k ∧ 0 ≤ v2 ∧ v2 ≤ k ∧ 0 ≤ v3 ∧ v3 ≤ m1 ∧ 0 ≤ v4 ∧ v4 ≤ m2 := h.2.2.2.2.2.2.2.1
theorem zMq.yb {a1 b1 a b : qM} {M0 M1 M2 n m1 m2 k v1 v2 v3 v4 c g y : Int} (h : zMq a1 b1 a b M0 M1 M2 n m1 m2 k v1 v2 v3 v4 c g y) : y ≤ zWl a1 91 M0 n v2 + zWl a1 7 M1 m1 v3 + zWl a1 96 M2 m2 v4 := h.2.2.2.2.2.2.2.2.1
theorem zMq.nx {a1 b1 a b : qM} {M0 M1 M2 n m1 m2 k v1 v2 v3 v4 c g y : Int} (h : zMq a1 b1 a b M0 M1 M2 n m1 m2 k v1 v2 v3 v4 c g y) : ∀ q, k ≤ q → q < n → a1 108 q ≠ -1 → a1 110 q ≠ -1 → v3 ≤ a1 108 q ∧ v4 ≤ a1 110 q := h.2.2.2.2.2.2.2.2.2
/-- how the model ends -/
def zMe (X : Nat × (Nat → Int32)) (b : qM) (v1 : Int) (KI : Int → qM → Prop) : Prop := ((v1 ≤ 0) → ((((b 113 63) ≤ 240) → (∀ s1 : qM, s1 = q_up b 113 0 (b 113 63) → L_m_merge_334 X 0 s1 KI)) ∧ (¬ ((b 113 63) ≤ 240) → KI (-2) b))) ∧ (¬ (v1 ≤ 0) → KI v1 b)
section Run
variable {X : Nat × (Nat → Int32)} {a b a1 b1 a' b' s : qM} {K : qM → Prop} {KI : Int → qM → Prop} {n m1 m2 M0 M1 M2 k v1 v2 v3 v4 c g y : Int}
theorem zWl.eq2 {th : Nat} {M LL l : Int} (e : a (th + 2) = a1 (th + 2)) : zWl a th M LL l = zWl a1 th M LL l := by unfold zWl; rw [e]
theorem zMq.lm0 (Q : zMq a1 b1 a b M0 M1 M2 n m1 m2 k v1 v2 v3 v4 c g y) {th rt : Nat} {w M LL : Int} (A : zLm a1 b1 th rt w M LL) (ht : (th < 86 ∨ (90 < th ∧ th < 107)) ∧ rt < 20) : zLm a b th rt w M LL :=
  A.fr ⟨Q.fa rt (by omega) (by omega) (by omega), Q.fa (rt + 1) (by omega) (by omega) (by omega)⟩ ⟨Q.fa (th + 1) (by omega) (by omega) (by omega), Q.fa (th + 2) (by omega) (by omega) (by omega), Q.fa (th + 3) (by omega) (by omega) (by omega), Q.fa (th + 4) (by omega) (by omega) (by omega)⟩ ⟨Q.fb 155 (by decide) (by decide), Q.fb 156 (by decide) (by decide), Q.fb 157 (by decide) (by decide), Q.fb 158 (by decide) (by decide)⟩
theorem zWl.top {th rt : Nat} {w M LL : Int} (A : zLm a1 b1 th rt w M LL) {l : Int} (l0 : 0 ≤ l) (lL : l ≤ LL) : 0 ≤ zWl a1 th M LL l ∧ zWl a1 th M LL l ≤ M + 1 := by
  have m := A.m
  unfold zWl
  by_cases z : l < LL
  · rw [if_pos z]
    have li := A.li l0 z
    omega
  · rw [if_neg z]; omega
theorem k_startBehind {p q r : Int} (hp : -1 ≤ p ∧ p ≤ 1000) (hq : -1 ≤ q ∧ q ≤ 1000) (hr : -1 ≤ r ∧ r ≤ 1000) (h : ∀ a', (∀ r, r ≠ 90 → a' r = a r) → (∀ j, j ≠ 10 → j ≠ 11 → j ≠ 12 → a' 90 j = a 90 j) → a' 90 10 = p + 1 → a' 90 11 = q + 1 → a' 90 12 = r + 1 → K a') : c_Merger_startBehind X p q r a K := by
  refine sg_Merger_startBehind ⟨by omega, fun s1 e1 => ⟨by omega, fun s2 e2 => ⟨by omega, fun s3 e3 => h s3 (fun q u => ?_) (fun j x y z => ?_) ?_ ?_ ?_⟩⟩⟩
  · rw [e3, q_up_ne u, e2, q_up_ne u, e1, q_up_ne u]
  · rw [e3, q_up_nj z, e2, q_up_nj y, e1, q_up_nj x]
  · rw [e3, q_up_nj (by decide), e2, q_up_nj (by decide), e1, q_up_at]
  · rw [e3, q_up_nj (by decide), e2, q_up_at]
  · rw [e3, q_up_at]
theorem k_run (A0 : zLm a1 b1 91 3 0 M0 n) (A1 : zLm a1 b1 7 1 1 M1 m1) (A2 : zLm a1 b1 96 5 2 M2 m2) (W1 : zMw a1 b1 107 1 n n m1) (W2 : zMw a1 b1 109 2 n n m2) : ∀ (cn : Nat) (k v1 v2 v3 v4 c g y : Int) (a b : qM), k + cn = n → 0 ≤ k → zMq a1 b1 a b M0 M1 M2 n m1 m2 k v1 v2 v3 v4 c g y →
    (∀ a' b' v1' c' g' y', (∀ r, r ≠ 90 → r ≠ 111 → r ≠ 112 → a' r = a1 r) → a' 90 9 = v1' → 0 ≤ v1' → (∀ r, r ≠ 113 → r ≠ 154 → b' r = b1 r) → (∀ j, j ≠ 63 → j ≠ 64 → b' 113 j = b1 113 j) → zMo a' b' a' b' c' g' y' → (∀ KI : Int → qM → Prop, zMe X b' v1' KI → L_m_merge_131 X v1 v2 v3 v4 k b KI) → K a') → L_Merger_run_90 X k a K := by
  have bd0 := A0.bd
  have bd1 := A1.bd
  have bd2 := A2.bd
  have t0 := A0.m
  have t1 := A1.m
  have t2 := A2.m
  intro cn
  induction cn with
  | zero =>
    intro k v1 v2 v3 v4 c g y a b hk k0 Q h
    have ek : k = n := by omega
    obtain ⟨q1, q2, q3, q4⟩ := Q.vs
    obtain ⟨p1, p2, p3, p4, p5, p6, p7, p8⟩ := Q.b0
    have B0 := Q.lm0 A0 (by omega)
    have B1 := Q.lm0 A1 (by omega)
    have B2 := Q.lm0 A2 (by omega)
    have w1 : ∀ l, zWl a 7 M1 m1 l = zWl a1 7 M1 m1 l := fun l => zWl.eq2 (Q.fa 9 (by decide) (by decide) (by decide))
    have w2 : ∀ l, zWl a 96 M2 m2 l = zWl a1 96 M2 m2 l := fun l => zWl.eq2 (Q.fa 98 (by decide) (by decide) (by decide))
    have z0 := zWl.top A0 p3 (by omega)
    have z1 := zWl.top A1 p5 p6
    have z2 := zWl.top A2 p7 p8
    have y1 := zWl.top A1 (l := m1) (by omega) (Int.le_refl _)
    have y2 := zWl.top A2 (l := m2) (by omega) (Int.le_refl _)
    have yb := Q.yb
    have s0 := B0.s
    have s1 := B1.s
    have s2 := B2.s
    refine sg_Merger_run_90 (sg_Lines_many q_lines_91 (k_Row_size q_lines_91.ends (z_t (by show a 94 1 ≤ k; have : a 94 1 = n := s0.2.1; omega) (sg_Lines_many q_lines_91 (k_Row_size q_lines_91.ends (sg_Lines_many q_lines_7 (k_Row_size q_lines_7.ends (sg_Lines_many q_lines_96 (k_Row_size q_lines_96.ends ?_)))))))))
    rw [show a 94 1 = n from s0.2.1, show a 10 1 = m1 from s1.2.1, show a 99 1 = m2 from s2.2.1]
    refine k_settle Q.O Q.hc Q.cy B0 B1 B2 q2 q3 q4 (by omega) ⟨p3, by omega, Int.le_refl n⟩ ⟨p5, p6, Int.le_refl _⟩ ⟨p7, p8, Int.le_refl _⟩ (by rw [w1, w1]; omega) (by rw [w2, w2]; omega) (fun a' b' c' g' y' r S hr O' hc' cy' hy' W => ?_)
    refine h a' b' (v1 + r) c' g' y' (fun q u x z => by rw [S.fa q u x z]; exact Q.fa q u x z) (by rw [S.c9, q1]) (by omega) (fun q u x => by rw [S.fb q u x]; exact Q.fb q u x) (fun j u x => by rw [S.fj j u x]; exact Q.fj j u x) O' (fun KI he => ?_)
    have e156 : b 156 0 = n := s0.2.2
    have e156' : b' 156 = b 156 := S.fb 156 (by decide) (by decide)
    have lst : ∀ t : Int, t = r → L_m_merge_264 X k 1 m1 m2 v1 t b' KI := by
      intro t et
      refine sg_m_merge_264 ⟨by omega, z_t (by decide) ⟨by omega, by omega, by omega, by omega, sg_m_merge_131 (z_t (by rw [e156']; omega) ?_)⟩⟩
      rw [et]; exact he
    refine sg_m_merge_131 (z_f (by omega) (z_f (by omega) (sg_m_merge_158 (z_t (by decide) (z_f (by decide) (sg_m_merge_212 (z_f (by decide) ?_)))))))
    rw [show b 156 1 = m1 from s1.2.2, show b 156 2 = m2 from s2.2.2, ek]
    rw [ek] at lst
    exact W _ (z_c (fun z => lst 0 z.symm) (fun z => lst 1 (by omega)))
  | succ cn ih =>
    intro k v1 v2 v3 v4 c g y a b hk k0 Q h
    have kn : k < n := by omega
    obtain ⟨q1, q2, q3, q4⟩ := Q.vs
    obtain ⟨p1, p2, p3, p4, p5, p6, p7, p8⟩ := Q.b0
    have B0 := Q.lm0 A0 (by omega)
    have B1 := Q.lm0 A1 (by omega)
    have B2 := Q.lm0 A2 (by omega)
    have s0 := B0.s
    have e156 : b 156 0 = n := s0.2.2
    have z107 : a 107 1 = n := by rw [Q.fa 107 (by decide) (by decide) (by decide)]; exact W1.sz
    have z109 : a 109 1 = n := by rw [Q.fa 109 (by decide) (by decide) (by decide)]; exact W2.sz
    have i1 := W1.eq k k0 kn
    have i2 := W2.eq k k0 kn
    have l1 := W1.lo k k0 kn
    have l2 := W2.lo k k0 kn
    rw [show a1 (107 + 1) k = a1 108 k from rfl] at i1 l1
    rw [show a1 (109 + 1) k = a1 110 k from rfl] at i2 l2
    rw [show 241 * ((1 : Int) - 1) + k = k by omega] at i1
    rw [show 241 * ((2 : Int) - 1) + k = 241 + k by omega] at i2
    have b160 : b 160 = b1 160 := Q.fb 160 (by decide) (by decide)
    have e1 : b 160 k = a1 108 k := by rw [b160]; exact i1.symm
    have e2 : b 160 (241 + k) = a1 110 k := by rw [b160]; exact i2.symm
    -- no firm line
    have skip : (a1 108 k = -1 ∨ a1 110 k = -1) → L_Merger_run_90 X (k + 1) a K := by
      intro hs
      refine ih (k + 1) v1 v2 v3 v4 c g y a b (by omega) (by omega) (zMq.mk Q.fa Q.fb Q.fj Q.vs Q.O Q.hc Q.cy ⟨p1, by omega, p3, by omega, p5, p6, p7, p8⟩ Q.yb (fun q u x => Q.nx q (by omega) x)) (fun a' b' v1' c' g' y' f1 f2 f3 f4 f5 O' W => h a' b' v1' c' g' y' f1 f2 f3 f4 f5 O' (fun KI he => ?_))
      refine sg_m_merge_131 (z_f (by omega) (z_t (by omega) (sg_m_merge_158 (z_f (fun z => z rfl) ⟨k0, by omega, ?_⟩))))
      rw [e1]
      refine z_c (fun _ => ⟨by omega, W KI he⟩) (fun n1 => ⟨by omega, by omega, by omega, ?_⟩)
      rw [e2]
      exact z_t (hs.resolve_left n1) ⟨by omega, W KI he⟩
    refine sg_Merger_run_90 (sg_Lines_many q_lines_91 (k_Row_size q_lines_91.ends (z_f (by show ¬ a 94 1 ≤ k; have : a 94 1 = n := s0.2.1; omega) (k_Row_at q_row_107 (by omega) (k_Row_at q_row_109 (by omega) ?_)))))
    rw [zT_in k0 (by omega), zT_in k0 (by omega), show a (107 + 1) k = a1 108 k by rw [show a (107 + 1) = a1 108 from Q.fa 108 (by decide) (by decide) (by decide)], show a (109 + 1) k = a1 110 k by rw [show a (109 + 1) = a1 110 from Q.fa 110 (by decide) (by decide) (by decide)]]
    refine z_c (fun z => ⟨by omega, skip (Or.inl z)⟩) (fun n1 => z_c (fun z => ⟨by omega, skip (Or.inr z)⟩) (fun n2 => ?_))
    have l1 := l1.resolve_left n1
    have l2 := l2.resolve_left n2
    have nx := Q.nx k (Int.le_refl k) kn n1 n2
    generalize ep : a1 108 k = p at *
    generalize eq : a1 110 k = q at *
    have w0 : ∀ (a2 : qM), (∀ r, r ≠ 90 → r ≠ 111 → r ≠ 112 → a2 r = a1 r) → ∀ l, zWl a2 91 M0 n l = zWl a1 91 M0 n l := fun a2 f l => zWl.eq2 (f 93 (by decide) (by decide) (by decide))
    have w1 : ∀ l, zWl a 7 M1 m1 l = zWl a1 7 M1 m1 l := fun l => zWl.eq2 (Q.fa 9 (by decide) (by decide) (by decide))
    have w2 : ∀ l, zWl a 96 M2 m2 l = zWl a1 96 M2 m2 l := fun l => zWl.eq2 (Q.fa 98 (by decide) (by decide) (by decide))
    have z0 := zWl.top A0 p3 (by omega)
    have z1 := zWl.top A1 p5 p6
    have z2 := zWl.top A2 p7 p8
    have y1 := zWl.top A1 (l := p) l1.1 (by omega)
    have y2 := zWl.top A2 (l := q) l2.1 (by omega)
    have yb := Q.yb
    have mo0 := zWl.mono A0 (k - v2).toNat v2 p3 (by omega)
    have mo1 := zWl.mono A1 (p - v3).toNat v3 p5 (by omega)
    have mo2 := zWl.mono A2 (q - v4).toNat v4 p7 (by omega)
    rw [show v2 + (((k - v2).toNat : Nat) : Int) = k by omega] at mo0
    rw [show v3 + (((p - v3).toNat : Nat) : Int) = p by omega] at mo1
    rw [show v4 + (((q - v4).toNat : Nat) : Int) = q by omega] at mo2
    have n0 := zWl.nx A0 k0 kn
    have n1' := zWl.nx A1 l1.1 l1.2
    have n2' := zWl.nx A2 l2.1 l2.2
    have i0 := A0.li k0 kn
    have j1 := A1.li l1.1 l1.2
    have j2 := A2.li l2.1 l2.2
    have zk := zWl.top A0 (l := k + 1) (by omega) (by omega)
    refine k_settle Q.O Q.hc Q.cy B0 B1 B2 q2 q3 q4 (by omega) ⟨p3, by omega, by omega⟩ ⟨p5, nx.1, by omega⟩ ⟨p7, nx.2, by omega⟩ (by rw [w1, w1]; omega) (by rw [w2, w2]; omega) (fun a2 b2 c2 g2 y2' r S hr O2 hc2 cy2 hy2 W => ⟨by omega, ?_⟩)
    rw [w1, w1, w2, w2] at hy2
    have fa2 : ∀ r, r ≠ 90 → r ≠ 111 → r ≠ 112 → a2 r = a1 r := fun r u x z => by rw [S.fa r u x z]; exact Q.fa r u x z
    have fb2 : ∀ r, r ≠ 113 → r ≠ 154 → b2 r = b1 r := fun r u x => by rw [S.fb r u x]; exact Q.fb r u x
    have C0 : zLm a2 b2 91 3 0 M0 n := A0.fr ⟨fa2 3 (by decide) (by decide) (by decide), fa2 4 (by decide) (by decide) (by decide)⟩ ⟨fa2 92 (by decide) (by decide) (by decide), fa2 93 (by decide) (by decide) (by decide), fa2 94 (by decide) (by decide) (by decide), fa2 95 (by decide) (by decide) (by decide)⟩ ⟨fb2 155 (by decide) (by decide), fb2 156 (by decide) (by decide), fb2 157 (by decide) (by decide), fb2 158 (by decide) (by decide)⟩
    have y2b : y2' + (zWl a1 91 M0 n (k + 1) - zWl a1 91 M0 n k) ≤ zWl a1 91 M0 n (k + 1) + zWl a1 7 M1 m1 p + zWl a1 96 M2 m2 q := by omega
    have wr : ∀ l, zWl a2 91 M0 n l = zWl a1 91 M0 n l := w0 a2 fa2
    refine sg_Merger_write q_lines_91 (k_mwLines (w := 0) (by omega) q_lines_91 C0 (e := k + 1) (by omega) 1 k c2 g2 y2' a2 b2 (by omega) k0 O2 hc2 cy2 (by rw [wr, wr]; omega) (fun a3 b3 c3 g3 y3 O3 hc3 cy3 hy3 W3 => ?_))
    rw [wr, wr] at hy3
    refine k_startBehind ⟨by omega, by omega⟩ ⟨by omega, by omega⟩ ⟨by omega, by omega⟩ (fun a4 f4 j4 s10 s11 s12 => ⟨by omega, ?_⟩)
    have O4 : zMo a4 b3 a4 b3 c3 g3 y3 := by
      refine zMo.mk (fun _ _ _ _ => rfl) (fun _ _ _ => rfl) (fun _ _ _ => rfl) (fun _ _ _ => rfl) ⟨by rw [j4 7 (by decide) (by decide) (by decide)]; exact O3.ct.1, O3.ct.2⟩ ⟨by rw [j4 8 (by decide) (by decide) (by decide)]; exact O3.ln.1, O3.ln.2⟩ (by rw [f4 111 (by decide)]; exact O3.sz) (by rw [f4 111 (by decide), f4 112 (by decide)]; exact O3.tx)
    have Q4 : zMq a1 b1 a4 b3 M0 M1 M2 n m1 m2 (k + 1) (v1 + r) (k + 1) (p + 1) (q + 1) c3 g3 y3 := by
      refine zMq.mk (fun r u x z => by rw [f4 r u, O3.fa r u x z]; exact fa2 r u x z) (fun r u x => by rw [O3.fb r u x]; exact fb2 r u x) (fun j u x => by rw [O3.fj j u x, S.fj j u x]; exact Q.fj j u x) ⟨by rw [j4 9 (by decide) (by decide) (by decide), O3.fc 9 (by decide) (by decide), S.c9, q1], s10, s11, s12⟩ O4 hc3 cy3 ⟨by omega, by omega, by omega, by omega, by omega, by omega, by omega, by omega⟩ (by omega) (fun k' u x z1 z2 => ?_)
      have o1 := W1.mo k k' k0 (by omega) x
      have o2 := W2.mo k k' k0 (by omega) x
      rw [show a1 (107 + 1) k = a1 108 k from rfl, show a1 (107 + 1) k' = a1 108 k' from rfl, ep] at o1
      rw [show a1 (109 + 1) k = a1 110 k from rfl, show a1 (109 + 1) k' = a1 110 k' from rfl, eq] at o2
      have := o1 n1 z1
      have := o2 n2 z2
      exact ⟨by omega, by omega⟩
    refine ih (k + 1) (v1 + r) (k + 1) (p + 1) (q + 1) c3 g3 y3 a4 b3 (by omega) (by omega) Q4 (fun a' b' v1' c' g' y' f1 f2 f3 f4' f5 O' W5 => h a' b' v1' c' g' y' f1 f2 f3 f4' f5 O' (fun KI he => ?_))
    have lst : ∀ t : Int, t = r → L_m_merge_264 X k 0 p q v1 t b2 KI := by
      intro t et
      refine sg_m_merge_264 ⟨by omega, z_f (fun z => z rfl) ⟨by omega, sg_m_takesLines ⟨by omega, by omega, ?_⟩⟩⟩
      refine W3 _ ⟨by omega, by omega, by omega, by omega, ?_⟩
      rw [et]; exact W5 KI he
    refine sg_m_merge_131 (z_f (by omega) (z_t (by omega) (sg_m_merge_158 (z_f (fun z => z rfl) ⟨k0, by omega, ?_⟩))))
    rw [e1]
    refine z_f n1 ⟨by omega, by omega, by omega, ?_⟩
    rw [e2]
    refine z_f n2 (z_t rfl ⟨k0, by omega, sg_m_merge_212 (z_t rfl ⟨by omega, by omega, by omega, ?_⟩)⟩)
    rw [e2]
    exact W _ (z_c (fun z => lst 0 z.symm) (fun z => lst 1 (by omega)))
end Run
