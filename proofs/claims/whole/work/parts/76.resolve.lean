/-! Runs are paired, in both at once. -/
def zBt (b : qM) (o v : Int) : qM := fun q => if q = 147 then (fun j => if o < j ∧ j < v then 1 else b 147 j) else b q
def zPb (b b' : qM) (o c w : Int) (q : Nat) : Prop := (∀ r, r ≠ 113 → r < 146 ∨ 150 < r → b' r = b r) ∧ (∀ j, j ≠ 41 → b' 113 j = b 113 j) ∧ (b' 113 41 = q + 1) ∧ (b' 148 = q_u (b 148) q o) ∧ (b' 149 = q_u (b 149) q c) ∧ (b' 150 = q_u (b 150) q (if w = 2 then 10 else 9)) ∧ (b' 146 = q_u (q_u (b 146) c (b 146 c - w)) o (b 146 o - w)) ∧ (∀ j, o < j → j < c → b' 147 j = 1) ∧ (∀ j, ¬ (o < j ∧ j < c) → b' 147 j = b 147 j)
theorem zPb.mk {b b' : qM} {o c w : Int} {q : Nat} (fr : ∀ r, r ≠ 113 → r < 146 ∨ 150 < r → b' r = b r) (f113 : ∀ j, j ≠ 41 → b' 113 j = b 113 j) (f41 : b' 113 41 = q + 1) (b8 : b' 148 = q_u (b 148) q o) (b9 : b' 149 = q_u (b 149) q c) (b0 : b' 150 = q_u (b 150) q (if w = 2 then 10 else 9)) (b6 : b' 146 = q_u (q_u (b 146) c (b 146 c - w)) o (b 146 o - w)) (b71 : ∀ j, o < j → j < c → b' 147 j = 1) (b70 : ∀ j, ¬ (o < j ∧ j < c) → b' 147 j = b 147 j) : zPb b b' o c w q := ⟨fr, f113, f41, b8, b9, b0, b6, b71, b70⟩
theorem zPb.fr {b b' : qM} {o c w : Int} {q : Nat} (h : zPb b b' o c w q) : ∀ r, r ≠ 113 → r < 146 ∨ 150 < r → b' r = b r := h.1
theorem zPb.f113 {b b' : qM} {o c w : Int} {q : Nat} (h : zPb b b' o c w q) : ∀ j, j ≠ 41 → b' 113 j = b 113 j := h.2.1
theorem zPb.f41 {b b' : qM} {o c w : Int} {q : Nat} (h : zPb b b' o c w q) : b' 113 41 = q + 1 := h.2.2.1
theorem zPb.b8 {b b' : qM} {o c w : Int} {q : Nat} (h : zPb b b' o c w q) : b' 148 = q_u (b 148) q o := h.2.2.2.1
theorem zPb.b9 {b b' : qM} {o c w : Int} {q : Nat} (h : zPb b b' o c w q) : b' 149 = q_u (b 149) q c := h.2.2.2.2.1
theorem zPb.b0 {b b' : qM} {o c w : Int} {q : Nat} (h : zPb b b' o c w q) : b' 150 = q_u (b 150) q (if w = 2 then 10 else 9) := h.2.2.2.2.2.1
theorem zPb.b6 {b b' : qM} {o c w : Int} {q : Nat} (h : zPb b b' o c w q) : b' 146 = q_u (q_u (b 146) c (b 146 c - w)) o (b 146 o - w) := h.2.2.2.2.2.2.1
theorem zPb.b71 {b b' : qM} {o c w : Int} {q : Nat} (h : zPb b b' o c w q) : ∀ j, o < j → j < c → b' 147 j = 1 := h.2.2.2.2.2.2.2.1
theorem zPb.b70 {b b' : qM} {o c w : Int} {q : Nat} (h : zPb b b' o c w q) : ∀ j, ¬ (o < j ∧ j < c) → b' 147 j = b 147 j := h.2.2.2.2.2.2.2.2
/-- what pairing leaves as it is: runs ahead of first, pieces ahead of fr_ -/
def zRf (a a' b b' : qM) (q q' : Nat) (first fr_ e : Int) : Prop := (∀ r, r ≠ 48 → r ≠ 55 → r ≠ 57 → a' r = a r) ∧ (∀ r, r ≠ 113 → r < 146 ∨ 150 < r → b' r = b r) ∧ (∀ j, j ≠ 41 → b' 113 j = b 113 j) ∧ (∀ r, r < first → a' 55 r = a 55 r ∧ a' 57 r = a 57 r) ∧ (∀ k, k < fr_ → b' 146 k = b 146 k ∧ b' 147 k = b 147 k ∧ zCw b' k q' = zCw b k q ∧ zOu b' k q' = zOu b k q) ∧ (∀ i, e ≤ i → a' 48 i = a 48 i) ∧ (∀ i, a 48 i = 12 → a' 48 i = 12)
theorem zRf.mk {a a' b b' : qM} {q q' : Nat} {first fr_ e : Int} (fa : ∀ r, r ≠ 48 → r ≠ 55 → r ≠ 57 → a' r = a r) (fb : ∀ r, r ≠ 113 → r < 146 ∨ 150 < r → b' r = b r) (f113 : ∀ j, j ≠ 41 → b' 113 j = b 113 j) (ru : ∀ r, r < first → a' 55 r = a 55 r ∧ a' 57 r = a 57 r) (pc : ∀ k, k < fr_ → b' 146 k = b 146 k ∧ b' 147 k = b 147 k ∧ zCw b' k q' = zCw b k q ∧ zOu b' k q' = zOu b k q) (far : ∀ i, e ≤ i → a' 48 i = a 48 i) (lk : ∀ i, a 48 i = 12 → a' 48 i = 12) : zRf a a' b b' q q' first fr_ e := ⟨fa, fb, f113, ru, pc, far, lk⟩
theorem zRf.fa {a a' b b' : qM} {q q' : Nat} {first fr_ e : Int} (h : zRf a a' b b' q q' first fr_ e) : ∀ r, r ≠ 48 → r ≠ 55 → r ≠ 57 → a' r = a r := h.1
theorem zRf.fb {a a' b b' : qM} {q q' : Nat} {first fr_ e : Int} (h : zRf a a' b b' q q' first fr_ e) : ∀ r, r ≠ 113 → r < 146 ∨ 150 < r → b' r = b r := h.2.1
theorem zRf.f113 {a a' b b' : qM} {q q' : Nat} {first fr_ e : Int} (h : zRf a a' b b' q q' first fr_ e) : ∀ j, j ≠ 41 → b' 113 j = b 113 j := h.2.2.1
theorem zRf.ru {a a' b b' : qM} {q q' : Nat} {first fr_ e : Int} (h : zRf a a' b b' q q' first fr_ e) : ∀ r, r < first → a' 55 r = a 55 r ∧ a' 57 r = a 57 r := h.2.2.2.1
theorem zRf.pc {a a' b b' : qM} {q q' : Nat} {first fr_ e : Int} (h : zRf a a' b b' q q' first fr_ e) : ∀ k, k < fr_ → b' 146 k = b 146 k ∧ b' 147 k = b 147 k ∧ zCw b' k q' = zCw b k q ∧ zOu b' k q' = zOu b k q := h.2.2.2.2.1
theorem zRf.far {a a' b b' : qM} {q q' : Nat} {first fr_ e : Int} (h : zRf a a' b b' q q' first fr_ e) : ∀ i, e ≤ i → a' 48 i = a 48 i := h.2.2.2.2.2.1
theorem zRf.lk {a a' b b' : qM} {q q' : Nat} {first fr_ e : Int} (h : zRf a a' b b' q q' first fr_ e) : ∀ i, a 48 i = 12 → a' 48 i = 12 := h.2.2.2.2.2.2
section Resolve
variable {X : Nat × (Nat → Int32)} {a b s : qM} {KV : qM → Prop} {S : Int → Int} {p first R fr_ t m : Int} {rho : Int → Int}
theorem zBt_up {o v : Int} (h : o < v) : q_up (zBt b o v) 147 v 1 = zBt b o (v + 1) := by
  funext q j
  rw [q_up_get]
  unfold zBt
  by_cases e : q = 147
  · rw [if_pos e, if_pos e]
    by_cases z : j = v
    · rw [if_pos ⟨e, z⟩, if_pos ⟨by omega, by omega⟩]
    · rw [if_neg (fun y => z y.2)]
      by_cases y : o < j ∧ j < v
      · rw [if_pos y, if_pos ⟨y.1, by omega⟩]
      · rw [if_neg y, if_neg (by omega)]
  · rw [if_neg e, if_neg e, if_neg (fun y => e y.1)]
theorem zBt_0 {o : Int} : zBt b o (o + 1) = b := by
  funext q j
  unfold zBt
  by_cases e : q = 147
  · rw [if_pos e, if_neg (by omega), e]
  · rw [if_neg e]
theorem k_m_221 {o c : Int} (o0 : 0 ≤ o) (c1 : c < 241) {Kf : qM → Prop} (hk : L_m_pairsUp_42 X fr_ t c 1 (zBt b o c) Kf) : ∀ (d : Nat) (v : Int), c - v = d → o < v → L_m_pairsUp_221 X fr_ t c 1 v (zBt b o v) Kf := by
  intro d
  induction d with
  | zero => intro v hv ov; rw [show v = c by omega]; exact sg_m_pairsUp_221 (z_t (Int.le_refl c) hk)
  | succ d ih =>
    intro v hv ov
    refine sg_m_pairsUp_221 (z_f (by omega) ⟨by omega, by omega, fun s1 e1 => ⟨by omega, ?_⟩⟩)
    rw [e1, zBt_up ov]
    exact ih (v + 1) (by omega) (by omega)
theorem k_m_pairStep {o c w : Int} {q : Nat} (hq : b 113 41 = q) (q2 : (q : Int) < 241) (o0 : 0 ≤ o) (oc : o < c) (c1 : c < 241) (lo : 1 ≤ b 146 o) (lo2 : b 146 o ≤ 240) (lc : 1 ≤ b 146 c) (lc2 : b 146 c ≤ 240) (hw : w = if 2 ≤ b 146 o ∧ 2 ≤ b 146 c then 2 else 1) :
    ∃ b', zPb b b' o c w q ∧ ∀ Kf : qM → Prop, L_m_pairsUp_42 X fr_ t c 1 b' Kf → ((((b 146 c) ≤ 1) → ((0 : Int) ≤ (b 113 41)) ∧ ((b 113 41) < (241 : Int)) ∧ (∀ s3 : qM, s3 = q_up b 148 (b 113 41) o → ((0 : Int) ≤ (s3 113 41)) ∧ ((s3 113 41) < (241 : Int)) ∧ (∀ s4 : qM, s4 = q_up s3 149 (s3 113 41) c → L_m_pairsUp_165 X fr_ t c 1 o 0 (s4 113 41) 9 s4 Kf))) ∧ (¬ ((b 146 c) ≤ 1) → ((0 : Int) ≤ o) ∧ (o < (241 : Int)) ∧ ((((b 146 o) ≤ 1) → ((0 : Int) ≤ (b 113 41)) ∧ ((b 113 41) < (241 : Int)) ∧ (∀ s5 : qM, s5 = q_up b 148 (b 113 41) o → ((0 : Int) ≤ (s5 113 41)) ∧ ((s5 113 41) < (241 : Int)) ∧ (∀ s6 : qM, s6 = q_up s5 149 (s5 113 41) c → L_m_pairsUp_165 X fr_ t c 1 o 0 (s6 113 41) 9 s6 Kf))) ∧ (¬ ((b 146 o) ≤ 1) → ((0 : Int) ≤ (b 113 41)) ∧ ((b 113 41) < (241 : Int)) ∧ (∀ s7 : qM, s7 = q_up b 148 (b 113 41) o → ((0 : Int) ≤ (s7 113 41)) ∧ ((s7 113 41) < (241 : Int)) ∧ (∀ s8 : qM, s8 = q_up s7 149 (s7 113 41) c → L_m_pairsUp_165 X fr_ t c 1 o 1 (s8 113 41) 10 s8 Kf)))))) := by
  generalize e6 : q_up (q_up (q_up (q_up (q_up (q_up b 148 q o) 149 q c) 150 q (if w = 2 then 10 else 9)) 113 41 (q + 1)) 146 c (b 146 c - w)) 146 o (b 146 o - w) = b6
  have m : ∀ r, r ≠ 113 → r ≠ 146 → r ≠ 148 → r ≠ 149 → r ≠ 150 → b6 r = b r := fun r u v w y z => by rw [← e6, q_up_ne v, q_up_ne v, q_up_ne u, q_up_ne z, q_up_ne y, q_up_ne w]
  refine ⟨zBt b6 o c, zPb.mk (fun r u v => ?_) (fun j hj => ?_) ?_ ?_ ?_ ?_ ?_ (fun j u v => ?_) (fun j u => ?_), fun Kf hk => ?_⟩
  · unfold zBt; rw [if_neg (by omega)]; exact m r u (by omega) (by omega) (by omega) (by omega)
  · unfold zBt; rw [if_neg (by decide), ← e6, q_up_ne (by decide), q_up_ne (by decide), q_up_nj hj, q_up_ne (by decide), q_up_ne (by decide), q_up_ne (by decide)]
  · unfold zBt; rw [if_neg (by decide), ← e6, q_up_ne (by decide), q_up_ne (by decide), q_up_at]
  · unfold zBt; rw [if_neg (by decide), ← e6, q_up_ne (by decide), q_up_ne (by decide), q_up_ne (by decide), q_up_ne (by decide), q_up_ne (by decide), q_up_fn]
  · unfold zBt; rw [if_neg (by decide), ← e6, q_up_ne (by decide), q_up_ne (by decide), q_up_ne (by decide), q_up_ne (by decide), q_up_fn, q_up_ne (by decide)]
  · unfold zBt; rw [if_neg (by decide), ← e6, q_up_ne (by decide), q_up_ne (by decide), q_up_ne (by decide), q_up_fn, q_up_ne (by decide), q_up_ne (by decide)]
  · unfold zBt; rw [if_neg (by decide), ← e6, q_up_fn, q_up_fn, q_up_ne (by decide), q_up_ne (by decide), q_up_ne (by decide), q_up_ne (by decide)]
  · unfold zBt; rw [if_pos rfl, if_pos ⟨u, v⟩]
  · unfold zBt; rw [if_pos rfl, if_neg u]; rw [m 147 (by decide) (by decide) (by decide) (by decide) (by decide)]
  · have loop := k_m_221 (X := X) (b := b6) (fr_ := fr_) (t := t) o0 c1 hk (c - (o + 1)).toNat (o + 1) (by omega) (by omega)
    rw [zBt_0] at loop
    -- the rest of the step, whatever the width
    have tail : ∀ v6 κ, ((v6 = 0 ∧ κ = 9 ∧ w = 1) ∨ (v6 = 1 ∧ κ = 10 ∧ w = 2)) → ((0 : Int) ≤ (b 113 41)) ∧ ((b 113 41) < (241 : Int)) ∧ (∀ s3 : qM, s3 = q_up b 148 (b 113 41) o → ((0 : Int) ≤ (s3 113 41)) ∧ ((s3 113 41) < (241 : Int)) ∧ (∀ s4 : qM, s4 = q_up s3 149 (s3 113 41) c → L_m_pairsUp_165 X fr_ t c 1 o v6 (s4 113 41) κ s4 Kf)) := by
      intro v6 κ hv
      rw [hq]
      refine ⟨by omega, q2, fun s3 e3 => ?_⟩
      have q3 : s3 113 41 = q := by rw [e3, q_up_ne (by decide)]; exact hq
      rw [q3]
      refine ⟨by omega, q2, fun s4 e4 => ?_⟩
      have q4 : s4 113 41 = q := by rw [e4, q_up_ne (by decide)]; exact q3
      rw [q4]
      refine sg_m_pairsUp_165 ⟨by omega, q2, fun s5 e5 => ?_⟩
      have q5 : s5 113 41 = q := by rw [e5, q_up_ne (by decide)]; exact q4
      rw [q5]
      refine ⟨by omega, fun s6 e7 => ⟨by omega, c1, ?_⟩⟩
      have eκ : κ = if w = 2 then 10 else 9 := by
        rcases hv with ⟨_, h, h2⟩ | ⟨_, h, h2⟩ <;> rw [h, h2] <;> rfl
      have base : s6 = q_up (q_up (q_up (q_up b 148 q o) 149 q c) 150 q (if w = 2 then 10 else 9)) 113 41 (q + 1) := by rw [e7, e5, e4, e3, eκ]
      have c6 : s6 146 = b 146 := by rw [base, q_up_ne (by decide), q_up_ne (by decide), q_up_ne (by decide), q_up_ne (by decide)]
      have fin : ∀ s7 : qM, s7 = q_up s6 146 c (s6 146 c - w) → ∀ s8 : qM, s8 = q_up s7 146 o (s7 146 o - w) → s8 = b6 := by
        intro s7 h7 s8 h8
        have : s7 146 o = b 146 o := by rw [h7, q_up_nj (by omega), c6]
        rw [h8, this, h7, c6, base, e6]
      rcases hv with ⟨h1, h2, h3⟩ | ⟨h1, h2, h3⟩
      · rw [h3] at fin
        refine z_t h1 ⟨by rw [c6]; omega, by omega, c1, fun s7 h7 => ⟨o0, by omega, z_t h1 ⟨by rw [h7, q_up_nj (by omega), c6]; omega, o0, by omega, fun s8 h8 => ⟨by omega, ?_⟩⟩⟩⟩
        rw [fin s7 h7 s8 h8]; exact loop
      · rw [h3] at fin
        refine z_f (by omega) ⟨by rw [c6]; omega, by omega, c1, fun s7 h7 => ⟨o0, by omega, z_f (by omega) ⟨by rw [h7, q_up_nj (by omega), c6]; omega, o0, by omega, fun s8 h8 => ⟨by omega, ?_⟩⟩⟩⟩
        rw [fin s7 h7 s8 h8]; exact loop
    refine z_c (fun e => tail 0 9 (Or.inl ⟨rfl, rfl, by rw [hw, if_neg (by omega)]⟩)) (fun e => ⟨o0, by omega, z_c (fun e2 => tail 0 9 (Or.inl ⟨rfl, rfl, by rw [hw, if_neg (by omega)]⟩)) (fun e2 => tail 1 10 (Or.inr ⟨rfl, rfl, by rw [hw, if_pos ⟨by omega, by omega⟩]⟩))⟩)
theorem zSig_tel {T : Int → Int} : ∀ (p : Nat), zSig (fun k => T (k + 1) - T k) p = T p - T 0
  | 0 => by show (0 : Int) = T ((0 : Nat) : Int) - T 0; rw [show ((0 : Nat) : Int) = 0 from rfl]; omega
  | p + 1 => by
    show zSig (fun k => T (k + 1) - T k) p + (T ((p : Int) + 1) - T p) = T ((p + 1 : Nat) : Int) - T 0
    rw [zSig_tel p, show ((p + 1 : Nat) : Int) = (p : Int) + 1 by omega]; omega
theorem zSig_le {f g : Int → Int} : ∀ (p : Nat), (∀ k : Int, 0 ≤ k → k < p → f k ≤ g k) → zSig f p ≤ zSig g p
  | 0, _ => Int.le_refl _
  | p + 1, h => by
    have h1 := zSig_le p (fun k u v => h k u (by omega))
    have h2 := h p (by omega) (by omega)
    show zSig f p + f (p : Int) ≤ zSig g p + g (p : Int)
    omega
/-- there are no more pairs than characters -/
theorem zPc.qle {f : Int → Int} {q : Nat} (Z : zPc f b S p q) : (q : Int) ≤ S p ∧ p ≤ S p := by
  have p0 := Z.p0
  have h1 : ∀ j : Nat, j ≤ q → (j : Int) ≤ zSig (fun k => zCw b k j) p.toNat := by
    intro j
    induction j with
    | zero => intro _; exact zSig_nn _ (fun k _ _ => Int.le_refl _)
    | succ j ih =>
      intro hj
      have hp := Z.pr j (by omega)
      have w := zWd_12 (b := b) (j := j)
      have u := zSig_upd (f := fun k => zCw b k j) (g := fun k => zCw b k (j + 1)) (x := b 149 j) (d := zWd b j) (by omega) (by show zCw b (b 149 j) j + (if b 149 (j : Int) = b 149 j then zWd b j else 0) = _; rw [if_pos rfl]) p.toNat (by omega) (fun k _ _ hk => by show zCw b k j + (if b 149 (j : Int) = k then zWd b j else 0) = zCw b k j; rw [if_neg (fun z => hk z.symm)]; omega)
      rw [u]
      have := ih (by omega)
      omega
  have none : ∀ (k : Int) (j : Nat), j ≤ q → b 141 k ≠ 1 → zCw b k j = 0 := by
    intro k j
    induction j with
    | zero => intro _ _; rfl
    | succ j ih =>
      intro hj hk
      show zCw b k j + (if b 149 (j : Int) = k then zWd b j else 0) = 0
      rw [ih (by omega) hk, if_neg (fun z => hk (by rw [← z]; exact (Z.pr j (by omega)).2.2.2.2.1))]; rfl
  have h2 := zSig_le (f := fun k => zCw b k q) (g := fun k => S (k + 1) - S k) p.toNat (fun k u v => by
    have m := Z.mono k u (by omega)
    by_cases z : b 141 k = 1
    · have h := Z.k1 k u (by omega) z
      have := zOu_le (b := b) (k := k) (i := 0) (Nat.zero_le q)
      have e0 : zOu b k 0 = 0 := rfl
      show zCw b k q ≤ S (k + 1) - S k
      omega
    · show zCw b k q ≤ S (k + 1) - S k
      rw [none k q (Nat.le_refl q) z]; omega)
  have tel : zSig (fun k => S (k + 1) - S k) p.toNat = S (p.toNat : Int) - S 0 := zSig_tel (T := S) p.toNat
  have h3 := h1 q (Nat.le_refl q)
  have h4 := Z.sep p.toNat 0 (by decide) (by omega)
  rw [Z.s0] at tel h4
  rw [show ((p.toNat : Nat) : Int) = p by omega] at tel h4
  rw [show (0 : Int) + p = p by omega] at h4
  exact ⟨by omega, by omega⟩
end Resolve
