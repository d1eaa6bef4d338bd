/-! The loops of pairing. -/
section PairLoop
variable {X : Nat × (Nat → Int32)} {a b s : qM} {KV : qM → Prop} {S : Int → Int} {p first R fr_ t m : Int} {rho : Int → Int}
theorem zRf.rf {q : Nat} {e : Int} : zRf a a b b q q first fr_ e := zRf.mk (fun _ _ _ _ => rfl) (fun _ _ _ => rfl) (fun _ _ => rfl) (fun _ _ => ⟨rfl, rfl⟩) (fun _ _ => ⟨rfl, rfl, rfl, rfl⟩) (fun _ _ => rfl) (fun _ h => h)
theorem zRf.tr {a1 a2 b1 b2 : qM} {q q1 q2 : Nat} {e : Int} (F : zRf a a1 b b1 q q1 first fr_ e) (G : zRf a1 a2 b1 b2 q1 q2 first fr_ e) : zRf a a2 b b2 q q2 first fr_ e :=
  zRf.mk (fun r x y z => (G.fa r x y z).trans (F.fa r x y z)) (fun r x y => (G.fb r x y).trans (F.fb r x y)) (fun j x => (G.f113 j x).trans (F.f113 j x)) (fun r h => ⟨(G.ru r h).1.trans (F.ru r h).1, (G.ru r h).2.trans (F.ru r h).2⟩)
    (fun k h => ⟨(G.pc k h).1.trans (F.pc k h).1, (G.pc k h).2.1.trans (F.pc k h).2.1, (G.pc k h).2.2.1.trans (F.pc k h).2.2.1, (G.pc k h).2.2.2.trans (F.pc k h).2.2.2⟩) (fun i h => (G.far i h).trans (F.far i h)) (fun i h => G.lk i (F.lk i h))
/-- what holds as the closer c is looked at: roles, pieces, runs -/
def zRs (a b : qM) (S : Int → Int) (p : Int) (q : Nat) (first R : Int) (rho : Int → Int) (fr_ m c : Int) : Prop := (zPc (a 48) b S p q) ∧ (zRn a b S p q first R rho fr_) ∧ (b 113 41 = q) ∧ (a 47 1 = m ∧ m ≤ 240 ∧ S p ≤ m ∧ 0 ≤ fr_) ∧ (∀ r, c ≤ r → r < R → b 147 (rho r) = 0)
theorem zRs.mk {a b : qM} {S : Int → Int} {p : Int} {q : Nat} {first R : Int} {rho : Int → Int} {fr_ m c : Int} (Z : zPc (a 48) b S p q) (N : zRn a b S p q first R rho fr_) (nq : b 113 41 = q) (sm : a 47 1 = m ∧ m ≤ 240 ∧ S p ≤ m ∧ 0 ≤ fr_) (nd : ∀ r, c ≤ r → r < R → b 147 (rho r) = 0) : zRs a b S p q first R rho fr_ m c := ⟨Z, N, nq, sm, nd⟩
theorem zRs.Z {a b : qM} {S : Int → Int} {p : Int} {q : Nat} {first R : Int} {rho : Int → Int} {fr_ m c : Int} (h : zRs a b S p q first R rho fr_ m c) : zPc (a 48) b S p q := h.1
theorem zRs.N {a b : qM} {S : Int → Int} {p : Int} {q : Nat} {first R : Int} {rho : Int → Int} {fr_ m c : Int} (h : zRs a b S p q first R rho fr_ m c) : zRn a b S p q first R rho fr_ := h.2.1
theorem zRs.nq {a b : qM} {S : Int → Int} {p : Int} {q : Nat} {first R : Int} {rho : Int → Int} {fr_ m c : Int} (h : zRs a b S p q first R rho fr_ m c) : b 113 41 = q := h.2.2.1
theorem zRs.sm {a b : qM} {S : Int → Int} {p : Int} {q : Nat} {first R : Int} {rho : Int → Int} {fr_ m c : Int} (h : zRs a b S p q first R rho fr_ m c) : a 47 1 = m ∧ m ≤ 240 ∧ S p ≤ m ∧ 0 ≤ fr_ := h.2.2.2.1
theorem zRs.nd {a b : qM} {S : Int → Int} {p : Int} {q : Nat} {first R : Int} {rho : Int → Int} {fr_ m c : Int} (h : zRs a b S p q first R rho fr_ m c) : ∀ r, c ≤ r → r < R → b 147 (rho r) = 0 := h.2.2.2.2
theorem zRs.bd {q : Nat} {c : Int} (H : zRs a b S p q first R rho fr_ m c) : ∀ r, first ≤ r → r < R → 0 ≤ a 59 r ∧ a 59 r ≤ 240 ∧ 0 ≤ a 55 r ∧ a 55 r ≤ 240 ∧ 0 ≤ a 57 r ∧ a 57 r ≤ 240 ∧ a 55 r ≤ a 57 r := by
  intro r h1 h2
  obtain ⟨g1, g2, g3⟩ := H.N.rg r h1 h2
  obtain ⟨d1, _, _, _, _, d6⟩ := H.N.dt r h1 h2
  have bg := H.N.bg r h1 h2
  obtain ⟨e1, e2⟩ := H.N.en r h1 h2
  obtain ⟨s1, s2, s3, s4⟩ := H.sm
  obtain ⟨k1, k2, k3, _⟩ := H.Z.k1 (rho r) (by omega) g2 g3
  have c0 := zCw_le (b := b) (k := rho r) (i := 0) (Nat.zero_le q)
  have o0 := zOu_le (b := b) (k := rho r) (i := 0) (Nat.zero_le q)
  have z1 : zCw b (rho r) 0 = 0 := rfl
  have z2 : zOu b (rho r) 0 = 0 := rfl
  have sp := H.Z.sep2 (k := rho r) (l := p) (by omega) g2 (Int.le_refl p)
  have s0 := H.Z.sep (rho r).toNat 0 (by decide) (by omega)
  rw [H.Z.s0, show (0 : Int) + ((rho r).toNat : Int) = rho r by omega] at s0
  have m1 := H.Z.mono (rho r) (by omega) g2
  have en : a 57 r = a 55 r ∨ a 57 r = S (rho r + 1) - zOu b (rho r) q := by
    rcases d6 with h | h
    · exact Or.inr (e1 h)
    · exact (e2 h).imp id (fun z => z.2)
  omega
/-- candidates are the same -/
theorem zRs.cnd {q : Nat} {c r : Int} (H : zRs a b S p q first R rho fr_ m c) (h1 : first ≤ r) (h2 : r < c) (hc : c < R) (cl : a 63 c = 1) : zCnd a r c ↔ zCnm b (rho r) (rho c) := by
  have fc : first ≤ c := by omega
  have hr : r < R := by omega
  obtain ⟨g1, g2, g3⟩ := H.N.rg r h1 hr
  obtain ⟨d1, d2, d3, d4, d5, d6⟩ := H.N.dt r h1 hr
  obtain ⟨f1, f2, f3, f4, f5, f6⟩ := H.N.dt c fc hc
  have bg := H.N.bg r h1 hr
  obtain ⟨e1, e2⟩ := H.N.en r h1 hr
  obtain ⟨k1, k2, k3, _⟩ := H.Z.k1 (rho r) (by have := H.sm; omega) g2 g3
  have br : zBrk a r c ↔ ¬ zFit b (rho r) (rho c) ∨ (b 144 (rho r) = 0 ∧ zBrk a r c) := by
    unfold zBrk zFit
    rw [d1, d3, f1, f2]
    rw [f3] at cl
    constructor
    · intro ⟨x, y, z⟩
      by_cases o : b 144 (rho r) = 0
      · exact Or.inr ⟨o, x, y, z⟩
      · left
        intro w
        rcases w with w | w | w
        · apply w
          rcases x with x | x
          · left; omega
          · right; omega
        · exact w y
        · exact z w.1
    · intro h
      rcases h with h | ⟨_, x⟩
      · refine ⟨?_, ?_, ?_⟩
        · by_cases x : b 145 (rho r) = 1 ∨ b 144 (rho c) = 1
          · exact x
          · exact absurd (Or.inl (fun y => by rcases y with y | y <;> omega)) h
        · by_cases x : (b 143 (rho r) + b 143 (rho c)) % 3 = 0
          · exact x
          · exact absurd (Or.inr (Or.inl x)) h
        · intro x
          apply h
          by_cases y : (b 143 (rho r) + b 143 (rho c)) % 3 = 0
          · exact Or.inr (Or.inr ⟨x, by omega⟩)
          · exact Or.inr (Or.inl y)
      · exact x
  unfold zCnd zCnm
  rw [d2]
  constructor
  · intro ⟨x, y, z⟩
    have n7 : b 147 (rho r) = 0 := by
      rcases d6 with w | w
      · exact w
      · rcases e2 w with u | u
        · omega
        · omega
    refine ⟨g3, by omega, n7, by have := e1 n7; omega, ?_⟩
    by_cases w : zFit b (rho r) (rho c)
    · exact w
    · exact absurd (br.mpr (Or.inl w)) z
  · intro ⟨_, y, z, w, u⟩
    have := e1 z
    refine ⟨by omega, by omega, fun v => ?_⟩
    rcases br.mp v with x | x
    · exact x u
    · exact y x.1
/-- one pairing keeps all that holds -/
theorem zRs.step {a' b' : qM} {q : Nat} {c o w : Int} (H : zRs a b S p q first R rho fr_ m c) (fc : first ≤ c) (hc : c < R) (fo : first ≤ o) (oc : o < c) (cl : a 63 c = 1) (Co : zCnd a o c) (lc : 0 < a 57 c - a 55 c) (hw : w = if 2 ≤ a 57 o - a 55 o ∧ 2 ≤ a 57 c - a 55 c then 2 else 1) (A : zPa a a' o c w (a 57 o - w) (a 55 c)) (P : zPb b b' (rho o) (rho c) w q) :
    zRs a' b' S p (q + 1) first R rho fr_ m c ∧ zRf a a' b b' q (q + 1) first fr_ (S p) ∧ b' 146 (rho c) = b 146 (rho c) - w ∧ 1 ≤ w ∧ a' 63 = a 63 := by
  have hr : o < R := by omega
  obtain ⟨s1, s2, s3, s4⟩ := H.sm
  obtain ⟨g1, g2, g3⟩ := H.N.rg o fo hr
  obtain ⟨h1, h2, h3⟩ := H.N.rg c fc hc
  have ro := H.N.mo o c fo oc hc
  obtain ⟨_, cn2, cn3, cn4, _⟩ := (H.cnd fo oc hc cl).mp Co
  obtain ⟨k1, k2, k3, k4, k5⟩ := H.Z.k1 (rho o) (by omega) g2 g3
  obtain ⟨l1, l2, l3, l4, l5⟩ := H.Z.k1 (rho c) (by omega) h2 h3
  have bo := H.N.bg o fo hr
  have bc := H.N.bg c fc hc
  have eo := (H.N.en o fo hr).1 cn3
  have ec := (H.N.en c fc hc).1 (H.nd c (Int.le_refl c) hc)
  have w12 : w = 1 ∨ w = 2 := by rw [hw]; split <;> omega
  have wl : w ≤ b 146 (rho o) ∧ w ≤ b 146 (rho c) := by rw [hw]; split <;> omega
  have p1 := H.Z.sep2 (k := rho c) (l := p) (by omega) h2 (Int.le_refl p)
  have p2 := H.Z.sep2 (k := rho o) (l := rho c) (by omega) ro (by omega)
  have c0 := zCw_le (b := b) (k := rho o) (i := 0) (Nat.zero_le q)
  have c1 := zCw_le (b := b) (k := rho c) (i := 0) (Nat.zero_le q)
  have c2 := zOu_le (b := b) (k := rho c) (i := 0) (Nat.zero_le q)
  have c3 := zOu_le (b := b) (k := rho o) (i := 0) (Nat.zero_le q)
  have z1 : zCw b (rho o) 0 = 0 := rfl
  have z2 : zCw b (rho c) 0 = 0 := rfl
  have z3 : zOu b (rho c) 0 = 0 := rfl
  have z4 : zOu b (rho o) 0 = 0 := rfl
  have Z1 : zPc (a' 48) b' S p (q + 1) := H.Z.pair (o := rho o) (c := rho c) (w := w) (x := a 57 o - w) (y := a 55 c) (by omega) ro h2 g3 h3 w12 rfl wl.1 wl.2 (by omega) bc A.fx A.fy A.fx2 A.fy2 A.fo P.b8 P.b9 P.b0 P.b6 (P.fr 138 (by decide) (by omega)) (P.fr 141 (by decide) (by omega)) (P.fr 142 (by decide) (by omega)) (P.fr 143 (by decide) (by omega))
  have wq : zWd b' q = w := by unfold zWd; rw [P.b0, q_u_at]; rcases w12 with h | h <;> rw [h] <;> decide
  have cC : ∀ k, zCw b' k (q + 1) = zCw b k q + (if rho c = k then w else 0) := fun k => by
    show zCw b' k q + (if b' 149 (q : Int) = k then zWd b' q else 0) = _
    rw [zCw_congr (b := b) q (fun j hj => by rw [P.b9, P.b0, q_u_ne (by omega), q_u_ne (by omega)]; exact ⟨rfl, rfl⟩), P.b9, q_u_at, wq]
  have cO : ∀ k, zOu b' k (q + 1) = zOu b k q + (if rho o = k then w else 0) := fun k => by
    show zOu b' k q + (if b' 148 (q : Int) = k then zWd b' q else 0) = _
    rw [zOu_congr (b := b) q (fun j hj => by rw [P.b8, P.b0, q_u_ne (by omega), q_u_ne (by omega)]; exact ⟨rfl, rfl⟩), P.b8, q_u_at, wq]
  have inj : ∀ r, first ≤ r → r < R → ∀ r', first ≤ r' → r' < R → rho r = rho r' → r = r' := by
    intro r u v r' u' v' e
    rcases Int.lt_trichotomy r r' with z | z | z
    · have := H.N.mo r r' u z v'; omega
    · exact z
    · have := H.N.mo r' r u' z v; omega
  have e141 : b' 141 = b 141 := P.fr 141 (by decide) (by omega)
  have e143 : b' 143 = b 143 := P.fr 143 (by decide) (by omega)
  have e144 : b' 144 = b 144 := P.fr 144 (by decide) (by omega)
  have e145 : b' 145 = b 145 := P.fr 145 (by decide) (by omega)
  obtain ⟨t1, t2, t3, t4, t5, t6, t7, t8⟩ := H.N.sz
  have N1 : zRn a' b' S p (q + 1) first R rho fr_ := by
    refine zRn.mk ?_ ?_ H.N.mo ?_ ?_ ?_ ?_
    · rw [A.fr 54 (by decide) (by decide) (by decide), A.fr 56 (by decide) (by decide) (by decide), A.fr 58 (by decide) (by decide) (by decide), A.fr 60 (by decide) (by decide) (by decide), A.fr 62 (by decide) (by decide) (by decide)]; exact H.N.sz
    · rw [e141]; exact H.N.rg
    · intro r u v
      rw [A.fr 59 (by decide) (by decide) (by decide), A.fr 61 (by decide) (by decide) (by decide), A.fr 63 (by decide) (by decide) (by decide), e143, e144, e145]
      obtain ⟨d1, d2, d3, d4, d5, d6⟩ := H.N.dt r u v
      refine ⟨d1, d2, d3, d4, d5, ?_⟩
      by_cases z : rho o < rho r ∧ rho r < rho c
      · rw [P.b71 _ z.1 z.2]; exact Or.inr rfl
      · rw [P.b70 _ z]; exact d6
    · intro r u v
      rw [A.f55, cC]
      by_cases z : r = c
      · rw [z, q_u_at, if_pos rfl]; omega
      · rw [q_u_ne z, if_neg (fun y => z (inj c fc hc r u v y).symm)]
        have := H.N.bg r u v
        omega
    · intro r u v
      obtain ⟨en1, en2⟩ := H.N.en r u v
      rw [e144, A.f55, cO]
      by_cases zb : o < r ∧ r < c
      · have m1 := H.N.mo o r fo zb.1 v
        have m2 := H.N.mo r c u zb.2 hc
        refine ⟨fun y => ?_, fun _ => Or.inl ?_⟩
        · rw [P.b71 _ m1 m2] at y; exact absurd y (by decide)
        · rw [A.b57 r zb.1 zb.2, q_u_ne (by omega)]
      · have n7 : b' 147 (rho r) = b 147 (rho r) := P.b70 _ (fun y => zb (by
          constructor
          · rcases Int.lt_trichotomy o r with x | x | x
            · exact x
            · rw [x] at y; omega
            · have := H.N.mo r o u x hr; omega
          · rcases Int.lt_trichotomy r c with x | x | x
            · exact x
            · rw [x] at y; omega
            · have := H.N.mo c r fc x v; omega))
        rw [n7]
        by_cases zo : r = o
        · rw [zo, A.o57, if_pos rfl, q_u_ne (by omega)]
          exact ⟨fun _ => by omega, fun y => by rw [cn3] at y; exact absurd y (by decide)⟩
        · rw [A.e57 r (by omega), if_neg (fun y => zo (inj o fo hr r u v y).symm)]
          by_cases zc : r = c
          · rw [zc] at en1 n7 ⊢
            have := H.nd c (Int.le_refl c) hc
            exact ⟨fun y => by have := en1 y; omega, fun y => by rw [this] at y; exact absurd y (by decide)⟩
          · rw [q_u_ne zc]
            exact ⟨fun y => by have := en1 y; omega, fun y => (en2 y).imp id (fun x => ⟨x.1, by have := x.2; omega⟩)⟩
    · intro k u v ht h7
      rw [e141] at ht
      by_cases z : rho o < k ∧ k < rho c
      · rw [P.b71 _ z.1 z.2] at h7; exact absurd h7 (by decide)
      · rw [P.b70 _ z] at h7; exact H.N.lv k u v ht h7
  refine ⟨zRs.mk Z1 N1 P.f41 (by rw [A.fr 47 (by decide) (by decide) (by decide)]; exact H.sm) (fun r u v => ?_), zRf.mk A.fr P.fr P.f113 (fun r u => ⟨by rw [A.f55, q_u_ne (by omega)], A.e57 r (by omega)⟩) (fun k u => ⟨?_, ?_, ?_, ?_⟩) (fun i u => A.fo i (by omega) (by omega)) (fun i u => ?_), ?_, by omega, A.fr 63 (by decide) (by decide) (by decide)⟩
  · have : ¬ (rho o < rho r ∧ rho r < rho c) := by
      rcases Int.lt_or_eq_of_le u with x | x
      · have := H.N.mo c r fc x v; omega
      · rw [← x]; omega
    rw [P.b70 _ this]; exact H.nd r u v
  · rw [P.b6, q_u_ne (by omega), q_u_ne (by omega)]
  · exact P.b70 k (by omega)
  · rw [cC, if_neg (by omega)]; omega
  · rw [cO, if_neg (by omega)]; omega
  · by_cases x : a 57 o - w ≤ i ∧ i < a 57 o - w + w
    · have := k5 i (by omega) (by omega); omega
    · by_cases y : a 55 c ≤ i ∧ i < a 55 c + w
      · have := l5 i (by omega) (by omega); omega
      · rw [A.fo i x y]; exact u
  · rw [P.b6, q_u_ne (by omega), q_u_at]
end PairLoop
