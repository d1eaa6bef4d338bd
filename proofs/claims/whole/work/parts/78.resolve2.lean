/-! Resolving runs, in both at once. -/
section Resolve2
variable {X : Nat × (Nat → Int32)} {a b s : qM} {KV : qM → Prop} {S : Int → Int} {p first R fr_ t m : Int} {rho : Int → Int}
theorem zRs.up {q : Nat} {c : Int} (H : zRs a b S p q first R rho fr_ m c) : zRs a b S p q first R rho fr_ m (c + 1) :=
  zRs.mk H.Z H.N H.nq H.sm (fun r u v => H.nd r (by omega) v)
/-- the closer c, which closes -/
theorem k_closer {c : Int} (fc : first ≤ c) (hc : c < R) : ∀ (n : Nat) (v4 : Int) (a b : qM) (q : Nat), zRs a b S p q first R rho fr_ m c → a 63 c = 1 → rho c < t → t ≤ p → a 57 c - a 55 c ≤ n → 0 ≤ v4 → v4 + n ≤ 240 →
    (∀ a' b' q', zRs a' b' S p q' first R rho fr_ m (c + 1) → zRf a a' b b' q q' first fr_ (S p) → (∀ Kf : qM → Prop, L_m_pairsUp_2 X fr_ t (rho c + 1) b' Kf → L_m_pairsUp_42 X fr_ t (rho c) 1 b Kf) → L_Runs_resolve_2 X 47 first (c + 1) a' KV) → L_Runs_resolve_16 X 47 first c v4 a KV := by
  intro n
  induction n with
  | zero =>
    intro v4 a b q H cl ct tp hn v0 vn h
    obtain ⟨t1, t2, t3, t4, t5, t6, t7, t8⟩ := H.N.sz
    obtain ⟨s1, s2, s3, s4⟩ := H.sm
    obtain ⟨g1, g2, g3⟩ := H.N.rg c fc hc
    have bd := H.bd c fc hc
    have ec := (H.N.en c fc hc).1 (H.nd c (Int.le_refl c) hc)
    have bg := H.N.bg c fc hc
    have k := H.Z.k1 (rho c) (by omega) g2 g3
    have ql := H.Z.qle
    have done := h a b q H.up zRf.rf (fun Kf hk => sg_m_pairsUp_42 (z_f (by decide) ⟨by omega, by omega, z_t (by omega) ⟨by omega, hk⟩⟩))
    refine sg_Runs_resolve_16 q_row_47 (z_c (fun _ => ⟨by omega, done⟩) (fun _ => k_Row_at q_row_62 (by omega) ?_))
    rw [zT_in (by omega) (by omega), show a (62 + 1) c = 1 from cl]
    exact z_f (fun z => z rfl) (k_Runs_left t1 t2 t8 (by omega) hc (by omega) (by omega) (z_t (by omega) ⟨by omega, done⟩))
  | succ n ih =>
    intro v4 a b q H cl ct tp hn v0 vn h
    obtain ⟨t1, t2, t3, t4, t5, t6, t7, t8⟩ := H.N.sz
    obtain ⟨s1, s2, s3, s4⟩ := H.sm
    obtain ⟨g1, g2, g3⟩ := H.N.rg c fc hc
    have bd := H.bd c fc hc
    have n7 := H.nd c (Int.le_refl c) hc
    have ec := (H.N.en c fc hc).1 n7
    have bg := H.N.bg c fc hc
    have k := H.Z.k1 (rho c) (by omega) g2 g3
    have ql := H.Z.qle
    refine sg_Runs_resolve_16 q_row_47 (z_f (by omega) (k_Row_at q_row_62 (by omega) ?_))
    rw [zT_in (by omega) (by omega), show a (62 + 1) c = 1 from cl]
    refine z_f (fun z => z rfl) (k_Runs_left t1 t2 t8 (by omega) hc (by omega) (by omega) (z_c (fun le => ⟨by omega, h a b q H.up zRf.rf (fun Kf hk => sg_m_pairsUp_42 (z_f (by decide) ⟨by omega, by omega, z_t (by omega) ⟨by omega, hk⟩⟩))⟩) (fun gt => ?_)))
    have sbm : ∀ j, fr_ ≤ j → j ≤ rho c → b 141 j = 1 → 0 ≤ b 143 j ∧ b 143 j ≤ 240 := fun j u v w => by
      have kj := H.Z.k1 j (by omega) (by omega) w
      have mj := H.Z.mono j (by omega) (by omega)
      have s0 := H.Z.sep j.toNat 0 (by decide) (by omega)
      have e1 := H.Z.sep2 (k := j) (l := p) (by omega) (by omega) (Int.le_refl p)
      rw [H.Z.s0, show (0 : Int) + (j.toNat : Int) = j by omega] at s0
      omega
    have cls : a 63 c = 1 := cl
    refine k_Runs_openerOf ⟨t1, t2, t3, t4, t5⟩ t8 t6 fc hc (fun r u v => by have := H.bd r u v; omega) (fun none => ?_) (fun o fo oc Co mx => ?_)
    · -- no opener
      refine z_f (fun z => z rfl) ⟨by omega, ?_⟩
      have noneM : ∀ j, fr_ ≤ j → j < rho c → ¬ zCnm b j (rho c) := by
        intro j u v w
        obtain ⟨r, x, y, e⟩ := H.N.lv j u (by omega) w.1 w.2.2.1
        have rc : r < c := by
          rcases Int.lt_trichotomy r c with z | z | z
          · exact z
          · rw [z] at e; omega
          · have := H.N.mo c r fc z y; omega
        exact none r x rc ((H.cnd x rc hc cls).mpr (by rw [e]; exact w))
      generalize eb : q_up b 147 (rho c) (if b 144 (rho c) ≠ 0 then 0 else 1) = b'
      have f1 : ∀ r, r ≠ 147 → b' r = b r := fun r hr => by rw [← eb, q_up_ne hr]
      have f2 : ∀ j, j ≠ rho c → b' 147 j = b 147 j := fun j hj => by rw [← eb, q_up_nj hj]
      have f3 : b' 147 (rho c) = if b 144 (rho c) ≠ 0 then 0 else 1 := by rw [← eb, q_up_at]
      have cC : ∀ j (i : Nat), zCw b' j i = zCw b j i := fun j i => zCw_congr i (fun _ _ => ⟨by rw [f1 149 (by decide)], by rw [f1 150 (by decide)]⟩)
      have cO : ∀ j (i : Nat), zOu b' j i = zOu b j i := fun j i => zOu_congr i (fun _ _ => ⟨by rw [f1 148 (by decide)], by rw [f1 150 (by decide)]⟩)
      have ne : ∀ r, first ≤ r → r < R → r ≠ c → rho r ≠ rho c := fun r u v z => by
        rcases Int.lt_or_lt_of_ne z with y | y
        · have := H.N.mo r c u y hc; omega
        · have := H.N.mo c r fc y v; omega
      have H' : zRs a b' S p q first R rho fr_ m (c + 1) := by
        refine zRs.mk ?_ ?_ (by rw [f1 113 (by decide)]; exact H.nq) H.sm (fun r u v => by rw [f2 _ (ne r (by omega) v (by omega))]; exact H.nd r (by omega) v)
        · refine zPc.mk H.Z.p0 H.Z.s0 H.Z.mono ?_ ?_ ?_ ?_ ?_ ?_ ?_ ?_
          · rw [f1 141 (by decide)]; exact H.Z.ty
          · rw [f1 141 (by decide), f1 142 (by decide), f1 138 (by decide)]; exact H.Z.k0
          · rw [f1 141 (by decide), f1 142 (by decide), f1 138 (by decide)]; exact H.Z.k3
          · rw [f1 141 (by decide), f1 142 (by decide), f1 143 (by decide)]; exact H.Z.k2
          · rw [f1 141 (by decide)]; exact H.Z.k4
          · rw [f1 141 (by decide)]; exact H.Z.k5
          · intro j u v w
            rw [f1 141 (by decide)] at w
            rw [f1 143 (by decide), f1 146 (by decide), f1 138 (by decide), cC, cO]; exact H.Z.k1 j u v w
          · intro j hj
            rw [f1 148 (by decide), f1 149 (by decide), f1 150 (by decide), f1 141 (by decide), cC, cO]; exact H.Z.pr j hj
        · refine zRn.mk H.N.sz (by rw [f1 141 (by decide)]; exact H.N.rg) H.N.mo (fun r u v => ?_) (fun r u v => by rw [cC]; exact H.N.bg r u v) (fun r u v => ?_) (fun j u v w y => ?_)
          · rw [f1 143 (by decide), f1 144 (by decide), f1 145 (by decide)]
            obtain ⟨d1, d2, d3, d4, d5, d6⟩ := H.N.dt r u v
            refine ⟨d1, d2, d3, d4, d5, ?_⟩
            by_cases z : r = c
            · rw [z, f3]; split
              · exact Or.inl rfl
              · exact Or.inr rfl
            · rw [f2 _ (ne r u v z)]; exact d6
          · rw [f1 144 (by decide), cO]
            by_cases z : r = c
            · rw [z, f3]
              by_cases y : b 144 (rho c) ≠ 0
              · rw [if_pos y]; exact ⟨fun _ => ec, fun w => absurd w (by decide)⟩
              · rw [if_neg y]; exact ⟨fun w => absurd w (by decide), fun _ => Or.inr ⟨Decidable.not_not.mp y, ec⟩⟩
            · rw [f2 _ (ne r u v z)]; exact H.N.en r u v
          · rw [f1 141 (by decide)] at w
            by_cases z : j = rho c
            · exact ⟨c, fc, hc, z.symm⟩
            · rw [f2 j z] at y; exact H.N.lv j u v w y
      refine h a b' q H' (zRf.mk (fun _ _ _ _ => rfl) (fun r u v => f1 r (by omega)) (fun j _ => by rw [f1 113 (by decide)]) (fun _ _ => ⟨rfl, rfl⟩) (fun j u => ⟨by rw [f1 146 (by decide)], f2 j (by omega), cC j q, cO j q⟩) (fun _ _ => rfl) (fun _ z => z)) (fun Kf hk => ?_)
      refine sg_m_pairsUp_42 (z_f (by decide) ⟨by omega, by omega, z_f (by omega) (k_m_nearest (by omega) g1 (by omega) sbm g3 (fun _ => ?_) (fun j u v w _ => absurd w (noneM j u v)))⟩)
      refine z_f (fun z => z rfl) ⟨by omega, by omega, z_c (fun y => ⟨by omega, by omega, fun s9 e9 => sg_m_pairsUp_42 (z_t rfl ⟨by omega, ?_⟩)⟩) (fun y => ⟨by omega, by omega, fun s9 e9 => sg_m_pairsUp_42 (z_t rfl ⟨by omega, ?_⟩)⟩)⟩
      · rw [if_pos y] at eb; rw [e9, eb]; exact hk
      · rw [if_neg y] at eb; rw [e9, eb]; exact hk
    · -- a pair
      have hr : o < R := by omega
      obtain ⟨o1, o2, o3⟩ := H.N.rg o fo hr
      have ro := H.N.mo o c fo oc hc
      have cm := (H.cnd fo oc hc cls).mp Co
      have eo := (H.N.en o fo hr).1 cm.2.2.1
      have bo := H.N.bg o fo hr
      have ko := H.Z.k1 (rho o) (by omega) o2 o3
      have bdo := H.bd o fo hr
      have wv : (if 2 ≤ a 57 o - a 55 o ∧ 2 ≤ a 57 c - a 55 c then (2 : Int) else 1) = 1 ∨ (if 2 ≤ a 57 o - a 55 o ∧ 2 ≤ a 57 c - a 55 c then (2 : Int) else 1) = 2 := by split <;> omega
      have wl : (if 2 ≤ a 57 o - a 55 o ∧ 2 ≤ a 57 c - a 55 c then (2 : Int) else 1) ≤ a 57 o - a 55 o ∧ (if 2 ≤ a 57 o - a 55 o ∧ 2 ≤ a 57 c - a 55 c then (2 : Int) else 1) ≤ a 57 c - a 55 c := by
        have := Co.2.1
        split <;> omega
      generalize ew : (if 2 ≤ a 57 o - a 55 o ∧ 2 ≤ a 57 c - a 55 c then (2 : Int) else 1) = w at wv wl
      have c0 := zOu_le (b := b) (k := rho o) (i := 0) (Nat.zero_le q)
      have c1 := zCw_le (b := b) (k := rho c) (i := 0) (Nat.zero_le q)
      have c2 := zOu_le (b := b) (k := rho c) (i := 0) (Nat.zero_le q)
      have z0 : zOu b (rho o) 0 = 0 := rfl
      have z1 : zCw b (rho c) 0 = 0 := rfl
      have z2 : zOu b (rho c) 0 = 0 := rfl
      have p2 := H.Z.sep2 (k := rho o) (l := rho c) (by omega) ro (by omega)
      have p3 := H.Z.sep2 (k := rho c) (l := p) (by omega) g2 (Int.le_refl p)
      refine z_t (by omega) (k_Runs_pair (w := w) (x := a 57 o - w) (y := a 55 c) t1 t2 s1 t8 s2 (by omega) oc hc ew.symm rfl rfl (by omega) (by omega) (by omega) (by omega) (by omega) (by omega) (by omega) (fun a' A => ⟨by omega, ?_⟩))
      obtain ⟨b', P, W⟩ := k_m_pairStep (X := X) (b := b) (fr_ := fr_) (t := t) (o := rho o) (c := rho c) (w := w) H.nq (by omega) (by omega) ro (by omega) (by omega) (by omega) (by omega) (by omega) (by rw [← ew, ko.2.1, k.2.1, eo, ec, bo, bg])
      obtain ⟨H', F, le, w1, e63⟩ := H.step fc hc fo oc cls Co (by omega) ew.symm A P
      have ec' := (H'.N.en c fc hc).1 (H'.nd c (Int.le_refl c) hc)
      have bg' := H'.N.bg c fc hc
      have k' := H'.Z.k1 (rho c) (by omega) g2 (by rw [P.fr 141 (by decide) (by omega)]; exact g3)
      refine ih (v4 + 1) a' b' (q + 1) H' (by rw [e63]; exact cl) ct tp (by omega) (by omega) (by omega) (fun a2 b2 q2 H2 F2 W2 => h a2 b2 q2 H2 (F.tr F2) (fun Kf hk => ?_))
      have hk2 := W Kf (W2 Kf hk)
      refine sg_m_pairsUp_42 (z_f (by decide) ⟨by omega, by omega, z_f (by omega) (k_m_nearest (by omega) g1 (by omega) sbm g3 (fun nn => absurd cm (nn (rho o) o1 ro)) (fun j u v w _ => ?_))⟩)
      · -- the same opener
        rename_i mxj
        have ej : j = rho o := by
          obtain ⟨r, x, y, e⟩ := H.N.lv j u (by omega) w.1 w.2.2.1
          have rc : r < c := by
            rcases Int.lt_trichotomy r c with z | z | z
            · exact z
            · rw [z] at e; omega
            · have := H.N.mo c r fc z y; omega
          have cr := (H.cnd x rc hc cls).mpr (by rw [e]; exact w)
          rcases Int.lt_trichotomy r o with z | z | z
          · have := H.N.mo r o x z hr
            exact absurd cm (mxj (rho o) (by omega) ro)
          · rw [← e, z]
          · exact absurd cr (mx r z rc)
        rw [ej]
        exact z_t (by omega) ⟨by omega, by omega, hk2⟩
/-- all closers from c on -/
theorem k_resolve2 : ∀ (n : Nat) (c k : Int) (a b : qM) (q : Nat), p - k = n → zRs a b S p q first R rho fr_ m c → first ≤ c → c ≤ R → fr_ ≤ k → (∀ r, first ≤ r → r < c → rho r < k) → (c < R → k ≤ rho c) →
    (∀ a' b' q', zRs a' b' S p q' first R rho fr_ m R → zRf a a' b b' q q' first fr_ (S p) → (∀ Kf : qM → Prop, Kf b' → L_m_pairsUp_2 X fr_ p k b Kf) → c_Runs_cut X first a' KV) → L_Runs_resolve_2 X 47 first c a KV := by
  intro n
  induction n with
  | zero =>
    intro c k a b q hk H fc cR fk lo hi h
    obtain ⟨t1, t2, t3, t4, t5, t6, t7, t8⟩ := H.N.sz
    have e : c = R := by
      by_cases z : c < R
      · have := (H.N.rg c fc z).2.1; have := hi z; omega
      · omega
    refine sg_Runs_resolve_2 q_row_47 (k_Row_size q_row_54 (z_t (by omega) ?_))
    rw [e] at H
    exact h a b q H zRf.rf (fun Kf hk2 => sg_m_pairsUp_2 (z_t (by omega) hk2))
  | succ n ih =>
    intro c k a b q hk H fc cR fk lo hi h
    obtain ⟨t1, t2, t3, t4, t5, t6, t7, t8⟩ := H.N.sz
    obtain ⟨s1, s2, s3, s4⟩ := H.sm
    have ql := H.Z.qle
    by_cases hit : c < R ∧ rho c = k
    · obtain ⟨hc, ek⟩ := hit
      obtain ⟨g1, g2, g3⟩ := H.N.rg c fc hc
      obtain ⟨d1, d2, d3, d4, d5, d6⟩ := H.N.dt c fc hc
      have n7 := H.nd c (Int.le_refl c) hc
      have lo' : ∀ r, first ≤ r → r < c + 1 → rho r < k + 1 := fun r u v => by
        by_cases z : r = c
        · rw [z]; omega
        · have := lo r u (by omega); omega
      have hi' : c + 1 < R → k + 1 ≤ rho (c + 1) := fun z => by have := H.N.mo c (c + 1) fc (by omega) z; omega
      rw [ek] at g3 n7
      refine sg_Runs_resolve_2 q_row_47 (k_Row_size q_row_54 (z_f (by omega) ?_))
      by_cases cl : a 63 c = 1
      · have bd := H.bd c fc hc
        refine k_closer (t := p) fc hc 240 0 a b q H cl (by omega) (Int.le_refl p) (by omega) (by decide) (by decide) (fun a' b' q' H' F W => ?_)
        refine ih (c + 1) (k + 1) a' b' q' (by omega) H' (by omega) (by omega) (by omega) lo' hi' (fun a2 b2 q2 H2 F2 W2 => h a2 b2 q2 H2 (F.tr F2) (fun Kf hk2 => ?_))
        have := W Kf (by rw [ek]; exact W2 Kf hk2)
        rw [ek] at this d3
        exact sg_m_pairsUp_2 (z_f (by omega) ⟨by omega, by omega, z_f (fun z => z g3) ⟨by omega, by omega, z_f (by omega) ⟨by omega, by omega, z_f (fun z => z n7) this⟩⟩⟩)
      · refine sg_Runs_resolve_16 q_row_47 (z_f (by decide) (k_Row_at q_row_62 (by omega) ?_))
        rw [zT_in (by omega) (by omega)]
        refine z_t cl ⟨by omega, ih (c + 1) (k + 1) a b q (by omega) H.up (by omega) (by omega) (by omega) lo' hi' (fun a2 b2 q2 H2 F2 W2 => h a2 b2 q2 H2 F2 (fun Kf hk2 => ?_))⟩
        rw [ek] at d3 d5
        exact sg_m_pairsUp_2 (z_f (by omega) ⟨by omega, by omega, z_f (fun z => z g3) ⟨by omega, by omega, z_t (by omega) (sg_m_pairsUp_42 (z_t rfl ⟨by omega, W2 Kf hk2⟩))⟩⟩)
    · -- a piece that is no run to be looked at
      have skip : b 141 k ≠ 1 ∨ b 147 k ≠ 0 := by
        by_cases z1 : b 141 k = 1
        · by_cases z2 : b 147 k = 0
          · exfalso
            obtain ⟨r, u, v, e⟩ := H.N.lv k fk (by omega) z1 z2
            rcases Int.lt_trichotomy r c with z | z | z
            · have := lo r u z; omega
            · rw [z] at v e; exact hit ⟨v, e⟩
            · have := H.N.mo c r fc z v; have := hi (by omega); omega
          · exact Or.inr z2
        · exact Or.inl z1
      refine ih c (k + 1) a b q (by omega) H fc cR (by omega) (fun r u v => by have := lo r u v; omega) (fun z => by
        have h1 := hi z
        have : rho c ≠ k := fun y => hit ⟨z, y⟩
        omega) (fun a2 b2 q2 H2 F2 W2 => h a2 b2 q2 H2 F2 (fun Kf hk2 => ?_))
      have go : L_m_pairsUp_42 X fr_ p k 0 b Kf := sg_m_pairsUp_42 (z_t rfl ⟨by omega, W2 Kf hk2⟩)
      refine sg_m_pairsUp_2 (z_f (by omega) ⟨by omega, by omega, z_c (fun _ => go) (fun y => ⟨by omega, by omega, z_c (fun _ => go) (fun _ => ⟨by omega, by omega, z_c (fun _ => go) (fun w => ?_)⟩)⟩)⟩)
      exact absurd (Decidable.not_not.mp w) (skip.resolve_left (fun x => x (Decidable.not_not.mp y)))
end Resolve2
