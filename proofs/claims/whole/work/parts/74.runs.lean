/-! Runs of * and the pieces that they are. -/
/-- runs first .. R - 1 of the class are the pieces rho r of the model, from fr_ on -/
def zRn (a b : qM) (S : Int → Int) (p : Int) (q : Nat) (first R : Int) (rho : Int → Int) (fr_ : Int) : Prop := (a 54 1 = R ∧ a 56 1 = R ∧ a 58 1 = R ∧ a 60 1 = R ∧ a 62 1 = R ∧ 0 ≤ first ∧ first ≤ R ∧ R ≤ 240) ∧ (∀ r, first ≤ r → r < R → fr_ ≤ rho r ∧ rho r < p ∧ b 141 (rho r) = 1) ∧ (∀ r r', first ≤ r → r < r' → r' < R → rho r < rho r') ∧ (∀ r, first ≤ r → r < R → a 59 r = b 143 (rho r) ∧ a 61 r = b 144 (rho r) ∧ a 63 r = b 145 (rho r) ∧ (b 144 (rho r) = 0 ∨ b 144 (rho r) = 1) ∧ (b 145 (rho r) = 0 ∨ b 145 (rho r) = 1) ∧ (b 147 (rho r) = 0 ∨ b 147 (rho r) = 1)) ∧ (∀ r, first ≤ r → r < R → a 55 r = S (rho r) + zCw b (rho r) q) ∧ (∀ r, first ≤ r → r < R → (b 147 (rho r) = 0 → a 57 r = S (rho r + 1) - zOu b (rho r) q) ∧ (b 147 (rho r) = 1 → a 57 r = a 55 r ∨ (b 144 (rho r) = 0 ∧ a 57 r = S (rho r + 1) - zOu b (rho r) q))) ∧ (∀ k, fr_ ≤ k → k < p → b 141 k = 1 → b 147 k = 0 → ∃ r, first ≤ r ∧ r < R ∧ rho r = k)
theorem zRn.mk {a b : qM} {S : Int → Int} {p : Int} {q : Nat} {first R : Int} {rho : Int → Int} {fr_ : Int} (sz : a 54 1 = R ∧ a 56 1 = R ∧ a 58 1 = R ∧ a 60 1 = R ∧ a 62 1 = R ∧ 0 ≤ first ∧ first ≤ R ∧ R ≤ 240) (rg : ∀ r, first ≤ r → r < R → fr_ ≤ rho r ∧ rho r < p ∧ b 141 (rho r) = 1) (mo : ∀ r r', first ≤ r → r < r' → r' < R → rho r < rho r') (dt : ∀ r, first ≤ r → r < R → a 59 r = b 143 (rho r) ∧ a 61 r = b 144 (rho r) ∧ a 63 r = b 145 (rho r) ∧ (b 144 (rho r) = 0 ∨ b 144 (rho r) = 1) ∧ (b 145 (rho r) = 0 ∨ b 145 (rho r) = 1) ∧ (b 147 (rho r) = 0 ∨ b 147 (rho r) = 1)) (bg : ∀ r, first ≤ r → r < R → a 55 r = S (rho r) + zCw b (rho r) q) (en : ∀ r, first ≤ r → r < R → (b 147 (rho r) = 0 → a 57 r = S (rho r + 1) - zOu b (rho r) q) ∧ (b 147 (rho r) = 1 → a 57 r = a 55 r ∨ (b 144 (rho r) = 0 ∧ a 57 r = S (rho r + 1) - zOu b (rho r) q))) (lv : ∀ k, fr_ ≤ k → k < p → b 141 k = 1 → b 147 k = 0 → ∃ r, first ≤ r ∧ r < R ∧ rho r = k) : zRn a b S p q first R rho fr_ := ⟨sz, rg, mo, dt, bg, en, lv⟩
theorem zRn.sz {a b : qM} {S : Int → Int} {p : Int} {q : Nat} {first R : Int} {rho : Int → Int} {fr_ : Int} (h : zRn a b S p q first R rho fr_) : a 54 1 = R ∧ a 56 1 = R ∧ a 58 1 = R ∧ a 60 1 = R ∧ a 62 1 = R ∧ 0 ≤ first ∧ first ≤ R ∧ R ≤ 240 := h.1
theorem zRn.rg {a b : qM} {S : Int → Int} {p : Int} {q : Nat} {first R : Int} {rho : Int → Int} {fr_ : Int} (h : zRn a b S p q first R rho fr_) : ∀ r, first ≤ r → r < R → fr_ ≤ rho r ∧ rho r < p ∧ b 141 (rho r) = 1 := h.2.1
theorem zRn.mo {a b : qM} {S : Int → Int} {p : Int} {q : Nat} {first R : Int} {rho : Int → Int} {fr_ : Int} (h : zRn a b S p q first R rho fr_) : ∀ r r', first ≤ r → r < r' → r' < R → rho r < rho r' := h.2.2.1
theorem zRn.dt {a b : qM} {S : Int → Int} {p : Int} {q : Nat} {first R : Int} {rho : Int → Int} {fr_ : Int} (h : zRn a b S p q first R rho fr_) : ∀ r, first ≤ r → r < R → a 59 r = b 143 (rho r) ∧ a 61 r = b 144 (rho r) ∧ a 63 r = b 145 (rho r) ∧ (b 144 (rho r) = 0 ∨ b 144 (rho r) = 1) ∧ (b 145 (rho r) = 0 ∨ b 145 (rho r) = 1) ∧ (b 147 (rho r) = 0 ∨ b 147 (rho r) = 1) := h.2.2.2.1
theorem zRn.bg {a b : qM} {S : Int → Int} {p : Int} {q : Nat} {first R : Int} {rho : Int → Int} {fr_ : Int} (h : zRn a b S p q first R rho fr_) : ∀ r, first ≤ r → r < R → a 55 r = S (rho r) + zCw b (rho r) q := h.2.2.2.2.1
theorem zRn.en {a b : qM} {S : Int → Int} {p : Int} {q : Nat} {first R : Int} {rho : Int → Int} {fr_ : Int} (h : zRn a b S p q first R rho fr_) : ∀ r, first ≤ r → r < R → (b 147 (rho r) = 0 → a 57 r = S (rho r + 1) - zOu b (rho r) q) ∧ (b 147 (rho r) = 1 → a 57 r = a 55 r ∨ (b 144 (rho r) = 0 ∧ a 57 r = S (rho r + 1) - zOu b (rho r) q)) := h.2.2.2.2.2.1
theorem zRn.lv {a b : qM} {S : Int → Int} {p : Int} {q : Nat} {first R : Int} {rho : Int → Int} {fr_ : Int} (h : zRn a b S p q first R rho fr_) : ∀ k, fr_ ≤ k → k < p → b 141 k = 1 → b 147 k = 0 → ∃ r, first ≤ r ∧ r < R ∧ rho r = k := h.2.2.2.2.2.2
def zBrk (a : qM) (r c : Int) : Prop := (a 63 r = 1 ∨ a 61 c = 1) ∧ (a 59 r + a 59 c) % 3 = 0 ∧ a 59 r % 3 ≠ 0
def zCnd (a : qM) (r c : Int) : Prop := a 61 r = 1 ∧ a 55 r < a 57 r ∧ ¬ zBrk a r c
def zFit (b : qM) (k c : Int) : Prop := ¬ ((b 144 k ≠ 0 ∧ b 145 k ≠ 0) ∨ (b 144 c ≠ 0 ∧ b 145 c ≠ 0)) ∨ (b 143 k + b 143 c) % 3 ≠ 0 ∨ (b 143 k % 3 = 0 ∧ b 143 c % 3 = 0)
def zCnm (b : qM) (k c : Int) : Prop := b 141 k = 1 ∧ b 144 k ≠ 0 ∧ b 147 k = 0 ∧ 0 < b 146 k ∧ zFit b k c
section Runs
variable {X : Nat × (Nat → Int32)} {a b s : qM} {K : Int → qM → Prop} {KV : qM → Prop} {R first c : Int}
theorem k_Runs_left {r : Int} (h54 : a 54 1 = R) (h56 : a 56 1 = R) (hR : R ≤ 240) (r0 : 0 ≤ r) (rR : r < R) (b1 : -100000 ≤ a 57 r - a 55 r) (b2 : a 57 r - a 55 r ≤ 100000) (h : K (a 57 r - a 55 r) a) : c_Runs_left X r a K := by
  refine sg_Runs_left (k_Row_at q_row_56 (by omega) (k_Row_at q_row_54 (by omega) ?_))
  rw [zT_in r0 (by omega), zT_in r0 (by omega)]
  have e1 : a (56 + 1) r = a 57 r := rfl
  have e2 : a (54 + 1) r = a 55 r := rfl
  exact ⟨by omega, h⟩
theorem k_Runs_breaksRule {r : Int} (h58 : a 58 1 = R) (h60 : a 60 1 = R) (h62 : a 62 1 = R) (hR : R ≤ 240) (r0 : 0 ≤ r) (rR : r < R) (c0 : 0 ≤ c) (cR : c < R) (s1 : 0 ≤ a 59 r) (s2 : a 59 r ≤ 240) (s3 : 0 ≤ a 59 c) (s4 : a 59 c ≤ 240) (h1 : zBrk a r c → K 1 a) (h0 : ¬ zBrk a r c → K 0 a) : c_Runs_breaksRule X r c a K := by
  have tail : ∀ t0 : Int, (t0 = 0 ↔ ¬ (a 63 r = 1 ∨ a 61 c = 1)) → L_Runs_breaksRule_29 X r c t0 a K := by
    intro t0 ht
    refine sg_Runs_breaksRule_29 (k_Row_at q_row_58 (by omega) (k_Row_at q_row_58 (by omega) ?_))
    rw [zT_in r0 (by omega), zT_in c0 (by omega), show a (58 + 1) r = a 59 r from rfl, show a (58 + 1) c = a 59 c from rfl, Int.tmod_eq_emod_of_nonneg (by omega), Int.tmod_eq_emod_of_nonneg s1]
    refine ⟨by omega, z_c (fun e => h0 (fun z => ht.mp e z.1)) (fun e => z_c (fun e2 => h0 (fun z => e2 z.2.1)) (fun e2 => z_c (fun e3 => h0 (fun z => z.2.2 e3)) (fun e3 => h1 ⟨?_, Decidable.not_not.mp e2, e3⟩)))⟩
    by_cases z : a 63 r = 1 ∨ a 61 c = 1
    · exact z
    · exact absurd (ht.mpr z) e
  refine sg_Runs_breaksRule (k_Row_at q_row_62 (by omega) ?_)
  rw [zT_in r0 (by omega), show a (62 + 1) r = a 63 r from rfl]
  refine z_c (fun e => tail 1 ⟨fun z => absurd z (by decide), fun z => absurd (Or.inl e) z⟩) (fun e => k_Row_at q_row_60 (by omega) ?_)
  rw [zT_in c0 (by omega), show a (60 + 1) c = a 61 c from rfl]
  refine z_c (fun e2 => tail 0 ⟨fun _ z => z.elim e e2, fun _ => rfl⟩) (fun e2 => tail 1 ⟨fun z => absurd z (by decide), fun z => absurd (Or.inr (Decidable.not_not.mp e2)) z⟩)
theorem k_Runs_openerOf (sz : a 54 1 = R ∧ a 56 1 = R ∧ a 58 1 = R ∧ a 60 1 = R ∧ a 62 1 = R) (hR : R ≤ 240) (f0 : 0 ≤ first) (fc : first ≤ c) (cR : c < R) (sb : ∀ r, first ≤ r → r < R → 0 ≤ a 59 r ∧ a 59 r ≤ 240 ∧ 0 ≤ a 55 r ∧ a 55 r ≤ 240 ∧ 0 ≤ a 57 r ∧ a 57 r ≤ 240) (hn : (∀ r, first ≤ r → r < c → ¬ zCnd a r c) → K (-1) a) (hy : ∀ o, first ≤ o → o < c → zCnd a o c → (∀ r, o < r → r < c → ¬ zCnd a r c) → K o a) : c_Runs_openerOf X c first a K := by
  obtain ⟨h54, h56, h58, h60, h62⟩ := sz
  refine sg_Runs_openerOf ⟨by omega, ?_⟩
  have L : ∀ (m : Nat) (r : Int), r - first + 1 = m → r < c → (∀ r', r < r' → r' < c → ¬ zCnd a r' c) → L_Runs_openerOf_4 X c first r a K := by
    intro m
    induction m with
    | zero =>
      intro r hr hrc hi
      exact sg_Runs_openerOf_4 (z_t (by omega) (hn (fun r' u v => hi r' (by omega) v)))
    | succ m ih =>
      intro r hr hrc hi
      have sr := sb r (by omega) (by omega)
      have sc := sb c fc cR
      have next : ¬ zCnd a r c → (-2147483648 ≤ (r + (-1)) ∧ (r + (-1)) < 2147483648) ∧ L_Runs_openerOf_4 X c first (r + (-1)) a K := fun ne => ⟨by omega, ih (r + (-1)) (by omega) (by omega) (fun r' u v => by
        by_cases z : r' = r
        · rw [z]; exact ne
        · exact hi r' (by omega) v)⟩
      refine sg_Runs_openerOf_4 (z_f (by omega) (k_Row_at q_row_60 (by omega) ?_))
      rw [zT_in (by omega) (by omega), show a (60 + 1) r = a 61 r from rfl]
      refine z_c (fun e => next (fun z => e z.1)) (fun e => k_Runs_left h54 h56 hR (by omega) (by omega) (by omega) (by omega) (z_c (fun e2 => next (fun z => by have := z.2.1; omega)) (fun e2 => k_Runs_breaksRule h58 h60 h62 hR (by omega) (by omega) (by omega) cR sr.1 sr.2.1 sc.1 sc.2.1 (fun br => z_t (by decide) (next (fun z => z.2.2 br))) (fun br => z_f (fun z => z rfl) (hy r (by omega) hrc ⟨Decidable.not_not.mp e, by omega, br⟩ hi)))))
  exact L (c - first).toNat (c - 1) (by omega) (by omega) (fun r' u v => by omega)
theorem k_m_fit {k : Int} (k0 : 0 ≤ k) (kn : k < 241) (c0 : 0 ≤ c) (cn : c < 241) (s1 : 0 ≤ b 143 k) (s2 : b 143 k ≤ 240) (s3 : 0 ≤ b 143 c) (s4 : b 143 c ≤ 240) (h1 : zFit b k c → K 1 b) (h0 : ¬ zFit b k c → K 0 b) : c_m_fit X k c b K := by
  have tail : ∀ t0 : Int, (t0 = 0 ↔ ¬ ((b 144 k ≠ 0 ∧ b 145 k ≠ 0) ∨ (b 144 c ≠ 0 ∧ b 145 c ≠ 0))) → L_m_fit_41 X k c t0 b K := by
    intro t0 ht
    refine sg_m_fit_41 (z_c (fun e => h1 (Or.inl (ht.mp e))) (fun e => ?_))
    rw [Int.tmod_eq_emod_of_nonneg (by omega), Int.tmod_eq_emod_of_nonneg s1, Int.tmod_eq_emod_of_nonneg s3]
    have nb : ¬ ¬ ((b 144 k ≠ 0 ∧ b 145 k ≠ 0) ∨ (b 144 c ≠ 0 ∧ b 145 c ≠ 0)) := fun z => e (ht.mpr z)
    refine ⟨k0, kn, c0, cn, by omega, z_c (fun e2 => h1 (Or.inr (Or.inl e2))) (fun e2 => ⟨k0, kn, z_c (fun e3 => h0 ?_) (fun e3 => ⟨c0, cn, z_c (fun e4 => h0 ?_) (fun e4 => h1 (Or.inr (Or.inr ⟨Decidable.not_not.mp e3, Decidable.not_not.mp e4⟩)))⟩)⟩)⟩
    · exact fun z => z.elim nb (fun y => y.elim e2 (fun y => e3 y.1))
    · exact fun z => z.elim nb (fun y => y.elim e2 (fun y => e4 y.2))
  have yes : (b 144 k ≠ 0 ∧ b 145 k ≠ 0) ∨ (b 144 c ≠ 0 ∧ b 145 c ≠ 0) → L_m_fit_41 X k c 1 b K := fun y => tail 1 ⟨fun z => absurd z (by decide), fun z => absurd y z⟩
  have no : ¬ ((b 144 k ≠ 0 ∧ b 145 k ≠ 0) ∨ (b 144 c ≠ 0 ∧ b 145 c ≠ 0)) → L_m_fit_41 X k c 0 b K := fun y => tail 0 ⟨fun _ => y, fun _ => rfl⟩
  refine sg_m_fit ⟨k0, kn, z_c (fun e => ⟨c0, cn, z_c (fun e2 => no ?_) (fun e2 => ⟨c0, cn, z_c (fun e3 => no ?_) (fun e3 => yes (Or.inr ⟨e2, e3⟩))⟩)⟩) (fun e => ⟨k0, kn, z_c (fun e2 => yes (Or.inl ⟨e, e2⟩)) (fun e2 => ⟨c0, cn, z_c (fun e3 => no ?_) (fun e3 => ⟨c0, cn, z_c (fun e4 => no ?_) (fun e4 => yes (Or.inr ⟨e3, e4⟩))⟩)⟩)⟩)⟩
  · exact fun z => z.elim (fun y => y.1 e) (fun y => y.1 e2)
  · exact fun z => z.elim (fun y => y.1 e) (fun y => y.2 e3)
  · exact fun z => z.elim (fun y => e2 y.2) (fun y => y.1 e3)
  · exact fun z => z.elim (fun y => e2 y.2) (fun y => y.2 e4)
theorem k_m_nearest {f : Int} (f0 : 0 ≤ f) (fc : f ≤ c) (cn : c < 241) (sb : ∀ k, f ≤ k → k ≤ c → b 141 k = 1 → 0 ≤ b 143 k ∧ b 143 k ≤ 240) (sc : b 141 c = 1) (hn : (∀ k, f ≤ k → k < c → ¬ zCnm b k c) → K (-1) b) (hy : ∀ o, f ≤ o → o < c → zCnm b o c → (∀ k, o < k → k < c → ¬ zCnm b k c) → K o b) : c_m_nearest X f c b K := by
  refine sg_m_nearest ?_
  have L : ∀ (m : Nat) (k v : Int), c - k = m → f ≤ k → ((v = -1 ∧ ∀ j, f ≤ j → j < k → ¬ zCnm b j c) ∨ (f ≤ v ∧ v < k ∧ zCnm b v c ∧ ∀ j, v < j → j < k → ¬ zCnm b j c)) → L_m_nearest_5 X c v k b K := by
    intro m
    induction m with
    | zero =>
      intro k v hk fk hi
      refine sg_m_nearest_5 (z_t (by omega) ?_)
      have e : k = c := by omega
      rcases hi with ⟨e1, h⟩ | ⟨h1, h2, h3, h4⟩
      · rw [e1]; exact hn (fun j u w => h j u (by omega))
      · exact hy v h1 (by omega) h3 (fun j u w => h4 j u (by omega))
    | succ m ih =>
      intro k v hk fk hi
      have next : ¬ zCnm b k c → (-2147483648 ≤ (k + 1) ∧ (k + 1) < 2147483648) ∧ L_m_nearest_5 X c v (k + 1) b K := by
        intro ne
        refine ⟨by omega, ih (k + 1) v (by omega) (by omega) ?_⟩
        rcases hi with ⟨e1, h⟩ | ⟨h1, h2, h3, h4⟩
        · refine Or.inl ⟨e1, fun j u w => ?_⟩
          by_cases z : j = k
          · rw [z]; exact ne
          · exact h j u (by omega)
        · refine Or.inr ⟨h1, by omega, h3, fun j u w => ?_⟩
          by_cases z : j = k
          · rw [z]; exact ne
          · exact h4 j u (by omega)
      refine sg_m_nearest_5 (z_f (by omega) ⟨by omega, by omega, z_c (fun e => next (fun z => e z.1)) (fun e => ⟨by omega, by omega, z_c (fun e2 => next (fun z => z.2.1 e2)) (fun e2 => ⟨by omega, by omega, z_c (fun e3 => next (fun z => e3 z.2.2.1)) (fun e3 => ⟨by omega, by omega, z_c (fun e4 => next (fun z => by have := z.2.2.2.1; omega)) (fun e4 => ?_)⟩)⟩)⟩)⟩)
      have s1 := sb k fk (by omega) (Decidable.not_not.mp e)
      have s2 := sb c fc (Int.le_refl c) sc
      refine k_m_fit (by omega) (by omega) (by omega) cn s1.1 s1.2 s2.1 s2.2 (fun ft => z_f (by decide) ⟨by omega, ih (k + 1) k (by omega) (by omega) (Or.inr ⟨fk, by omega, ⟨Decidable.not_not.mp e, e2, Decidable.not_not.mp e3, by omega, ft⟩, fun j u w => by omega⟩)⟩) (fun ft => z_t rfl (next (fun z => ft z.2.2.2.2)))
  exact L (c - f).toNat f (-1) (by omega) (Int.le_refl f) (Or.inl ⟨rfl, fun j u w => by omega⟩)
end Runs
