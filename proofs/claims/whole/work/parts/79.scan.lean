/-! Looking ahead among written characters. -/
/-- where what is the same as at x ends -/
def zRE (b : qM) (m x : Int) : Int := zU (fun i => decide (b 138 i = b 138 x)) (x + 1) m
def zFk (i o : Int) : Prop := ¬ zGap i ∧ (¬ zSign i ∨ zGap o ∨ zSign o)
/-- how long the name in [ and ] from x on is, or 0 -/
def zNb (b : qM) (m x : Int) : Int := if (x < m ∧ b 138 x = 91) ∧ (1 ≤ zWord (b 138) (x + 1) m - (x + 1) ∧ zWord (b 138) (x + 1) m - (x + 1) ≤ 6) ∧ zI b m (zWord (b 138) (x + 1) m) = 93 then zWord (b 138) (x + 1) m - (x + 1) else 0
section Scan
variable {X : Nat × (Nat → Int32)} {a b s : qM} {K : Int → qM → Prop} {KV : qM → Prop} {m x : Int}
theorem zI_in {i : Int} (h0 : 0 ≤ i) (h1 : i < m) : zI b m i = b 138 i := by unfold zI; rw [if_pos ⟨h0, h1⟩]
theorem zI_out {i : Int} (h : ¬ (0 ≤ i ∧ i < m)) : zI b m i = -1 := by unfold zI; rw [if_neg h]
theorem zRE_is (h : x < m) : x < zRE b m x ∧ zRE b m x ≤ m ∧ (∀ i, x ≤ i → i < zRE b m x → b 138 i = b 138 x) ∧ (zRE b m x = m ∨ b 138 (zRE b m x) ≠ b 138 x) := by
  obtain ⟨h1, h2, h3, h4⟩ := zU_is (p := fun i => decide (b 138 i = b 138 x)) (show x + 1 ≤ m by omega)
  refine ⟨by unfold zRE; omega, h2, fun i u v => ?_, h4.imp id (fun e => of_decide_eq_false e)⟩
  by_cases e : i = x
  · rw [e]
  · exact of_decide_eq_true (h3 i (by omega) v)
theorem zRE_eq {r : Int} (h0 : x < r) (h1 : r ≤ m) (h2 : ∀ i, x < i → i < r → b 138 i = b 138 x) (h3 : r = m ∨ b 138 r ≠ b 138 x) : zRE b m x = r :=
  zU_eq (p := fun i => decide (b 138 i = b 138 x)) (by omega) h1 (fun i u v => decide_eq_true (h2 i (by omega) v)) (h3.imp id (fun e => decide_eq_false e))
theorem k_Il_runEnd (H : zWr a b m) (x0 : 0 ≤ x) (xm : x < m) (h : K (zRE b m x) a) : c_Il_runEnd X x a K := by
  obtain ⟨m0, m2⟩ := H.m0
  obtain ⟨s1, s2⟩ := H.sz
  obtain ⟨r1, r2, r3, r4⟩ := zRE_is (b := b) xm
  refine sg_Il_runEnd ⟨by omega, ?_⟩
  have L : ∀ (n : Nat) (v : Int), zRE b m x - v = n → x < v → L_Il_runEnd_4 X x v a K := by
    intro n
    induction n with
    | zero =>
      intro v hv xv
      have e : v = zRE b m x := by omega
      refine sg_Il_runEnd_4 (k_Row_size q_row_45 (z_c (fun le => k_Row_size q_row_45 ?_) (fun lt => k_Row_at q_row_45 (by omega) (k_Row_at q_row_45 (by omega) ?_))))
      · rw [s1]; have : zRE b m x = m := by omega
        rw [this] at h; exact h
      · rw [H.zt, H.zt, zI_in (by omega) (by omega), zI_in x0 xm, e]
        exact z_f (r4.resolve_left (by omega)) h
    | succ n ih =>
      intro v hv xv
      refine sg_Il_runEnd_4 (k_Row_size q_row_45 (z_f (by omega) (k_Row_at q_row_45 (by omega) (k_Row_at q_row_45 (by omega) ?_))))
      rw [H.zt, H.zt, zI_in (by omega) (by omega), zI_in x0 xm]
      exact z_t (r3 v (by omega) (by omega)) ⟨by omega, ih (v + 1) (by omega) (by omega)⟩
  exact L (zRE b m x - (x + 1)).toNat (x + 1) (by omega) (by omega)
theorem k_m_run (H : zWr a b m) (x0 : 0 ≤ x) (xm : x < m) (h : K (zRE b m x - x) b) : c_m_run X x b K := by
  obtain ⟨m0, m2⟩ := H.m0
  obtain ⟨s1, s2⟩ := H.sz
  obtain ⟨r1, r2, r3, r4⟩ := zRE_is (b := b) xm
  refine sg_m_run ?_
  have L : ∀ (n : Nat) (v : Int), zRE b m x - v = n → x ≤ v → L_m_run_2 X x v b K := by
    intro n
    induction n with
    | zero =>
      intro v hv xv
      have e : v = zRE b m x := by omega
      refine sg_m_run_2 (k_m_in s2 m0 m2 (k_m_in s2 m0 m2 ?_))
      rw [zI_in (i := x) x0 xm, e]
      refine z_t ?_ ⟨by omega, h⟩
      rcases r4 with z | z
      · rw [z, zI_out (by omega)]
        have := (H.ch x x0 xm).2; unfold zChr at this; omega
      · by_cases y : zRE b m x < m
        · rw [zI_in (by omega) y]; exact z
        · rw [zI_out (by omega)]; have := (H.ch x x0 xm).2; unfold zChr at this; omega
    | succ n ih =>
      intro v hv xv
      refine sg_m_run_2 (k_m_in s2 m0 m2 (k_m_in s2 m0 m2 ?_))
      rw [zI_in (i := x) x0 xm, zI_in (i := v) (by omega) (by omega)]
      exact z_f (fun z => z (r3 v xv (by omega))) ⟨by omega, ih (v + 1) (by omega) (by omega)⟩
  exact L (zRE b m x - x).toNat x (by omega) (Int.le_refl x)
/-- the next run of just n ticks, in both -/
theorem k_ticks (H : zWr a b m) {n : Int} : ∀ (d : Nat) (x v4 : Int), m - x ≤ d → 0 ≤ x → x ≤ m → 0 ≤ v4 → v4 ≤ x → ∃ r, (r = -1 ∨ (x ≤ r ∧ r < m ∧ b 138 r = 96 ∧ zRE b m r - r = n)) ∧ (∀ K : Int → qM → Prop, K r a → L_Il_findTicks_5 X n x v4 a K) ∧ (∀ K : Int → qM → Prop, K r b → L_m_nextRun_2 X n x b K) := by
  obtain ⟨m0, m2⟩ := H.m0
  obtain ⟨s1, s2⟩ := H.sz
  intro d
  induction d with
  | zero =>
    intro x v4 hd x0 xm h1 h2
    have e : x = m := by omega
    refine ⟨-1, Or.inl rfl, fun K hk => sg_Il_findTicks_5 (z_c (fun _ => hk) (fun _ => k_Row_size q_row_45 (z_t (by omega) hk))), fun K hk => sg_m_nextRun_2 (z_t (by omega) hk)⟩
  | succ d ih =>
    intro x v4 hd x0 xm h1 h2
    by_cases e : x = m
    · exact ⟨-1, Or.inl rfl, fun K hk => sg_Il_findTicks_5 (z_c (fun _ => hk) (fun _ => k_Row_size q_row_45 (z_t (by omega) hk))), fun K hk => sg_m_nextRun_2 (z_t (by omega) hk)⟩
    · have lt : x < m := by omega
      obtain ⟨r1, r2, r3, r4⟩ := zRE_is (b := b) lt
      obtain ⟨r, hr, A, B⟩ := ih (zRE b m x) (v4 + 1) (by omega) (by omega) r2 (by omega) (by omega)
      by_cases t : b 138 x = 96
      · by_cases hit : zRE b m x - x = n
        · refine ⟨x, Or.inr ⟨Int.le_refl x, lt, t, hit⟩, fun K hk => ?_, fun K hk => ?_⟩
          · refine sg_Il_findTicks_5 (z_f (by omega) (k_Row_size q_row_45 (z_f (by omega) (k_Il_runEnd H x0 lt (k_Row_at q_row_45 (by omega) ?_)))))
            rw [H.zt, zI_in x0 lt]
            exact z_f (fun z => z t) ⟨by omega, z_f (fun z => z hit) hk⟩
          · refine sg_m_nextRun_2 (z_f (by omega) (k_m_in s2 m0 m2 ?_))
            rw [zI_in x0 lt]
            exact z_f (fun z => z t) (k_m_run H x0 lt (z_f (fun z => z hit) hk))
        · refine ⟨r, hr.imp id (fun z => ⟨by omega, z.2⟩), fun K hk => ?_, fun K hk => ?_⟩
          · refine sg_Il_findTicks_5 (z_f (by omega) (k_Row_size q_row_45 (z_f (by omega) (k_Il_runEnd H x0 lt (k_Row_at q_row_45 (by omega) ?_)))))
            rw [H.zt, zI_in x0 lt]
            exact z_f (fun z => z t) ⟨by omega, z_t hit ⟨by omega, A K hk⟩⟩
          · refine sg_m_nextRun_2 (z_f (by omega) (k_m_in s2 m0 m2 ?_))
            rw [zI_in x0 lt]
            refine z_f (fun z => z t) (k_m_run H x0 lt (z_t hit (k_m_run H x0 lt ⟨by omega, ?_⟩)))
            rw [show x + (zRE b m x - x) = zRE b m x by omega]; exact B K hk
      · refine ⟨r, hr.imp id (fun z => ⟨by omega, z.2⟩), fun K hk => ?_, fun K hk => ?_⟩
        · refine sg_Il_findTicks_5 (z_f (by omega) (k_Row_size q_row_45 (z_f (by omega) (k_Il_runEnd H x0 lt (k_Row_at q_row_45 (by omega) ?_)))))
          rw [H.zt, zI_in x0 lt]
          exact z_t t ⟨by omega, A K hk⟩
        · have walk : ∀ (c : Nat) (y : Int), zRE b m x - y = c → x ≤ y → L_m_nextRun_2 X n y b K := by
            intro c
            induction c with
            | zero => intro y hy _; rw [show y = zRE b m x by omega]; exact B K hk
            | succ c ihc =>
              intro y hy xy
              refine sg_m_nextRun_2 (z_f (by omega) (k_m_in s2 m0 m2 ?_))
              rw [zI_in (by omega) (by omega), r3 y xy (by omega)]
              exact z_t t ⟨by omega, ihc (y + 1) (by omega) (by omega)⟩
          exact walk (zRE b m x - x).toNat x (by omega) (Int.le_refl x)
theorem k_Runs_isFlank {i o : Int} (hi : i ≤ 126) (ho : o ≤ 126) (h1 : zFk i o → K 1 s) (h0 : ¬ zFk i o → K 0 s) : c_Runs_isFlank X i o s K := by
  refine sg_Runs_isFlank (k_T_isGap (fun g => z_t (by decide) (h0 (fun z => z.1 g))) (fun g => z_f (fun z => z rfl) (k_T_isSign hi (fun sg => z_f (by decide) (k_T_isGap (fun go => z_t (by decide) (h1 ⟨g, Or.inr (Or.inl go)⟩)) (fun go => z_f (fun z => z rfl) (k_T_isSign ho (fun so => z_f (by decide) (h1 ⟨g, Or.inr (Or.inr so)⟩)) (fun so => z_t rfl (h0 (fun z => z.2.elim (fun y => y sg) (fun y => y.elim go so)))))))) (fun sg => z_t rfl (h1 ⟨g, Or.inl sg⟩)))))
theorem k_m_isEdge {i : Int} (h1 : zGap i → K 1 s) (h0 : ¬ zGap i → K 0 s) : c_m_isEdge X i s K := by
  refine sg_m_isEdge (z_c (fun e => h1 (Or.inr (Or.inr e))) (fun e => z_c (fun e2 => h1 (Or.inl e2)) (fun e2 => z_c (fun e3 => h0 (by unfold zGap; omega)) (fun e3 => h1 (Or.inr (Or.inl (Decidable.not_not.mp e3)))))))
theorem k_Il_referenceEnd (H : zWr a b m) (x0 : 0 ≤ x) (xm : x ≤ m) (h : K (if 0 < zNb b m x then x + zNb b m x + 2 else x) a) : c_Il_referenceEnd X x a K := by
  obtain ⟨m0, m2⟩ := H.m0
  obtain ⟨s1, s2⟩ := H.sz
  refine sg_Il_referenceEnd (k_Row_at q_row_45 (by omega) ?_)
  rw [H.zt]
  have zero : ¬ ((x < m ∧ b 138 x = 91) ∧ (1 ≤ zWord (b 138) (x + 1) m - (x + 1) ∧ zWord (b 138) (x + 1) m - (x + 1) ≤ 6) ∧ zI b m (zWord (b 138) (x + 1) m) = 93) → K x a := fun z => by
    have e : zNb b m x = 0 := by unfold zNb; rw [if_neg z]
    rw [e, if_neg (by decide)] at h; exact h
  refine z_c (fun e => ⟨by omega, k_Row_size q_row_45 ?_⟩) (fun e => zero (fun z => e (by rw [zI_in x0 z.1.1]; exact z.1.2)))
  have lt : x < m := by
    by_cases y : x < m
    · exact y
    · rw [zI_out (by omega)] at e; omega
  rw [zI_in x0 lt] at e
  have ew : zWord (zT a 45) (x + 1) m = zWord (b 138) (x + 1) m := zU_congr (by omega) (fun i u v => by unfold zIsW; rw [H.zt, zI_in (by omega) v])
  obtain ⟨w1, w2, _, _⟩ := zWord_is (t := b 138) (show x + 1 ≤ m by omega)
  rw [s1]
  refine k_T_skipWord q_row_45 (by omega) (by omega) (by omega) ?_
  rw [ew]
  refine ⟨by omega, by omega, z_c (fun y => zero (fun z => by have := z.2.1; omega)) (fun y => z_c (fun y2 => zero (fun z => by have := z.2.1; omega)) (fun y2 => k_Row_at q_row_45 (by omega) ?_))⟩
  rw [H.zt]
  refine z_c (fun y3 => zero (fun z => y3 z.2.2)) (fun y3 => ⟨by omega, ?_⟩)
  have en : zNb b m x = zWord (b 138) (x + 1) m - (x + 1) := by unfold zNb; rw [if_pos ⟨⟨lt, e⟩, ⟨by omega, by omega⟩, Decidable.not_not.mp y3⟩]
  rw [en, if_pos (by omega), show x + (zWord (b 138) (x + 1) m - (x + 1)) + 2 = zWord (b 138) (x + 1) m + 1 by omega] at h
  exact h
theorem k_m_nameBehind (H : zWr a b m) (x0 : 0 ≤ x) (xm : x ≤ m) (h : K (zNb b m x) b) : c_m_nameBehind X x b K := by
  obtain ⟨m0, m2⟩ := H.m0
  obtain ⟨s1, s2⟩ := H.sz
  refine sg_m_nameBehind ?_
  by_cases hb : x < m ∧ b 138 x = 91
  · obtain ⟨lt, e⟩ := hb
    obtain ⟨w1, w2, w3, w4⟩ := zWord_is (t := b 138) (show x + 1 ≤ m by omega)
    -- the end
    have fin : c_m_isIn X (zWord (b 138) (x + 1) m - (x + 1)) 1 6 b (fun r12 s11 => (((r12 = 0) → K 0 s11) ∧ (¬ (r12 = 0) → (-2147483648 ≤ (x + 1) ∧ (x + 1) < 2147483648) ∧ (-2147483648 ≤ ((x + 1) + (zWord (b 138) (x + 1) m - (x + 1))) ∧ ((x + 1) + (zWord (b 138) (x + 1) m - (x + 1))) < 2147483648) ∧ c_m_in X ((x + 1) + (zWord (b 138) (x + 1) m - (x + 1))) s11 (fun r14 s13 => (((r14 ≠ 93) → K 0 s13) ∧ (¬ (r14 ≠ 93) → K (zWord (b 138) (x + 1) m - (x + 1)) s13)))))) := by
      refine k_m_isIn (fun u v => z_f (by decide) ⟨by omega, by omega, k_m_in s2 m0 m2 ?_⟩) (fun u => z_t rfl ?_)
      · rw [show x + 1 + (zWord (b 138) (x + 1) m - (x + 1)) = zWord (b 138) (x + 1) m by omega]
        refine z_c (fun y => ?_) (fun y => ?_)
        · have en : zNb b m x = 0 := by unfold zNb; rw [if_neg (fun z => y z.2.2)]
          rw [en] at h; exact h
        · have en : zNb b m x = zWord (b 138) (x + 1) m - (x + 1) := by unfold zNb; rw [if_pos ⟨⟨lt, e⟩, ⟨u, v⟩, Decidable.not_not.mp y⟩]
          rw [en] at h; exact h
      · have en : zNb b m x = 0 := by unfold zNb; rw [if_neg (fun z => u z.2.1)]
        rw [en] at h; exact h
    have L : ∀ (c : Nat) (v : Int), zWord (b 138) (x + 1) m - (x + 1) - v = c → 0 ≤ v → L_m_nameBehind_2 X x v b K := by
      intro c
      induction c with
      | zero =>
        intro v hv v0
        have ev : v = zWord (b 138) (x + 1) m - (x + 1) := by omega
        refine sg_m_nameBehind_2 (k_m_in s2 m0 m2 ?_)
        rw [zI_in x0 lt]
        refine z_f (fun z => z e) ⟨by omega, by omega, k_m_in s2 m0 m2 (k_m_isLetter (fun y => ?_) (fun _ => z_t rfl ?_))⟩
        · exfalso
          rw [show x + 1 + v = zWord (b 138) (x + 1) m by omega] at y
          rcases w4 with z | z
          · rw [z, zI_out (by omega)] at y; unfold zLet at y; omega
          · by_cases q : zWord (b 138) (x + 1) m < m
            · rw [zI_in (by omega) q] at y; exact z y
            · rw [zI_out (by omega)] at y; unfold zLet at y; omega
        · rw [ev]; exact fin
      | succ c ih =>
        intro v hv v0
        refine sg_m_nameBehind_2 (k_m_in s2 m0 m2 ?_)
        rw [zI_in x0 lt]
        refine z_f (fun z => z e) ⟨by omega, by omega, k_m_in s2 m0 m2 ?_⟩
        rw [zI_in (by omega) (by omega)]
        exact k_m_isLetter (fun _ => z_f (by decide) ⟨by omega, ih (v + 1) (by omega) (by omega)⟩) (fun y => absurd (w3 (x + 1 + v) (by omega) (by omega)) y)
    exact L (zWord (b 138) (x + 1) m - (x + 1)).toNat 0 (by omega) (Int.le_refl 0)
  · have en : zNb b m x = 0 := by unfold zNb; rw [if_neg (fun z => hb z.1)]
    rw [en] at h
    refine sg_m_nameBehind_2 (k_m_in s2 m0 m2 (z_t ?_ (k_m_isIn (fun u _ => absurd u (by decide)) (fun _ => z_t rfl h))))
    intro z
    by_cases y : x < m
    · rw [zI_in x0 y] at z; exact hb ⟨y, z⟩
    · rw [zI_out (by omega)] at z; omega
end Scan
