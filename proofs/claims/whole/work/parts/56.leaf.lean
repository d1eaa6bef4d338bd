/-! What begins a leaf. -/
def zHs (t : Int → Int) (R E : Int) : Int := zU (fun i => decide (t i = 35)) R E - R
/-- the level of a HEADING, or 0 -/
def zHd (t : Int → Int) (R E : Int) : Int := if (1 ≤ zHs t R E ∧ zHs t R E ≤ 3) ∧ zGap (zLook t E (R + zHs t R E)) then zHs t R E else 0
/-- the rest is the mark of a FENCE -/
def zFe (t : Int → Int) (R E : Int) : Prop := zLook t E R = 126 ∧ zLook t E (R + 1) = 126 ∧ zLook t E (R + 2) = 126 ∧ zSkip t (R + 3) E = E
/-- the rest is a DEFINITION -/
def zDf (t : Int → Int) (R E : Int) : Prop := zLook t E R = 91 ∧ zLook t E (zWord t (R + 1) E) = 93 ∧ zLook t E (zWord t (R + 1) E + 1) = 58 ∧ zSkip t (zWord t (R + 1) E + 2) E ≠ zWord t (R + 1) E + 2 ∧
  (1 ≤ zWord t (zSkip t (zWord t (R + 1) E + 2) E) E - zSkip t (zWord t (R + 1) E + 2) E ∧ zWord t (zSkip t (zWord t (R + 1) E + 2) E) E - zSkip t (zWord t (R + 1) E + 2) E ≤ 8) ∧ zSkip t (zWord t (zSkip t (zWord t (R + 1) E + 2) E) E) E = E ∧ 1 ≤ zWord t (R + 1) E - (R + 1) ∧ zWord t (R + 1) E - (R + 1) ≤ 6
section Leaf
variable {X : Nat × (Nat → Int32)} {s : qM} {K : Int → qM → Prop} {t : Int → Int} {R E : Int}
theorem zLook_lt {i x : Int} (h : zLook t E i = x) (hx : x ≠ -1) : i < E ∧ t i = x := by
  by_cases y : i < E
  · rw [zLook_in y] at h; exact ⟨y, h⟩
  · rw [zLook_out y] at h; exact absurd h.symm hx
theorem zHs_is (h : R ≤ E) : 0 ≤ zHs t R E ∧ R + zHs t R E ≤ E ∧ (∀ i, R ≤ i → i < R + zHs t R E → t i = 35) ∧ (R + zHs t R E = E ∨ t (R + zHs t R E) ≠ 35) := by
  obtain ⟨h1, h2, h3, h4⟩ := zU_is (p := fun i => decide (t i = 35)) h
  unfold zHs
  rw [show R + (zU (fun i => decide (t i = 35)) R E - R) = zU (fun i => decide (t i = 35)) R E by omega]
  exact ⟨by omega, h2, fun i a b => of_decide_eq_true (h3 i a b), h4.imp id (fun e => of_decide_eq_false e)⟩
theorem zHs_eq {k : Int} (h1 : 0 ≤ k) (h2 : R + k ≤ E) (h3 : ∀ i, R ≤ i → i < R + k → t i = 35) (h4 : R + k = E ∨ t (R + k) ≠ 35) : zHs t R E = k := by
  unfold zHs
  rw [zU_eq (p := fun i => decide (t i = 35)) (r := R + k) (by omega) h2 (fun i a b => decide_eq_true (h3 i a b)) (h4.imp id (fun e => decide_eq_false e))]
  omega
theorem zHd_rng (h : R ≤ E) : 0 ≤ zHd t R E ∧ zHd t R E ≤ 3 ∧ R + zHd t R E ≤ E := by
  have := zHs_is (t := t) h
  unfold zHd
  split <;> omega
theorem k_Rd_headingLevel (H : zCl s t R E) (h : K (zHd t R E) s) : c_Rd_headingLevel X s K := by
  have hE := H.En
  have hN := H.n240
  have hR := H.R0
  have hRE := H.RE
  have L : ∀ (n : Nat) (v : Int), v + n = 3 → 0 ≤ v → R + v ≤ E → (∀ i, R ≤ i → i < R + v → t i = 35) → L_Rd_headingLevel_4 X v v s K := by
    intro n
    have fin : ∀ v, 0 ≤ v → v ≤ 3 → R + v ≤ E → (∀ i, R ≤ i → i < R + v → t i = 35) → (zLook t E (R + v) = 35 → v = 3) → c_Rd_look X v s (fun r2 s1 => c_T_isGap X r2 s1 (fun r4 s3 => (((r4 = 0) → K 0 s3) ∧ (¬ (r4 = 0) → K v s3)))) := by
      intro v v0 v3 vE hv hx
      refine k_Rd_look H (by omega) (by omega) (k_T_isGap (fun g => z_f (by decide) ?_) (fun g => z_t rfl ?_))
      · have e : zHs t R E = v := zHs_eq v0 vE hv (by
          by_cases y : R + v = E
          · exact Or.inl y
          · right; intro z; have l : zLook t E (R + v) = t (R + v) := zLook_in (by omega); rw [l, z] at g; unfold zGap at g; omega)
        by_cases z : v = 0
        · have : zHd t R E = 0 := by unfold zHd; rw [if_neg (by omega)]
          rw [this] at h; rw [z]; exact h
        · have : zHd t R E = v := by unfold zHd; rw [e, if_pos ⟨by omega, g⟩]
          rw [this] at h; exact h
      · have : zHd t R E = 0 := by
          have i1 := zHs_is (t := t) hRE
          unfold zHd
          rw [if_neg]
          intro ⟨x, y⟩
          apply g
          by_cases z : zHs t R E = v
          · rw [← z]; exact y
          · exfalso
            by_cases w : zHs t R E < v
            · rcases i1.2.2.2 with u | u
              · omega
              · exact u (hv _ (by omega) (by omega))
            · have u := i1.2.2.1 (R + v) (by omega) (by omega)
              have := hx (by rw [zLook_in (by omega)]; exact u)
              omega
        rw [this] at h; exact h
    induction n with
    | zero =>
      intro v hv v0 vE hi
      exact sg_Rd_headingLevel_4 (z_t (by omega) (fin v v0 (by omega) vE hi (fun _ => by omega)))
    | succ n ih =>
      intro v hv v0 vE hi
      refine sg_Rd_headingLevel_4 (z_f (by omega) (k_Rd_look H (by omega) (by omega) (z_c (fun e => fin v v0 (by omega) vE hi (fun x => absurd x e)) (fun e => ⟨by omega, by omega, ?_⟩))))
      obtain ⟨l1, l2⟩ := zLook_lt (Decidable.not_not.mp e) (by decide)
      exact ih (v + 1) (by omega) (by omega) (by omega) (fun i x y => by
        by_cases z : i = R + v
        · rw [z]; exact l2
        · exact hi i x (by omega))
  exact sg_Rd_headingLevel (L 3 0 (by omega) (by omega) (by omega) (fun i a b => by omega))
theorem k_m_headingLevel (H : zMl s t R E) (hl : ∀ i, R ≤ i → i < E → 32 ≤ t i ∧ t i ≤ 126) (h : K (zHd t R E) s) : c_m_headingLevel X s K := by
  have hE := H.En
  have hN := H.n240
  have hR := H.R0
  have hRE := H.RE
  obtain ⟨i1, i2, i3, i4⟩ := zHs_is (t := t) hRE
  have fin : L_m_headingLevel_37 X (zHs t R E) s K := by
    refine sg_m_headingLevel_37 (k_m_isIn (fun a b => z_f (by decide) ?_) (fun a => z_t rfl ?_))
    · rw [H.rest, H.stop, H.tx]
      have yes : zGap (zLook t E (R + zHs t R E)) → K (zHs t R E) s := fun g => by
        have : zHd t R E = zHs t R E := by unfold zHd; rw [if_pos ⟨⟨a, b⟩, g⟩]
        rw [this] at h; exact h
      have no : ¬ zGap (zLook t E (R + zHs t R E)) → K 0 s := fun g => by
        have : zHd t R E = 0 := by unfold zHd; rw [if_neg (fun x => g x.2)]
        rw [this] at h; exact h
      refine ⟨by omega, z_c (fun e => yes ?_) (fun e => ⟨by omega, by omega, by omega, z_c (fun x => no ?_) (fun x => yes ?_)⟩)⟩
      · rw [zLook_out (by omega)]; exact Or.inr (Or.inr rfl)
      · rw [zLook_in (by omega)]
        have := hl (R + zHs t R E) (by omega) (by omega)
        unfold zGap; omega
      · rw [zLook_in (by omega)]; exact Or.inl (Decidable.not_not.mp x)
    · have : zHd t R E = 0 := by unfold zHd; rw [if_neg (fun x => a x.1)]
      rw [this] at h; exact h
  have L : ∀ (n : Nat) (v : Int), v + n = zHs t R E → 0 ≤ v → L_m_headingLevel_2 X v s K := by
    intro n
    induction n with
    | zero =>
      intro v hv v0
      have e : v = zHs t R E := by omega
      refine sg_m_headingLevel_2 ?_
      rw [H.rest, H.stop, H.tx]
      refine ⟨by omega, z_c (fun _ => by rw [e]; exact fin) (fun x => ⟨by omega, by omega, by omega, z_c (fun _ => by rw [e]; exact fin) (fun y => ?_)⟩)⟩
      have y := Decidable.not_not.mp y
      rw [e] at y
      exact absurd y (i4.resolve_left (by omega))
    | succ n ih =>
      intro v hv v0
      refine sg_m_headingLevel_2 ?_
      rw [H.rest, H.stop, H.tx]
      exact ⟨by omega, z_f (by omega) ⟨by omega, by omega, by omega, z_f (fun x => x (i3 _ (by omega) (by omega))) ⟨by omega, ih (v + 1) (by omega) (by omega)⟩⟩⟩
  exact sg_m_headingLevel (L (zHs t R E).toNat 0 (by omega) (by omega))
theorem zFe_in (h : zFe t R E) : R + 3 ≤ E := by have := (zLook_lt h.2.2.1 (by decide)).1; omega
theorem k_Rd_isFenceMark (H : zCl s t R E) (h1 : zFe t R E → K 1 s) (h0 : ¬ zFe t R E → K 0 s) : c_Rd_isFenceMark X s K := by
  have hE := H.En
  have hN := H.n240
  have hR := H.R0
  have hRE := H.RE
  refine sg_Rd_isFenceMark (k_Rd_look H (by omega) (by omega) ?_)
  rw [show R + 0 = R by omega]
  refine z_c (fun e => h0 (fun x => e x.1)) (fun e => k_Rd_look H (by omega) (by omega) (z_c (fun e2 => h0 (fun x => e2 x.2.1)) (fun e2 => k_Rd_look H (by omega) (by omega) (z_c (fun e3 => h0 (fun x => e3 x.2.2.1)) (fun e3 => ?_)))))
  have l3 := zLook_lt (Decidable.not_not.mp e3) (by decide)
  rw [H.rest, H.stop]
  refine ⟨by omega, k_T_skipBlanks q_row_1 hN (by omega) (by omega) ?_⟩
  rw [H.skip (by omega) (by omega), H.stop]
  exact z_c (fun x => h0 (fun y => x y.2.2.2)) (fun x => h1 ⟨Decidable.not_not.mp e, Decidable.not_not.mp e2, Decidable.not_not.mp e3, Decidable.not_not.mp x⟩)
theorem zTrim_is {a b : Int} (h : a ≤ b) : a ≤ zTrim t a b ∧ zTrim t a b ≤ b ∧ (∀ i, zTrim t a b ≤ i → i < b → t i = 32) ∧ (zTrim t a b = a ∨ t (zTrim t a b - 1) ≠ 32) := by
  obtain ⟨h1, h2, h3, h4⟩ := zD_is (p := zIsB t) h
  exact ⟨h1, h2, fun i x y => of_decide_eq_true (h3 i x y), h4.imp id (fun e => of_decide_eq_false e)⟩
theorem zWord_is {a b : Int} (h : a ≤ b) : a ≤ zWord t a b ∧ zWord t a b ≤ b ∧ (∀ i, a ≤ i → i < zWord t a b → zLet (t i)) ∧ (zWord t a b = b ∨ ¬ zLet (t (zWord t a b))) := by
  obtain ⟨h1, h2, h3, h4⟩ := zU_is (p := zIsW t) h
  exact ⟨h1, h2, fun i x y => of_decide_eq_true (h3 i x y), h4.imp id (fun e => of_decide_eq_false e)⟩
theorem zWord_eq {a b r : Int} (h1 : a ≤ r) (h2 : r ≤ b) (h3 : ∀ i, a ≤ i → i < r → zLet (t i)) (h4 : r = b ∨ ¬ zLet (t r)) : zWord t a b = r :=
  zU_eq h1 h2 (fun i x y => decide_eq_true (h3 i x y)) (h4.imp id (fun e => decide_eq_false e))
theorem k_m_isFence (H : zMl s t R E) (h1 : zFe t R E → K 1 s) (h0 : ¬ zFe t R E → K 0 s) : c_m_isFence X s K := by
  have hE := H.En
  have hN := H.n240
  have hR := H.R0
  have hRE := H.RE
  refine sg_m_isFence ?_
  rw [H.rest, H.stop]
  refine k_m_trimmed hR hRE (by omega) ?_
  rw [H.rest, H.tx]
  obtain ⟨t1, t2, t3, t4⟩ := zTrim_is (t := t) hRE
  have fe : zFe t R E → zTrim t R E = R + 3 := by
    intro f
    obtain ⟨f1, f2, f3, f4⟩ := f
    obtain ⟨l3, l4⟩ := zLook_lt f3 (by decide)
    obtain ⟨g1, g2, g3, g4⟩ := zSkip_is (t := t) (show R + 3 ≤ E by omega)
    rw [f4] at g3
    rcases Int.lt_trichotomy (zTrim t R E) (R + 3) with x | x | x
    · have := t3 (R + 2) (by omega) l3; omega
    · exact x
    · rcases t4 with y | y
      · omega
      · exact absurd (g3 _ (by omega) (by omega)) y
  refine ⟨by omega, z_c (fun e => h0 (fun f => by have := fe f; omega)) (fun e => ⟨by omega, by omega, z_c (fun e1 => h0 (fun f => e1 (zLook_lt f.1 (by decide)).2)) (fun e1 => ⟨by omega, by omega, by omega, z_c (fun e2 => h0 (fun f => e2 (zLook_lt f.2.1 (by decide)).2)) (fun e2 => ⟨by omega, by omega, by omega, z_c (fun e3 => h0 (fun f => e3 (zLook_lt f.2.2.1 (by decide)).2)) (fun e3 => h1 ?_)⟩)⟩)⟩)⟩
  refine ⟨by rw [zLook_in (by omega)]; exact Decidable.not_not.mp e1, by rw [zLook_in (by omega)]; exact Decidable.not_not.mp e2, by rw [zLook_in (by omega)]; exact Decidable.not_not.mp e3, ?_⟩
  exact zSkip_eq (by omega) (Int.le_refl E) (fun i x y => t3 i (by omega) y) (Or.inl rfl)
end Leaf
