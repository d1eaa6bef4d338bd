/-! Markers; putting a block into both. -/
/-- the marker with which the rest begins: 62, 45, 43, 48 for a number; -1 without one -/
def zMk (t : Int → Int) (R E : Int) : Int :=
  if zLook t E R = 62 then 62
  else if (zLook t E R = 45 ∨ zLook t E R = 43) ∧ zGap (zLook t E (R + 1)) then zLook t E R
  else if (48 ≤ zLook t E R ∧ zLook t E R ≤ 57) ∧ zLook t E (R + 1) = 46 ∧ zGap (zLook t E (R + 2)) then 48 else -1
def zMs (μ : Int) : Int := if μ = -1 then 0 else if μ = 48 then 2 else 1
section Mark
variable {X : Nat × (Nat → Int32)} {a b s : qM} {K : Int → qM → Prop} {t : Int → Int} {n R E : Int}
theorem zLook_in {i : Int} (h : i < E) : zLook t E i = t i := by unfold zLook; rw [if_pos h]
theorem zLook_out {i : Int} (h : ¬ i < E) : zLook t E i = -1 := by unfold zLook; rw [if_neg h]
theorem zMk_in (h : zMk t R E ≠ -1) : R + zMs (zMk t R E) ≤ E := by
  have lt : R < E := by
    by_cases x : R < E
    · exact x
    · exfalso; apply h; unfold zMk; rw [zLook_out x]; rw [if_neg (by decide), if_neg (by omega), if_neg (by omega)]
  unfold zMk at h ⊢
  by_cases e1 : zLook t E R = 62
  · rw [if_pos e1]; unfold zMs; rw [if_neg (by decide), if_neg (by decide)]; omega
  · rw [if_neg e1] at h ⊢
    by_cases e2 : (zLook t E R = 45 ∨ zLook t E R = 43) ∧ zGap (zLook t E (R + 1))
    · rw [if_pos e2]; unfold zMs; rw [if_neg (by omega), if_neg (by omega)]; omega
    · rw [if_neg e2] at h ⊢
      by_cases e3 : (48 ≤ zLook t E R ∧ zLook t E R ≤ 57) ∧ zLook t E (R + 1) = 46 ∧ zGap (zLook t E (R + 2))
      · rw [if_pos e3]; unfold zMs; rw [if_neg (by decide), if_pos rfl]
        by_cases x : R + 1 < E
        · omega
        · have := e3.2.1; rw [zLook_out x] at this; omega
      · rw [if_neg e3] at h; exact absurd rfl h
theorem zMk_val (h : zMk t R E ≠ -1) : zMk t R E = 62 ∨ zMk t R E = 45 ∨ zMk t R E = 43 ∨ zMk t R E = 48 := by
  unfold zMk at h ⊢
  by_cases e1 : zLook t E R = 62
  · rw [if_pos e1]; exact Or.inl rfl
  · rw [if_neg e1] at h ⊢
    by_cases e2 : (zLook t E R = 45 ∨ zLook t E R = 43) ∧ zGap (zLook t E (R + 1))
    · rw [if_pos e2]; omega
    · rw [if_neg e2] at h ⊢
      by_cases e3 : (48 ≤ zLook t E R ∧ zLook t E R ≤ 57) ∧ zLook t E (R + 1) = 46 ∧ zGap (zLook t E (R + 2))
      · rw [if_pos e3]; omega
      · rw [if_neg e3] at h; exact absurd rfl h
theorem zMk_62 : zMk t R E = 62 ↔ zLook t E R = 62 := by
  unfold zMk
  by_cases e1 : zLook t E R = 62
  · rw [if_pos e1]; exact ⟨fun _ => e1, fun _ => rfl⟩
  · rw [if_neg e1]
    by_cases e2 : (zLook t E R = 45 ∨ zLook t E R = 43) ∧ zGap (zLook t E (R + 1))
    · rw [if_pos e2]
    · rw [if_neg e2]
      by_cases e3 : (48 ≤ zLook t E R ∧ zLook t E R ≤ 57) ∧ zLook t E (R + 1) = 46 ∧ zGap (zLook t E (R + 2))
      · rw [if_pos e3]; exact ⟨fun x => by omega, fun x => absurd x e1⟩
      · rw [if_neg e3]; exact ⟨fun x => by omega, fun x => absurd x e1⟩
theorem zMk_one (h1 : zMk t R E ≠ -1) (h2 : zMk t R E ≠ 48) : zMk t R E = zLook t E R := by
  unfold zMk at h1 h2 ⊢
  by_cases e1 : zLook t E R = 62
  · rw [if_pos e1]; exact e1.symm
  · rw [if_neg e1] at h1 h2 ⊢
    by_cases e2 : (zLook t E R = 45 ∨ zLook t E R = 43) ∧ zGap (zLook t E (R + 1))
    · rw [if_pos e2]
    · rw [if_neg e2] at h1 h2 ⊢
      by_cases e3 : (48 ≤ zLook t E R ∧ zLook t E R ≤ 57) ∧ zLook t E (R + 1) = 46 ∧ zGap (zLook t E (R + 2))
      · rw [if_pos e3] at h2; exact absurd rfl h2
      · rw [if_neg e3] at h1; exact absurd rfl h1
theorem k_Rd_markerSize (H : zCl s t R E) (h : K (zMs (zMk t R E)) s) : c_Rd_markerSize X s K := by
  have hE := H.En
  have hN := H.n240
  have hR := H.R0
  have hRE := H.RE
  refine sg_Rd_markerSize (k_Rd_look H (by omega) (by omega) ?_)
  rw [show R + 0 = R by omega]
  have v1 : ∀ x, zMk t R E = x → x ≠ -1 → x ≠ 48 → K 1 s := fun x e a b => by
    rw [e] at h; unfold zMs at h; rw [if_neg a, if_neg b] at h; exact h
  have v0 : zMk t R E = -1 → K 0 s := fun e => by rw [e] at h; exact h
  have v2 : zMk t R E = 48 → K 2 s := fun e => by rw [e] at h; exact h
  have dash : zLook t E R = 45 ∨ zLook t E R = 43 → c_Rd_look X 1 s (fun r4 s3 => c_T_isGap X r4 s3 (fun r6 s5 => (((r6 = 0) → K 0 s5) ∧ (¬ (r6 = 0) → K 1 s5)))) := by
    intro e
    refine k_Rd_look H (by omega) (by omega) (k_T_isGap (fun g => z_f (by decide) (v1 (zLook t E R) ?_ (by omega) (by omega))) (fun g => z_t rfl (v0 ?_)))
    · unfold zMk; rw [if_neg (by omega), if_pos ⟨e, g⟩]
    · unfold zMk; rw [if_neg (by omega), if_neg (fun x => g x.2), if_neg (by omega)]
  refine z_c (fun n62 => z_c (fun e45 => dash (Or.inl e45)) (fun n45 => z_c (fun n43 => ?_) (fun e43 => dash (Or.inr (Decidable.not_not.mp e43))))) (fun e62 => ?_)
  · have no : ¬ ((48 ≤ zLook t E R ∧ zLook t E R ≤ 57) ∧ zLook t E (R + 1) = 46 ∧ zGap (zLook t E (R + 2))) → zMk t R E = -1 := fun x => by
      unfold zMk; rw [if_neg n62, if_neg (by omega), if_neg x]
    refine z_c (fun x => v0 (no (by omega))) (fun x => z_c (fun y => v0 (no (by omega))) (fun y => k_Rd_look H (by omega) (by omega) (z_c (fun z => v0 (no (fun w => z w.2.1))) (fun z => k_Rd_look H (by omega) (by omega) (k_T_isGap (fun g => z_f (by decide) (v2 ?_)) (fun g => z_t rfl (v0 (no (fun w => g w.2.2)))))))))
    unfold zMk
    rw [if_neg n62, if_neg (by omega), if_pos ⟨by omega, Decidable.not_not.mp z, g⟩]
  · have e62 := Decidable.not_not.mp e62
    exact v1 62 (by unfold zMk; rw [if_pos e62]) (by decide) (by decide)
theorem k_m_marker (H : zMl s t R E) (hl : ∀ i, R ≤ i → i < E → 32 ≤ t i ∧ t i ≤ 126) (h : K (zMk t R E) s) : c_m_marker X s K := by
  have hE := H.En
  have hN := H.n240
  have hR := H.R0
  have hRE := H.RE
  have gap : ∀ i, R ≤ i → (zGap (zLook t E i) ↔ (E ≤ i ∨ t i = 32)) := by
    intro i hi
    by_cases x : i < E
    · rw [zLook_in x]; have := hl i hi x; unfold zGap; omega
    · rw [zLook_out x]; unfold zGap; omega
  have f87 : ∀ v t0, (v = (if R < E then t R else 10)) → (t0 = 0 → ¬ (v = 45 ∨ v = 43) ∧ ¬ ((48 ≤ v ∧ v ≤ 57) ∧ R + 1 < E ∧ t (R + 1) = 46)) → (t0 = 0 ∨ (t0 = 1 ∧ (v = 45 ∨ v = 43)) ∨ (t0 = 2 ∧ (48 ≤ v ∧ v ≤ 57) ∧ R + 1 < E ∧ t (R + 1) = 46)) → L_m_marker_87 X v t0 s K := by
    intro v t0 hv h0 ht
    have hv1 : R < E → v = zLook t E R := fun x => by rw [hv, if_pos x, zLook_in x]
    have hv2 : ¬ R < E → v = 10 ∧ zLook t E R = -1 := fun x => ⟨by rw [hv, if_neg x], zLook_out x⟩
    have K1 : zMk t R E = -1 → K (-1) s := fun e => by rw [e] at h; exact h
    have K6 : v = 62 → K 62 s := fun e => by
      have : zLook t E R = 62 := by
        by_cases x : R < E
        · rw [← hv1 x]; exact e
        · have := hv2 x; omega
      have e2 : zMk t R E = 62 := by unfold zMk; rw [if_pos this]
      rw [e2] at h; exact h
    refine sg_m_marker_87 ?_
    rw [H.rest, H.stop, H.tx]
    by_cases lt : R < E
    · have hz := hv1 lt
      have g1 := gap (R + 1) (by omega)
      have g2 := gap (R + 2) (by omega)
      rcases ht with e | ⟨e, e2⟩ | ⟨e, e2, e3, e4⟩
      · obtain ⟨o1, o2⟩ := h0 e
        refine z_t (by omega) (z_c (fun x => K1 ?_) (fun x => K6 (by omega)))
        unfold zMk
        rw [← hz, if_neg x, if_neg (fun y => o1 y.1), if_neg (fun y => o2 ⟨y.1, ?_, ?_⟩)]
        · by_cases z : R + 1 < E
          · exact z
          · have := y.2.1; rw [zLook_out z] at this; omega
        · by_cases z : R + 1 < E
          · have := y.2.1; rw [zLook_in z] at this; exact this
          · have := y.2.1; rw [zLook_out z] at this; omega
      · rw [e]
        have yes : zGap (zLook t E (R + 1)) → K v s := fun g => by
          have : zMk t R E = v := by unfold zMk; rw [← hz, if_neg (by omega), if_pos ⟨e2, g⟩]
          rw [this] at h; exact h
        have no : ¬ zGap (zLook t E (R + 1)) → K (-1) s := fun g => K1 (by unfold zMk; rw [← hz, if_neg (by omega), if_neg (fun y => g y.2), if_neg (by omega)])
        refine z_f (by decide) ⟨by omega, z_c (fun x => z_t (by omega) (z_t (by decide) (yes (g1.mpr (by omega))))) (fun x => ⟨by omega, by omega, by omega, z_c (fun y => z_t (by omega) (no (fun z => by have := g1.mp z; omega))) (fun y => z_t (by omega) (z_t (by decide) (yes (g1.mpr (by omega)))))⟩)⟩
      · rw [e]
        have l1 : zLook t E (R + 1) = 46 := by rw [zLook_in e3]; exact e4
        have yes : zGap (zLook t E (R + 2)) → K 48 s := fun g => by
          have : zMk t R E = 48 := by unfold zMk; rw [← hz, if_neg (by omega), if_neg (by omega), if_pos ⟨e2, l1, g⟩]
          rw [this] at h; exact h
        have no : ¬ zGap (zLook t E (R + 2)) → K (-1) s := fun g => K1 (by unfold zMk; rw [← hz, if_neg (by omega), if_neg (by omega), if_neg (fun y => g y.2.2)])
        refine z_f (by decide) ⟨by omega, z_c (fun x => z_t (by omega) (z_f (by decide) (yes (g2.mpr (by omega))))) (fun x => ⟨by omega, by omega, by omega, z_c (fun y => z_t (by omega) (no (fun z => by have := g2.mp z; omega))) (fun y => z_t (by omega) (z_f (by decide) (yes (g2.mpr (by omega)))))⟩)⟩
    · obtain ⟨v10, l10⟩ := hv2 lt
      have e0 : t0 = 0 := by omega
      rw [e0, v10]
      refine z_t (by decide) (z_t (by decide) (K1 ?_))
      unfold zMk; rw [l10]; rw [if_neg (by decide), if_neg (by omega), if_neg (by omega)]
  refine sg_m_marker ?_
  rw [H.rest, H.stop, H.tx]
  have f25 : ∀ v, v = (if R < E then t R else 10) → L_m_marker_25 X v s K := by
    intro v hv
    refine sg_m_marker_25 (z_c (fun e => f87 v 1 hv (by omega) (by omega)) (fun e => z_c (fun e2 => k_m_isIn (fun g1 g2 => z_f (by decide) ?_) (fun g => z_t rfl (f87 v 0 hv (by omega) (by omega)))) (fun e2 => f87 v 1 hv (by omega) (by omega))))
    rw [H.rest, H.stop, H.tx]
    exact ⟨by omega, z_c (fun x => f87 v 0 hv (fun _ => ⟨by omega, fun y => by omega⟩) (by omega)) (fun x => ⟨by omega, by omega, by omega, z_c (fun y => f87 v 0 hv (fun _ => ⟨by omega, fun z => y z.2.2⟩) (by omega)) (fun y => f87 v 2 hv (by omega) (Or.inr (Or.inr ⟨rfl, ⟨g1, g2⟩, by omega, Decidable.not_not.mp y⟩)))⟩)⟩
  exact z_c (fun e => f25 10 (by rw [if_neg (by omega)])) (fun e => ⟨hR, by omega, f25 _ (by rw [if_pos (by omega)])⟩)
theorem k_Blocks_add1 {p κ ib : Int} (B : zB a b n) (hn : n < 482) (p0 : 0 ≤ p) (pn : p < n) (h : ∀ a1, zAdd a a1 n p κ ib → K n a1) : c_Blocks_add X κ p ib a K := by
  obtain ⟨r1, r2, r3, r4, r5, r6, r7, r8, r9⟩ := B.rows
  have kp := B.kd p p0 pn
  refine k_Blocks_add ⟨r1, r2, r3, r4, r5, r6, r7, r8⟩ (by have := B.n1; omega) hn (Or.inr ⟨p0, pn⟩) (fun _ x => ?_) (fun a1 y f1 f2 f3 f4 f5 _ f7 _ f9 f10 f11 f12 f13 => h a1 (zAdd.mk f1 f2 f3 f4 (f5 p0) (f7 p0) ⟨y, f9, f13⟩ f10 f11 f12))
  rw [kp.2.2.2]
  rw [kp.1] at x
  have i0 : p ≠ 0 := fun z => by rw [z, B.root.1] at x; omega
  have := B.par p (by omega) pn
  omega
theorem k_m_puts1 {p κ τ : Int} (B : zB a b n) (hn : n < 482) (hl : b 113 17 ≤ 241) (p0 : 0 ≤ p) (pn : p < n) (h : ∀ b1, zPut b b1 n p κ τ → K n b1) : c_m_puts X p κ τ b K := by
  have fp := B.fl p p0 pn
  refine k_m_puts (n := n) B.rows.2.2.2.2.2.2.2.2 (by omega) p0 pn (fun k k0 kn => ?_) (fun x => ?_) fp.1 (by omega) (fun b1 x y f1 f2 f3 f4 f5 f6 f7 f8 f9 f10 f11 f12 f13 f14 f15 => h b1 (zPut.mk f1 f2 f3 f4 f5 ⟨x, f6, f11, f12, f13, f14⟩ f7 ⟨y, f8, f15⟩ f9 f10))
  · rcases B.la k k0 kn with z | z
    · exact Or.inl z
    · exact Or.inr ⟨z.1, z.2.1⟩
  · have i0 : p ≠ 0 := fun z => by rw [z, B.root.1] at x; omega
    have := B.par p (by omega) pn
    omega
end Mark
