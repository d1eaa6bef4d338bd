/-! The inline marks of one leaf, in both at once. -/
section Inline
variable {X : Nat × (Nat → Int32)} {a b : qM} {K : qM → Prop} {t : Int → Int} {n m N LL : Int}
theorem k_inline {k : Int} (Z : zBk a b t N LL n) (k0 : 0 ≤ k) (kn : k < n) (hk : b 117 k = 4 ∨ b 117 k = 6) (r0 : a 54 1 = 0 ∧ a 56 1 = 0 ∧ a 58 1 = 0 ∧ a 60 1 = 0 ∧ a 62 1 = 0)
    (h : ∀ a' b' m S p q, zDone a' b' n m S p q → m + 1 ≤ zU1 a b k → (∀ r, r < 45 ∨ 63 < r → a' r = a r) → (∀ r, r ≠ 113 → r ≠ 138 → r < 141 ∨ 150 < r → b' r = b r) → (∀ j, j ≠ 28 → j ≠ 33 → j ≠ 41 → b' 113 j = b 113 j) → (∀ Kf : qM → Prop, Kf b' → c_m_cuts X k b Kf) → K a') : c_T_copyLines X k a (fun s9 => c_Il_read X s9 K) := by
  obtain ⟨n1, n2, n3⟩ := Z.n1
  obtain ⟨c1, c2⟩ := Z.cap
  have nl := Z.nl
  have LLr := Z.ln.2.1
  refine k_copyLines Z k0 kn hk r0 (fun a1 b1 m C um f51 fa fb fj W => ?_)
  obtain ⟨m0, m2⟩ := C.m0
  obtain ⟨z1, z2, z3, z4⟩ := C.sz
  generalize eb : q_up (q_up b1 113 33 0) 113 41 0 = b3
  have g : ∀ r, r ≠ 113 → b3 r = b1 r := fun r hr => by rw [← eb, q_up_ne hr, q_up_ne hr]
  have gj : ∀ j, j ≠ 33 → j ≠ 41 → b3 113 j = b1 113 j := fun j x y => by rw [← eb, q_up_nj y, q_up_nj x]
  have fb3 : ∀ r, r ≠ 113 → r ≠ 138 → b3 r = b r := fun r x y => (g r x).trans (fb r x y)
  have fj3 : ∀ j, j ≠ 28 → j ≠ 33 → j ≠ 41 → b3 113 j = b 113 j := fun j x y z => (gj j y z).trans (fj j x)
  have e33 : b3 113 33 = 0 := by rw [← eb, q_up_nj (by decide), q_up_at]
  have e41 : b3 113 41 = 0 := by rw [← eb, q_up_at]
  obtain ⟨r54, r56, r58, r60, r62⟩ := r0
  have H : zSc a1 b3 n m (fun _ => 0) 0 0 0 (fun _ => 0) 0 := by
    have e117 : b3 117 = b 117 := fb3 117 (by decide) (by decide)
    refine zSc.mk ?_ ?_ ?_ ?_ ?_ ?_ ⟨e41, e33, z2, z3, rfl, m0⟩ (fun r u v => by omega) (fun i u v => (C.ch i u v).2.2) (fun i u v => Or.inr (C.ch i u v).2.2.2) (fun k u v => by omega) (by omega) (fun i u v => by omega) (fun i j u v w => by omega) (fun k u v => by omega) (fun j hj => ?_)
    · exact zWr.mk ⟨m0, m2⟩ ⟨z1, by rw [gj 28 (by decide) (by decide)]; exact z4⟩ (fun i u v => by rw [g 138 (by decide)]; exact ⟨(C.ch i u v).1, (C.ch i u v).2.1⟩)
    · exact Z.nd.fr (Int.le_refl n) (by rw [fa 37 (by omega)]) (fa 38 (by omega)) (fa 36 (by omega)) (fun k _ _ => by rw [e117]) (fun k x y => by omega) (fun j _ => by rw [fb3 130 (by decide) (by decide)])
    · exact Z.nh.fr (Int.le_refl n) (by rw [fa 41 (by omega)]) (fa 42 (by omega)) (fa 40 (by omega)) (fun k _ _ => by rw [e117]) (fun k x y => by omega) (fun j _ => by rw [fb3 130 (by decide) (by decide)])
    · rw [fa 37 (by omega), fa 41 (by omega), fj3 4 (by decide) (by decide) (by decide)]
      exact ⟨by omega, by omega, Z.B.rows.2.2.2.2.2.2.2.2, c1, by omega⟩
    · exact zPc.mk (Int.le_refl 0) rfl (fun k u v => by omega) (fun k u v => by omega) (fun k u v => by omega) (fun k u v => by omega) (fun k u v => by omega) (fun k u v => by omega) (fun k u v => by omega) (fun k u v => by omega) (fun j hj => by omega)
    · refine zRn.mk ⟨by rw [fa 54 (by omega)]; exact r54, by rw [fa 56 (by omega)]; exact r56, by rw [fa 58 (by omega)]; exact r58, by rw [fa 60 (by omega)]; exact r60, by rw [fa 62 (by omega)]; exact r62, by decide, by decide, by decide⟩ (fun r u v => by omega) (fun r r' u v w => by omega) (fun r u v => by omega) (fun r u v => by omega) (fun r u v => by omega) (fun k u v => by omega)
    · rw [show j = 0 by omega]; exact Int.le_refl 0
  refine sg_Il_read (k_scan m.toNat 0 a1 b3 (fun _ => 0) 0 0 0 (fun _ => 0) 0 H (by omega) (by decide) (by decide) (fun a2 b2 S p q R rho H2 F2 W2 => ?_))
  obtain ⟨t1, t2, t3, t4, t5, t6, t7, t8⟩ := H2.N.sz
  obtain ⟨k1, k2, k3, k4, k5, k6⟩ := H2.nn
  have Rs : zRs a2 b2 S p q 0 R rho 0 m 0 := zRs.mk H2.Z H2.N k1 ⟨k3, m2, by omega, by decide⟩ (fun r u v => (H2.un r u v).1)
  refine sg_Runs_resolve q_row_47 (k_resolve2 p.toNat 0 0 a2 b2 q (by have := H2.Z.p0; omega) Rs (Int.le_refl 0) t7 (Int.le_refl 0) (fun r u v => by omega) (fun z => (H2.N.rg 0 (Int.le_refl 0) z).1) (fun a4 b4 q4 R4 F4 W4 => ?_))
  obtain ⟨u1, u2, u3, u4, u5, u6, u7, u8⟩ := R4.N.sz
  refine k_Runs_cut (R := R) ⟨u1, u2, u3, u4, u5⟩ (Int.le_refl 0) u7 (fun a5 f5 s5 => ?_)
  have fa5 : ∀ r, r < 48 ∨ r = 49 ∨ r = 50 ∨ 63 < r → a5 r = a2 r := fun r hr => by rw [f5 r (by omega) (by omega) (by omega) (by omega) (by omega)]; exact F4.fa r (by omega) (by omega) (by omega)
  have f48 : a5 48 = a4 48 := f5 48 (by decide) (by decide) (by decide) (by decide) (by decide)
  have e141 : b4 141 = b2 141 := F4.fb 141 (by decide) (by omega)
  refine h a5 b4 m S p q4 (zDone.mk ?_ (by rw [f48]; exact R4.Z) ⟨R4.nq, by rw [F4.f113 33 (by decide)]; exact k2, by rw [fa5 47 (by omega)]; exact k3, by rw [fa5 49 (by omega)]; exact k4, k5⟩ (fun i u v => ?_) (fun k u v w => ?_) (fun j hj => by rw [zDp_congr (b := b2) j (fun i _ => by rw [e141])]; exact H2.dp j hj) s5) um (fun r hr => ?_) (fun r x y z => ?_) (fun j x y z => ?_) (fun Kf hk2 => ?_)
  · refine zWr.mk ⟨m0, m2⟩ ?_ ?_
    · rw [fa5 45 (by omega), F4.f113 28 (by decide)]; exact H2.W.sz
    · rw [fa5 46 (by omega), F4.fb 138 (by decide) (by omega)]; exact H2.W.ch
  · rw [fa5 50 (by omega), f48]
    rcases H2.sg i u v with y | y
    · exact Or.inl (F4.lk i y)
    · exact Or.inr y
  · rw [e141] at w
    have y := H2.lk k u v w
    unfold zLk at y ⊢
    rw [fa5 50 (by omega), fa5 37 (by omega), fa5 38 (by omega), fa5 41 (by omega), fa5 42 (by omega), F4.fb 143 (by decide) (by omega), F4.fb 117 (by decide) (by omega)]
    exact y
  · by_cases x : r < 45
    · rw [fa5 r (by omega), F2.fa r (by omega)]; exact fa r (by omega)
    · rw [fa5 r (by omega), F2.fa r (by omega)]; exact fa r (by omega)
  · rw [F4.fb r x (by omega), F2.fb r x z]; exact fb3 r x y
  · rw [F4.f113 j z, F2.f113 j y z]; exact fj3 j x y z
  · refine sg_m_cuts (W _ (fun s2 e2 s3 e3 => ?_))
    rw [e3, e2, eb]
    exact W2 Kf (sg_m_pairsUp (W4 Kf hk2))
end Inline
