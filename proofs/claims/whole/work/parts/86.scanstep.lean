/-! The steps of reading. -/
section ScanStep
variable {X : Nat × (Nat → Int32)} {a a' b b' s : qM} {K : qM → Prop} {KI : Int → qM → Prop} {n m p R P : Int} {q : Nat} {S rho : Int → Int}
theorem zChr_126 {c : Int} (h : zChr c) : c ≤ 126 := by unfold zChr at h; omega
theorem zSc.ch (H : zSc a b n m S p q R rho P) {i : Int} : zI b m i ≤ 126 := by
  unfold zI
  by_cases h : 0 ≤ i ∧ i < m
  · rw [if_pos h]; exact zChr_126 (H.W.ch i h.1 h.2).2
  · rw [if_neg h]; decide
/-- a backslash -/
theorem zSc.escape (H : zSc a b n m S p q R rho P) (lt : P < m) (hc : b 138 P = 92) (N : zNx X a b n m P KI) : c_Il_passEscape X P a KI := by
  obtain ⟨m0, m2⟩ := H.W.m0
  obtain ⟨s1, s2⟩ := H.W.sz
  obtain ⟨c1, c2, c3, c4⟩ := H.c0
  obtain ⟨n1, n2, n3, n4, n5, n6⟩ := H.nn
  refine sg_Il_passEscape ⟨by omega, k_Row_at q_row_45 (by omega) ?_⟩
  rw [H.W.zt]
  refine k_T_isSign H.ch (fun sg => z_t (by decide) ?_) (fun sg => z_f (fun z => z rfl) ⟨by omega, ?_⟩)
  · have lt2 : P + 1 < m := by
      by_cases z : P + 1 < m
      · exact z
      · rw [zI_out (by omega)] at sg; unfold zSign at sg; omega
    rw [zI_in (by omega) lt2] at sg
    obtain ⟨b', A, W⟩ := z_1V (k_m_adds (X := X) (b := b) (p := p) (τ := 0) (v := b 138 (P + 1)) (u := 0) (KV := fun b' => zAd b b' p 0 (b 138 (P + 1)) 0) n2 c3 (by omega) (fun b' A => A))
    refine k_Row_set q_row_47 (by omega) (fun _ _ => ⟨by omega, ?_⟩) (fun z => absurd ⟨c1, by omega⟩ z)
    generalize ea : q_up a (47 + 1) P (-3) = a'
    have f48 : a' 48 = q_u (a 48) P (-3) := by rw [← ea, q_up_fn]
    obtain ⟨Z, F⟩ := H.app (a' := a') (P1 := P + 2) A (Or.inl rfl) (by omega) (by omega) (fun r hr => by rw [← ea, q_up_ne hr]) (fun i hi => by rw [f48, q_u_ne (by omega)]) (fun _ => Or.inr ⟨rfl, by rw [f48, q_u_at], by rw [f48, q_u_ne (by omega)]; exact (H.rest (P + 1) (by omega) lt2).1, rfl⟩) (fun z => by omega)
    refine N a' b' _ _ _ _ _ _ Z F (by omega) (fun Kf hk => ?_)
    refine sg_m_cuts_17 (z_f (by omega) (k_m_in s2 m0 m2 ?_))
    rw [zI_in c1 lt]
    refine z_f (fun z => z hc) ⟨by omega, k_m_in s2 m0 m2 ?_⟩
    rw [zI_in (by omega) lt2]
    refine k_m_isSign (fun _ => z_f (by decide) ⟨by omega, k_m_in s2 m0 m2 ?_⟩) (fun z => absurd sg z)
    rw [zI_in (by omega) lt2]
    exact W _ ⟨by omega, hk⟩
  · obtain ⟨b', ⟨S', p', Z⟩, F, W⟩ := H.plain (X := X) lt (v := 92) hc.symm
    refine N a b' _ _ _ _ _ _ Z F (by omega) (fun Kf hk => H.cuts lt (Or.inr sg) ?_)
    rw [hc]
    exact sg_m_cuts_69 (z_t (by decide) (z_t (by decide) (z_t (by decide) (z_t (by decide) (W _ ⟨by omega, hk⟩)))))
/-- ticks -/
theorem zSc.code (H : zSc a b n m S p q R rho P) (lt : P < m) (hc : b 138 P = 96) (N : zNx X a b n m P KI) : c_Il_passTicks X P a KI := by
  obtain ⟨m0, m2⟩ := H.W.m0
  obtain ⟨s1, s2⟩ := H.W.sz
  obtain ⟨c1, c2, c3, c4⟩ := H.c0
  obtain ⟨n1, n2, n3, n4, n5, n6⟩ := H.nn
  obtain ⟨r1, r2, r3, r4⟩ := zRE_is (b := b) lt
  obtain ⟨r, hr, A, B⟩ := k_ticks (X := X) H.W (n := zRE b m P - P) (m - zRE b m P).toNat (zRE b m P) 0 (by omega) (by omega) r2 (by decide) (by omega)
  -- the model up to the search
  have mod : ∀ Kf : qM → Prop, (((r = (-1)) → L_m_cutsCode_36 X P (zRE b m P - P) 0 b (fun r9 s8 => L_m_cuts_17 X r9 s8 Kf)) ∧ (¬ (r = (-1)) → c_m_adds X 2 (P + (zRE b m P - P)) r b (fun s5 => (-2147483648 ≤ (r + (zRE b m P - P)) ∧ (r + (zRE b m P - P)) < 2147483648) ∧ L_m_cuts_17 X (r + (zRE b m P - P)) s5 Kf))) → L_m_cuts_17 X P b Kf := by
    intro Kf hk
    refine H.cuts lt (Or.inl (by omega)) ?_
    rw [hc]
    refine sg_m_cuts_69 (z_f (fun z => z rfl) (sg_m_cutsCode (k_m_run H.W c1 lt ⟨by omega, sg_m_nextRun ?_⟩)))
    rw [show P + (zRE b m P - P) = zRE b m P by omega] at hk ⊢
    exact B _ (z_c (fun e => hk.1 e) (fun e => ⟨by omega, hk.2 e⟩))
  refine sg_Il_passTicks (k_Il_runEnd H.W c1 lt ⟨by omega, sg_Il_findTicks (A _ ?_)⟩)
  refine z_c (fun ne => ?_) (fun e => ?_)
  · obtain ⟨h1, h2, h3, h4⟩ := hr.resolve_left ne
    obtain ⟨w1, w2, _, _⟩ := zRE_is (b := b) h2
    refine k_Il_pass n3 m2 c1 r2 (fun a1 f1 f1a f1b => ?_)
    refine k_Row_set q_row_47 (by rw [f1 47 (by decide)]; omega) (fun _ _ => ⟨by omega, ?_⟩) (fun z => absurd ⟨c1, by rw [f1 47 (by decide)]; omega⟩ z)
    refine k_Il_pass (m := m) (by rw [q_up_ne (by decide), f1 47 (by decide)]; exact n3) m2 (by omega) (by omega) (fun a2 f2 f2a f2b => ?_)
    refine k_Row_set q_row_47 (by rw [f2 47 (by decide), q_up_ne (by decide), f1 47 (by decide)]; omega) (fun _ _ => ⟨by omega, ?_⟩) (fun z => absurd ⟨by omega, by rw [f2 47 (by decide), q_up_ne (by decide), f1 47 (by decide)]; omega⟩ z)
    generalize ea : q_up a2 (47 + 1) r (-4) = a'
    have g : ∀ i, a' 48 i = if i = r then -4 else if r ≤ i ∧ i < r + (zRE b m P - P) then -3 else if i = P then 11 else if P ≤ i ∧ i < zRE b m P then -3 else a 48 i := by
      intro i
      have e48 : a' 48 = q_u (a2 48) r (-4) := by rw [← ea, q_up_fn]
      have e1 : q_up a1 (47 + 1) P 11 48 = q_u (a1 48) P 11 := q_up_fn
      rw [e48]
      by_cases x1 : i = r
      · rw [x1, q_u_at, if_pos rfl]
      · rw [q_u_ne x1, if_neg x1]
        by_cases x2 : r ≤ i ∧ i < r + (zRE b m P - P)
        · rw [if_pos x2]; exact f2a i x2.1 x2.2
        · rw [if_neg x2, f2b i x2, e1]
          by_cases x3 : i = P
          · rw [x3, q_u_at, if_pos rfl]
          · rw [q_u_ne x3, if_neg x3]
            by_cases x4 : P ≤ i ∧ i < zRE b m P
            · rw [if_pos x4]; exact f1a i x4.1 x4.2
            · rw [if_neg x4]; exact f1b i x4
    obtain ⟨b', Ad, W⟩ := z_1V (k_m_adds (X := X) (b := b) (p := p) (τ := 2) (v := P + (zRE b m P - P)) (u := r) (KV := fun b' => zAd b b' p 2 (P + (zRE b m P - P)) r) n2 c3 (by omega) (fun b' A => A))
    have fa : ∀ k, k ≠ 48 → a' k = a k := fun k hk => by rw [← ea, q_up_ne hk, f2 k hk, q_up_ne hk, f1 k hk]
    obtain ⟨Z, F⟩ := H.app (a' := a') (P1 := r + (zRE b m P - P)) Ad (Or.inr rfl) (by omega) (by omega) fa (fun i hi => by rw [g, if_neg (by omega), if_neg (by omega), if_neg (by omega), if_neg (by omega)]) (fun z => by omega) (fun _ => ⟨by omega, by omega, by omega, by rw [g, if_neg (by omega), if_neg (by omega), if_pos rfl], fun i u v => by rw [g, if_neg (by omega), if_neg (by omega), if_neg (by omega), if_pos ⟨by omega, by omega⟩], fun i u v => by rw [g, if_neg (by omega), if_neg (by omega), if_neg (by omega), if_neg (by omega)]; exact (H.rest i (by omega) (by omega)).1, by rw [g, if_pos rfl], fun i u v => by rw [g, if_neg (by omega), if_pos ⟨by omega, by omega⟩]⟩)
    exact N a' b' _ _ _ _ _ _ Z F (by omega) (fun Kf hk => mod Kf (z_f ne (W _ ⟨by omega, hk⟩)))
  · have e := Decidable.not_not.mp e
    obtain ⟨b', ⟨S', p', Z⟩, F, W⟩ := zSc.ticks (X := X) (x := P) (zRE b m P - P).toNat b S p P 0 H (by omega) (fun i u v => r3 i u (by omega)) c1 lt (by decide)
    rw [show P + (((zRE b m P - P).toNat : Nat) : Int) = zRE b m P by omega] at Z
    refine N a b' _ _ _ _ _ _ Z F r1 (fun Kf hk => mod Kf (z_t e ?_))
    have := W (fun r9 s8 => L_m_cuts_17 X r9 s8 Kf) (by omega) (by omega) (by rw [show P + (0 + ((zRE b m P - P).toNat : Int)) = zRE b m P by omega]; exact hk)
    rw [show (0 : Int) + ((zRE b m P - P).toNat : Int) = zRE b m P - P by omega] at this
    exact this
theorem k_Runs_add {x e h i op cl : Int} (sz : a 54 1 = R ∧ a 56 1 = R ∧ a 58 1 = R ∧ a 60 1 = R ∧ a 62 1 = R) (R0 : 0 ≤ R) (R2 : R < 240) (b1 : -1000 ≤ e - x) (b2 : e - x ≤ 1000) (hh : h ≤ 126) (hi : i ≤ 126) (ho : (zFk i h ∧ op = 1) ∨ (¬ zFk i h ∧ op = 0)) (hcl : (zFk h i ∧ cl = 1) ∨ (¬ zFk h i ∧ cl = 0))
    (hK : ∀ a', (∀ r, r < 54 ∨ 63 < r → a' r = a r) → (a' 54 1 = R + 1 ∧ a' 56 1 = R + 1 ∧ a' 58 1 = R + 1 ∧ a' 60 1 = R + 1 ∧ a' 62 1 = R + 1) → a' 55 = q_u (a 55) R x → a' 57 = q_u (a 57) R e → a' 59 = q_u (a 59) R (e - x) → a' 61 = q_u (a 61) R op → a' 63 = q_u (a 63) R cl → K a') : c_Runs_add X x e h i a K := by
  obtain ⟨t1, t2, t3, t4, t5⟩ := sz
  have step : ∀ (r : Nat) (v : Int) (u : qM) (F : qM → Prop), q_isRow r 240 → u r 1 = R → (∀ u', (∀ q, q ≠ r → q ≠ r + 1 → u' q = u q) → u' r 1 = R + 1 → u' (r + 1) = q_u (u (r + 1)) R v → F u') → c_Row_add X r v u F := by
    intro r v u F hr hu hF
    refine k_Row_add hr (by omega) (by omega) ?_
    rw [hu]
    exact hF _ (fun q x y => by rw [q_up_ne x, q_up_ne y]) q_up_at (by rw [q_up_ne (by omega), q_up_fn])
  refine sg_Runs_add (step 54 x a _ q_row_54 t1 (fun s1 f1 g1 h1 => step 56 e s1 _ q_row_56 (by rw [f1 56 (by decide) (by decide)]; exact t2) (fun s2 f2 g2 h2 => ⟨by omega, step 58 (e - x) s2 _ q_row_58 (by rw [f2 58 (by decide) (by decide), f1 58 (by decide) (by decide)]; exact t3) (fun s3 f3 g3 h3 => ?_)⟩)))
  have fin : ∀ o', o' = op → c_Row_add X 60 o' s3 (fun s6 => c_Runs_isFlank X h i s6 (fun r8 s7 => (((r8 = 0) → c_Row_add X 62 0 s7 (fun s9 => K s9)) ∧ (¬ (r8 = 0) → c_Row_add X 62 1 s7 (fun s10 => K s10))))) := by
    intro o' eo
    refine step 60 o' s3 _ q_row_60 (by rw [f3 60 (by decide) (by decide), f2 60 (by decide) (by decide), f1 60 (by decide) (by decide)]; exact t4) (fun s4 f4 g4 h4 => ?_)
    have last : ∀ c', c' = cl → c_Row_add X 62 c' s4 K := by
      intro c' ec
      refine step 62 c' s4 _ q_row_62 (by rw [f4 62 (by decide) (by decide), f3 62 (by decide) (by decide), f2 62 (by decide) (by decide), f1 62 (by decide) (by decide)]; exact t5) (fun s5 f5 g5 h5 => hK s5 (fun r hr => ?_) ⟨?_, ?_, ?_, ?_, g5⟩ ?_ ?_ ?_ ?_ ?_)
      · rw [f5 r (by omega) (by omega), f4 r (by omega) (by omega), f3 r (by omega) (by omega), f2 r (by omega) (by omega), f1 r (by omega) (by omega)]
      · rw [f5 54 (by decide) (by decide), f4 54 (by decide) (by decide), f3 54 (by decide) (by decide), f2 54 (by decide) (by decide)]; exact g1
      · rw [f5 56 (by decide) (by decide), f4 56 (by decide) (by decide), f3 56 (by decide) (by decide)]; exact g2
      · rw [f5 58 (by decide) (by decide), f4 58 (by decide) (by decide)]; exact g3
      · rw [f5 60 (by decide) (by decide)]; exact g4
      · rw [f5 55 (by decide) (by decide), f4 55 (by decide) (by decide), f3 55 (by decide) (by decide), f2 55 (by decide) (by decide)]; exact h1
      · rw [f5 57 (by decide) (by decide), f4 57 (by decide) (by decide), f3 57 (by decide) (by decide), h2, f1 57 (by decide) (by decide)]
      · rw [f5 59 (by decide) (by decide), f4 59 (by decide) (by decide), h3, f2 59 (by decide) (by decide), f1 59 (by decide) (by decide)]
      · rw [f5 61 (by decide) (by decide), h4, f3 61 (by decide) (by decide), f2 61 (by decide) (by decide), f1 61 (by decide) (by decide), eo]
      · rw [h5, f4 63 (by decide) (by decide), f3 63 (by decide) (by decide), f2 63 (by decide) (by decide), f1 63 (by decide) (by decide), ec]
    refine k_Runs_isFlank hh hi (fun fk => z_f (by decide) (last 1 ?_)) (fun fk => z_t rfl (last 0 ?_))
    · rcases hcl with z | z
      · exact z.2.symm
      · exact absurd fk z.1
    · rcases hcl with z | z
      · exact absurd z.1 fk
      · exact z.2.symm
  refine k_Runs_isFlank hi hh (fun fk => z_f (by decide) (fin 1 ?_)) (fun fk => z_t rfl (fin 0 ?_))
  · rcases ho with z | z
    · exact z.2.symm
    · exact absurd fk z.1
  · rcases ho with z | z
    · exact absurd z.1 fk
    · exact z.2.symm
/-- stars -/
theorem zSc.stars (H : zSc a b n m S p q R rho P) (lt : P < m) (hc : b 138 P = 42) (N : zNx X a b n m P KI) : c_Il_passStars X P a KI := by
  obtain ⟨m0, m2⟩ := H.W.m0
  obtain ⟨s1, s2⟩ := H.W.sz
  obtain ⟨c1, c2, c3, c4⟩ := H.c0
  obtain ⟨n1, n2, n3, n4, n5, n6⟩ := H.nn
  obtain ⟨t1, t2, t3, t4, t5, t6, t7, t8⟩ := H.N.sz
  have Rp := H.Rp
  obtain ⟨r1, r2, r3, r4⟩ := zRE_is (b := b) lt
  obtain ⟨op, ho⟩ : ∃ op : Int, (zFk (zI b m (zRE b m P)) (zI b m (P - 1)) ∧ op = 1) ∨ (¬ zFk (zI b m (zRE b m P)) (zI b m (P - 1)) ∧ op = 0) := by
    by_cases z : zFk (zI b m (zRE b m P)) (zI b m (P - 1))
    · exact ⟨1, Or.inl ⟨z, rfl⟩⟩
    · exact ⟨0, Or.inr ⟨z, rfl⟩⟩
  obtain ⟨cl, hcl⟩ : ∃ cl : Int, (zFk (zI b m (P - 1)) (zI b m (zRE b m P)) ∧ cl = 1) ∨ (¬ zFk (zI b m (P - 1)) (zI b m (zRE b m P)) ∧ cl = 0) := by
    by_cases z : zFk (zI b m (P - 1)) (zI b m (zRE b m P))
    · exact ⟨1, Or.inl ⟨z, rfl⟩⟩
    · exact ⟨0, Or.inr ⟨z, rfl⟩⟩
  have o01 : op = 0 ∨ op = 1 := by rcases ho with z | z <;> omega
  have c01 : cl = 0 ∨ cl = 1 := by rcases hcl with z | z <;> omega
  refine sg_Il_passStars (k_Il_runEnd H.W c1 lt ⟨by omega, k_Row_at q_row_45 (by omega) (k_Row_at q_row_45 (by omega) ?_)⟩)
  rw [H.W.zt, H.W.zt]
  refine k_Runs_add ⟨t1, t2, t3, t4, t5⟩ t7 (by omega) (by omega) (by omega) H.ch H.ch ho hcl (fun a' fa sz f55 f57 f59 f61 f63 => ?_)
  -- the model
  generalize e0 : q_up (q_up (q_up b 144 p op) 145 p cl) 146 p (zRE b m P - P) = b0
  have g0 : ∀ r, r ≠ 144 → r ≠ 145 → r ≠ 146 → b0 r = b r := fun r x y z => by rw [← e0, q_up_ne z, q_up_ne y, q_up_ne x]
  obtain ⟨b', A, W⟩ := z_1V (k_m_adds (X := X) (b := b0) (p := p) (τ := 1) (v := P) (u := zRE b m P - P) (KV := fun b' => zAd b0 b' p 1 P (zRE b m P - P)) (by rw [g0 113 (by decide) (by decide) (by decide)]; exact n2) c3 (by omega) (fun b' A => A))
  obtain ⟨Z, F⟩ := H.star (a' := a') (b' := b') (P1 := zRE b m P) o01 c01 r1 r2 (fun i u v => by rw [r3 i u v]; exact hc) (by omega) fa sz f55 f57 f59 f61 f63 (fun r x y => by rw [A.fr r x (by omega) (by omega) (by omega) (by omega), g0 r (by omega) (by omega) (by omega)]) (fun j hj => by rw [A.f113 j hj, g0 113 (by decide) (by decide) (by decide)]) A.f33 (by rw [A.t, g0 141 (by decide) (by decide) (by decide)]) (by rw [A.v2, g0 142 (by decide) (by decide) (by decide)]) (by rw [A.v3, g0 143 (by decide) (by decide) (by decide)]) (by rw [A.fr 144 (by decide) (by decide) (by decide) (by decide) (by decide), ← e0, q_up_ne (by decide), q_up_ne (by decide), q_up_fn]) (by rw [A.fr 145 (by decide) (by decide) (by decide) (by decide) (by decide), ← e0, q_up_ne (by decide), q_up_fn, q_up_ne (by decide)]) (by rw [A.fr 146 (by decide) (by decide) (by decide) (by decide) (by decide), ← e0, q_up_fn, q_up_ne (by decide), q_up_ne (by decide)]) (by rw [A.d, g0 147 (by decide) (by decide) (by decide)])
  refine N a' b' _ _ _ _ _ _ Z F r1 (fun Kf hk => H.cuts lt (Or.inl (by omega)) ?_)
  rw [hc]
  have W' := H.W
  have m138 : b' 138 = b 138 := F.fb 138 (by decide) (by omega)
  have Wb : zWr a b' m := zWr.mk H.W.m0 (by rw [F.f113 28 (by decide) (by decide)]; exact H.W.sz) (by rw [m138]; exact H.W.ch)
  have reE : zRE b' m P = zRE b m P := by unfold zRE; rw [m138]
  -- behind the piece, the run is told once more
  have back : L_m_cuts_17 X (zRE b m P) b' Kf → c_m_run X P b' (fun r4 s3 => (-2147483648 ≤ (P + r4) ∧ (P + r4) < 2147483648) ∧ L_m_cuts_17 X (P + r4) s3 Kf) := by
    intro hk
    refine k_m_run Wb c1 lt ?_
    rw [reE, show P + (zRE b m P - P) = zRE b m P by omega]
    exact ⟨by omega, hk⟩
  refine sg_m_cuts_69 (z_t (by decide) (z_t (by decide) (z_t (by decide) (z_f (fun z => z rfl) (sg_m_addsRun (k_m_run H.W c1 lt ⟨by omega, k_m_in s2 m0 m2 ⟨by omega, k_m_in s2 m0 m2 ?_⟩⟩))))))
  rw [show P + (zRE b m P - P) = zRE b m P by omega, n2]
  have fin : ∀ o', o' = op → L_m_addsRun_66 X P (zRE b m P - P) (zI b m (P - 1)) (zI b m (zRE b m P)) p o' b (fun s2 => c_m_run X P s2 (fun r4 s3 => (-2147483648 ≤ (P + r4) ∧ (P + r4) < 2147483648) ∧ L_m_cuts_17 X (P + r4) s3 Kf)) := by
    intro o' eo
    refine sg_m_addsRun_66 ⟨c3, by omega, by omega, by omega, fun u1 w1 => ?_⟩
    have q1 : u1 113 33 = p := by rw [w1, q_up_ne (by decide)]; exact n2
    have last : ∀ c', c' = cl → ((0 : Int) ≤ (u1 113 33)) ∧ ((u1 113 33) < (241 : Int)) ∧ (∀ s4 : qM, s4 = q_up u1 145 (u1 113 33) c' → ((0 : Int) ≤ (s4 113 33)) ∧ ((s4 113 33) < (241 : Int)) ∧ (∀ s5 : qM, s5 = q_up s4 146 (s4 113 33) (zRE b m P - P) → c_m_adds X 1 P (zRE b m P - P) s5 (fun s6 => c_m_run X P s6 (fun r4 s3 => (-2147483648 ≤ (P + r4) ∧ (P + r4) < 2147483648) ∧ L_m_cuts_17 X (P + r4) s3 Kf)))) := by
      intro c' ec
      rw [q1]
      refine ⟨c3, by omega, fun s4 e4 => ?_⟩
      have q4 : s4 113 33 = p := by rw [e4, q_up_ne (by decide)]; exact q1
      rw [q4]
      refine ⟨c3, by omega, fun s5 e5 => ?_⟩
      have : s5 = b0 := by rw [e5, e4, w1, eo, ec, e0]
      rw [this]
      exact W _ (back hk)
    refine k_m_isEdge (fun g => z_t (by decide) (last 0 ?_)) (fun g => z_f (fun z => z rfl) (k_m_isSign (fun sg => z_f (by decide) (k_m_isEdge (fun g2 => z_t (by decide) (last 1 ?_)) (fun g2 => z_f (fun z => z rfl) (k_m_isSign (fun s3 => z_f (by decide) (last 1 ?_)) (fun s3 => z_t rfl (last 0 ?_)))))) (fun sg => z_t rfl (last 1 ?_))))
    · rcases hcl with z | z
      · exact absurd g z.1.1
      · exact z.2.symm
    · rcases hcl with z | z
      · exact z.2.symm
      · exact absurd ⟨g, Or.inr (Or.inl g2)⟩ z.1
    · rcases hcl with z | z
      · exact z.2.symm
      · exact absurd ⟨g, Or.inr (Or.inr s3)⟩ z.1
    · rcases hcl with z | z
      · exact absurd z.1.2 (fun y => y.elim (fun w => w sg) (fun w => w.elim g2 s3))
      · exact z.2.symm
    · rcases hcl with z | z
      · exact z.2.symm
      · exact absurd ⟨g, Or.inl sg⟩ z.1
  refine k_m_isEdge (fun g => z_t (by decide) (fin 0 ?_)) (fun g => z_f (fun z => z rfl) (k_m_isSign (fun sg => z_f (by decide) (k_m_isEdge (fun g2 => z_t (by decide) (fin 1 ?_)) (fun g2 => z_f (fun z => z rfl) (k_m_isSign (fun s3 => z_f (by decide) (fin 1 ?_)) (fun s3 => z_t rfl (fin 0 ?_)))))) (fun sg => z_t rfl (fin 1 ?_))))
  · rcases ho with z | z
    · exact absurd g z.1.1
    · exact z.2.symm
  · rcases ho with z | z
    · exact z.2.symm
    · exact absurd ⟨g, Or.inr (Or.inl g2)⟩ z.1
  · rcases ho with z | z
    · exact z.2.symm
    · exact absurd ⟨g, Or.inr (Or.inr s3)⟩ z.1
  · rcases ho with z | z
    · exact absurd z.1.2 (fun y => y.elim (fun w => w sg) (fun w => w.elim g2 s3))
    · exact z.2.symm
  · rcases ho with z | z
    · exact z.2.symm
    · exact absurd ⟨g, Or.inl sg⟩ z.1
end ScanStep
