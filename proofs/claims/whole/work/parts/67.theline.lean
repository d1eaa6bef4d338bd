/-! A whole line, in both at once. -/
section TheLine
variable {X : Nat × (Nat → Int32)} {a b a' b' s : qM} {K : qM → Prop} {gh : qM × qM} {t : Int → Int} {N LL n L P Q R E v x : Int} {d i : Nat} {c : Nat → Int}
theorem zMd.leaf {at_ op pt0 : Int} (D : zMd a b gh t N LL n L P d c i R E) (nb : zSkip t R E ≠ E) (hop : op = -1 ∨ (0 ≤ op ∧ op < 600)) (hp : (a 43 7 ≠ 0 ∧ pt0 ≠ 0 ∧ i = d) ∨ (a 43 7 = 0 ∧ pt0 = 0 ∧ op = (if b 117 (c d) = 6 ∨ b 117 (c d) = 5 then c d else -1)))
    (hK : ∀ a5 b5 n5 d5 c5, zLi a5 b5 gh t N LL n5 (L + 1) (E + 1) E d5 c5 → (∀ Kf : qM → Prop, Kf b5 → L_m_looksAt_228 X P at_ (c i) op 0 pt0 b Kf) → K a5) : c_Rd_readLeaf X L a (fun r7 s6 => L_Rd_read_129 X L 0 r7 s6 K) := by
  obtain ⟨nr, n1⟩ := D.nr
  obtain ⟨r13, r15, r17, _⟩ := D.S.B.rows
  have hRE := D.S.H1.RE
  have hR0 := D.S.H1.R0
  have hE2 : E ≤ 240 := Int.le_trans D.S.H1.En D.S.H1.n240
  have g := zSkip_is (t := t) hRE
  have lt : R < E := by omega
  have hl : ∀ i, R ≤ i → i < E → 32 ≤ t i ∧ t i ≤ 126 := fun i u w => D.hl i (by have := D.ll; omega) w
  have hd := zHd_rng (t := t) hRE
  have rd := D.S.C.rng (Nat.le_refl d)
  have d0 : 0 ≤ c d := by omega
  have tx : b 114 = t := D.S.H2.tx
  -- the model up to the blank test
  have m1 : ∀ Kf : qM → Prop, ((zHd t R E ≤ 0 → c_m_isFence X b (fun r6 s5 => (r6 = 0 → (op = -1 → L_m_looksAt_398 X P (c i) 0 s5 Kf) ∧ (¬ op = -1 → (0 : Int) ≤ op ∧ op < (600 : Int) ∧ (s5 117 op ≠ 6 → L_m_looksAt_398 X P (c i) 0 s5 Kf) ∧ (¬ s5 117 op ≠ 6 → (pt0 ≠ 0 → L_m_looksAt_398 X P (c i) 0 s5 Kf) ∧ (¬ pt0 ≠ 0 → c_m_lays X op s5 (fun s7 => zTl X P 0 op s7 Kf))))) ∧ (¬ r6 = 0 → c_m_puts X (c i) 5 0 s5 (fun r9 s8 => zTl X P 0 r9 s8 Kf)))) ∧
      (¬ zHd t R E ≤ 0 → c_m_puts X (c i) 4 (zHd t R E) b (fun r11 s10 => (-2147483648 ≤ ((s10 113 49) + (zHd t R E)) ∧ ((s10 113 49) + (zHd t R E)) < 2147483648) ∧ (∀ s12 : qM, s12 = q_up s10 113 49 ((s10 113 49) + (zHd t R E)) → c_m_lays X r11 s12 (fun s13 => (-2147483648 ≤ ((s13 113 49) - (zHd t R E)) ∧ ((s13 113 49) - (zHd t R E)) < 2147483648) ∧ (∀ s14 : qM, s14 = q_up s13 113 49 ((s13 113 49) - (zHd t R E)) → (-2147483648 ≤ ((s14 113 49) + (zHd t R E)) ∧ ((s14 113 49) + (zHd t R E)) < 2147483648) ∧ c_m_names X r11 ((s14 113 49) + (zHd t R E)) (s14 113 50) s14 (fun s15 => zTl X P 0 r11 s15 Kf))))))) → L_m_looksAt_228 X P at_ (c i) op 0 pt0 b Kf := by
    intro Kf hk
    refine sg_m_looksAt_228 (k_m_headingLevel D.S.H2 hl ?_)
    rw [D.S.H2.rest, D.S.H2.stop]
    refine k_m_isBlank hR0 hRE hE2 (fun y => ?_) (fun _ => z_t rfl hk)
    rw [tx] at y; exact absurd y nb
  refine sg_Rd_readLeaf (k_Rd_headingLevel D.S.H1 (z_c (fun h0 => k_Rd_isFenceMark D.S.H1 (fun f => z_f (by decide) ?_) (fun f => z_t rfl ?_)) (fun h0 => ?_)))
  · exact D.fence lt (fun a5 b5 d4 c4 Z W => hK a5 b5 _ d4 c4 Z (fun Kf hk => m1 Kf (z_t h0 (k_m_isFence D.S.H2 (fun _ => z_f (by decide) (W Kf hk)) (fun y => absurd f y)))))
  · -- neither HEADING nor FENCE
    have m2 : ∀ Kf : qM → Prop, L_m_looksAt_398 X P (c i) 0 b Kf → (op = -1 ∨ b 117 op ≠ 6 ∨ pt0 ≠ 0) → L_m_looksAt_228 X P at_ (c i) op 0 pt0 b Kf := by
      intro Kf hk ho
      refine m1 Kf (z_t h0 (k_m_isFence D.S.H2 (fun y => absurd y f) (fun _ => z_t rfl (z_c (fun _ => hk) (fun y => ?_)))))
      have hr := hop.resolve_left y
      exact ⟨hr.1, hr.2, z_c (fun _ => hk) (fun w => z_t ((ho.resolve_left y).resolve_left w) hk)⟩
    have rest : (op = -1 ∨ b 117 op ≠ 6 ∨ pt0 ≠ 0) → L_Rd_readLeaf_68 X L a (fun r7 s6 => L_Rd_read_129 X L 0 r7 s6 K) := by
      intro ho
      refine sg_Rd_readLeaf_68 (k_Rd_definedName D.S.H1 lt (fun df => ?_) (fun df => ?_))
      · have ag := zAnc_good (t := t) (a := R + 1) (b := zWord t (R + 1) E)
        have pos := zCode_pos ag.1 ag.2.2
        have nz : ¬ q_lcmp (zCode (zAnc t (R + 1) (zWord t (R + 1) E))) 0 = 0 := by
          unfold q_lcmp; rw [if_pos (by omega)]; decide
        refine z_f nz (D.defn lt df (fun a5 b5 d4 c4 Z W => hK a5 b5 _ d4 c4 Z (fun Kf hk => m2 Kf (sg_m_looksAt_398 (k_m_isDefinition D.S.H2 lt (fun _ => z_f (by decide) (W Kf hk)) (fun y => absurd df y))) ho)))
      · have z : q_lcmp 0 0 = 0 := by decide
        exact z_t z (D.para lt nb (fun a5 b5 d4 c4 Z W => hK a5 b5 _ d4 c4 Z (fun Kf hk => m2 Kf (sg_m_looksAt_398 (k_m_isDefinition D.S.H2 lt (fun y => absurd y df) (fun _ => z_t rfl (W Kf hk)))) ho)))
    refine k_Blocks_innermostOpen D.S.C r17 (by omega) (k_Blocks_kindOf (by omega) ?_)
    rw [zT_in d0 (by omega), (D.S.B.kd (c d) d0 rd.2).1]
    refine z_c (fun n6 => rest ?_) (fun e6 => z_c (fun p7 => rest ?_) (fun p7 => ?_))
    · rcases hp with ⟨_, h, _⟩ | ⟨_, _, h⟩
      · exact Or.inr (Or.inr h)
      · by_cases k5 : b 117 (c d) = 5
        · rw [if_pos (Or.inr k5)] at h; right; left; rw [h]; exact n6
        · rw [if_neg (by omega)] at h; exact Or.inl h
    · rcases hp with ⟨_, h, _⟩ | ⟨h, _, _⟩
      · exact Or.inr (Or.inr h)
      · exact absurd h p7
    · have p7 := Decidable.not_not.mp p7
      have e6 := Decidable.not_not.mp e6
      obtain ⟨_, pz, eo⟩ := hp.resolve_left (fun z => z.1 p7)
      rw [if_pos (Or.inl e6)] at eo
      refine D.lazy e6 nb (fun a5 b5 Z W => hK a5 b5 _ _ _ Z (fun Kf hk => m1 Kf (z_t h0 (k_m_isFence D.S.H2 (fun y => absurd y f) (fun _ => z_t rfl ?_)))))
      rw [eo]
      exact z_f (by omega) ⟨d0, by omega, z_f (fun y => y e6) (z_f (fun y => y pz) (W Kf hk))⟩
  · exact D.head lt (by omega) hd.2.1 hd.2.2 (fun a5 b5 d4 c4 Z W => hK a5 b5 _ d4 c4 Z (fun Kf hk => m1 Kf (z_f h0 (W Kf hk))))
theorem zMd.blank {op pt0 al : Int} {j : Nat} (D : zMd a b gh t N LL n L P d c i R E) (bl : zSkip t R E = E) (hp : (a 43 7 ≠ 0 ∧ pt0 ≠ 0 ∧ i = d) ∨ (a 43 7 = 0 ∧ pt0 = 0 ∧ zNp a b t d c i j al R E ∧ (al = 1 → b 117 (c d) ≠ 5))) {at_ : Int} (hat : pt0 = 0 → at_ = c j)
    (hK : ∀ a5 b5 n5 d5 c5, zLi a5 b5 gh t N LL n5 (L + 1) (E + 1) E d5 c5 → (∀ Kf : qM → Prop, Kf b5 → L_m_looksAt_228 X P at_ (c i) op 0 pt0 b Kf) → K a5) : c_Rd_readBlank X a (fun r9 s8 => L_Rd_read_129 X L 1 r9 s8 K) := by
  have hRE := D.S.H1.RE
  have hR0 := D.S.H1.R0
  have hE2 : E ≤ 240 := Int.le_trans D.S.H1.En D.S.H1.n240
  have hl : ∀ i, R ≤ i → i < E → 32 ≤ t i ∧ t i ≤ 126 := fun i u w => D.hl i (by have := D.ll; omega) w
  have m1 : ∀ Kf : qM → Prop, (((pt0 ≠ 0) → L_m_looksAt_264 X P at_ (c i) (c i) pt0 0 b Kf) ∧ (¬ (pt0 ≠ 0) → L_m_looksAt_264 X P at_ (c i) (c i) pt0 1 b Kf)) → L_m_looksAt_228 X P at_ (c i) op 0 pt0 b Kf := by
    intro Kf hk
    refine sg_m_looksAt_228 (k_m_headingLevel D.S.H2 hl ?_)
    rw [D.S.H2.rest, D.S.H2.stop]
    refine k_m_isBlank hR0 hRE hE2 (fun _ => z_f (by decide) hk) (fun y => ?_)
    rw [D.S.H2.tx] at y; exact absurd bl y
  rcases hp with ⟨h7, hz, hi⟩ | ⟨h7, hz, Q, nf⟩
  · exact D.blankPut hi h7 (fun a5 b5 d5 c5 Z W => hK a5 b5 _ _ _ Z (fun Kf hk => m1 Kf (z_t hz (sg_m_looksAt_264 (z_t hz (W Kf hk))))))
  · have ea := hat hz
    rw [ea] at hK m1
    exact D.blankNo Q bl h7 nf (fun a5 b5 d5 c5 Z W => hK a5 b5 _ _ _ Z (fun Kf hk => m1 Kf (z_f (fun y => y hz) (sg_m_looksAt_264 (z_f (fun y => y hz) (W Kf hk))))))
theorem zLs.fr (S : zLs a b n L) (fa : ∀ q, q ≠ 34 → q ≠ 43 → a' q = a q) (f114 : b' 114 = b 114) (f117 : b' 117 = b 117) (f125 : b' 125 = b 125) (f126 : b' 126 = b 126) (f127 : b' 127 = b 127) (f128 : b' 128 = b 128) (f124 : ∀ l, l < L → b' 124 l = b 124 l) : zLs a' b' n L := by
  refine zLs.mk S.L0 (fun l l0 lL => ?_) (fun l l0 lL => ?_) (fun k k0 kn h4 h6 => ?_) (fun l l0 lL => ?_)
  · rw [fa 32 (by decide) (by decide), fa 9 (by decide) (by decide), f127, f128, f117]; exact S.ow l l0 lL
  · rw [fa 9 (by decide) (by decide), fa 11 (by decide) (by decide), fa 30 (by decide) (by decide), f125, f126, f117, f124 l lL]; exact S.bl l l0 lL
  · have ef : zF a' b' k = zF a b k := by unfold zF; rw [fa 26 (by decide) (by decide), f117]
    rw [f117] at h4 h6
    have h := S.rg k k0 kn h4 h6
    rw [ef, f117, fa 26 (by decide) (by decide), fa 28 (by decide) (by decide)]
    exact ⟨h.1, h.2.1, h.2.2.1, fun l l0 lL => by rw [f124 l lL]; exact h.2.2.2.1 l l0 lL, h.2.2.2.2⟩
  · rw [f114, f117, f125, f126, f124 l lL]; exact S.nb l l0 lL
theorem zPt.fr {p q : Int} (S : zPt a b n p q) (fa : ∀ q, q ≠ 34 → q ≠ 43 → a' q = a q) (f117 : b' 117 = b 117) : zPt a' b' n p q := by
  have eu : zU1 a' b' = zU1 a b := by
    funext k
    unfold zU1 zF
    rw [fa 26 (by decide) (by decide), fa 28 (by decide) (by decide), fa 30 (by decide) (by decide), fa 11 (by decide) (by decide), f117]
  have ev : zV a' b' = zV a b := by funext k; unfold zV; rw [eu, f117]
  exact zPt.mk (by rw [eu]; exact S.p1) (by rw [ev]; exact S.p2)
theorem zW_ge {C F : Int → Int} {f : Int} : ∀ (m : Nat), (∀ l, f ≤ l → l < f + m → C l ≤ F l) → (m : Int) ≤ zW C F f m
  | 0, _ => Int.le_refl _
  | m + 1, h => by
    have := zW_ge m (fun l u w => h l u (by omega))
    have := h (f + m) (by omega) (by omega)
    unfold zW; omega
theorem zSig_nn {f : Int → Int} : ∀ (m : Nat), (∀ k : Int, 0 ≤ k → k < m → 0 ≤ f k) → 0 ≤ zSig f m
  | 0, _ => Int.le_refl _
  | m + 1, h => by
    have := zSig_nn m (fun k u w => h k u (by omega))
    have := h m (by omega) (by omega)
    unfold zSig; omega
theorem zLs.u1 (S : zLs a b n L) {k : Int} (k0 : 0 ≤ k) (kn : k < n) : 0 ≤ zU1 a b k ∧ 0 ≤ zV a b k := by
  unfold zV zU1
  by_cases h : 4 ≤ b 117 k ∧ b 117 k ≤ 6
  · have r := S.rg k k0 kn h.1 h.2
    have zf : 0 ≤ zF a b k := by unfold zF; split <;> omega
    have w := zW_ge (C := a 30) (F := a 11) (f := zF a b k) (a 28 k).toNat (fun l u w => by
      have hl := (r.2.2.2.1 l (by omega) (by omega)).mpr ⟨u, by omega⟩
      exact (S.bl l (by omega) (by omega) (by omega)).2.2.2.2.2.2.2)
    rw [if_pos h]
    refine ⟨by omega, ?_⟩
    by_cases h2 : b 117 k = 4 ∨ b 117 k = 6
    · rw [if_pos h2]; omega
    · rw [if_neg h2]; omega
  · rw [if_neg h]
    rw [if_neg (by omega)]
    omega
theorem zLi.cap (Z : zLi a b gh t N LL n L P Q d c) : n ≤ 1 + 2 * Q := by
  have h := Z.pt.p2
  have := zSig_nn (f := zV a b) n.toNat (fun k u w => (Z.S.u1 u (by omega)).2)
  omega
end TheLine
