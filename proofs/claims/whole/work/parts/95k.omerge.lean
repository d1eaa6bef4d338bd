/-! merge. -/
section OMerge
variable {X : Nat × (Nat → Int32)} {s : qM}
theorem o_merge (H : zIv X s) : O_merge (zIv X) X s := by
  unfold O_merge
  have start := fun (b : qM) (T2 : b 113 0 = s 113 0 ∧ b 114 = s 114 ∧ b 115 = s 115 ∧ b 116 = s 116) => k_runAll (X := X) (K := fun a' => ∃ b' v1 c g y, ((∀ r, r < 8 ∨ (12 ≤ r ∧ r < 90) ∨ 113 ≤ r → a' r = s r) ∧ a' 8 1 = a' 10 1 ∧ zLn (s 2) (s 1 1) (a' 10 1) (a' 9) (a' 11)) ∧ a' 90 9 = v1 ∧ 0 ≤ v1 ∧ (∀ r, r < 113 ∨ (113 < r ∧ r < 154) ∨ 160 < r → b' r = b r) ∧ (∀ j, j ≠ 63 → j ≠ 64 → b' 113 j = b 113 j) ∧ zMo a' b' a' b' c g y ∧ ∀ KI : Int → qM → Prop, zMe X b' v1 KI → L_m_merge_7 X 0 b KI) H.tx T2 H.k0 H.k1 (fun a' b' v1 c g y x1 x2 x3 x4 x5 x6 x7 x8 x9 => ⟨b', v1, c, g, y, ⟨x1, x2, x3⟩, x4, x5, x6, x7, x8, x9⟩)
  obtain ⟨a1, F0, W1, U1⟩ := z_2V (start s ⟨rfl, rfl, rfl, rfl⟩)
  obtain ⟨_, v, c0, g0, y0, ⟨fr, e8, ln⟩, ev, v0, _, _, O0, _⟩ := F0
  have fact := fun (b : qM) (T2 : b 113 0 = s 113 0 ∧ b 114 = s 114 ∧ b 115 = s 115 ∧ b 116 = s 116) => U1 _ (start b T2)
  have y90 := O0.ln.1
  have yn := O0.ln.2.2
  -- the text stays
  have stay : ∀ e : qM, (∀ r, r < 113 ∨ (113 < r ∧ r < 154) → e r = a1 r) → e 113 0 = a1 113 0 → zIv X e := by
    intro e fe e0
    have es : ∀ r, r < 8 ∨ (12 ≤ r ∧ r < 90) ∨ (113 < r ∧ r < 154) → e r = s r := fun r hr => by rw [fe r (by omega), fr r (by omega)]
    have e130 : e 113 0 = s 113 0 := by rw [e0, fr 113 (by omega)]
    refine zIv.mk (H.tx.fr (es 1 (by omega)) (es 2 (by omega)) e130 (es 114 (by omega))) (H.k0.fr (es 3 (by omega)) (es 4 (by omega)) (es 115 (by omega)) (es 116 (by omega))) (H.k1.fr (es 5 (by omega)) (es 6 (by omega)) (es 115 (by omega)) (es 116 (by omega))) ?_ (fun z => ?_)
    · rw [es 54 (by omega), es 56 (by omega), es 58 (by omega), es 60 (by omega), es 62 (by omega)]; exact H.r0
    · rw [es 0 (by omega)] at z
      refine (H.cc z).re (fun r u w => es r (by omega)) (es 1 (by omega)) (es 2 (by omega)) (fun b R => R.fr (fun r u w => es r (by omega)) (es 1 (by omega)) (es 2 (by omega)) (by rw [fe 8 (by omega), fe 10 (by omega)]; exact e8) ?_)
      rw [es 1 (by omega), es 2 (by omega), fe 9 (by omega), fe 10 (by omega), fe 11 (by omega)]
      exact ln
  have tell : ∀ (x : Int), (0 < v → x = v) → (v ≤ 0 → x = -2 ∧ ¬ y0 ≤ 240) → c_m_merge X a1 (fun y s2 => x = y ∧ zIv X s2) := by
    intro x h1 h2
    refine sg_m_merge (fun s1 e1 => ?_)
    have d : ∀ r, r ≠ 113 → s1 r = a1 r := fun r hr => by rw [e1, q_up_ne hr]
    obtain ⟨b', v', c', g', y', _, ev', _, fb, fj, O', W⟩ := fact s1 ⟨by rw [e1, q_up_nj (by decide), fr 113 (by omega)], by rw [d 114 (by decide), fr 114 (by omega)], by rw [d 115 (by decide), fr 115 (by omega)], by rw [d 116 (by decide), fr 116 (by omega)]⟩
    have vv : v' = v := by rw [← ev', ev]
    have yy : y' = y0 := by have := O'.ln.1; omega
    have iv : zIv X b' := stay b' (fun r hr => by rw [fb r (by omega), d r (by omega)]) (by rw [fj 0 (by decide) (by decide), e1, q_up_nj (by decide)])
    rw [vv] at W
    refine W _ (z_c (fun le => z_f (by have := O'.ln.2.1; have := (h2 le).2; omega) ⟨(h2 le).1, iv⟩) (fun gt => ⟨h1 (by omega), iv⟩))
  refine sg_T_merge (W1 _ (sg_Merger_conflicts (z_c (fun le => sg_Merger_mergedSize (z_c (fun l2 => sg_Merger_merged ?_) (fun g2 => ?_))) (fun gt => sg_Merger_conflicts ?_))))
  · have s111 : a1 111 1 = y0 := by rw [O0.sz, if_pos (by omega)]
    refine k_Row_become q_row_1 q_row_111 (by omega) (by omega) (by omega) (by decide) (by decide) (by decide) (fun a2 f2 g2 w2 a3 e3 => ?_)
    have c3 : ∀ r, r ≠ 0 → a3 r = a2 r := fun r hr => by rw [e3, q_up_ne hr]
    have d3 : ∀ r, r ≠ 0 → r ≠ 1 → r ≠ 2 → a3 r = a1 r := fun r x y z => by rw [c3 r x, f2 r y z]
    refine sg_m_merge (fun s1 e1 => ?_)
    have d : ∀ r, r ≠ 113 → s1 r = a3 r := fun r hr => by rw [e1, q_up_ne hr]
    obtain ⟨b', v', c', g', y', _, ev', _, fb, fj, O', W⟩ := fact s1 ⟨by rw [e1, q_up_nj (by decide), d3 113 (by decide) (by decide) (by decide), fr 113 (by omega)], by rw [d 114 (by decide), d3 114 (by decide) (by decide) (by decide), fr 114 (by omega)], by rw [d 115 (by decide), d3 115 (by decide) (by decide) (by decide), fr 115 (by omega)], by rw [d 116 (by decide), d3 116 (by decide) (by decide) (by decide), fr 116 (by omega)]⟩
    have vv : v' = v := by rw [← ev', ev]
    have yy : y' = y0 := by have := O'.ln.1; omega
    have b63 : b' 113 63 = y0 := by rw [O'.ln.2.1, yy]
    refine W _ (z_t (by omega) (z_t (by omega) (fun s2 e2 => ?_)))
    rw [b63] at e2
    refine k_m_mergeText yn (by omega) (fun s' fs ws => ⟨rfl, ?_⟩) (by rw [e2, q_up_nj (by decide)]; exact b63)
    have q1 : ∀ r, r < 113 ∨ r = 115 ∨ r = 116 → s' r = a3 r := fun r hr => by rw [fs r (by omega), e2, q_up_ne (by omega), fb r (by omega), d r (by omega)]
    have q2 : ∀ r, (3 ≤ r ∧ r < 7) ∨ (50 ≤ r ∧ r < 70) ∨ r = 115 ∨ r = 116 → s' r = s r := fun r hr => by rw [q1 r (by omega), d3 r (by omega) (by omega) (by omega), fr r (by omega)]
    refine zIv.mk ?_ (H.k0.fr (q2 3 (by omega)) (q2 4 (by omega)) (q2 115 (by omega)) (q2 116 (by omega))) (H.k1.fr (q2 5 (by omega)) (q2 6 (by omega)) (q2 115 (by omega)) (q2 116 (by omega))) ?_ (fun z => ?_)
    · have r1 : s' 1 1 = y0 := by rw [q1 1 (by omega), c3 1 (by decide), g2]; exact s111
      unfold zTx
      rw [r1]
      refine ⟨yn, by omega, ?_, fun i u z => ?_⟩
      · rw [fs 113 (by decide), e2, q_up_at]
      · have t := O'.tx i u (by omega)
        have w := w2 i u (by omega)
        rw [ws i u z, e2, q_up_ne (by decide), q1 2 (by omega), c3 2 (by decide), show a2 2 i = a2 (1 + 1) i from rfl, w, show a1 (111 + 1) i = a1 112 i from rfl]
        exact ⟨t.1.symm, t.2⟩
    · rw [q2 54 (by omega), q2 56 (by omega), q2 58 (by omega), q2 60 (by omega), q2 62 (by omega)]; exact H.r0
    · rw [q1 0 (by omega), e3, q_up_at] at z; exact absurd z (by decide)
  · exact tell (-2) (fun z => by omega) (fun _ => ⟨rfl, by omega⟩)
  · rw [ev]; exact tell v (fun _ => rfl) (fun z => by omega)
end OMerge
