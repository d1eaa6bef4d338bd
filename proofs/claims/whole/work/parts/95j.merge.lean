/-! Merges: the whole. -/
section Merge
variable {X : Nat × (Nat → Int32)} {a b a' b' s : qM} {K : qM → Prop} {KI : Int → qM → Prop} {w M LL LL' y : Int} {th rt : Nat} {u B' E' : Int → Int}
theorem zLm.of (w0 : 0 ≤ w ∧ w ≤ 2) (m : a rt 1 = M ∧ 0 ≤ M ∧ M ≤ 240) (t : ∀ i, 0 ≤ i → i < M → b 155 (240 * w + i) = a (rt + 1) i ∧ zChr (a (rt + 1) i)) (s1 : a (th + 1) 1 = LL) (s2 : a (th + 3) 1 = LL) (cl : zLn (a (rt + 1)) M LL (a (th + 2)) (a (th + 4))) (ml : zLn u M LL' B' E') (hu : ∀ i, 0 ≤ i → i < M → a (rt + 1) i = u i) (e156 : b 156 w = LL') (e : ∀ l, 0 ≤ l → l < LL' → b 157 (241 * w + l) = 240 * w + B' l ∧ b 158 (241 * w + l) = 240 * w + E' l) : zLm a b th rt w M LL := by
  obtain ⟨u1, u2⟩ := cl.uniq ml hu
  rw [u1] at e156 e
  refine zLm.mk w0 m t ⟨s1, s2, e156⟩ cl (fun l l0 lL => ?_)
  have h := e l l0 lL
  have v := u2 l l0 lL
  rw [← v.1, ← v.2]; exact h
theorem k_m_all2 : ∃ s', (∀ r, r ≠ 155 → s' r = s r) ∧ (∀ i, 0 ≤ i → i < 240 → s' 155 i = s 115 i ∧ s' 155 (240 + i) = s 114 i ∧ s' 155 (480 + i) = s 115 (240 + i)) ∧ ∀ KI : Int → qM → Prop, c_m_splits X 0 (s' 116 0) s' (fun s1 => c_m_splits X 1 (s1 113 0) s1 (fun s2 => c_m_splits X 2 (s2 116 1) s2 (fun s3 => c_m_takesTogether X 1 s3 (fun s4 => c_m_takesTogether X 2 s4 (fun s5 => (∀ s6 : qM, s6 = q_up s5 113 63 0 → (∀ s7 : qM, s7 = q_up s6 113 64 0 → L_m_merge_131 X 0 0 0 0 0 s7 KI))))))) → L_m_merge_7 X 0 s KI := by
  have L : ∀ (c : Nat) (v : Int) (s1 : qM), v + c = 240 → 0 ≤ v → (∀ r, r ≠ 155 → s1 r = s r) → (∀ i, 0 ≤ i → i < v → s1 155 i = s 115 i ∧ s1 155 (240 + i) = s 114 i ∧ s1 155 (480 + i) = s 115 (240 + i)) → ∃ s', (∀ r, r ≠ 155 → s' r = s r) ∧ (∀ i, 0 ≤ i → i < 240 → s' 155 i = s 115 i ∧ s' 155 (240 + i) = s 114 i ∧ s' 155 (480 + i) = s 115 (240 + i)) ∧ ∀ KI : Int → qM → Prop, c_m_splits X 0 (s' 116 0) s' (fun s1 => c_m_splits X 1 (s1 113 0) s1 (fun s2 => c_m_splits X 2 (s2 116 1) s2 (fun s3 => c_m_takesTogether X 1 s3 (fun s4 => c_m_takesTogether X 2 s4 (fun s5 => (∀ s6 : qM, s6 = q_up s5 113 63 0 → (∀ s7 : qM, s7 = q_up s6 113 64 0 → L_m_merge_131 X 0 0 0 0 0 s7 KI))))))) → L_m_merge_7 X v s1 KI := by
    intro c
    induction c with
    | zero =>
      intro v s1 hv v0 f w
      rw [show v = 240 by omega] at w ⊢
      exact ⟨s1, f, w, fun KI h => sg_m_merge_7 (z_t (by decide) h)⟩
    | succ c ih =>
      intro v s1 hv v0 f w
      generalize e8 : q_up s1 155 v (s1 115 v) = s8
      generalize e9 : q_up s8 155 (240 + v) (s8 114 v) = s9
      generalize e10 : q_up s9 155 (480 + v) (s9 115 (240 + v)) = s10
      have f8 : ∀ r, r ≠ 155 → s8 r = s r := fun r hr => by rw [← e8, q_up_ne hr]; exact f r hr
      have f9 : ∀ r, r ≠ 155 → s9 r = s r := fun r hr => by rw [← e9, q_up_ne hr]; exact f8 r hr
      obtain ⟨s', g1, g2, g3⟩ := ih (v + 1) s10 (by omega) (by omega) (fun r hr => by rw [← e10, q_up_ne hr]; exact f9 r hr) (fun i i0 iv => by
        by_cases z : i = v
        · refine ⟨?_, ?_, ?_⟩
          · rw [z, ← e10, q_up_nj (by omega), ← e9, q_up_nj (by omega), ← e8, q_up_at, f 115 (by decide)]
          · rw [z, ← e10, q_up_nj (by omega), ← e9, q_up_at, f8 114 (by decide)]
          · rw [z, ← e10, q_up_at, f9 115 (by decide)]
        · have o := w i i0 (by omega)
          refine ⟨?_, ?_, ?_⟩
          · rw [← e10, q_up_nj (by omega), ← e9, q_up_nj (by omega), ← e8, q_up_nj (by omega)]; exact o.1
          · rw [← e10, q_up_nj (by omega), ← e9, q_up_nj (by omega), ← e8, q_up_nj (by omega)]; exact o.2.1
          · rw [← e10, q_up_nj (by omega), ← e9, q_up_nj (by omega), ← e8, q_up_nj (by omega)]; exact o.2.2)
      refine ⟨s', g1, g2, fun KI h => sg_m_merge_7 (z_f (by omega) ⟨by omega, by omega, by omega, by omega, fun t8 k8 => ⟨by omega, by omega, by omega, by omega, by omega, fun t9 k9 => ⟨by omega, by omega, by omega, by omega, by omega, by omega, fun t10 k10 => ⟨by omega, ?_⟩⟩⟩⟩)⟩
      rw [k10, k9, k8, e8, e9, e10]; exact g3 KI h
  exact L 240 0 s (by decide) (Int.le_refl 0) (fun _ _ => rfl) (fun i u w => by omega)
/-- the class's run and the model's merge -/
theorem k_runAll (T : zTx a) (T2 : b 113 0 = a 113 0 ∧ b 114 = a 114 ∧ b 115 = a 115 ∧ b 116 = a 116) (S0 : zSl a 3 0) (S1 : zSl a 5 1)
    (h : ∀ a' b' v1 c g y, (∀ r, r < 8 ∨ (12 ≤ r ∧ r < 90) ∨ 113 ≤ r → a' r = a r) → a' 8 1 = a' 10 1 → zLn (a 2) (a 1 1) (a' 10 1) (a' 9) (a' 11) → a' 90 9 = v1 → 0 ≤ v1 → (∀ r, r < 113 ∨ (113 < r ∧ r < 154) ∨ 160 < r → b' r = b r) → (∀ j, j ≠ 63 → j ≠ 64 → b' 113 j = b 113 j) → zMo a' b' a' b' c g y → (∀ KI : Int → qM → Prop, zMe X b' v1 KI → L_m_merge_7 X 0 b KI) → K a') : c_Merger_run X a K := by
  obtain ⟨t1, t2, t3, t4⟩ := T
  obtain ⟨x1, x2, x3, x4⟩ := S0
  obtain ⟨z1, z2, z3, z4⟩ := S1
  obtain ⟨g0, g114, g115, g116⟩ := T2
  refine sg_Merger_run (k_Lines_split q_lines_91 (by decide) x1 x2 (fun a1 f1 e1 l1 => k_Lines_split q_lines_7 (by decide) (by rw [f1 1 (by omega)]; exact t1) (by rw [f1 1 (by omega)]; exact t2) (fun a2 f2 e2 l2 => k_Lines_split q_lines_96 (by decide) (by rw [f2 5 (by omega), f1 5 (by omega)]; exact z1) (by rw [f2 5 (by omega), f1 5 (by omega)]; exact z2) (fun a3 f3 e3 l3 => ?_))))
  have r3 : ∀ r, r < 8 ∨ (12 ≤ r ∧ r ≤ 91) ∨ 101 ≤ r → a3 r = a r := fun r hr => by rw [f3 r (by omega), f2 r (by omega), f1 r (by omega)]
  rw [show a1 (1 + 1) = a 2 from f1 2 (by omega), show a1 1 = a 1 from f1 1 (by omega)] at l2
  rw [show a2 (5 + 1) = a 6 by rw [f2 6 (by omega), f1 6 (by omega)], show a2 5 = a 5 by rw [f2 5 (by omega), f1 5 (by omega)]] at l3
  rw [show a (3 + 1) = a 4 from rfl] at l1
  -- the model's texts and lines
  obtain ⟨b1, h1, v1, W1⟩ := k_m_all2 (X := X) (s := b)
  have c0 : b1 116 0 = a 3 1 := by rw [h1 116 (by decide), g116]; exact x3
  obtain ⟨b2, ⟨i2, j2, o2, n2⟩, W2⟩ := z_1V (k_m_splits (X := X) (s := b1) (w := 0) (M := b1 116 0) (KV := fun s' => (∀ r, r ≠ 156 → r ≠ 157 → r ≠ 158 → s' r = b1 r) ∧ (∀ i, i ≠ 0 → s' 156 i = b1 156 i) ∧ (∀ i, i < 241 * 0 ∨ 241 * 0 + 241 ≤ i → s' 157 i = b1 157 i ∧ s' 158 i = b1 158 i) ∧ zLn (fun i => b1 155 (240 * 0 + i)) (b1 116 0) (s' 156 0) (fun l => s' 157 (241 * 0 + l) - 240 * 0) (fun l => s' 158 (241 * 0 + l) - 240 * 0)) ⟨by decide, by decide⟩ (by omega) (by omega) (fun s' x y z q => ⟨x, y, z, q⟩))
  have c1 : b2 113 0 = a 1 1 := by rw [i2 113 (by decide) (by decide) (by decide), h1 113 (by decide), g0]; exact t3
  obtain ⟨b3, ⟨i3, j3, o3, n3⟩, W3⟩ := z_1V (k_m_splits (X := X) (s := b2) (w := 1) (M := b2 113 0) (KV := fun s' => (∀ r, r ≠ 156 → r ≠ 157 → r ≠ 158 → s' r = b2 r) ∧ (∀ i, i ≠ 1 → s' 156 i = b2 156 i) ∧ (∀ i, i < 241 * 1 ∨ 241 * 1 + 241 ≤ i → s' 157 i = b2 157 i ∧ s' 158 i = b2 158 i) ∧ zLn (fun i => b2 155 (240 * 1 + i)) (b2 113 0) (s' 156 1) (fun l => s' 157 (241 * 1 + l) - 240 * 1) (fun l => s' 158 (241 * 1 + l) - 240 * 1)) ⟨by decide, by decide⟩ (by omega) (by omega) (fun s' x y z q => ⟨x, y, z, q⟩))
  have c2 : b3 116 1 = a 5 1 := by rw [i3 116 (by decide) (by decide) (by decide), i2 116 (by decide) (by decide) (by decide), h1 116 (by decide), g116]; exact z3
  obtain ⟨b4, ⟨i4, j4, o4, n4⟩, W4⟩ := z_1V (k_m_splits (X := X) (s := b3) (w := 2) (M := b3 116 1) (KV := fun s' => (∀ r, r ≠ 156 → r ≠ 157 → r ≠ 158 → s' r = b3 r) ∧ (∀ i, i ≠ 2 → s' 156 i = b3 156 i) ∧ (∀ i, i < 241 * 2 ∨ 241 * 2 + 241 ≤ i → s' 157 i = b3 157 i ∧ s' 158 i = b3 158 i) ∧ zLn (fun i => b3 155 (240 * 2 + i)) (b3 116 1) (s' 156 2) (fun l => s' 157 (241 * 2 + l) - 240 * 2) (fun l => s' 158 (241 * 2 + l) - 240 * 2)) ⟨by decide, by decide⟩ (by omega) (by omega) (fun s' x y z q => ⟨x, y, z, q⟩))
  rw [c0] at n2
  rw [c1] at n3
  rw [c2] at n4
  have b155 : b4 155 = b1 155 := by rw [i4 155 (by decide) (by decide) (by decide), i3 155 (by decide) (by decide) (by decide), i2 155 (by decide) (by decide) (by decide)]
  have A0 : zLm a3 b4 91 3 0 (a 3 1) (a1 94 1) := by
    have m2 := n2.2.1
    refine zLm.of ⟨by decide, by decide⟩ ⟨by rw [r3 3 (by omega)], x1, x2⟩ (fun i u z => ?_) (by rw [f3 92 (by omega), f2 92 (by omega)]; exact e1) (by rw [f3 94 (by omega), f2 94 (by omega)]) (by rw [r3 4 (by omega), f3 93 (by omega), f2 93 (by omega), f3 95 (by omega), f2 95 (by omega)]; exact l1) n2 (fun i u z => ?_) (by rw [j4 0 (by decide), j3 0 (by decide)]) (fun l u z => ?_)
    · have v := (v1 i u (by omega)).1
      have x := x4 i u z
      rw [show 240 * (0 : Int) + i = i by omega] at x ⊢
      rw [b155, v, g115, r3 (3 + 1) (by omega)]; exact x
    · have v := (v1 i u (by omega)).1
      have x := x4 i u z
      show a3 (3 + 1) i = b1 155 (240 * 0 + i)
      rw [show 240 * (0 : Int) + i = i by omega] at x ⊢
      rw [v, g115, r3 (3 + 1) (by omega)]; exact x.1.symm
    · have p4 := o4 (241 * 0 + l) (by omega)
      have p3 := o3 (241 * 0 + l) (by omega)
      show b4 157 (241 * 0 + l) = 240 * 0 + (b2 157 (241 * 0 + l) - 240 * 0) ∧ b4 158 (241 * 0 + l) = 240 * 0 + (b2 158 (241 * 0 + l) - 240 * 0)
      rw [p4.1, p3.1, p4.2, p3.2]
      exact ⟨by omega, by omega⟩
  have A1 : zLm a3 b4 7 1 1 (a 1 1) (a2 10 1) := by
    have m3 := n3.2.1
    refine zLm.of ⟨by decide, by decide⟩ ⟨by rw [r3 1 (by omega)], t1, t2⟩ (fun i u z => ?_) (by rw [f3 8 (by omega)]; exact e2) (by rw [f3 10 (by omega)]) (by rw [r3 2 (by omega), f3 9 (by omega), f3 11 (by omega)]; exact l2) n3 (fun i u z => ?_) (by rw [j4 1 (by decide)]) (fun l u z => ?_)
    · have v := (v1 i u (by omega)).2.1
      have x := t4 i u z
      rw [show 240 * (1 : Int) + i = 240 + i by omega, b155, v, g114, r3 (1 + 1) (by omega)]; exact x
    · have v := (v1 i u (by omega)).2.1
      have x := t4 i u z
      show a3 (1 + 1) i = b2 155 (240 * 1 + i)
      rw [i2 155 (by decide) (by decide) (by decide), show 240 * (1 : Int) + i = 240 + i by omega, v, g114, r3 (1 + 1) (by omega)]; exact x.1.symm
    · have p4 := o4 (241 * 1 + l) (by omega)
      show b4 157 (241 * 1 + l) = 240 * 1 + (b3 157 (241 * 1 + l) - 240 * 1) ∧ b4 158 (241 * 1 + l) = 240 * 1 + (b3 158 (241 * 1 + l) - 240 * 1)
      rw [p4.1, p4.2]
      exact ⟨by omega, by omega⟩
  have A2 : zLm a3 b4 96 5 2 (a 5 1) (a3 99 1) := by
    have m4 := n4.2.1
    refine zLm.of ⟨by decide, by decide⟩ ⟨by rw [r3 5 (by omega)], z1, z2⟩ (fun i u z => ?_) e3 rfl (by rw [r3 6 (by omega)]; exact l3) n4 (fun i u z => ?_) rfl (fun l u z => ?_)
    · have v := (v1 i u (by omega)).2.2
      have x := z4 i u z
      rw [show 240 * (1 : Int) + i = 240 + i by omega] at x
      rw [show 240 * (2 : Int) + i = 480 + i by omega, b155, v, g115, r3 (5 + 1) (by omega)]; exact x
    · have v := (v1 i u (by omega)).2.2
      have x := z4 i u z
      rw [show 240 * (1 : Int) + i = 240 + i by omega] at x
      show a3 (5 + 1) i = b3 155 (240 * 2 + i)
      rw [i3 155 (by decide) (by decide) (by decide), i2 155 (by decide) (by decide) (by decide), show 240 * (2 : Int) + i = 480 + i by omega, v, g115, r3 (5 + 1) (by omega)]; exact x.1.symm
    · show b4 157 (241 * 2 + l) = 240 * 2 + (b4 157 (241 * 2 + l) - 240 * 2) ∧ b4 158 (241 * 2 + l) = 240 * 2 + (b4 158 (241 * 2 + l) - 240 * 2)
      exact ⟨by omega, by omega⟩
  -- the pairings
  refine k_pair (Or.inl ⟨rfl, rfl⟩) q_lines_7 (Or.inl rfl) q_row_107 (by decide) A0 A1 (fun a4 b5 P1 U1 W5 => ?_)
  have C0 : zLm a4 b5 91 3 0 (a 3 1) (a1 94 1) := A0.fr ⟨U1.fa 3 (by omega) (by decide) (by decide), U1.fa 4 (by omega) (by decide) (by decide)⟩ ⟨U1.fa 92 (by omega) (by decide) (by decide), U1.fa 93 (by omega) (by decide) (by decide), U1.fa 94 (by omega) (by decide) (by decide), U1.fa 95 (by omega) (by decide) (by decide)⟩ ⟨U1.fb 155 (by decide) (by decide), U1.fb 156 (by decide) (by decide), U1.fb 157 (by decide) (by decide), U1.fb 158 (by decide) (by decide)⟩
  have C1 : zLm a4 b5 7 1 1 (a 1 1) (a2 10 1) := A1.fr ⟨U1.fa 1 (by omega) (by decide) (by decide), U1.fa 2 (by omega) (by decide) (by decide)⟩ ⟨U1.fa 8 (by omega) (by decide) (by decide), U1.fa 9 (by omega) (by decide) (by decide), U1.fa 10 (by omega) (by decide) (by decide), U1.fa 11 (by omega) (by decide) (by decide)⟩ ⟨U1.fb 155 (by decide) (by decide), U1.fb 156 (by decide) (by decide), U1.fb 157 (by decide) (by decide), U1.fb 158 (by decide) (by decide)⟩
  have C2 : zLm a4 b5 96 5 2 (a 5 1) (a3 99 1) := A2.fr ⟨U1.fa 5 (by omega) (by decide) (by decide), U1.fa 6 (by omega) (by decide) (by decide)⟩ ⟨U1.fa 97 (by omega) (by decide) (by decide), U1.fa 98 (by omega) (by decide) (by decide), U1.fa 99 (by omega) (by decide) (by decide), U1.fa 100 (by omega) (by decide) (by decide)⟩ ⟨U1.fb 155 (by decide) (by decide), U1.fb 156 (by decide) (by decide), U1.fb 157 (by decide) (by decide), U1.fb 158 (by decide) (by decide)⟩
  refine k_pair (Or.inr ⟨rfl, rfl⟩) q_lines_96 (Or.inr rfl) q_row_109 (by decide) C0 C2 (fun a5 b6 P2 U2 W6 => ?_)
  have D0 : zLm a5 b6 91 3 0 (a 3 1) (a1 94 1) := C0.fr ⟨U2.fa 3 (by omega) (by decide) (by decide), U2.fa 4 (by omega) (by decide) (by decide)⟩ ⟨U2.fa 92 (by omega) (by decide) (by decide), U2.fa 93 (by omega) (by decide) (by decide), U2.fa 94 (by omega) (by decide) (by decide), U2.fa 95 (by omega) (by decide) (by decide)⟩ ⟨U2.fb 155 (by decide) (by decide), U2.fb 156 (by decide) (by decide), U2.fb 157 (by decide) (by decide), U2.fb 158 (by decide) (by decide)⟩
  have D1 : zLm a5 b6 7 1 1 (a 1 1) (a2 10 1) := C1.fr ⟨U2.fa 1 (by omega) (by decide) (by decide), U2.fa 2 (by omega) (by decide) (by decide)⟩ ⟨U2.fa 8 (by omega) (by decide) (by decide), U2.fa 9 (by omega) (by decide) (by decide), U2.fa 10 (by omega) (by decide) (by decide), U2.fa 11 (by omega) (by decide) (by decide)⟩ ⟨U2.fb 155 (by decide) (by decide), U2.fb 156 (by decide) (by decide), U2.fb 157 (by decide) (by decide), U2.fb 158 (by decide) (by decide)⟩
  have D2 : zLm a5 b6 96 5 2 (a 5 1) (a3 99 1) := C2.fr ⟨U2.fa 5 (by omega) (by decide) (by decide), U2.fa 6 (by omega) (by decide) (by decide)⟩ ⟨U2.fa 97 (by omega) (by decide) (by decide), U2.fa 98 (by omega) (by decide) (by decide), U2.fa 99 (by omega) (by decide) (by decide), U2.fa 100 (by omega) (by decide) (by decide)⟩ ⟨U2.fb 155 (by decide) (by decide), U2.fb 156 (by decide) (by decide), U2.fb 157 (by decide) (by decide), U2.fb 158 (by decide) (by decide)⟩
  have bd0 := D0.bd
  have k107 : a5 107 = a4 107 := U2.fa 107 (by omega) (by decide) (by decide)
  have k108 : a5 (107 + 1) = a4 (107 + 1) := U2.fa 108 (by omega) (by decide) (by decide)
  have Q1 : zMw a5 b6 107 1 (a1 94 1) (a1 94 1) (a2 10 1) := by
    refine zMw.mk (by rw [k107]; exact P1.sz) (fun k u z => ?_) (by rw [k108]; exact P1.lo) (by rw [k108]; exact P1.hi) (by rw [k108]; exact P1.mo)
    rw [k108, P1.eq k u z]
    exact (U2.o _ (by omega)).symm
  -- the rest
  refine k_Row_clear q_row_111 (fun a6 f6 e6 s7 k7 s8 k8 s9 k9 => ?_)
  have q9 : ∀ r, r ≠ 90 → s9 r = a6 r := fun r hr => by rw [k9, q_up_ne hr, k8, q_up_ne hr, k7, q_up_ne hr]
  refine k_startBehind ⟨by decide, by decide⟩ ⟨by decide, by decide⟩ ⟨by decide, by decide⟩ (fun a7 f7 j7 y10 y11 y12 => ?_)
  have q7 : ∀ r, r ≠ 90 → r ≠ 111 → a7 r = a5 r := fun r u z => by rw [f7 r u, q9 r u, f6 r z]
  have e907 : a7 90 7 = 0 := by rw [j7 7 (by decide) (by decide) (by decide), k9, q_up_nj (by decide), k8, q_up_nj (by decide), k7, q_up_at]
  have e908 : a7 90 8 = 0 := by rw [j7 8 (by decide) (by decide) (by decide), k9, q_up_nj (by decide), k8, q_up_at]
  have e909 : a7 90 9 = 0 := by rw [j7 9 (by decide) (by decide) (by decide), k9, q_up_at]
  have e111 : a7 111 1 = 0 := by rw [f7 111 (by decide), q9 111 (by decide)]; exact e6
  generalize eb : q_up (q_up b6 113 63 0) 113 64 0 = b7
  have O : zMo a7 b7 a7 b7 0 0 0 := by
    refine zMo.mk (fun _ _ _ _ => rfl) (fun _ _ _ => rfl) (fun _ _ _ => rfl) (fun _ _ _ => rfl) ⟨e907, by rw [← eb, q_up_at]⟩ ⟨e908, by rw [← eb, q_up_nj (by decide), q_up_at], Int.le_refl 0⟩ (by rw [e111, if_pos (by decide)]) (fun i u z => by rw [e111] at z; omega)
  have t0' := zWl.top D0 (l := 0) (Int.le_refl 0) (by omega)
  have t1' := zWl.top D1 (l := 0) (Int.le_refl 0) (by have := D1.bd; omega)
  have t2' := zWl.top D2 (l := 0) (Int.le_refl 0) (by have := D2.bd; omega)
  have Q : zMq a5 b6 a7 b7 (a 3 1) (a 1 1) (a 5 1) (a1 94 1) (a2 10 1) (a3 99 1) 0 0 0 0 0 0 0 0 := by
    refine zMq.mk (fun r u z _ => q7 r u z) (fun r u _ => by rw [← eb, q_up_ne u, q_up_ne u]) (fun j u z => by rw [← eb, q_up_nj z, q_up_nj u]) ⟨e909, y10, y11, y12⟩ O (Or.inl ⟨rfl, rfl⟩) (by decide) ⟨by decide, by decide, by decide, by decide, by decide, by have := D1.bd; omega, by decide, by have := D2.bd; omega⟩ (by omega) (fun q u z n1 n2 => ?_)
    have w1 := (Q1.lo q u z).resolve_left n1
    have w2 := (P2.lo q u z).resolve_left n2
    exact ⟨w1.1, w2.1⟩
  refine k_run D0 D1 D2 Q1 P2 (a1 94 1).toNat 0 0 0 0 0 0 0 0 a7 b7 (by omega) (Int.le_refl 0) Q (fun a' b' v1' c' g' y' fa ev v0 fb fj O' W => ?_)
  have r5 : ∀ r, r < 102 ∨ 110 < r → a5 r = a3 r := fun r hr => by rw [U2.fa r (by omega) (by omega) (by omega), U1.fa r (by omega) (by omega) (by omega)]
  refine h a' b' v1' c' g' y' (fun r hr => by rw [fa r (by omega) (by omega) (by omega), r5 r (by omega), r3 r (by omega)]) ?_ ?_ ev v0 (fun r hr => ?_) (fun j u z => ?_) O' (fun KI he => ?_)
  · rw [fa 8 (by decide) (by decide) (by decide), fa 10 (by decide) (by decide) (by decide), r5 8 (by omega), r5 10 (by omega), f3 8 (by omega), f3 10 (by omega)]; exact e2
  · rw [fa 9 (by decide) (by decide) (by decide), fa 10 (by decide) (by decide) (by decide), fa 11 (by decide) (by decide) (by decide), r5 9 (by omega), r5 10 (by omega), r5 11 (by omega), f3 9 (by omega), f3 10 (by omega), f3 11 (by omega)]; exact l2
  · rw [fb r (by omega) (by omega), U2.fb r (by omega) (by omega), U1.fb r (by omega) (by omega), i4 r (by omega) (by omega) (by omega), i3 r (by omega) (by omega) (by omega), i2 r (by omega) (by omega) (by omega), h1 r (by omega)]
  · rw [fj j u z, U2.fb 113 (by decide) (by decide), U1.fb 113 (by decide) (by decide), i4 113 (by decide) (by decide) (by decide), i3 113 (by decide) (by decide) (by decide), i2 113 (by decide) (by decide) (by decide), h1 113 (by decide)]
  · refine W1 KI (W2 _ (W3 _ (W4 _ (W5 _ (W6 _ (fun s6 x6 s7 x7 => ?_))))))
    rw [x7, x6, eb]; exact W KI he
theorem k_m_mergeText (y0 : 0 ≤ y) (y2 : y ≤ 240) (h : ∀ s', (∀ r, r ≠ 114 → s' r = s r) → (∀ i, 0 ≤ i → i < y → s' 114 i = s 154 i) → KI 0 s') (e63 : s 113 63 = y) : L_m_merge_334 X 0 s KI := by
  have L : ∀ (c : Nat) (i : Int) (s1 : qM), i + c = y → 0 ≤ i → (∀ r, r ≠ 114 → s1 r = s r) → (∀ j, 0 ≤ j → j < i → s1 114 j = s 154 j) → L_m_merge_334 X i s1 KI := by
    intro c
    induction c with
    | zero =>
      intro i s1 hi i0 f w
      have ei : i = y := by omega
      rw [ei] at w
      exact sg_m_merge_334 (z_t (by rw [f 113 (by decide)]; omega) (h s1 f w))
    | succ c ih =>
      intro i s1 hi i0 f w
      refine sg_m_merge_334 (z_f (by rw [f 113 (by decide)]; omega) ⟨i0, by omega, i0, by omega, fun s2 e2 => ⟨by omega, ?_⟩⟩)
      refine ih (i + 1) s2 (by omega) (by omega) (fun r hr => by rw [e2, q_up_ne hr]; exact f r hr) (fun j j0 ji => ?_)
      by_cases z : j = i
      · rw [z, e2, q_up_at, f 154 (by decide)]
      · rw [e2, q_up_nj z]; exact w j j0 (by omega)
  exact L y.toNat 0 s (by omega) (Int.le_refl 0) (fun _ _ => rfl) (fun j u w => by omega)
end Merge
