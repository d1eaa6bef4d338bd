/-! Lines of a text. -/
/-- a text t of n characters has L lines, which begin at B and end at E -/
def zLn (t : Int → Int) (n L : Int) (B E : Int → Int) : Prop := 1 ≤ L ∧ L ≤ n + 1 ∧ B 0 = 0 ∧ (∀ l, 0 ≤ l → l < L → 0 ≤ B l ∧ B l ≤ n ∧ E l = zEnd t (B l) n) ∧ (∀ l, 0 ≤ l → l + 1 < L → E l < n ∧ B (l + 1) = E l + 1) ∧ E (L - 1) = n
section Lines
variable {X : Nat × (Nat → Int32)} {s s' : qM} {KV : qM → Prop}
theorem zEnd_is {t : Int → Int} {a n : Int} (h : a ≤ n) : a ≤ zEnd t a n ∧ zEnd t a n ≤ n ∧ (∀ i, a ≤ i → i < zEnd t a n → t i ≠ 10) ∧ (zEnd t a n = n ∨ t (zEnd t a n) = 10) := by
  obtain ⟨h1, h2, h3, h4⟩ := zU_is (p := zIsN t) h
  refine ⟨h1, h2, fun i a b => of_decide_eq_true (h3 i a b), h4.imp id (fun e => ?_)⟩
  have := of_decide_eq_false e
  exact Decidable.not_not.mp this
theorem zEnd_eq {t : Int → Int} {a n r : Int} (h1 : a ≤ r) (h2 : r ≤ n) (h3 : ∀ i, a ≤ i → i < r → t i ≠ 10) (h4 : r = n ∨ t r = 10) : zEnd t a n = r :=
  zU_eq h1 h2 (fun i a b => decide_eq_true (h3 i a b)) (h4.imp id (fun e => decide_eq_false (fun z => z e)))
theorem zEnd_congr {t u : Int → Int} {a n : Int} (h : a ≤ n) (e : ∀ i, a ≤ i → i < n → t i = u i) : zEnd t a n = zEnd u a n :=
  zU_congr h (fun i a b => by unfold zIsN; rw [e i a b])
theorem k_Lines_split {th r : Nat} (hth : q_isLines th r (th + 1) (th + 3)) (hd : r + 1 < th) (h0 : 0 ≤ s r 1) (hn : s r 1 ≤ 240) (h : ∀ s', (∀ q, q ≤ th ∨ th + 5 ≤ q → s' q = s q) → s' (th + 1) 1 = s' (th + 3) 1 → zLn (s (r + 1)) (s r 1) (s' (th + 3) 1) (s' (th + 2)) (s' (th + 4)) → KV s') : c_Lines_split X th s KV := by
  have L : ∀ (m : Nat) (v j : Int) (s1 : qM), v + m = s r 1 → 0 ≤ j → j ≤ v → (∀ q, q ≤ th ∨ th + 5 ≤ q → s1 q = s q) → s1 (th + 1) 1 = j + 1 → s1 (th + 3) 1 = j → s1 (th + 2) 0 = 0 → (∀ l, 0 ≤ l → l ≤ j → 0 ≤ s1 (th + 2) l ∧ s1 (th + 2) l ≤ v) → (∀ l, 0 ≤ l → l < j → s1 (th + 4) l = zEnd (s (r + 1)) (s1 (th + 2) l) (s r 1) ∧ s1 (th + 4) l < s r 1 ∧ s1 (th + 2) (l + 1) = s1 (th + 4) l + 1) → (∀ i, s1 (th + 2) j ≤ i → i < v → s (r + 1) i ≠ 10) → L_Lines_split_24 X th v s1 KV := by
    intro m
    induction m with
    | zero =>
      intro v j s1 hv hj hjv f fb fe b0 bb be bn
      have er : s1 r = s r := f r (by omega)
      refine sg_Lines_split_24 hth (k_Row_size hth.text (z_t (by rw [er]; omega) (k_Row_size hth.text (k_Row_add hth.ends (by omega) (by omega) ?_))))
      rw [er, fe]
      generalize e : q_up (q_up s1 (th + 3 + 1) j (s r 1)) (th + 3) 1 (j + 1) = s2
      have g1 : ∀ q, q ≠ th + 3 → q ≠ th + 4 → s2 q = s1 q := fun q a b => by rw [← e, q_up_ne a, q_up_ne b]
      have g2 : s2 (th + 3) 1 = j + 1 := by rw [← e, q_up_at]
      have g3 : s2 (th + 4) j = s r 1 := by rw [← e, q_up_ne (by omega), q_up_at]
      have g4 : ∀ i, i ≠ j → s2 (th + 4) i = s1 (th + 4) i := fun i hi => by rw [← e, q_up_ne (by omega), q_up_nj hi]
      have g5 : s2 (th + 2) = s1 (th + 2) := g1 _ (by omega) (by omega)
      refine h s2 (fun q hq => by rw [g1 q (by omega) (by omega)]; exact f q hq) (by rw [g1 _ (by omega) (by omega), fb, g2]) ?_
      rw [g2, g5]
      have hb := bb j hj (by omega)
      refine ⟨by omega, by omega, b0, fun l a b => ?_, fun l a b => ?_, by rw [show j + 1 - 1 = j by omega]; exact g3⟩
      · have hl := bb l a (by omega)
        refine ⟨hl.1, by omega, ?_⟩
        by_cases hlj : l = j
        · rw [hlj, g3]
          exact (zEnd_eq (by omega) (by omega) (fun i c d => bn i c (by omega)) (Or.inl rfl)).symm
        · rw [g4 l hlj]; exact (be l a (by omega)).1
      · rw [g4 l (by omega)]
        exact (be l a (by omega)).2
    | succ m ih =>
      intro v j s1 hv hj hjv f fb fe b0 bb be bn
      have er : s1 r = s r := f r (by omega)
      have er2 : s1 (r + 1) = s (r + 1) := f _ (by omega)
      refine sg_Lines_split_24 hth (k_Row_size hth.text (z_f (by rw [er]; omega) (k_Row_at hth.text (by rw [er]; omega) ?_)))
      rw [zT_in (by omega) (by rw [er]; omega), er2]
      refine z_c (fun ne => ⟨⟨by omega, by omega⟩, ?_⟩) (fun eq => ?_)
      · exact ih (v + 1) j s1 (by omega) hj (by omega) f fb fe b0 (fun l a b => ⟨(bb l a b).1, by have := (bb l a b).2; omega⟩) be (fun i a b => by
          by_cases hi : i = v
          · rw [hi]; exact ne
          · exact bn i a (by omega))
      · have eq : s (r + 1) v = 10 := Decidable.not_not.mp eq
        refine k_Row_add hth.ends (by omega) (by omega) ⟨⟨by omega, by omega⟩, ?_⟩
        rw [fe]
        generalize e : q_up (q_up s1 (th + 3 + 1) j v) (th + 3) 1 (j + 1) = s2
        have g1 : ∀ q, q ≠ th + 3 → q ≠ th + 4 → s2 q = s1 q := fun q a b => by rw [← e, q_up_ne a, q_up_ne b]
        have g2 : s2 (th + 3) 1 = j + 1 := by rw [← e, q_up_at]
        have g3 : s2 (th + 4) j = v := by rw [← e, q_up_ne (by omega), q_up_at]
        have g4 : ∀ i, i ≠ j → s2 (th + 4) i = s1 (th + 4) i := fun i hi => by rw [← e, q_up_ne (by omega), q_up_nj hi]
        have g5 : s2 (th + 2) = s1 (th + 2) := g1 _ (by omega) (by omega)
        have g6 : s2 (th + 1) 1 = j + 1 := by rw [g1 _ (by omega) (by omega), fb]
        refine k_Row_add hth.begins (by omega) (by omega) ⟨⟨by omega, by omega⟩, ?_⟩
        rw [g6]
        generalize e' : q_up (q_up s2 (th + 1 + 1) (j + 1) (v + 1)) (th + 1) 1 (j + 1 + 1) = s3
        have k1 : ∀ q, q ≠ th + 1 → q ≠ th + 2 → s3 q = s2 q := fun q a b => by rw [← e', q_up_ne a, q_up_ne b]
        have k2 : s3 (th + 1) 1 = j + 1 + 1 := by rw [← e', q_up_at]
        have k3 : s3 (th + 2) (j + 1) = v + 1 := by rw [← e', q_up_ne (by omega), q_up_at]
        have k4 : ∀ i, i ≠ j + 1 → s3 (th + 2) i = s1 (th + 2) i := fun i hi => by rw [← e', q_up_ne (by omega), q_up_nj hi, g5]
        have k5 : s3 (th + 4) = s2 (th + 4) := k1 _ (by omega) (by omega)
        refine ih (v + 1) (j + 1) s3 (by omega) (by omega) (by omega) (fun q hq => by rw [k1 q (by omega) (by omega), g1 q (by omega) (by omega)]; exact f q hq) k2 (by rw [k1 _ (by omega) (by omega)]; exact g2) (by rw [k4 0 (by omega)]; exact b0) (fun l a b => ?_) (fun l a b => ?_) (fun i a b => ?_)
        · by_cases hl : l = j + 1
          · rw [hl, k3]; omega
          · rw [k4 l hl]; have := bb l a (by omega); omega
        · rw [k4 l (by omega), k5]
          by_cases hl : l = j
          · rw [hl, g3, k3]
            have hb := bb j hj (by omega)
            exact ⟨(zEnd_eq (by omega) (by omega) (fun i c d => bn i c d) (Or.inr eq)).symm, by omega, rfl⟩
          · rw [g4 l hl, k4 (l + 1) (by omega)]; exact be l a (by omega)
        · rw [k3] at a; omega
  refine sg_Lines_split hth (k_Row_empty hth.begins (k_Row_empty hth.ends (k_Row_add hth.begins ?_ ?_ ?_)))
  · rw [q_up_ne (by omega), q_up_at]; omega
  · rw [q_up_ne (by omega), q_up_at]; omega
  · have e0 : q_up (q_up s (th + 1) 1 0) (th + 3) 1 0 (th + 1) 1 = 0 := by rw [q_up_ne (by omega), q_up_at]
    rw [e0]
    generalize e : q_up (q_up (q_up (q_up s (th + 1) 1 0) (th + 3) 1 0) (th + 1 + 1) 0 0) (th + 1) 1 (0 + 1) = s2
    have k2 : s2 (th + 2) 0 = 0 := by rw [← e, q_up_ne (by omega), q_up_at]
    refine L (s r 1).toNat 0 0 s2 (by omega) (by omega) (by omega) (fun q hq => ?_) (by rw [← e, q_up_at]) ?_ k2 (fun l a b => ?_) (fun l a b => by omega) (fun i a b => by rw [k2] at a; omega)
    · rw [← e, q_up_ne (by omega), q_up_ne (by omega), q_up_ne (by omega), q_up_ne (by omega)]
    · rw [← e, q_up_ne (by omega), q_up_ne (by omega), q_up_at]
    · rw [show l = 0 by omega, k2]; omega
end Lines
