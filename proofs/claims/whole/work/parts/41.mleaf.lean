/-! The model: leaves. -/
section MLeaf
variable {X : Nat × (Nat → Int32)} {s : qM} {K : Int → qM → Prop} {KV : qM → Prop}
theorem k_m_can {x : Int} (h1 : x ≠ 0 → K 0 (q_up s 113 47 x)) (h0 : x = 0 → K 1 (q_up s 113 47 x)) : c_m_can X x s K :=
  sg_m_can (fun s1 e => by subst e; exact z_c h1 (fun h => h0 (by omega)))
theorem k_m_isIn {x a b : Int} (h1 : a ≤ x → x ≤ b → K 1 s) (h0 : ¬ (a ≤ x ∧ x ≤ b) → K 0 s) : c_m_isIn X x a b s K :=
  sg_m_isIn (z_c (fun h => h0 (by omega)) (fun h => z_c (fun g => h0 (by omega)) (fun g => h1 (by omega) (by omega))))
theorem k_m_isLetter {x : Int} (h1 : zLet x → K 1 s) (h0 : ¬ zLet x → K 0 s) : c_m_isLetter X x s K := by
  refine sg_m_isLetter (k_m_isIn (fun a b => z_t (by decide) (h1 (by omega))) (fun a => z_f (by decide) ?_))
  refine k_m_isIn (fun c d => z_t (by decide) (h1 (by omega))) (fun c => z_f (by decide) ?_)
  exact k_m_isIn (fun e f => z_f (by decide) (h1 (by omega))) (fun e => z_t (by decide) (h0 (by omega)))
theorem k_m_isSign {x : Int} (h1 : zSign x → K 1 s) (h0 : ¬ zSign x → K 0 s) : c_m_isSign X x s K := by
  refine sg_m_isSign (k_m_isIn (fun a b => z_f (by decide) ?_) (fun a => z_t (by decide) (h0 (by omega))))
  exact k_m_isLetter (fun c => z_t (by decide) (h0 (by omega))) (fun c => z_f (by decide) (h1 (by omega)))
theorem k_m_isContainer {x : Int} (h1 : x ≤ 3 → K 1 s) (h0 : ¬ x ≤ 3 → K 0 s) : c_m_isContainer X x s K :=
  sg_m_isContainer (z_c (fun h => h0 (by omega)) (fun h => h1 (by omega)))
theorem k_m_endOf {a : Int} (ha : 0 ≤ a) (h1 : a ≤ s 113 0) (h2 : s 113 0 ≤ 240) (h : K (zEnd (s 114) a (s 113 0)) s) : c_m_endOf X a s K := by
  refine sg_m_endOf ?_
  obtain ⟨g1, g2, g3, g4⟩ := zU_is (p := zIsN (s 114)) h1
  have L : ∀ (n : Nat) (k : Int), k = zEnd (s 114) a (s 113 0) - n → a ≤ k → L_m_endOf_2 X k s K := by
    intro n
    induction n with
    | zero =>
      intro k hk ha2
      have hk : k = zU (zIsN (s 114)) a (s 113 0) := by rw [hk]; unfold zEnd; omega
      refine sg_m_endOf_2 (z_c (fun e => by rw [hk]; exact h) (fun e => ⟨by omega, by omega, z_t ?_ (by rw [hk]; exact h)⟩))
      rcases g4 with g4 | g4
      · omega
      · rw [← hk] at g4
        simpa [zIsN] using g4
    | succ n ih =>
      intro k hk ha2
      unfold zEnd at hk
      have hc := g3 k ha2 (by omega)
      refine sg_m_endOf_2 (z_f (by omega) ⟨by omega, by omega, z_f (by simpa [zIsN] using hc) ⟨⟨by omega, by omega⟩, ih (k + 1) (by unfold zEnd; omega) (by omega)⟩⟩)
  exact L (zEnd (s 114) a (s 113 0) - a).toNat a (by unfold zEnd; omega) (Int.le_refl a)
theorem k_m_trimmed {a b : Int} (h0 : 0 ≤ a) (h1 : a ≤ b) (h2 : b ≤ 240) (h : K (zTrim (s 114) a b) s) : c_m_trimmed X a b s K := by
  refine sg_m_trimmed ?_
  have L : ∀ (n : Nat) (k : Int), k = a + n → k ≤ b → (∀ i, k ≤ i → i < b → s 114 i = 32) → L_m_trimmed_2 X a k s K := by
    intro n
    have fin : ∀ k : Int, a ≤ k → k ≤ b → (∀ i, k ≤ i → i < b → s 114 i = 32) → (k = a ∨ s 114 (k - 1) ≠ 32) → K k s := by
      intro k h3 h4 h5 h6
      have e : zTrim (s 114) a b = k := zD_eq h3 h4 (fun i g1 g2 => by simp [zIsB, h5 i g1 g2]) (h6.imp id (fun g => by simp [zIsB, g]))
      rw [← e]
      exact h
    induction n with
    | zero =>
      intro k hk hb hi
      exact sg_m_trimmed_2 (z_t (by omega) (fin k (by omega) hb hi (Or.inl (by omega))))
    | succ n ih =>
      intro k hk hb hi
      refine sg_m_trimmed_2 (z_f (by omega) ⟨by omega, by omega, by omega, z_c (fun e => fin k (by omega) hb hi (Or.inr e)) (fun e => ⟨by omega, ih (k + (-1)) (by omega) (by omega) (fun i g1 g2 => ?_)⟩)⟩)
      by_cases e2 : i = k - 1
      · rw [e2]; omega
      · exact hi i (by omega) g2
  exact L (b - a).toNat b (by omega) (Int.le_refl b) (fun i g1 g2 => by omega)
theorem k_m_isBlank {a b : Int} (h0 : 0 ≤ a) (h1 : a ≤ b) (h2 : b ≤ 240) (ht : zSkip (s 114) a b = b → K 1 s) (hf : zSkip (s 114) a b ≠ b → K 0 s) : c_m_isBlank X a b s K := by
  refine sg_m_isBlank ?_
  obtain ⟨g1, g2, g3, g4⟩ := zU_is (p := zIsB (s 114)) h1
  have L : ∀ (n : Nat) (k v : Int), k = b - n → a ≤ k → ((v = 1 ∧ k ≤ zSkip (s 114) a b) ∨ (v = 0 ∧ zSkip (s 114) a b < k)) → L_m_isBlank_5 X b v k s K := by
    intro n
    unfold zSkip at *
    induction n with
    | zero =>
      intro k v hk ha hv
      refine sg_m_isBlank_5 (z_t (by omega) ⟨by omega, ?_⟩)
      rcases hv with ⟨rfl, hv⟩ | ⟨rfl, hv⟩
      · exact ht (by omega)
      · exact hf (by omega)
    | succ n ih =>
      intro k v hk ha hv
      refine sg_m_isBlank_5 (z_f (by omega) (z_c (fun e => ⟨by omega, ih (k + 1) 0 (by omega) (by omega) (by omega)⟩) (fun e => ⟨by omega, by omega, z_c (fun c => ⟨by omega, ih (k + 1) 0 (by omega) (by omega) (Or.inr ⟨rfl, ?_⟩)⟩) (fun c => ⟨by omega, ih (k + 1) 1 (by omega) (by omega) (Or.inl ⟨rfl, ?_⟩)⟩)⟩)))
      · by_cases hlt : k < zU (zIsB (s 114)) a b
        · have := g3 k ha hlt
          simp [zIsB] at this
          exact absurd this c
        · omega
      · rcases g4 with g4 | g4
        · omega
        · by_cases e2 : k = zU (zIsB (s 114)) a b
          · rw [← e2] at g4
            simp [zIsB] at g4
            exact absurd g4 c
          · omega
  exact L (b - a).toNat a 1 (by omega) (Int.le_refl a) (Or.inl ⟨rfl, by unfold zSkip; exact g1⟩)
theorem k_m_letters {a b : Int} (h0 : 0 ≤ a) (h1 : a ≤ b) (h2 : b ≤ 240) (h : K (zWord (s 114) a b - a) s) : c_m_letters X a b s K := by
  refine sg_m_letters ?_
  obtain ⟨g1, g2, g3, g4⟩ := zU_is (p := zIsW (s 114)) h1
  have L : ∀ (n : Nat) (k : Int), k = zWord (s 114) a b - n → a ≤ k → L_m_letters_2 X a b k s K := by
    intro n
    induction n with
    | zero =>
      intro k hk ha2
      have hk : k = zU (zIsW (s 114)) a b := by rw [hk]; unfold zWord; omega
      have hK : K (k - a) s := by rw [hk]; exact h
      refine sg_m_letters_2 (z_c (fun e => ⟨by omega, hK⟩) (fun e => ⟨by omega, by omega, k_m_isLetter (fun c => ?_) (fun c => z_t rfl ⟨by omega, hK⟩)⟩))
      rcases g4 with g4 | g4
      · omega
      · rw [← hk] at g4
        have : ¬ zLet (s 114 k) := by simpa [zIsW] using g4
        exact absurd c this
    | succ n ih =>
      intro k hk ha2
      unfold zWord at hk
      have hc : zLet (s 114 k) := by simpa [zIsW] using g3 k ha2 (by omega)
      refine sg_m_letters_2 (z_f (by omega) ⟨by omega, by omega, k_m_isLetter (fun c => z_f (by decide) ⟨by omega, ih (k + 1) (by unfold zWord; omega) (by omega)⟩) (fun c => absurd hc c)⟩)
  exact L (zWord (s 114) a b - a).toNat a (by unfold zWord; omega) (Int.le_refl a)
theorem k_m_owns {a b v : Int} (h0 : 0 ≤ a) (h2 : b ≤ 240) (h : ∀ s', (∀ r, r ≠ 129 → s' r = s r) → (∀ i, a ≤ i → i < b → s' 129 i = v) → (∀ i, ¬ (a ≤ i ∧ i < b) → s' 129 i = s 129 i) → KV s') : c_m_owns X a b v s KV := by
  refine sg_m_owns ?_
  have L : ∀ (n : Nat) (k : Int) (s1 : qM), b ≤ k + n → a ≤ k → (∀ r, r ≠ 129 → s1 r = s r) → (∀ i, a ≤ i → i < k → s1 129 i = v) → (∀ i, ¬ (a ≤ i ∧ i < k) → s1 129 i = s 129 i) → (k ≤ b ∨ k = a) → L_m_owns_3 X b v k s1 KV := by
    intro n
    induction n with
    | zero =>
      intro k s1 hb ha g1 g2 g3 g4
      exact sg_m_owns_3 (z_t (by omega) (h s1 g1 (fun i c d => g2 i c (by omega)) (fun i c => g3 i (by omega))))
    | succ n ih =>
      intro k s1 hb ha g1 g2 g3 g4
      by_cases hk : b ≤ k
      · exact sg_m_owns_3 (z_t hk (h s1 g1 (fun i c d => g2 i c (by omega)) (fun i c => g3 i (by omega))))
      · refine sg_m_owns_3 (z_f hk ⟨by omega, by omega, fun s2 e => ⟨by omega, ih (k + 1) s2 (by omega) (by omega) (fun r hr => ?_) (fun i c d => ?_) (fun i c => ?_) (by omega)⟩⟩)
        · rw [e, q_up_ne hr]; exact g1 r hr
        · rw [e, q_up_get]
          by_cases e2 : i = k
          · simp [e2]
          · simp only [e2, and_false, if_false]; exact g2 i c (by omega)
        · rw [e, q_up_get]
          have e2 : i ≠ k := by omega
          simp only [e2, and_false, if_false]
          exact g3 i (by omega)
  exact L (b - a).toNat a s (by omega) (Int.le_refl a) (fun _ _ => rfl) (fun i c d => by omega) (fun _ _ => rfl) (Or.inr rfl)
end MLeaf
