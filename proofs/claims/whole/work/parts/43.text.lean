/-! Text and slots, one for one: length, character, clear. -/
section Text
variable {X : Nat × (Nat → Int32)} {s s' : qM} {I : qM → Prop}
/-- a character that may stand in a text -/
abbrev zChr (c : Int) : Prop := c = 10 ∨ (32 ≤ c ∧ c ≤ 126)
/-- the class's text is the model's -/
def zTx (s : qM) : Prop := 0 ≤ s 1 1 ∧ s 1 1 ≤ 240 ∧ s 113 0 = s 1 1 ∧ ∀ i, 0 ≤ i → i < s 1 1 → s 114 i = s 2 i ∧ zChr (s 2 i)
/-- the class's row r is the model's slot k -/
def zSl (s : qM) (r : Nat) (k : Int) : Prop := 0 ≤ s r 1 ∧ s r 1 ≤ 240 ∧ s 116 k = s r 1 ∧ ∀ i, 0 ≤ i → i < s r 1 → s 115 (240 * k + i) = s (r + 1) i ∧ zChr (s (r + 1) i)
/-- thrown and out apart, the same -/
def zSm (s s' : qM) : Prop := (∀ q, q ≠ 113 → q ≠ 161 → s' q = s q) ∧ ∀ j, j ≠ 47 → s' 113 j = s 113 j
/-- the text is another one, and what was told of it is stale; but for thrown and out, all else is the same -/
def zEd (s s' : qM) : Prop := (∀ q, q ≠ 0 → q ≠ 1 → q ≠ 2 → q ≠ 113 → q ≠ 114 → q ≠ 161 → s' q = s q) ∧ (∀ j, j ≠ 11 → s' 0 j = s 0 j) ∧ (∀ j, j ≠ 0 → j ≠ 47 → s' 113 j = s 113 j) ∧ s' 0 11 = 1 ∧ zTx s'
/-- the slots are other ones -/
def zKp (s s' : qM) : Prop := (∀ q, q ≠ 3 → q ≠ 4 → q ≠ 5 → q ≠ 6 → q ≠ 113 → q ≠ 115 → q ≠ 116 → q ≠ 161 → s' q = s q) ∧ (∀ j, j ≠ 47 → s' 113 j = s 113 j) ∧ zSl s' 3 0 ∧ zSl s' 5 1
theorem zSm_rf : zSm s s := ⟨fun _ _ _ => rfl, fun _ _ => rfl⟩
theorem zSm_47 {v : Int} (H : zSm s s') : zSm s (q_up s' 113 47 v) := ⟨fun q h1 h2 => (q_up_ne h1).trans (H.1 q h1 h2), fun j hj => (q_up_nj hj).trans (H.2 j hj)⟩
theorem zSm_out {j v : Int} (H : zSm s s') : zSm s (q_up s' 161 j v) := ⟨fun q h1 h2 => (q_up_ne h2).trans (H.1 q h1 h2), fun j hj => by rw [show q_up s' 161 _ v 113 = s' 113 from q_up_ne (by decide)]; exact H.2 j hj⟩
theorem zSm.tx (H : zSm s s') (T : zTx s) : zTx s' := by
  obtain ⟨h1, h2⟩ := H
  unfold zTx
  rw [h1 1 (by decide) (by decide), h1 2 (by decide) (by decide), h1 114 (by decide) (by decide), h2 0 (by decide)]
  exact T
theorem o_length (T : zTx s) (h : ∀ s', zSm s s' → I s') : O_length I X s := by
  unfold O_length
  refine sg_T_length (k_Row_size q_row_1 (sg_m_length (fun s1 e => ?_)))
  subst e
  refine ⟨?_, h _ (zSm_47 zSm_rf)⟩
  rw [q_up_nj (by decide)]
  exact T.2.2.1.symm
theorem k_m_character {x : Int} {K : Int → qM → Prop} (h0 : 0 ≤ s 113 0) (h2 : s 113 0 ≤ 240) (ho : ¬ (0 ≤ x ∧ x < s 113 0) → K 0 (q_up s 113 47 1)) (hi : 0 ≤ x → x < s 113 0 → K (s 114 x) (q_up s 113 47 0)) : c_m_character X x s K := by
  refine sg_m_character ⟨⟨by omega, by omega⟩, k_m_isIn (fun a b => ?_) (fun a => ?_)⟩
  · refine z_f (by decide) (k_m_can (fun q => absurd rfl q) (fun _ => ?_))
    refine z_f (by decide) ⟨a, by omega, ?_⟩
    rw [show q_up s 113 47 0 114 = s 114 from q_up_ne (by decide)]
    exact hi a (by omega)
  · refine z_t rfl (k_m_can (fun _ => ?_) (fun q => absurd q (by decide)))
    exact z_t rfl (ho (by omega))
theorem o_character {x : Int} (T : zTx s) (h : ∀ s', zSm s s' → I s') : O_character I X x s := by
  unfold O_character
  obtain ⟨t1, t2, t3, t4⟩ := T
  have out : ¬ (0 ≤ x ∧ x < s 1 1) → c_m_character X x s (fun y s2 => c_m_thrown X s2 (fun e s3 => e = 1 ∧ ((1 : Int) = 0 → s3 161 0 = y) ∧ I s3)) := fun e =>
    k_m_character (by omega) (by omega) (fun _ => sg_m_thrown ⟨q_up_at, fun q => absurd q (by decide), h _ (zSm_47 zSm_rf)⟩) (fun a b => absurd ⟨a, by omega⟩ e)
  refine k_W_character (sg_T_character (z_c (fun e => ?_) (fun e => k_Row_size q_row_1 (z_c (fun e2 => k_Row_at q_row_1 t2 ?_) (fun e2 => ?_)))))
  · exact out (by omega)
  · rw [zT_in (by omega) e2]
    have f1 : q_up s 161 0 (s 2 x) 113 = s 113 := q_up_ne (by decide)
    have f2 : q_up s 161 0 (s 2 x) 114 = s 114 := q_up_ne (by decide)
    refine k_m_character (by rw [f1]; omega) (by rw [f1]; omega) (fun e3 => absurd ⟨by omega, by rw [f1]; omega⟩ e3) (fun a b => ?_)
    refine sg_m_thrown ⟨q_up_at, fun _ => ?_, h _ (zSm_47 (zSm_out zSm_rf))⟩
    rw [f2, (t4 x (by omega) e2).1, show q_up (q_up s 161 0 (s 2 x)) 113 47 0 161 = q_up s 161 0 (s 2 x) 161 from q_up_ne (by decide)]
    exact q_up_at
  · exact out (by omega)
theorem o_clear (T : zTx s) (h : ∀ s', zEd s s' → I s') : O_clear I X s := by
  unfold O_clear
  refine sg_T_clear (k_Row_size q_row_1 (k_Row_empty q_row_1 (fun s4 e => ?_)))
  subst e
  refine sg_m_clear (fun s1 e => ?_)
  subst e
  intro s2 e
  subst e
  refine ⟨?_, h _ ⟨fun q a0 a1 a2 a3 a4 a5 => ?_, fun j hj => ?_, fun j h1 h2 => ?_, ?_, ?_⟩⟩
  · simp [q_up_get]; exact T.2.2.1.symm
  · rw [q_up_ne a3, q_up_ne a3, q_up_ne a0, q_up_ne a1]
  · simp [q_up_get, hj]
  · simp [q_up_get, h1, h2]
  · simp [q_up_get]
  · refine ⟨by simp [q_up_get], by simp [q_up_get], by simp [q_up_get], fun i h1 h2 => ?_⟩
    simp [q_up_get] at h2
    omega
end Text
