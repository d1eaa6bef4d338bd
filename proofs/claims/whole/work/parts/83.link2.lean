/-! A link is made, in both. -/
def zCv (b : qM) (v : Int) : qM := fun r => if r = 141 then (fun k => if (0 ≤ k ∧ k < v) ∧ b 141 k = 3 then 0 else b 141 k) else if r = 142 then (fun k => if (0 ≤ k ∧ k < v) ∧ b 141 k = 3 then 91 else b 142 k) else b r
section Link2
variable {X : Nat × (Nat → Int32)} {a a' b b' s : qM} {K : Int → qM → Prop} {KV : qM → Prop} {n m p R P B : Int} {q : Nat} {S rho : Int → Int}
theorem k_Il_pass {f e : Int} (h47 : a 47 1 = m) (m2 : m ≤ 240) (f0 : 0 ≤ f) (em : e ≤ m) (h : ∀ a', (∀ r, r ≠ 48 → a' r = a r) → (∀ i, f ≤ i → i < e → a' 48 i = -3) → (∀ i, ¬ (f ≤ i ∧ i < e) → a' 48 i = a 48 i) → KV a') : c_Il_pass X f e a KV := by
  refine sg_Il_pass ?_
  have L : ∀ (d : Nat) (v : Int) (s1 : qM), e - v ≤ d → f ≤ v → (∀ r, r ≠ 48 → s1 r = a r) → (∀ i, f ≤ i → i < v → s1 48 i = -3) → (∀ i, ¬ (f ≤ i ∧ i < v) → s1 48 i = a 48 i) → (v ≤ e ∨ v = f) → L_Il_pass_2 X e v s1 KV := by
    intro d
    induction d with
    | zero =>
      intro v s1 hd fv f1 f2 f3 f4
      exact sg_Il_pass_2 (z_t (by omega) (h s1 f1 (fun i u w => f2 i u (by omega)) (fun i u => f3 i (by omega))))
    | succ d ih =>
      intro v s1 hd fv f1 f2 f3 f4
      by_cases z : e ≤ v
      · exact sg_Il_pass_2 (z_t z (h s1 f1 (fun i u w => f2 i u (by omega)) (fun i u => f3 i (by omega))))
      · refine sg_Il_pass_2 (z_f z (k_Row_set q_row_47 (by rw [f1 47 (by decide)]; omega) (fun _ _ => ⟨by omega, ?_⟩) (fun y => absurd ⟨by omega, by rw [f1 47 (by decide)]; omega⟩ y)))
        refine ih (v + 1) _ (by omega) (by omega) (fun r hr => by rw [q_up_ne hr]; exact f1 r hr) (fun i u w => ?_) (fun i u => ?_) (by omega)
        · by_cases y : i = v
          · rw [y, q_up_at]
          · rw [q_up_nj y]; exact f2 i u (by omega)
        · rw [q_up_nj (by omega)]; exact f3 i (by omega)
  exact L (e - f).toNat f a (by omega) (Int.le_refl f) (fun _ _ => rfl) (fun i u w => by omega) (fun _ _ => rfl) (Or.inr rfl)
theorem k_Runs_firstBehind {x : Int} (h54 : a 54 1 = R) (R0 : 0 ≤ R) (R2 : R ≤ 240) (h : ∀ g, 0 ≤ g → g ≤ R → (∀ r, 0 ≤ r → r < g → a 55 r ≤ x) → (g < R → x < a 55 g) → K g a) : c_Runs_firstBehind X x a K := by
  refine sg_Runs_firstBehind ?_
  have L : ∀ (d : Nat) (v : Int), R - v = d → 0 ≤ v → (∀ r, 0 ≤ r → r < v → a 55 r ≤ x) → L_Runs_firstBehind_2 X x v a K := by
    intro d
    induction d with
    | zero =>
      intro v hd v0 hi
      refine sg_Runs_firstBehind_2 (k_Row_size q_row_54 (z_t (by omega) (k_Row_size q_row_54 ?_)))
      rw [h54]; exact h R R0 (Int.le_refl R) (fun r u w => hi r u (by omega)) (fun z => by omega)
    | succ d ih =>
      intro v hd v0 hi
      refine sg_Runs_firstBehind_2 (k_Row_size q_row_54 (z_f (by omega) (k_Row_at q_row_54 (by omega) ?_)))
      rw [zT_in v0 (by omega), show a (54 + 1) v = a 55 v from rfl]
      refine z_c (fun le => ⟨by omega, ih (v + 1) (by omega) (by omega) (fun r u w => ?_)⟩) (fun gt => h v v0 (by omega) hi (fun _ => by omega))
      by_cases y : r = v
      · rw [y]; exact le
      · exact hi r u (by omega)
  exact L R.toNat 0 (by omega) (Int.le_refl 0) (fun r u w => by omega)
theorem k_Runs_cut {g : Int} (sz : a 54 1 = R ∧ a 56 1 = R ∧ a 58 1 = R ∧ a 60 1 = R ∧ a 62 1 = R) (g0 : 0 ≤ g) (gR : g ≤ R) (h : ∀ a', (∀ r, r ≠ 54 → r ≠ 56 → r ≠ 58 → r ≠ 60 → r ≠ 62 → a' r = a r) → (a' 54 1 = g ∧ a' 56 1 = g ∧ a' 58 1 = g ∧ a' 60 1 = g ∧ a' 62 1 = g) → KV a') : c_Runs_cut X g a KV := by
  obtain ⟨t1, t2, t3, t4, t5⟩ := sz
  have step : ∀ (r : Nat) (u : qM) (F : qM → Prop), q_isRow r 240 → u r 1 = R → (∀ u', (∀ q, q ≠ r → u' q = u q) → u' r 1 = g → F u') → c_Row_cut X r g u F := by
    intro r u F hr hu hF
    refine k_Row_cut hr (fun _ _ => hF _ (fun q hq => q_up_ne hq) q_up_at) (fun z => hF u (fun _ _ => rfl) ?_)
    have : ¬ g < u r 1 := fun y => z ⟨g0, y⟩
    omega
  refine sg_Runs_cut (step 54 a _ q_row_54 t1 (fun s1 f1 e1 => step 56 s1 _ q_row_56 (by rw [f1 56 (by decide)]; exact t2) (fun s2 f2 e2 => step 58 s2 _ q_row_58 (by rw [f2 58 (by decide), f1 58 (by decide)]; exact t3) (fun s3 f3 e3 => step 60 s3 _ q_row_60 (by rw [f3 60 (by decide), f2 60 (by decide), f1 60 (by decide)]; exact t4) (fun s4 f4 e4 => step 62 s4 _ q_row_62 (by rw [f4 62 (by decide), f3 62 (by decide), f2 62 (by decide), f1 62 (by decide)]; exact t5) (fun s5 f5 e5 => h s5 (fun r x1 x2 x3 x4 x5 => ?_) ⟨?_, ?_, ?_, ?_, e5⟩))))))
  · rw [f5 r x5, f4 r x4, f3 r x3, f2 r x2, f1 r x1]
  · rw [f5 54 (by decide), f4 54 (by decide), f3 54 (by decide), f2 54 (by decide)]; exact e1
  · rw [f5 56 (by decide), f4 56 (by decide), f3 56 (by decide)]; exact e2
  · rw [f5 58 (by decide), f4 58 (by decide)]; exact e3
  · rw [f5 60 (by decide)]; exact e4
theorem zCv_0 : zCv b 0 = b := by
  funext r k
  unfold zCv
  by_cases e : r = 141
  · rw [if_pos e, if_neg (by omega), e]
  · rw [if_neg e]
    by_cases e2 : r = 142
    · rw [if_pos e2, if_neg (by omega), e2]
    · rw [if_neg e2]
theorem zCv_3 {v : Int} (v0 : 0 ≤ v) (h : b 141 v = 3) : q_up (q_up (zCv b v) 141 v 0) 142 v 91 = zCv b (v + 1) := by
  funext r k
  rw [q_up_get, q_up_get]
  unfold zCv
  by_cases e : r = 141
  · rw [if_neg (by omega), if_pos e, if_pos e]
    by_cases y : k = v
    · rw [if_pos ⟨e, y⟩, if_pos ⟨⟨by omega, by omega⟩, by rw [y]; exact h⟩]
    · rw [if_neg (fun z => y z.2)]
      by_cases z : (0 ≤ k ∧ k < v) ∧ b 141 k = 3
      · rw [if_pos z, if_pos ⟨⟨z.1.1, by omega⟩, z.2⟩]
      · rw [if_neg z, if_neg (fun w => z ⟨⟨w.1.1, by omega⟩, w.2⟩)]
  · by_cases e2 : r = 142
    · rw [if_neg e, if_neg e, if_pos e2, if_pos e2]
      by_cases y : k = v
      · rw [if_pos ⟨e2, y⟩, if_pos ⟨⟨by omega, by omega⟩, by rw [y]; exact h⟩]
      · rw [if_neg (fun z => y z.2), if_neg (fun z => e z.1)]
        by_cases z : (0 ≤ k ∧ k < v) ∧ b 141 k = 3
        · rw [if_pos z, if_pos ⟨⟨z.1.1, by omega⟩, z.2⟩]
        · rw [if_neg z, if_neg (fun w => z ⟨⟨w.1.1, by omega⟩, w.2⟩)]
    · rw [if_neg (fun z => e2 z.1), if_neg (fun z => e z.1), if_neg e, if_neg e2, if_neg e, if_neg e2]
theorem zCv_n {v : Int} (h : b 141 v ≠ 3) : zCv b v = zCv b (v + 1) := by
  funext r k
  unfold zCv
  by_cases e : r = 141
  · rw [if_pos e, if_pos e]
    by_cases z : (0 ≤ k ∧ k < v) ∧ b 141 k = 3
    · rw [if_pos z, if_pos ⟨⟨z.1.1, by omega⟩, z.2⟩]
    · rw [if_neg z, if_neg (fun w => z ⟨⟨w.1.1, by
        by_cases y : k = v
        · rw [y] at w; exact absurd w.2 h
        · omega⟩, w.2⟩)]
  · rw [if_neg e, if_neg e]
    by_cases e2 : r = 142
    · rw [if_pos e2, if_pos e2]
      by_cases z : (0 ≤ k ∧ k < v) ∧ b 141 k = 3
      · rw [if_pos z, if_pos ⟨⟨z.1.1, by omega⟩, z.2⟩]
      · rw [if_neg z, if_neg (fun w => z ⟨⟨w.1.1, by
          by_cases y : k = v
          · rw [y] at w; exact absurd w.2 h
          · omega⟩, w.2⟩)]
    · rw [if_neg e2, if_neg e2]
theorem k_m_104 {o nb τ : Int} (o0 : 0 ≤ o) (o1 : o < 241) (hk : c_m_pairsUp X (o + 1) (q_up (q_up (zCv b o) 141 o 4) 143 o τ 113 33) (q_up (q_up (zCv b o) 141 o 4) 143 o τ) (fun s3 => (-2147483648 ≤ (o + 1) ∧ (o + 1) < 2147483648) ∧ L_m_closesLink_175 X P o nb (o + 1) s3 K)) : ∀ (d : Nat) (v : Int), o - v = d → 0 ≤ v → L_m_closesLink_104 X P o nb τ v (zCv b v) K := by
  intro d
  induction d with
  | zero =>
    intro v hd v0
    have e : v = o := by omega
    rw [e]
    refine sg_m_closesLink_104 (z_t (Int.le_refl o) ⟨o0, o1, fun s1 e1 => ⟨o0, o1, fun s2 e2 => ⟨by omega, ?_⟩⟩⟩)
    rw [e2, e1]; exact hk
  | succ d ih =>
    intro v hd v0
    have t : zCv b v 141 v = b 141 v := by unfold zCv; rw [if_pos rfl, if_neg (by omega)]
    refine sg_m_closesLink_104 (z_f (by omega) ⟨v0, by omega, ?_⟩)
    rw [t]
    refine z_c (fun e => ⟨by omega, ?_⟩) (fun e => ⟨v0, by omega, fun s4 e4 => ⟨v0, by omega, fun s5 e5 => ⟨by omega, ?_⟩⟩⟩)
    · rw [zCv_n e]; exact ih (v + 1) (by omega) (by omega)
    · rw [e5, e4, zCv_3 v0 (Decidable.not_not.mp e)]; exact ih (v + 1) (by omega) (by omega)
theorem k_m_175 {o nb : Int} (o0 : 0 ≤ o) (p1 : p < 241) (hp : b 113 33 = p) (hB : -1000 ≤ P ∧ P ≤ 1000 ∧ 0 ≤ nb ∧ nb ≤ 1000) (h : ∀ b', zAd (zBt b o p) b' p 5 o 0 → K (if nb ≤ 0 then P + 1 else P + nb + 3) b') (op : o < p) : ∀ (d : Nat) (v : Int), p - v = d → o < v → L_m_closesLink_175 X P o nb v (zBt b o v) K := by
  intro d
  induction d with
  | zero =>
    intro v hd ov
    have e : v = p := by omega
    rw [e]
    have h33 : zBt b o p 113 33 = p := by unfold zBt; rw [if_neg (by decide)]; exact hp
    refine sg_m_closesLink_175 (z_t (by rw [h33]; exact Int.le_refl p) (k_m_adds h33 (by omega) p1 (fun b' A => ?_)))
    have hh := h b' A
    refine z_c (fun z => ⟨by omega, ?_⟩) (fun z => ⟨by omega, by omega, ?_⟩)
    · rw [if_pos z] at hh; exact hh
    · rw [if_neg z] at hh; exact hh
  | succ d ih =>
    intro v hd ov
    have h33 : zBt b o v 113 33 = p := by unfold zBt; rw [if_neg (by decide)]; exact hp
    refine sg_m_closesLink_175 (z_f (by rw [h33]; omega) ⟨by omega, by omega, fun s2 e2 => ⟨by omega, ?_⟩⟩)
    rw [e2, zBt_up ov]
    exact ih (v + 1) (by omega) (by omega)
end Link2
