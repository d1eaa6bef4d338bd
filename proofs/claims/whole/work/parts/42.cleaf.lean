/-! The class: rows and leaves. -/
/-- what a row answers at a place -/
def zT (s : qM) (r : Nat) (p : Int) : Int := if 0 ≤ p ∧ p < s r 1 then s (r + 1) p else -1
theorem zT_in {s : qM} {r : Nat} {p : Int} (h0 : 0 ≤ p) (h1 : p < s r 1) : zT s r p = s (r + 1) p := if_pos ⟨h0, h1⟩
theorem zT_out {s : qM} {r : Nat} {p : Int} (h : ¬ (0 ≤ p ∧ p < s r 1)) : zT s r p = -1 := if_neg h
section CLeaf
variable {X : Nat × (Nat → Int32)} {s : qM} {K : Int → qM → Prop} {KV : qM → Prop} {r N : Nat}
theorem k_Row_size (hr : q_isRow r N) (h : K (s r 1) s) : c_Row_size X r s K := sg_Row_size hr h
theorem k_Row_at (hr : q_isRow r N) (ok : s r 1 ≤ N) {p : Int} (h : K (zT s r p) s) : c_Row_at X r p s K := by
  refine sg_Row_at hr (z_c (fun e => ?_) (fun e => z_c (fun e2 => ?_) (fun e2 => z_c (fun e3 => ?_) (fun e3 => ⟨by omega, by omega, ?_⟩))))
  · rw [zT_out (by omega)] at h; exact h
  · rw [zT_out (by omega)] at h; exact h
  · omega
  · rw [zT_in (by omega) (by omega)] at h; exact h
theorem k_Row_set (hr : q_isRow r N) (ok : s r 1 ≤ N) {p v : Int} (h1 : 0 ≤ p → p < s r 1 → KV (q_up s (r + 1) p v)) (h0 : ¬ (0 ≤ p ∧ p < s r 1) → KV s) : c_Row_set X r p v s KV := by
  refine sg_Row_set hr (z_c (fun e => h0 (by omega)) (fun e => z_c (fun e2 => h0 (by omega)) (fun e2 => z_c (fun e3 => h0 (by omega)) (fun e3 => ⟨by omega, by omega, fun s1 e1 => ?_⟩))))
  rw [e1]
  exact h1 (by omega) (by omega)
theorem k_Row_add (hr : q_isRow r N) (h0 : 0 ≤ s r 1) (h1 : s r 1 < N) {v : Int} (h : KV (q_up (q_up s (r + 1) (s r 1) v) r 1 (s r 1 + 1))) : c_Row_add X r v s KV := by
  have hN := hr.nlt
  refine sg_Row_add hr (z_f (by omega) (z_f (by omega) ⟨h0, h1, fun s1 e1 => ?_⟩))
  have e2 : s1 r 1 = s r 1 := by rw [e1, q_up_ne (by omega)]
  rw [e2]
  refine ⟨by omega, fun s2 e3 => ?_⟩
  rw [e3, e1]
  exact h
theorem k_Row_empty (hr : q_isRow r N) (h : KV (q_up s r 1 0)) : c_Row_empty X r s KV := sg_Row_empty hr (fun s1 e => by rw [e]; exact h)
theorem k_Row_cut (hr : q_isRow r N) {m : Int} (h1 : 0 ≤ m → m < s r 1 → KV (q_up s r 1 m)) (h0 : ¬ (0 ≤ m ∧ m < s r 1) → KV s) : c_Row_cut X r m s KV :=
  sg_Row_cut hr (z_c (fun e => h0 (by omega)) (fun e => z_c (fun e2 => h0 (by omega)) (fun e2 s1 e1 => by rw [e1]; exact h1 (by omega) (by omega))))
/-- a row filled from its beginning -/
theorem k_Row_fill (hr : q_isRow r N) {m v : Int} (h0 : 0 ≤ m) (h1 : m ≤ N) (h : ∀ s', (∀ q, q ≠ r → q ≠ r + 1 → s' q = s q) → s' r 1 = m → (∀ i, 0 ≤ i → i < m → s' (r + 1) i = v) → KV s') : c_Row_fill X r m v s KV := by
  have hN := hr.nlt
  refine sg_Row_fill hr (k_Row_empty hr ?_)
  have L : ∀ (n : Nat) (k : Int) (s1 : qM), k = m - n → 0 ≤ k → s1 r 1 = k → (∀ q, q ≠ r → q ≠ r + 1 → s1 q = s q) → (∀ i, 0 ≤ i → i < k → s1 (r + 1) i = v) → L_Row_fill_6 X r m v k s1 KV := by
    intro n
    induction n with
    | zero =>
      intro k s1 hk g0 g1 g2 g3
      exact sg_Row_fill_6 hr (z_t (by omega) (h s1 g2 (by omega) (fun i a b => g3 i a (by omega))))
    | succ n ih =>
      intro k s1 hk g0 g1 g2 g3
      refine sg_Row_fill_6 hr (z_f (by omega) (k_Row_add hr (by omega) (by omega) ⟨by omega, ih (k + 1) _ (by omega) (by omega) ?_ (fun q a b => ?_) (fun i a b => ?_)⟩))
      · rw [q_up_at, g1]
      · rw [q_up_ne a, q_up_ne b]; exact g2 q a b
      · rw [q_up_ne (by omega), q_up_get]
        by_cases e : i = k
        · simp [e, g1]
        · have : ¬ i = s1 r 1 := by omega
          simp only [this, and_false, if_false]
          exact g3 i a (by omega)
  exact L m.toNat 0 _ (by omega) (Int.le_refl 0) q_up_at (fun q a b => q_up_ne a) (fun i a b => by omega)
/-- one row becomes another -/
theorem k_Row_become {r2 N2 : Nat} (hr : q_isRow r N) (hr2 : q_isRow r2 N2) (h0 : 0 ≤ s r2 1) (h1 : s r2 1 ≤ N) (h2 : s r2 1 ≤ N2) (d1 : r2 ≠ r) (d2 : r2 ≠ r + 1) (d3 : r2 + 1 ≠ r) (h : ∀ s', (∀ q, q ≠ r → q ≠ r + 1 → s' q = s q) → s' r 1 = s r2 1 → (∀ i, 0 ≤ i → i < s r2 1 → s' (r + 1) i = s (r2 + 1) i) → KV s') : c_Row_become X r r2 s KV := by
  have hN := hr.nlt
  refine sg_Row_become hr hr2 (k_Row_empty hr ?_)
  have L : ∀ (n : Nat) (k : Int) (s1 : qM), k = s r2 1 - n → 0 ≤ k → s1 r 1 = k → (∀ q, q ≠ r → q ≠ r + 1 → s1 q = s q) → (∀ i, 0 ≤ i → i < k → s1 (r + 1) i = s (r2 + 1) i) → L_Row_become_6 X r r2 k s1 KV := by
    intro n
    induction n with
    | zero =>
      intro k s1 hk g0 g1 g2 g3
      have e5 : s1 r2 1 = s r2 1 := by rw [g2 r2 d1 d2]
      exact sg_Row_become_6 hr hr2 (k_Row_size hr2 (z_t (by omega) (h s1 g2 (by omega) (fun i a b => g3 i a (by omega)))))
    | succ n ih =>
      intro k s1 hk g0 g1 g2 g3
      have e5 : s1 r2 1 = s r2 1 := by rw [g2 r2 d1 d2]
      refine sg_Row_become_6 hr hr2 (k_Row_size hr2 (z_f (by omega) (k_Row_at hr2 (by omega) (k_Row_add hr (by omega) (by omega) ⟨by omega, ih (k + 1) _ (by omega) (by omega) ?_ (fun q a b => ?_) (fun i a b => ?_)⟩))))
      · rw [q_up_at, g1]
      · rw [q_up_ne a, q_up_ne b]; exact g2 q a b
      · rw [q_up_ne (by omega), q_up_get]
        by_cases e : i = k
        · subst e
          rw [if_pos ⟨rfl, by omega⟩, zT_in (by omega) (by omega), g2 (r2 + 1) d3 (by omega)]
        · have : ¬ i = s1 r 1 := by omega
          simp only [this, and_false, if_false]
          exact g3 i a (by omega)
  exact L (s r2 1).toNat 0 _ (by omega) (Int.le_refl 0) q_up_at (fun q a b => q_up_ne a) (fun i a b => by omega)
/-- a character put into a row -/
theorem k_Row_insert (hr : q_isRow r N) {p v : Int} (h0 : 0 ≤ p) (h1 : p ≤ s r 1) (h2 : s r 1 < N) (h : ∀ s', (∀ q, q ≠ r → q ≠ r + 1 → s' q = s q) → s' r 1 = s r 1 + 1 → (∀ i, 0 ≤ i → i < p → s' (r + 1) i = s (r + 1) i) → s' (r + 1) p = v → (∀ i, p < i → i ≤ s r 1 → s' (r + 1) i = s (r + 1) (i - 1)) → KV s') : c_Row_insert X r p v s KV := by
  have hN := hr.nlt
  refine sg_Row_insert hr (k_Row_add hr (by omega) h2 ?_)
  rw [q_up_at]
  refine ⟨by omega, ?_⟩
  have L : ∀ (n : Nat) (k : Int) (s1 : qM), k = p + n → k ≤ s r 1 → s1 r 1 = s r 1 + 1 → (∀ q, q ≠ r → q ≠ r + 1 → s1 q = s q) → (∀ i, 0 ≤ i → i < k → s1 (r + 1) i = s (r + 1) i) → (∀ i, k < i → i ≤ s r 1 → s1 (r + 1) i = s (r + 1) (i - 1)) → L_Row_insert_12 X r p v k s1 KV := by
    intro n
    induction n with
    | zero =>
      intro k s1 hk g0 g1 g2 g3 g4
      refine sg_Row_insert_12 hr (z_t (by omega) (k_Row_set hr (by omega) (fun a b => h _ (fun q a b => ?_) ?_ (fun i a b => ?_) q_up_at (fun i a b => ?_)) (fun a => absurd ⟨h0, by omega⟩ a)))
      · rw [q_up_ne b]; exact g2 q a b
      · rw [q_up_ne (by omega)]; exact g1
      · rw [q_up_nj (by omega)]; exact g3 i a (by omega)
      · rw [q_up_nj (by omega)]; exact g4 i (by omega) b
    | succ n ih =>
      intro k s1 hk g0 g1 g2 g3 g4
      refine sg_Row_insert_12 hr (z_f (by omega) ⟨by omega, k_Row_at hr (by omega) (k_Row_set hr (by omega) (fun a b => ⟨by omega, ih (k + (-1)) _ (by omega) (by omega) ?_ (fun q a b => ?_) (fun i a b => ?_) (fun i a b => ?_)⟩) (fun a => absurd ⟨by omega, by omega⟩ a))⟩)
      · rw [q_up_ne (by omega)]; exact g1
      · rw [q_up_ne b]; exact g2 q a b
      · rw [q_up_nj (by omega)]; exact g3 i a (by omega)
      · by_cases e : i = k
        · rw [e, q_up_at, zT_in (by omega) (by omega)]; exact g3 _ (by omega) (by omega)
        · rw [q_up_nj e]; exact g4 i (by omega) b
  refine L (s r 1 - p).toNat _ _ (by omega) (by omega) q_up_at (fun q a b => by rw [q_up_ne a, q_up_ne b]) (fun i a b => ?_) (fun i a b => by omega)
  rw [q_up_ne (by omega), q_up_nj (by omega)]
theorem k_Row_remove (hr : q_isRow r N) {p m : Int} (h0 : 0 ≤ p) (h1 : 1 ≤ m) (h3 : p + m ≤ s r 1) (h2 : s r 1 ≤ N) (h : ∀ s', (∀ q, q ≠ r → q ≠ r + 1 → s' q = s q) → s' r 1 = s r 1 - m → (∀ i, 0 ≤ i → i < p → s' (r + 1) i = s (r + 1) i) → (∀ i, p ≤ i → i < s r 1 - m → s' (r + 1) i = s (r + 1) (i + m)) → KV s') : c_Row_remove X r p m s KV := by
  have hN := hr.nlt
  refine sg_Row_remove hr ⟨by omega, ?_⟩
  have L : ∀ (n : Nat) (k : Int) (s1 : qM), k = s r 1 - n → p + m ≤ k → s1 r 1 = s r 1 → (∀ q, q ≠ r → q ≠ r + 1 → s1 q = s q) → (∀ i, 0 ≤ i → i < p → s1 (r + 1) i = s (r + 1) i) → (∀ i, p ≤ i → i < k - m → s1 (r + 1) i = s (r + 1) (i + m)) → (∀ i, k - m ≤ i → i < s r 1 → s1 (r + 1) i = s (r + 1) i) → L_Row_remove_4 X r m k s1 KV := by
    intro n
    induction n with
    | zero =>
      intro k s1 hk g0 g1 g2 g3 g4 g5
      refine sg_Row_remove_4 hr (z_t (by omega) ⟨by omega, k_Row_cut hr (fun a b => h _ (fun q a b => ?_) ?_ (fun i a b => ?_) (fun i a b => ?_)) (fun a => absurd ⟨by omega, by omega⟩ a)⟩)
      · rw [q_up_ne a]; exact g2 q a b
      · rw [q_up_at, g1]
      · rw [q_up_ne (by omega)]; exact g3 i a b
      · rw [q_up_ne (by omega)]; exact g4 i a (by omega)
    | succ n ih =>
      intro k s1 hk g0 g1 g2 g3 g4 g5
      refine sg_Row_remove_4 hr (z_f (by omega) ⟨by omega, k_Row_at hr (by omega) (k_Row_set hr (by omega) (fun a b => ⟨by omega, ih (k + 1) _ (by omega) (by omega) ?_ (fun q a b => ?_) (fun i a b => ?_) (fun i a b => ?_) (fun i a b => ?_)⟩) (fun a => absurd ⟨by omega, by omega⟩ a))⟩)
      · rw [q_up_ne (by omega)]; exact g1
      · rw [q_up_ne b]; exact g2 q a b
      · rw [q_up_nj (by omega)]; exact g3 i a b
      · by_cases e : i = k - m
        · rw [e, q_up_at, zT_in (by omega) (by omega), g5 k (by omega) (by omega)]
          congr 1; omega
        · rw [q_up_nj e]; exact g4 i a (by omega)
      · rw [q_up_nj (by omega)]; exact g5 i (by omega) b
  exact L (s r 1 - (p + m)).toNat _ s (by omega) (by omega) rfl (fun _ _ _ => rfl) (fun _ _ _ => rfl) (fun i a b => by omega) (fun _ _ _ => rfl)
theorem k_T_isLetterOrDigit {x : Int} (h1 : zLet x → K 1 s) (h0 : ¬ zLet x → K 0 s) : c_T_isLetterOrDigit X x s K := by
  have L : (¬ (48 ≤ x ∧ x ≤ 57)) → L_T_isLetterOrDigit_12 X x s K := fun g =>
    sg_T_isLetterOrDigit_12 (z_c (fun e => z_c (fun e2 => h0 (by omega)) (fun e2 => z_c (fun e3 => h0 (by omega)) (fun e3 => h1 (by omega)))) (fun e => z_c (fun e2 => h1 (by omega)) (fun e2 => z_c (fun e3 => h0 (by omega)) (fun e3 => z_c (fun e4 => h0 (by omega)) (fun e4 => h1 (by omega))))))
  exact sg_T_isLetterOrDigit (z_c (fun e => L (by omega)) (fun e => z_c (fun e2 => h1 (by omega)) (fun e2 => L (by omega))))
theorem k_T_isSign {x : Int} (hx : x ≤ 126) (h1 : zSign x → K 1 s) (h0 : ¬ zSign x → K 0 s) : c_T_isSign X x s K :=
  sg_T_isSign (z_c (fun e => h0 (by omega)) (fun e => k_T_isLetterOrDigit (fun c => z_t (by decide) (h0 (by omega))) (fun c => z_f (by decide) (h1 (by omega)))))
abbrev zGap (x : Int) : Prop := x = 32 ∨ x = 10 ∨ x = -1
theorem k_T_isGap {x : Int} (h1 : zGap x → K 1 s) (h0 : ¬ zGap x → K 0 s) : c_T_isGap X x s K :=
  sg_T_isGap (z_c (fun e => h1 (by omega)) (fun e => z_c (fun e => h1 (by omega)) (fun e => z_c (fun e => h0 (by omega)) (fun e => h1 (by omega)))))
theorem k_T_skipBlanks (hr : q_isRow r N) (ok : s r 1 ≤ N) {a b : Int} (ha : -1000 ≤ a) (hb : b ≤ 100000) (h : K (zSkip (zT s r) a b) s) : c_T_skipBlanks X r a b s K := by
  refine sg_T_skipBlanks hr ?_
  have L : ∀ n : Nat, -1000 ≤ b - n → K (zUp (zIsB (zT s r)) b n) s → L_T_skipBlanks_2 X r b (b - n) s K := by
    intro n
    induction n with
    | zero => intro _ hK; exact sg_T_skipBlanks_2 hr (z_t (by omega) (by simpa [zUp] using hK))
    | succ n ih =>
      intro hn hK
      unfold zUp at hK
      refine sg_T_skipBlanks_2 hr (z_f (by omega) (k_Row_at hr ok (z_c (fun e => ⟨by omega, ?_⟩) (fun e => ?_))))
      · have e : zT s r (b - (n + 1)) = 32 := by simpa using e
        rw [if_pos (by simp [zIsB, e])] at hK
        have := ih (by omega) hK
        rw [show b - ((n + 1 : Nat) : Int) + 1 = b - n by omega]
        exact this
      · have e : ¬ zT s r (b - (n + 1)) = 32 := by simpa using e
        rw [if_neg (by simp [zIsB, e])] at hK
        simpa using hK
  by_cases hab : a ≤ b
  · have := L (b - a).toNat (by omega) h
    rw [show b - (((b - a).toNat : Nat) : Int) = a by omega] at this
    exact this
  · refine sg_T_skipBlanks_2 hr (z_t (by omega) ?_)
    have e : (b - a).toNat = 0 := by omega
    unfold zSkip zU at h
    rw [e] at h
    exact h
theorem k_T_cutBlanks (hr : q_isRow r N) (ok : s r 1 ≤ N) {a b : Int} (ha : -1000 ≤ a) (hb : b ≤ 100000) (h : K (zTrim (zT s r) a b) s) : c_T_cutBlanks X r a b s K := by
  refine sg_T_cutBlanks hr ?_
  have L : ∀ n : Nat, a + n ≤ 100000 → K (zDn (zIsB (zT s r)) a n) s → L_T_cutBlanks_2 X r a (a + n) s K := by
    intro n
    induction n with
    | zero => intro _ hK; exact sg_T_cutBlanks_2 hr (z_t (by omega) (by simpa [zDn] using hK))
    | succ n ih =>
      intro hn hK
      unfold zDn at hK
      refine sg_T_cutBlanks_2 hr (z_f (by omega) ⟨by omega, k_Row_at hr ok (z_c (fun e => ⟨by omega, ?_⟩) (fun e => ?_))⟩)
      · rw [show a + ((n + 1 : Nat) : Int) - 1 = a + n by omega] at e
        rw [if_pos (by simp [zIsB, e])] at hK
        have := ih (by omega) hK
        rw [show a + ((n + 1 : Nat) : Int) + (-1) = a + n by omega]
        exact this
      · rw [show a + ((n + 1 : Nat) : Int) - 1 = a + n by omega] at e
        rw [if_neg (by simp [zIsB, e])] at hK
        rw [show a + ((n + 1 : Nat) : Int) = a + n + 1 by omega]
        exact hK
  by_cases hab : a ≤ b
  · have := L (b - a).toNat (by omega) h
    rw [show a + (((b - a).toNat : Nat) : Int) = b by omega] at this
    exact this
  · refine sg_T_cutBlanks_2 hr (z_t (by omega) ?_)
    have e : (b - a).toNat = 0 := by omega
    unfold zTrim zD at h
    rw [e] at h
    exact h
theorem k_T_skipWord (hr : q_isRow r N) (ok : s r 1 ≤ N) {a b : Int} (ha : -1000 ≤ a) (hb : b ≤ 100000) (h : K (zWord (zT s r) a b) s) : c_T_skipWord X r a b s K := by
  refine sg_T_skipWord hr ?_
  have L : ∀ n : Nat, -1000 ≤ b - n → K (zUp (zIsW (zT s r)) b n) s → L_T_skipWord_2 X r b (b - n) s K := by
    intro n
    induction n with
    | zero => intro _ hK; exact sg_T_skipWord_2 hr (z_t (by omega) (by simpa [zUp] using hK))
    | succ n ih =>
      intro hn hK
      unfold zUp at hK
      refine sg_T_skipWord_2 hr (z_f (by omega) (k_Row_at hr ok (k_T_isLetterOrDigit (fun e => z_t (by decide) ⟨by omega, ?_⟩) (fun e => z_f (by decide) ?_))))
      · have e : zLet (zT s r (b - (n + 1))) := by simpa using e
        rw [if_pos (by unfold zIsW; exact decide_eq_true e)] at hK
        have := ih (by omega) hK
        rw [show b - ((n + 1 : Nat) : Int) + 1 = b - n by omega]
        exact this
      · have e : ¬ zLet (zT s r (b - (n + 1))) := by simpa using e
        rw [if_neg (by unfold zIsW; simpa using e)] at hK
        simpa using hK
  by_cases hab : a ≤ b
  · have := L (b - a).toNat (by omega) h
    rw [show b - (((b - a).toNat : Nat) : Int) = a by omega] at this
    exact this
  · refine sg_T_skipWord_2 hr (z_t (by omega) ?_)
    have e : (b - a).toNat = 0 := by omega
    unfold zWord zU at h
    rw [e] at h
    exact h
end CLeaf
