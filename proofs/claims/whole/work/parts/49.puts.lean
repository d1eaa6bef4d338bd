/-! A block is put in. -/
section Puts
variable {X : Nat × (Nat → Int32)} {s s' : qM} {K : Int → qM → Prop} {KV : qM → Prop}
theorem k_m_closesIn_7 {n : Int} (hn : n ≤ 600) : ∀ (m : Nat) (v : Int) (s : qM) (KV : qM → Prop), (v = -1 ∨ (0 ≤ v ∧ v < n ∧ n - v ≤ m)) → (∀ k, 0 ≤ k → k < n → s 122 k = -1 ∨ (k < s 122 k ∧ s 122 k < n)) →
    (∀ s', (∀ q, q ≠ 119 → s' q = s q) → (v = -1 ∨ s' 119 v = 0) → (∀ k, s' 119 k = s 119 k ∨ s' 119 k = 0) → (∀ k, k < v ∨ v = -1 → s' 119 k = s 119 k) → (∀ k, s 119 k = 1 → s' 119 k = 0 → s 122 k = -1 ∨ s' 119 (s 122 k) = 0) → KV s') → L_m_closesIn_7 X v s KV := by
  intro m
  induction m with
  | zero =>
    intro v s KV hv hl h
    have e : v = -1 := by omega
    refine sg_m_closesIn_7 (z_t e (h s (fun _ _ => rfl) (Or.inl e) (fun _ => Or.inl rfl) (fun _ _ => rfl) (fun k a b => by rw [a] at b; cases b)))
  | succ m ih =>
    intro v s KV hv hl h
    refine sg_m_closesIn_7 (z_c (fun e => h s (fun _ _ => rfl) (Or.inl e) (fun _ => Or.inl rfl) (fun _ _ => rfl) (fun k a b => by rw [a] at b; cases b)) (fun e => ?_))
    have hv : 0 ≤ v ∧ v < n ∧ n - v ≤ m + 1 := by omega
    refine ⟨hv.1, by omega, fun s1 e1 => ⟨hv.1, by omega, ?_⟩⟩
    have g1 : ∀ q, q ≠ 119 → s1 q = s q := fun q hq => by rw [e1]; exact q_up_ne hq
    have g2 : s1 119 v = 0 := by rw [e1]; exact q_up_at
    have g3 : ∀ k, k ≠ v → s1 119 k = s 119 k := fun k hk => by rw [e1]; exact q_up_nj hk
    have g4 : s1 122 = s 122 := g1 _ (by decide)
    have hlv := hl v hv.1 hv.2.1
    rw [g4]
    refine ih (s 122 v) s1 KV (by omega) (by rw [g4]; exact hl) (fun s2 f1 f2 f3 f4 f5 => ?_)
    rw [g4] at f5
    have f6 : s2 119 v = 0 := by rcases f3 v with x | x <;> omega
    refine h s2 (fun q hq => (f1 q hq).trans (g1 q hq)) (Or.inr f6) (fun k => ?_) (fun k hk => ?_) (fun k a b => ?_)
    · by_cases hk : k = v
      · right; rw [hk]; exact f6
      · rw [← g3 k hk]; exact f3 k
    · rw [f4 k (by omega), g3 k (by omega)]
    · by_cases hk : k = v
      · rw [hk]; exact f2
      · exact f5 k (by rw [g3 k hk]; exact a) b
theorem k_m_closesIn {n p : Int} (hn : n ≤ 600) (p0 : 0 ≤ p) (pn : p < n) (hl : ∀ k, 0 ≤ k → k < n → s 122 k = -1 ∨ (k < s 122 k ∧ s 122 k < n))
    (h : ∀ s', (∀ q, q ≠ 119 → s' q = s q) → (s 122 p = -1 ∨ s' 119 (s 122 p) = 0) → (∀ k, s' 119 k = s 119 k ∨ s' 119 k = 0) → (∀ k, k ≤ p → s' 119 k = s 119 k) → (∀ k, s 119 k = 1 → s' 119 k = 0 → s 122 k = -1 ∨ s' 119 (s 122 k) = 0) → KV s') : c_m_closesIn X p s KV := by
  have hp := hl p p0 pn
  refine sg_m_closesIn ⟨p0, by omega, k_m_closesIn_7 hn n.toNat _ s KV (by omega) hl (fun s2 f1 f2 f3 f4 f5 => h s2 f1 f2 f3 (fun k hk => f4 k (by omega)) f5)⟩
/-- the list that a block in p makes loose, or -1 -/
def zLst (b : qM) (p : Int) : Int := if b 117 p = 2 then p else if b 117 p = 3 then b 118 p else -1
theorem k_m_puts {n p κ τ : Int} (en : s 113 4 = n) (hn : n < 600) (p0 : 0 ≤ p) (pn : p < n) (hl : ∀ k, 0 ≤ k → k < n → s 122 k = -1 ∨ (k < s 122 k ∧ s 122 k < n)) (hp3 : s 117 p = 3 → 0 ≤ s 118 p ∧ s 118 p < n) (hm : 0 ≤ s 123 p) (hm2 : s 123 p ≤ 100000)
    (h : ∀ (s' : qM) (x y : Int → Int), (∀ q, q ≠ 113 → (q < 117 ∨ 123 < q) → s' q = s q) → (∀ j, j ≠ 4 → s' 113 j = s 113 j) → s' 113 4 = n + 1 → s' 117 = q_u (s 117) n κ → s' 118 = q_u (s 118) n p → s' 119 = q_u x n (if κ = 4 ∨ κ = 7 then 0 else 1) → s' 120 = q_u (s 120) n τ → s' 121 = q_u y n 0 → s' 122 = q_u (q_u (s 122) n (-1)) p n → s' 123 = q_u (q_u (s 123) n 0) p (s 123 p + 1) →
      (s 122 p = -1 ∨ x (s 122 p) = 0) → (∀ k, x k = s 119 k ∨ x k = 0) → (∀ k, k ≤ p → x k = s 119 k) → (∀ k, s 119 k = 1 → x k = 0 → s 122 k = -1 ∨ x (s 122 k) = 0) →
      ((zLst s p ≠ -1 ∧ s 113 48 ≠ 0 ∧ 0 < s 123 p ∧ y = q_u (s 121) (zLst s p) 1) ∨ (¬ (zLst s p ≠ -1 ∧ s 113 48 ≠ 0 ∧ 0 < s 123 p) ∧ y = s 121)) → K n s') : c_m_puts X p κ τ s K := by
  refine sg_m_puts (k_m_closesIn (n := n) (by omega) p0 pn hl (fun s1 f1 f2 f3 f4 f5 => ?_))
  have g117 : s1 117 = s 117 := f1 _ (by decide)
  have g118 : s1 118 = s 118 := f1 _ (by decide)
  have g120 : s1 120 = s 120 := f1 _ (by decide)
  have g121 : s1 121 = s 121 := f1 _ (by decide)
  have g122 : s1 122 = s 122 := f1 _ (by decide)
  have g123 : s1 123 = s 123 := f1 _ (by decide)
  have g113 : s1 113 = s 113 := f1 _ (by decide)
  have fin : ∀ (w : qM) (y : Int → Int) (t : Int), (∀ q, q ≠ 117 → q ≠ 118 → q ≠ 121 → w q = s1 q) → w 117 = q_u (s 117) n κ → w 118 = q_u (s 118) n p → w 121 = y → ((zLst s p ≠ -1 ∧ s 113 48 ≠ 0 ∧ 0 < s 123 p ∧ y = q_u (s 121) (zLst s p) 1) ∨ (¬ (zLst s p ≠ -1 ∧ s 113 48 ≠ 0 ∧ 0 < s 123 p) ∧ y = s 121)) → t = (if κ = 4 ∨ κ = 7 then 0 else 1) → L_m_puts_115 X p τ n t w K := by
    intro w y t w1 w2 w3 w4 hy ht
    have w113 : w 113 = s 113 := (w1 _ (by decide) (by decide) (by decide)).trans g113
    have w119 : w 119 = s1 119 := w1 _ (by decide) (by decide) (by decide)
    have w120 : w 120 = s 120 := (w1 _ (by decide) (by decide) (by decide)).trans g120
    have w122 : w 122 = s 122 := (w1 _ (by decide) (by decide) (by decide)).trans g122
    have w123 : w 123 = s 123 := (w1 _ (by decide) (by decide) (by decide)).trans g123
    have t01 : 0 ≤ t ∧ t ≤ 1 := by rw [ht]; split <;> omega
    have m4 : w 113 4 = n := by rw [w113]; exact en
    refine sg_m_puts_115 ⟨by omega, by omega, t01.1, t01.2, fun u1 e1 => ?_⟩
    have m1 : u1 113 4 = n := by rw [e1, q_up_ne (by decide)]; exact m4
    refine ⟨by omega, by omega, fun u2 e2 => ?_⟩
    have m2 : u2 113 4 = n := by rw [e2, q_up_ne (by decide)]; exact m1
    refine ⟨by omega, by omega, fun u3 e3 => ?_⟩
    have m3 : u3 113 4 = n := by rw [e3, q_up_ne (by decide)]; exact m2
    refine ⟨by omega, by omega, fun u4 e4 => ?_⟩
    have m4 : u4 113 4 = n := by rw [e4, q_up_ne (by decide)]; exact m3
    refine ⟨by omega, by omega, fun u5 e5 => ⟨p0, by omega, fun u6 e6 => ?_⟩⟩
    have m5 : u5 113 4 = n := by rw [e5, q_up_ne (by decide)]; exact m4
    have m6 : u6 113 4 = n := by rw [e6, q_up_ne (by decide)]; exact m5
    have c6 : u6 123 p = s 123 p := by
      rw [e6, q_up_ne (by decide), e5, m4, q_up_nj (by omega), e4, q_up_ne (by decide), e3, q_up_ne (by decide), e2, q_up_ne (by decide), e1, q_up_ne (by decide), w123]
    refine ⟨p0, by omega, by omega, p0, by omega, fun u7 e7 => ?_⟩
    have m7 : u7 113 4 = n := by rw [e7, q_up_ne (by decide)]; exact m6
    refine ⟨by omega, fun u8 e8 => ?_⟩
    have m8 : u8 113 4 = n + 1 := by rw [e8, m7]; exact q_up_at
    rw [m8]
    refine ⟨by omega, ?_⟩
    rw [show n + 1 - 1 = n by omega]
    rw [m1] at e2
    rw [m2] at e3
    rw [m3] at e4
    rw [m4] at e5
    rw [m5] at e6
    rw [c6] at e7
    rw [m7] at e8
    refine h u8 (s1 119) y ?_ ?_ m8 ?_ ?_ ?_ ?_ ?_ ?_ ?_ f2 f3 f4 f5 hy
    · intro q a b
      rw [e8, q_up_ne a, e7, q_up_ne (by omega), e6, q_up_ne (by omega), e5, q_up_ne (by omega), e4, q_up_ne (by omega), e3, q_up_ne (by omega), e2, q_up_ne (by omega), e1, q_up_ne (by omega), w1 q (by omega) (by omega) (by omega), f1 q (by omega)]
    · intro j hj
      rw [e8, q_up_nj hj, e7, q_up_ne (by decide), e6, q_up_ne (by decide), e5, q_up_ne (by decide), e4, q_up_ne (by decide), e3, q_up_ne (by decide), e2, q_up_ne (by decide), e1, q_up_ne (by decide), w113]
    · rw [e8, q_up_ne (by decide), e7, q_up_ne (by decide), e6, q_up_ne (by decide), e5, q_up_ne (by decide), e4, q_up_ne (by decide), e3, q_up_ne (by decide), e2, q_up_ne (by decide), e1, q_up_ne (by decide), w2]
    · rw [e8, q_up_ne (by decide), e7, q_up_ne (by decide), e6, q_up_ne (by decide), e5, q_up_ne (by decide), e4, q_up_ne (by decide), e3, q_up_ne (by decide), e2, q_up_ne (by decide), e1, q_up_ne (by decide), w3]
    · rw [e8, q_up_ne (by decide), e7, q_up_ne (by decide), e6, q_up_ne (by decide), e5, q_up_ne (by decide), e4, q_up_ne (by decide), e3, q_up_ne (by decide), e2, q_up_ne (by decide), e1, q_up_fn, w119, ht]
    · rw [e8, q_up_ne (by decide), e7, q_up_ne (by decide), e6, q_up_ne (by decide), e5, q_up_ne (by decide), e4, q_up_ne (by decide), e3, q_up_ne (by decide), e2, q_up_fn, e1, q_up_ne (by decide), w120]
    · rw [e8, q_up_ne (by decide), e7, q_up_ne (by decide), e6, q_up_ne (by decide), e5, q_up_ne (by decide), e4, q_up_ne (by decide), e3, q_up_fn, e2, q_up_ne (by decide), e1, q_up_ne (by decide), w4]
    · rw [e8, q_up_ne (by decide), e7, q_up_ne (by decide), e6, q_up_fn, e5, q_up_ne (by decide), e4, q_up_fn, e3, q_up_ne (by decide), e2, q_up_ne (by decide), e1, q_up_ne (by decide), w122]
    · rw [e8, q_up_ne (by decide), e7, q_up_fn, e6, q_up_ne (by decide), e5, q_up_fn, e4, q_up_ne (by decide), e3, q_up_ne (by decide), e2, q_up_ne (by decide), e1, q_up_ne (by decide), w123]
  have tail : ∀ (w : qM) (y : Int → Int), (∀ q, q ≠ 121 → w q = s1 q) → w 121 = y → ((zLst s p ≠ -1 ∧ s 113 48 ≠ 0 ∧ 0 < s 123 p ∧ y = q_u (s 121) (zLst s p) 1) ∨ (¬ (zLst s p ≠ -1 ∧ s 113 48 ≠ 0 ∧ 0 < s 123 p) ∧ y = s 121)) → ((0 : Int) ≤ (w 113 4)) ∧ ((w 113 4) < (600 : Int)) ∧ (∀ s3 : qM, s3 = q_up w 117 (w 113 4) κ → ((0 : Int) ≤ (s3 113 4)) ∧ ((s3 113 4) < (600 : Int)) ∧ (∀ s4 : qM, s4 = q_up s3 118 (s3 113 4) p → (((κ = 4) → L_m_puts_115 X p τ (s4 113 4) 0 s4 K) ∧ (¬ (κ = 4) → (((κ = 7) → L_m_puts_115 X p τ (s4 113 4) 0 s4 K) ∧ (¬ (κ = 7) → L_m_puts_115 X p τ (s4 113 4) 1 s4 K)))))) := by
    intro w y w1 w2 hy
    have m4 : w 113 4 = n := by rw [w1 113 (by decide), g113]; exact en
    refine ⟨by omega, by omega, fun s3 e3 => ?_⟩
    have m3 : s3 113 4 = n := by rw [e3, q_up_ne (by decide)]; exact m4
    refine ⟨by omega, by omega, fun s4 e4 => ?_⟩
    have m5 : s4 113 4 = n := by rw [e4, q_up_ne (by decide)]; exact m3
    rw [m5]
    rw [m4] at e3
    rw [m3] at e4
    have k1 : ∀ q, q ≠ 117 → q ≠ 118 → q ≠ 121 → s4 q = s1 q := fun q a b c => by rw [e4, q_up_ne b, e3, q_up_ne a]; exact w1 q c
    have k2 : s4 117 = q_u (s 117) n κ := by rw [e4, q_up_ne (by decide), e3, q_up_fn, w1 117 (by decide), g117]
    have k3 : s4 118 = q_u (s 118) n p := by rw [e4, q_up_fn, e3, q_up_ne (by decide), w1 118 (by decide), g118]
    have k4 : s4 121 = y := by rw [e4, q_up_ne (by decide), e3, q_up_ne (by decide), w2]
    exact z_c (fun e => fin s4 y 0 k1 k2 k3 k4 hy (by rw [if_pos (Or.inl e)])) (fun e => z_c (fun e2 => fin s4 y 0 k1 k2 k3 k4 hy (by rw [if_pos (Or.inr e2)])) (fun e2 => fin s4 y 1 k1 k2 k3 k4 hy (by rw [if_neg (by omega)])))
  have head : ∀ t0, t0 = zLst s p → L_m_puts_39 X p κ τ t0 s1 K := by
    intro t0 ht
    have hr : t0 ≠ -1 → 0 ≤ t0 ∧ t0 < n := by
      intro hne
      rw [ht] at hne ⊢
      unfold zLst at hne ⊢
      by_cases a : s 117 p = 2
      · rw [if_pos a]; exact ⟨p0, pn⟩
      · rw [if_neg a] at hne ⊢
        by_cases c : s 117 p = 3
        · rw [if_pos c]; exact hp3 c
        · rw [if_neg c] at hne; exact absurd rfl hne
    refine sg_m_puts_39 (z_c (fun e => ?_) (fun e => z_c (fun e2 => ?_) (fun e2 => ⟨p0, by omega, z_c (fun e3 => ?_) (fun e3 => ⟨(hr e).1, by have := hr e; omega, fun s7 e7 => ?_⟩)⟩)))
    · exact tail s1 (s 121) (fun _ _ => rfl) g121 (Or.inr ⟨fun z => z.1 (ht ▸ e), rfl⟩)
    · rw [g113] at e2
      exact tail s1 (s 121) (fun _ _ => rfl) g121 (Or.inr ⟨fun z => z.2.1 e2, rfl⟩)
    · rw [g123] at e3
      exact tail s1 (s 121) (fun _ _ => rfl) g121 (Or.inr ⟨fun z => by omega, rfl⟩)
    · rw [g123] at e3
      rw [g113] at e2
      exact tail s7 (q_u (s 121) t0 1) (fun q hq => by rw [e7]; exact q_up_ne hq) (by rw [e7, q_up_fn, g121]) (Or.inl ⟨ht ▸ e, e2, by omega, by rw [ht]⟩)
  refine ⟨p0, by omega, ?_⟩
  rw [g117, g118]
  refine z_c (fun e => ⟨p0, by omega, z_c (fun e2 => head _ ?_) (fun e2 => ⟨p0, by omega, head _ ?_⟩)⟩) (fun e => head _ ?_)
  · unfold zLst; rw [if_neg e, if_neg e2]
  · unfold zLst; rw [if_neg e, if_pos (Decidable.not_not.mp e2)]
  · unfold zLst; rw [if_pos (Decidable.not_not.mp e)]
theorem k_Row_add2 {n v : Int} (r : Nat) {t : qM} {F : qM → Prop} (hr : q_isRow r 482) (n0 : 0 ≤ n) (hn : n < 482) (ht : t r 1 = n) (hF : ∀ t', (∀ q, q ≠ r → q ≠ r + 1 → t' q = t q) → t' r 1 = n + 1 → t' (r + 1) = q_u (t (r + 1)) n v → F t') : c_Row_add X r v t F := by
  refine k_Row_add hr (by omega) (by omega) ?_
  rw [ht]
  exact hF _ (fun q a b => by rw [q_up_ne a, q_up_ne b]) q_up_at (by rw [q_up_ne (by omega), q_up_fn])
theorem k_Blocks_add {n p κ ib : Int} (hr : s 13 1 = n ∧ s 15 1 = n ∧ s 17 1 = n ∧ s 19 1 = n ∧ s 21 1 = n ∧ s 23 1 = n ∧ s 25 1 = n ∧ s 27 1 = n) (n0 : 0 ≤ n) (hn : n < 482) (hp : p = -1 ∨ (0 ≤ p ∧ p < n)) (hp3 : 0 ≤ p → s 14 p = 3 → 0 ≤ s 16 p ∧ s 16 p < n)
    (h : ∀ (s' : qM) (y : Int → Int), (∀ q, q < 13 ∨ 28 < q → s' q = s q) → (s' 13 1 = n + 1 ∧ s' 15 1 = n + 1 ∧ s' 17 1 = n + 1 ∧ s' 19 1 = n + 1 ∧ s' 21 1 = n + 1 ∧ s' 23 1 = n + 1 ∧ s' 25 1 = n + 1 ∧ s' 27 1 = n + 1) → s' 14 = q_u (s 14) n κ → s' 16 = q_u (s 16) n p → (0 ≤ p → s' 18 = q_u (q_u (s 18) n (-1)) p n) → (p = -1 → s' 18 = q_u (s 18) n (-1)) → (0 ≤ p → s' 20 = q_u (q_u (s 20) n 0) p 1) → (p = -1 → s' 20 = q_u (s 20) n 0) → s' 22 = q_u y n 0 → s' 24 = q_u (s 24) n (-1) → s' 26 = q_u (s 26) n (-1) → s' 28 = q_u (s 28) n 0 →
      ((0 ≤ p ∧ ib ≠ 0 ∧ s 20 p = 1 ∧ s 14 (if s 14 p = 3 then s 16 p else p) = 2 ∧ y = q_u (s 22) (if s 14 p = 3 then s 16 p else p) 1) ∨ (¬ (0 ≤ p ∧ ib ≠ 0 ∧ s 20 p = 1 ∧ s 14 (if s 14 p = 3 then s 16 p else p) = 2) ∧ y = s 22)) → K n s') : c_Blocks_add X κ p ib s K := by
  obtain ⟨r1, r2, r3, r4, r5, r6, r7, r8⟩ := hr
  have tail : ∀ (w : qM) (y : Int → Int), (∀ q, q ≠ 22 → w q = s q) → w 22 = y → ((0 ≤ p ∧ ib ≠ 0 ∧ s 20 p = 1 ∧ s 14 (if s 14 p = 3 then s 16 p else p) = 2 ∧ y = q_u (s 22) (if s 14 p = 3 then s 16 p else p) 1) ∨ (¬ (0 ≤ p ∧ ib ≠ 0 ∧ s 20 p = 1 ∧ s 14 (if s 14 p = 3 then s 16 p else p) = 2) ∧ y = s 22)) → L_Blocks_add_65 X κ p w K := by
    intro w y w1 w2 hy
    have v1 : w 13 1 = n := by rw [w1 13 (by decide)]; exact r1
    have v2 : w 15 1 = n := by rw [w1 15 (by decide)]; exact r2
    have v3 : w 17 1 = n := by rw [w1 17 (by decide)]; exact r3
    have v4 : w 19 1 = n := by rw [w1 19 (by decide)]; exact r4
    have v5 : w 21 1 = n := by rw [w1 21 (by decide)]; exact r5
    have v6 : w 23 1 = n := by rw [w1 23 (by decide)]; exact r6
    have v7 : w 25 1 = n := by rw [w1 25 (by decide)]; exact r7
    have v8 : w 27 1 = n := by rw [w1 27 (by decide)]; exact r8
    refine sg_Blocks_add_65 (k_Row_size q_row_13 ?_)
    rw [v1]
    refine k_Row_add2 (n := n) (v := κ) 13 (t := w) q_row_13 n0 hn v1 (fun t1 a1 b1 c1 => ?_)
    refine k_Row_add2 (n := n) (v := p) 15 (t := t1) q_row_15 n0 hn (by rw [a1 15 (by decide) (by decide)]; exact v2) (fun t2 a2 b2 c2 => ?_)
    refine k_Row_add2 (n := n) (v := (-1)) 17 (t := t2) q_row_17 n0 hn (by rw [a2 17 (by decide) (by decide), a1 17 (by decide) (by decide)]; exact v3) (fun t3 a3 b3 c3 => ?_)
    refine k_Row_add2 (n := n) (v := 0) 19 (t := t3) q_row_19 n0 hn (by rw [a3 19 (by decide) (by decide), a2 19 (by decide) (by decide), a1 19 (by decide) (by decide)]; exact v4) (fun t4 a4 b4 c4 => ?_)
    refine k_Row_add2 (n := n) (v := 0) 21 (t := t4) q_row_21 n0 hn (by rw [a4 21 (by decide) (by decide), a3 21 (by decide) (by decide), a2 21 (by decide) (by decide), a1 21 (by decide) (by decide)]; exact v5) (fun t5 a5 b5 c5 => ?_)
    refine k_Row_add2 (n := n) (v := (-1)) 23 (t := t5) q_row_23 n0 hn (by rw [a5 23 (by decide) (by decide), a4 23 (by decide) (by decide), a3 23 (by decide) (by decide), a2 23 (by decide) (by decide), a1 23 (by decide) (by decide)]; exact v6) (fun t6 a6 b6 c6 => ?_)
    refine k_Row_add2 (n := n) (v := (-1)) 25 (t := t6) q_row_25 n0 hn (by rw [a6 25 (by decide) (by decide), a5 25 (by decide) (by decide), a4 25 (by decide) (by decide), a3 25 (by decide) (by decide), a2 25 (by decide) (by decide), a1 25 (by decide) (by decide)]; exact v7) (fun t7 a7 b7 c7 => ?_)
    refine k_Row_add2 (n := n) (v := 0) 27 (t := t7) q_row_27 n0 hn (by rw [a7 27 (by decide) (by decide), a6 27 (by decide) (by decide), a5 27 (by decide) (by decide), a4 27 (by decide) (by decide), a3 27 (by decide) (by decide), a2 27 (by decide) (by decide), a1 27 (by decide) (by decide)]; exact v8) (fun t8 a8 b8 c8 => ?_)
    have d13 : t8 13 1 = n + 1 := by rw [a8 13 (by decide) (by decide), a7 13 (by decide) (by decide), a6 13 (by decide) (by decide), a5 13 (by decide) (by decide), a4 13 (by decide) (by decide), a3 13 (by decide) (by decide), a2 13 (by decide) (by decide)]; exact b1
    have d15 : t8 15 1 = n + 1 := by rw [a8 15 (by decide) (by decide), a7 15 (by decide) (by decide), a6 15 (by decide) (by decide), a5 15 (by decide) (by decide), a4 15 (by decide) (by decide), a3 15 (by decide) (by decide)]; exact b2
    have d17 : t8 17 1 = n + 1 := by rw [a8 17 (by decide) (by decide), a7 17 (by decide) (by decide), a6 17 (by decide) (by decide), a5 17 (by decide) (by decide), a4 17 (by decide) (by decide)]; exact b3
    have d19 : t8 19 1 = n + 1 := by rw [a8 19 (by decide) (by decide), a7 19 (by decide) (by decide), a6 19 (by decide) (by decide), a5 19 (by decide) (by decide)]; exact b4
    have d21 : t8 21 1 = n + 1 := by rw [a8 21 (by decide) (by decide), a7 21 (by decide) (by decide), a6 21 (by decide) (by decide)]; exact b5
    have d23 : t8 23 1 = n + 1 := by rw [a8 23 (by decide) (by decide), a7 23 (by decide) (by decide)]; exact b6
    have d25 : t8 25 1 = n + 1 := by rw [a8 25 (by decide) (by decide)]; exact b7
    have e14 : t8 14 = q_u (s 14) n κ := by rw [a8 14 (by decide) (by decide), a7 14 (by decide) (by decide), a6 14 (by decide) (by decide), a5 14 (by decide) (by decide), a4 14 (by decide) (by decide), a3 14 (by decide) (by decide), a2 14 (by decide) (by decide), c1, w1 14 (by decide)]
    have e16 : t8 16 = q_u (s 16) n p := by rw [a8 16 (by decide) (by decide), a7 16 (by decide) (by decide), a6 16 (by decide) (by decide), a5 16 (by decide) (by decide), a4 16 (by decide) (by decide), a3 16 (by decide) (by decide), c2, a1 16 (by decide) (by decide), w1 16 (by decide)]
    have e18 : t8 18 = q_u (s 18) n (-1) := by rw [a8 18 (by decide) (by decide), a7 18 (by decide) (by decide), a6 18 (by decide) (by decide), a5 18 (by decide) (by decide), a4 18 (by decide) (by decide), c3, a2 18 (by decide) (by decide), a1 18 (by decide) (by decide), w1 18 (by decide)]
    have e20 : t8 20 = q_u (s 20) n 0 := by rw [a8 20 (by decide) (by decide), a7 20 (by decide) (by decide), a6 20 (by decide) (by decide), a5 20 (by decide) (by decide), c4, a3 20 (by decide) (by decide), a2 20 (by decide) (by decide), a1 20 (by decide) (by decide), w1 20 (by decide)]
    have e22 : t8 22 = q_u y n 0 := by rw [a8 22 (by decide) (by decide), a7 22 (by decide) (by decide), a6 22 (by decide) (by decide), c5, a4 22 (by decide) (by decide), a3 22 (by decide) (by decide), a2 22 (by decide) (by decide), a1 22 (by decide) (by decide), w2]
    have e24 : t8 24 = q_u (s 24) n (-1) := by rw [a8 24 (by decide) (by decide), a7 24 (by decide) (by decide), c6, a5 24 (by decide) (by decide), a4 24 (by decide) (by decide), a3 24 (by decide) (by decide), a2 24 (by decide) (by decide), a1 24 (by decide) (by decide), w1 24 (by decide)]
    have e26 : t8 26 = q_u (s 26) n (-1) := by rw [a8 26 (by decide) (by decide), c7, a6 26 (by decide) (by decide), a5 26 (by decide) (by decide), a4 26 (by decide) (by decide), a3 26 (by decide) (by decide), a2 26 (by decide) (by decide), a1 26 (by decide) (by decide), w1 26 (by decide)]
    have e28 : t8 28 = q_u (s 28) n 0 := by rw [c8, a7 28 (by decide) (by decide), a6 28 (by decide) (by decide), a5 28 (by decide) (by decide), a4 28 (by decide) (by decide), a3 28 (by decide) (by decide), a2 28 (by decide) (by decide), a1 28 (by decide) (by decide), w1 28 (by decide)]
    have far : ∀ q r : Nat, q < 13 ∨ 28 < q → 13 ≤ r → r ≤ 28 → q ≠ r := fun q r hq h1 h2 => by clear hy hp hp3 h w1; omega
    have ef : ∀ q, q < 13 ∨ 28 < q → t8 q = s q := fun q hq => by rw [a8 q (far q _ hq (by decide) (by decide)) (far q _ hq (by decide) (by decide)), a7 q (far q _ hq (by decide) (by decide)) (far q _ hq (by decide) (by decide)), a6 q (far q _ hq (by decide) (by decide)) (far q _ hq (by decide) (by decide)), a5 q (far q _ hq (by decide) (by decide)) (far q _ hq (by decide) (by decide)), a4 q (far q _ hq (by decide) (by decide)) (far q _ hq (by decide) (by decide)), a3 q (far q _ hq (by decide) (by decide)) (far q _ hq (by decide) (by decide)), a2 q (far q _ hq (by decide) (by decide)) (far q _ hq (by decide) (by decide)), a1 q (far q _ hq (by decide) (by decide)) (far q _ hq (by decide) (by decide)), w1 q (far q _ hq (by decide) (by decide))]
    have f22 : ∀ q, 28 < q ∨ q < 13 → q ≠ 18 ∧ q ≠ 20 := fun q hq => by clear hy hp hp3 h w1; omega
    rcases hp with hp | ⟨p0, pn⟩
    · have np : ¬ (0 ≤ p) := by rw [hp]; decide
      refine k_Row_set q_row_19 (by rw [d19]; exact hn) (fun z _ => absurd z np) (fun _ => ?_)
      refine k_Row_set q_row_17 (by rw [d17]; exact hn) (fun z _ => absurd z np) (fun _ => ?_)
      exact h t8 y ef ⟨d13, d15, d17, d19, d21, d23, d25, b8⟩ e14 e16 (fun z => absurd z np) (fun _ => e18) (fun z => absurd z np) (fun _ => e20) e22 e24 e26 e28 hy
    · have pn1 : p < n + 1 := Int.lt_trans pn (Int.lt_succ n)
      have np : p ≠ -1 := fun z => by rw [z] at p0; exact absurd p0 (by decide)
      refine k_Row_set q_row_19 (by rw [d19]; exact hn) (fun _ _ => ?_) (fun z => absurd ⟨p0, by rw [d19]; exact pn1⟩ z)
      refine k_Row_set q_row_17 (by rw [q_up_ne (by decide), d17]; exact hn) (fun _ p1' => ?_) (fun z => absurd ⟨p0, by rw [q_up_ne (by decide), d17]; exact pn1⟩ z)
      generalize eu : q_up (q_up t8 (19 + 1) p 1) (17 + 1) p n = u
      have u1 : ∀ q, q ≠ 18 → q ≠ 20 → u q = t8 q := fun q a b => by rw [← eu, q_up_ne a, q_up_ne b]
      refine h u y (fun q hq => by rw [u1 q (f22 q hq.symm).1 (f22 q hq.symm).2]; exact ef q hq) ⟨by rw [u1 13 (by decide) (by decide)]; exact d13, by rw [u1 15 (by decide) (by decide)]; exact d15, by rw [u1 17 (by decide) (by decide)]; exact d17, by rw [u1 19 (by decide) (by decide)]; exact d19, by rw [u1 21 (by decide) (by decide)]; exact d21, by rw [u1 23 (by decide) (by decide)]; exact d23, by rw [u1 25 (by decide) (by decide)]; exact d25, by rw [u1 27 (by decide) (by decide)]; exact b8⟩
        (by rw [u1 14 (by decide) (by decide)]; exact e14) (by rw [u1 16 (by decide) (by decide)]; exact e16) (fun _ => by rw [← eu, q_up_fn, q_up_ne (by decide), e18]) (fun z => absurd z np) (fun _ => by rw [← eu, q_up_ne (by decide), q_up_fn, e20]) (fun z => absurd z np) (by rw [u1 22 (by decide) (by decide)]; exact e22) (by rw [u1 24 (by decide) (by decide)]; exact e24) (by rw [u1 26 (by decide) (by decide)]; exact e26) (by rw [u1 28 (by decide) (by decide)]; exact e28) hy
  have same : ¬ (0 ≤ p ∧ ib ≠ 0 ∧ s 20 p = 1 ∧ s 14 (if s 14 p = 3 then s 16 p else p) = 2) → L_Blocks_add_65 X κ p s K := fun z => tail s (s 22) (fun _ _ => rfl) rfl (Or.inr ⟨z, rfl⟩)
  have z13 : ∀ x, 0 ≤ x → x < n → zT s 13 x = s 14 x := fun x a c => zT_in a (by omega)
  refine sg_Blocks_add (k_Row_at q_row_13 (by omega) ?_)
  rcases hp with hp | ⟨p0, pn⟩
  · rw [zT_out (by omega)]
    have hs := same (fun z => by omega)
    refine z_t (by decide) (z_c (fun _ => hs) (fun _ => k_Row_at q_row_19 (by omega) ?_))
    rw [zT_out (by omega)]
    exact z_t (by decide) hs
  · rw [z13 p p0 pn]
    have z19 : zT s 19 p = s 20 p := zT_in p0 (by omega)
    have fillIt : ∀ l, l = (if s 14 p = 3 then s 16 p else p) → 0 ≤ l → l < n → (ib = 0 → L_Blocks_add_65 X κ p s K) ∧ (¬ ib = 0 → c_Row_at X 19 p s (fun r4 s3 => (r4 ≠ 1 → L_Blocks_add_65 X κ p s3 K) ∧ (¬ r4 ≠ 1 → c_Row_at X 13 l s3 (fun r6 s5 => (r6 ≠ 2 → L_Blocks_add_65 X κ p s5 K) ∧ (¬ r6 ≠ 2 → c_Row_set X 21 l 1 s5 (fun s7 => L_Blocks_add_65 X κ p s7 K)))))) := by
      intro l el l0 ln
      refine z_c (fun e => same (fun z => z.2.1 e)) (fun e => k_Row_at q_row_19 (by omega) ?_)
      rw [z19]
      refine z_c (fun e2 => same (fun z => e2 z.2.2.1)) (fun e2 => k_Row_at q_row_13 (by omega) ?_)
      rw [z13 l l0 ln]
      refine z_c (fun e3 => same (fun z => e3 (by rw [el]; exact z.2.2.2))) (fun e3 => k_Row_set q_row_21 (by omega) (fun _ _ => ?_) (fun z => absurd ⟨l0, by omega⟩ z))
      exact tail _ (q_u (s 22) l 1) (fun q hq => q_up_ne hq) q_up_fn (Or.inl ⟨p0, e, Decidable.not_not.mp e2, by rw [← el]; exact Decidable.not_not.mp e3, by rw [← el]⟩)
    refine z_c (fun e => ?_) (fun e => k_Row_at q_row_15 (by omega) ?_)
    · exact fillIt p (by rw [if_neg e]) p0 pn
    · have e := Decidable.not_not.mp e
      rw [zT_in p0 (by omega)]
      have h3 := hp3 p0 e
      exact fillIt (s 16 p) (by rw [if_pos e]) h3.1 h3.2
end Puts
