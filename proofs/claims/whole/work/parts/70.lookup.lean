/-! What a name means. -/
def zWr (a b : qM) (m : Int) : Prop := (0 ≤ m ∧ m ≤ 240) ∧ (a 45 1 = m ∧ b 113 28 = m) ∧ (∀ i, 0 ≤ i → i < m → a 46 i = b 138 i ∧ zChr (b 138 i))
theorem zWr.mk {a b : qM} {m : Int} (m0 : 0 ≤ m ∧ m ≤ 240) (sz : a 45 1 = m ∧ b 113 28 = m) (ch : ∀ i, 0 ≤ i → i < m → a 46 i = b 138 i ∧ zChr (b 138 i)) : zWr a b m := ⟨m0, sz, ch⟩
theorem zWr.m0 {a b : qM} {m : Int} (h : zWr a b m) : 0 ≤ m ∧ m ≤ 240 := h.1
theorem zWr.sz {a b : qM} {m : Int} (h : zWr a b m) : a 45 1 = m ∧ b 113 28 = m := h.2.1
theorem zWr.ch {a b : qM} {m : Int} (h : zWr a b m) : ∀ i, 0 ≤ i → i < m → a 46 i = b 138 i ∧ zChr (b 138 i) := h.2.2
/-- the written character at a place, or -1 -/
def zI (b : qM) (m i : Int) : Int := if 0 ≤ i ∧ i < m then b 138 i else -1
def zGd (l : List Int) : Prop := 1 ≤ l.length ∧ l.length ≤ 6 ∧ ∀ x, x ∈ l → zLet x
def zNmd (b : qM) (k : Int) (l : List Int) : Prop := ∀ j : Nat, j < 6 → b 130 (6 * k + j) = l.getD j 0
/-- the sign of the block τ in the class -/
def zLk (a b : qM) (σ τ : Int) : Prop := (b 117 τ = 7 ∧ ∃ i, 0 ≤ i ∧ i < a 37 1 ∧ a 38 i = τ ∧ σ = 300 + i) ∨ (b 117 τ = 4 ∧ ∃ i, 0 ≤ i ∧ i < a 41 1 ∧ a 42 i = τ ∧ σ = 400 + i)
section Lookup
variable {X : Nat × (Nat → Int32)} {a b s : qM} {K : Int → qM → Prop} {KV : qM → Prop} {n m : Int}
theorem zWr.zt (H : zWr a b m) {i : Int} : zT a 45 i = zI b m i := by
  have hs := H.sz
  unfold zI
  by_cases h : 0 ≤ i ∧ i < m
  · rw [if_pos h, zT_in h.1 (by omega)]; exact (H.ch i h.1 h.2).1
  · rw [if_neg h, zT_out (by omega)]
theorem k_m_in {x : Int} (hs : s 113 28 = m) (m0 : 0 ≤ m) (m2 : m ≤ 240) (h : K (zI s m x) s) : c_m_in X x s K := by
  refine sg_m_in ?_
  rw [hs]
  refine ⟨by omega, k_m_isIn (fun a b => z_f (by decide) ⟨a, by omega, ?_⟩) (fun a => z_t rfl ?_)⟩
  · unfold zI at h; rw [if_pos (by omega)] at h; exact h
  · unfold zI at h; rw [if_neg (by omega)] at h; exact h
theorem zCode_inj : ∀ (k : Nat) (l l' : List Int), l.length = k → (∀ x, x ∈ l → zLet x) → (∀ x, x ∈ l' → zLet x) → zCode l = zCode l' → l = l' := by
  intro k
  induction k with
  | zero =>
    intro l l' hl _ h' e
    have : l = [] := List.eq_nil_of_length_eq_zero hl
    rw [this] at e ⊢
    cases l' with
    | nil => rfl
    | cons y r => have := zCode_pos (l := y :: r) (by simp) h'; rw [← e] at this; exact absurd this (by decide)
  | succ k ih =>
    intro l l' hl h h' e
    rcases List.eq_nil_or_concat l with hn | ⟨xs, x, hx⟩
    · rw [hn] at hl; simp at hl
    · have hx : l = xs ++ [x] := by rw [hx]; simp
      rcases List.eq_nil_or_concat l' with hn | ⟨ys, y, hy⟩
      · have := zCode_pos (l := l) (by omega) h
        rw [e, hn] at this; exact absurd this (by decide)
      · have hy : l' = ys ++ [y] := by rw [hy]; simp
        rw [hx, hy, zCode_snoc, zCode_snoc] at e
        have a1 := h x (by rw [hx]; simp)
        have a2 := h' y (by rw [hy]; simp)
        unfold zLet at a1 a2
        have e1 : x = y := by omega
        have e2 : zCode xs = zCode ys := by omega
        have := ih xs ys (by rw [hx] at hl; simp at hl; exact hl) (fun z hz => h z (by rw [hx]; simp [hz])) (fun z hz => h' z (by rw [hy]; simp [hz])) e2
        rw [hx, hy, this, e1]
theorem getD_in {l : List Int} {j : Nat} (h : j < l.length) : l.getD j 0 ∈ l := by
  rw [List.getD_eq_getElem?_getD, List.getElem?_eq_getElem h]; exact List.getElem_mem h
theorem zGd_ext {l l' : List Int} (h : zGd l) (h' : zGd l') (e : ∀ j : Nat, j < 6 → l.getD j 0 = l'.getD j 0) : l = l' := by
  have hl : l.length = l'.length := by
    rcases Nat.lt_trichotomy l.length l'.length with x | x | x
    · have := e l.length (by have := h'.2.1; omega)
      rw [getD_out (Nat.le_refl _)] at this
      have hm := h'.2.2 _ (getD_in x)
      rw [← this] at hm; unfold zLet at hm; omega
    · exact x
    · have := e l'.length (by have := h.2.1; omega)
      rw [getD_out (Nat.le_refl l'.length)] at this
      have hm := h.2.2 _ (getD_in x)
      rw [this] at hm; unfold zLet at hm; omega
  refine List.ext_getElem hl (fun i h1 h2 => ?_)
  have := e i (by have := h.2.1; omega)
  rw [List.getD_eq_getElem?_getD, List.getD_eq_getElem?_getD, List.getElem?_eq_getElem h1, List.getElem?_eq_getElem h2] at this
  exact this
/-- a code is that of a block's name if and only if the name is the block's -/
theorem zNm.same {κ : Int} {r cc : Nat} (M : zNm a b n κ r cc) {l : List Int} (hl : zGd l) {i : Int} (i0 : 0 ≤ i) (hi : i < a r 1) : a cc i = zCode l ↔ zNmd b (a (r + 1) i) l := by
  obtain ⟨_, _, _, l', g, e, nm⟩ := M.ls i i0 hi
  constructor
  · intro h
    have : l' = l := zCode_inj l'.length l' l rfl g.2.2 hl.2.2 (by rw [← e, h])
    rw [← this]; exact nm
  · intro h
    have : l' = l := zGd_ext g hl (fun j hj => by rw [← nm j hj]; exact h j hj)
    rw [e, this]
theorem q_lcmp_0 {x y : Int} : q_lcmp x y = 0 ↔ x = y := by
  unfold q_lcmp
  by_cases h : x > y
  · rw [if_pos h]; omega
  · rw [if_neg h]
    by_cases e : x = y
    · rw [if_pos e]; exact ⟨fun _ => e, fun _ => rfl⟩
    · rw [if_neg e]; omega
theorem k_Names_find {th r cc : Nat} {x : Int} (hth : q_isNames th cc r) (h0 : 0 ≤ s r 1) (h241 : s r 1 ≤ 241) (hn : (∀ i, 0 ≤ i → i < s r 1 → s cc i ≠ x) → K (-1) s) (hy : ∀ i, 0 ≤ i → i < s r 1 → s cc i = x → (∀ j, 0 ≤ j → j < i → s cc j ≠ x) → K i s) : c_Names_find X th x s K := by
  refine sg_Names_find hth ?_
  have L : ∀ (m : Nat) (i : Int), s r 1 - i = m → 0 ≤ i → (∀ j, 0 ≤ j → j < i → s cc j ≠ x) → L_Names_find_2 X th x i s K := by
    intro m
    induction m with
    | zero => intro i hi i0 hj; exact sg_Names_find_2 hth (k_Row_size hth.named (z_t (by omega) (hn (fun j a b => hj j a (by omega)))))
    | succ m ih =>
      intro i hi i0 hj
      refine sg_Names_find_2 hth (k_Row_size hth.named (z_f (by omega) (z_f (by omega) ⟨i0, by omega, z_c (fun e => ⟨by omega, ih (i + 1) (by omega) (by omega) (fun j a b => ?_)⟩) (fun e => ?_)⟩)))
      · by_cases y : j = i
        · rw [y]; exact fun z => e (q_lcmp_0.mpr z)
        · exact hj j a (by omega)
      · exact hy i i0 (by omega) (q_lcmp_0.mp (Decidable.not_not.mp e)) hj
  exact L (s r 1).toNat 0 (by omega) (Int.le_refl 0) (fun j a b => by omega)
theorem k_m_isSameName {k f t : Int} {l : List Int} (k0 : 0 ≤ k) (kn : k < 600) (f0 : 0 ≤ f) (hf : f ≤ t) (ht : t ≤ m) (hs : b 113 28 = m) (m0 : 0 ≤ m) (m2 : m ≤ 240) (hl : ∀ j : Nat, j < 6 → l.getD j 0 = if f + j < t then b 138 (f + j) else 0) (h1 : zNmd b k l → K 1 b) (h0 : ¬ zNmd b k l → K 0 b) : c_m_isSameName X k f t b K := by
  refine sg_m_isSameName ?_
  have L : ∀ (c : Nat) (v5 v4 : Int), v5 + c = 6 → 0 ≤ v5 → ((v4 = 1 ∧ ∀ j : Nat, (j : Int) < v5 → b 130 (6 * k + j) = l.getD j 0) ∨ (v4 = 0 ∧ ¬ zNmd b k l)) → L_m_isSameName_6 X k f t v4 v5 b K := by
    intro c
    induction c with
    | zero =>
      intro v5 v4 hv v0 hi
      refine sg_m_isSameName_6 (z_t (by omega) ?_)
      rcases hi with ⟨e, hi⟩ | ⟨e, hi⟩
      · rw [e]; exact ⟨by decide, h1 (fun j hj => hi j (by omega))⟩
      · rw [e]; exact ⟨by decide, h0 hi⟩
    | succ c ih =>
      intro v5 v4 hv v0 hi
      refine sg_m_isSameName_6 (z_f (by omega) ?_)
      rcases hi with ⟨e, hi⟩ | ⟨e, hi⟩
      · rw [e]
        have hj := hl v5.toNat (by omega)
        rw [show ((v5.toNat : Nat) : Int) = v5 by omega] at hj
        have yes : b 130 (6 * k + v5) = l.getD v5.toNat 0 → L_m_isSameName_6 X k f t 1 (v5 + 1) b K := fun y => ih (v5 + 1) 1 (by omega) (by omega) (Or.inl ⟨rfl, fun j hj2 => by
          by_cases z : (j : Int) = v5
          · rw [z, y, show v5.toNat = j by omega]
          · exact hi j (by omega)⟩)
        have no : b 130 (6 * k + v5) ≠ l.getD v5.toNat 0 → L_m_isSameName_6 X k f t 0 (v5 + 1) b K := fun y => ih (v5 + 1) 0 (by omega) (by omega) (Or.inr ⟨rfl, fun z => y (by
          have := z v5.toNat (by omega)
          rw [show ((v5.toNat : Nat) : Int) = v5 by omega] at this
          exact this)⟩)
        refine z_f (by decide) ⟨by omega, by omega, by omega, by omega, by omega, z_c (fun lt => ?_) (fun lt => ⟨by omega, k_m_in hs m0 m2 ?_⟩)⟩
        · rw [if_neg (by omega)] at hj
          exact z_c (fun y => ⟨by omega, no (by rw [hj]; exact y)⟩) (fun y => ⟨by omega, yes (by rw [hj]; exact Decidable.not_not.mp y)⟩)
        · rw [if_pos (by omega)] at hj
          have ei : zI b m (f + v5) = b 138 (f + v5) := by unfold zI; rw [if_pos (by omega)]
          rw [ei]
          exact z_c (fun y => ⟨by omega, no (by rw [hj]; exact y)⟩) (fun y => ⟨by omega, yes (by rw [hj]; exact Decidable.not_not.mp y)⟩)
      · rw [e]
        exact z_t rfl ⟨by omega, ih (v5 + 1) 0 (by omega) (by omega) (Or.inr ⟨rfl, hi⟩)⟩
  exact L 6 0 1 (by omega) (by omega) (Or.inl ⟨rfl, fun j hj => by omega⟩)
/-- the least block of a kind with a name -/
def zFst (b : qM) (n κ : Int) (l : List Int) (k : Int) : Prop := 0 ≤ k ∧ k < n ∧ (b 117 k = κ ∧ zNmd b k l) ∧ ∀ j, 0 ≤ j → j < k → ¬ (b 117 j = κ ∧ zNmd b j l)
def zNon (b : qM) (n κ : Int) (l : List Int) : Prop := ∀ j, 0 ≤ j → j < n → ¬ (b 117 j = κ ∧ zNmd b j l)
theorem k_m_meant {f t : Int} (hn : b 113 4 = n) (n1 : 1 ≤ n) (n6 : n ≤ 482) (f0 : 0 ≤ f) (hf : f ≤ t) (ht : t ≤ m) (hs : b 113 28 = m) (m0 : 0 ≤ m) (m2 : m ≤ 240)
    (bad : ¬ (1 ≤ t - f ∧ t - f ≤ 6 ∧ ∀ i, f ≤ i → i < t → zLet (b 138 i)) → K (-1) b)
    (good : 1 ≤ t - f → t - f ≤ 6 → (∀ i, f ≤ i → i < t → zLet (b 138 i)) → ∀ τ, (zFst b n 7 (zLt (b 138) f (t - f).toNat) τ ∨ (zNon b n 7 (zLt (b 138) f (t - f).toNat) ∧ zFst b n 4 (zLt (b 138) f (t - f).toNat) τ) ∨ (zNon b n 7 (zLt (b 138) f (t - f).toNat) ∧ zNon b n 4 (zLt (b 138) f (t - f).toNat) ∧ τ = -1)) → K τ b) : c_m_meant X f t b K := by
  have fin0 : ¬ (1 ≤ t - f ∧ t - f ≤ 6 ∧ ∀ i, f ≤ i → i < t → zLet (b 138 i)) → L_m_meant_58 X f t 0 (-1) (n - 1) b K := by
    intro h
    refine sg_m_meant_58 (z_f (by omega) (z_t rfl ⟨by omega, ?_⟩))
    rw [hn]
    exact sg_m_meant_112 (z_f (by omega) (z_t rfl (bad h)))
  have fin1 : 1 ≤ t - f → t - f ≤ 6 → (∀ i, f ≤ i → i < t → zLet (b 138 i)) → L_m_meant_58 X f t 1 (-1) (n - 1) b K := by
    intro l1 l6 hlet
    have hg := good l1 l6 hlet
    have len := zLt_all (t := b 138) (t - f).toNat f (fun i u w => hlet i u (by omega))
    have gd : ∀ (c : Nat) (p : Int), (∀ i, p ≤ i → i < p + c → zLet (b 138 i)) → ∀ j : Nat, (zLt (b 138) p c).getD j 0 = if (j : Int) < c then b 138 (p + j) else 0 := by
      intro c
      induction c with
      | zero => intro p _ j; rw [if_neg (by omega)]; exact getD_out (by simp [zLt])
      | succ c ih =>
        intro p hp j
        have e : zLt (b 138) p (c + 1) = b 138 p :: zLt (b 138) (p + 1) c := by
          show (if zLet (b 138 p) then b 138 p :: zLt (b 138) (p + 1) c else zLt (b 138) (p + 1) c) = _
          rw [if_pos (hp p (Int.le_refl p) (by omega))]
        rw [e]
        cases j with
        | zero => rw [if_pos (by omega)]; show b 138 p = b 138 (p + 0); rw [show p + 0 = p by omega]
        | succ j =>
          show (zLt (b 138) (p + 1) c).getD j 0 = _
          rw [ih (p + 1) (fun i u w => hp i (by omega) (by omega)) j]
          by_cases z : (j : Int) < c
          · rw [if_pos z, if_pos (by omega)]; congr 1; omega
          · rw [if_neg z, if_neg (by omega)]
    have hl : ∀ j : Nat, j < 6 → (zLt (b 138) f (t - f).toNat).getD j 0 = if f + j < t then b 138 (f + j) else 0 := by
      intro j _
      rw [gd (t - f).toNat f (fun i u w => hlet i u (by omega)) j]
      by_cases z : f + (j : Int) < t
      · rw [if_pos z, if_pos (by omega)]
      · rw [if_neg z, if_neg (by omega)]
    generalize zLt (b 138) f (t - f).toNat = l at *
    have L112 : ∀ (c : Nat) (v5 v4 h4 : Int), v5 = c - 1 → v5 < n → ((zNon b n 4 l ∧ h4 = -1) ∨ zFst b n 4 l h4) → ((v4 = h4 ∧ ∀ k, v5 < k → k < n → ¬ (b 117 k = 7 ∧ zNmd b k l)) ∨ (v5 < v4 ∧ v4 < n ∧ (b 117 v4 = 7 ∧ zNmd b v4 l) ∧ ∀ k, v5 < k → k < v4 → ¬ (b 117 k = 7 ∧ zNmd b k l))) → L_m_meant_112 X f t 1 v4 v5 b K := by
      intro c
      induction c with
      | zero =>
        intro v5 v4 h4 hv hvn H4 hi
        refine sg_m_meant_112 (z_t (by omega) (hg v4 ?_))
        rcases hi with ⟨e, hi⟩ | ⟨e1, e2, e3, hi⟩
        · have nn : zNon b n 7 l := fun j u w => hi j (by omega) w
          rcases H4 with ⟨x, y⟩ | x
          · exact Or.inr (Or.inr ⟨nn, x, by omega⟩)
          · rw [e]; exact Or.inr (Or.inl ⟨nn, x⟩)
        · exact Or.inl ⟨by omega, e2, e3, fun j u w => hi j (by omega) w⟩
      | succ c ih =>
        intro v5 v4 h4 hv hvn H4 hi
        have step : ∀ (w : Int), ((w = h4 ∧ ∀ k, v5 - 1 < k → k < n → ¬ (b 117 k = 7 ∧ zNmd b k l)) ∨ (v5 - 1 < w ∧ w < n ∧ (b 117 w = 7 ∧ zNmd b w l) ∧ ∀ k, v5 - 1 < k → k < w → ¬ (b 117 k = 7 ∧ zNmd b k l))) → (-2147483648 ≤ (v5 + (-1)) ∧ (v5 + (-1)) < 2147483648) ∧ L_m_meant_112 X f t 1 w (v5 + (-1)) b K := fun w hw => ⟨by omega, ih (v5 + (-1)) w h4 (by omega) (by omega) H4 hw⟩
        have keep : ¬ (b 117 v5 = 7 ∧ zNmd b v5 l) → (-2147483648 ≤ (v5 + (-1)) ∧ (v5 + (-1)) < 2147483648) ∧ L_m_meant_112 X f t 1 v4 (v5 + (-1)) b K := by
          intro hne
          refine step v4 ?_
          rcases hi with ⟨e, hi⟩ | ⟨e1, e2, e3, hi⟩
          · refine Or.inl ⟨e, fun k u w => ?_⟩
            by_cases z : k = v5
            · rw [z]; exact hne
            · exact hi k (by omega) w
          · refine Or.inr ⟨by omega, e2, e3, fun k u w => ?_⟩
            by_cases z : k = v5
            · rw [z]; exact hne
            · exact hi k (by omega) w
        refine sg_m_meant_112 (z_f (by omega) (z_f (by decide) ⟨by omega, by omega, z_c (fun n7 => keep (fun x => n7 x.1)) (fun y7 => k_m_isSameName (m := m) (l := l) (by omega) (by omega) f0 hf ht hs m0 m2 hl (fun y => z_t (by decide) ?_) (fun y => z_f (fun z => z rfl) ?_))⟩))
        · refine step v5 (Or.inr ⟨by omega, hvn, ⟨Decidable.not_not.mp y7, y⟩, fun k u w => by omega⟩)
        · have k1 := keep (fun x => y x.2)
          have hr : v4 = -1 ∨ (0 ≤ v4 ∧ v4 < n) := by
            rcases hi with ⟨e, _⟩ | ⟨e1, e2, _⟩
            · rcases H4 with ⟨_, z⟩ | z
              · left; omega
              · right; rw [e]; exact ⟨z.1, z.2.1⟩
            · right; omega
          exact z_c (fun _ => k1) (fun z => ⟨by omega, by omega, z_c (fun _ => k1) (fun _ => k1)⟩)
    have L58 : ∀ (c : Nat) (v5 v4 : Int), v5 = c - 1 → v5 < n → ((v4 = -1 ∧ ∀ k, v5 < k → k < n → ¬ (b 117 k = 4 ∧ zNmd b k l)) ∨ (v5 < v4 ∧ v4 < n ∧ (b 117 v4 = 4 ∧ zNmd b v4 l) ∧ ∀ k, v5 < k → k < v4 → ¬ (b 117 k = 4 ∧ zNmd b k l))) → L_m_meant_58 X f t 1 v4 v5 b K := by
      intro c
      induction c with
      | zero =>
        intro v5 v4 hv hvn hi
        refine sg_m_meant_58 (z_t (by omega) ⟨by omega, ?_⟩)
        rw [hn]
        refine L112 n.toNat (n - 1) v4 v4 (by omega) (by omega) ?_ (Or.inl ⟨rfl, fun k u w => by omega⟩)
        rcases hi with ⟨e, hi⟩ | ⟨e1, e2, e3, hi⟩
        · exact Or.inl ⟨fun j u w => hi j (by omega) w, e⟩
        · exact Or.inr ⟨by omega, e2, e3, fun j u w => hi j (by omega) w⟩
      | succ c ih =>
        intro v5 v4 hv hvn hi
        have keep : ¬ (b 117 v5 = 4 ∧ zNmd b v5 l) → (-2147483648 ≤ (v5 + (-1)) ∧ (v5 + (-1)) < 2147483648) ∧ L_m_meant_58 X f t 1 v4 (v5 + (-1)) b K := by
          intro hne
          refine ⟨by omega, ih (v5 + (-1)) v4 (by omega) (by omega) ?_⟩
          rcases hi with ⟨e, hi⟩ | ⟨e1, e2, e3, hi⟩
          · refine Or.inl ⟨e, fun k u w => ?_⟩
            by_cases z : k = v5
            · rw [z]; exact hne
            · exact hi k (by omega) w
          · refine Or.inr ⟨by omega, e2, e3, fun k u w => ?_⟩
            by_cases z : k = v5
            · rw [z]; exact hne
            · exact hi k (by omega) w
        refine sg_m_meant_58 (z_f (by omega) (z_f (by decide) ⟨by omega, by omega, z_c (fun n4 => keep (fun x => n4 x.1)) (fun y4 => k_m_isSameName (m := m) (l := l) (by omega) (by omega) f0 hf ht hs m0 m2 hl (fun y => z_f (by decide) ?_) (fun y => z_t rfl (keep (fun x => y x.2))))⟩))
        exact ⟨by omega, ih (v5 + (-1)) v5 (by omega) (by omega) (Or.inr ⟨by omega, hvn, ⟨Decidable.not_not.mp y4, y⟩, fun k u w => by omega⟩)⟩
    exact L58 n.toNat (n - 1) (-1) (by omega) (by omega) (Or.inl ⟨rfl, fun k u w => by omega⟩)
  have L13 : ∀ (c : Nat) (p v3 : Int), p + c = t → f ≤ p → ((v3 = 1 ∧ 1 ≤ t - f ∧ t - f ≤ 6 ∧ ∀ i, f ≤ i → i < p → zLet (b 138 i)) ∨ (v3 = 0 ∧ ¬ (1 ≤ t - f ∧ t - f ≤ 6 ∧ ∀ i, f ≤ i → i < t → zLet (b 138 i)))) → L_m_meant_13 X f t v3 p b K := by
    intro c
    induction c with
    | zero =>
      intro p v3 hp hfp hi
      refine sg_m_meant_13 (z_t (by omega) ⟨by omega, ?_⟩)
      rw [hn]
      rcases hi with ⟨e, x, y, z⟩ | ⟨e, x⟩
      · rw [e]; exact fin1 x y (fun i u w => z i u (by omega))
      · rw [e]; exact fin0 x
    | succ c ih =>
      intro p v3 hp hfp hi
      refine sg_m_meant_13 (z_f (by omega) ?_)
      rcases hi with ⟨e, x, y, z⟩ | ⟨e, x⟩
      · rw [e]
        refine z_f (by decide) (k_m_in hs m0 m2 ?_)
        have ei : zI b m p = b 138 p := by unfold zI; rw [if_pos (by omega)]
        rw [ei]
        refine k_m_isLetter (fun w => z_f (by decide) ⟨by omega, ih (p + 1) 1 (by omega) (by omega) (Or.inl ⟨rfl, x, y, fun i u v => ?_⟩)⟩) (fun w => z_t rfl ⟨by omega, ih (p + 1) 0 (by omega) (by omega) (Or.inr ⟨rfl, fun q => w (q.2.2 p hfp (by omega))⟩)⟩)
        by_cases q : i = p
        · rw [q]; exact w
        · exact z i u (by omega)
      · rw [e]
        exact z_t rfl ⟨by omega, ih (p + 1) 0 (by omega) (by omega) (Or.inr ⟨rfl, x⟩)⟩
  refine sg_m_meant ⟨by omega, k_m_isIn (fun u w => L13 (t - f).toNat f 1 (by omega) (Int.le_refl f) (Or.inl ⟨rfl, u, w, fun i x y => by omega⟩)) (fun u => L13 (t - f).toNat f 0 (by omega) (Int.le_refl f) (Or.inr ⟨rfl, fun x => u ⟨x.1, x.2.1⟩⟩))⟩
/-- the class finds the same -/
theorem k_Blocks_linkSign {l : List Int} (hl : zGd l) (nd : zNm a b n 7 37 36) (nh : zNm a b n 4 41 40) (d1 : a 37 1 ≤ 241) (h1 : a 41 1 ≤ 241)
    (h : ∀ σ τ, ((zFst b n 7 l τ ∨ (zNon b n 7 l ∧ zFst b n 4 l τ)) ∧ σ ≠ -1 ∧ zLk a b σ τ) ∨ (zNon b n 7 l ∧ zNon b n 4 l ∧ σ = -1 ∧ τ = -1) → K σ a) : c_Blocks_linkSign X (zCode l) a K := by
  -- what a search tells of the model's blocks
  have non : ∀ {κ : Int} {r cc : Nat}, zNm a b n κ r cc → (∀ i, 0 ≤ i → i < a r 1 → a cc i ≠ zCode l) → zNon b n κ l := by
    intro κ r cc M hn j j0 jn ⟨kj, nj⟩
    obtain ⟨i, i0, hi, e⟩ := M.al j j0 jn kj
    exact hn i i0 hi ((M.same hl i0 hi).mpr (by rw [e]; exact nj))
  have fst : ∀ {κ : Int} {r cc : Nat}, zNm a b n κ r cc → ∀ i, 0 ≤ i → i < a r 1 → a cc i = zCode l → (∀ j, 0 ≤ j → j < i → a cc j ≠ zCode l) → zFst b n κ l (a (r + 1) i) := by
    intro κ r cc M i i0 hi e hj
    obtain ⟨x1, x2, x3, _⟩ := M.ls i i0 hi
    refine ⟨x1, x2, ⟨x3, (M.same hl i0 hi).mp e⟩, fun j j0 jk ⟨kj, nj⟩ => ?_⟩
    obtain ⟨q, q0, hq, eq⟩ := M.al j j0 (by omega) kj
    have ne := hj q q0 (by
      by_cases z : q < i
      · exact z
      · exfalso
        by_cases y : q = i
        · rw [y] at eq; omega
        · have := M.mo i q i0 (by omega) hq; omega)
    exact ne ((M.same hl q0 hq).mpr (by rw [eq]; exact nj))
  refine sg_Blocks_linkSign (k_Names_find q_names_35 nd.s0 d1 (fun hn => ?_) (fun i i0 hi e hj => ?_))
  · refine k_Names_find q_names_39 nh.s0 h1 (fun hn2 => z_t rfl (z_t rfl (h (-1) (-1) (Or.inr ⟨non nd hn, non nh hn2, rfl, rfl⟩)))) (fun i i0 hi e hj => z_t rfl (z_f (by omega) ⟨by omega, h (400 + i) (a 42 i) (Or.inl ⟨Or.inr ⟨non nd hn, fst nh i i0 hi e hj⟩, by omega, Or.inr ⟨(nh.ls i i0 hi).2.2.1, i, i0, hi, rfl, rfl⟩⟩)⟩))
  · have res : K (300 + i) a := h (300 + i) (a 38 i) (Or.inl ⟨Or.inl (fst nd i i0 hi e hj), by omega, Or.inl ⟨(nd.ls i i0 hi).2.2.1, i, i0, hi, rfl, rfl⟩⟩)
    refine k_Names_find q_names_39 nh.s0 h1 (fun hn2 => z_f (by omega) ⟨by omega, res⟩) (fun i2 _ _ _ _ => z_f (by omega) ⟨by omega, res⟩)
end Lookup
