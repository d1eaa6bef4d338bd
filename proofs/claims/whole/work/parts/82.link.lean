/-! A ] in both: lookups and conversions. -/
section Link
variable {X : Nat × (Nat → Int32)} {a a' b b' s : qM} {K : Int → qM → Prop} {KV : qM → Prop} {n m p R P P1 : Int} {q : Nat} {S rho : Int → Int} {f f' : Int → Int}
theorem zSc.Rp (H : zSc a b n m S p q R rho P) : R ≤ p := by
  obtain ⟨t1, t2, t3, t4, t5, t6, t7, t8⟩ := H.N.sz
  have h : ∀ r : Nat, (r : Int) < R → (r : Int) ≤ rho r := by
    intro r
    induction r with
    | zero => intro hr; exact (H.N.rg 0 (Int.le_refl 0) (by omega)).1
    | succ r ih =>
      intro hr
      have h1 := ih (by omega)
      have h2 := H.N.mo r ((r + 1 : Nat) : Int) (by omega) (by omega) hr
      omega
  by_cases z : R ≤ 0
  · have := H.Z.p0; omega
  · have h1 := h (R - 1).toNat (by omega)
    rw [show (((R - 1).toNat : Nat) : Int) = R - 1 by omega] at h1
    have := (H.N.rg (R - 1) (by omega) (by omega)).2.1
    omega
theorem k_m_lastOpen (p0 : 0 ≤ p) (p1 : p ≤ 241) (hn : (∀ k, 0 ≤ k → k < p → b 141 k ≠ 3) → K (-1) b) (hy : ∀ o, 0 ≤ o → o < p → b 141 o = 3 → (∀ k, o < k → k < p → b 141 k ≠ 3) → K o b) : c_m_lastOpen X p b K := by
  refine sg_m_lastOpen ?_
  have L : ∀ (c : Nat) (k v : Int), p - k = c → 0 ≤ k → ((v = -1 ∧ ∀ j, 0 ≤ j → j < k → b 141 j ≠ 3) ∨ (0 ≤ v ∧ v < k ∧ b 141 v = 3 ∧ ∀ j, v < j → j < k → b 141 j ≠ 3)) → L_m_lastOpen_4 X p v k b K := by
    intro c
    induction c with
    | zero =>
      intro k v hk k0 hi
      have e : k = p := by omega
      refine sg_m_lastOpen_4 (z_t (by omega) ?_)
      rcases hi with ⟨e1, h⟩ | ⟨h1, h2, h3, h4⟩
      · rw [e1]; exact hn (fun j u w => h j u (by omega))
      · exact hy v h1 (by omega) h3 (fun j u w => h4 j u (by omega))
    | succ c ih =>
      intro k v hk k0 hi
      refine sg_m_lastOpen_4 (z_f (by omega) ⟨k0, by omega, z_c (fun e => ⟨by omega, ih (k + 1) v (by omega) (by omega) ?_⟩) (fun e => ⟨by omega, ih (k + 1) k (by omega) (by omega) (Or.inr ⟨k0, by omega, Decidable.not_not.mp e, fun j u w => by omega⟩)⟩)⟩)
      rcases hi with ⟨e1, h⟩ | ⟨h1, h2, h3, h4⟩
      · refine Or.inl ⟨e1, fun j u w => ?_⟩
        by_cases z : j = k
        · rw [z]; exact e
        · exact h j u (by omega)
      · refine Or.inr ⟨h1, by omega, h3, fun j u w => ?_⟩
        by_cases z : j = k
        · rw [z]; exact e
        · exact h4 j u (by omega)
  exact L p.toNat 0 (-1) (by omega) (Int.le_refl 0) (Or.inl ⟨rfl, fun j u w => by omega⟩)
theorem zFst_uniq {κ : Int} {l : List Int} {x y : Int} (h1 : zFst b n κ l x) (h2 : zFst b n κ l y) : x = y := by
  rcases Int.lt_trichotomy x y with z | z | z
  · exact absurd h1.2.2.1 (h2.2.2.2 x h1.1 z)
  · exact z
  · exact absurd h2.2.2.1 (h1.2.2.2 y h2.1 z)
/-- what a name leads to: the class's sign and the model's block -/
theorem zSc.look (H : zSc a b n m S p q R rho P) {a1 b1 : qM} (fa : ∀ r, r ≠ 51 → a1 r = a r) (eb : b1 = b) {f t : Int} (f0 : 0 ≤ f) (ft : f ≤ t) (tm : t ≤ m) :
    ∃ σ τ, ((σ ≠ -1 ∧ 0 ≤ τ ∧ τ < n ∧ zLk a b σ τ) ∨ (σ = -1 ∧ τ = -1)) ∧ (∀ K : Int → qM → Prop, K σ a1 → c_T_nameCode X 45 f t a1 (fun r2 s1 => ((((q_lcmp r2 0) ≠ 0) → c_Blocks_linkSign X r2 s1 (fun r4 s3 => K r4 s3)) ∧ (¬ ((q_lcmp r2 0) ≠ 0) → K (-1) s1)))) ∧ (∀ K : Int → qM → Prop, K τ b → c_m_meant X f t b K) := by
  obtain ⟨l1, l2, l3, l4, l5⟩ := H.nl
  obtain ⟨m0, m2⟩ := H.W.m0
  obtain ⟨s1, s2⟩ := H.W.sz
  have ezt : ∀ i, zT a1 45 i = zI b m i := fun i => by
    have : zT a1 45 i = zT a 45 i := by unfold zT; rw [fa 45 (by decide), fa (45 + 1) (by decide)]
    rw [this]; exact H.W.zt
  have nd1 : zNm a1 b n 7 37 36 := H.nd.fr (Int.le_refl n) (by rw [fa 37 (by decide)]) (fa 38 (by decide)) (fa 36 (by decide)) (fun _ _ _ => rfl) (fun k x y => by omega) (fun _ _ => rfl)
  have nh1 : zNm a1 b n 4 41 40 := H.nh.fr (Int.le_refl n) (by rw [fa 41 (by decide)]) (fa 42 (by decide)) (fa 40 (by decide)) (fun _ _ _ => rfl) (fun k x y => by omega) (fun _ _ => rfl)
  have zlk : ∀ σ τ, zLk a1 b σ τ → zLk a b σ τ := fun σ τ h => by
    unfold zLk at h ⊢
    rw [fa 37 (by decide), fa 38 (by decide), fa 41 (by decide), fa 42 (by decide)] at h
    exact h
  by_cases good : 1 ≤ t - f ∧ t - f ≤ 6 ∧ ∀ i, f ≤ i → i < t → zLet (b 138 i)
  · obtain ⟨g1, g2, g3⟩ := good
    have cg : ∀ i, f ≤ i → i < t → zT a1 45 i = b 138 i := fun i u w => by rw [ezt, zI_in (by omega) (by omega)]
    have ean : zAnc (zT a1 45) f t = zLt (b 138) f (t - f).toNat := by rw [zAnc_congr cg, zAnc_all g1 g2 g3]
    have gd : zGd (zLt (b 138) f (t - f).toNat) := by
      have len := zLt_all (t := b 138) (t - f).toNat f (fun i u w => g3 i u (by omega))
      exact ⟨by rw [len]; omega, by rw [len]; omega, fun x hx => zLt_mem _ _ x hx⟩
    have pos := zCode_pos gd.1 gd.2.2
    -- the class's search has one end
    obtain ⟨σ, a2, ⟨ea, hσ⟩, W⟩ := z_1I (k_Blocks_linkSign (X := X) (K := fun σ a2 => a2 = a1 ∧ ∃ τ, ((zFst b n 7 (zLt (b 138) f (t - f).toNat) τ ∨ (zNon b n 7 (zLt (b 138) f (t - f).toNat) ∧ zFst b n 4 (zLt (b 138) f (t - f).toNat) τ)) ∧ σ ≠ -1 ∧ zLk a1 b σ τ) ∨ (zNon b n 7 (zLt (b 138) f (t - f).toNat) ∧ zNon b n 4 (zLt (b 138) f (t - f).toNat) ∧ σ = -1 ∧ τ = -1)) gd nd1 nh1 (by rw [fa 37 (by decide)]; omega) (by rw [fa 41 (by decide)]; omega) (fun σ τ h => ⟨rfl, τ, h⟩))
    subst ea
    obtain ⟨τ, h⟩ := hσ
    refine ⟨σ, τ, ?_, fun K hk => ?_, fun K hk => ?_⟩
    · rcases h with ⟨h1, h2, h3⟩ | ⟨_, _, h3, h4⟩
      · left
        rcases h1 with h1 | ⟨_, h1⟩
        · exact ⟨h2, h1.1, h1.2.1, zlk _ _ h3⟩
        · exact ⟨h2, h1.1, h1.2.1, zlk _ _ h3⟩
      · exact Or.inr ⟨h3, h4⟩
    · refine k_T_nameCode q_row_45 (by rw [fa 45 (by decide)]; omega) (by omega) (by omega) (by omega) (by omega) (fun _ _ _ => ?_) (fun y => ?_)
      · rw [ean]
        exact z_t (fun z => by have := q_lcmp_0.mp z; omega) (W _ hk)
      · exfalso
        apply y
        refine ⟨g1, g2, zWord_eq ft (Int.le_refl t) (fun i u w => by rw [cg i u w]; exact g3 i u w) (Or.inl rfl)⟩
    · refine k_m_meant l3 l4 l5 f0 ft tm s2 m0 m2 (fun y => absurd ⟨g1, g2, g3⟩ y) (fun _ _ _ τ' h' => ?_)
      have e : τ' = τ := by
        rcases h with ⟨h1, _, _⟩ | ⟨h1, h2, _, h3⟩
        · rcases h1 with h1 | ⟨h0, h1⟩
          · rcases h' with x | ⟨x, _⟩ | ⟨x, _⟩
            · exact zFst_uniq x h1
            · exact absurd h1.2.2.1 (x τ h1.1 h1.2.1)
            · exact absurd h1.2.2.1 (x τ h1.1 h1.2.1)
          · rcases h' with x | ⟨_, x⟩ | ⟨_, x, _⟩
            · exact absurd x.2.2.1 (h0 τ' x.1 x.2.1)
            · exact zFst_uniq x h1
            · exact absurd h1.2.2.1 (x τ h1.1 h1.2.1)
        · rcases h' with x | ⟨_, x⟩ | ⟨_, _, x⟩
          · exact absurd x.2.2.1 (h1 τ' x.1 x.2.1)
          · exact absurd x.2.2.1 (h2 τ' x.1 x.2.1)
          · omega
      rw [e]; exact hk
  · refine ⟨-1, -1, Or.inr ⟨rfl, rfl⟩, fun K hk => ?_, fun K hk => k_m_meant l3 l4 l5 f0 ft tm s2 m0 m2 (fun _ => hk) (fun u v w => absurd ⟨u, v, w⟩ good)⟩
    refine k_T_nameCode q_row_45 (by rw [fa 45 (by decide)]; omega) (by omega) (by omega) (by omega) (by omega) (fun u v w => ?_) (fun _ => z_f (fun z => z (q_lcmp_0.mpr rfl)) hk)
    exfalso
    apply good
    obtain ⟨_, _, w3, _⟩ := zWord_is (t := zT a1 45) ft
    rw [w] at w3
    refine ⟨u, v, fun i x y => ?_⟩
    have := w3 i x y
    rw [ezt, zI_in (by omega) (by omega)] at this
    exact this
/-- pieces become plain, or a LINK -/
theorem zPc.conv (Z : zPc f b S p q) (hc : ∀ k, 0 ≤ k → k < p → (b' 141 k = b 141 k ∧ b' 142 k = b 142 k ∧ b' 143 k = b 143 k ∧ ∀ i, S k ≤ i → i < S (k + 1) → f' i = f i) ∨ (b 141 k = 3 ∧ b' 141 k = 0 ∧ b' 142 k = 91 ∧ ∀ i, S k ≤ i → i < S (k + 1) → f' i = f i) ∨ (b 141 k = 3 ∧ b' 141 k = 4 ∧ f' (S k) = 12)) (e138 : b' 138 = b 138) (e146 : b' 146 = b 146) (e148 : b' 148 = b 148) (e149 : b' 149 = b 149) (e150 : b' 150 = b 150) : zPc f' b' S p q := by
  have cC : ∀ k (j : Nat), zCw b' k j = zCw b k j := fun k j => zCw_congr j (fun _ _ => ⟨by rw [e149], by rw [e150]⟩)
  have cO : ∀ k (j : Nat), zOu b' k j = zOu b k j := fun k j => zOu_congr j (fun _ _ => ⟨by rw [e148], by rw [e150]⟩)
  refine zPc.mk Z.p0 Z.s0 Z.mono (fun k k0 kp => ?_) (fun k k0 kp ht => ?_) (fun k k0 kp ht => ?_) (fun k k0 kp ht => ?_) (fun k k0 kp ht => ?_) (fun k k0 kp ht => ?_) (fun k k0 kp ht => ?_) (fun j hj => ?_)
  · have := Z.ty k k0 kp
    rcases hc k k0 kp with ⟨h, _⟩ | ⟨_, h, _⟩ | ⟨_, h, _⟩ <;> omega
  · have m := Z.mono k k0 kp
    rw [e138]
    rcases hc k k0 kp with ⟨h1, h2, h3, h4⟩ | ⟨h1, h2, h3, h4⟩ | ⟨h1, h2, h3⟩
    · rw [h1] at ht
      rcases Z.k0 k k0 kp ht with ⟨x1, x2, x3⟩ | ⟨x1, x2, x3, x4⟩
      · left; rw [h2, h4 (S k) (Int.le_refl _) m]; exact ⟨x1, x2, x3⟩
      · right; rw [h2, h4 (S k) (Int.le_refl _) m, h4 (S k + 1) (by omega) (by omega)]; exact ⟨x1, x2, x3, x4⟩
    · obtain ⟨x1, x2, x3, x4⟩ := Z.k3 k k0 kp h1
      left; rw [h3, h4 (S k) (Int.le_refl _) m]; exact ⟨x1, x2, x4.symm⟩
    · omega
  · have m := Z.mono k k0 kp
    rcases hc k k0 kp with ⟨h1, h2, h3, h4⟩ | ⟨h1, h2, h3, h4⟩ | ⟨h1, h2, h3⟩
    · rw [h1] at ht; rw [h2, e138, h4 (S k) (Int.le_refl _) m]; exact Z.k3 k k0 kp ht
    · omega
    · omega
  · have m := Z.mono k k0 kp
    rcases hc k k0 kp with ⟨h1, h2, h3, h4⟩ | ⟨h1, h2, h3, h4⟩ | ⟨h1, h2, h3⟩
    · rw [h1] at ht
      obtain ⟨x1, x2, x3, x4, x5, x6, x7, x8⟩ := Z.k2 k k0 kp ht
      rw [h2, h3, h4 (S k) (Int.le_refl _) m, h4 (b 143 k) (by omega) x3]
      exact ⟨x1, x2, x3, x4, fun i u v => by rw [h4 i (by omega) (by omega)]; exact x5 i u v, fun i u v => by rw [h4 i (by omega) (by omega)]; exact x6 i u v, x7, fun i u v => by rw [h4 i (by omega) v]; exact x8 i u v⟩
    · omega
    · omega
  · have m := Z.mono k k0 kp
    rcases hc k k0 kp with ⟨h1, h2, h3, h4⟩ | ⟨h1, h2, h3, h4⟩ | ⟨h1, h2, h3⟩
    · rw [h1] at ht; rw [h4 (S k) (Int.le_refl _) m]; exact Z.k4 k k0 kp ht
    · omega
    · exact ⟨(Z.k3 k k0 kp h1).1, h3⟩
  · have m := Z.mono k k0 kp
    rcases hc k k0 kp with ⟨h1, h2, h3, h4⟩ | ⟨h1, h2, h3, h4⟩ | ⟨h1, h2, h3⟩
    · rw [h1] at ht
      obtain ⟨x1, x2⟩ := Z.k5 k k0 kp ht
      rw [h4 (S k) (Int.le_refl _) m]
      exact ⟨x1, fun i u v => by rw [h4 i (by omega) v]; exact x2 i u v⟩
    · omega
    · omega
  · rw [cC, cO, e138, e146]
    have c0 := zCw_le (b := b) (k := k) (i := 0) (Nat.zero_le q)
    have o0 := zOu_le (b := b) (k := k) (i := 0) (Nat.zero_le q)
    have z1 : zCw b k 0 = 0 := rfl
    have z2 : zOu b k 0 = 0 := rfl
    rcases hc k k0 kp with ⟨h1, h2, h3, h4⟩ | ⟨h1, h2, h3, h4⟩ | ⟨h1, h2, h3⟩
    · rw [h1] at ht
      obtain ⟨x1, x2, x3, x4, x5⟩ := Z.k1 k k0 kp ht
      rw [h3]
      exact ⟨x1, x2, x3, x4, fun i u v => by rw [h4 i (by omega) (by omega)]; exact x5 i u v⟩
    · omega
    · omega
  · obtain ⟨x1, x2, x3, x4, x5, x6, x7, x8, x9, x10⟩ := Z.pr j hj
    have kc := Z.k1 (b 149 j) (by omega) x3 x5
    have ko := Z.k1 (b 148 j) x1 (by omega) x4
    have w12 := zWd_12 (b := b) (j := j)
    have wj : zWd b j = if b 150 (j : Int) = 10 then 2 else 1 := rfl
    have lc1 : zCw b (b 149 j) j + zWd b j ≤ zCw b (b 149 j) q := by
      have := zCw_le (b := b) (k := b 149 j) (i := j + 1) (j := q) (by omega)
      have e1 : zCw b (b 149 j) (j + 1) = zCw b (b 149 j) j + (if b 149 (j : Int) = b 149 j then zWd b j else 0) := rfl
      rw [if_pos rfl] at e1; omega
    have lc0 : 0 ≤ zCw b (b 149 j) j := zCw_le (b := b) (k := b 149 j) (i := 0) (Nat.zero_le j)
    have lo1 : zOu b (b 148 j) (j + 1) ≤ zOu b (b 148 j) q := zOu_le (by omega)
    have lo2 : zWd b j ≤ zOu b (b 148 j) (j + 1) := by
      have e1 : zOu b (b 148 j) (j + 1) = zOu b (b 148 j) j + (if b 148 (j : Int) = b 148 j then zWd b j else 0) := rfl
      have := zOu_le (b := b) (k := b 148 j) (i := 0) (Nat.zero_le j)
      have e0 : zOu b (b 148 j) 0 = 0 := rfl
      rw [if_pos rfl] at e1; omega
    have oq := zOu_le (b := b) (k := b 149 j) (i := 0) (Nat.zero_le q)
    have oq0 : zOu b (b 149 j) 0 = 0 := rfl
    have cq := zCw_le (b := b) (k := b 148 j) (i := 0) (Nat.zero_le q)
    have cq0 : zCw b (b 148 j) 0 = 0 := rfl
    have keep : ∀ k, 0 ≤ k → k < p → b 141 k = 1 → b' 141 k = 1 ∧ ∀ i, S k ≤ i → i < S (k + 1) → f' i = f i := fun k u v w => by
      rcases hc k u v with ⟨h1, h2, h3, h4⟩ | ⟨h1, _⟩ | ⟨h1, _⟩
      · exact ⟨by omega, h4⟩
      · omega
      · omega
    obtain ⟨y1, y2⟩ := keep (b 149 j) (by omega) x3 x5
    obtain ⟨w1, w2⟩ := keep (b 148 j) x1 (by omega) x4
    rw [e148, e149, e150, cC, cO]
    refine ⟨x1, x2, x3, w1, y1, x6, by rw [y2 _ (by omega) (by omega)]; exact x7, fun z => ?_, by rw [w2 _ (by omega) (by omega)]; exact x9, fun z => ?_⟩
    · rw [if_pos z] at wj; rw [y2 _ (by omega) (by omega)]; exact x8 z
    · rw [if_pos z] at wj; rw [w2 _ (by omega) (by omega)]; exact x10 z
end Link
