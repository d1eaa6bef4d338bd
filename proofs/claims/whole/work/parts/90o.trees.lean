/-! The tree of the class is the model's. -/
section Trees
variable {X : Nat × (Nat → Int32)} {a b a' b' s : qM} {K : qM → Prop} {v C D N LL n k e x : Int} {t U V : Int → Int}
theorem zGf.of (hc : zNc a a' v k x e (zTd b k) D C) (hb : zNn b b' v k x e (zTd b k) N) : zGf a a' b b' := by
  obtain ⟨fc, _⟩ := hc.fa
  obtain ⟨fb, fj⟩ := hb.fb
  exact zGf.mk (fun r h => fc r (by omega)) (fun r x y => fb r x (by omega) (by omega)) (fun j h1 h2 h3 h4 h5 h6 h7 => fj j h1 h6)
theorem zGf.u (F : zGf a a' b b') : zU1 a' b' = zU1 a b ∧ zV a' b' = zV a b := by
  have f117 := F.fb 117 (by decide) (by omega)
  have eu : zU1 a' b' = zU1 a b := by funext k; unfold zU1 zF; rw [F.fa 26 (by omega), F.fa 28 (by omega), F.fa 30 (by omega), F.fa 11 (by omega), f117]
  exact ⟨eu, by funext k; unfold zV; rw [eu, f117]⟩
theorem zGf.no : zGf a a b b := zGf.mk (fun _ _ => rfl) (fun _ _ _ => rfl) (fun _ _ _ _ _ _ _ _ => rfl)
theorem zSig_ex {f : Int → Int} : ∀ (c m : Nat), (∀ i : Int, 0 ≤ i → i < m + c → 0 ≤ f i) → zSig f m ≤ zSig f (m + c)
  | 0, m, _ => Int.le_refl _
  | c + 1, m, h => by
    have g := zSig_ex c m (fun i u w => h i u (by omega))
    have g2 := h ((m + c : Nat) : Int) (by omega) (by omega)
    show zSig f m ≤ zSig f (m + c) + f ((m + c : Nat) : Int)
    omega
/-- one block -/
theorem k_tree1 (G : zGw a b t N LL n k v C D k) (kn : k < n) (cp : v + 1 + zV a b k ≤ 481 ∧ C + zU1 a b k ≤ 300 ∧ D + zU1 a b k ≤ 300)
    (h : ∀ a' b' v' C' D', zGw a' b' t N LL n (k + 1) v' C' D' (k + 1) → v' ≤ v + 1 + zV a b k → C' ≤ C + zU1 a b k → D' ≤ D + zU1 a b k → zGf a a' b b' → (∀ Kf : qM → Prop, L_m_trees_16 X (k + 1) b' Kf → L_m_trees_16 X k b Kf) → L_T_growTree_58 X (k + 1) a' K) : L_T_growTree_58 X k a K := by
  obtain ⟨s1, k0, s3, s4⟩ := G.sz
  obtain ⟨t1, t2, t3, t4, t5, t6, t7, t8, t9, t10, t11, t12, t13⟩ := G.T.sz
  have cap := G.B.cap
  have ca := G.B.cap.2
  have q118 := G.q118 kn
  have pv := G.prv kn
  have uv := G.B.S.u1 k0 kn
  have r13 := G.B.B.rows.1
  have h4 := G.B.B.rows.2.2.2.2.2.2.2.2
  have hp : zPr b k = -1 ∨ (0 ≤ zPr b k ∧ zPr b k < v) := by rcases pv with z | z; · { exact Or.inl z.2 }; · { exact Or.inr z.2 }
  have lo : b 117 k = 2 → 0 ≤ b 121 k ∧ b 121 k ≤ 1 := fun z => by have := (G.B.B.ms k k0 kn).2.2.1 z; omega
  have c0 : 0 ≤ zPr b k → 0 ≤ b 133 (zPr b k) ∧ b 133 (zPr b k) ≤ 1000 := fun p0 => by
    have pv : zPr b k < v := by rcases hp with z | z; · { omega }; · { exact z.2 }
    obtain ⟨_, _, _, _, _, _, _, _, q5, q6⟩ := G.T.nd _ p0 pv
    exact ⟨q5, by omega⟩
  obtain ⟨b1, hb, M1⟩ := k_m_treesBlock (X := X) t9 t10 h4 k0 kn (by omega) t11 (by omega) lo q118 hp c0
  refine sg_T_growTree_58 (sg_Blocks_size (k_Row_size q_row_13 (z_f (by omega) (k_Tree_addBlock G.T (by omega) s1 k0 (by omega) G.B.B kn (by omega) q118 (fun z => (G.no _ z (by omega)).1) hp (fun a1 hc => ?_)))))
  have G1 := G.addB kn hc hb
  have F1 : zGf a a1 b b1 := zGf.of hc hb
  have u1 := F1.u
  have e117 : b1 117 = b 117 := F1.fb 117 (by decide) (by omega)
  have k13 : a1 13 = a 13 := F1.fa 13 (by omega)
  have k14 : a1 14 = a 14 := F1.fa 14 (by omega)
  have kd := G.B.B.kd k k0 kn
  have h137 : b1 137 k = v := by rw [hb.at'.2.2.2.2, q_u_at]
  have leaf : (b 117 k = 4 ∨ b 117 k = 6) → c_T_copyLines X k a1 (fun s9 => c_Il_read X s9 (fun s10 => c_Tree_addInline X v s10 (fun s11 => (-2147483648 ≤ (k + 1) ∧ (k + 1) < 2147483648) ∧ L_T_growTree_58 X (k + 1) s11 K))) := by
    intro h46
    have ev : zV a b k = zU1 a b k - 1 := by unfold zV; rw [if_pos h46]
    refine k_leaf G1 k0 (by rw [e117]; exact h46) h137 (by rw [u1.1]; exact ⟨by omega, by omega, by omega⟩) (fun a' b' v' C' D' G' i1 i2 i3 F' W' => ?_)
    rw [u1.1] at i1 i2 i3
    exact ⟨by omega, h a' b' v' C' D' G' (by omega) i2 i3 (F1.tr F') (fun Kf hk => M1 Kf ⟨fun _ => W' _ hk, fun z => absurd h46 z⟩)⟩
  have oth : ¬ (b 117 k = 4 ∨ b 117 k = 6) → ∀ Kf : qM → Prop, L_m_trees_16 X (k + 1) b1 Kf → L_m_trees_16 X k b Kf := fun z Kf hk => M1 Kf ⟨fun y => absurd y z, fun _ => hk⟩
  refine sg_Blocks_kindOf (k_Row_at q_row_13 (by rw [k13]; omega) ?_)
  rw [zT_in k0 (by rw [k13]; omega), show a1 (13 + 1) k = b 117 k by rw [show a1 (13 + 1) = a 14 from k14]; exact kd.1]
  refine z_c (fun e6 => leaf (Or.inr e6)) (fun n6 => z_c (fun n4 => z_c (fun n5 => ?_) (fun e5 => ?_)) (fun e4 => leaf (Or.inl (Decidable.not_not.mp e4))))
  · refine ⟨by omega, h a1 b1 (v + 1) C D (G1.other (by rw [e117]; exact n5)) (by omega) (by omega) (by omega) F1 (oth (fun z => z.elim n4 n6))⟩
  · have e5 := Decidable.not_not.mp e5
    have f := hc.fa
    refine G1.fence k0 (by rw [e117]; exact e5) h137 (by rw [f.2.2.2.1, q_u_at]) (by rw [f.2.2.2.2, q_u_at]) (by omega) (by rw [u1.1]; omega) (fun a2 G2 fr => ⟨by omega, ?_⟩)
    rw [u1.1] at G2
    exact h a2 b1 (v + 1) _ D G2 (by omega) (by omega) (by omega) (F1.tr (zGf.mk (fun r hr => fr r (by omega) (by omega) (by omega)) (fun _ _ _ => rfl) (fun _ _ _ _ _ _ _ _ => rfl))) (oth (fun z => z.elim n4 n6))
theorem k_trees16 : ∀ (c : Nat) (k : Int) (a b : qM) (v C D : Int), k + c = n → zGw a b t N LL n k v C D k → zU1 a b = U → zV a b = V → v ≤ k + zSig V k.toNat → C ≤ zSig U k.toNat → D ≤ zSig U k.toNat →
    (∀ a' b' v' C' D', zGw a' b' t N LL n n v' C' D' n → zGf a a' b b' → (∀ Kf : qM → Prop, Kf b' → L_m_trees_16 X k b Kf) → v' ≤ 481 → C' ≤ 241 → D' ≤ 241 → c_Printer_write X a' (fun s3 => ∀ s4 : qM, s4 = q_up s3 0 11 0 → K s4)) → L_T_growTree_58 X k a K := by
  intro c
  induction c with
  | zero =>
    intro k a b v C D hc G eU eV hv hC hD h
    have ek : k = n := by omega
    have r13 := G.B.B.rows.1
    have h4 := G.B.B.rows.2.2.2.2.2.2.2.2
    have p1 := G.B.pt.p1
    have p2 := G.B.pt.p2
    have n2 := G.B.n1
    rw [eU] at p1
    rw [eV] at p2
    rw [ek] at G hv hC hD h
    have hh := h a b v C D G zGf.no (fun Kf hk => sg_m_trees_16 (z_t (by omega) hk)) (by omega) (by omega) (by omega)
    rw [ek]
    exact sg_T_growTree_58 (sg_Blocks_size (k_Row_size q_row_13 (z_t (by omega) hh)))
  | succ c ih =>
    intro k a b v C D hc G eU eV hv hC hD h
    have k0 := G.sz.2.1
    have kn : k < n := by omega
    have p1 := G.B.pt.p1
    have p2 := G.B.pt.p2
    have n2 := G.B.n1
    have nU : ∀ i, 0 ≤ i → i < n → 0 ≤ U i := fun i u w => by have := G.B.S.u1 u w; rw [eU] at this; exact this.1
    have nV : ∀ i, 0 ≤ i → i < n → 0 ≤ V i := fun i u w => by have := G.B.S.u1 u w; rw [eV] at this; exact this.2
    rw [eU] at p1
    rw [eV] at p2
    have sU : zSig U (k + 1).toNat = zSig U k.toNat + U k := by
      rw [show (k + 1).toNat = k.toNat + 1 by omega]
      show zSig U k.toNat + U (k.toNat : Int) = _
      rw [show ((k.toNat : Nat) : Int) = k by omega]
    have sV : zSig V (k + 1).toNat = zSig V k.toNat + V k := by
      rw [show (k + 1).toNat = k.toNat + 1 by omega]
      show zSig V k.toNat + V (k.toNat : Int) = _
      rw [show ((k.toNat : Nat) : Int) = k by omega]
    have mU := zSig_ex (f := U) c (k + 1).toNat (fun i u w => nU i u (by omega))
    have mV := zSig_ex (f := V) c (k + 1).toNat (fun i u w => nV i u (by omega))
    rw [show (k + 1).toNat + c = n.toNat by omega] at mU mV
    refine k_tree1 G kn (by rw [eU, eV]; exact ⟨by omega, by omega, by omega⟩) (fun a1 b1 v1 C1 D1 G1 i1 i2 i3 F1 W1 => ?_)
    have u := F1.u
    rw [eU] at i2 i3 u
    rw [eV] at i1 u
    exact ih (k + 1) a1 b1 v1 C1 D1 (by omega) G1 u.1 u.2 (by omega) (by omega) (by omega) (fun a' b' v' C' D' G' F' W' => h a' b' v' C' D' G' (F1.tr F') (fun Kf hk => W1 Kf (W' Kf hk)))
end Trees
