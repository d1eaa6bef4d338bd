/-! The questions to the tree. -/
section Query
variable {X : Nat × (Nat → Int32)} {a b a' b' s s' : qM} {Q : Int → qM → Prop} {x1 x2 : Int}
theorem o_nodes (H : zIv X s) : O_nodes (zIv X) X s := by
  unfold O_nodes
  refine sg_T_nodes (k_growI H (fun a' H' C f => sg_Tree_size (k_Row_size q_row_65 (sg_m_nodes (fun s1 e1 => ?_)))))
  exact k_q_trees H' C (by rw [e1]; exact zSm_47 zSm_rf) (fun b' R I' _ _ => ⟨R.nd.1.symm, I'⟩)
theorem q47 {y x : Int} (h : ∀ s, zSm b s → s 113 47 = x → s 161 = b 161 → Q y s) : Q y (q_up b 113 47 x) :=
  h _ (zSm_47 zSm_rf) q_up_at (q_up_ne (by decide))
/-- the end of an operation of the law -/
theorem q_fin {I : qM → Prop} {c y : Int} (e : s 113 47 = c) (o : c = 0 → s 161 0 = y) (i : I s) : c_m_thrown X s (fun e s3 => e = c ∧ (c = 0 → s3 161 0 = y) ∧ I s3) := sg_m_thrown ⟨e, o, i⟩
theorem k_mm_node (H : zIv X a) (C : zCc X a) (S : zSm a b)
    (out : ¬ (0 ≤ x1 ∧ x1 < a 65 1) → ∀ s, zIv X s → s 113 47 = 1 → Q 0 s) (bad : 0 ≤ x1 → x1 < a 65 1 → ¬ (0 ≤ x2 ∧ x2 ≤ 3) → ∀ s, zIv X s → s 113 47 = 2 → Q 0 s)
    (good : 0 ≤ x1 → x1 < a 65 1 → 0 ≤ x2 → x2 ≤ 3 → ∀ s, zIv X s → s 113 47 = 0 → s 161 = b 161 → Q (if x2 = 0 then a 66 x1 else if x2 = 1 then a 68 x1 else if x2 = 2 then a 70 x1 else a 72 x1) s) : c_m_node X x1 x2 b Q := by
  have W := C.rw H
  obtain ⟨w1, w2, _⟩ := W.sz
  refine sg_m_node (k_q_trees H C S (fun b' R I' e47 fr => ?_))
  obtain ⟨e20, nd⟩ := R.nd
  rw [e20]
  refine ⟨by omega, k_m_isIn (fun u w => z_t (by decide) (k_m_isIn (fun u2 w2 => z_f (by decide) ?_) (fun n2 => z_t rfl ?_))) (fun n => z_f (by decide) ?_)⟩
  · have q := nd x1 u (by omega)
    refine sg_m_node_37 (k_m_can (fun z => absurd rfl z) (fun _ => z_t (by decide) ?_))
    have g := good u (by omega) u2 w2 (q_up b' 113 47 0) (I'.sm (zSm_47 zSm_rf)) q_up_at (by rw [q_up_ne (by decide)]; exact fr 161 (by omega))
    generalize eb : q_up b' 113 47 0 = b2 at g
    have o : ∀ r, r ≠ 113 → b2 r = b' r := fun r hr => by rw [← eb, q_up_ne hr]
    rw [o 131 (by decide), o 132 (by decide), o 133 (by decide), o 134 (by decide)]
    refine z_c (fun m0 => z_c (fun m1 => z_c (fun m2 => ⟨u, by omega, ?_⟩) (fun m2 => ⟨u, by omega, ?_⟩)) (fun m1 => ⟨u, by omega, ?_⟩)) (fun m0 => ⟨u, by omega, ?_⟩)
    · rw [if_neg m0, if_neg m1, if_neg m2, q.2.2.2.1] at g; exact g
    · have m2 := Decidable.not_not.mp m2
      rw [if_neg m0, if_neg m1, if_pos m2, q.2.2.1] at g; exact g
    · have m1 := Decidable.not_not.mp m1
      rw [if_neg m0, if_pos m1, q.2.1] at g; exact g
    · have m0 := Decidable.not_not.mp m0
      rw [if_pos m0, q.1] at g; exact g
  · refine sg_m_node_37 (k_m_can (fun _ => z_f (by decide) ?_) (fun z => absurd z (by decide)))
    exact bad u (by omega) (fun z => n2 ⟨z.1, z.2⟩) _ (I'.sm (zSm_47 zSm_rf)) q_up_at
  · refine sg_m_node_37 (k_m_can (fun _ => z_f (by decide) ?_) (fun z => absurd z (by decide)))
    exact out (fun z => n ⟨z.1, by omega⟩) _ (I'.sm (zSm_47 zSm_rf)) q_up_at
theorem o_node (H : zIv X s) : O_node (zIv X) X x1 x2 s := by
  unfold O_node
  refine k_W_node (sg_T_node (k_growI H (fun a H C f => ?_)))
  have W := C.rw H
  obtain ⟨w1, w2, w3, w4, w5, w6⟩ := W.sz
  have out : ¬ (0 ≤ x1 ∧ x1 < a 65 1) → c_m_node X x1 x2 a (fun y s2 => c_m_thrown X s2 (fun e s3 => e = 1 ∧ ((1 : Int) = 0 → s3 161 0 = y) ∧ zIv X s3)) := fun n =>
    k_mm_node H C zSm_rf (fun _ s I e => q_fin e (fun z => absurd z (by decide)) I) (fun u w _ => absurd ⟨u, w⟩ n) (fun u w _ _ => absurd ⟨u, w⟩ n)
  refine z_c (fun n => out (by omega)) (fun n => sg_Tree_size (k_Row_size q_row_65 (z_c (fun lt => ?_) (fun lt => out (by omega)))))
  have good : ∀ r, (0 ≤ x2 ∧ x2 ≤ 3) → r = (if x2 = 0 then a 66 x1 else if x2 = 1 then a 68 x1 else if x2 = 2 then a 70 x1 else a 72 x1) → c_m_node X x1 x2 (q_up a 161 0 r) (fun y s2 => c_m_thrown X s2 (fun e s3 => e = 0 ∧ ((0 : Int) = 0 → s3 161 0 = y) ∧ zIv X s3)) := fun r h2 er =>
    k_mm_node H C (zSm_out zSm_rf) (fun n => absurd ⟨by omega, lt⟩ n) (fun _ _ n => absurd h2 n) (fun _ _ _ _ s I e o => q_fin e (fun _ => by rw [o, q_up_at, er]) I)
  have x0 : 0 ≤ x1 := by omega
  refine z_c (fun m0 => sg_Tree_kindOf (k_Row_at q_row_65 (by omega) (good _ (by omega) ?_))) (fun m0 => z_c (fun m1 => sg_Tree_parentOf (k_Row_at q_row_67 (by omega) (good _ (by omega) ?_))) (fun m1 => z_c (fun m2 => sg_Tree_childrenOf (k_Row_at q_row_69 (by omega) (good _ (by omega) ?_))) (fun m2 => z_c (fun m3 => sg_Tree_measureOf (k_Row_at q_row_71 (by omega) (good _ (by omega) ?_))) (fun m3 => ?_))))
  · rw [if_pos m0, zT_in x0 (by omega)]
  · rw [if_neg m0, if_pos m1, zT_in x0 (by omega)]
  · rw [if_neg m0, if_neg m1, if_pos m2, zT_in x0 (by omega)]
  · rw [if_neg m0, if_neg m1, if_neg m2, zT_in x0 (by omega)]
  · exact k_mm_node H C zSm_rf (fun n => absurd ⟨x0, lt⟩ n) (fun _ _ _ s I e => q_fin e (fun z => absurd z (by decide)) I) (fun _ _ u w => by omega)
theorem o_child (H : zIv X s) : O_child (zIv X) X x1 x2 s := by
  unfold O_child
  refine k_W_child (sg_T_child (k_growI H (fun a H C f => ?_)))
  have W := C.rw H
  obtain ⟨w1, w2, w3, w4, w5, w6⟩ := W.sz
  obtain ⟨⟨b0, R0, _, _⟩, _⟩ := C a H.same
  have nd0 := R0.nd.2
  -- the model
  have mod : ∀ (b : qM) (Q : Int → qM → Prop) (r : Int), zSm a b → (¬ (0 ≤ x1 ∧ x1 < a 65 1 ∧ 0 ≤ x2 ∧ x2 < a 70 x1) → ∀ s, zIv X s → s 113 47 = 1 → Q 0 s) → (0 ≤ x1 → x1 < a 65 1 → 0 ≤ x2 → x2 < a 70 x1 → (∀ b' : qM, (∀ i, 0 ≤ i → i < a 65 1 → a 68 i = b' 132 i) → ∀ KI : Int → qM → Prop, KI r b' → L_m_child_53 X x1 x2 x1 (-1) b' KI) ∧ ∀ s, zIv X s → s 113 47 = 0 → s 161 = b 161 → Q r s) → c_m_child X x1 x2 b Q := by
    intro b Q r S out good
    refine sg_m_child (k_q_trees H C S (fun b' R I' e47 fr => ?_))
    obtain ⟨e20, nd⟩ := R.nd
    rw [e20]
    have o1 := fun n => out n (q_up b' 113 47 1) (I'.sm (zSm_47 zSm_rf)) q_up_at
    refine ⟨by omega, k_m_isIn (fun u w => z_f (by decide) ?_) (fun n => z_t rfl (k_m_can (fun _ => z_f (by decide) (o1 (fun z => n ⟨z.1, by omega⟩))) (fun z => absurd z (by decide))))⟩
    obtain ⟨q1, q2, q3, q4, q5, q6, q7, q8⟩ := nd x1 u (by omega)
    refine ⟨u, by omega, by omega, k_m_isIn (fun u2 w2 => z_f (by decide) (k_m_can (fun z => absurd rfl z) (fun _ => z_t (by decide) ?_))) (fun n => z_t rfl (k_m_can (fun _ => z_f (by decide) (o1 (fun z => n ⟨z.2.2.1, by omega⟩))) (fun z => absurd z (by decide))))⟩
    obtain ⟨g1, g2⟩ := good u (by omega) u2 (by omega)
    refine g1 (q_up b' 113 47 0) (fun i i0 iv => ?_) Q (g2 _ (I'.sm (zSm_47 zSm_rf)) q_up_at (by rw [q_up_ne (by decide)]; exact fr 161 (by omega)))
    rw [q_up_ne (by decide)]; exact (nd i i0 iv).2.1
  have out : ¬ (0 ≤ x1 ∧ x1 < a 65 1 ∧ 0 ≤ x2 ∧ x2 < a 70 x1) → c_m_child X x1 x2 a (fun y s2 => c_m_thrown X s2 (fun e s3 => e = 1 ∧ ((1 : Int) = 0 → s3 161 0 = y) ∧ zIv X s3)) := fun n =>
    mod a _ 0 zSm_rf (fun _ s I e => q_fin e (fun z => absurd z (by decide)) I) (fun u w u2 w2 => absurd ⟨u, w, u2, w2⟩ n)
  refine z_c (fun n => out (by omega)) (fun n => sg_Tree_size (k_Row_size q_row_65 (z_c (fun lt => z_c (fun n2 => out (by omega)) (fun n2 => sg_Tree_childrenOf (k_Row_at q_row_69 (by omega) ?_))) (fun lt => out (by omega)))))
  rw [zT_in (by omega) (by omega), show a (69 + 1) x1 = a 70 x1 from rfl]
  refine z_c (fun l2 => ?_) (fun l2 => out (by omega))
  have e68 : ∀ i, 0 ≤ i → i < a 65 1 → a 68 i < i := fun i u w => by have q := nd0 i u w; rw [q.2.1]; exact q.2.2.2.2.1
  have kc : a 70 x1 = zKid (a 68) x1 (a 65 1).toNat := by
    have q := nd0 x1 (by omega) lt
    rw [q.2.2.1, q.2.2.2.2.2.1]
    exact (zKid_congr _ (fun i hi => (nd0 i (by omega) (by omega)).2.1)).symm
  obtain ⟨r, c1, c2⟩ := k_child (X := X) W (show 0 ≤ x1 by omega) lt (show 0 ≤ x2 by omega) l2 e68 kc
  exact c1 _ (mod (q_up a 161 0 r) _ r (zSm_out zSm_rf) (fun n => absurd ⟨by omega, lt, by omega, l2⟩ n) (fun _ _ _ _ => ⟨c2, fun s I e o => q_fin e (fun _ => by rw [o, q_up_at]) I⟩))
theorem o_count (H : zIv X s) : O_count (zIv X) X x1 s := by
  unfold O_count
  have out : ¬ (0 ≤ x1 ∧ x1 ≤ 12) → c_m_count X x1 s (fun y s2 => c_m_thrown X s2 (fun e s3 => e = 1 ∧ ((1 : Int) = 0 → s3 161 0 = y) ∧ zIv X s3)) := fun n =>
    sg_m_count (k_m_isIn (fun u w => absurd ⟨u, w⟩ n) (fun _ => z_t rfl (k_m_can (fun _ => z_f (by decide) (q_fin q_up_at (fun z => absurd z (by decide)) (H.sm (zSm_47 zSm_rf)))) (fun z => absurd z (by decide)))))
  refine k_W_count (sg_T_count (z_c (fun n => out (by omega)) (fun n => z_c (fun l => k_growI H (fun a H C f => ?_)) (fun l => out (by omega)))))
  obtain ⟨r, c1, c2⟩ := k_count (X := X) (k := x1) (C.rw H)
  refine c1 _ (sg_m_count (k_m_isIn (fun u w => z_f (by decide) (k_m_can (fun z => absurd rfl z) (fun _ => z_t (by decide) ?_))) (fun n2 => absurd ⟨by omega, by omega⟩ n2)))
  refine k_q_trees H C (zSm_47 (zSm_out zSm_rf)) (fun b' R I' e47 fr => ?_)
  obtain ⟨e20, nd⟩ := R.nd
  refine c2 b' e20 (fun i u w => (nd i u w).1) _ (q_fin (by rw [e47, q_up_at]) (fun _ => ?_) (I'))
  rw [fr 161 (by omega), q_up_ne (by decide), q_up_at]
theorem o_owner (H : zIv X s) : O_owner (zIv X) X x1 s := by
  unfold O_owner
  refine k_W_owner (sg_T_owner (k_growI H (fun a H C f => ?_)))
  have W := C.rw H
  obtain ⟨⟨b0, R0, _, _⟩, _⟩ := C a H.same
  obtain ⟨e33, l1, ow⟩ := R0.ow
  have tx := H.tx
  obtain ⟨t1, t2, t3, t4⟩ := tx
  have mod : ∀ (b : qM) (Q : Int → qM → Prop), zSm a b → (¬ (0 ≤ x1 ∧ x1 < a 1 1) → ∀ s, zIv X s → s 113 47 = 1 → Q 0 s) → (0 ≤ x1 → x1 < a 1 1 → ∀ s, zIv X s → s 113 47 = 0 → s 161 = b 161 → Q (a 82 (a 34 x1)) s) → c_m_owner X x1 b Q := by
    intro b Q S out good
    have e0 : b 113 0 = a 1 1 := by rw [S.2 0 (by decide)]; exact t3
    refine sg_m_owner ?_
    rw [e0]
    refine ⟨by omega, k_m_isIn (fun u w => z_f (by decide) (k_m_can (fun z => absurd rfl z) (fun _ => z_t (by decide) ?_))) (fun n => z_t rfl (k_m_can (fun _ => z_f (by decide) (out (fun z => n ⟨z.1, by omega⟩) _ (H.sm (zSm_47 S)) q_up_at)) (fun z => absurd z (by decide))))⟩
    refine k_q_trees H C (zSm_47 S) (fun b' R I' e47 fr => ?_)
    obtain ⟨_, _, ow'⟩ := R.ow
    obtain ⟨q1, q2, q3, q4⟩ := ow' x1 u (by omega)
    have z := W.zz
    rw [← q1, ← q4]
    exact ⟨u, by omega, q2, by omega, good u (by omega) b' I' (by rw [e47, q_up_at]) (by rw [fr 161 (by omega), q_up_ne (by decide)])⟩
  have out : ¬ (0 ≤ x1 ∧ x1 < a 1 1) → c_m_owner X x1 a (fun y s2 => c_m_thrown X s2 (fun e s3 => e = 1 ∧ ((1 : Int) = 0 → s3 161 0 = y) ∧ zIv X s3)) := fun n =>
    mod a _ zSm_rf (fun _ s I e => q_fin e (fun z => absurd z (by decide)) I) (fun u w => absurd ⟨u, w⟩ n)
  refine z_c (fun n => out (by omega)) (fun n => k_Row_size q_row_1 (z_c (fun lt => sg_Blocks_ownerAt (k_Row_at q_row_33 (by omega) ?_)) (fun lt => out (by omega))))
  have o := ow x1 (by omega) lt
  have z := W.zz
  rw [zT_in (by omega) (by omega), show a (33 + 1) x1 = a 34 x1 from rfl]
  refine sg_Tree_numberOf (k_Row_at q_row_81 (by omega) ?_)
  rw [zT_in o.2.1 (by omega)]
  exact mod (q_up a 161 0 (a 82 (a 34 x1))) _ (zSm_out zSm_rf) (fun n => absurd ⟨by omega, lt⟩ n) (fun _ _ s I e o => q_fin e (fun _ => by rw [o, q_up_at]) I)
theorem o_leads (H : zIv X s) : O_leads (zIv X) X x1 s := by
  unfold O_leads
  refine k_W_leads (sg_T_leads (k_growI H (fun a H C f => ?_)))
  have W := C.rw H
  obtain ⟨w1, w2, w3, w4, w5, w6⟩ := W.sz
  have wz := W.zz
  obtain ⟨⟨b0, R0, _, _⟩, _⟩ := C a H.same
  have mod : ∀ (b : qM) (Q : Int → qM → Prop), zSm a b → (¬ (0 ≤ x1 ∧ x1 < a 65 1) → ∀ s, zIv X s → s 113 47 = 1 → Q 0 s) → (0 ≤ x1 → x1 < a 65 1 → a 66 x1 ≠ 12 → ∀ s, zIv X s → s 113 47 = 2 → Q 0 s) → (0 ≤ x1 → x1 < a 65 1 → a 66 x1 = 12 → ∀ s, zIv X s → s 113 47 = 0 → s 161 = b 161 → Q (a 82 (zBlk a x1)) s) → c_m_leads X x1 b Q := by
    intro b Q S out bad good
    refine sg_m_leads (k_q_trees H C S (fun b' R I' e47 fr => ?_))
    obtain ⟨e20, nd⟩ := R.nd
    rw [e20]
    refine ⟨by omega, k_m_isIn (fun u w => z_t (by decide) ⟨u, by omega, ?_⟩) (fun n => z_f (by decide) (k_m_can (fun _ => z_f (by decide) (out (fun z => n ⟨z.1, by omega⟩) _ (I'.sm (zSm_47 zSm_rf)) q_up_at)) (fun z => absurd z (by decide))))⟩
    have q := (nd x1 u (by omega)).1
    rw [← q]
    refine z_c (fun n12 => k_m_can (fun _ => z_f (by decide) (bad u (by omega) n12 _ (I'.sm (zSm_47 zSm_rf)) q_up_at)) (fun z => absurd z (by decide))) (fun e12 => k_m_can (fun z => absurd rfl z) (fun _ => z_t (by decide) ⟨u, by omega, ?_⟩))
    have e12 := Decidable.not_not.mp e12
    obtain ⟨_, _, _, k1, k2, k3, k4⟩ := R.lk u (by omega) e12
    have g := good u (by omega) e12 (q_up b' 113 47 0) (I'.sm (zSm_47 zSm_rf)) q_up_at (by rw [q_up_ne (by decide)]; exact fr 161 (by omega))
    rw [show q_up b' 113 47 0 136 = b' 136 from q_up_ne (by decide), show q_up b' 113 47 0 137 = b' 137 from q_up_ne (by decide), ← k1, ← k4]
    exact ⟨k2, by omega, g⟩
  have out : ¬ (0 ≤ x1 ∧ x1 < a 65 1) → c_m_leads X x1 a (fun y s2 => c_m_thrown X s2 (fun e s3 => e = 1 ∧ ((1 : Int) = 0 → s3 161 0 = y) ∧ zIv X s3)) := fun n =>
    mod a _ zSm_rf (fun _ s I e => q_fin e (fun z => absurd z (by decide)) I) (fun u w _ => absurd ⟨u, w⟩ n) (fun u w _ => absurd ⟨u, w⟩ n)
  refine z_c (fun n => out (by omega)) (fun n => sg_Tree_size (k_Row_size q_row_65 (z_c (fun lt => sg_Tree_kindOf (k_Row_at q_row_65 (by omega) ?_)) (fun lt => out (by omega)))))
  have x0 : 0 ≤ x1 := by omega
  rw [zT_in x0 (by omega), show a (65 + 1) x1 = a 66 x1 from rfl]
  refine z_c (fun e12 => sg_Tree_signOf (k_Row_at q_row_73 (by omega) ?_)) (fun n12 => ?_)
  · rw [zT_in x0 (by omega), show a (73 + 1) x1 = a 74 x1 from rfl]
    obtain ⟨c1, c2, c3, k1, k2, k3, k4⟩ := R0.lk x0 lt e12
    have fin : c_Tree_numberOf X (zBlk a x1) a (fun r11 s10 => c_m_leads X x1 (q_up s10 161 0 r11) (fun y s2 => c_m_thrown X s2 (fun e s3 => e = 0 ∧ ((0 : Int) = 0 → s3 161 0 = y) ∧ zIv X s3))) := by
      refine sg_Tree_numberOf (k_Row_at q_row_81 (by omega) ?_)
      rw [zT_in k2 (by omega)]
      exact mod (q_up a 161 0 (a 82 (zBlk a x1))) _ (zSm_out zSm_rf) (fun n => absurd ⟨x0, lt⟩ n) (fun _ _ n => absurd e12 n) (fun _ _ _ s I e o => q_fin e (fun _ => by rw [o, q_up_at]) I)
    unfold zBlk at fin
    refine sg_Blocks_linkedBlock (z_c (fun l4 => ⟨by omega, sg_Names_blockAt q_names_35 (k_Row_at q_row_37 (by omega) ?_)⟩) (fun l4 => ⟨by omega, sg_Names_blockAt q_names_39 (k_Row_at q_row_41 (by omega) ?_)⟩))
    · rw [if_pos l4] at fin
      rw [zT_in (by omega) (by omega)]; exact fin
    · rw [if_neg l4] at fin
      rw [zT_in (by omega) (by omega)]; exact fin
  · exact mod a _ zSm_rf (fun n => absurd ⟨x0, lt⟩ n) (fun _ _ _ s I e => q_fin e (fun z => absurd z (by decide)) I) (fun _ _ e => absurd e n12)
/-- the model's print -/
theorem k_mm_prints (H : zIv X a) (C : zCc X a) (S : zSm a b) {K : qM → Prop} {r : Nat} (hr : (r = 84 ∧ x1 = 0) ∨ (r = 86 ∧ x1 = 1)) (h : ∀ g, zIv X g → g 113 47 = b 113 47 → g 161 = b 161 → g 113 45 = a r 1 → 0 ≤ a r 1 → a r 1 ≤ 1927 → (∀ i, 0 ≤ i → i < a r 1 → g 151 i = a (r + 1) i) → K g) : c_m_prints X x1 b K := by
  refine sg_m_prints (k_q_trees H C S (fun b' R I' e47 fr s2 e2 => ?_))
  have pq : zPq X a b' r x1 := by
    rcases hr with ⟨z1, z2⟩ | ⟨z1, z2⟩
    · rw [z1, z2]; exact R.pq.1
    · rw [z1, z2]; exact R.pq.2
  obtain ⟨g, W, f, fj, p1, p2, p3, p4⟩ := pq
  rw [e2]
  refine W K (h g (I'.fr (fun r hr => f r (by omega) (by omega)) (fj 0 (by decide))) ?_ ?_ p1.symm p2 p3 (fun i u w => (p4 i u w).symm))
  · rw [fj 47 (by decide), e47]
  · rw [f 161 (by decide) (by decide), fr 161 (by omega)]
theorem o_print (H : zIv X s) : O_print (zIv X) X x1 s := by
  unfold O_print
  refine k_W_print ?_
  have go : ∀ r : Nat, ((r = 84 ∧ x1 = 0) ∨ (r = 86 ∧ x1 = 1)) → q_isRow r 1927 → ∀ a, zIv X a → zCc X a → (q_tag S0 r = some 13) ∧ c_Row_size X r a (fun r5 s4 => c_m_print X x1 (q_up s4 161 0 r5) (fun y s2 => c_m_thrown X s2 (fun e s3 => e = 0 ∧ ((0 : Int) = 0 → s3 161 0 = y) ∧ zIv X s3))) := by
    intro r hr qr a H C
    refine ⟨?_, k_Row_size qr (sg_m_print (k_m_isIn (fun u w => z_f (by decide) (k_m_can (fun z => absurd rfl z) (fun _ => z_t (by decide) ?_))) (fun n => absurd ⟨by omega, by omega⟩ n)))⟩
    · rcases hr with z | z
      · rw [z.1]; rfl
      · rw [z.1]; rfl
    · exact k_mm_prints H C (zSm_47 (zSm_out zSm_rf)) hr (fun g I e47 e161 e45 _ _ _ => q_fin (by rw [e47, q_up_at]) (fun _ => by rw [e161, q_up_ne (by decide), q_up_at, e45]) I)
  refine sg_T_print (z_c (fun z => k_growI H (fun a H C f => sg_Printer_of (z_f (fun y => y z) (go 84 (Or.inl ⟨rfl, z⟩) q_row_84 a H C)))) (fun z => z_c (fun z1 => k_growI H (fun a H C f => sg_Printer_of (z_t (by omega) (go 86 (Or.inr ⟨rfl, z1⟩) q_row_86 a H C)))) (fun z1 => ?_)))
  exact sg_m_print (k_m_isIn (fun u w => by omega) (fun _ => z_t rfl (k_m_can (fun _ => z_f (by decide) (q_fin q_up_at (fun z => absurd z (by decide)) (H.sm (zSm_47 zSm_rf)))) (fun z => absurd z (by decide)))))
theorem o_printed (H : zIv X s) : O_printed (zIv X) X x1 x2 s := by
  unfold O_printed
  refine k_W_printed ?_
  have mod : ∀ (r : Nat), ((r = 84 ∧ x1 = 0) ∨ (r = 86 ∧ x1 = 1)) → ∀ (a b : qM) (Q : Int → qM → Prop), zIv X a → zCc X a → zSm a b → (¬ (0 ≤ x2 ∧ x2 < a r 1) → ∀ s, zIv X s → s 113 47 = 2 → Q 0 s) → (0 ≤ x2 → x2 < a r 1 → ∀ s, zIv X s → s 113 47 = 0 → s 161 = b 161 → Q (a (r + 1) x2) s) → c_m_printed X x1 x2 b Q := by
    intro r hr a b Q H C S out good
    refine sg_m_printed (k_m_isIn (fun u w => z_f (by decide) ?_) (fun n => absurd ⟨by omega, by omega⟩ n))
    refine sg_m_printed_15 (k_m_can (fun z => absurd rfl z) (fun _ => z_t (by decide) (k_mm_prints H C (zSm_47 S) hr (fun g I e47 e161 e45 l0 l1 eq => ?_))))
    rw [e45]
    refine ⟨by omega, k_m_isIn (fun u w => z_f (by decide) (k_m_can (fun z => absurd rfl z) (fun _ => z_f (by decide) ⟨u, by omega, ?_⟩))) (fun n => z_t rfl (k_m_can (fun _ => z_t rfl (out (fun z => n ⟨z.1, by omega⟩) _ (I.sm (zSm_47 zSm_rf)) q_up_at)) (fun z => absurd z (by decide))))⟩
    rw [show q_up g 113 47 0 151 = g 151 from q_up_ne (by decide), eq x2 u (by omega)]
    exact good u (by omega) _ (I.sm (zSm_47 zSm_rf)) q_up_at (by rw [q_up_ne (by decide), e161, q_up_ne (by decide)])
  have go : ∀ r : Nat, ((r = 84 ∧ x1 = 0) ∨ (r = 86 ∧ x1 = 1)) → q_isRow r 1927 → q_tag S0 r = some 13 → ∀ a, zIv X a → zCc X a → (((x2 < 0) → c_m_printed X x1 x2 a (fun y s2 => c_m_thrown X s2 (fun e s3 => e = 2 ∧ ((2 : Int) = 0 → s3 161 0 = y) ∧ zIv X s3))) ∧ (¬ (x2 < 0) → (q_tag S0 r = some 13) ∧ c_Row_size X r a (fun r5 s4 => (((x2 < r5) → (q_tag S0 r = some 13) ∧ c_Row_at X r x2 s4 (fun r7 s6 => c_m_printed X x1 x2 (q_up s6 161 0 r7) (fun y s2 => c_m_thrown X s2 (fun e s3 => e = 0 ∧ ((0 : Int) = 0 → s3 161 0 = y) ∧ zIv X s3)))) ∧ (¬ (x2 < r5) → c_m_printed X x1 x2 s4 (fun y s2 => c_m_thrown X s2 (fun e s3 => e = 2 ∧ ((2 : Int) = 0 → s3 161 0 = y) ∧ zIv X s3))))))) := by
    intro r hr qr tg a H C
    obtain ⟨⟨b0, R0, _, _⟩, _⟩ := C a H.same
    have bd : a r 1 ≤ 1927 := by
      rcases hr with z | z
      · rw [z.1]; obtain ⟨g, _, _, _, _, _, q, _⟩ := R0.pq.1; exact q
      · rw [z.1]; obtain ⟨g, _, _, _, _, _, q, _⟩ := R0.pq.2; exact q
    have out : ¬ (0 ≤ x2 ∧ x2 < a r 1) → c_m_printed X x1 x2 a (fun y s2 => c_m_thrown X s2 (fun e s3 => e = 2 ∧ ((2 : Int) = 0 → s3 161 0 = y) ∧ zIv X s3)) := fun n =>
      mod r hr a a _ H C zSm_rf (fun _ s I e => q_fin e (fun z => absurd z (by decide)) I) (fun u w => absurd ⟨u, w⟩ n)
    refine z_c (fun n => out (by omega)) (fun n => ⟨tg, k_Row_size qr (z_c (fun lt => ⟨tg, k_Row_at qr bd ?_⟩) (fun lt => out (by omega)))⟩)
    rw [zT_in (by omega) lt]
    exact mod r hr a (q_up a 161 0 (a (r + 1) x2)) _ H C (zSm_out zSm_rf) (fun n => absurd ⟨by omega, lt⟩ n) (fun _ _ s I e o => q_fin e (fun _ => by rw [o, q_up_at]) I)
  refine sg_T_printed (z_c (fun z => k_growI H (fun a H C f => sg_Printer_of (z_f (fun y => y z) (go 84 (Or.inl ⟨rfl, z⟩) q_row_84 rfl a H C)))) (fun z => z_c (fun z1 => k_growI H (fun a H C f => sg_Printer_of (z_t (by omega) (go 86 (Or.inr ⟨rfl, z1⟩) q_row_86 rfl a H C)))) (fun z1 => ?_)))
  exact sg_m_printed (k_m_isIn (fun u w => by omega) (fun _ => z_t rfl (sg_m_printed_15 (k_m_can (fun _ => z_f (by decide) (q_fin q_up_at (fun z => absurd z (by decide)) (H.sm (zSm_47 zSm_rf)))) (fun z => absurd z (by decide))))))
end Query
