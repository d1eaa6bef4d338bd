/-! The tree: a block's node, in both. -/
section Block2
variable {X : Nat × (Nat → Int32)} {a b a' b' a1 b1 : qM} {K : Int → qM → Prop} {KV : qM → Prop} {v C D N LL n k e κ par τ σ : Int} {t : Int → Int}
/-- what the class's addBlock does -/
def zNc (a a' : qM) (v k κ par τ σ C : Int) : Prop := ∃ a1, zNa a a1 v κ par σ C ∧ a' = q_up (q_up (q_up a1 72 v τ) 82 k v) 81 1 (k + 1)
theorem k_Tree_addBlock (T : zTr a b v C D) (v2 : v ≤ 481) (h81 : a 81 1 = k) (k0 : 0 ≤ k) (k2 : k ≤ 481) (B : zB a b n) (kn : k < n) (n2 : n ≤ 482) (hq : b 118 k = -1 ∨ (0 ≤ b 118 k ∧ b 118 k < k)) (h82 : 0 ≤ b 118 k → a 82 (b 118 k) = b 137 (b 118 k)) (hp : zPr b k = -1 ∨ (0 ≤ zPr b k ∧ zPr b k < v)) (h : ∀ a', zNc a a' v k (b 117 k) (zPr b k) (zTd b k) (zSn b k) C → K v a') : c_Tree_addBlock X k a K := by
  obtain ⟨t1, t2, t3, t4, t5, t6, t7, t8, t9, t10, t11, t12, t13⟩ := T.sz
  obtain ⟨r13, r15, _, _, r21, _, _, r27, _⟩ := B.rows
  obtain ⟨kd1, kd2, kd3, kd4⟩ := B.kd k k0 kn
  obtain ⟨m3, m4, m2, m5, mo⟩ := B.ms k k0 kn
  have c70 : 0 ≤ zPr b k → 0 ≤ a 70 (zPr b k) ∧ a 70 (zPr b k) ≤ 1000 := fun p0 => by
    have pv : zPr b k < v := by rcases hp with z | z; · { omega }; · { exact z.2 }
    obtain ⟨_, _, q3, _, _, _, _, _, q5, q6⟩ := T.nd _ p0 pv
    rw [q3]; exact ⟨q5, by omega⟩
  have e13 : zT a 13 k = b 117 k := by rw [zT_in k0 (by omega)]; exact kd1
  have e15 : zT a 15 k = b 118 k := by rw [zT_in k0 (by omega)]; exact kd4
  have e81 : zT a 81 (b 118 k) = zPr b k := by
    unfold zPr
    rcases hq with z | z
    · rw [z, if_pos rfl, zT_out (by omega)]
    · rw [if_neg (by omega), zT_in z.1 (by omega)]; exact h82 z.1
  -- behind the measure
  have go : ∀ (σ : Int), σ = zSn b k → c_Blocks_parentOf X k a (fun r6 s5 => c_Row_at X 81 r6 s5 (fun r8 s7 => c_Tree_add X (b 117 k) r8 σ s7 (fun r10 s9 => c_Row_set X 71 r10 (zTd b k) s9 (fun s11 => c_Row_add X 81 r10 s11 (fun s12 => K r10 s12))))) := by
    intro σ es
    refine sg_Blocks_parentOf (k_Row_at q_row_15 (by omega) ?_)
    rw [e15]
    refine k_Row_at q_row_81 (by omega) ?_
    rw [e81, es]
    refine k_Tree_add ⟨t1, t2, t3, t4, t5, t6, t7, t8⟩ t11 (by omega) hp c70 (fun a1 A1 => ?_)
    obtain ⟨u1, u2, u3, u4, u5, u6, u7⟩ := A1.sz
    have z81 : a1 81 = a 81 := A1.fr 81 (by decide)
    refine k_Row_set q_row_71 (by omega) (fun _ _ => ?_) (fun z => absurd ⟨t11, by omega⟩ z)
    generalize e2 : q_up a1 (71 + 1) v (zTd b k) = a2
    have y81 : a2 81 1 = k := by rw [← e2, q_up_ne (by decide), z81]; exact h81
    refine k_Row_add q_row_81 (by omega) (by omega) ?_
    rw [y81]
    exact h _ ⟨a1, A1, by rw [← e2]⟩
  refine sg_Tree_addBlock (sg_Blocks_kindOf (k_Row_at q_row_13 (by omega) ?_))
  rw [e13]
  have meas : ∀ F : Int → qM → Prop, F (zTd b k) a → c_Blocks_measureOf X k a F := by
    intro F hF
    refine sg_Blocks_measureOf (k_Row_at q_row_13 (by omega) ?_)
    rw [e13]
    unfold zTd at hF
    refine z_c (fun n5 => k_Row_at q_row_21 (by omega) ?_) (fun y5 => k_Row_at q_row_27 (by omega) ?_)
    · rw [zT_in k0 (by omega)]
      by_cases e4 : b 117 k = 4
      · rw [if_pos (Or.inl e4)] at hF; rw [show a (21 + 1) k = b 120 k from (m4 e4).1]; exact hF
      · by_cases e3 : b 117 k = 3
        · rw [if_pos (Or.inr e3)] at hF; rw [show a (21 + 1) k = b 120 k from (m3 e3).1]; exact hF
        · rw [if_neg (fun z => z.elim e4 e3), if_neg n5] at hF
          by_cases e2 : b 117 k = 2
          · rw [if_pos e2] at hF; rw [show a (21 + 1) k = b 121 k from (m2 e2).1]; exact hF
          · rw [if_neg e2] at hF; rw [show a (21 + 1) k = 0 from mo e2 e3 e4]; exact hF
    · have y5 := Decidable.not_not.mp y5
      rw [if_neg (by omega), if_pos y5] at hF
      rw [zT_in k0 (by omega), show a (27 + 1) k = b 123 k from m5 y5]; exact hF
  refine meas _ ?_
  refine z_c (fun n4 => z_c (fun n2 => go (-1) ?_) (fun y2 => go (zTd b k) ?_)) (fun y4 => ⟨?_, go (100 + zTd b k) ?_⟩)
  · unfold zSn; rw [if_neg n4, if_neg n2]
  · unfold zSn; rw [if_neg n4, if_pos (Decidable.not_not.mp y2)]
  · have y4 := Decidable.not_not.mp y4
    unfold zTd; rw [if_pos (Or.inl y4)]; have := m4 y4; omega
  · unfold zSn; rw [if_pos (Decidable.not_not.mp y4)]
theorem zFn.fr {i j : Int} (F : zFn a b t i j) (e78 : a' 78 i = a 78 i) (e76 : a' 76 i = a 76 i) (e80 : ∀ x, x < a 76 i + a 78 i → a' 80 x = a 80 x) (fa : ∀ r, r < 43 → a' r = a r) (f117 : b' 117 = b 117) (nn : ∀ l, zF a b j ≤ l → l < zF a b j + a 28 j → a 30 l ≤ a 11 l) (k1 : 4 ≤ b 117 j ∧ b 117 j ≤ 6) : zFn a' b' t i j := by
  have ez : zF a' b' j = zF a b j := by unfold zF; rw [fa 26 (by decide), f117]
  have eu : zU1 a' b' j = zU1 a b j := by unfold zU1; rw [ez, fa 28 (by decide), fa 30 (by decide), fa 11 (by decide), f117]
  have eu2 : zU1 a b j = zW (a 30) (a 11) (zF a b j) (a 28 j).toNat := by unfold zU1; rw [if_pos k1]
  obtain ⟨F1, F2⟩ := F
  refine ⟨by rw [e78, eu]; exact F1, fun e he => ?_⟩
  rw [fa 28 (by decide)] at he
  have h := F2 e he
  have zm := zW_mono (C := a 30) (F := a 11) (f := zF a b j) (i := e + 1) (k := (a 28 j).toNat) (fun l u w => nn l u (by omega)) (by omega)
  have zi : zW (a 30) (a 11) (zF a b j) (e + 1) = zW (a 30) (a 11) (zF a b j) e + (a 11 (zF a b j + e) - a 30 (zF a b j + e) + 1) := rfl
  rw [ez, fa 11 (by decide), fa 30 (by decide), e76]
  refine ⟨fun x x0 xl => ?_, ?_⟩
  · rw [e80 _ (by omega)]; exact h.1 x x0 xl
  · rw [e80 _ (by omega)]; exact h.2
end Block2
