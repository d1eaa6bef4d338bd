/-! Segments, by program (wip/tools/seg.py). -/
set_option maxRecDepth 20000 in
theorem sg_m_givesLines {X : Nat × (Nat → Int32)} {x1 : Int} {s : qM} {K : qM → Prop} (h : L_m_givesLines_2 X x1 0 s K) : c_m_givesLines X x1 s K := by
  unfold c_m_givesLines
  refine w_const (p' := 1) rfl rfl rfl ?_
  refine w_istore (p' := 2) (ls' := [some (.inr (.inr (.inl (some 113)))), some (.inl x1), some (.inl 0), none]) rfl rfl rfl (Nat.le_of_ble_eq_true rfl) rfl ?_
  exact w_cut (q_le_s (q_le_s (q_le_s (q_le_n q_le_z)))) h
set_option maxRecDepth 20000 in
theorem sg_m_givesLines_2 {X : Nat × (Nat → Int32)}  {v1 v2 : Int} {s : qM} {K : qM → Prop} (h : ((((s 113 17) ≤ v2) → K s) ∧ (¬ ((s 113 17) ≤ v2) → ((0 : Int) ≤ v2) ∧ (v2 < (241 : Int)) ∧ ((((s 124 v2) ≠ v1) → (-2147483648 ≤ (v2 + 1) ∧ (v2 + 1) < 2147483648) ∧ L_m_givesLines_2 X v1 (v2 + 1) s K) ∧ (¬ ((s 124 v2) ≠ v1) → ((0 : Int) ≤ v2) ∧ (v2 < (241 : Int)) ∧ L_m_givesLines_27 X v1 v2 (s 125 v2) s K))))) : L_m_givesLines_2 X v1 v2 s K := by
  unfold L_m_givesLines_2
  refine w_iload (p' := 3) rfl rfl rfl rfl ?_
  refine w_aload (p' := 4) rfl rfl rfl rfl ?_
  refine w_getI (p' := 7) (j := 17) rfl rfl (by decide) rfl rfl ?_
  refine w_icmp (t := 65) (e := 10) rfl rfl rfl (fun e => ?_) (fun e => ?_)
  · have h := h.1 e
    exact w_vret rfl ⟨rfl, rfl, h⟩
  · have h := h.2 e
    refine w_aload (p' := 11) rfl rfl rfl rfl ?_
    refine w_getR (p' := 14) rfl rfl rfl rfl rfl ?_
    refine w_iload (p' := 15) rfl rfl rfl rfl ?_
    refine w_iald (p' := 16) (N := 241) rfl rfl rfl rfl h.1 h.2.1 ?_
    have h := h.2.2
    refine w_iload (p' := 17) rfl rfl rfl rfl ?_
    refine w_icmp (t := 59) (e := 20) rfl rfl rfl (fun e => ?_) (fun e => ?_)
    · have h := h.1 e
      refine w_iinc (p' := 62) (ls' := [some (.inr (.inr (.inl (some 113)))), some (.inl v1), some (.inl (v2 + 1)), none]) rfl rfl rfl (Nat.le_of_ble_eq_true rfl) h.1 rfl ?_
      have h := h.2
      refine w_goto (p' := 2) rfl rfl ?_
      exact w_cut (q_le_s (q_le_s (q_le_s (q_le_n q_le_z)))) h
    · have h := h.2 e
      refine w_aload (p' := 21) rfl rfl rfl rfl ?_
      refine w_getR (p' := 24) rfl rfl rfl rfl rfl ?_
      refine w_iload (p' := 25) rfl rfl rfl rfl ?_
      refine w_iald (p' := 26) (N := 241) rfl rfl rfl rfl h.1 h.2.1 ?_
      have h := h.2.2
      refine w_istore (p' := 27) (ls' := [some (.inr (.inr (.inl (some 113)))), some (.inl v1), some (.inl v2), some (.inl (s 125 v2))]) rfl rfl rfl (Nat.le_of_ble_eq_true rfl) rfl ?_
      exact w_cut (q_le_s (q_le_s (q_le_s (q_le_s q_le_z)))) h
set_option maxRecDepth 20000 in
theorem sg_m_givesLines_27 {X : Nat × (Nat → Int32)}  {v1 v2 v3 : Int} {s : qM} {K : qM → Prop} (h : ((0 : Int) ≤ v2) ∧ (v2 < (241 : Int)) ∧ ((((s 126 v2) ≤ v3) → c_m_gives X 10 s (fun s1 => (-2147483648 ≤ (v2 + 1) ∧ (v2 + 1) < 2147483648) ∧ L_m_givesLines_2 X v1 (v2 + 1) s1 K)) ∧ (¬ ((s 126 v2) ≤ v3) → ((0 : Int) ≤ v3) ∧ (v3 < (240 : Int)) ∧ c_m_gives X (s 114 v3) s (fun s2 => (-2147483648 ≤ (v3 + 1) ∧ (v3 + 1) < 2147483648) ∧ L_m_givesLines_27 X v1 v2 (v3 + 1) s2 K)))) : L_m_givesLines_27 X v1 v2 v3 s K := by
  unfold L_m_givesLines_27
  refine w_iload (p' := 28) rfl rfl rfl rfl ?_
  refine w_aload (p' := 29) rfl rfl rfl rfl ?_
  refine w_getR (p' := 32) rfl rfl rfl rfl rfl ?_
  refine w_iload (p' := 33) rfl rfl rfl rfl ?_
  refine w_iald (p' := 34) (N := 241) rfl rfl rfl rfl h.1 h.2.1 ?_
  have h := h.2.2
  refine w_icmp (t := 53) (e := 37) rfl rfl rfl (fun e => ?_) (fun e => ?_)
  · have h := h.1 e
    refine w_aload (p' := 54) rfl rfl rfl rfl ?_
    refine w_const (p' := 56) rfl rfl rfl ?_
    refine v_callV (M' := 107) (p' := 59) (rest := []) (as := [(.inr (.inr (.inl (some 113)))), (.inl 10)]) rfl rfl rfl rfl rfl rfl rfl rfl rfl rfl rfl rfl rfl h (fun s1 h => ?_)
    refine w_iinc (p' := 62) (ls' := [some (.inr (.inr (.inl (some 113)))), some (.inl v1), some (.inl (v2 + 1)), some (.inl v3)]) rfl rfl rfl (Nat.le_of_ble_eq_true rfl) h.1 rfl ?_
    have h := h.2
    refine w_goto (p' := 2) rfl rfl ?_
    exact w_cut (q_le_s (q_le_s (q_le_s (q_le_n q_le_z)))) h
  · have h := h.2 e
    refine w_aload (p' := 38) rfl rfl rfl rfl ?_
    refine w_aload (p' := 39) rfl rfl rfl rfl ?_
    refine w_getR (p' := 42) rfl rfl rfl rfl rfl ?_
    refine w_iload (p' := 43) rfl rfl rfl rfl ?_
    refine w_iald (p' := 44) (N := 240) rfl rfl rfl rfl h.1 h.2.1 ?_
    have h := h.2.2
    refine v_callV (M' := 107) (p' := 47) (rest := []) (as := [(.inr (.inr (.inl (some 113)))), (.inl (s 114 v3))]) rfl rfl rfl rfl rfl rfl rfl rfl rfl rfl rfl rfl rfl h (fun s2 h => ?_)
    refine w_iinc (p' := 50) (ls' := [some (.inr (.inr (.inl (some 113)))), some (.inl v1), some (.inl v2), some (.inl (v3 + 1))]) rfl rfl rfl (Nat.le_of_ble_eq_true rfl) h.1 rfl ?_
    have h := h.2
    refine w_goto (p' := 27) rfl rfl ?_
    exact w_cut (q_le_s (q_le_s (q_le_s (q_le_s q_le_z)))) h
set_option maxRecDepth 20000 in
theorem sg_m_givesBeginning {X : Nat × (Nat → Int32)} {x1 : Int} {x2 : Int} {s : qM} {K : qM → Prop} (h : ((0 : Int) ≤ x1) ∧ (x1 < (900 : Int)) ∧ (((x2 ≠ 0) → ((((s 131 x1) = 8) → L_m_givesBeginning_132 X x1 0 s K) ∧ (¬ ((s 131 x1) = 8) → ((((s 131 x1) ≠ 11) → ((((s 131 x1) ≠ 5) → K s) ∧ (¬ ((s 131 x1) ≠ 5) → ((0 : Int) ≤ x1) ∧ (x1 < (900 : Int)) ∧ c_m_givesLines X (s 135 x1) s (fun s1 => K s1)))) ∧ (¬ ((s 131 x1) ≠ 11) → L_m_givesBeginning_132 X x1 0 s K))))) ∧ (¬ (x2 ≠ 0) → ((((s 131 x1) = 8) → ((((s 131 x1) = 8) → L_m_givesBeginning_132 X x1 0 s K) ∧ (¬ ((s 131 x1) = 8) → ((((s 131 x1) ≠ 11) → ((((s 131 x1) ≠ 5) → K s) ∧ (¬ ((s 131 x1) ≠ 5) → ((0 : Int) ≤ x1) ∧ (x1 < (900 : Int)) ∧ c_m_givesLines X (s 135 x1) s (fun s2 => K s2)))) ∧ (¬ ((s 131 x1) ≠ 11) → L_m_givesBeginning_132 X x1 0 s K))))) ∧ (¬ ((s 131 x1) = 8) → ((((s 131 x1) = 7) → ((((s 131 x1) = 8) → L_m_givesBeginning_132 X x1 0 s K) ∧ (¬ ((s 131 x1) = 8) → ((((s 131 x1) ≠ 11) → ((((s 131 x1) ≠ 5) → K s) ∧ (¬ ((s 131 x1) ≠ 5) → ((0 : Int) ≤ x1) ∧ (x1 < (900 : Int)) ∧ c_m_givesLines X (s 135 x1) s (fun s3 => K s3)))) ∧ (¬ ((s 131 x1) ≠ 11) → L_m_givesBeginning_132 X x1 0 s K))))) ∧ (¬ ((s 131 x1) = 7) → (-2147483648 ≤ (1000 + (s 131 x1)) ∧ (1000 + (s 131 x1)) < 2147483648) ∧ c_m_gives X (1000 + (s 131 x1)) s (fun s4 => ((((s 131 x1) ≠ 4) → ((((s 131 x1) ≠ 2) → ((((s 131 x1) ≠ 12) → ((((s 131 x1) = 8) → L_m_givesBeginning_132 X x1 0 s4 K) ∧ (¬ ((s 131 x1) = 8) → ((((s 131 x1) ≠ 11) → ((((s 131 x1) ≠ 5) → K s4) ∧ (¬ ((s 131 x1) ≠ 5) → ((0 : Int) ≤ x1) ∧ (x1 < (900 : Int)) ∧ c_m_givesLines X (s4 135 x1) s4 (fun s5 => K s5)))) ∧ (¬ ((s 131 x1) ≠ 11) → L_m_givesBeginning_132 X x1 0 s4 K))))) ∧ (¬ ((s 131 x1) ≠ 12) → ((0 : Int) ≤ x1) ∧ (x1 < (900 : Int)) ∧ ((0 : Int) ≤ (s4 136 x1)) ∧ ((s4 136 x1) < (600 : Int)) ∧ ((((s4 117 (s4 136 x1)) ≠ 7) → c_m_ahead X (s4 136 x1) s4 (fun r7 s6 => (-2147483648 ≤ (400 + r7) ∧ (400 + r7) < 2147483648) ∧ c_m_gives X (400 + r7) s6 (fun s8 => ((((s 131 x1) = 8) → L_m_givesBeginning_132 X x1 0 s8 K) ∧ (¬ ((s 131 x1) = 8) → ((((s 131 x1) ≠ 11) → ((((s 131 x1) ≠ 5) → K s8) ∧ (¬ ((s 131 x1) ≠ 5) → ((0 : Int) ≤ x1) ∧ (x1 < (900 : Int)) ∧ c_m_givesLines X (s8 135 x1) s8 (fun s9 => K s9)))) ∧ (¬ ((s 131 x1) ≠ 11) → L_m_givesBeginning_132 X x1 0 s8 K))))))) ∧ (¬ ((s4 117 (s4 136 x1)) ≠ 7) → c_m_ahead X (s4 136 x1) s4 (fun r11 s10 => (-2147483648 ≤ (300 + r11) ∧ (300 + r11) < 2147483648) ∧ c_m_gives X (300 + r11) s10 (fun s12 => ((((s 131 x1) = 8) → L_m_givesBeginning_132 X x1 0 s12 K) ∧ (¬ ((s 131 x1) = 8) → ((((s 131 x1) ≠ 11) → ((((s 131 x1) ≠ 5) → K s12) ∧ (¬ ((s 131 x1) ≠ 5) → ((0 : Int) ≤ x1) ∧ (x1 < (900 : Int)) ∧ c_m_givesLines X (s12 135 x1) s12 (fun s13 => K s13)))) ∧ (¬ ((s 131 x1) ≠ 11) → L_m_givesBeginning_132 X x1 0 s12 K))))))))))) ∧ (¬ ((s 131 x1) ≠ 2) → ((0 : Int) ≤ x1) ∧ (x1 < (900 : Int)) ∧ c_m_gives X (s4 134 x1) s4 (fun s14 => ((((s 131 x1) = 8) → L_m_givesBeginning_132 X x1 0 s14 K) ∧ (¬ ((s 131 x1) = 8) → ((((s 131 x1) ≠ 11) → ((((s 131 x1) ≠ 5) → K s14) ∧ (¬ ((s 131 x1) ≠ 5) → ((0 : Int) ≤ x1) ∧ (x1 < (900 : Int)) ∧ c_m_givesLines X (s14 135 x1) s14 (fun s15 => K s15)))) ∧ (¬ ((s 131 x1) ≠ 11) → L_m_givesBeginning_132 X x1 0 s14 K)))))))) ∧ (¬ ((s 131 x1) ≠ 4) → ((0 : Int) ≤ x1) ∧ (x1 < (900 : Int)) ∧ (-2147483648 ≤ (100 + (s4 134 x1)) ∧ (100 + (s4 134 x1)) < 2147483648) ∧ c_m_gives X (100 + (s4 134 x1)) s4 (fun s16 => ((((s 131 x1) = 8) → L_m_givesBeginning_132 X x1 0 s16 K) ∧ (¬ ((s 131 x1) = 8) → ((((s 131 x1) ≠ 11) → ((((s 131 x1) ≠ 5) → K s16) ∧ (¬ ((s 131 x1) ≠ 5) → ((0 : Int) ≤ x1) ∧ (x1 < (900 : Int)) ∧ c_m_givesLines X (s16 135 x1) s16 (fun s17 => K s17)))) ∧ (¬ ((s 131 x1) ≠ 11) → L_m_givesBeginning_132 X x1 0 s16 K))))))))))))))) : c_m_givesBeginning X x1 x2 s K := by
  unfold c_m_givesBeginning
  refine w_aload (p' := 1) rfl rfl rfl rfl ?_
  refine w_getR (p' := 4) rfl rfl rfl rfl rfl ?_
  refine w_iload (p' := 5) rfl rfl rfl rfl ?_
  refine w_iald (p' := 6) (N := 900) rfl rfl rfl rfl h.1 h.2.1 ?_
  have h := h.2.2
  refine w_istore (p' := 7) (ls' := [some (.inr (.inr (.inl (some 113)))), some (.inl x1), some (.inl x2), some (.inl (s 131 x1)), none]) rfl rfl rfl (Nat.le_of_ble_eq_true rfl) rfl ?_
  refine w_iload (p' := 8) rfl rfl rfl rfl ?_
  refine w_if (t := 117) (e := 11) rfl rfl rfl (fun e => ?_) (fun e => ?_)
  · have h := h.1 e
    refine w_iload (p' := 118) rfl rfl rfl rfl ?_
    refine w_const (p' := 120) rfl rfl rfl ?_
    refine w_icmp (t := 129) (e := 123) rfl rfl rfl (fun e => ?_) (fun e => ?_)
    · have h := h.1 e
      refine w_const (p' := 130) rfl rfl rfl ?_
      refine w_istore (p' := 132) (ls' := [some (.inr (.inr (.inl (some 113)))), some (.inl x1), some (.inl x2), some (.inl (s 131 x1)), some (.inl 0)]) rfl rfl rfl (Nat.le_of_ble_eq_true rfl) rfl ?_
      exact w_cut (q_le_s (q_le_s (q_le_n (q_le_n (q_le_s q_le_z))))) h
    · have h := h.2 e
      refine w_iload (p' := 124) rfl rfl rfl rfl ?_
      refine w_const (p' := 126) rfl rfl rfl ?_
      refine w_icmp (t := 170) (e := 129) rfl rfl rfl (fun e => ?_) (fun e => ?_)
      · have h := h.1 e
        refine w_iload (p' := 171) rfl rfl rfl rfl ?_
        refine w_const (p' := 172) rfl rfl rfl ?_
        refine w_icmp (t := 185) (e := 175) rfl rfl rfl (fun e => ?_) (fun e => ?_)
        · have h := h.1 e
          exact w_vret rfl ⟨rfl, rfl, h⟩
        · have h := h.2 e
          refine w_aload (p' := 176) rfl rfl rfl rfl ?_
          refine w_aload (p' := 177) rfl rfl rfl rfl ?_
          refine w_getR (p' := 180) rfl rfl rfl rfl rfl ?_
          refine w_iload (p' := 181) rfl rfl rfl rfl ?_
          refine w_iald (p' := 182) (N := 900) rfl rfl rfl rfl h.1 h.2.1 ?_
          have h := h.2.2
          refine v_callV (M' := 109) (p' := 185) (rest := []) (as := [(.inr (.inr (.inl (some 113)))), (.inl (s 135 x1))]) rfl rfl rfl rfl rfl rfl rfl rfl rfl rfl rfl rfl rfl h (fun s1 h => ?_)
          exact w_vret rfl ⟨rfl, rfl, h⟩
      · have h := h.2 e
        refine w_const (p' := 130) rfl rfl rfl ?_
        refine w_istore (p' := 132) (ls' := [some (.inr (.inr (.inl (some 113)))), some (.inl x1), some (.inl x2), some (.inl (s 131 x1)), some (.inl 0)]) rfl rfl rfl (Nat.le_of_ble_eq_true rfl) rfl ?_
        exact w_cut (q_le_s (q_le_s (q_le_n (q_le_n (q_le_s q_le_z))))) h
  · have h := h.2 e
    refine w_iload (p' := 12) rfl rfl rfl rfl ?_
    refine w_const (p' := 14) rfl rfl rfl ?_
    refine w_icmp (t := 117) (e := 17) rfl rfl rfl (fun e => ?_) (fun e => ?_)
    · have h := h.1 e
      refine w_iload (p' := 118) rfl rfl rfl rfl ?_
      refine w_const (p' := 120) rfl rfl rfl ?_
      refine w_icmp (t := 129) (e := 123) rfl rfl rfl (fun e => ?_) (fun e => ?_)
      · have h := h.1 e
        refine w_const (p' := 130) rfl rfl rfl ?_
        refine w_istore (p' := 132) (ls' := [some (.inr (.inr (.inl (some 113)))), some (.inl x1), some (.inl x2), some (.inl (s 131 x1)), some (.inl 0)]) rfl rfl rfl (Nat.le_of_ble_eq_true rfl) rfl ?_
        exact w_cut (q_le_s (q_le_s (q_le_n (q_le_n (q_le_s q_le_z))))) h
      · have h := h.2 e
        refine w_iload (p' := 124) rfl rfl rfl rfl ?_
        refine w_const (p' := 126) rfl rfl rfl ?_
        refine w_icmp (t := 170) (e := 129) rfl rfl rfl (fun e => ?_) (fun e => ?_)
        · have h := h.1 e
          refine w_iload (p' := 171) rfl rfl rfl rfl ?_
          refine w_const (p' := 172) rfl rfl rfl ?_
          refine w_icmp (t := 185) (e := 175) rfl rfl rfl (fun e => ?_) (fun e => ?_)
          · have h := h.1 e
            exact w_vret rfl ⟨rfl, rfl, h⟩
          · have h := h.2 e
            refine w_aload (p' := 176) rfl rfl rfl rfl ?_
            refine w_aload (p' := 177) rfl rfl rfl rfl ?_
            refine w_getR (p' := 180) rfl rfl rfl rfl rfl ?_
            refine w_iload (p' := 181) rfl rfl rfl rfl ?_
            refine w_iald (p' := 182) (N := 900) rfl rfl rfl rfl h.1 h.2.1 ?_
            have h := h.2.2
            refine v_callV (M' := 109) (p' := 185) (rest := []) (as := [(.inr (.inr (.inl (some 113)))), (.inl (s 135 x1))]) rfl rfl rfl rfl rfl rfl rfl rfl rfl rfl rfl rfl rfl h (fun s2 h => ?_)
            exact w_vret rfl ⟨rfl, rfl, h⟩
        · have h := h.2 e
          refine w_const (p' := 130) rfl rfl rfl ?_
          refine w_istore (p' := 132) (ls' := [some (.inr (.inr (.inl (some 113)))), some (.inl x1), some (.inl x2), some (.inl (s 131 x1)), some (.inl 0)]) rfl rfl rfl (Nat.le_of_ble_eq_true rfl) rfl ?_
          exact w_cut (q_le_s (q_le_s (q_le_n (q_le_n (q_le_s q_le_z))))) h
    · have h := h.2 e
      refine w_iload (p' := 18) rfl rfl rfl rfl ?_
      refine w_const (p' := 20) rfl rfl rfl ?_
      refine w_icmp (t := 117) (e := 23) rfl rfl rfl (fun e => ?_) (fun e => ?_)
      · have h := h.1 e
        refine w_iload (p' := 118) rfl rfl rfl rfl ?_
        refine w_const (p' := 120) rfl rfl rfl ?_
        refine w_icmp (t := 129) (e := 123) rfl rfl rfl (fun e => ?_) (fun e => ?_)
        · have h := h.1 e
          refine w_const (p' := 130) rfl rfl rfl ?_
          refine w_istore (p' := 132) (ls' := [some (.inr (.inr (.inl (some 113)))), some (.inl x1), some (.inl x2), some (.inl (s 131 x1)), some (.inl 0)]) rfl rfl rfl (Nat.le_of_ble_eq_true rfl) rfl ?_
          exact w_cut (q_le_s (q_le_s (q_le_n (q_le_n (q_le_s q_le_z))))) h
        · have h := h.2 e
          refine w_iload (p' := 124) rfl rfl rfl rfl ?_
          refine w_const (p' := 126) rfl rfl rfl ?_
          refine w_icmp (t := 170) (e := 129) rfl rfl rfl (fun e => ?_) (fun e => ?_)
          · have h := h.1 e
            refine w_iload (p' := 171) rfl rfl rfl rfl ?_
            refine w_const (p' := 172) rfl rfl rfl ?_
            refine w_icmp (t := 185) (e := 175) rfl rfl rfl (fun e => ?_) (fun e => ?_)
            · have h := h.1 e
              exact w_vret rfl ⟨rfl, rfl, h⟩
            · have h := h.2 e
              refine w_aload (p' := 176) rfl rfl rfl rfl ?_
              refine w_aload (p' := 177) rfl rfl rfl rfl ?_
              refine w_getR (p' := 180) rfl rfl rfl rfl rfl ?_
              refine w_iload (p' := 181) rfl rfl rfl rfl ?_
              refine w_iald (p' := 182) (N := 900) rfl rfl rfl rfl h.1 h.2.1 ?_
              have h := h.2.2
              refine v_callV (M' := 109) (p' := 185) (rest := []) (as := [(.inr (.inr (.inl (some 113)))), (.inl (s 135 x1))]) rfl rfl rfl rfl rfl rfl rfl rfl rfl rfl rfl rfl rfl h (fun s3 h => ?_)
              exact w_vret rfl ⟨rfl, rfl, h⟩
          · have h := h.2 e
            refine w_const (p' := 130) rfl rfl rfl ?_
            refine w_istore (p' := 132) (ls' := [some (.inr (.inr (.inl (some 113)))), some (.inl x1), some (.inl x2), some (.inl (s 131 x1)), some (.inl 0)]) rfl rfl rfl (Nat.le_of_ble_eq_true rfl) rfl ?_
            exact w_cut (q_le_s (q_le_s (q_le_n (q_le_n (q_le_s q_le_z))))) h
      · have h := h.2 e
        refine w_aload (p' := 24) rfl rfl rfl rfl ?_
        refine w_const (p' := 27) rfl rfl rfl ?_
        refine w_iload (p' := 28) rfl rfl rfl rfl ?_
        refine w_add (p' := 29) rfl rfl h.1 ?_
        have h := h.2
        refine v_callV (M' := 107) (p' := 32) (rest := []) (as := [(.inr (.inr (.inl (some 113)))), (.inl (1000 + (s 131 x1)))]) rfl rfl rfl rfl rfl rfl rfl rfl rfl rfl rfl rfl rfl h (fun s4 h => ?_)
        refine w_iload (p' := 33) rfl rfl rfl rfl ?_
        refine w_const (p' := 34) rfl rfl rfl ?_
        refine w_icmp (t := 53) (e := 37) rfl rfl rfl (fun e => ?_) (fun e => ?_)
        · have h := h.1 e
          refine w_iload (p' := 54) rfl rfl rfl rfl ?_
          refine w_const (p' := 55) rfl rfl rfl ?_
          refine w_icmp (t := 71) (e := 58) rfl rfl rfl (fun e => ?_) (fun e => ?_)
          · have h := h.1 e
            refine w_iload (p' := 72) rfl rfl rfl rfl ?_
            refine w_const (p' := 74) rfl rfl rfl ?_
            refine w_icmp (t := 117) (e := 77) rfl rfl rfl (fun e => ?_) (fun e => ?_)
            · have h := h.1 e
              refine w_iload (p' := 118) rfl rfl rfl rfl ?_
              refine w_const (p' := 120) rfl rfl rfl ?_
              refine w_icmp (t := 129) (e := 123) rfl rfl rfl (fun e => ?_) (fun e => ?_)
              · have h := h.1 e
                refine w_const (p' := 130) rfl rfl rfl ?_
                refine w_istore (p' := 132) (ls' := [some (.inr (.inr (.inl (some 113)))), some (.inl x1), some (.inl x2), some (.inl (s 131 x1)), some (.inl 0)]) rfl rfl rfl (Nat.le_of_ble_eq_true rfl) rfl ?_
                exact w_cut (q_le_s (q_le_s (q_le_n (q_le_n (q_le_s q_le_z))))) h
              · have h := h.2 e
                refine w_iload (p' := 124) rfl rfl rfl rfl ?_
                refine w_const (p' := 126) rfl rfl rfl ?_
                refine w_icmp (t := 170) (e := 129) rfl rfl rfl (fun e => ?_) (fun e => ?_)
                · have h := h.1 e
                  refine w_iload (p' := 171) rfl rfl rfl rfl ?_
                  refine w_const (p' := 172) rfl rfl rfl ?_
                  refine w_icmp (t := 185) (e := 175) rfl rfl rfl (fun e => ?_) (fun e => ?_)
                  · have h := h.1 e
                    exact w_vret rfl ⟨rfl, rfl, h⟩
                  · have h := h.2 e
                    refine w_aload (p' := 176) rfl rfl rfl rfl ?_
                    refine w_aload (p' := 177) rfl rfl rfl rfl ?_
                    refine w_getR (p' := 180) rfl rfl rfl rfl rfl ?_
                    refine w_iload (p' := 181) rfl rfl rfl rfl ?_
                    refine w_iald (p' := 182) (N := 900) rfl rfl rfl rfl h.1 h.2.1 ?_
                    have h := h.2.2
                    refine v_callV (M' := 109) (p' := 185) (rest := []) (as := [(.inr (.inr (.inl (some 113)))), (.inl (s4 135 x1))]) rfl rfl rfl rfl rfl rfl rfl rfl rfl rfl rfl rfl rfl h (fun s5 h => ?_)
                    exact w_vret rfl ⟨rfl, rfl, h⟩
                · have h := h.2 e
                  refine w_const (p' := 130) rfl rfl rfl ?_
                  refine w_istore (p' := 132) (ls' := [some (.inr (.inr (.inl (some 113)))), some (.inl x1), some (.inl x2), some (.inl (s 131 x1)), some (.inl 0)]) rfl rfl rfl (Nat.le_of_ble_eq_true rfl) rfl ?_
                  exact w_cut (q_le_s (q_le_s (q_le_n (q_le_n (q_le_s q_le_z))))) h
            · have h := h.2 e
              refine w_aload (p' := 78) rfl rfl rfl rfl ?_
              refine w_getR (p' := 81) rfl rfl rfl rfl rfl ?_
              refine w_iload (p' := 82) rfl rfl rfl rfl ?_
              refine w_iald (p' := 83) (N := 900) rfl rfl rfl rfl h.1 h.2.1 ?_
              have h := h.2.2
              refine w_istore (p' := 85) (ls' := [some (.inr (.inr (.inl (some 113)))), some (.inl x1), some (.inl x2), some (.inl (s 131 x1)), some (.inl (s4 136 x1))]) rfl rfl rfl (Nat.le_of_ble_eq_true rfl) rfl ?_
              refine w_aload (p' := 86) rfl rfl rfl rfl ?_
              refine w_aload (p' := 87) rfl rfl rfl rfl ?_
              refine w_getR (p' := 90) rfl rfl rfl rfl rfl ?_
              refine w_iload (p' := 92) rfl rfl rfl rfl ?_
              refine w_iald (p' := 93) (N := 600) rfl rfl rfl rfl h.1 h.2.1 ?_
              have h := h.2.2
              refine w_const (p' := 95) rfl rfl rfl ?_
              refine w_icmp (t := 104) (e := 98) rfl rfl rfl (fun e => ?_) (fun e => ?_)
              · have h := h.1 e
                refine w_const (p' := 107) rfl rfl rfl ?_
                refine w_aload (p' := 108) rfl rfl rfl rfl ?_
                refine w_iload (p' := 110) rfl rfl rfl rfl ?_
                refine v_callI (M' := 108) (p' := 113) (rest := [(.inl 400), (.inr (.inr (.inl (some 113))))]) (as := [(.inr (.inr (.inl (some 113)))), (.inl (s4 136 x1))]) rfl rfl rfl rfl rfl rfl rfl rfl rfl rfl rfl rfl rfl h (fun r7 s6 h => ?_)
                refine w_add (p' := 114) rfl rfl h.1 ?_
                have h := h.2
                refine v_callV (M' := 107) (p' := 117) (rest := []) (as := [(.inr (.inr (.inl (some 113)))), (.inl (400 + r7))]) rfl rfl rfl rfl rfl rfl rfl rfl rfl rfl rfl rfl rfl h (fun s8 h => ?_)
                refine w_iload (p' := 118) rfl rfl rfl rfl ?_
                refine w_const (p' := 120) rfl rfl rfl ?_
                refine w_icmp (t := 129) (e := 123) rfl rfl rfl (fun e => ?_) (fun e => ?_)
                · have h := h.1 e
                  refine w_const (p' := 130) rfl rfl rfl ?_
                  refine w_istore (p' := 132) (ls' := [some (.inr (.inr (.inl (some 113)))), some (.inl x1), some (.inl x2), some (.inl (s 131 x1)), some (.inl 0)]) rfl rfl rfl (Nat.le_of_ble_eq_true rfl) rfl ?_
                  exact w_cut (q_le_s (q_le_s (q_le_n (q_le_n (q_le_s q_le_z))))) h
                · have h := h.2 e
                  refine w_iload (p' := 124) rfl rfl rfl rfl ?_
                  refine w_const (p' := 126) rfl rfl rfl ?_
                  refine w_icmp (t := 170) (e := 129) rfl rfl rfl (fun e => ?_) (fun e => ?_)
                  · have h := h.1 e
                    refine w_iload (p' := 171) rfl rfl rfl rfl ?_
                    refine w_const (p' := 172) rfl rfl rfl ?_
                    refine w_icmp (t := 185) (e := 175) rfl rfl rfl (fun e => ?_) (fun e => ?_)
                    · have h := h.1 e
                      exact w_vret rfl ⟨rfl, rfl, h⟩
                    · have h := h.2 e
                      refine w_aload (p' := 176) rfl rfl rfl rfl ?_
                      refine w_aload (p' := 177) rfl rfl rfl rfl ?_
                      refine w_getR (p' := 180) rfl rfl rfl rfl rfl ?_
                      refine w_iload (p' := 181) rfl rfl rfl rfl ?_
                      refine w_iald (p' := 182) (N := 900) rfl rfl rfl rfl h.1 h.2.1 ?_
                      have h := h.2.2
                      refine v_callV (M' := 109) (p' := 185) (rest := []) (as := [(.inr (.inr (.inl (some 113)))), (.inl (s8 135 x1))]) rfl rfl rfl rfl rfl rfl rfl rfl rfl rfl rfl rfl rfl h (fun s9 h => ?_)
                      exact w_vret rfl ⟨rfl, rfl, h⟩
                  · have h := h.2 e
                    refine w_const (p' := 130) rfl rfl rfl ?_
                    refine w_istore (p' := 132) (ls' := [some (.inr (.inr (.inl (some 113)))), some (.inl x1), some (.inl x2), some (.inl (s 131 x1)), some (.inl 0)]) rfl rfl rfl (Nat.le_of_ble_eq_true rfl) rfl ?_
                    exact w_cut (q_le_s (q_le_s (q_le_n (q_le_n (q_le_s q_le_z))))) h
              · have h := h.2 e
                refine w_const (p' := 101) rfl rfl rfl ?_
                refine w_goto (p' := 107) rfl rfl ?_
                refine w_aload (p' := 108) rfl rfl rfl rfl ?_
                refine w_iload (p' := 110) rfl rfl rfl rfl ?_
                refine v_callI (M' := 108) (p' := 113) (rest := [(.inl 300), (.inr (.inr (.inl (some 113))))]) (as := [(.inr (.inr (.inl (some 113)))), (.inl (s4 136 x1))]) rfl rfl rfl rfl rfl rfl rfl rfl rfl rfl rfl rfl rfl h (fun r11 s10 h => ?_)
                refine w_add (p' := 114) rfl rfl h.1 ?_
                have h := h.2
                refine v_callV (M' := 107) (p' := 117) (rest := []) (as := [(.inr (.inr (.inl (some 113)))), (.inl (300 + r11))]) rfl rfl rfl rfl rfl rfl rfl rfl rfl rfl rfl rfl rfl h (fun s12 h => ?_)
                refine w_iload (p' := 118) rfl rfl rfl rfl ?_
                refine w_const (p' := 120) rfl rfl rfl ?_
                refine w_icmp (t := 129) (e := 123) rfl rfl rfl (fun e => ?_) (fun e => ?_)
                · have h := h.1 e
                  refine w_const (p' := 130) rfl rfl rfl ?_
                  refine w_istore (p' := 132) (ls' := [some (.inr (.inr (.inl (some 113)))), some (.inl x1), some (.inl x2), some (.inl (s 131 x1)), some (.inl 0)]) rfl rfl rfl (Nat.le_of_ble_eq_true rfl) rfl ?_
                  exact w_cut (q_le_s (q_le_s (q_le_n (q_le_n (q_le_s q_le_z))))) h
                · have h := h.2 e
                  refine w_iload (p' := 124) rfl rfl rfl rfl ?_
                  refine w_const (p' := 126) rfl rfl rfl ?_
                  refine w_icmp (t := 170) (e := 129) rfl rfl rfl (fun e => ?_) (fun e => ?_)
                  · have h := h.1 e
                    refine w_iload (p' := 171) rfl rfl rfl rfl ?_
                    refine w_const (p' := 172) rfl rfl rfl ?_
                    refine w_icmp (t := 185) (e := 175) rfl rfl rfl (fun e => ?_) (fun e => ?_)
                    · have h := h.1 e
                      exact w_vret rfl ⟨rfl, rfl, h⟩
                    · have h := h.2 e
                      refine w_aload (p' := 176) rfl rfl rfl rfl ?_
                      refine w_aload (p' := 177) rfl rfl rfl rfl ?_
                      refine w_getR (p' := 180) rfl rfl rfl rfl rfl ?_
                      refine w_iload (p' := 181) rfl rfl rfl rfl ?_
                      refine w_iald (p' := 182) (N := 900) rfl rfl rfl rfl h.1 h.2.1 ?_
                      have h := h.2.2
                      refine v_callV (M' := 109) (p' := 185) (rest := []) (as := [(.inr (.inr (.inl (some 113)))), (.inl (s12 135 x1))]) rfl rfl rfl rfl rfl rfl rfl rfl rfl rfl rfl rfl rfl h (fun s13 h => ?_)
                      exact w_vret rfl ⟨rfl, rfl, h⟩
                  · have h := h.2 e
                    refine w_const (p' := 130) rfl rfl rfl ?_
                    refine w_istore (p' := 132) (ls' := [some (.inr (.inr (.inl (some 113)))), some (.inl x1), some (.inl x2), some (.inl (s 131 x1)), some (.inl 0)]) rfl rfl rfl (Nat.le_of_ble_eq_true rfl) rfl ?_
                    exact w_cut (q_le_s (q_le_s (q_le_n (q_le_n (q_le_s q_le_z))))) h
          · have h := h.2 e
            refine w_aload (p' := 59) rfl rfl rfl rfl ?_
            refine w_aload (p' := 60) rfl rfl rfl rfl ?_
            refine w_getR (p' := 63) rfl rfl rfl rfl rfl ?_
            refine w_iload (p' := 64) rfl rfl rfl rfl ?_
            refine w_iald (p' := 65) (N := 900) rfl rfl rfl rfl h.1 h.2.1 ?_
            have h := h.2.2
            refine v_callV (M' := 107) (p' := 68) (rest := []) (as := [(.inr (.inr (.inl (some 113)))), (.inl (s4 134 x1))]) rfl rfl rfl rfl rfl rfl rfl rfl rfl rfl rfl rfl rfl h (fun s14 h => ?_)
            refine w_goto (p' := 117) rfl rfl ?_
            refine w_iload (p' := 118) rfl rfl rfl rfl ?_
            refine w_const (p' := 120) rfl rfl rfl ?_
            refine w_icmp (t := 129) (e := 123) rfl rfl rfl (fun e => ?_) (fun e => ?_)
            · have h := h.1 e
              refine w_const (p' := 130) rfl rfl rfl ?_
              refine w_istore (p' := 132) (ls' := [some (.inr (.inr (.inl (some 113)))), some (.inl x1), some (.inl x2), some (.inl (s 131 x1)), some (.inl 0)]) rfl rfl rfl (Nat.le_of_ble_eq_true rfl) rfl ?_
              exact w_cut (q_le_s (q_le_s (q_le_n (q_le_n (q_le_s q_le_z))))) h
            · have h := h.2 e
              refine w_iload (p' := 124) rfl rfl rfl rfl ?_
              refine w_const (p' := 126) rfl rfl rfl ?_
              refine w_icmp (t := 170) (e := 129) rfl rfl rfl (fun e => ?_) (fun e => ?_)
              · have h := h.1 e
                refine w_iload (p' := 171) rfl rfl rfl rfl ?_
                refine w_const (p' := 172) rfl rfl rfl ?_
                refine w_icmp (t := 185) (e := 175) rfl rfl rfl (fun e => ?_) (fun e => ?_)
                · have h := h.1 e
                  exact w_vret rfl ⟨rfl, rfl, h⟩
                · have h := h.2 e
                  refine w_aload (p' := 176) rfl rfl rfl rfl ?_
                  refine w_aload (p' := 177) rfl rfl rfl rfl ?_
                  refine w_getR (p' := 180) rfl rfl rfl rfl rfl ?_
                  refine w_iload (p' := 181) rfl rfl rfl rfl ?_
                  refine w_iald (p' := 182) (N := 900) rfl rfl rfl rfl h.1 h.2.1 ?_
                  have h := h.2.2
                  refine v_callV (M' := 109) (p' := 185) (rest := []) (as := [(.inr (.inr (.inl (some 113)))), (.inl (s14 135 x1))]) rfl rfl rfl rfl rfl rfl rfl rfl rfl rfl rfl rfl rfl h (fun s15 h => ?_)
                  exact w_vret rfl ⟨rfl, rfl, h⟩
              · have h := h.2 e
                refine w_const (p' := 130) rfl rfl rfl ?_
                refine w_istore (p' := 132) (ls' := [some (.inr (.inr (.inl (some 113)))), some (.inl x1), some (.inl x2), some (.inl (s 131 x1)), some (.inl 0)]) rfl rfl rfl (Nat.le_of_ble_eq_true rfl) rfl ?_
                exact w_cut (q_le_s (q_le_s (q_le_n (q_le_n (q_le_s q_le_z))))) h
        · have h := h.2 e
          refine w_aload (p' := 38) rfl rfl rfl rfl ?_
          refine w_const (p' := 40) rfl rfl rfl ?_
          refine w_aload (p' := 41) rfl rfl rfl rfl ?_
          refine w_getR (p' := 44) rfl rfl rfl rfl rfl ?_
          refine w_iload (p' := 45) rfl rfl rfl rfl ?_
          refine w_iald (p' := 46) (N := 900) rfl rfl rfl rfl h.1 h.2.1 ?_
          have h := h.2.2
          refine w_add (p' := 47) rfl rfl h.1 ?_
          have h := h.2
          refine v_callV (M' := 107) (p' := 50) (rest := []) (as := [(.inr (.inr (.inl (some 113)))), (.inl (100 + (s4 134 x1)))]) rfl rfl rfl rfl rfl rfl rfl rfl rfl rfl rfl rfl rfl h (fun s16 h => ?_)
          refine w_goto (p' := 117) rfl rfl ?_
          refine w_iload (p' := 118) rfl rfl rfl rfl ?_
          refine w_const (p' := 120) rfl rfl rfl ?_
          refine w_icmp (t := 129) (e := 123) rfl rfl rfl (fun e => ?_) (fun e => ?_)
          · have h := h.1 e
            refine w_const (p' := 130) rfl rfl rfl ?_
            refine w_istore (p' := 132) (ls' := [some (.inr (.inr (.inl (some 113)))), some (.inl x1), some (.inl x2), some (.inl (s 131 x1)), some (.inl 0)]) rfl rfl rfl (Nat.le_of_ble_eq_true rfl) rfl ?_
            exact w_cut (q_le_s (q_le_s (q_le_n (q_le_n (q_le_s q_le_z))))) h
          · have h := h.2 e
            refine w_iload (p' := 124) rfl rfl rfl rfl ?_
            refine w_const (p' := 126) rfl rfl rfl ?_
            refine w_icmp (t := 170) (e := 129) rfl rfl rfl (fun e => ?_) (fun e => ?_)
            · have h := h.1 e
              refine w_iload (p' := 171) rfl rfl rfl rfl ?_
              refine w_const (p' := 172) rfl rfl rfl ?_
              refine w_icmp (t := 185) (e := 175) rfl rfl rfl (fun e => ?_) (fun e => ?_)
              · have h := h.1 e
                exact w_vret rfl ⟨rfl, rfl, h⟩
              · have h := h.2 e
                refine w_aload (p' := 176) rfl rfl rfl rfl ?_
                refine w_aload (p' := 177) rfl rfl rfl rfl ?_
                refine w_getR (p' := 180) rfl rfl rfl rfl rfl ?_
                refine w_iload (p' := 181) rfl rfl rfl rfl ?_
                refine w_iald (p' := 182) (N := 900) rfl rfl rfl rfl h.1 h.2.1 ?_
                have h := h.2.2
                refine v_callV (M' := 109) (p' := 185) (rest := []) (as := [(.inr (.inr (.inl (some 113)))), (.inl (s16 135 x1))]) rfl rfl rfl rfl rfl rfl rfl rfl rfl rfl rfl rfl rfl h (fun s17 h => ?_)
                exact w_vret rfl ⟨rfl, rfl, h⟩
            · have h := h.2 e
              refine w_const (p' := 130) rfl rfl rfl ?_
              refine w_istore (p' := 132) (ls' := [some (.inr (.inr (.inl (some 113)))), some (.inl x1), some (.inl x2), some (.inl (s 131 x1)), some (.inl 0)]) rfl rfl rfl (Nat.le_of_ble_eq_true rfl) rfl ?_
              exact w_cut (q_le_s (q_le_s (q_le_n (q_le_n (q_le_s q_le_z))))) h
set_option maxRecDepth 20000 in
theorem sg_m_givesBeginning_132 {X : Nat × (Nat → Int32)}  {v1 v4 : Int} {s : qM} {K : qM → Prop} (h : ((0 : Int) ≤ v1) ∧ (v1 < (900 : Int)) ∧ ((((s 134 v1) ≤ v4) → K s) ∧ (¬ ((s 134 v1) ≤ v4) → ((0 : Int) ≤ v1) ∧ (v1 < (900 : Int)) ∧ (-2147483648 ≤ ((s 153 v1) + v4) ∧ ((s 153 v1) + v4) < 2147483648) ∧ ((0 : Int) ≤ ((s 153 v1) + v4)) ∧ (((s 153 v1) + v4) < (300 : Int)) ∧ c_m_gives X (s 152 ((s 153 v1) + v4)) s (fun s1 => (-2147483648 ≤ (v4 + 1) ∧ (v4 + 1) < 2147483648) ∧ L_m_givesBeginning_132 X v1 (v4 + 1) s1 K)))) : L_m_givesBeginning_132 X v1 v4 s K := by
  unfold L_m_givesBeginning_132
  refine w_iload (p' := 134) rfl rfl rfl rfl ?_
  refine w_aload (p' := 135) rfl rfl rfl rfl ?_
  refine w_getR (p' := 138) rfl rfl rfl rfl rfl ?_
  refine w_iload (p' := 139) rfl rfl rfl rfl ?_
  refine w_iald (p' := 140) (N := 900) rfl rfl rfl rfl h.1 h.2.1 ?_
  have h := h.2.2
  refine w_icmp (t := 167) (e := 143) rfl rfl rfl (fun e => ?_) (fun e => ?_)
  · have h := h.1 e
    refine w_goto (p' := 185) rfl rfl ?_
    exact w_vret rfl ⟨rfl, rfl, h⟩
  · have h := h.2 e
    refine w_aload (p' := 144) rfl rfl rfl rfl ?_
    refine w_aload (p' := 145) rfl rfl rfl rfl ?_
    refine w_getR (p' := 148) rfl rfl rfl rfl rfl ?_
    refine w_aload (p' := 149) rfl rfl rfl rfl ?_
    refine w_getR (p' := 152) rfl rfl rfl rfl rfl ?_
    refine w_iload (p' := 153) rfl rfl rfl rfl ?_
    refine w_iald (p' := 154) (N := 900) rfl rfl rfl rfl h.1 h.2.1 ?_
    have h := h.2.2
    refine w_iload (p' := 156) rfl rfl rfl rfl ?_
    refine w_add (p' := 157) rfl rfl h.1 ?_
    have h := h.2
    refine w_iald (p' := 158) (N := 300) rfl rfl rfl rfl h.1 h.2.1 ?_
    have h := h.2.2
    refine v_callV (M' := 107) (p' := 161) (rest := []) (as := [(.inr (.inr (.inl (some 113)))), (.inl (s 152 ((s 153 v1) + v4)))]) rfl rfl rfl rfl rfl rfl rfl rfl rfl rfl rfl rfl rfl h (fun s1 h => ?_)
    refine w_iinc (p' := 164) (ls' := [some (.inr (.inr (.inl (some 113)))), some (.inl v1), none, none, some (.inl (v4 + 1))]) rfl rfl rfl (Nat.le_of_ble_eq_true rfl) h.1 rfl ?_
    have h := h.2
    refine w_goto (p' := 132) rfl rfl ?_
    exact w_cut (q_le_s (q_le_s (q_le_n (q_le_n (q_le_s q_le_z))))) h
set_option maxRecDepth 20000 in
theorem sg_m_givesEnd {X : Nat × (Nat → Int32)} {x1 : Int} {x2 : Int} {s : qM} {K : qM → Prop} (h : ((0 : Int) ≤ x1) ∧ (x1 < (900 : Int)) ∧ (((x2 ≠ 0) → (((x2 ≠ 1) → K s) ∧ (¬ (x2 ≠ 1) → ((((s 131 x1) = 6) → c_m_gives X 10 s (fun s1 => K s1)) ∧ (¬ ((s 131 x1) = 6) → ((((s 131 x1) ≠ 4) → K s) ∧ (¬ ((s 131 x1) ≠ 4) → c_m_gives X 10 s (fun s2 => K s2)))))))) ∧ (¬ (x2 ≠ 0) → ((((s 131 x1) = 8) → (((x2 ≠ 1) → K s) ∧ (¬ (x2 ≠ 1) → ((((s 131 x1) = 6) → c_m_gives X 10 s (fun s3 => K s3)) ∧ (¬ ((s 131 x1) = 6) → ((((s 131 x1) ≠ 4) → K s) ∧ (¬ ((s 131 x1) ≠ 4) → c_m_gives X 10 s (fun s4 => K s4)))))))) ∧ (¬ ((s 131 x1) = 8) → ((((s 131 x1) = 7) → (((x2 ≠ 1) → K s) ∧ (¬ (x2 ≠ 1) → ((((s 131 x1) = 6) → c_m_gives X 10 s (fun s5 => K s5)) ∧ (¬ ((s 131 x1) = 6) → ((((s 131 x1) ≠ 4) → K s) ∧ (¬ ((s 131 x1) ≠ 4) → c_m_gives X 10 s (fun s6 => K s6)))))))) ∧ (¬ ((s 131 x1) = 7) → (-2147483648 ≤ (2000 + (s 131 x1)) ∧ (2000 + (s 131 x1)) < 2147483648) ∧ c_m_gives X (2000 + (s 131 x1)) s (fun s7 => K s7)))))))) : c_m_givesEnd X x1 x2 s K := by
  unfold c_m_givesEnd
  refine w_aload (p' := 1) rfl rfl rfl rfl ?_
  refine w_getR (p' := 4) rfl rfl rfl rfl rfl ?_
  refine w_iload (p' := 5) rfl rfl rfl rfl ?_
  refine w_iald (p' := 6) (N := 900) rfl rfl rfl rfl h.1 h.2.1 ?_
  have h := h.2.2
  refine w_istore (p' := 7) (ls' := [some (.inr (.inr (.inl (some 113)))), some (.inl x1), some (.inl x2), some (.inl (s 131 x1))]) rfl rfl rfl (Nat.le_of_ble_eq_true rfl) rfl ?_
  refine w_iload (p' := 8) rfl rfl rfl rfl ?_
  refine w_if (t := 35) (e := 11) rfl rfl rfl (fun e => ?_) (fun e => ?_)
  · have h := h.1 e
    refine w_iload (p' := 36) rfl rfl rfl rfl ?_
    refine w_const (p' := 37) rfl rfl rfl ?_
    refine w_icmp (t := 57) (e := 40) rfl rfl rfl (fun e => ?_) (fun e => ?_)
    · have h := h.1 e
      exact w_vret rfl ⟨rfl, rfl, h⟩
    · have h := h.2 e
      refine w_iload (p' := 41) rfl rfl rfl rfl ?_
      refine w_const (p' := 43) rfl rfl rfl ?_
      refine w_icmp (t := 51) (e := 46) rfl rfl rfl (fun e => ?_) (fun e => ?_)
      · have h := h.1 e
        refine w_aload (p' := 52) rfl rfl rfl rfl ?_
        refine w_const (p' := 54) rfl rfl rfl ?_
        refine v_callV (M' := 107) (p' := 57) (rest := []) (as := [(.inr (.inr (.inl (some 113)))), (.inl 10)]) rfl rfl rfl rfl rfl rfl rfl rfl rfl rfl rfl rfl rfl h (fun s1 h => ?_)
        exact w_vret rfl ⟨rfl, rfl, h⟩
      · have h := h.2 e
        refine w_iload (p' := 47) rfl rfl rfl rfl ?_
        refine w_const (p' := 48) rfl rfl rfl ?_
        refine w_icmp (t := 57) (e := 51) rfl rfl rfl (fun e => ?_) (fun e => ?_)
        · have h := h.1 e
          exact w_vret rfl ⟨rfl, rfl, h⟩
        · have h := h.2 e
          refine w_aload (p' := 52) rfl rfl rfl rfl ?_
          refine w_const (p' := 54) rfl rfl rfl ?_
          refine v_callV (M' := 107) (p' := 57) (rest := []) (as := [(.inr (.inr (.inl (some 113)))), (.inl 10)]) rfl rfl rfl rfl rfl rfl rfl rfl rfl rfl rfl rfl rfl h (fun s2 h => ?_)
          exact w_vret rfl ⟨rfl, rfl, h⟩
  · have h := h.2 e
    refine w_iload (p' := 12) rfl rfl rfl rfl ?_
    refine w_const (p' := 14) rfl rfl rfl ?_
    refine w_icmp (t := 35) (e := 17) rfl rfl rfl (fun e => ?_) (fun e => ?_)
    · have h := h.1 e
      refine w_iload (p' := 36) rfl rfl rfl rfl ?_
      refine w_const (p' := 37) rfl rfl rfl ?_
      refine w_icmp (t := 57) (e := 40) rfl rfl rfl (fun e => ?_) (fun e => ?_)
      · have h := h.1 e
        exact w_vret rfl ⟨rfl, rfl, h⟩
      · have h := h.2 e
        refine w_iload (p' := 41) rfl rfl rfl rfl ?_
        refine w_const (p' := 43) rfl rfl rfl ?_
        refine w_icmp (t := 51) (e := 46) rfl rfl rfl (fun e => ?_) (fun e => ?_)
        · have h := h.1 e
          refine w_aload (p' := 52) rfl rfl rfl rfl ?_
          refine w_const (p' := 54) rfl rfl rfl ?_
          refine v_callV (M' := 107) (p' := 57) (rest := []) (as := [(.inr (.inr (.inl (some 113)))), (.inl 10)]) rfl rfl rfl rfl rfl rfl rfl rfl rfl rfl rfl rfl rfl h (fun s3 h => ?_)
          exact w_vret rfl ⟨rfl, rfl, h⟩
        · have h := h.2 e
          refine w_iload (p' := 47) rfl rfl rfl rfl ?_
          refine w_const (p' := 48) rfl rfl rfl ?_
          refine w_icmp (t := 57) (e := 51) rfl rfl rfl (fun e => ?_) (fun e => ?_)
          · have h := h.1 e
            exact w_vret rfl ⟨rfl, rfl, h⟩
          · have h := h.2 e
            refine w_aload (p' := 52) rfl rfl rfl rfl ?_
            refine w_const (p' := 54) rfl rfl rfl ?_
            refine v_callV (M' := 107) (p' := 57) (rest := []) (as := [(.inr (.inr (.inl (some 113)))), (.inl 10)]) rfl rfl rfl rfl rfl rfl rfl rfl rfl rfl rfl rfl rfl h (fun s4 h => ?_)
            exact w_vret rfl ⟨rfl, rfl, h⟩
    · have h := h.2 e
      refine w_iload (p' := 18) rfl rfl rfl rfl ?_
      refine w_const (p' := 20) rfl rfl rfl ?_
      refine w_icmp (t := 35) (e := 23) rfl rfl rfl (fun e => ?_) (fun e => ?_)
      · have h := h.1 e
        refine w_iload (p' := 36) rfl rfl rfl rfl ?_
        refine w_const (p' := 37) rfl rfl rfl ?_
        refine w_icmp (t := 57) (e := 40) rfl rfl rfl (fun e => ?_) (fun e => ?_)
        · have h := h.1 e
          exact w_vret rfl ⟨rfl, rfl, h⟩
        · have h := h.2 e
          refine w_iload (p' := 41) rfl rfl rfl rfl ?_
          refine w_const (p' := 43) rfl rfl rfl ?_
          refine w_icmp (t := 51) (e := 46) rfl rfl rfl (fun e => ?_) (fun e => ?_)
          · have h := h.1 e
            refine w_aload (p' := 52) rfl rfl rfl rfl ?_
            refine w_const (p' := 54) rfl rfl rfl ?_
            refine v_callV (M' := 107) (p' := 57) (rest := []) (as := [(.inr (.inr (.inl (some 113)))), (.inl 10)]) rfl rfl rfl rfl rfl rfl rfl rfl rfl rfl rfl rfl rfl h (fun s5 h => ?_)
            exact w_vret rfl ⟨rfl, rfl, h⟩
          · have h := h.2 e
            refine w_iload (p' := 47) rfl rfl rfl rfl ?_
            refine w_const (p' := 48) rfl rfl rfl ?_
            refine w_icmp (t := 57) (e := 51) rfl rfl rfl (fun e => ?_) (fun e => ?_)
            · have h := h.1 e
              exact w_vret rfl ⟨rfl, rfl, h⟩
            · have h := h.2 e
              refine w_aload (p' := 52) rfl rfl rfl rfl ?_
              refine w_const (p' := 54) rfl rfl rfl ?_
              refine v_callV (M' := 107) (p' := 57) (rest := []) (as := [(.inr (.inr (.inl (some 113)))), (.inl 10)]) rfl rfl rfl rfl rfl rfl rfl rfl rfl rfl rfl rfl rfl h (fun s6 h => ?_)
              exact w_vret rfl ⟨rfl, rfl, h⟩
      · have h := h.2 e
        refine w_aload (p' := 24) rfl rfl rfl rfl ?_
        refine w_const (p' := 27) rfl rfl rfl ?_
        refine w_iload (p' := 28) rfl rfl rfl rfl ?_
        refine w_add (p' := 29) rfl rfl h.1 ?_
        have h := h.2
        refine v_callV (M' := 107) (p' := 32) (rest := []) (as := [(.inr (.inr (.inl (some 113)))), (.inl (2000 + (s 131 x1)))]) rfl rfl rfl rfl rfl rfl rfl rfl rfl rfl rfl rfl rfl h (fun s7 h => ?_)
        refine w_goto (p' := 57) rfl rfl ?_
        exact w_vret rfl ⟨rfl, rfl, h⟩
set_option maxRecDepth 20000 in
theorem sg_m_prints {X : Nat × (Nat → Int32)} {x1 : Int} {s : qM} {K : qM → Prop} (h : c_m_trees X  s (fun s1 => (∀ s2 : qM, s2 = q_up s1 113 45 0 → L_m_prints_13 X x1 (-1) 0 s2 K))) : c_m_prints X x1 s K := by
  unfold c_m_prints
  refine w_aload (p' := 1) rfl rfl rfl rfl ?_
  refine v_callV (M' := 100) (p' := 4) (rest := []) (as := [(.inr (.inr (.inl (some 113))))]) rfl rfl rfl rfl rfl rfl rfl rfl rfl rfl rfl rfl rfl h (fun s1 h => ?_)
  refine w_aload (p' := 5) rfl rfl rfl rfl ?_
  refine w_const (p' := 6) rfl rfl rfl ?_
  refine v_putI (p' := 9) (j := 45) rfl rfl (by decide) rfl rfl trivial ?_
  intro s2 es2
  have h := h s2 es2
  refine w_const (p' := 10) rfl rfl rfl ?_
  refine w_istore (p' := 11) (ls' := [some (.inr (.inr (.inl (some 113)))), some (.inl x1), some (.inl (-1)), none]) rfl rfl rfl (Nat.le_of_ble_eq_true rfl) rfl ?_
  refine w_const (p' := 12) rfl rfl rfl ?_
  refine w_istore (p' := 13) (ls' := [some (.inr (.inr (.inl (some 113)))), some (.inl x1), some (.inl (-1)), some (.inl 0)]) rfl rfl rfl (Nat.le_of_ble_eq_true rfl) rfl ?_
  exact w_cut (q_le_s (q_le_s (q_le_s (q_le_s q_le_z)))) h
set_option maxRecDepth 20000 in
theorem sg_m_prints_13 {X : Nat × (Nat → Int32)}  {v1 v2 v3 : Int} {s : qM} {K : qM → Prop} (h : ((((s 113 20) ≤ v3) → L_m_prints_61 X v1 v2 s K) ∧ (¬ ((s 113 20) ≤ v3) → L_m_prints_21 X v1 v2 v3 s K))) : L_m_prints_13 X v1 v2 v3 s K := by
  unfold L_m_prints_13
  refine w_iload (p' := 14) rfl rfl rfl rfl ?_
  refine w_aload (p' := 15) rfl rfl rfl rfl ?_
  refine w_getI (p' := 18) (j := 20) rfl rfl (by decide) rfl rfl ?_
  refine w_icmp (t := 61) (e := 21) rfl rfl rfl (fun e => ?_) (fun e => ?_)
  · have h := h.1 e
    exact w_cut (q_le_s (q_le_s (q_le_s (q_le_n q_le_z)))) h
  · have h := h.2 e
    exact w_cut (q_le_s (q_le_s (q_le_s (q_le_s q_le_z)))) h
set_option maxRecDepth 20000 in
theorem sg_m_prints_61 {X : Nat × (Nat → Int32)}  {v1 v2 : Int} {s : qM} {K : qM → Prop} (h : (((v2 = (-1)) → K s) ∧ (¬ (v2 = (-1)) → c_m_givesEnd X v2 v1 s (fun s1 => ((0 : Int) ≤ v2) ∧ (v2 < (900 : Int)) ∧ L_m_prints_61 X v1 (s1 132 v2) s1 K)))) : L_m_prints_61 X v1 v2 s K := by
  unfold L_m_prints_61
  refine w_iload (p' := 62) rfl rfl rfl rfl ?_
  refine w_const (p' := 63) rfl rfl rfl ?_
  refine w_icmp (t := 82) (e := 66) rfl rfl rfl (fun e => ?_) (fun e => ?_)
  · have h := h.1 e
    exact w_vret rfl ⟨rfl, rfl, h⟩
  · have h := h.2 e
    refine w_aload (p' := 67) rfl rfl rfl rfl ?_
    refine w_iload (p' := 68) rfl rfl rfl rfl ?_
    refine w_iload (p' := 69) rfl rfl rfl rfl ?_
    refine v_callV (M' := 111) (p' := 72) (rest := []) (as := [(.inr (.inr (.inl (some 113)))), (.inl v2), (.inl v1)]) rfl rfl rfl rfl rfl rfl rfl rfl rfl rfl rfl rfl rfl h (fun s1 h => ?_)
    refine w_aload (p' := 73) rfl rfl rfl rfl ?_
    refine w_getR (p' := 76) rfl rfl rfl rfl rfl ?_
    refine w_iload (p' := 77) rfl rfl rfl rfl ?_
    refine w_iald (p' := 78) (N := 900) rfl rfl rfl rfl h.1 h.2.1 ?_
    have h := h.2.2
    refine w_istore (p' := 79) (ls' := [some (.inr (.inr (.inl (some 113)))), some (.inl v1), some (.inl (s1 132 v2)), none]) rfl rfl rfl (Nat.le_of_ble_eq_true rfl) rfl ?_
    refine w_goto (p' := 61) rfl rfl ?_
    exact w_cut (q_le_s (q_le_s (q_le_s (q_le_n q_le_z)))) h
set_option maxRecDepth 20000 in
theorem sg_m_prints_21 {X : Nat × (Nat → Int32)}  {v1 v2 v3 : Int} {s : qM} {K : qM → Prop} (h : ((0 : Int) ≤ v3) ∧ (v3 < (900 : Int)) ∧ (((v2 = (s 132 v3)) → c_m_givesBeginning X v3 v1 s (fun s1 => (-2147483648 ≤ (v3 + 1) ∧ (v3 + 1) < 2147483648) ∧ L_m_prints_13 X v1 v3 (v3 + 1) s1 K)) ∧ (¬ (v2 = (s 132 v3)) → c_m_givesEnd X v2 v1 s (fun s2 => ((0 : Int) ≤ v2) ∧ (v2 < (900 : Int)) ∧ L_m_prints_21 X v1 (s2 132 v2) v3 s2 K)))) : L_m_prints_21 X v1 v2 v3 s K := by
  unfold L_m_prints_21
  refine w_iload (p' := 22) rfl rfl rfl rfl ?_
  refine w_aload (p' := 23) rfl rfl rfl rfl ?_
  refine w_getR (p' := 26) rfl rfl rfl rfl rfl ?_
  refine w_iload (p' := 27) rfl rfl rfl rfl ?_
  refine w_iald (p' := 28) (N := 900) rfl rfl rfl rfl h.1 h.2.1 ?_
  have h := h.2.2
  refine w_icmp (t := 47) (e := 31) rfl rfl rfl (fun e => ?_) (fun e => ?_)
  · have h := h.1 e
    refine w_aload (p' := 48) rfl rfl rfl rfl ?_
    refine w_iload (p' := 49) rfl rfl rfl rfl ?_
    refine w_iload (p' := 50) rfl rfl rfl rfl ?_
    refine v_callV (M' := 110) (p' := 53) (rest := []) (as := [(.inr (.inr (.inl (some 113)))), (.inl v3), (.inl v1)]) rfl rfl rfl rfl rfl rfl rfl rfl rfl rfl rfl rfl rfl h (fun s1 h => ?_)
    refine w_iload (p' := 54) rfl rfl rfl rfl ?_
    refine w_istore (p' := 55) (ls' := [some (.inr (.inr (.inl (some 113)))), some (.inl v1), some (.inl v3), some (.inl v3)]) rfl rfl rfl (Nat.le_of_ble_eq_true rfl) rfl ?_
    refine w_iinc (p' := 58) (ls' := [some (.inr (.inr (.inl (some 113)))), some (.inl v1), some (.inl v3), some (.inl (v3 + 1))]) rfl rfl rfl (Nat.le_of_ble_eq_true rfl) h.1 rfl ?_
    have h := h.2
    refine w_goto (p' := 13) rfl rfl ?_
    exact w_cut (q_le_s (q_le_s (q_le_s (q_le_s q_le_z)))) h
  · have h := h.2 e
    refine w_aload (p' := 32) rfl rfl rfl rfl ?_
    refine w_iload (p' := 33) rfl rfl rfl rfl ?_
    refine w_iload (p' := 34) rfl rfl rfl rfl ?_
    refine v_callV (M' := 111) (p' := 37) (rest := []) (as := [(.inr (.inr (.inl (some 113)))), (.inl v2), (.inl v1)]) rfl rfl rfl rfl rfl rfl rfl rfl rfl rfl rfl rfl rfl h (fun s2 h => ?_)
    refine w_aload (p' := 38) rfl rfl rfl rfl ?_
    refine w_getR (p' := 41) rfl rfl rfl rfl rfl ?_
    refine w_iload (p' := 42) rfl rfl rfl rfl ?_
    refine w_iald (p' := 43) (N := 900) rfl rfl rfl rfl h.1 h.2.1 ?_
    have h := h.2.2
    refine w_istore (p' := 44) (ls' := [some (.inr (.inr (.inl (some 113)))), some (.inl v1), some (.inl (s2 132 v2)), some (.inl v3)]) rfl rfl rfl (Nat.le_of_ble_eq_true rfl) rfl ?_
    refine w_goto (p' := 21) rfl rfl ?_
    exact w_cut (q_le_s (q_le_s (q_le_s (q_le_s q_le_z)))) h
set_option maxRecDepth 20000 in
theorem sg_m_print {X : Nat × (Nat → Int32)} {x1 : Int} {s : qM} {K : Int → qM → Prop} (h : c_m_isIn X x1 0 1 s (fun r2 s1 => (((r2 = 0) → c_m_can X 1 s1 (fun r4 s3 => (((r4 ≠ 0) → c_m_prints X x1 s3 (fun s5 => K (s5 113 45) s5)) ∧ (¬ (r4 ≠ 0) → K 0 s3)))) ∧ (¬ (r2 = 0) → c_m_can X 0 s1 (fun r7 s6 => (((r7 ≠ 0) → c_m_prints X x1 s6 (fun s8 => K (s8 113 45) s8)) ∧ (¬ (r7 ≠ 0) → K 0 s6))))))) : c_m_print X x1 s K := by
  unfold c_m_print
  refine w_aload (p' := 1) rfl rfl rfl rfl ?_
  refine w_iload (p' := 2) rfl rfl rfl rfl ?_
  refine w_const (p' := 3) rfl rfl rfl ?_
  refine w_const (p' := 4) rfl rfl rfl ?_
  refine v_callI (M' := 47) (p' := 7) (rest := [(.inr (.inr (.inl (some 113))))]) (as := [(.inl x1), (.inl 0), (.inl 1)]) rfl rfl rfl rfl rfl rfl rfl rfl rfl rfl rfl trivial rfl h (fun r2 s1 h => ?_)
  refine w_if (t := 14) (e := 10) rfl rfl rfl (fun e => ?_) (fun e => ?_)
  · have h := h.1 e
    refine w_const (p' := 15) rfl rfl rfl ?_
    refine v_callI (M' := 46) (p' := 18) (rest := []) (as := [(.inr (.inr (.inl (some 113)))), (.inl 1)]) rfl rfl rfl rfl rfl rfl rfl rfl rfl rfl rfl rfl rfl h (fun r4 s3 h => ?_)
    refine w_if (t := 23) (e := 21) rfl rfl rfl (fun e => ?_) (fun e => ?_)
    · have h := h.1 e
      refine w_aload (p' := 24) rfl rfl rfl rfl ?_
      refine w_iload (p' := 25) rfl rfl rfl rfl ?_
      refine v_callV (M' := 112) (p' := 28) (rest := []) (as := [(.inr (.inr (.inl (some 113)))), (.inl x1)]) rfl rfl rfl rfl rfl rfl rfl rfl rfl rfl rfl rfl rfl h (fun s5 h => ?_)
      refine w_aload (p' := 29) rfl rfl rfl rfl ?_
      refine w_getI (p' := 32) (j := 45) rfl rfl (by decide) rfl rfl ?_
      exact w_iret rfl trivial ⟨rfl, _, rfl, h⟩
    · have h := h.2 e
      refine w_const (p' := 22) rfl rfl rfl ?_
      exact w_iret rfl trivial ⟨rfl, _, rfl, h⟩
  · have h := h.2 e
    refine w_const (p' := 11) rfl rfl rfl ?_
    refine w_goto (p' := 15) rfl rfl ?_
    refine v_callI (M' := 46) (p' := 18) (rest := []) (as := [(.inr (.inr (.inl (some 113)))), (.inl 0)]) rfl rfl rfl rfl rfl rfl rfl rfl rfl rfl rfl rfl rfl h (fun r7 s6 h => ?_)
    refine w_if (t := 23) (e := 21) rfl rfl rfl (fun e => ?_) (fun e => ?_)
    · have h := h.1 e
      refine w_aload (p' := 24) rfl rfl rfl rfl ?_
      refine w_iload (p' := 25) rfl rfl rfl rfl ?_
      refine v_callV (M' := 112) (p' := 28) (rest := []) (as := [(.inr (.inr (.inl (some 113)))), (.inl x1)]) rfl rfl rfl rfl rfl rfl rfl rfl rfl rfl rfl rfl rfl h (fun s8 h => ?_)
      refine w_aload (p' := 29) rfl rfl rfl rfl ?_
      refine w_getI (p' := 32) (j := 45) rfl rfl (by decide) rfl rfl ?_
      exact w_iret rfl trivial ⟨rfl, _, rfl, h⟩
    · have h := h.2 e
      refine w_const (p' := 22) rfl rfl rfl ?_
      exact w_iret rfl trivial ⟨rfl, _, rfl, h⟩
set_option maxRecDepth 20000 in
theorem sg_m_printed {X : Nat × (Nat → Int32)} {x1 : Int} {x2 : Int} {s : qM} {K : Int → qM → Prop} (h : c_m_isIn X x1 0 1 s (fun r2 s1 => (((r2 = 0) → L_m_printed_15 X x1 x2 1 s1 K) ∧ (¬ (r2 = 0) → L_m_printed_15 X x1 x2 0 s1 K)))) : c_m_printed X x1 x2 s K := by
  unfold c_m_printed
  refine w_aload (p' := 1) rfl rfl rfl rfl ?_
  refine w_iload (p' := 2) rfl rfl rfl rfl ?_
  refine w_const (p' := 3) rfl rfl rfl ?_
  refine w_const (p' := 4) rfl rfl rfl ?_
  refine v_callI (M' := 47) (p' := 7) (rest := [(.inr (.inr (.inl (some 113))))]) (as := [(.inl x1), (.inl 0), (.inl 1)]) rfl rfl rfl rfl rfl rfl rfl rfl rfl rfl rfl trivial rfl h (fun r2 s1 h => ?_)
  refine w_if (t := 14) (e := 10) rfl rfl rfl (fun e => ?_) (fun e => ?_)
  · have h := h.1 e
    refine w_const (p' := 15) rfl rfl rfl ?_
    exact w_cut (q_le_s (q_le_s (q_le_s q_le_z))) h
  · have h := h.2 e
    refine w_const (p' := 11) rfl rfl rfl ?_
    refine w_goto (p' := 15) rfl rfl ?_
    exact w_cut (q_le_s (q_le_s (q_le_s q_le_z))) h
set_option maxRecDepth 20000 in
theorem sg_m_printed_15 {X : Nat × (Nat → Int32)}  {v1 v2 t1 : Int} {s : qM} {K : Int → qM → Prop} (h : c_m_can X t1 s (fun r2 s1 => (((r2 ≠ 0) → c_m_prints X v1 s1 (fun s3 => (-2147483648 ≤ ((s3 113 45) - 1) ∧ ((s3 113 45) - 1) < 2147483648) ∧ c_m_isIn X v2 0 ((s3 113 45) - 1) s3 (fun r5 s4 => (((r5 = 0) → c_m_can X 2 s4 (fun r7 s6 => (((r7 = 0) → K 0 s6) ∧ (¬ (r7 = 0) → ((0 : Int) ≤ v2) ∧ (v2 < (3000 : Int)) ∧ K (s6 151 v2) s6)))) ∧ (¬ (r5 = 0) → c_m_can X 0 s4 (fun r9 s8 => (((r9 = 0) → K 0 s8) ∧ (¬ (r9 = 0) → ((0 : Int) ≤ v2) ∧ (v2 < (3000 : Int)) ∧ K (s8 151 v2) s8)))))))) ∧ (¬ (r2 ≠ 0) → K 0 s1)))) : L_m_printed_15 X v1 v2 t1 s K := by
  unfold L_m_printed_15
  refine v_callI (M' := 46) (p' := 18) (rest := []) (as := [(.inr (.inr (.inl (some 113)))), (.inl t1)]) rfl rfl rfl rfl rfl rfl rfl rfl rfl rfl rfl rfl rfl h (fun r2 s1 h => ?_)
  refine w_if (t := 23) (e := 21) rfl rfl rfl (fun e => ?_) (fun e => ?_)
  · have h := h.1 e
    refine w_aload (p' := 24) rfl rfl rfl rfl ?_
    refine w_iload (p' := 25) rfl rfl rfl rfl ?_
    refine v_callV (M' := 112) (p' := 28) (rest := []) (as := [(.inr (.inr (.inl (some 113)))), (.inl v1)]) rfl rfl rfl rfl rfl rfl rfl rfl rfl rfl rfl rfl rfl h (fun s3 h => ?_)
    refine w_aload (p' := 29) rfl rfl rfl rfl ?_
    refine w_iload (p' := 30) rfl rfl rfl rfl ?_
    refine w_const (p' := 31) rfl rfl rfl ?_
    refine w_aload (p' := 32) rfl rfl rfl rfl ?_
    refine w_getI (p' := 35) (j := 45) rfl rfl (by decide) rfl rfl ?_
    refine w_const (p' := 36) rfl rfl rfl ?_
    refine w_sub (p' := 37) rfl rfl h.1 ?_
    have h := h.2
    refine v_callI (M' := 47) (p' := 40) (rest := [(.inr (.inr (.inl (some 113))))]) (as := [(.inl v2), (.inl 0), (.inl ((s3 113 45) - 1))]) rfl rfl rfl rfl rfl rfl rfl rfl rfl rfl rfl trivial rfl h (fun r5 s4 h => ?_)
    refine w_if (t := 47) (e := 43) rfl rfl rfl (fun e => ?_) (fun e => ?_)
    · have h := h.1 e
      refine w_const (p' := 48) rfl rfl rfl ?_
      refine v_callI (M' := 46) (p' := 51) (rest := []) (as := [(.inr (.inr (.inl (some 113)))), (.inl 2)]) rfl rfl rfl rfl rfl rfl rfl rfl rfl rfl rfl rfl rfl h (fun r7 s6 h => ?_)
      refine w_if (t := 63) (e := 54) rfl rfl rfl (fun e => ?_) (fun e => ?_)
      · have h := h.1 e
        refine w_const (p' := 64) rfl rfl rfl ?_
        exact w_iret rfl trivial ⟨rfl, _, rfl, h⟩
      · have h := h.2 e
        refine w_aload (p' := 55) rfl rfl rfl rfl ?_
        refine w_getR (p' := 58) rfl rfl rfl rfl rfl ?_
        refine w_iload (p' := 59) rfl rfl rfl rfl ?_
        refine w_iald (p' := 60) (N := 3000) rfl rfl rfl rfl h.1 h.2.1 ?_
        have h := h.2.2
        refine w_goto (p' := 64) rfl rfl ?_
        exact w_iret rfl trivial ⟨rfl, _, rfl, h⟩
    · have h := h.2 e
      refine w_const (p' := 44) rfl rfl rfl ?_
      refine w_goto (p' := 48) rfl rfl ?_
      refine v_callI (M' := 46) (p' := 51) (rest := []) (as := [(.inr (.inr (.inl (some 113)))), (.inl 0)]) rfl rfl rfl rfl rfl rfl rfl rfl rfl rfl rfl rfl rfl h (fun r9 s8 h => ?_)
      refine w_if (t := 63) (e := 54) rfl rfl rfl (fun e => ?_) (fun e => ?_)
      · have h := h.1 e
        refine w_const (p' := 64) rfl rfl rfl ?_
        exact w_iret rfl trivial ⟨rfl, _, rfl, h⟩
      · have h := h.2 e
        refine w_aload (p' := 55) rfl rfl rfl rfl ?_
        refine w_getR (p' := 58) rfl rfl rfl rfl rfl ?_
        refine w_iload (p' := 59) rfl rfl rfl rfl ?_
        refine w_iald (p' := 60) (N := 3000) rfl rfl rfl rfl h.1 h.2.1 ?_
        have h := h.2.2
        refine w_goto (p' := 64) rfl rfl ?_
        exact w_iret rfl trivial ⟨rfl, _, rfl, h⟩
  · have h := h.2 e
    refine w_const (p' := 22) rfl rfl rfl ?_
    exact w_iret rfl trivial ⟨rfl, _, rfl, h⟩
set_option maxRecDepth 20000 in
theorem sg_m_isGap {X : Nat × (Nat → Int32)} {x1 : Int} {s : qM} {K : Int → qM → Prop} (h : ((0 : Int) ≤ x1) ∧ (x1 < (241 : Int)) ∧ ((((s 128 x1) ≠ 0) → K 0 s) ∧ (¬ ((s 128 x1) ≠ 0) → ((0 : Int) ≤ x1) ∧ (x1 < (241 : Int)) ∧ ((0 : Int) ≤ x1) ∧ (x1 < (241 : Int)) ∧ c_m_endOf X (s 127 x1) s (fun r2 s1 => c_m_isBlank X (s 127 x1) r2 s1 (fun r4 s3 => (((r4 = 0) → K 0 s3) ∧ (¬ (r4 = 0) → K 1 s3))))))) : c_m_isGap X x1 s K := by
  unfold c_m_isGap
  refine w_aload (p' := 1) rfl rfl rfl rfl ?_
  refine w_getR (p' := 4) rfl rfl rfl rfl rfl ?_
  refine w_iload (p' := 5) rfl rfl rfl rfl ?_
  refine w_bald (p' := 6) (N := 241) rfl rfl rfl rfl h.1 h.2.1 ?_
  have h := h.2.2
  refine w_if (t := 36) (e := 9) rfl rfl rfl (fun e => ?_) (fun e => ?_)
  · have h := h.1 e
    refine w_const (p' := 37) rfl rfl rfl ?_
    exact w_iret rfl ⟨by decide, by decide⟩ ⟨rfl, _, rfl, h⟩
  · have h := h.2 e
    refine w_aload (p' := 10) rfl rfl rfl rfl ?_
    refine w_aload (p' := 11) rfl rfl rfl rfl ?_
    refine w_getR (p' := 14) rfl rfl rfl rfl rfl ?_
    refine w_iload (p' := 15) rfl rfl rfl rfl ?_
    refine w_iald (p' := 16) (N := 241) rfl rfl rfl rfl h.1 h.2.1 ?_
    have h := h.2.2
    refine w_aload (p' := 17) rfl rfl rfl rfl ?_
    refine w_aload (p' := 18) rfl rfl rfl rfl ?_
    refine w_getR (p' := 21) rfl rfl rfl rfl rfl ?_
    refine w_iload (p' := 22) rfl rfl rfl rfl ?_
    refine w_iald (p' := 23) (N := 241) rfl rfl rfl rfl h.1 h.2.1 ?_
    have h := h.2.2
    refine v_callI (M' := 56) (p' := 26) (rest := [(.inl (s 127 x1)), (.inr (.inr (.inl (some 113))))]) (as := [(.inr (.inr (.inl (some 113)))), (.inl (s 127 x1))]) rfl rfl rfl rfl rfl rfl rfl rfl rfl rfl rfl rfl rfl h (fun r2 s1 h => ?_)
    refine v_callI (M' := 57) (p' := 29) (rest := []) (as := [(.inr (.inr (.inl (some 113)))), (.inl (s 127 x1)), (.inl r2)]) rfl rfl rfl rfl rfl rfl rfl rfl rfl rfl rfl rfl rfl h (fun r4 s3 h => ?_)
    refine w_if (t := 36) (e := 32) rfl rfl rfl (fun e => ?_) (fun e => ?_)
    · have h := h.1 e
      refine w_const (p' := 37) rfl rfl rfl ?_
      exact w_iret rfl ⟨by decide, by decide⟩ ⟨rfl, _, rfl, h⟩
    · have h := h.2 e
      refine w_const (p' := 33) rfl rfl rfl ?_
      refine w_goto (p' := 37) rfl rfl ?_
      exact w_iret rfl ⟨by decide, by decide⟩ ⟨rfl, _, rfl, h⟩
set_option maxRecDepth 20000 in
theorem sg_m_stays {X : Nat × (Nat → Int32)} {x1 : Int} {s : qM} {K : Int → qM → Prop} (h : c_m_isGap X x1 s (fun r2 s1 => (((r2 ≠ 0) → (-2147483648 ≤ (x1 + 1) ∧ (x1 + 1) < 2147483648) ∧ L_m_stays_16 X x1 0 (x1 + 1) s1 K) ∧ (¬ (r2 ≠ 0) → K 1 s1)))) : c_m_stays X x1 s K := by
  unfold c_m_stays
  refine w_aload (p' := 1) rfl rfl rfl rfl ?_
  refine w_iload (p' := 2) rfl rfl rfl rfl ?_
  refine v_callI (M' := 115) (p' := 5) (rest := []) (as := [(.inr (.inr (.inl (some 113)))), (.inl x1)]) rfl rfl rfl rfl rfl rfl rfl rfl rfl rfl rfl rfl rfl h (fun r2 s1 h => ?_)
  refine w_if (t := 10) (e := 8) rfl rfl rfl (fun e => ?_) (fun e => ?_)
  · have h := h.1 e
    refine w_const (p' := 11) rfl rfl rfl ?_
    refine w_istore (p' := 12) (ls' := [some (.inr (.inr (.inl (some 113)))), some (.inl x1), some (.inl 0), none]) rfl rfl rfl (Nat.le_of_ble_eq_true rfl) rfl ?_
    refine w_iload (p' := 13) rfl rfl rfl rfl ?_
    refine w_const (p' := 14) rfl rfl rfl ?_
    refine w_add (p' := 15) rfl rfl h.1 ?_
    have h := h.2
    refine w_istore (p' := 16) (ls' := [some (.inr (.inr (.inl (some 113)))), some (.inl x1), some (.inl 0), some (.inl (x1 + 1))]) rfl rfl rfl (Nat.le_of_ble_eq_true rfl) rfl ?_
    exact w_cut (q_le_s (q_le_s (q_le_s (q_le_s q_le_z)))) h
  · have h := h.2 e
    refine w_const (p' := 9) rfl rfl rfl ?_
    exact w_iret rfl ⟨by decide, by decide⟩ ⟨rfl, _, rfl, h⟩
set_option maxRecDepth 20000 in
theorem sg_m_stays_16 {X : Nat × (Nat → Int32)}  {v1 v2 v3 : Int} {s : qM} {K : Int → qM → Prop} (h : ((((s 113 17) ≤ v3) → (((v1 ≤ 0) → K 0 s) ∧ (¬ (v1 ≤ 0) → (((v2 = 0) → K 0 s) ∧ (¬ (v2 = 0) → (-2147483648 ≤ (v1 - 1) ∧ (v1 - 1) < 2147483648) ∧ c_m_isGap X (v1 - 1) s (fun r2 s1 => (((r2 ≠ 0) → K 0 s1) ∧ (¬ (r2 ≠ 0) → K 1 s1)))))))) ∧ (¬ ((s 113 17) ≤ v3) → (((v2 ≠ 0) → (-2147483648 ≤ (v3 + 1) ∧ (v3 + 1) < 2147483648) ∧ L_m_stays_16 X v1 1 (v3 + 1) s K) ∧ (¬ (v2 ≠ 0) → c_m_isGap X v3 s (fun r4 s3 => (((r4 ≠ 0) → (-2147483648 ≤ (v3 + 1) ∧ (v3 + 1) < 2147483648) ∧ L_m_stays_16 X v1 0 (v3 + 1) s3 K) ∧ (¬ (r4 ≠ 0) → (-2147483648 ≤ (v3 + 1) ∧ (v3 + 1) < 2147483648) ∧ L_m_stays_16 X v1 1 (v3 + 1) s3 K)))))))) : L_m_stays_16 X v1 v2 v3 s K := by
  unfold L_m_stays_16
  refine w_iload (p' := 17) rfl rfl rfl rfl ?_
  refine w_aload (p' := 18) rfl rfl rfl rfl ?_
  refine w_getI (p' := 21) (j := 17) rfl rfl (by decide) rfl rfl ?_
  refine w_icmp (t := 48) (e := 24) rfl rfl rfl (fun e => ?_) (fun e => ?_)
  · have h := h.1 e
    refine w_iload (p' := 49) rfl rfl rfl rfl ?_
    refine w_if (t := 70) (e := 52) rfl rfl rfl (fun e => ?_) (fun e => ?_)
    · have h := h.1 e
      refine w_const (p' := 71) rfl rfl rfl ?_
      exact w_iret rfl ⟨by decide, by decide⟩ ⟨rfl, _, rfl, h⟩
    · have h := h.2 e
      refine w_iload (p' := 53) rfl rfl rfl rfl ?_
      refine w_if (t := 70) (e := 56) rfl rfl rfl (fun e => ?_) (fun e => ?_)
      · have h := h.1 e
        refine w_const (p' := 71) rfl rfl rfl ?_
        exact w_iret rfl ⟨by decide, by decide⟩ ⟨rfl, _, rfl, h⟩
      · have h := h.2 e
        refine w_aload (p' := 57) rfl rfl rfl rfl ?_
        refine w_iload (p' := 58) rfl rfl rfl rfl ?_
        refine w_const (p' := 59) rfl rfl rfl ?_
        refine w_sub (p' := 60) rfl rfl h.1 ?_
        have h := h.2
        refine v_callI (M' := 115) (p' := 63) (rest := []) (as := [(.inr (.inr (.inl (some 113)))), (.inl (v1 - 1))]) rfl rfl rfl rfl rfl rfl rfl rfl rfl rfl rfl rfl rfl h (fun r2 s1 h => ?_)
        refine w_if (t := 70) (e := 66) rfl rfl rfl (fun e => ?_) (fun e => ?_)
        · have h := h.1 e
          refine w_const (p' := 71) rfl rfl rfl ?_
          exact w_iret rfl ⟨by decide, by decide⟩ ⟨rfl, _, rfl, h⟩
        · have h := h.2 e
          refine w_const (p' := 67) rfl rfl rfl ?_
          refine w_goto (p' := 71) rfl rfl ?_
          exact w_iret rfl ⟨by decide, by decide⟩ ⟨rfl, _, rfl, h⟩
  · have h := h.2 e
    refine w_iload (p' := 25) rfl rfl rfl rfl ?_
    refine w_if (t := 36) (e := 28) rfl rfl rfl (fun e => ?_) (fun e => ?_)
    · have h := h.1 e
      refine w_const (p' := 37) rfl rfl rfl ?_
      refine w_goto (p' := 41) rfl rfl ?_
      refine w_istore (p' := 42) (ls' := [some (.inr (.inr (.inl (some 113)))), some (.inl v1), some (.inl 1), some (.inl v3)]) rfl rfl rfl (Nat.le_of_ble_eq_true rfl) rfl ?_
      refine w_iinc (p' := 45) (ls' := [some (.inr (.inr (.inl (some 113)))), some (.inl v1), some (.inl 1), some (.inl (v3 + 1))]) rfl rfl rfl (Nat.le_of_ble_eq_true rfl) h.1 rfl ?_
      have h := h.2
      refine w_goto (p' := 16) rfl rfl ?_
      exact w_cut (q_le_s (q_le_s (q_le_s (q_le_s q_le_z)))) h
    · have h := h.2 e
      refine w_aload (p' := 29) rfl rfl rfl rfl ?_
      refine w_iload (p' := 30) rfl rfl rfl rfl ?_
      refine v_callI (M' := 115) (p' := 33) (rest := []) (as := [(.inr (.inr (.inl (some 113)))), (.inl v3)]) rfl rfl rfl rfl rfl rfl rfl rfl rfl rfl rfl rfl rfl h (fun r4 s3 h => ?_)
      refine w_if (t := 40) (e := 36) rfl rfl rfl (fun e => ?_) (fun e => ?_)
      · have h := h.1 e
        refine w_const (p' := 41) rfl rfl rfl ?_
        refine w_istore (p' := 42) (ls' := [some (.inr (.inr (.inl (some 113)))), some (.inl v1), some (.inl 0), some (.inl v3)]) rfl rfl rfl (Nat.le_of_ble_eq_true rfl) rfl ?_
        refine w_iinc (p' := 45) (ls' := [some (.inr (.inr (.inl (some 113)))), some (.inl v1), some (.inl 0), some (.inl (v3 + 1))]) rfl rfl rfl (Nat.le_of_ble_eq_true rfl) h.1 rfl ?_
        have h := h.2
        refine w_goto (p' := 16) rfl rfl ?_
        exact w_cut (q_le_s (q_le_s (q_le_s (q_le_s q_le_z)))) h
      · have h := h.2 e
        refine w_const (p' := 37) rfl rfl rfl ?_
        refine w_goto (p' := 41) rfl rfl ?_
        refine w_istore (p' := 42) (ls' := [some (.inr (.inr (.inl (some 113)))), some (.inl v1), some (.inl 1), some (.inl v3)]) rfl rfl rfl (Nat.le_of_ble_eq_true rfl) rfl ?_
        refine w_iinc (p' := 45) (ls' := [some (.inr (.inr (.inl (some 113)))), some (.inl v1), some (.inl 1), some (.inl (v3 + 1))]) rfl rfl rfl (Nat.le_of_ble_eq_true rfl) h.1 rfl ?_
        have h := h.2
        refine w_goto (p' := 16) rfl rfl ?_
        exact w_cut (q_le_s (q_le_s (q_le_s (q_le_s q_le_z)))) h
set_option maxRecDepth 20000 in
theorem sg_m_format {X : Nat × (Nat → Int32)}  {s : qM} {K : Int → qM → Prop} (h : (∀ s1 : qM, s1 = q_up s 113 47 0 → c_m_blocks X  s1 (fun s2 => L_m_format_21 X (s2 113 0) 0 0 0 s2 K))) : c_m_format X  s K := by
  unfold c_m_format
  refine w_aload (p' := 1) rfl rfl rfl rfl ?_
  refine w_const (p' := 2) rfl rfl rfl ?_
  refine v_putI (p' := 5) (j := 47) rfl rfl (by decide) rfl rfl trivial ?_
  intro s1 es1
  have h := h s1 es1
  refine w_aload (p' := 6) rfl rfl rfl rfl ?_
  refine v_callV (M' := 76) (p' := 9) (rest := []) (as := [(.inr (.inr (.inl (some 113))))]) rfl rfl rfl rfl rfl rfl rfl rfl rfl rfl rfl rfl rfl h (fun s2 h => ?_)
  refine w_aload (p' := 10) rfl rfl rfl rfl ?_
  refine w_getI (p' := 13) (j := 0) rfl rfl (by decide) rfl rfl ?_
  refine w_istore (p' := 14) (ls' := [some (.inr (.inr (.inl (some 113)))), some (.inl (s2 113 0)), none, none, none, none, none]) rfl rfl rfl (Nat.le_of_ble_eq_true rfl) rfl ?_
  refine w_const (p' := 15) rfl rfl rfl ?_
  refine w_istore (p' := 16) (ls' := [some (.inr (.inr (.inl (some 113)))), some (.inl (s2 113 0)), some (.inl 0), none, none, none, none]) rfl rfl rfl (Nat.le_of_ble_eq_true rfl) rfl ?_
  refine w_const (p' := 17) rfl rfl rfl ?_
  refine w_istore (p' := 18) (ls' := [some (.inr (.inr (.inl (some 113)))), some (.inl (s2 113 0)), some (.inl 0), some (.inl 0), none, none, none]) rfl rfl rfl (Nat.le_of_ble_eq_true rfl) rfl ?_
  refine w_const (p' := 19) rfl rfl rfl ?_
  refine w_istore (p' := 21) (ls' := [some (.inr (.inr (.inl (some 113)))), some (.inl (s2 113 0)), some (.inl 0), some (.inl 0), some (.inl 0), none, none]) rfl rfl rfl (Nat.le_of_ble_eq_true rfl) rfl ?_
  exact w_cut (q_le_s (q_le_s (q_le_s (q_le_s (q_le_s (q_le_n (q_le_n q_le_z))))))) h
set_option maxRecDepth 20000 in
theorem sg_m_format_21 {X : Nat × (Nat → Int32)}  {v1 v2 v3 v4 : Int} {s : qM} {K : Int → qM → Prop} (h : ((((s 113 17) ≤ v4) → (∀ s1 : qM, s1 = q_up s 113 0 v2 → L_m_format_151 X v1 v2 0 s1 K)) ∧ (¬ ((s 113 17) ≤ v4) → c_m_stays X v4 s (fun r3 s2 => (((r3 = 0) → (-2147483648 ≤ (v4 + 1) ∧ (v4 + 1) < 2147483648) ∧ L_m_format_21 X v1 v2 v3 (v4 + 1) s2 K) ∧ (¬ (r3 = 0) → ((0 : Int) ≤ v4) ∧ (v4 < (241 : Int)) ∧ c_m_endOf X (s2 127 v4) s2 (fun r5 s4 => ((0 : Int) ≤ v4) ∧ (v4 < (241 : Int)) ∧ ((((s4 128 v4) = 0) → ((0 : Int) ≤ v4) ∧ (v4 < (241 : Int)) ∧ c_m_trimmed X (s4 127 v4) r5 s4 (fun r7 s6 => (((v3 = 0) → ((0 : Int) ≤ v4) ∧ (v4 < (241 : Int)) ∧ L_m_format_108 X v1 v2 1 v4 r7 (s6 127 v4) s6 K) ∧ (¬ (v3 = 0) → ((0 : Int) ≤ v2) ∧ (v2 < (800 : Int)) ∧ (∀ s8 : qM, s8 = q_up s6 154 v2 10 → (-2147483648 ≤ (v2 + 1) ∧ (v2 + 1) < 2147483648) ∧ ((0 : Int) ≤ v4) ∧ (v4 < (241 : Int)) ∧ L_m_format_108 X v1 (v2 + 1) 1 v4 r7 (s8 127 v4) s8 K))))) ∧ (¬ ((s4 128 v4) = 0) → (((v3 = 0) → ((0 : Int) ≤ v4) ∧ (v4 < (241 : Int)) ∧ L_m_format_108 X v1 v2 1 v4 r5 (s4 127 v4) s4 K) ∧ (¬ (v3 = 0) → ((0 : Int) ≤ v2) ∧ (v2 < (800 : Int)) ∧ (∀ s9 : qM, s9 = q_up s4 154 v2 10 → (-2147483648 ≤ (v2 + 1) ∧ (v2 + 1) < 2147483648) ∧ ((0 : Int) ≤ v4) ∧ (v4 < (241 : Int)) ∧ L_m_format_108 X v1 (v2 + 1) 1 v4 r5 (s9 127 v4) s9 K)))))))))))) : L_m_format_21 X v1 v2 v3 v4 s K := by
  unfold L_m_format_21
  refine w_iload (p' := 23) rfl rfl rfl rfl ?_
  refine w_aload (p' := 24) rfl rfl rfl rfl ?_
  refine w_getI (p' := 27) (j := 17) rfl rfl (by decide) rfl rfl ?_
  refine w_icmp (t := 143) (e := 30) rfl rfl rfl (fun e => ?_) (fun e => ?_)
  · have h := h.1 e
    refine w_aload (p' := 144) rfl rfl rfl rfl ?_
    refine w_iload (p' := 145) rfl rfl rfl rfl ?_
    refine v_putI (p' := 148) (j := 0) rfl rfl (by decide) rfl rfl trivial ?_
    intro s1 es1
    have h := h s1 es1
    refine w_const (p' := 149) rfl rfl rfl ?_
    refine w_istore (p' := 151) (ls' := [some (.inr (.inr (.inl (some 113)))), some (.inl v1), some (.inl v2), some (.inl v3), some (.inl 0), none, none]) rfl rfl rfl (Nat.le_of_ble_eq_true rfl) rfl ?_
    exact w_cut (q_le_s (q_le_s (q_le_s (q_le_n (q_le_s (q_le_n (q_le_n q_le_z))))))) h
  · have h := h.2 e
    refine w_aload (p' := 31) rfl rfl rfl rfl ?_
    refine w_iload (p' := 33) rfl rfl rfl rfl ?_
    refine v_callI (M' := 116) (p' := 36) (rest := []) (as := [(.inr (.inr (.inl (some 113)))), (.inl v4)]) rfl rfl rfl rfl rfl rfl rfl rfl rfl rfl rfl rfl rfl h (fun r3 s2 h => ?_)
    refine w_if (t := 137) (e := 39) rfl rfl rfl (fun e => ?_) (fun e => ?_)
    · have h := h.1 e
      refine w_iinc (p' := 140) (ls' := [some (.inr (.inr (.inl (some 113)))), some (.inl v1), some (.inl v2), some (.inl v3), some (.inl (v4 + 1)), none, none]) rfl rfl rfl (Nat.le_of_ble_eq_true rfl) h.1 rfl ?_
      have h := h.2
      refine w_goto (p' := 21) rfl rfl ?_
      exact w_cut (q_le_s (q_le_s (q_le_s (q_le_s (q_le_s (q_le_n (q_le_n q_le_z))))))) h
    · have h := h.2 e
      refine w_aload (p' := 40) rfl rfl rfl rfl ?_
      refine w_aload (p' := 41) rfl rfl rfl rfl ?_
      refine w_getR (p' := 44) rfl rfl rfl rfl rfl ?_
      refine w_iload (p' := 46) rfl rfl rfl rfl ?_
      refine w_iald (p' := 47) (N := 241) rfl rfl rfl rfl h.1 h.2.1 ?_
      have h := h.2.2
      refine v_callI (M' := 56) (p' := 50) (rest := []) (as := [(.inr (.inr (.inl (some 113)))), (.inl (s2 127 v4))]) rfl rfl rfl rfl rfl rfl rfl rfl rfl rfl rfl rfl rfl h (fun r5 s4 h => ?_)
      refine w_istore (p' := 52) (ls' := [some (.inr (.inr (.inl (some 113)))), some (.inl v1), some (.inl v2), some (.inl v3), some (.inl v4), some (.inl r5), none]) rfl rfl rfl (Nat.le_of_ble_eq_true rfl) rfl ?_
      refine w_aload (p' := 53) rfl rfl rfl rfl ?_
      refine w_getR (p' := 56) rfl rfl rfl rfl rfl ?_
      refine w_iload (p' := 58) rfl rfl rfl rfl ?_
      refine w_bald (p' := 59) (N := 241) rfl rfl rfl rfl h.1 h.2.1 ?_
      have h := h.2.2
      refine w_if (t := 67) (e := 62) rfl rfl rfl (fun e => ?_) (fun e => ?_)
      · have h := h.1 e
        refine w_aload (p' := 68) rfl rfl rfl rfl ?_
        refine w_aload (p' := 69) rfl rfl rfl rfl ?_
        refine w_getR (p' := 72) rfl rfl rfl rfl rfl ?_
        refine w_iload (p' := 74) rfl rfl rfl rfl ?_
        refine w_iald (p' := 75) (N := 241) rfl rfl rfl rfl h.1 h.2.1 ?_
        have h := h.2.2
        refine w_iload (p' := 77) rfl rfl rfl rfl ?_
        refine v_callI (M' := 65) (p' := 80) (rest := []) (as := [(.inr (.inr (.inl (some 113)))), (.inl (s4 127 v4)), (.inl r5)]) rfl rfl rfl rfl rfl rfl rfl rfl rfl rfl rfl rfl rfl h (fun r7 s6 h => ?_)
        refine w_istore (p' := 82) (ls' := [some (.inr (.inr (.inl (some 113)))), some (.inl v1), some (.inl v2), some (.inl v3), some (.inl v4), some (.inl r7), none]) rfl rfl rfl (Nat.le_of_ble_eq_true rfl) rfl ?_
        refine w_iload (p' := 83) rfl rfl rfl rfl ?_
        refine w_if (t := 97) (e := 86) rfl rfl rfl (fun e => ?_) (fun e => ?_)
        · have h := h.1 e
          refine w_const (p' := 98) rfl rfl rfl ?_
          refine w_istore (p' := 99) (ls' := [some (.inr (.inr (.inl (some 113)))), some (.inl v1), some (.inl v2), some (.inl 1), some (.inl v4), some (.inl r7), none]) rfl rfl rfl (Nat.le_of_ble_eq_true rfl) rfl ?_
          refine w_aload (p' := 100) rfl rfl rfl rfl ?_
          refine w_getR (p' := 103) rfl rfl rfl rfl rfl ?_
          refine w_iload (p' := 105) rfl rfl rfl rfl ?_
          refine w_iald (p' := 106) (N := 241) rfl rfl rfl rfl h.1 h.2.1 ?_
          have h := h.2.2
          refine w_istore (p' := 108) (ls' := [some (.inr (.inr (.inl (some 113)))), some (.inl v1), some (.inl v2), some (.inl 1), some (.inl v4), some (.inl r7), some (.inl (s6 127 v4))]) rfl rfl rfl (Nat.le_of_ble_eq_true rfl) rfl ?_
          exact w_cut (q_le_s (q_le_s (q_le_s (q_le_s (q_le_s (q_le_s (q_le_s q_le_z))))))) h
        · have h := h.2 e
          refine w_aload (p' := 87) rfl rfl rfl rfl ?_
          refine w_getR (p' := 90) rfl rfl rfl rfl rfl ?_
          refine w_iload (p' := 91) rfl rfl rfl rfl ?_
          refine w_const (p' := 93) rfl rfl rfl ?_
          refine v_iast (p' := 94) (N := 800) rfl rfl rfl rfl h.1 h.2.1  ?_
          have h := h.2.2
          intro s8 es8
          have h := h s8 es8
          refine w_iinc (p' := 97) (ls' := [some (.inr (.inr (.inl (some 113)))), some (.inl v1), some (.inl (v2 + 1)), some (.inl v3), some (.inl v4), some (.inl r7), none]) rfl rfl rfl (Nat.le_of_ble_eq_true rfl) h.1 rfl ?_
          have h := h.2
          refine w_const (p' := 98) rfl rfl rfl ?_
          refine w_istore (p' := 99) (ls' := [some (.inr (.inr (.inl (some 113)))), some (.inl v1), some (.inl (v2 + 1)), some (.inl 1), some (.inl v4), some (.inl r7), none]) rfl rfl rfl (Nat.le_of_ble_eq_true rfl) rfl ?_
          refine w_aload (p' := 100) rfl rfl rfl rfl ?_
          refine w_getR (p' := 103) rfl rfl rfl rfl rfl ?_
          refine w_iload (p' := 105) rfl rfl rfl rfl ?_
          refine w_iald (p' := 106) (N := 241) rfl rfl rfl rfl h.1 h.2.1 ?_
          have h := h.2.2
          refine w_istore (p' := 108) (ls' := [some (.inr (.inr (.inl (some 113)))), some (.inl v1), some (.inl (v2 + 1)), some (.inl 1), some (.inl v4), some (.inl r7), some (.inl (s8 127 v4))]) rfl rfl rfl (Nat.le_of_ble_eq_true rfl) rfl ?_
          exact w_cut (q_le_s (q_le_s (q_le_s (q_le_s (q_le_s (q_le_s (q_le_s q_le_z))))))) h
      · have h := h.2 e
        refine w_iload (p' := 64) rfl rfl rfl rfl ?_
        refine w_goto (p' := 80) rfl rfl ?_
        refine w_istore (p' := 82) (ls' := [some (.inr (.inr (.inl (some 113)))), some (.inl v1), some (.inl v2), some (.inl v3), some (.inl v4), some (.inl r5), none]) rfl rfl rfl (Nat.le_of_ble_eq_true rfl) rfl ?_
        refine w_iload (p' := 83) rfl rfl rfl rfl ?_
        refine w_if (t := 97) (e := 86) rfl rfl rfl (fun e => ?_) (fun e => ?_)
        · have h := h.1 e
          refine w_const (p' := 98) rfl rfl rfl ?_
          refine w_istore (p' := 99) (ls' := [some (.inr (.inr (.inl (some 113)))), some (.inl v1), some (.inl v2), some (.inl 1), some (.inl v4), some (.inl r5), none]) rfl rfl rfl (Nat.le_of_ble_eq_true rfl) rfl ?_
          refine w_aload (p' := 100) rfl rfl rfl rfl ?_
          refine w_getR (p' := 103) rfl rfl rfl rfl rfl ?_
          refine w_iload (p' := 105) rfl rfl rfl rfl ?_
          refine w_iald (p' := 106) (N := 241) rfl rfl rfl rfl h.1 h.2.1 ?_
          have h := h.2.2
          refine w_istore (p' := 108) (ls' := [some (.inr (.inr (.inl (some 113)))), some (.inl v1), some (.inl v2), some (.inl 1), some (.inl v4), some (.inl r5), some (.inl (s4 127 v4))]) rfl rfl rfl (Nat.le_of_ble_eq_true rfl) rfl ?_
          exact w_cut (q_le_s (q_le_s (q_le_s (q_le_s (q_le_s (q_le_s (q_le_s q_le_z))))))) h
        · have h := h.2 e
          refine w_aload (p' := 87) rfl rfl rfl rfl ?_
          refine w_getR (p' := 90) rfl rfl rfl rfl rfl ?_
          refine w_iload (p' := 91) rfl rfl rfl rfl ?_
          refine w_const (p' := 93) rfl rfl rfl ?_
          refine v_iast (p' := 94) (N := 800) rfl rfl rfl rfl h.1 h.2.1  ?_
          have h := h.2.2
          intro s9 es9
          have h := h s9 es9
          refine w_iinc (p' := 97) (ls' := [some (.inr (.inr (.inl (some 113)))), some (.inl v1), some (.inl (v2 + 1)), some (.inl v3), some (.inl v4), some (.inl r5), none]) rfl rfl rfl (Nat.le_of_ble_eq_true rfl) h.1 rfl ?_
          have h := h.2
          refine w_const (p' := 98) rfl rfl rfl ?_
          refine w_istore (p' := 99) (ls' := [some (.inr (.inr (.inl (some 113)))), some (.inl v1), some (.inl (v2 + 1)), some (.inl 1), some (.inl v4), some (.inl r5), none]) rfl rfl rfl (Nat.le_of_ble_eq_true rfl) rfl ?_
          refine w_aload (p' := 100) rfl rfl rfl rfl ?_
          refine w_getR (p' := 103) rfl rfl rfl rfl rfl ?_
          refine w_iload (p' := 105) rfl rfl rfl rfl ?_
          refine w_iald (p' := 106) (N := 241) rfl rfl rfl rfl h.1 h.2.1 ?_
          have h := h.2.2
          refine w_istore (p' := 108) (ls' := [some (.inr (.inr (.inl (some 113)))), some (.inl v1), some (.inl (v2 + 1)), some (.inl 1), some (.inl v4), some (.inl r5), some (.inl (s9 127 v4))]) rfl rfl rfl (Nat.le_of_ble_eq_true rfl) rfl ?_
          exact w_cut (q_le_s (q_le_s (q_le_s (q_le_s (q_le_s (q_le_s (q_le_s q_le_z))))))) h
set_option maxRecDepth 20000 in
theorem sg_m_format_151 {X : Nat × (Nat → Int32)}  {v1 v2 v4 : Int} {s : qM} {K : Int → qM → Prop} (h : (((v2 ≤ v4) → (-2147483648 ≤ (v1 - v2) ∧ (v1 - v2) < 2147483648) ∧ K (v1 - v2) s) ∧ (¬ (v2 ≤ v4) → ((0 : Int) ≤ v4) ∧ (v4 < (800 : Int)) ∧ ((0 : Int) ≤ v4) ∧ (v4 < (240 : Int)) ∧ (∀ s1 : qM, s1 = q_up s 114 v4 (s 154 v4) → (-2147483648 ≤ (v4 + 1) ∧ (v4 + 1) < 2147483648) ∧ L_m_format_151 X v1 v2 (v4 + 1) s1 K)))) : L_m_format_151 X v1 v2 v4 s K := by
  unfold L_m_format_151
  refine w_iload (p' := 153) rfl rfl rfl rfl ?_
  refine w_iload (p' := 154) rfl rfl rfl rfl ?_
  refine w_icmp (t := 177) (e := 157) rfl rfl rfl (fun e => ?_) (fun e => ?_)
  · have h := h.1 e
    refine w_iload (p' := 178) rfl rfl rfl rfl ?_
    refine w_iload (p' := 179) rfl rfl rfl rfl ?_
    refine w_sub (p' := 180) rfl rfl h.1 ?_
    have h := h.2
    exact w_iret rfl trivial ⟨rfl, _, rfl, h⟩
  · have h := h.2 e
    refine w_aload (p' := 158) rfl rfl rfl rfl ?_
    refine w_getR (p' := 161) rfl rfl rfl rfl rfl ?_
    refine w_iload (p' := 163) rfl rfl rfl rfl ?_
    refine w_aload (p' := 164) rfl rfl rfl rfl ?_
    refine w_getR (p' := 167) rfl rfl rfl rfl rfl ?_
    refine w_iload (p' := 169) rfl rfl rfl rfl ?_
    refine w_iald (p' := 170) (N := 800) rfl rfl rfl rfl h.1 h.2.1 ?_
    have h := h.2.2
    refine v_iast (p' := 171) (N := 240) rfl rfl rfl rfl h.1 h.2.1  ?_
    have h := h.2.2
    intro s1 es1
    have h := h s1 es1
    refine w_iinc (p' := 174) (ls' := [some (.inr (.inr (.inl (some 113)))), some (.inl v1), some (.inl v2), none, some (.inl (v4 + 1)), none, none]) rfl rfl rfl (Nat.le_of_ble_eq_true rfl) h.1 rfl ?_
    have h := h.2
    refine w_goto (p' := 151) rfl rfl ?_
    exact w_cut (q_le_s (q_le_s (q_le_s (q_le_n (q_le_s (q_le_n (q_le_n q_le_z))))))) h
set_option maxRecDepth 20000 in
theorem sg_m_format_108 {X : Nat × (Nat → Int32)}  {v1 v2 v3 v4 v5 v6 : Int} {s : qM} {K : Int → qM → Prop} (h : (((v5 ≤ v6) → (-2147483648 ≤ (v4 + 1) ∧ (v4 + 1) < 2147483648) ∧ L_m_format_21 X v1 v2 v3 (v4 + 1) s K) ∧ (¬ (v5 ≤ v6) → ((0 : Int) ≤ v6) ∧ (v6 < (240 : Int)) ∧ ((0 : Int) ≤ v2) ∧ (v2 < (800 : Int)) ∧ (∀ s1 : qM, s1 = q_up s 154 v2 (s 114 v6) → (-2147483648 ≤ (v2 + 1) ∧ (v2 + 1) < 2147483648) ∧ (-2147483648 ≤ (v6 + 1) ∧ (v6 + 1) < 2147483648) ∧ L_m_format_108 X v1 (v2 + 1) v3 v4 v5 (v6 + 1) s1 K)))) : L_m_format_108 X v1 v2 v3 v4 v5 v6 s K := by
  unfold L_m_format_108
  refine w_iload (p' := 110) rfl rfl rfl rfl ?_
  refine w_iload (p' := 112) rfl rfl rfl rfl ?_
  refine w_icmp (t := 137) (e := 115) rfl rfl rfl (fun e => ?_) (fun e => ?_)
  · have h := h.1 e
    refine w_iinc (p' := 140) (ls' := [some (.inr (.inr (.inl (some 113)))), some (.inl v1), some (.inl v2), some (.inl v3), some (.inl (v4 + 1)), some (.inl v5), some (.inl v6)]) rfl rfl rfl (Nat.le_of_ble_eq_true rfl) h.1 rfl ?_
    have h := h.2
    refine w_goto (p' := 21) rfl rfl ?_
    exact w_cut (q_le_s (q_le_s (q_le_s (q_le_s (q_le_s (q_le_n (q_le_n q_le_z))))))) h
  · have h := h.2 e
    refine w_aload (p' := 116) rfl rfl rfl rfl ?_
    refine w_getR (p' := 119) rfl rfl rfl rfl rfl ?_
    refine w_iload (p' := 120) rfl rfl rfl rfl ?_
    refine w_aload (p' := 121) rfl rfl rfl rfl ?_
    refine w_getR (p' := 124) rfl rfl rfl rfl rfl ?_
    refine w_iload (p' := 126) rfl rfl rfl rfl ?_
    refine w_iald (p' := 127) (N := 240) rfl rfl rfl rfl h.1 h.2.1 ?_
    have h := h.2.2
    refine v_iast (p' := 128) (N := 800) rfl rfl rfl rfl h.1 h.2.1  ?_
    have h := h.2.2
    intro s1 es1
    have h := h s1 es1
    refine w_iinc (p' := 131) (ls' := [some (.inr (.inr (.inl (some 113)))), some (.inl v1), some (.inl (v2 + 1)), some (.inl v3), some (.inl v4), some (.inl v5), some (.inl v6)]) rfl rfl rfl (Nat.le_of_ble_eq_true rfl) h.1 rfl ?_
    have h := h.2
    refine w_iinc (p' := 134) (ls' := [some (.inr (.inr (.inl (some 113)))), some (.inl v1), some (.inl (v2 + 1)), some (.inl v3), some (.inl v4), some (.inl v5), some (.inl (v6 + 1))]) rfl rfl rfl (Nat.le_of_ble_eq_true rfl) h.1 rfl ?_
    have h := h.2
    refine w_goto (p' := 108) rfl rfl ?_
    exact w_cut (q_le_s (q_le_s (q_le_s (q_le_s (q_le_s (q_le_s (q_le_s q_le_z))))))) h
set_option maxRecDepth 20000 in
theorem sg_m_keep {X : Nat × (Nat → Int32)} {x1 : Int} {s : qM} {K : Int → qM → Prop} (h : c_m_isIn X x1 0 1 s (fun r2 s1 => (((r2 = 0) → c_m_can X 1 s1 (fun r4 s3 => (((r4 ≠ 0) → ((0 : Int) ≤ x1) ∧ (x1 < (2 : Int)) ∧ ((0 : Int) ≤ x1) ∧ (x1 < (2 : Int)) ∧ (∀ s5 : qM, s5 = q_up s3 116 x1 (s3 113 0) → L_m_keep_42 X x1 (s3 116 x1) 0 s5 K)) ∧ (¬ (r4 ≠ 0) → K 0 s3)))) ∧ (¬ (r2 = 0) → c_m_can X 0 s1 (fun r7 s6 => (((r7 ≠ 0) → ((0 : Int) ≤ x1) ∧ (x1 < (2 : Int)) ∧ ((0 : Int) ≤ x1) ∧ (x1 < (2 : Int)) ∧ (∀ s8 : qM, s8 = q_up s6 116 x1 (s6 113 0) → L_m_keep_42 X x1 (s6 116 x1) 0 s8 K)) ∧ (¬ (r7 ≠ 0) → K 0 s6))))))) : c_m_keep X x1 s K := by
  unfold c_m_keep
  refine w_aload (p' := 1) rfl rfl rfl rfl ?_
  refine w_iload (p' := 2) rfl rfl rfl rfl ?_
  refine w_const (p' := 3) rfl rfl rfl ?_
  refine w_const (p' := 4) rfl rfl rfl ?_
  refine v_callI (M' := 47) (p' := 7) (rest := [(.inr (.inr (.inl (some 113))))]) (as := [(.inl x1), (.inl 0), (.inl 1)]) rfl rfl rfl rfl rfl rfl rfl rfl rfl rfl rfl trivial rfl h (fun r2 s1 h => ?_)
  refine w_if (t := 14) (e := 10) rfl rfl rfl (fun e => ?_) (fun e => ?_)
  · have h := h.1 e
    refine w_const (p' := 15) rfl rfl rfl ?_
    refine v_callI (M' := 46) (p' := 18) (rest := []) (as := [(.inr (.inr (.inl (some 113)))), (.inl 1)]) rfl rfl rfl rfl rfl rfl rfl rfl rfl rfl rfl rfl rfl h (fun r4 s3 h => ?_)
    refine w_if (t := 23) (e := 21) rfl rfl rfl (fun e => ?_) (fun e => ?_)
    · have h := h.1 e
      refine w_aload (p' := 24) rfl rfl rfl rfl ?_
      refine w_getR (p' := 27) rfl rfl rfl rfl rfl ?_
      refine w_iload (p' := 28) rfl rfl rfl rfl ?_
      refine w_iald (p' := 29) (N := 2) rfl rfl rfl rfl h.1 h.2.1 ?_
      have h := h.2.2
      refine w_istore (p' := 30) (ls' := [some (.inr (.inr (.inl (some 113)))), some (.inl x1), some (.inl (s3 116 x1)), none]) rfl rfl rfl (Nat.le_of_ble_eq_true rfl) rfl ?_
      refine w_aload (p' := 31) rfl rfl rfl rfl ?_
      refine w_getR (p' := 34) rfl rfl rfl rfl rfl ?_
      refine w_iload (p' := 35) rfl rfl rfl rfl ?_
      refine w_aload (p' := 36) rfl rfl rfl rfl ?_
      refine w_getI (p' := 39) (j := 0) rfl rfl (by decide) rfl rfl ?_
      refine v_iast (p' := 40) (N := 2) rfl rfl rfl rfl h.1 h.2.1  ?_
      have h := h.2.2
      intro s5 es5
      have h := h s5 es5
      refine w_const (p' := 41) rfl rfl rfl ?_
      refine w_istore (p' := 42) (ls' := [some (.inr (.inr (.inl (some 113)))), some (.inl x1), some (.inl (s3 116 x1)), some (.inl 0)]) rfl rfl rfl (Nat.le_of_ble_eq_true rfl) rfl ?_
      exact w_cut (q_le_s (q_le_s (q_le_s (q_le_s q_le_z)))) h
    · have h := h.2 e
      refine w_const (p' := 22) rfl rfl rfl ?_
      exact w_iret rfl trivial ⟨rfl, _, rfl, h⟩
  · have h := h.2 e
    refine w_const (p' := 11) rfl rfl rfl ?_
    refine w_goto (p' := 15) rfl rfl ?_
    refine v_callI (M' := 46) (p' := 18) (rest := []) (as := [(.inr (.inr (.inl (some 113)))), (.inl 0)]) rfl rfl rfl rfl rfl rfl rfl rfl rfl rfl rfl rfl rfl h (fun r7 s6 h => ?_)
    refine w_if (t := 23) (e := 21) rfl rfl rfl (fun e => ?_) (fun e => ?_)
    · have h := h.1 e
      refine w_aload (p' := 24) rfl rfl rfl rfl ?_
      refine w_getR (p' := 27) rfl rfl rfl rfl rfl ?_
      refine w_iload (p' := 28) rfl rfl rfl rfl ?_
      refine w_iald (p' := 29) (N := 2) rfl rfl rfl rfl h.1 h.2.1 ?_
      have h := h.2.2
      refine w_istore (p' := 30) (ls' := [some (.inr (.inr (.inl (some 113)))), some (.inl x1), some (.inl (s6 116 x1)), none]) rfl rfl rfl (Nat.le_of_ble_eq_true rfl) rfl ?_
      refine w_aload (p' := 31) rfl rfl rfl rfl ?_
      refine w_getR (p' := 34) rfl rfl rfl rfl rfl ?_
      refine w_iload (p' := 35) rfl rfl rfl rfl ?_
      refine w_aload (p' := 36) rfl rfl rfl rfl ?_
      refine w_getI (p' := 39) (j := 0) rfl rfl (by decide) rfl rfl ?_
      refine v_iast (p' := 40) (N := 2) rfl rfl rfl rfl h.1 h.2.1  ?_
      have h := h.2.2
      intro s8 es8
      have h := h s8 es8
      refine w_const (p' := 41) rfl rfl rfl ?_
      refine w_istore (p' := 42) (ls' := [some (.inr (.inr (.inl (some 113)))), some (.inl x1), some (.inl (s6 116 x1)), some (.inl 0)]) rfl rfl rfl (Nat.le_of_ble_eq_true rfl) rfl ?_
      exact w_cut (q_le_s (q_le_s (q_le_s (q_le_s q_le_z)))) h
    · have h := h.2 e
      refine w_const (p' := 22) rfl rfl rfl ?_
      exact w_iret rfl trivial ⟨rfl, _, rfl, h⟩
set_option maxRecDepth 20000 in
theorem sg_m_keep_42 {X : Nat × (Nat → Int32)}  {v1 v2 v3 : Int} {s : qM} {K : Int → qM → Prop} (h : ((((s 113 0) ≤ v3) → K v2 s) ∧ (¬ ((s 113 0) ≤ v3) → (-2147483648 ≤ (240 * v1) ∧ (240 * v1) < 2147483648) ∧ (-2147483648 ≤ ((240 * v1) + v3) ∧ ((240 * v1) + v3) < 2147483648) ∧ ((0 : Int) ≤ v3) ∧ (v3 < (240 : Int)) ∧ ((0 : Int) ≤ ((240 * v1) + v3)) ∧ (((240 * v1) + v3) < (480 : Int)) ∧ (∀ s1 : qM, s1 = q_up s 115 ((240 * v1) + v3) (s 114 v3) → (-2147483648 ≤ (v3 + 1) ∧ (v3 + 1) < 2147483648) ∧ L_m_keep_42 X v1 v2 (v3 + 1) s1 K)))) : L_m_keep_42 X v1 v2 v3 s K := by
  unfold L_m_keep_42
  refine w_iload (p' := 43) rfl rfl rfl rfl ?_
  refine w_aload (p' := 44) rfl rfl rfl rfl ?_
  refine w_getI (p' := 47) (j := 0) rfl rfl (by decide) rfl rfl ?_
  refine w_icmp (t := 74) (e := 50) rfl rfl rfl (fun e => ?_) (fun e => ?_)
  · have h := h.1 e
    refine w_iload (p' := 75) rfl rfl rfl rfl ?_
    exact w_iret rfl trivial ⟨rfl, _, rfl, h⟩
  · have h := h.2 e
    refine w_aload (p' := 51) rfl rfl rfl rfl ?_
    refine w_getR (p' := 54) rfl rfl rfl rfl rfl ?_
    refine w_const (p' := 57) rfl rfl rfl ?_
    refine w_iload (p' := 58) rfl rfl rfl rfl ?_
    refine w_mul (p' := 59) rfl rfl h.1 ?_
    have h := h.2
    refine w_iload (p' := 60) rfl rfl rfl rfl ?_
    refine w_add (p' := 61) rfl rfl h.1 ?_
    have h := h.2
    refine w_aload (p' := 62) rfl rfl rfl rfl ?_
    refine w_getR (p' := 65) rfl rfl rfl rfl rfl ?_
    refine w_iload (p' := 66) rfl rfl rfl rfl ?_
    refine w_iald (p' := 67) (N := 240) rfl rfl rfl rfl h.1 h.2.1 ?_
    have h := h.2.2
    refine v_iast (p' := 68) (N := 480) rfl rfl rfl rfl h.1 h.2.1  ?_
    have h := h.2.2
    intro s1 es1
    have h := h s1 es1
    refine w_iinc (p' := 71) (ls' := [some (.inr (.inr (.inl (some 113)))), some (.inl v1), some (.inl v2), some (.inl (v3 + 1))]) rfl rfl rfl (Nat.le_of_ble_eq_true rfl) h.1 rfl ?_
    have h := h.2
    refine w_goto (p' := 42) rfl rfl ?_
    exact w_cut (q_le_s (q_le_s (q_le_s (q_le_s q_le_z)))) h
set_option maxRecDepth 20000 in
theorem sg_m_load {X : Nat × (Nat → Int32)} {x1 : Int} {s : qM} {K : Int → qM → Prop} (h : c_m_isIn X x1 0 1 s (fun r2 s1 => (((r2 = 0) → c_m_can X 1 s1 (fun r4 s3 => (((r4 ≠ 0) → ((0 : Int) ≤ x1) ∧ (x1 < (2 : Int)) ∧ (∀ s5 : qM, s5 = q_up s3 113 0 (s3 116 x1) → L_m_load_35 X x1 0 s5 K)) ∧ (¬ (r4 ≠ 0) → K 0 s3)))) ∧ (¬ (r2 = 0) → c_m_can X 0 s1 (fun r7 s6 => (((r7 ≠ 0) → ((0 : Int) ≤ x1) ∧ (x1 < (2 : Int)) ∧ (∀ s8 : qM, s8 = q_up s6 113 0 (s6 116 x1) → L_m_load_35 X x1 0 s8 K)) ∧ (¬ (r7 ≠ 0) → K 0 s6))))))) : c_m_load X x1 s K := by
  unfold c_m_load
  refine w_aload (p' := 1) rfl rfl rfl rfl ?_
  refine w_iload (p' := 2) rfl rfl rfl rfl ?_
  refine w_const (p' := 3) rfl rfl rfl ?_
  refine w_const (p' := 4) rfl rfl rfl ?_
  refine v_callI (M' := 47) (p' := 7) (rest := [(.inr (.inr (.inl (some 113))))]) (as := [(.inl x1), (.inl 0), (.inl 1)]) rfl rfl rfl rfl rfl rfl rfl rfl rfl rfl rfl trivial rfl h (fun r2 s1 h => ?_)
  refine w_if (t := 14) (e := 10) rfl rfl rfl (fun e => ?_) (fun e => ?_)
  · have h := h.1 e
    refine w_const (p' := 15) rfl rfl rfl ?_
    refine v_callI (M' := 46) (p' := 18) (rest := []) (as := [(.inr (.inr (.inl (some 113)))), (.inl 1)]) rfl rfl rfl rfl rfl rfl rfl rfl rfl rfl rfl rfl rfl h (fun r4 s3 h => ?_)
    refine w_if (t := 23) (e := 21) rfl rfl rfl (fun e => ?_) (fun e => ?_)
    · have h := h.1 e
      refine w_aload (p' := 24) rfl rfl rfl rfl ?_
      refine w_aload (p' := 25) rfl rfl rfl rfl ?_
      refine w_getR (p' := 28) rfl rfl rfl rfl rfl ?_
      refine w_iload (p' := 29) rfl rfl rfl rfl ?_
      refine w_iald (p' := 30) (N := 2) rfl rfl rfl rfl h.1 h.2.1 ?_
      have h := h.2.2
      refine v_putI (p' := 33) (j := 0) rfl rfl (by decide) rfl rfl trivial ?_
      intro s5 es5
      have h := h s5 es5
      refine w_const (p' := 34) rfl rfl rfl ?_
      refine w_istore (p' := 35) (ls' := [some (.inr (.inr (.inl (some 113)))), some (.inl x1), some (.inl 0)]) rfl rfl rfl (Nat.le_of_ble_eq_true rfl) rfl ?_
      exact w_cut (q_le_s (q_le_s (q_le_s q_le_z))) h
    · have h := h.2 e
      refine w_const (p' := 22) rfl rfl rfl ?_
      exact w_iret rfl trivial ⟨rfl, _, rfl, h⟩
  · have h := h.2 e
    refine w_const (p' := 11) rfl rfl rfl ?_
    refine w_goto (p' := 15) rfl rfl ?_
    refine v_callI (M' := 46) (p' := 18) (rest := []) (as := [(.inr (.inr (.inl (some 113)))), (.inl 0)]) rfl rfl rfl rfl rfl rfl rfl rfl rfl rfl rfl rfl rfl h (fun r7 s6 h => ?_)
    refine w_if (t := 23) (e := 21) rfl rfl rfl (fun e => ?_) (fun e => ?_)
    · have h := h.1 e
      refine w_aload (p' := 24) rfl rfl rfl rfl ?_
      refine w_aload (p' := 25) rfl rfl rfl rfl ?_
      refine w_getR (p' := 28) rfl rfl rfl rfl rfl ?_
      refine w_iload (p' := 29) rfl rfl rfl rfl ?_
      refine w_iald (p' := 30) (N := 2) rfl rfl rfl rfl h.1 h.2.1 ?_
      have h := h.2.2
      refine v_putI (p' := 33) (j := 0) rfl rfl (by decide) rfl rfl trivial ?_
      intro s8 es8
      have h := h s8 es8
      refine w_const (p' := 34) rfl rfl rfl ?_
      refine w_istore (p' := 35) (ls' := [some (.inr (.inr (.inl (some 113)))), some (.inl x1), some (.inl 0)]) rfl rfl rfl (Nat.le_of_ble_eq_true rfl) rfl ?_
      exact w_cut (q_le_s (q_le_s (q_le_s q_le_z))) h
    · have h := h.2 e
      refine w_const (p' := 22) rfl rfl rfl ?_
      exact w_iret rfl trivial ⟨rfl, _, rfl, h⟩
set_option maxRecDepth 20000 in
theorem sg_m_load_35 {X : Nat × (Nat → Int32)}  {v1 v2 : Int} {s : qM} {K : Int → qM → Prop} (h : ((((s 113 0) ≤ v2) → K (s 113 0) s) ∧ (¬ ((s 113 0) ≤ v2) → (-2147483648 ≤ (240 * v1) ∧ (240 * v1) < 2147483648) ∧ (-2147483648 ≤ ((240 * v1) + v2) ∧ ((240 * v1) + v2) < 2147483648) ∧ ((0 : Int) ≤ ((240 * v1) + v2)) ∧ (((240 * v1) + v2) < (480 : Int)) ∧ ((0 : Int) ≤ v2) ∧ (v2 < (240 : Int)) ∧ (∀ s1 : qM, s1 = q_up s 114 v2 (s 115 ((240 * v1) + v2)) → (-2147483648 ≤ (v2 + 1) ∧ (v2 + 1) < 2147483648) ∧ L_m_load_35 X v1 (v2 + 1) s1 K)))) : L_m_load_35 X v1 v2 s K := by
  unfold L_m_load_35
  refine w_iload (p' := 36) rfl rfl rfl rfl ?_
  refine w_aload (p' := 37) rfl rfl rfl rfl ?_
  refine w_getI (p' := 40) (j := 0) rfl rfl (by decide) rfl rfl ?_
  refine w_icmp (t := 67) (e := 43) rfl rfl rfl (fun e => ?_) (fun e => ?_)
  · have h := h.1 e
    refine w_aload (p' := 68) rfl rfl rfl rfl ?_
    refine w_getI (p' := 71) (j := 0) rfl rfl (by decide) rfl rfl ?_
    exact w_iret rfl trivial ⟨rfl, _, rfl, h⟩
  · have h := h.2 e
    refine w_aload (p' := 44) rfl rfl rfl rfl ?_
    refine w_getR (p' := 47) rfl rfl rfl rfl rfl ?_
    refine w_iload (p' := 48) rfl rfl rfl rfl ?_
    refine w_aload (p' := 49) rfl rfl rfl rfl ?_
    refine w_getR (p' := 52) rfl rfl rfl rfl rfl ?_
    refine w_const (p' := 55) rfl rfl rfl ?_
    refine w_iload (p' := 56) rfl rfl rfl rfl ?_
    refine w_mul (p' := 57) rfl rfl h.1 ?_
    have h := h.2
    refine w_iload (p' := 58) rfl rfl rfl rfl ?_
    refine w_add (p' := 59) rfl rfl h.1 ?_
    have h := h.2
    refine w_iald (p' := 60) (N := 480) rfl rfl rfl rfl h.1 h.2.1 ?_
    have h := h.2.2
    refine v_iast (p' := 61) (N := 240) rfl rfl rfl rfl h.1 h.2.1  ?_
    have h := h.2.2
    intro s1 es1
    have h := h s1 es1
    refine w_iinc (p' := 64) (ls' := [some (.inr (.inr (.inl (some 113)))), some (.inl v1), some (.inl (v2 + 1))]) rfl rfl rfl (Nat.le_of_ble_eq_true rfl) h.1 rfl ?_
    have h := h.2
    refine w_goto (p' := 35) rfl rfl ?_
    exact w_cut (q_le_s (q_le_s (q_le_s q_le_z))) h
set_option maxRecDepth 20000 in
theorem sg_m_splits {X : Nat × (Nat → Int32)} {x1 : Int} {x2 : Int} {s : qM} {K : qM → Prop} (h : (-2147483648 ≤ (241 * x1) ∧ (241 * x1) < 2147483648) ∧ (-2147483648 ≤ (240 * x1) ∧ (240 * x1) < 2147483648) ∧ ((0 : Int) ≤ (241 * x1)) ∧ ((241 * x1) < (723 : Int)) ∧ (∀ s1 : qM, s1 = q_up s 157 (241 * x1) (240 * x1) → L_m_splits_20 X x1 x2 0 0 s1 K)) : c_m_splits X x1 x2 s K := by
  unfold c_m_splits
  refine w_const (p' := 1) rfl rfl rfl ?_
  refine w_istore (p' := 2) (ls' := [some (.inr (.inr (.inl (some 113)))), some (.inl x1), some (.inl x2), some (.inl 0), none]) rfl rfl rfl (Nat.le_of_ble_eq_true rfl) rfl ?_
  refine w_aload (p' := 3) rfl rfl rfl rfl ?_
  refine w_getR (p' := 6) rfl rfl rfl rfl rfl ?_
  refine w_const (p' := 9) rfl rfl rfl ?_
  refine w_iload (p' := 10) rfl rfl rfl rfl ?_
  refine w_mul (p' := 11) rfl rfl h.1 ?_
  have h := h.2
  refine w_const (p' := 14) rfl rfl rfl ?_
  refine w_iload (p' := 15) rfl rfl rfl rfl ?_
  refine w_mul (p' := 16) rfl rfl h.1 ?_
  have h := h.2
  refine v_iast (p' := 17) (N := 723) rfl rfl rfl rfl h.1 h.2.1  ?_
  have h := h.2.2
  intro s1 es1
  have h := h s1 es1
  refine w_const (p' := 18) rfl rfl rfl ?_
  refine w_istore (p' := 20) (ls' := [some (.inr (.inr (.inl (some 113)))), some (.inl x1), some (.inl x2), some (.inl 0), some (.inl 0)]) rfl rfl rfl (Nat.le_of_ble_eq_true rfl) rfl ?_
  exact w_cut (q_le_s (q_le_s (q_le_s (q_le_s (q_le_s q_le_z))))) h
set_option maxRecDepth 20000 in
theorem sg_m_splits_20 {X : Nat × (Nat → Int32)}  {v1 v2 v3 v4 : Int} {s : qM} {K : qM → Prop} (h : (((v2 ≤ v4) → (-2147483648 ≤ (241 * v1) ∧ (241 * v1) < 2147483648) ∧ (-2147483648 ≤ ((241 * v1) + v3) ∧ ((241 * v1) + v3) < 2147483648) ∧ (-2147483648 ≤ (240 * v1) ∧ (240 * v1) < 2147483648) ∧ (-2147483648 ≤ ((240 * v1) + v2) ∧ ((240 * v1) + v2) < 2147483648) ∧ ((0 : Int) ≤ ((241 * v1) + v3)) ∧ (((241 * v1) + v3) < (723 : Int)) ∧ (∀ s1 : qM, s1 = q_up s 158 ((241 * v1) + v3) ((240 * v1) + v2) → (-2147483648 ≤ (v3 + 1) ∧ (v3 + 1) < 2147483648) ∧ ((0 : Int) ≤ v1) ∧ (v1 < (3 : Int)) ∧ (∀ s2 : qM, s2 = q_up s1 156 v1 (v3 + 1) → K s2))) ∧ (¬ (v2 ≤ v4) → (-2147483648 ≤ (240 * v1) ∧ (240 * v1) < 2147483648) ∧ (-2147483648 ≤ ((240 * v1) + v4) ∧ ((240 * v1) + v4) < 2147483648) ∧ ((0 : Int) ≤ ((240 * v1) + v4)) ∧ (((240 * v1) + v4) < (720 : Int)) ∧ ((((s 155 ((240 * v1) + v4)) ≠ 10) → (-2147483648 ≤ (v4 + 1) ∧ (v4 + 1) < 2147483648) ∧ L_m_splits_20 X v1 v2 v3 (v4 + 1) s K) ∧ (¬ ((s 155 ((240 * v1) + v4)) ≠ 10) → (-2147483648 ≤ (241 * v1) ∧ (241 * v1) < 2147483648) ∧ (-2147483648 ≤ ((241 * v1) + v3) ∧ ((241 * v1) + v3) < 2147483648) ∧ (-2147483648 ≤ (240 * v1) ∧ (240 * v1) < 2147483648) ∧ (-2147483648 ≤ ((240 * v1) + v4) ∧ ((240 * v1) + v4) < 2147483648) ∧ ((0 : Int) ≤ ((241 * v1) + v3)) ∧ (((241 * v1) + v3) < (723 : Int)) ∧ (∀ s3 : qM, s3 = q_up s 158 ((241 * v1) + v3) ((240 * v1) + v4) → (-2147483648 ≤ (v3 + 1) ∧ (v3 + 1) < 2147483648) ∧ (-2147483648 ≤ (241 * v1) ∧ (241 * v1) < 2147483648) ∧ (-2147483648 ≤ ((241 * v1) + (v3 + 1)) ∧ ((241 * v1) + (v3 + 1)) < 2147483648) ∧ (-2147483648 ≤ (240 * v1) ∧ (240 * v1) < 2147483648) ∧ (-2147483648 ≤ ((240 * v1) + v4) ∧ ((240 * v1) + v4) < 2147483648) ∧ (-2147483648 ≤ (((240 * v1) + v4) + 1) ∧ (((240 * v1) + v4) + 1) < 2147483648) ∧ ((0 : Int) ≤ ((241 * v1) + (v3 + 1))) ∧ (((241 * v1) + (v3 + 1)) < (723 : Int)) ∧ (∀ s4 : qM, s4 = q_up s3 157 ((241 * v1) + (v3 + 1)) (((240 * v1) + v4) + 1) → (-2147483648 ≤ (v4 + 1) ∧ (v4 + 1) < 2147483648) ∧ L_m_splits_20 X v1 v2 (v3 + 1) (v4 + 1) s4 K))))))) : L_m_splits_20 X v1 v2 v3 v4 s K := by
  unfold L_m_splits_20
  refine w_iload (p' := 22) rfl rfl rfl rfl ?_
  refine w_iload (p' := 23) rfl rfl rfl rfl ?_
  refine w_icmp (t := 95) (e := 26) rfl rfl rfl (fun e => ?_) (fun e => ?_)
  · have h := h.1 e
    refine w_aload (p' := 96) rfl rfl rfl rfl ?_
    refine w_getR (p' := 99) rfl rfl rfl rfl rfl ?_
    refine w_const (p' := 102) rfl rfl rfl ?_
    refine w_iload (p' := 103) rfl rfl rfl rfl ?_
    refine w_mul (p' := 104) rfl rfl h.1 ?_
    have h := h.2
    refine w_iload (p' := 105) rfl rfl rfl rfl ?_
    refine w_add (p' := 106) rfl rfl h.1 ?_
    have h := h.2
    refine w_const (p' := 109) rfl rfl rfl ?_
    refine w_iload (p' := 110) rfl rfl rfl rfl ?_
    refine w_mul (p' := 111) rfl rfl h.1 ?_
    have h := h.2
    refine w_iload (p' := 112) rfl rfl rfl rfl ?_
    refine w_add (p' := 113) rfl rfl h.1 ?_
    have h := h.2
    refine v_iast (p' := 114) (N := 723) rfl rfl rfl rfl h.1 h.2.1  ?_
    have h := h.2.2
    intro s1 es1
    have h := h s1 es1
    refine w_aload (p' := 115) rfl rfl rfl rfl ?_
    refine w_getR (p' := 118) rfl rfl rfl rfl rfl ?_
    refine w_iload (p' := 119) rfl rfl rfl rfl ?_
    refine w_iload (p' := 120) rfl rfl rfl rfl ?_
    refine w_const (p' := 121) rfl rfl rfl ?_
    refine w_add (p' := 122) rfl rfl h.1 ?_
    have h := h.2
    refine v_iast (p' := 123) (N := 3) rfl rfl rfl rfl h.1 h.2.1  ?_
    have h := h.2.2
    intro s2 es2
    have h := h s2 es2
    exact w_vret rfl ⟨rfl, rfl, h⟩
  · have h := h.2 e
    refine w_aload (p' := 27) rfl rfl rfl rfl ?_
    refine w_getR (p' := 30) rfl rfl rfl rfl rfl ?_
    refine w_const (p' := 33) rfl rfl rfl ?_
    refine w_iload (p' := 34) rfl rfl rfl rfl ?_
    refine w_mul (p' := 35) rfl rfl h.1 ?_
    have h := h.2
    refine w_iload (p' := 37) rfl rfl rfl rfl ?_
    refine w_add (p' := 38) rfl rfl h.1 ?_
    have h := h.2
    refine w_iald (p' := 39) (N := 720) rfl rfl rfl rfl h.1 h.2.1 ?_
    have h := h.2.2
    refine w_const (p' := 41) rfl rfl rfl ?_
    refine w_icmp (t := 89) (e := 44) rfl rfl rfl (fun e => ?_) (fun e => ?_)
    · have h := h.1 e
      refine w_iinc (p' := 92) (ls' := [some (.inr (.inr (.inl (some 113)))), some (.inl v1), some (.inl v2), some (.inl v3), some (.inl (v4 + 1))]) rfl rfl rfl (Nat.le_of_ble_eq_true rfl) h.1 rfl ?_
      have h := h.2
      refine w_goto (p' := 20) rfl rfl ?_
      exact w_cut (q_le_s (q_le_s (q_le_s (q_le_s (q_le_s q_le_z))))) h
    · have h := h.2 e
      refine w_aload (p' := 45) rfl rfl rfl rfl ?_
      refine w_getR (p' := 48) rfl rfl rfl rfl rfl ?_
      refine w_const (p' := 51) rfl rfl rfl ?_
      refine w_iload (p' := 52) rfl rfl rfl rfl ?_
      refine w_mul (p' := 53) rfl rfl h.1 ?_
      have h := h.2
      refine w_iload (p' := 54) rfl rfl rfl rfl ?_
      refine w_add (p' := 55) rfl rfl h.1 ?_
      have h := h.2
      refine w_const (p' := 58) rfl rfl rfl ?_
      refine w_iload (p' := 59) rfl rfl rfl rfl ?_
      refine w_mul (p' := 60) rfl rfl h.1 ?_
      have h := h.2
      refine w_iload (p' := 62) rfl rfl rfl rfl ?_
      refine w_add (p' := 63) rfl rfl h.1 ?_
      have h := h.2
      refine v_iast (p' := 64) (N := 723) rfl rfl rfl rfl h.1 h.2.1  ?_
      have h := h.2.2
      intro s3 es3
      have h := h s3 es3
      refine w_iinc (p' := 67) (ls' := [some (.inr (.inr (.inl (some 113)))), some (.inl v1), some (.inl v2), some (.inl (v3 + 1)), some (.inl v4)]) rfl rfl rfl (Nat.le_of_ble_eq_true rfl) h.1 rfl ?_
      have h := h.2
      refine w_aload (p' := 68) rfl rfl rfl rfl ?_
      refine w_getR (p' := 71) rfl rfl rfl rfl rfl ?_
      refine w_const (p' := 74) rfl rfl rfl ?_
      refine w_iload (p' := 75) rfl rfl rfl rfl ?_
      refine w_mul (p' := 76) rfl rfl h.1 ?_
      have h := h.2
      refine w_iload (p' := 77) rfl rfl rfl rfl ?_
      refine w_add (p' := 78) rfl rfl h.1 ?_
      have h := h.2
      refine w_const (p' := 81) rfl rfl rfl ?_
      refine w_iload (p' := 82) rfl rfl rfl rfl ?_
      refine w_mul (p' := 83) rfl rfl h.1 ?_
      have h := h.2
      refine w_iload (p' := 85) rfl rfl rfl rfl ?_
      refine w_add (p' := 86) rfl rfl h.1 ?_
      have h := h.2
      refine w_const (p' := 87) rfl rfl rfl ?_
      refine w_add (p' := 88) rfl rfl h.1 ?_
      have h := h.2
      refine v_iast (p' := 89) (N := 723) rfl rfl rfl rfl h.1 h.2.1  ?_
      have h := h.2.2
      intro s4 es4
      have h := h s4 es4
      refine w_iinc (p' := 92) (ls' := [some (.inr (.inr (.inl (some 113)))), some (.inl v1), some (.inl v2), some (.inl (v3 + 1)), some (.inl (v4 + 1))]) rfl rfl rfl (Nat.le_of_ble_eq_true rfl) h.1 rfl ?_
      have h := h.2
      refine w_goto (p' := 20) rfl rfl ?_
      exact w_cut (q_le_s (q_le_s (q_le_s (q_le_s (q_le_s q_le_z))))) h
set_option maxRecDepth 20000 in
theorem sg_m_isSameLine {X : Nat × (Nat → Int32)} {x1 : Int} {x2 : Int} {s : qM} {K : Int → qM → Prop} (h : ((0 : Int) ≤ x1) ∧ (x1 < (723 : Int)) ∧ ((0 : Int) ≤ x1) ∧ (x1 < (723 : Int)) ∧ (-2147483648 ≤ ((s 158 x1) - (s 157 x1)) ∧ ((s 158 x1) - (s 157 x1)) < 2147483648) ∧ ((0 : Int) ≤ x2) ∧ (x2 < (723 : Int)) ∧ ((0 : Int) ≤ x2) ∧ (x2 < (723 : Int)) ∧ (-2147483648 ≤ ((s 158 x2) - (s 157 x2)) ∧ ((s 158 x2) - (s 157 x2)) < 2147483648) ∧ (((((s 158 x1) - (s 157 x1)) ≠ ((s 158 x2) - (s 157 x2))) → L_m_isSameLine_38 X x1 x2 0 0 s K) ∧ (¬ (((s 158 x1) - (s 157 x1)) ≠ ((s 158 x2) - (s 157 x2))) → L_m_isSameLine_38 X x1 x2 1 0 s K))) : c_m_isSameLine X x1 x2 s K := by
  unfold c_m_isSameLine
  refine w_aload (p' := 1) rfl rfl rfl rfl ?_
  refine w_getR (p' := 4) rfl rfl rfl rfl rfl ?_
  refine w_iload (p' := 5) rfl rfl rfl rfl ?_
  refine w_iald (p' := 6) (N := 723) rfl rfl rfl rfl h.1 h.2.1 ?_
  have h := h.2.2
  refine w_aload (p' := 7) rfl rfl rfl rfl ?_
  refine w_getR (p' := 10) rfl rfl rfl rfl rfl ?_
  refine w_iload (p' := 11) rfl rfl rfl rfl ?_
  refine w_iald (p' := 12) (N := 723) rfl rfl rfl rfl h.1 h.2.1 ?_
  have h := h.2.2
  refine w_sub (p' := 13) rfl rfl h.1 ?_
  have h := h.2
  refine w_aload (p' := 14) rfl rfl rfl rfl ?_
  refine w_getR (p' := 17) rfl rfl rfl rfl rfl ?_
  refine w_iload (p' := 18) rfl rfl rfl rfl ?_
  refine w_iald (p' := 19) (N := 723) rfl rfl rfl rfl h.1 h.2.1 ?_
  have h := h.2.2
  refine w_aload (p' := 20) rfl rfl rfl rfl ?_
  refine w_getR (p' := 23) rfl rfl rfl rfl rfl ?_
  refine w_iload (p' := 24) rfl rfl rfl rfl ?_
  refine w_iald (p' := 25) (N := 723) rfl rfl rfl rfl h.1 h.2.1 ?_
  have h := h.2.2
  refine w_sub (p' := 26) rfl rfl h.1 ?_
  have h := h.2
  refine w_icmp (t := 33) (e := 29) rfl rfl rfl (fun e => ?_) (fun e => ?_)
  · have h := h.1 e
    refine w_const (p' := 34) rfl rfl rfl ?_
    refine w_istore (p' := 35) (ls' := [some (.inr (.inr (.inl (some 113)))), some (.inl x1), some (.inl x2), some (.inl 0), none]) rfl rfl rfl (Nat.le_of_ble_eq_true rfl) rfl ?_
    refine w_const (p' := 36) rfl rfl rfl ?_
    refine w_istore (p' := 38) (ls' := [some (.inr (.inr (.inl (some 113)))), some (.inl x1), some (.inl x2), some (.inl 0), some (.inl 0)]) rfl rfl rfl (Nat.le_of_ble_eq_true rfl) rfl ?_
    exact w_cut (q_le_s (q_le_s (q_le_s (q_le_s (q_le_s q_le_z))))) h
  · have h := h.2 e
    refine w_const (p' := 30) rfl rfl rfl ?_
    refine w_goto (p' := 34) rfl rfl ?_
    refine w_istore (p' := 35) (ls' := [some (.inr (.inr (.inl (some 113)))), some (.inl x1), some (.inl x2), some (.inl 1), none]) rfl rfl rfl (Nat.le_of_ble_eq_true rfl) rfl ?_
    refine w_const (p' := 36) rfl rfl rfl ?_
    refine w_istore (p' := 38) (ls' := [some (.inr (.inr (.inl (some 113)))), some (.inl x1), some (.inl x2), some (.inl 1), some (.inl 0)]) rfl rfl rfl (Nat.le_of_ble_eq_true rfl) rfl ?_
    exact w_cut (q_le_s (q_le_s (q_le_s (q_le_s (q_le_s q_le_z))))) h
set_option maxRecDepth 20000 in
theorem sg_m_isSameLine_38 {X : Nat × (Nat → Int32)}  {v1 v2 v3 v4 : Int} {s : qM} {K : Int → qM → Prop} (h : ((0 : Int) ≤ v1) ∧ (v1 < (723 : Int)) ∧ ((0 : Int) ≤ v1) ∧ (v1 < (723 : Int)) ∧ (-2147483648 ≤ ((s 158 v1) - (s 157 v1)) ∧ ((s 158 v1) - (s 157 v1)) < 2147483648) ∧ (((((s 158 v1) - (s 157 v1)) ≤ v4) → (0 ≤ v3 ∧ v3 ≤ 1) ∧ K v3 s) ∧ (¬ (((s 158 v1) - (s 157 v1)) ≤ v4) → (((v3 = 0) → (0 ≤ v3 ∧ v3 ≤ 1) ∧ K v3 s) ∧ (¬ (v3 = 0) → ((0 : Int) ≤ v1) ∧ (v1 < (723 : Int)) ∧ (-2147483648 ≤ ((s 157 v1) + v4) ∧ ((s 157 v1) + v4) < 2147483648) ∧ ((0 : Int) ≤ ((s 157 v1) + v4)) ∧ (((s 157 v1) + v4) < (720 : Int)) ∧ ((0 : Int) ≤ v2) ∧ (v2 < (723 : Int)) ∧ (-2147483648 ≤ ((s 157 v2) + v4) ∧ ((s 157 v2) + v4) < 2147483648) ∧ ((0 : Int) ≤ ((s 157 v2) + v4)) ∧ (((s 157 v2) + v4) < (720 : Int)) ∧ ((((s 155 ((s 157 v1) + v4)) ≠ (s 155 ((s 157 v2) + v4))) → (-2147483648 ≤ (v4 + 1) ∧ (v4 + 1) < 2147483648) ∧ L_m_isSameLine_38 X v1 v2 0 (v4 + 1) s K) ∧ (¬ ((s 155 ((s 157 v1) + v4)) ≠ (s 155 ((s 157 v2) + v4))) → (-2147483648 ≤ (v4 + 1) ∧ (v4 + 1) < 2147483648) ∧ L_m_isSameLine_38 X v1 v2 1 (v4 + 1) s K))))))) : L_m_isSameLine_38 X v1 v2 v3 v4 s K := by
  unfold L_m_isSameLine_38
  refine w_iload (p' := 40) rfl rfl rfl rfl ?_
  refine w_aload (p' := 41) rfl rfl rfl rfl ?_
  refine w_getR (p' := 44) rfl rfl rfl rfl rfl ?_
  refine w_iload (p' := 45) rfl rfl rfl rfl ?_
  refine w_iald (p' := 46) (N := 723) rfl rfl rfl rfl h.1 h.2.1 ?_
  have h := h.2.2
  refine w_aload (p' := 47) rfl rfl rfl rfl ?_
  refine w_getR (p' := 50) rfl rfl rfl rfl rfl ?_
  refine w_iload (p' := 51) rfl rfl rfl rfl ?_
  refine w_iald (p' := 52) (N := 723) rfl rfl rfl rfl h.1 h.2.1 ?_
  have h := h.2.2
  refine w_sub (p' := 53) rfl rfl h.1 ?_
  have h := h.2
  refine w_icmp (t := 103) (e := 56) rfl rfl rfl (fun e => ?_) (fun e => ?_)
  · have h := h.1 e
    refine w_iload (p' := 104) rfl rfl rfl rfl ?_
    exact w_iret rfl h.1 ⟨rfl, _, rfl, h.2⟩
  · have h := h.2 e
    refine w_iload (p' := 57) rfl rfl rfl rfl ?_
    refine w_if (t := 103) (e := 60) rfl rfl rfl (fun e => ?_) (fun e => ?_)
    · have h := h.1 e
      refine w_iload (p' := 104) rfl rfl rfl rfl ?_
      exact w_iret rfl h.1 ⟨rfl, _, rfl, h.2⟩
    · have h := h.2 e
      refine w_aload (p' := 61) rfl rfl rfl rfl ?_
      refine w_getR (p' := 64) rfl rfl rfl rfl rfl ?_
      refine w_aload (p' := 65) rfl rfl rfl rfl ?_
      refine w_getR (p' := 68) rfl rfl rfl rfl rfl ?_
      refine w_iload (p' := 69) rfl rfl rfl rfl ?_
      refine w_iald (p' := 70) (N := 723) rfl rfl rfl rfl h.1 h.2.1 ?_
      have h := h.2.2
      refine w_iload (p' := 72) rfl rfl rfl rfl ?_
      refine w_add (p' := 73) rfl rfl h.1 ?_
      have h := h.2
      refine w_iald (p' := 74) (N := 720) rfl rfl rfl rfl h.1 h.2.1 ?_
      have h := h.2.2
      refine w_aload (p' := 75) rfl rfl rfl rfl ?_
      refine w_getR (p' := 78) rfl rfl rfl rfl rfl ?_
      refine w_aload (p' := 79) rfl rfl rfl rfl ?_
      refine w_getR (p' := 82) rfl rfl rfl rfl rfl ?_
      refine w_iload (p' := 83) rfl rfl rfl rfl ?_
      refine w_iald (p' := 84) (N := 723) rfl rfl rfl rfl h.1 h.2.1 ?_
      have h := h.2.2
      refine w_iload (p' := 86) rfl rfl rfl rfl ?_
      refine w_add (p' := 87) rfl rfl h.1 ?_
      have h := h.2
      refine w_iald (p' := 88) (N := 720) rfl rfl rfl rfl h.1 h.2.1 ?_
      have h := h.2.2
      refine w_icmp (t := 95) (e := 91) rfl rfl rfl (fun e => ?_) (fun e => ?_)
      · have h := h.1 e
        refine w_const (p' := 96) rfl rfl rfl ?_
        refine w_istore (p' := 97) (ls' := [some (.inr (.inr (.inl (some 113)))), some (.inl v1), some (.inl v2), some (.inl 0), some (.inl v4)]) rfl rfl rfl (Nat.le_of_ble_eq_true rfl) rfl ?_
        refine w_iinc (p' := 100) (ls' := [some (.inr (.inr (.inl (some 113)))), some (.inl v1), some (.inl v2), some (.inl 0), some (.inl (v4 + 1))]) rfl rfl rfl (Nat.le_of_ble_eq_true rfl) h.1 rfl ?_
        have h := h.2
        refine w_goto (p' := 38) rfl rfl ?_
        exact w_cut (q_le_s (q_le_s (q_le_s (q_le_s (q_le_s q_le_z))))) h
      · have h := h.2 e
        refine w_const (p' := 92) rfl rfl rfl ?_
        refine w_goto (p' := 96) rfl rfl ?_
        refine w_istore (p' := 97) (ls' := [some (.inr (.inr (.inl (some 113)))), some (.inl v1), some (.inl v2), some (.inl 1), some (.inl v4)]) rfl rfl rfl (Nat.le_of_ble_eq_true rfl) rfl ?_
        refine w_iinc (p' := 100) (ls' := [some (.inr (.inr (.inl (some 113)))), some (.inl v1), some (.inl v2), some (.inl 1), some (.inl (v4 + 1))]) rfl rfl rfl (Nat.le_of_ble_eq_true rfl) h.1 rfl ?_
        have h := h.2
        refine w_goto (p' := 38) rfl rfl ?_
        exact w_cut (q_le_s (q_le_s (q_le_s (q_le_s (q_le_s q_le_z))))) h
set_option maxRecDepth 20000 in
theorem sg_m_takesTogether {X : Nat × (Nat → Int32)} {x1 : Int} {s : qM} {K : qM → Prop} (h : ((0 : Int) ≤ x1) ∧ (x1 < (3 : Int)) ∧ L_m_takesTogether_17 X x1 (s 156 0) (s 156 x1) (s 156 0) s K) : c_m_takesTogether X x1 s K := by
  unfold c_m_takesTogether
  refine w_aload (p' := 1) rfl rfl rfl rfl ?_
  refine w_getR (p' := 4) rfl rfl rfl rfl rfl ?_
  refine w_const (p' := 5) rfl rfl rfl ?_
  refine w_iald (p' := 6) (N := 3) rfl rfl rfl rfl (by decide) (by decide) ?_
  refine w_istore (p' := 7) (ls' := [some (.inr (.inr (.inl (some 113)))), some (.inl x1), some (.inl (s 156 0)), none, none, none, none]) rfl rfl rfl (Nat.le_of_ble_eq_true rfl) rfl ?_
  refine w_aload (p' := 8) rfl rfl rfl rfl ?_
  refine w_getR (p' := 11) rfl rfl rfl rfl rfl ?_
  refine w_iload (p' := 12) rfl rfl rfl rfl ?_
  refine w_iald (p' := 13) (N := 3) rfl rfl rfl rfl h.1 h.2.1 ?_
  have h := h.2.2
  refine w_istore (p' := 14) (ls' := [some (.inr (.inr (.inl (some 113)))), some (.inl x1), some (.inl (s 156 0)), some (.inl (s 156 x1)), none, none, none]) rfl rfl rfl (Nat.le_of_ble_eq_true rfl) rfl ?_
  refine w_iload (p' := 15) rfl rfl rfl rfl ?_
  refine w_istore (p' := 17) (ls' := [some (.inr (.inr (.inl (some 113)))), some (.inl x1), some (.inl (s 156 0)), some (.inl (s 156 x1)), some (.inl (s 156 0)), none, none]) rfl rfl rfl (Nat.le_of_ble_eq_true rfl) rfl ?_
  exact w_cut (q_le_s (q_le_s (q_le_s (q_le_s (q_le_s (q_le_n (q_le_n q_le_z))))))) h
set_option maxRecDepth 20000 in
theorem sg_m_takesTogether_17 {X : Nat × (Nat → Int32)}  {v1 v2 v3 v4 : Int} {s : qM} {K : qM → Prop} (h : (((v4 < 0) → L_m_takesTogether_178 X v1 v2 v3 0 0 0 s K) ∧ (¬ (v4 < 0) → L_m_takesTogether_25 X v1 v2 v3 v4 v3 s K))) : L_m_takesTogether_17 X v1 v2 v3 v4 s K := by
  unfold L_m_takesTogether_17
  refine w_iload (p' := 19) rfl rfl rfl rfl ?_
  refine w_if (t := 169) (e := 22) rfl rfl rfl (fun e => ?_) (fun e => ?_)
  · have h := h.1 e
    refine w_const (p' := 170) rfl rfl rfl ?_
    refine w_istore (p' := 172) (ls' := [some (.inr (.inr (.inl (some 113)))), some (.inl v1), some (.inl v2), some (.inl v3), some (.inl 0), none, none]) rfl rfl rfl (Nat.le_of_ble_eq_true rfl) rfl ?_
    refine w_const (p' := 173) rfl rfl rfl ?_
    refine w_istore (p' := 175) (ls' := [some (.inr (.inr (.inl (some 113)))), some (.inl v1), some (.inl v2), some (.inl v3), some (.inl 0), some (.inl 0), none]) rfl rfl rfl (Nat.le_of_ble_eq_true rfl) rfl ?_
    refine w_const (p' := 176) rfl rfl rfl ?_
    refine w_istore (p' := 178) (ls' := [some (.inr (.inr (.inl (some 113)))), some (.inl v1), some (.inl v2), some (.inl v3), some (.inl 0), some (.inl 0), some (.inl 0)]) rfl rfl rfl (Nat.le_of_ble_eq_true rfl) rfl ?_
    exact w_cut (q_le_s (q_le_s (q_le_s (q_le_s (q_le_s (q_le_s (q_le_s q_le_z))))))) h
  · have h := h.2 e
    refine w_iload (p' := 23) rfl rfl rfl rfl ?_
    refine w_istore (p' := 25) (ls' := [some (.inr (.inr (.inl (some 113)))), some (.inl v1), some (.inl v2), some (.inl v3), some (.inl v4), some (.inl v3), none]) rfl rfl rfl (Nat.le_of_ble_eq_true rfl) rfl ?_
    exact w_cut (q_le_s (q_le_s (q_le_s (q_le_s (q_le_s (q_le_s (q_le_n q_le_z))))))) h
set_option maxRecDepth 20000 in
theorem sg_m_takesTogether_178 {X : Nat × (Nat → Int32)}  {v1 v2 v3 v4 v5 v6 : Int} {s : qM} {K : qM → Prop} (h : (((v2 ≤ v6) → L_m_takesTogether_206 X v1 v2 v3 v4 v5 s K) ∧ (¬ (v2 ≤ v6) → (-2147483648 ≤ (v1 - 1) ∧ (v1 - 1) < 2147483648) ∧ (-2147483648 ≤ (241 * (v1 - 1)) ∧ (241 * (v1 - 1)) < 2147483648) ∧ (-2147483648 ≤ ((241 * (v1 - 1)) + v6) ∧ ((241 * (v1 - 1)) + v6) < 2147483648) ∧ ((0 : Int) ≤ ((241 * (v1 - 1)) + v6)) ∧ (((241 * (v1 - 1)) + v6) < (482 : Int)) ∧ (∀ s1 : qM, s1 = q_up s 160 ((241 * (v1 - 1)) + v6) (-1) → (-2147483648 ≤ (v6 + 1) ∧ (v6 + 1) < 2147483648) ∧ L_m_takesTogether_178 X v1 v2 v3 v4 v5 (v6 + 1) s1 K)))) : L_m_takesTogether_178 X v1 v2 v3 v4 v5 v6 s K := by
  unfold L_m_takesTogether_178
  refine w_iload (p' := 180) rfl rfl rfl rfl ?_
  refine w_iload (p' := 181) rfl rfl rfl rfl ?_
  refine w_icmp (t := 206) (e := 184) rfl rfl rfl (fun e => ?_) (fun e => ?_)
  · have h := h.1 e
    exact w_cut (q_le_s (q_le_s (q_le_s (q_le_s (q_le_s (q_le_s (q_le_n q_le_z))))))) h
  · have h := h.2 e
    refine w_aload (p' := 185) rfl rfl rfl rfl ?_
    refine w_getR (p' := 188) rfl rfl rfl rfl rfl ?_
    refine w_const (p' := 191) rfl rfl rfl ?_
    refine w_iload (p' := 192) rfl rfl rfl rfl ?_
    refine w_const (p' := 193) rfl rfl rfl ?_
    refine w_sub (p' := 194) rfl rfl h.1 ?_
    have h := h.2
    refine w_mul (p' := 195) rfl rfl h.1 ?_
    have h := h.2
    refine w_iload (p' := 197) rfl rfl rfl rfl ?_
    refine w_add (p' := 198) rfl rfl h.1 ?_
    have h := h.2
    refine w_const (p' := 199) rfl rfl rfl ?_
    refine v_iast (p' := 200) (N := 482) rfl rfl rfl rfl h.1 h.2.1  ?_
    have h := h.2.2
    intro s1 es1
    have h := h s1 es1
    refine w_iinc (p' := 203) (ls' := [some (.inr (.inr (.inl (some 113)))), some (.inl v1), some (.inl v2), some (.inl v3), some (.inl v4), some (.inl v5), some (.inl (v6 + 1))]) rfl rfl rfl (Nat.le_of_ble_eq_true rfl) h.1 rfl ?_
    have h := h.2
    refine w_goto (p' := 178) rfl rfl ?_
    exact w_cut (q_le_s (q_le_s (q_le_s (q_le_s (q_le_s (q_le_s (q_le_s q_le_z))))))) h
set_option maxRecDepth 20000 in
theorem sg_m_takesTogether_25 {X : Nat × (Nat → Int32)}  {v1 v2 v3 v4 v5 : Int} {s : qM} {K : qM → Prop} (h : (((v5 < 0) → (-2147483648 ≤ (v4 + (-1)) ∧ (v4 + (-1)) < 2147483648) ∧ L_m_takesTogether_17 X v1 v2 v3 (v4 + (-1)) s K) ∧ (¬ (v5 < 0) → (-2147483648 ≤ (242 * v4) ∧ (242 * v4) < 2147483648) ∧ (-2147483648 ≤ ((242 * v4) + v5) ∧ ((242 * v4) + v5) < 2147483648) ∧ (((v4 = v2) → ((0 : Int) ≤ ((242 * v4) + v5)) ∧ (((242 * v4) + v5) < (58564 : Int)) ∧ (∀ s1 : qM, s1 = q_up s 159 ((242 * v4) + v5) 0 → (-2147483648 ≤ (v5 + (-1)) ∧ (v5 + (-1)) < 2147483648) ∧ L_m_takesTogether_25 X v1 v2 v3 v4 (v5 + (-1)) s1 K)) ∧ (¬ (v4 = v2) → (((v5 ≠ v3) → (-2147483648 ≤ (241 * v1) ∧ (241 * v1) < 2147483648) ∧ (-2147483648 ≤ ((241 * v1) + v5) ∧ ((241 * v1) + v5) < 2147483648) ∧ c_m_isSameLine X v4 ((241 * v1) + v5) s (fun r3 s2 => (((r3 = 0) → (-2147483648 ≤ (((242 * v4) + v5) + 242) ∧ (((242 * v4) + v5) + 242) < 2147483648) ∧ ((0 : Int) ≤ (((242 * v4) + v5) + 242)) ∧ ((((242 * v4) + v5) + 242) < (58564 : Int)) ∧ (-2147483648 ≤ (((242 * v4) + v5) + 1) ∧ (((242 * v4) + v5) + 1) < 2147483648) ∧ ((0 : Int) ≤ (((242 * v4) + v5) + 1)) ∧ ((((242 * v4) + v5) + 1) < (58564 : Int)) ∧ ((((s2 159 (((242 * v4) + v5) + 242)) ≤ (s2 159 (((242 * v4) + v5) + 1))) → (-2147483648 ≤ (((242 * v4) + v5) + 1) ∧ (((242 * v4) + v5) + 1) < 2147483648) ∧ ((0 : Int) ≤ (((242 * v4) + v5) + 1)) ∧ ((((242 * v4) + v5) + 1) < (58564 : Int)) ∧ ((0 : Int) ≤ ((242 * v4) + v5)) ∧ (((242 * v4) + v5) < (58564 : Int)) ∧ (∀ s4 : qM, s4 = q_up s2 159 ((242 * v4) + v5) (s2 159 (((242 * v4) + v5) + 1)) → (-2147483648 ≤ (v5 + (-1)) ∧ (v5 + (-1)) < 2147483648) ∧ L_m_takesTogether_25 X v1 v2 v3 v4 (v5 + (-1)) s4 K)) ∧ (¬ ((s2 159 (((242 * v4) + v5) + 242)) ≤ (s2 159 (((242 * v4) + v5) + 1))) → (-2147483648 ≤ (((242 * v4) + v5) + 242) ∧ (((242 * v4) + v5) + 242) < 2147483648) ∧ ((0 : Int) ≤ (((242 * v4) + v5) + 242)) ∧ ((((242 * v4) + v5) + 242) < (58564 : Int)) ∧ ((0 : Int) ≤ ((242 * v4) + v5)) ∧ (((242 * v4) + v5) < (58564 : Int)) ∧ (∀ s5 : qM, s5 = q_up s2 159 ((242 * v4) + v5) (s2 159 (((242 * v4) + v5) + 242)) → (-2147483648 ≤ (v5 + (-1)) ∧ (v5 + (-1)) < 2147483648) ∧ L_m_takesTogether_25 X v1 v2 v3 v4 (v5 + (-1)) s5 K)))) ∧ (¬ (r3 = 0) → (-2147483648 ≤ (((242 * v4) + v5) + 243) ∧ (((242 * v4) + v5) + 243) < 2147483648) ∧ ((0 : Int) ≤ (((242 * v4) + v5) + 243)) ∧ ((((242 * v4) + v5) + 243) < (58564 : Int)) ∧ (-2147483648 ≤ ((s2 159 (((242 * v4) + v5) + 243)) + 1) ∧ ((s2 159 (((242 * v4) + v5) + 243)) + 1) < 2147483648) ∧ ((0 : Int) ≤ ((242 * v4) + v5)) ∧ (((242 * v4) + v5) < (58564 : Int)) ∧ (∀ s6 : qM, s6 = q_up s2 159 ((242 * v4) + v5) ((s2 159 (((242 * v4) + v5) + 243)) + 1) → (-2147483648 ≤ (v5 + (-1)) ∧ (v5 + (-1)) < 2147483648) ∧ L_m_takesTogether_25 X v1 v2 v3 v4 (v5 + (-1)) s6 K))))) ∧ (¬ (v5 ≠ v3) → ((0 : Int) ≤ ((242 * v4) + v5)) ∧ (((242 * v4) + v5) < (58564 : Int)) ∧ (∀ s7 : qM, s7 = q_up s 159 ((242 * v4) + v5) 0 → (-2147483648 ≤ (v5 + (-1)) ∧ (v5 + (-1)) < 2147483648) ∧ L_m_takesTogether_25 X v1 v2 v3 v4 (v5 + (-1)) s7 K)))))))) : L_m_takesTogether_25 X v1 v2 v3 v4 v5 s K := by
  unfold L_m_takesTogether_25
  refine w_iload (p' := 27) rfl rfl rfl rfl ?_
  refine w_if (t := 163) (e := 30) rfl rfl rfl (fun e => ?_) (fun e => ?_)
  · have h := h.1 e
    refine w_iinc (p' := 166) (ls' := [some (.inr (.inr (.inl (some 113)))), some (.inl v1), some (.inl v2), some (.inl v3), some (.inl (v4 + (-1))), some (.inl v5), none]) rfl rfl rfl (Nat.le_of_ble_eq_true rfl) h.1 rfl ?_
    have h := h.2
    refine w_goto (p' := 17) rfl rfl ?_
    exact w_cut (q_le_s (q_le_s (q_le_s (q_le_s (q_le_s (q_le_n (q_le_n q_le_z))))))) h
  · have h := h.2 e
    refine w_const (p' := 33) rfl rfl rfl ?_
    refine w_iload (p' := 35) rfl rfl rfl rfl ?_
    refine w_mul (p' := 36) rfl rfl h.1 ?_
    have h := h.2
    refine w_iload (p' := 38) rfl rfl rfl rfl ?_
    refine w_add (p' := 39) rfl rfl h.1 ?_
    have h := h.2
    refine w_istore (p' := 41) (ls' := [some (.inr (.inr (.inl (some 113)))), some (.inl v1), some (.inl v2), some (.inl v3), some (.inl v4), some (.inl v5), some (.inl ((242 * v4) + v5))]) rfl rfl rfl (Nat.le_of_ble_eq_true rfl) rfl ?_
    refine w_iload (p' := 43) rfl rfl rfl rfl ?_
    refine w_iload (p' := 44) rfl rfl rfl rfl ?_
    refine w_icmp (t := 53) (e := 47) rfl rfl rfl (fun e => ?_) (fun e => ?_)
    · have h := h.1 e
      refine w_aload (p' := 54) rfl rfl rfl rfl ?_
      refine w_getR (p' := 57) rfl rfl rfl rfl rfl ?_
      refine w_iload (p' := 59) rfl rfl rfl rfl ?_
      refine w_const (p' := 60) rfl rfl rfl ?_
      refine v_iast (p' := 61) (N := 58564) rfl rfl rfl rfl h.1 h.2.1  ?_
      have h := h.2.2
      intro s1 es1
      have h := h s1 es1
      refine w_goto (p' := 157) rfl rfl ?_
      refine w_iinc (p' := 160) (ls' := [some (.inr (.inr (.inl (some 113)))), some (.inl v1), some (.inl v2), some (.inl v3), some (.inl v4), some (.inl (v5 + (-1))), some (.inl ((242 * v4) + v5))]) rfl rfl rfl (Nat.le_of_ble_eq_true rfl) h.1 rfl ?_
      have h := h.2
      refine w_goto (p' := 25) rfl rfl ?_
      exact w_cut (q_le_s (q_le_s (q_le_s (q_le_s (q_le_s (q_le_s (q_le_n q_le_z))))))) h
    · have h := h.2 e
      refine w_iload (p' := 49) rfl rfl rfl rfl ?_
      refine w_iload (p' := 50) rfl rfl rfl rfl ?_
      refine w_icmp (t := 64) (e := 53) rfl rfl rfl (fun e => ?_) (fun e => ?_)
      · have h := h.1 e
        refine w_aload (p' := 65) rfl rfl rfl rfl ?_
        refine w_iload (p' := 67) rfl rfl rfl rfl ?_
        refine w_const (p' := 70) rfl rfl rfl ?_
        refine w_iload (p' := 71) rfl rfl rfl rfl ?_
        refine w_mul (p' := 72) rfl rfl h.1 ?_
        have h := h.2
        refine w_iload (p' := 74) rfl rfl rfl rfl ?_
        refine w_add (p' := 75) rfl rfl h.1 ?_
        have h := h.2
        refine v_callI (M' := 121) (p' := 78) (rest := []) (as := [(.inr (.inr (.inl (some 113)))), (.inl v4), (.inl ((241 * v1) + v5))]) rfl rfl rfl rfl rfl rfl rfl rfl rfl rfl rfl rfl rfl h (fun r3 s2 h => ?_)
        refine w_if (t := 104) (e := 81) rfl rfl rfl (fun e => ?_) (fun e => ?_)
        · have h := h.1 e
          refine w_aload (p' := 105) rfl rfl rfl rfl ?_
          refine w_getR (p' := 108) rfl rfl rfl rfl rfl ?_
          refine w_iload (p' := 110) rfl rfl rfl rfl ?_
          refine w_aload (p' := 111) rfl rfl rfl rfl ?_
          refine w_getR (p' := 114) rfl rfl rfl rfl rfl ?_
          refine w_iload (p' := 116) rfl rfl rfl rfl ?_
          refine w_const (p' := 119) rfl rfl rfl ?_
          refine w_add (p' := 120) rfl rfl h.1 ?_
          have h := h.2
          refine w_iald (p' := 121) (N := 58564) rfl rfl rfl rfl h.1 h.2.1 ?_
          have h := h.2.2
          refine w_aload (p' := 122) rfl rfl rfl rfl ?_
          refine w_getR (p' := 125) rfl rfl rfl rfl rfl ?_
          refine w_iload (p' := 127) rfl rfl rfl rfl ?_
          refine w_const (p' := 128) rfl rfl rfl ?_
          refine w_add (p' := 129) rfl rfl h.1 ?_
          have h := h.2
          refine w_iald (p' := 130) (N := 58564) rfl rfl rfl rfl h.1 h.2.1 ?_
          have h := h.2.2
          refine w_icmp (t := 147) (e := 133) rfl rfl rfl (fun e => ?_) (fun e => ?_)
          · have h := h.1 e
            refine w_aload (p' := 148) rfl rfl rfl rfl ?_
            refine w_getR (p' := 151) rfl rfl rfl rfl rfl ?_
            refine w_iload (p' := 153) rfl rfl rfl rfl ?_
            refine w_const (p' := 154) rfl rfl rfl ?_
            refine w_add (p' := 155) rfl rfl h.1 ?_
            have h := h.2
            refine w_iald (p' := 156) (N := 58564) rfl rfl rfl rfl h.1 h.2.1 ?_
            have h := h.2.2
            refine v_iast (p' := 157) (N := 58564) rfl rfl rfl rfl h.1 h.2.1  ?_
            have h := h.2.2
            intro s4 es4
            have h := h s4 es4
            refine w_iinc (p' := 160) (ls' := [some (.inr (.inr (.inl (some 113)))), some (.inl v1), some (.inl v2), some (.inl v3), some (.inl v4), some (.inl (v5 + (-1))), some (.inl ((242 * v4) + v5))]) rfl rfl rfl (Nat.le_of_ble_eq_true rfl) h.1 rfl ?_
            have h := h.2
            refine w_goto (p' := 25) rfl rfl ?_
            exact w_cut (q_le_s (q_le_s (q_le_s (q_le_s (q_le_s (q_le_s (q_le_n q_le_z))))))) h
          · have h := h.2 e
            refine w_aload (p' := 134) rfl rfl rfl rfl ?_
            refine w_getR (p' := 137) rfl rfl rfl rfl rfl ?_
            refine w_iload (p' := 139) rfl rfl rfl rfl ?_
            refine w_const (p' := 142) rfl rfl rfl ?_
            refine w_add (p' := 143) rfl rfl h.1 ?_
            have h := h.2
            refine w_iald (p' := 144) (N := 58564) rfl rfl rfl rfl h.1 h.2.1 ?_
            have h := h.2.2
            refine w_goto (p' := 156) rfl rfl ?_
            refine v_iast (p' := 157) (N := 58564) rfl rfl rfl rfl h.1 h.2.1  ?_
            have h := h.2.2
            intro s5 es5
            have h := h s5 es5
            refine w_iinc (p' := 160) (ls' := [some (.inr (.inr (.inl (some 113)))), some (.inl v1), some (.inl v2), some (.inl v3), some (.inl v4), some (.inl (v5 + (-1))), some (.inl ((242 * v4) + v5))]) rfl rfl rfl (Nat.le_of_ble_eq_true rfl) h.1 rfl ?_
            have h := h.2
            refine w_goto (p' := 25) rfl rfl ?_
            exact w_cut (q_le_s (q_le_s (q_le_s (q_le_s (q_le_s (q_le_s (q_le_n q_le_z))))))) h
        · have h := h.2 e
          refine w_aload (p' := 82) rfl rfl rfl rfl ?_
          refine w_getR (p' := 85) rfl rfl rfl rfl rfl ?_
          refine w_iload (p' := 87) rfl rfl rfl rfl ?_
          refine w_aload (p' := 88) rfl rfl rfl rfl ?_
          refine w_getR (p' := 91) rfl rfl rfl rfl rfl ?_
          refine w_iload (p' := 93) rfl rfl rfl rfl ?_
          refine w_const (p' := 96) rfl rfl rfl ?_
          refine w_add (p' := 97) rfl rfl h.1 ?_
          have h := h.2
          refine w_iald (p' := 98) (N := 58564) rfl rfl rfl rfl h.1 h.2.1 ?_
          have h := h.2.2
          refine w_const (p' := 99) rfl rfl rfl ?_
          refine w_add (p' := 100) rfl rfl h.1 ?_
          have h := h.2
          refine v_iast (p' := 101) (N := 58564) rfl rfl rfl rfl h.1 h.2.1  ?_
          have h := h.2.2
          intro s6 es6
          have h := h s6 es6
          refine w_goto (p' := 157) rfl rfl ?_
          refine w_iinc (p' := 160) (ls' := [some (.inr (.inr (.inl (some 113)))), some (.inl v1), some (.inl v2), some (.inl v3), some (.inl v4), some (.inl (v5 + (-1))), some (.inl ((242 * v4) + v5))]) rfl rfl rfl (Nat.le_of_ble_eq_true rfl) h.1 rfl ?_
          have h := h.2
          refine w_goto (p' := 25) rfl rfl ?_
          exact w_cut (q_le_s (q_le_s (q_le_s (q_le_s (q_le_s (q_le_s (q_le_n q_le_z))))))) h
      · have h := h.2 e
        refine w_aload (p' := 54) rfl rfl rfl rfl ?_
        refine w_getR (p' := 57) rfl rfl rfl rfl rfl ?_
        refine w_iload (p' := 59) rfl rfl rfl rfl ?_
        refine w_const (p' := 60) rfl rfl rfl ?_
        refine v_iast (p' := 61) (N := 58564) rfl rfl rfl rfl h.1 h.2.1  ?_
        have h := h.2.2
        intro s7 es7
        have h := h s7 es7
        refine w_goto (p' := 157) rfl rfl ?_
        refine w_iinc (p' := 160) (ls' := [some (.inr (.inr (.inl (some 113)))), some (.inl v1), some (.inl v2), some (.inl v3), some (.inl v4), some (.inl (v5 + (-1))), some (.inl ((242 * v4) + v5))]) rfl rfl rfl (Nat.le_of_ble_eq_true rfl) h.1 rfl ?_
        have h := h.2
        refine w_goto (p' := 25) rfl rfl ?_
        exact w_cut (q_le_s (q_le_s (q_le_s (q_le_s (q_le_s (q_le_s (q_le_n q_le_z))))))) h
set_option maxRecDepth 20000 in
theorem sg_m_takesTogether_206 {X : Nat × (Nat → Int32)}  {v1 v2 v3 v4 v5 : Int} {s : qM} {K : qM → Prop} (h : (((v2 ≤ v4) → K s) ∧ (¬ (v2 ≤ v4) → (((v3 ≤ v5) → K s) ∧ (¬ (v3 ≤ v5) → (-2147483648 ≤ (241 * v1) ∧ (241 * v1) < 2147483648) ∧ (-2147483648 ≤ ((241 * v1) + v5) ∧ ((241 * v1) + v5) < 2147483648) ∧ c_m_isSameLine X v4 ((241 * v1) + v5) s (fun r2 s1 => (((r2 = 0) → (-2147483648 ≤ (v4 + 1) ∧ (v4 + 1) < 2147483648) ∧ (-2147483648 ≤ (242 * (v4 + 1)) ∧ (242 * (v4 + 1)) < 2147483648) ∧ (-2147483648 ≤ ((242 * (v4 + 1)) + v5) ∧ ((242 * (v4 + 1)) + v5) < 2147483648) ∧ ((0 : Int) ≤ ((242 * (v4 + 1)) + v5)) ∧ (((242 * (v4 + 1)) + v5) < (58564 : Int)) ∧ (-2147483648 ≤ (242 * v4) ∧ (242 * v4) < 2147483648) ∧ (-2147483648 ≤ ((242 * v4) + v5) ∧ ((242 * v4) + v5) < 2147483648) ∧ ((0 : Int) ≤ ((242 * v4) + v5)) ∧ (((242 * v4) + v5) < (58564 : Int)) ∧ ((((s1 159 ((242 * (v4 + 1)) + v5)) ≠ (s1 159 ((242 * v4) + v5))) → (-2147483648 ≤ (v5 + 1) ∧ (v5 + 1) < 2147483648) ∧ L_m_takesTogether_206 X v1 v2 v3 v4 (v5 + 1) s1 K) ∧ (¬ ((s1 159 ((242 * (v4 + 1)) + v5)) ≠ (s1 159 ((242 * v4) + v5))) → (-2147483648 ≤ (v4 + 1) ∧ (v4 + 1) < 2147483648) ∧ L_m_takesTogether_206 X v1 v2 v3 (v4 + 1) v5 s1 K))) ∧ (¬ (r2 = 0) → (-2147483648 ≤ (v1 - 1) ∧ (v1 - 1) < 2147483648) ∧ (-2147483648 ≤ (241 * (v1 - 1)) ∧ (241 * (v1 - 1)) < 2147483648) ∧ (-2147483648 ≤ ((241 * (v1 - 1)) + v4) ∧ ((241 * (v1 - 1)) + v4) < 2147483648) ∧ ((0 : Int) ≤ ((241 * (v1 - 1)) + v4)) ∧ (((241 * (v1 - 1)) + v4) < (482 : Int)) ∧ (∀ s3 : qM, s3 = q_up s1 160 ((241 * (v1 - 1)) + v4) v5 → (-2147483648 ≤ (v4 + 1) ∧ (v4 + 1) < 2147483648) ∧ (-2147483648 ≤ (v5 + 1) ∧ (v5 + 1) < 2147483648) ∧ L_m_takesTogether_206 X v1 v2 v3 (v4 + 1) (v5 + 1) s3 K))))))))) : L_m_takesTogether_206 X v1 v2 v3 v4 v5 s K := by
  unfold L_m_takesTogether_206
  refine w_iload (p' := 208) rfl rfl rfl rfl ?_
  refine w_iload (p' := 209) rfl rfl rfl rfl ?_
  refine w_icmp (t := 306) (e := 212) rfl rfl rfl (fun e => ?_) (fun e => ?_)
  · have h := h.1 e
    exact w_vret rfl ⟨rfl, rfl, h⟩
  · have h := h.2 e
    refine w_iload (p' := 214) rfl rfl rfl rfl ?_
    refine w_iload (p' := 215) rfl rfl rfl rfl ?_
    refine w_icmp (t := 306) (e := 218) rfl rfl rfl (fun e => ?_) (fun e => ?_)
    · have h := h.1 e
      exact w_vret rfl ⟨rfl, rfl, h⟩
    · have h := h.2 e
      refine w_aload (p' := 219) rfl rfl rfl rfl ?_
      refine w_iload (p' := 221) rfl rfl rfl rfl ?_
      refine w_const (p' := 224) rfl rfl rfl ?_
      refine w_iload (p' := 225) rfl rfl rfl rfl ?_
      refine w_mul (p' := 226) rfl rfl h.1 ?_
      have h := h.2
      refine w_iload (p' := 228) rfl rfl rfl rfl ?_
      refine w_add (p' := 229) rfl rfl h.1 ?_
      have h := h.2
      refine v_callI (M' := 121) (p' := 232) (rest := []) (as := [(.inr (.inr (.inl (some 113)))), (.inl v4), (.inl ((241 * v1) + v5))]) rfl rfl rfl rfl rfl rfl rfl rfl rfl rfl rfl rfl rfl h (fun r2 s1 h => ?_)
      refine w_if (t := 261) (e := 235) rfl rfl rfl (fun e => ?_) (fun e => ?_)
      · have h := h.1 e
        refine w_aload (p' := 262) rfl rfl rfl rfl ?_
        refine w_getR (p' := 265) rfl rfl rfl rfl rfl ?_
        refine w_const (p' := 268) rfl rfl rfl ?_
        refine w_iload (p' := 270) rfl rfl rfl rfl ?_
        refine w_const (p' := 271) rfl rfl rfl ?_
        refine w_add (p' := 272) rfl rfl h.1 ?_
        have h := h.2
        refine w_mul (p' := 273) rfl rfl h.1 ?_
        have h := h.2
        refine w_iload (p' := 275) rfl rfl rfl rfl ?_
        refine w_add (p' := 276) rfl rfl h.1 ?_
        have h := h.2
        refine w_iald (p' := 277) (N := 58564) rfl rfl rfl rfl h.1 h.2.1 ?_
        have h := h.2.2
        refine w_aload (p' := 278) rfl rfl rfl rfl ?_
        refine w_getR (p' := 281) rfl rfl rfl rfl rfl ?_
        refine w_const (p' := 284) rfl rfl rfl ?_
        refine w_iload (p' := 286) rfl rfl rfl rfl ?_
        refine w_mul (p' := 287) rfl rfl h.1 ?_
        have h := h.2
        refine w_iload (p' := 289) rfl rfl rfl rfl ?_
        refine w_add (p' := 290) rfl rfl h.1 ?_
        have h := h.2
        refine w_iald (p' := 291) (N := 58564) rfl rfl rfl rfl h.1 h.2.1 ?_
        have h := h.2.2
        refine w_icmp (t := 300) (e := 294) rfl rfl rfl (fun e => ?_) (fun e => ?_)
        · have h := h.1 e
          refine w_iinc (p' := 303) (ls' := [some (.inr (.inr (.inl (some 113)))), some (.inl v1), some (.inl v2), some (.inl v3), some (.inl v4), some (.inl (v5 + 1)), none]) rfl rfl rfl (Nat.le_of_ble_eq_true rfl) h.1 rfl ?_
          have h := h.2
          refine w_goto (p' := 206) rfl rfl ?_
          exact w_cut (q_le_s (q_le_s (q_le_s (q_le_s (q_le_s (q_le_s (q_le_n q_le_z))))))) h
        · have h := h.2 e
          refine w_iinc (p' := 297) (ls' := [some (.inr (.inr (.inl (some 113)))), some (.inl v1), some (.inl v2), some (.inl v3), some (.inl (v4 + 1)), some (.inl v5), none]) rfl rfl rfl (Nat.le_of_ble_eq_true rfl) h.1 rfl ?_
          have h := h.2
          refine w_goto (p' := 206) rfl rfl ?_
          exact w_cut (q_le_s (q_le_s (q_le_s (q_le_s (q_le_s (q_le_s (q_le_n q_le_z))))))) h
      · have h := h.2 e
        refine w_aload (p' := 236) rfl rfl rfl rfl ?_
        refine w_getR (p' := 239) rfl rfl rfl rfl rfl ?_
        refine w_const (p' := 242) rfl rfl rfl ?_
        refine w_iload (p' := 243) rfl rfl rfl rfl ?_
        refine w_const (p' := 244) rfl rfl rfl ?_
        refine w_sub (p' := 245) rfl rfl h.1 ?_
        have h := h.2
        refine w_mul (p' := 246) rfl rfl h.1 ?_
        have h := h.2
        refine w_iload (p' := 248) rfl rfl rfl rfl ?_
        refine w_add (p' := 249) rfl rfl h.1 ?_
        have h := h.2
        refine w_iload (p' := 251) rfl rfl rfl rfl ?_
        refine v_iast (p' := 252) (N := 482) rfl rfl rfl rfl h.1 h.2.1  ?_
        have h := h.2.2
        intro s3 es3
        have h := h s3 es3
        refine w_iinc (p' := 255) (ls' := [some (.inr (.inr (.inl (some 113)))), some (.inl v1), some (.inl v2), some (.inl v3), some (.inl (v4 + 1)), some (.inl v5), none]) rfl rfl rfl (Nat.le_of_ble_eq_true rfl) h.1 rfl ?_
        have h := h.2
        refine w_iinc (p' := 258) (ls' := [some (.inr (.inr (.inl (some 113)))), some (.inl v1), some (.inl v2), some (.inl v3), some (.inl (v4 + 1)), some (.inl (v5 + 1)), none]) rfl rfl rfl (Nat.le_of_ble_eq_true rfl) h.1 rfl ?_
        have h := h.2
        refine w_goto (p' := 206) rfl rfl ?_
        exact w_cut (q_le_s (q_le_s (q_le_s (q_le_s (q_le_s (q_le_s (q_le_n q_le_z))))))) h
set_option maxRecDepth 20000 in
theorem sg_m_isSamePart {X : Nat × (Nat → Int32)} {x1 : Int} {x2 : Int} {x3 : Int} {x4 : Int} {x5 : Int} {x6 : Int} {s : qM} {K : Int → qM → Prop} (h : (-2147483648 ≤ (x3 - x2) ∧ (x3 - x2) < 2147483648) ∧ (-2147483648 ≤ (x6 - x5) ∧ (x6 - x5) < 2147483648) ∧ ((((x3 - x2) ≠ (x6 - x5)) → L_m_isSamePart_21 X x1 x2 x3 x4 x5 0 0 s K) ∧ (¬ ((x3 - x2) ≠ (x6 - x5)) → L_m_isSamePart_21 X x1 x2 x3 x4 x5 1 0 s K))) : c_m_isSamePart X x1 x2 x3 x4 x5 x6 s K := by
  unfold c_m_isSamePart
  refine w_iload (p' := 1) rfl rfl rfl rfl ?_
  refine w_iload (p' := 2) rfl rfl rfl rfl ?_
  refine w_sub (p' := 3) rfl rfl h.1 ?_
  have h := h.2
  refine w_iload (p' := 5) rfl rfl rfl rfl ?_
  refine w_iload (p' := 7) rfl rfl rfl rfl ?_
  refine w_sub (p' := 8) rfl rfl h.1 ?_
  have h := h.2
  refine w_icmp (t := 15) (e := 11) rfl rfl rfl (fun e => ?_) (fun e => ?_)
  · have h := h.1 e
    refine w_const (p' := 16) rfl rfl rfl ?_
    refine w_istore (p' := 18) (ls' := [some (.inr (.inr (.inl (some 113)))), some (.inl x1), some (.inl x2), some (.inl x3), some (.inl x4), some (.inl x5), some (.inl x6), some (.inl 0), none]) rfl rfl rfl (Nat.le_of_ble_eq_true rfl) rfl ?_
    refine w_const (p' := 19) rfl rfl rfl ?_
    refine w_istore (p' := 21) (ls' := [some (.inr (.inr (.inl (some 113)))), some (.inl x1), some (.inl x2), some (.inl x3), some (.inl x4), some (.inl x5), some (.inl x6), some (.inl 0), some (.inl 0)]) rfl rfl rfl (Nat.le_of_ble_eq_true rfl) rfl ?_
    exact w_cut (q_le_s (q_le_s (q_le_s (q_le_s (q_le_s (q_le_s (q_le_n (q_le_s (q_le_s q_le_z))))))))) h
  · have h := h.2 e
    refine w_const (p' := 12) rfl rfl rfl ?_
    refine w_goto (p' := 16) rfl rfl ?_
    refine w_istore (p' := 18) (ls' := [some (.inr (.inr (.inl (some 113)))), some (.inl x1), some (.inl x2), some (.inl x3), some (.inl x4), some (.inl x5), some (.inl x6), some (.inl 1), none]) rfl rfl rfl (Nat.le_of_ble_eq_true rfl) rfl ?_
    refine w_const (p' := 19) rfl rfl rfl ?_
    refine w_istore (p' := 21) (ls' := [some (.inr (.inr (.inl (some 113)))), some (.inl x1), some (.inl x2), some (.inl x3), some (.inl x4), some (.inl x5), some (.inl x6), some (.inl 1), some (.inl 0)]) rfl rfl rfl (Nat.le_of_ble_eq_true rfl) rfl ?_
    exact w_cut (q_le_s (q_le_s (q_le_s (q_le_s (q_le_s (q_le_s (q_le_n (q_le_s (q_le_s q_le_z))))))))) h
set_option maxRecDepth 20000 in
theorem sg_m_isSamePart_21 {X : Nat × (Nat → Int32)}  {v1 v2 v3 v4 v5 v7 v8 : Int} {s : qM} {K : Int → qM → Prop} (h : (-2147483648 ≤ (v3 - v2) ∧ (v3 - v2) < 2147483648) ∧ ((((v3 - v2) ≤ v8) → (0 ≤ v7 ∧ v7 ≤ 1) ∧ K v7 s) ∧ (¬ ((v3 - v2) ≤ v8) → (((v7 = 0) → (0 ≤ v7 ∧ v7 ≤ 1) ∧ K v7 s) ∧ (¬ (v7 = 0) → (-2147483648 ≤ (241 * v1) ∧ (241 * v1) < 2147483648) ∧ (-2147483648 ≤ ((241 * v1) + v2) ∧ ((241 * v1) + v2) < 2147483648) ∧ (-2147483648 ≤ (((241 * v1) + v2) + v8) ∧ (((241 * v1) + v2) + v8) < 2147483648) ∧ (-2147483648 ≤ (241 * v4) ∧ (241 * v4) < 2147483648) ∧ (-2147483648 ≤ ((241 * v4) + v5) ∧ ((241 * v4) + v5) < 2147483648) ∧ (-2147483648 ≤ (((241 * v4) + v5) + v8) ∧ (((241 * v4) + v5) + v8) < 2147483648) ∧ c_m_isSameLine X (((241 * v1) + v2) + v8) (((241 * v4) + v5) + v8) s (fun r2 s1 => (-2147483648 ≤ (v8 + 1) ∧ (v8 + 1) < 2147483648) ∧ L_m_isSamePart_21 X v1 v2 v3 v4 v5 r2 (v8 + 1) s1 K)))))) : L_m_isSamePart_21 X v1 v2 v3 v4 v5 v7 v8 s K := by
  unfold L_m_isSamePart_21
  refine w_iload (p' := 23) rfl rfl rfl rfl ?_
  refine w_iload (p' := 24) rfl rfl rfl rfl ?_
  refine w_iload (p' := 25) rfl rfl rfl rfl ?_
  refine w_sub (p' := 26) rfl rfl h.1 ?_
  have h := h.2
  refine w_icmp (t := 68) (e := 29) rfl rfl rfl (fun e => ?_) (fun e => ?_)
  · have h := h.1 e
    refine w_iload (p' := 70) rfl rfl rfl rfl ?_
    exact w_iret rfl h.1 ⟨rfl, _, rfl, h.2⟩
  · have h := h.2 e
    refine w_iload (p' := 31) rfl rfl rfl rfl ?_
    refine w_if (t := 68) (e := 34) rfl rfl rfl (fun e => ?_) (fun e => ?_)
    · have h := h.1 e
      refine w_iload (p' := 70) rfl rfl rfl rfl ?_
      exact w_iret rfl h.1 ⟨rfl, _, rfl, h.2⟩
    · have h := h.2 e
      refine w_aload (p' := 35) rfl rfl rfl rfl ?_
      refine w_const (p' := 38) rfl rfl rfl ?_
      refine w_iload (p' := 39) rfl rfl rfl rfl ?_
      refine w_mul (p' := 40) rfl rfl h.1 ?_
      have h := h.2
      refine w_iload (p' := 41) rfl rfl rfl rfl ?_
      refine w_add (p' := 42) rfl rfl h.1 ?_
      have h := h.2
      refine w_iload (p' := 44) rfl rfl rfl rfl ?_
      refine w_add (p' := 45) rfl rfl h.1 ?_
      have h := h.2
      refine w_const (p' := 48) rfl rfl rfl ?_
      refine w_iload (p' := 50) rfl rfl rfl rfl ?_
      refine w_mul (p' := 51) rfl rfl h.1 ?_
      have h := h.2
      refine w_iload (p' := 53) rfl rfl rfl rfl ?_
      refine w_add (p' := 54) rfl rfl h.1 ?_
      have h := h.2
      refine w_iload (p' := 56) rfl rfl rfl rfl ?_
      refine w_add (p' := 57) rfl rfl h.1 ?_
      have h := h.2
      refine v_callI (M' := 121) (p' := 60) (rest := []) (as := [(.inr (.inr (.inl (some 113)))), (.inl (((241 * v1) + v2) + v8)), (.inl (((241 * v4) + v5) + v8))]) rfl rfl rfl rfl rfl rfl rfl rfl rfl rfl rfl rfl rfl h (fun r2 s1 h => ?_)
      refine w_istore (p' := 62) (ls' := [some (.inr (.inr (.inl (some 113)))), some (.inl v1), some (.inl v2), some (.inl v3), some (.inl v4), some (.inl v5), none, some (.inl r2), some (.inl v8)]) rfl rfl rfl (Nat.le_of_ble_eq_true rfl) rfl ?_
      refine w_iinc (p' := 65) (ls' := [some (.inr (.inr (.inl (some 113)))), some (.inl v1), some (.inl v2), some (.inl v3), some (.inl v4), some (.inl v5), none, some (.inl r2), some (.inl (v8 + 1))]) rfl rfl rfl (Nat.le_of_ble_eq_true rfl) h.1 rfl ?_
      have h := h.2
      refine w_goto (p' := 21) rfl rfl ?_
      exact w_cut (q_le_s (q_le_s (q_le_s (q_le_s (q_le_s (q_le_s (q_le_n (q_le_s (q_le_s q_le_z))))))))) h
set_option maxRecDepth 20000 in
theorem sg_m_takesLines {X : Nat × (Nat → Int32)} {x1 : Int} {x2 : Int} {x3 : Int} {s : qM} {K : qM → Prop} (h : (-2147483648 ≤ (241 * x1) ∧ (241 * x1) < 2147483648) ∧ (-2147483648 ≤ ((241 * x1) + x2) ∧ ((241 * x1) + x2) < 2147483648) ∧ L_m_takesLines_9 X x1 x3 ((241 * x1) + x2) s K) : c_m_takesLines X x1 x2 x3 s K := by
  unfold c_m_takesLines
  refine w_const (p' := 3) rfl rfl rfl ?_
  refine w_iload (p' := 4) rfl rfl rfl rfl ?_
  refine w_mul (p' := 5) rfl rfl h.1 ?_
  have h := h.2
  refine w_iload (p' := 6) rfl rfl rfl rfl ?_
  refine w_add (p' := 7) rfl rfl h.1 ?_
  have h := h.2
  refine w_istore (p' := 9) (ls' := [some (.inr (.inr (.inl (some 113)))), some (.inl x1), some (.inl x2), some (.inl x3), some (.inl ((241 * x1) + x2)), none]) rfl rfl rfl (Nat.le_of_ble_eq_true rfl) rfl ?_
  exact w_cut (q_le_s (q_le_s (q_le_n (q_le_s (q_le_s (q_le_n q_le_z)))))) h
set_option maxRecDepth 20000 in
theorem sg_m_takesLines_9 {X : Nat × (Nat → Int32)}  {v1 v3 v4 : Int} {s : qM} {K : qM → Prop} (h : (-2147483648 ≤ (241 * v1) ∧ (241 * v1) < 2147483648) ∧ (-2147483648 ≤ ((241 * v1) + v3) ∧ ((241 * v1) + v3) < 2147483648) ∧ (((((241 * v1) + v3) ≤ v4) → K s) ∧ (¬ (((241 * v1) + v3) ≤ v4) → ((((s 113 64) = 0) → (∀ s1 : qM, s1 = q_up s 113 64 1 → ((0 : Int) ≤ v4) ∧ (v4 < (723 : Int)) ∧ L_m_takesLines_63 X v1 v3 v4 (s1 157 v4) s1 K)) ∧ (¬ ((s 113 64) = 0) → ((0 : Int) ≤ (s 113 63)) ∧ ((s 113 63) < (800 : Int)) ∧ (∀ s2 : qM, s2 = q_up s 154 (s 113 63) 10 → (-2147483648 ≤ ((s2 113 63) + 1) ∧ ((s2 113 63) + 1) < 2147483648) ∧ (∀ s3 : qM, s3 = q_up s2 113 63 ((s2 113 63) + 1) → (∀ s4 : qM, s4 = q_up s3 113 64 1 → ((0 : Int) ≤ v4) ∧ (v4 < (723 : Int)) ∧ L_m_takesLines_63 X v1 v3 v4 (s4 157 v4) s4 K)))))))) : L_m_takesLines_9 X v1 v3 v4 s K := by
  unfold L_m_takesLines_9
  refine w_iload (p' := 11) rfl rfl rfl rfl ?_
  refine w_const (p' := 14) rfl rfl rfl ?_
  refine w_iload (p' := 15) rfl rfl rfl rfl ?_
  refine w_mul (p' := 16) rfl rfl h.1 ?_
  have h := h.2
  refine w_iload (p' := 17) rfl rfl rfl rfl ?_
  refine w_add (p' := 18) rfl rfl h.1 ?_
  have h := h.2
  refine w_icmp (t := 113) (e := 21) rfl rfl rfl (fun e => ?_) (fun e => ?_)
  · have h := h.1 e
    exact w_vret rfl ⟨rfl, rfl, h⟩
  · have h := h.2 e
    refine w_aload (p' := 22) rfl rfl rfl rfl ?_
    refine w_getI (p' := 25) (j := 64) rfl rfl (by decide) rfl rfl ?_
    refine w_if (t := 49) (e := 28) rfl rfl rfl (fun e => ?_) (fun e => ?_)
    · have h := h.1 e
      refine w_aload (p' := 50) rfl rfl rfl rfl ?_
      refine w_const (p' := 51) rfl rfl rfl ?_
      refine v_putI (p' := 54) (j := 64) rfl rfl (by decide) rfl rfl ⟨by decide, by decide⟩ ?_
      intro s1 es1
      have h := h s1 es1
      refine w_aload (p' := 55) rfl rfl rfl rfl ?_
      refine w_getR (p' := 58) rfl rfl rfl rfl rfl ?_
      refine w_iload (p' := 60) rfl rfl rfl rfl ?_
      refine w_iald (p' := 61) (N := 723) rfl rfl rfl rfl h.1 h.2.1 ?_
      have h := h.2.2
      refine w_istore (p' := 63) (ls' := [some (.inr (.inr (.inl (some 113)))), some (.inl v1), none, some (.inl v3), some (.inl v4), some (.inl (s1 157 v4))]) rfl rfl rfl (Nat.le_of_ble_eq_true rfl) rfl ?_
      exact w_cut (q_le_s (q_le_s (q_le_n (q_le_s (q_le_s (q_le_s q_le_z)))))) h
    · have h := h.2 e
      refine w_aload (p' := 29) rfl rfl rfl rfl ?_
      refine w_getR (p' := 32) rfl rfl rfl rfl rfl ?_
      refine w_aload (p' := 33) rfl rfl rfl rfl ?_
      refine w_getI (p' := 36) (j := 63) rfl rfl (by decide) rfl rfl ?_
      refine w_const (p' := 38) rfl rfl rfl ?_
      refine v_iast (p' := 39) (N := 800) rfl rfl rfl rfl h.1 h.2.1  ?_
      have h := h.2.2
      intro s2 es2
      have h := h s2 es2
      refine w_aload (p' := 40) rfl rfl rfl rfl ?_
      refine w_dup (p' := 41) rfl rfl rfl ?_
      refine w_getI (p' := 44) (j := 63) rfl rfl (by decide) rfl rfl ?_
      refine w_const (p' := 45) rfl rfl rfl ?_
      refine w_add (p' := 46) rfl rfl h.1 ?_
      have h := h.2
      refine v_putI (p' := 49) (j := 63) rfl rfl (by decide) rfl rfl trivial ?_
      intro s3 es3
      have h := h s3 es3
      refine w_aload (p' := 50) rfl rfl rfl rfl ?_
      refine w_const (p' := 51) rfl rfl rfl ?_
      refine v_putI (p' := 54) (j := 64) rfl rfl (by decide) rfl rfl ⟨by decide, by decide⟩ ?_
      intro s4 es4
      have h := h s4 es4
      refine w_aload (p' := 55) rfl rfl rfl rfl ?_
      refine w_getR (p' := 58) rfl rfl rfl rfl rfl ?_
      refine w_iload (p' := 60) rfl rfl rfl rfl ?_
      refine w_iald (p' := 61) (N := 723) rfl rfl rfl rfl h.1 h.2.1 ?_
      have h := h.2.2
      refine w_istore (p' := 63) (ls' := [some (.inr (.inr (.inl (some 113)))), some (.inl v1), none, some (.inl v3), some (.inl v4), some (.inl (s4 157 v4))]) rfl rfl rfl (Nat.le_of_ble_eq_true rfl) rfl ?_
      exact w_cut (q_le_s (q_le_s (q_le_n (q_le_s (q_le_s (q_le_s q_le_z)))))) h
set_option maxRecDepth 20000 in
theorem sg_m_takesLines_63 {X : Nat × (Nat → Int32)}  {v1 v3 v4 v5 : Int} {s : qM} {K : qM → Prop} (h : ((0 : Int) ≤ v4) ∧ (v4 < (723 : Int)) ∧ ((((s 158 v4) ≤ v5) → (-2147483648 ≤ (v4 + 1) ∧ (v4 + 1) < 2147483648) ∧ L_m_takesLines_9 X v1 v3 (v4 + 1) s K) ∧ (¬ ((s 158 v4) ≤ v5) → ((0 : Int) ≤ v5) ∧ (v5 < (720 : Int)) ∧ ((0 : Int) ≤ (s 113 63)) ∧ ((s 113 63) < (800 : Int)) ∧ (∀ s1 : qM, s1 = q_up s 154 (s 113 63) (s 155 v5) → (-2147483648 ≤ ((s1 113 63) + 1) ∧ ((s1 113 63) + 1) < 2147483648) ∧ (∀ s2 : qM, s2 = q_up s1 113 63 ((s1 113 63) + 1) → (-2147483648 ≤ (v5 + 1) ∧ (v5 + 1) < 2147483648) ∧ L_m_takesLines_63 X v1 v3 v4 (v5 + 1) s2 K))))) : L_m_takesLines_63 X v1 v3 v4 v5 s K := by
  unfold L_m_takesLines_63
  refine w_iload (p' := 65) rfl rfl rfl rfl ?_
  refine w_aload (p' := 66) rfl rfl rfl rfl ?_
  refine w_getR (p' := 69) rfl rfl rfl rfl rfl ?_
  refine w_iload (p' := 71) rfl rfl rfl rfl ?_
  refine w_iald (p' := 72) (N := 723) rfl rfl rfl rfl h.1 h.2.1 ?_
  have h := h.2.2
  refine w_icmp (t := 107) (e := 75) rfl rfl rfl (fun e => ?_) (fun e => ?_)
  · have h := h.1 e
    refine w_iinc (p' := 110) (ls' := [some (.inr (.inr (.inl (some 113)))), some (.inl v1), none, some (.inl v3), some (.inl (v4 + 1)), some (.inl v5)]) rfl rfl rfl (Nat.le_of_ble_eq_true rfl) h.1 rfl ?_
    have h := h.2
    refine w_goto (p' := 9) rfl rfl ?_
    exact w_cut (q_le_s (q_le_s (q_le_n (q_le_s (q_le_s (q_le_n q_le_z)))))) h
  · have h := h.2 e
    refine w_aload (p' := 76) rfl rfl rfl rfl ?_
    refine w_getR (p' := 79) rfl rfl rfl rfl rfl ?_
    refine w_aload (p' := 80) rfl rfl rfl rfl ?_
    refine w_getI (p' := 83) (j := 63) rfl rfl (by decide) rfl rfl ?_
    refine w_aload (p' := 84) rfl rfl rfl rfl ?_
    refine w_getR (p' := 87) rfl rfl rfl rfl rfl ?_
    refine w_iload (p' := 89) rfl rfl rfl rfl ?_
    refine w_iald (p' := 90) (N := 720) rfl rfl rfl rfl h.1 h.2.1 ?_
    have h := h.2.2
    refine v_iast (p' := 91) (N := 800) rfl rfl rfl rfl h.1 h.2.1  ?_
    have h := h.2.2
    intro s1 es1
    have h := h s1 es1
    refine w_aload (p' := 92) rfl rfl rfl rfl ?_
    refine w_dup (p' := 93) rfl rfl rfl ?_
    refine w_getI (p' := 96) (j := 63) rfl rfl (by decide) rfl rfl ?_
    refine w_const (p' := 97) rfl rfl rfl ?_
    refine w_add (p' := 98) rfl rfl h.1 ?_
    have h := h.2
    refine v_putI (p' := 101) (j := 63) rfl rfl (by decide) rfl rfl trivial ?_
    intro s2 es2
    have h := h s2 es2
    refine w_iinc (p' := 104) (ls' := [some (.inr (.inr (.inl (some 113)))), some (.inl v1), none, some (.inl v3), some (.inl v4), some (.inl (v5 + 1))]) rfl rfl rfl (Nat.le_of_ble_eq_true rfl) h.1 rfl ?_
    have h := h.2
    refine w_goto (p' := 63) rfl rfl ?_
    exact w_cut (q_le_s (q_le_s (q_le_n (q_le_s (q_le_s (q_le_s q_le_z)))))) h
set_option maxRecDepth 20000 in
theorem sg_m_takesPart {X : Nat × (Nat → Int32)} {x1 : Int} {x2 : Int} {x3 : Int} {x4 : Int} {x5 : Int} {x6 : Int} {s : qM} {K : Int → qM → Prop} (h : c_m_isSamePart X 1 x3 x4 0 x1 x2 s (fun r2 s1 => (((r2 = 0) → c_m_isSamePart X 2 x5 x6 0 x1 x2 s1 (fun r4 s3 => (((r4 ≠ 0) → c_m_takesLines X 1 x3 x4 s3 (fun s5 => K 0 s5)) ∧ (¬ (r4 ≠ 0) → c_m_isSamePart X 2 x5 x6 1 x3 x4 s3 (fun r7 s6 => (((r7 = 0) → K 1 s6) ∧ (¬ (r7 = 0) → c_m_takesLines X 1 x3 x4 s6 (fun s8 => K 0 s8)))))))) ∧ (¬ (r2 = 0) → c_m_takesLines X 2 x5 x6 s1 (fun s9 => K 0 s9))))) : c_m_takesPart X x1 x2 x3 x4 x5 x6 s K := by
  unfold c_m_takesPart
  refine w_aload (p' := 1) rfl rfl rfl rfl ?_
  refine w_const (p' := 2) rfl rfl rfl ?_
  refine w_iload (p' := 3) rfl rfl rfl rfl ?_
  refine w_iload (p' := 5) rfl rfl rfl rfl ?_
  refine w_const (p' := 6) rfl rfl rfl ?_
  refine w_iload (p' := 7) rfl rfl rfl rfl ?_
  refine w_iload (p' := 8) rfl rfl rfl rfl ?_
  refine v_callI (M' := 123) (p' := 11) (rest := []) (as := [(.inr (.inr (.inl (some 113)))), (.inl 1), (.inl x3), (.inl x4), (.inl 0), (.inl x1), (.inl x2)]) rfl rfl rfl rfl rfl rfl rfl rfl rfl rfl rfl rfl rfl h (fun r2 s1 h => ?_)
  refine w_istore (p' := 13) (ls' := [some (.inr (.inr (.inl (some 113)))), some (.inl x1), some (.inl x2), some (.inl x3), some (.inl x4), some (.inl x5), some (.inl x6), some (.inl r2)]) rfl rfl rfl (Nat.le_of_ble_eq_true rfl) rfl ?_
  refine w_iload (p' := 15) rfl rfl rfl rfl ?_
  refine w_if (t := 30) (e := 18) rfl rfl rfl (fun e => ?_) (fun e => ?_)
  · have h := h.1 e
    refine w_aload (p' := 31) rfl rfl rfl rfl ?_
    refine w_const (p' := 32) rfl rfl rfl ?_
    refine w_iload (p' := 34) rfl rfl rfl rfl ?_
    refine w_iload (p' := 36) rfl rfl rfl rfl ?_
    refine w_const (p' := 37) rfl rfl rfl ?_
    refine w_iload (p' := 38) rfl rfl rfl rfl ?_
    refine w_iload (p' := 39) rfl rfl rfl rfl ?_
    refine v_callI (M' := 123) (p' := 42) (rest := []) (as := [(.inr (.inr (.inl (some 113)))), (.inl 2), (.inl x5), (.inl x6), (.inl 0), (.inl x1), (.inl x2)]) rfl rfl rfl rfl rfl rfl rfl rfl rfl rfl rfl rfl rfl h (fun r4 s3 h => ?_)
    refine w_if (t := 61) (e := 45) rfl rfl rfl (fun e => ?_) (fun e => ?_)
    · have h := h.1 e
      refine w_aload (p' := 62) rfl rfl rfl rfl ?_
      refine w_const (p' := 63) rfl rfl rfl ?_
      refine w_iload (p' := 64) rfl rfl rfl rfl ?_
      refine w_iload (p' := 66) rfl rfl rfl rfl ?_
      refine v_callV (M' := 124) (p' := 69) (rest := []) (as := [(.inr (.inr (.inl (some 113)))), (.inl 1), (.inl x3), (.inl x4)]) rfl rfl rfl rfl rfl rfl rfl rfl rfl rfl rfl rfl rfl h (fun s5 h => ?_)
      refine w_goto (p' := 74) rfl rfl ?_
      refine w_const (p' := 75) rfl rfl rfl ?_
      exact w_iret rfl ⟨by decide, by decide⟩ ⟨rfl, _, rfl, h⟩
    · have h := h.2 e
      refine w_aload (p' := 46) rfl rfl rfl rfl ?_
      refine w_const (p' := 47) rfl rfl rfl ?_
      refine w_iload (p' := 49) rfl rfl rfl rfl ?_
      refine w_iload (p' := 51) rfl rfl rfl rfl ?_
      refine w_const (p' := 52) rfl rfl rfl ?_
      refine w_iload (p' := 53) rfl rfl rfl rfl ?_
      refine w_iload (p' := 55) rfl rfl rfl rfl ?_
      refine v_callI (M' := 123) (p' := 58) (rest := []) (as := [(.inr (.inr (.inl (some 113)))), (.inl 2), (.inl x5), (.inl x6), (.inl 1), (.inl x3), (.inl x4)]) rfl rfl rfl rfl rfl rfl rfl rfl rfl rfl rfl rfl rfl h (fun r7 s6 h => ?_)
      refine w_if (t := 72) (e := 61) rfl rfl rfl (fun e => ?_) (fun e => ?_)
      · have h := h.1 e
        refine w_const (p' := 73) rfl rfl rfl ?_
        exact w_iret rfl ⟨by decide, by decide⟩ ⟨rfl, _, rfl, h⟩
      · have h := h.2 e
        refine w_aload (p' := 62) rfl rfl rfl rfl ?_
        refine w_const (p' := 63) rfl rfl rfl ?_
        refine w_iload (p' := 64) rfl rfl rfl rfl ?_
        refine w_iload (p' := 66) rfl rfl rfl rfl ?_
        refine v_callV (M' := 124) (p' := 69) (rest := []) (as := [(.inr (.inr (.inl (some 113)))), (.inl 1), (.inl x3), (.inl x4)]) rfl rfl rfl rfl rfl rfl rfl rfl rfl rfl rfl rfl rfl h (fun s8 h => ?_)
        refine w_goto (p' := 74) rfl rfl ?_
        refine w_const (p' := 75) rfl rfl rfl ?_
        exact w_iret rfl ⟨by decide, by decide⟩ ⟨rfl, _, rfl, h⟩
  · have h := h.2 e
    refine w_aload (p' := 19) rfl rfl rfl rfl ?_
    refine w_const (p' := 20) rfl rfl rfl ?_
    refine w_iload (p' := 22) rfl rfl rfl rfl ?_
    refine w_iload (p' := 24) rfl rfl rfl rfl ?_
    refine v_callV (M' := 124) (p' := 27) (rest := []) (as := [(.inr (.inr (.inl (some 113)))), (.inl 2), (.inl x5), (.inl x6)]) rfl rfl rfl rfl rfl rfl rfl rfl rfl rfl rfl rfl rfl h (fun s9 h => ?_)
    refine w_goto (p' := 74) rfl rfl ?_
    refine w_const (p' := 75) rfl rfl rfl ?_
    exact w_iret rfl ⟨by decide, by decide⟩ ⟨rfl, _, rfl, h⟩
