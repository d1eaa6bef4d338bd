/-! Segments, by program (wip/tools/seg.py). -/
set_option maxRecDepth 20000 in
theorem sg_m_closesLink {X : Nat × (Nat → Int32)} {x1 : Int} {s : qM} {K : Int → qM → Prop} (h : c_m_lastOpen X (s 113 33) s (fun r2 s1 => (((r2 ≠ (-1)) → (-2147483648 ≤ (x1 + 1) ∧ (x1 + 1) < 2147483648) ∧ c_m_nameBehind X (x1 + 1) s1 (fun r4 s3 => (((r4 ≤ 0) → ((0 : Int) ≤ r2) ∧ (r2 < (241 : Int)) ∧ (-2147483648 ≤ ((s3 142 r2) + 1) ∧ ((s3 142 r2) + 1) < 2147483648) ∧ c_m_meant X ((s3 142 r2) + 1) x1 s3 (fun r6 s5 => ((0 : Int) ≤ r2) ∧ (r2 < (241 : Int)) ∧ (∀ s7 : qM, s7 = q_up s5 141 r2 0 → (((r6 ≠ (-1)) → L_m_closesLink_104 X x1 r2 r4 r6 0 s7 K) ∧ (¬ (r6 ≠ (-1)) → ((0 : Int) ≤ r2) ∧ (r2 < (241 : Int)) ∧ (∀ s8 : qM, s8 = q_up s7 142 r2 91 → c_m_adds X 0 93 0 s8 (fun s9 => (-2147483648 ≤ (x1 + 1) ∧ (x1 + 1) < 2147483648) ∧ K (x1 + 1) s9))))))) ∧ (¬ (r4 ≤ 0) → (-2147483648 ≤ (x1 + 2) ∧ (x1 + 2) < 2147483648) ∧ (-2147483648 ≤ (x1 + 2) ∧ (x1 + 2) < 2147483648) ∧ (-2147483648 ≤ ((x1 + 2) + r4) ∧ ((x1 + 2) + r4) < 2147483648) ∧ c_m_meant X (x1 + 2) ((x1 + 2) + r4) s3 (fun r11 s10 => ((0 : Int) ≤ r2) ∧ (r2 < (241 : Int)) ∧ (∀ s12 : qM, s12 = q_up s10 141 r2 0 → (((r11 ≠ (-1)) → L_m_closesLink_104 X x1 r2 r4 r11 0 s12 K) ∧ (¬ (r11 ≠ (-1)) → ((0 : Int) ≤ r2) ∧ (r2 < (241 : Int)) ∧ (∀ s13 : qM, s13 = q_up s12 142 r2 91 → c_m_adds X 0 93 0 s13 (fun s14 => (-2147483648 ≤ (x1 + 1) ∧ (x1 + 1) < 2147483648) ∧ K (x1 + 1) s14)))))))))) ∧ (¬ (r2 ≠ (-1)) → c_m_adds X 0 93 0 s1 (fun s15 => (-2147483648 ≤ (x1 + 1) ∧ (x1 + 1) < 2147483648) ∧ K (x1 + 1) s15))))) : c_m_closesLink X x1 s K := by
  unfold c_m_closesLink
  refine w_aload (p' := 1) rfl rfl rfl rfl ?_
  refine w_aload (p' := 2) rfl rfl rfl rfl ?_
  refine w_getI (p' := 5) (j := 33) rfl rfl (by decide) rfl rfl ?_
  refine v_callI (M' := 87) (p' := 8) (rest := []) (as := [(.inr (.inr (.inl (some 113)))), (.inl (s 113 33))]) rfl rfl rfl rfl rfl rfl rfl rfl rfl rfl rfl rfl rfl h (fun r2 s1 h => ?_)
  refine w_istore (p' := 9) (ls' := [some (.inr (.inr (.inl (some 113)))), some (.inl x1), some (.inl r2), none, none, none]) rfl rfl rfl (Nat.le_of_ble_eq_true rfl) rfl ?_
  refine w_iload (p' := 10) rfl rfl rfl rfl ?_
  refine w_const (p' := 11) rfl rfl rfl ?_
  refine w_icmp (t := 26) (e := 14) rfl rfl rfl (fun e => ?_) (fun e => ?_)
  · have h := h.1 e
    refine w_aload (p' := 27) rfl rfl rfl rfl ?_
    refine w_iload (p' := 28) rfl rfl rfl rfl ?_
    refine w_const (p' := 29) rfl rfl rfl ?_
    refine w_add (p' := 30) rfl rfl h.1 ?_
    have h := h.2
    refine v_callI (M' := 86) (p' := 33) (rest := []) (as := [(.inr (.inr (.inl (some 113)))), (.inl (x1 + 1))]) rfl rfl rfl rfl rfl rfl rfl rfl rfl rfl rfl rfl rfl h (fun r4 s3 h => ?_)
    refine w_istore (p' := 34) (ls' := [some (.inr (.inr (.inl (some 113)))), some (.inl x1), some (.inl r2), some (.inl r4), none, none]) rfl rfl rfl (Nat.le_of_ble_eq_true rfl) rfl ?_
    refine w_iload (p' := 35) rfl rfl rfl rfl ?_
    refine w_if (t := 53) (e := 38) rfl rfl rfl (fun e => ?_) (fun e => ?_)
    · have h := h.1 e
      refine w_aload (p' := 54) rfl rfl rfl rfl ?_
      refine w_aload (p' := 55) rfl rfl rfl rfl ?_
      refine w_getR (p' := 58) rfl rfl rfl rfl rfl ?_
      refine w_iload (p' := 59) rfl rfl rfl rfl ?_
      refine w_iald (p' := 60) (N := 241) rfl rfl rfl rfl h.1 h.2.1 ?_
      have h := h.2.2
      refine w_const (p' := 61) rfl rfl rfl ?_
      refine w_add (p' := 62) rfl rfl h.1 ?_
      have h := h.2
      refine w_iload (p' := 63) rfl rfl rfl rfl ?_
      refine v_callI (M' := 85) (p' := 66) (rest := []) (as := [(.inr (.inr (.inl (some 113)))), (.inl ((s3 142 r2) + 1)), (.inl x1)]) rfl rfl rfl rfl rfl rfl rfl rfl rfl rfl rfl rfl rfl h (fun r6 s5 h => ?_)
      refine w_istore (p' := 68) (ls' := [some (.inr (.inr (.inl (some 113)))), some (.inl x1), some (.inl r2), some (.inl r4), some (.inl r6), none]) rfl rfl rfl (Nat.le_of_ble_eq_true rfl) rfl ?_
      refine w_aload (p' := 69) rfl rfl rfl rfl ?_
      refine w_getR (p' := 72) rfl rfl rfl rfl rfl ?_
      refine w_iload (p' := 73) rfl rfl rfl rfl ?_
      refine w_const (p' := 74) rfl rfl rfl ?_
      refine v_iast (p' := 75) (N := 241) rfl rfl rfl rfl h.1 h.2.1  ?_
      have h := h.2.2
      intro s7 es7
      have h := h s7 es7
      refine w_iload (p' := 77) rfl rfl rfl rfl ?_
      refine w_const (p' := 78) rfl rfl rfl ?_
      refine w_icmp (t := 101) (e := 81) rfl rfl rfl (fun e => ?_) (fun e => ?_)
      · have h := h.1 e
        refine w_const (p' := 102) rfl rfl rfl ?_
        refine w_istore (p' := 104) (ls' := [some (.inr (.inr (.inl (some 113)))), some (.inl x1), some (.inl r2), some (.inl r4), some (.inl r6), some (.inl 0)]) rfl rfl rfl (Nat.le_of_ble_eq_true rfl) rfl ?_
        exact w_cut (q_le_s (q_le_s (q_le_s (q_le_s (q_le_s (q_le_s q_le_z)))))) h
      · have h := h.2 e
        refine w_aload (p' := 82) rfl rfl rfl rfl ?_
        refine w_getR (p' := 85) rfl rfl rfl rfl rfl ?_
        refine w_iload (p' := 86) rfl rfl rfl rfl ?_
        refine w_const (p' := 88) rfl rfl rfl ?_
        refine v_iast (p' := 89) (N := 241) rfl rfl rfl rfl h.1 h.2.1  ?_
        have h := h.2.2
        intro s8 es8
        have h := h s8 es8
        refine w_aload (p' := 90) rfl rfl rfl rfl ?_
        refine w_const (p' := 91) rfl rfl rfl ?_
        refine w_const (p' := 93) rfl rfl rfl ?_
        refine w_const (p' := 94) rfl rfl rfl ?_
        refine v_callV (M' := 81) (p' := 97) (rest := []) (as := [(.inr (.inr (.inl (some 113)))), (.inl 0), (.inl 93), (.inl 0)]) rfl rfl rfl rfl rfl rfl rfl rfl rfl rfl rfl rfl rfl h (fun s9 h => ?_)
        refine w_iload (p' := 98) rfl rfl rfl rfl ?_
        refine w_const (p' := 99) rfl rfl rfl ?_
        refine w_add (p' := 100) rfl rfl h.1 ?_
        have h := h.2
        exact w_iret rfl trivial ⟨rfl, _, rfl, h⟩
    · have h := h.2 e
      refine w_aload (p' := 39) rfl rfl rfl rfl ?_
      refine w_iload (p' := 40) rfl rfl rfl rfl ?_
      refine w_const (p' := 41) rfl rfl rfl ?_
      refine w_add (p' := 42) rfl rfl h.1 ?_
      have h := h.2
      refine w_iload (p' := 43) rfl rfl rfl rfl ?_
      refine w_const (p' := 44) rfl rfl rfl ?_
      refine w_add (p' := 45) rfl rfl h.1 ?_
      have h := h.2
      refine w_iload (p' := 46) rfl rfl rfl rfl ?_
      refine w_add (p' := 47) rfl rfl h.1 ?_
      have h := h.2
      refine v_callI (M' := 85) (p' := 50) (rest := []) (as := [(.inr (.inr (.inl (some 113)))), (.inl (x1 + 2)), (.inl ((x1 + 2) + r4))]) rfl rfl rfl rfl rfl rfl rfl rfl rfl rfl rfl rfl rfl h (fun r11 s10 h => ?_)
      refine w_goto (p' := 66) rfl rfl ?_
      refine w_istore (p' := 68) (ls' := [some (.inr (.inr (.inl (some 113)))), some (.inl x1), some (.inl r2), some (.inl r4), some (.inl r11), none]) rfl rfl rfl (Nat.le_of_ble_eq_true rfl) rfl ?_
      refine w_aload (p' := 69) rfl rfl rfl rfl ?_
      refine w_getR (p' := 72) rfl rfl rfl rfl rfl ?_
      refine w_iload (p' := 73) rfl rfl rfl rfl ?_
      refine w_const (p' := 74) rfl rfl rfl ?_
      refine v_iast (p' := 75) (N := 241) rfl rfl rfl rfl h.1 h.2.1  ?_
      have h := h.2.2
      intro s12 es12
      have h := h s12 es12
      refine w_iload (p' := 77) rfl rfl rfl rfl ?_
      refine w_const (p' := 78) rfl rfl rfl ?_
      refine w_icmp (t := 101) (e := 81) rfl rfl rfl (fun e => ?_) (fun e => ?_)
      · have h := h.1 e
        refine w_const (p' := 102) rfl rfl rfl ?_
        refine w_istore (p' := 104) (ls' := [some (.inr (.inr (.inl (some 113)))), some (.inl x1), some (.inl r2), some (.inl r4), some (.inl r11), some (.inl 0)]) rfl rfl rfl (Nat.le_of_ble_eq_true rfl) rfl ?_
        exact w_cut (q_le_s (q_le_s (q_le_s (q_le_s (q_le_s (q_le_s q_le_z)))))) h
      · have h := h.2 e
        refine w_aload (p' := 82) rfl rfl rfl rfl ?_
        refine w_getR (p' := 85) rfl rfl rfl rfl rfl ?_
        refine w_iload (p' := 86) rfl rfl rfl rfl ?_
        refine w_const (p' := 88) rfl rfl rfl ?_
        refine v_iast (p' := 89) (N := 241) rfl rfl rfl rfl h.1 h.2.1  ?_
        have h := h.2.2
        intro s13 es13
        have h := h s13 es13
        refine w_aload (p' := 90) rfl rfl rfl rfl ?_
        refine w_const (p' := 91) rfl rfl rfl ?_
        refine w_const (p' := 93) rfl rfl rfl ?_
        refine w_const (p' := 94) rfl rfl rfl ?_
        refine v_callV (M' := 81) (p' := 97) (rest := []) (as := [(.inr (.inr (.inl (some 113)))), (.inl 0), (.inl 93), (.inl 0)]) rfl rfl rfl rfl rfl rfl rfl rfl rfl rfl rfl rfl rfl h (fun s14 h => ?_)
        refine w_iload (p' := 98) rfl rfl rfl rfl ?_
        refine w_const (p' := 99) rfl rfl rfl ?_
        refine w_add (p' := 100) rfl rfl h.1 ?_
        have h := h.2
        exact w_iret rfl trivial ⟨rfl, _, rfl, h⟩
  · have h := h.2 e
    refine w_aload (p' := 15) rfl rfl rfl rfl ?_
    refine w_const (p' := 16) rfl rfl rfl ?_
    refine w_const (p' := 18) rfl rfl rfl ?_
    refine w_const (p' := 19) rfl rfl rfl ?_
    refine v_callV (M' := 81) (p' := 22) (rest := []) (as := [(.inr (.inr (.inl (some 113)))), (.inl 0), (.inl 93), (.inl 0)]) rfl rfl rfl rfl rfl rfl rfl rfl rfl rfl rfl rfl rfl h (fun s15 h => ?_)
    refine w_iload (p' := 23) rfl rfl rfl rfl ?_
    refine w_const (p' := 24) rfl rfl rfl ?_
    refine w_add (p' := 25) rfl rfl h.1 ?_
    have h := h.2
    exact w_iret rfl trivial ⟨rfl, _, rfl, h⟩
set_option maxRecDepth 20000 in
theorem sg_m_closesLink_104 {X : Nat × (Nat → Int32)}  {v1 v2 v3 v4 v5 : Int} {s : qM} {K : Int → qM → Prop} (h : (((v2 ≤ v5) → ((0 : Int) ≤ v2) ∧ (v2 < (241 : Int)) ∧ (∀ s1 : qM, s1 = q_up s 141 v2 4 → ((0 : Int) ≤ v2) ∧ (v2 < (241 : Int)) ∧ (∀ s2 : qM, s2 = q_up s1 143 v2 v4 → (-2147483648 ≤ (v2 + 1) ∧ (v2 + 1) < 2147483648) ∧ c_m_pairsUp X (v2 + 1) (s2 113 33) s2 (fun s3 => (-2147483648 ≤ (v2 + 1) ∧ (v2 + 1) < 2147483648) ∧ L_m_closesLink_175 X v1 v2 v3 (v2 + 1) s3 K)))) ∧ (¬ (v2 ≤ v5) → ((0 : Int) ≤ v5) ∧ (v5 < (241 : Int)) ∧ ((((s 141 v5) ≠ 3) → (-2147483648 ≤ (v5 + 1) ∧ (v5 + 1) < 2147483648) ∧ L_m_closesLink_104 X v1 v2 v3 v4 (v5 + 1) s K) ∧ (¬ ((s 141 v5) ≠ 3) → ((0 : Int) ≤ v5) ∧ (v5 < (241 : Int)) ∧ (∀ s4 : qM, s4 = q_up s 141 v5 0 → ((0 : Int) ≤ v5) ∧ (v5 < (241 : Int)) ∧ (∀ s5 : qM, s5 = q_up s4 142 v5 91 → (-2147483648 ≤ (v5 + 1) ∧ (v5 + 1) < 2147483648) ∧ L_m_closesLink_104 X v1 v2 v3 v4 (v5 + 1) s5 K))))))) : L_m_closesLink_104 X v1 v2 v3 v4 v5 s K := by
  unfold L_m_closesLink_104
  refine w_iload (p' := 106) rfl rfl rfl rfl ?_
  refine w_iload (p' := 107) rfl rfl rfl rfl ?_
  refine w_icmp (t := 144) (e := 110) rfl rfl rfl (fun e => ?_) (fun e => ?_)
  · have h := h.1 e
    refine w_aload (p' := 145) rfl rfl rfl rfl ?_
    refine w_getR (p' := 148) rfl rfl rfl rfl rfl ?_
    refine w_iload (p' := 149) rfl rfl rfl rfl ?_
    refine w_const (p' := 150) rfl rfl rfl ?_
    refine v_iast (p' := 151) (N := 241) rfl rfl rfl rfl h.1 h.2.1  ?_
    have h := h.2.2
    intro s1 es1
    have h := h s1 es1
    refine w_aload (p' := 152) rfl rfl rfl rfl ?_
    refine w_getR (p' := 155) rfl rfl rfl rfl rfl ?_
    refine w_iload (p' := 156) rfl rfl rfl rfl ?_
    refine w_iload (p' := 158) rfl rfl rfl rfl ?_
    refine v_iast (p' := 159) (N := 241) rfl rfl rfl rfl h.1 h.2.1  ?_
    have h := h.2.2
    intro s2 es2
    have h := h s2 es2
    refine w_aload (p' := 160) rfl rfl rfl rfl ?_
    refine w_iload (p' := 161) rfl rfl rfl rfl ?_
    refine w_const (p' := 162) rfl rfl rfl ?_
    refine w_add (p' := 163) rfl rfl h.1 ?_
    have h := h.2
    refine w_aload (p' := 164) rfl rfl rfl rfl ?_
    refine w_getI (p' := 167) (j := 33) rfl rfl (by decide) rfl rfl ?_
    refine v_callV (M' := 91) (p' := 170) (rest := []) (as := [(.inr (.inr (.inl (some 113)))), (.inl (v2 + 1)), (.inl (s2 113 33))]) rfl rfl rfl rfl rfl rfl rfl rfl rfl rfl rfl rfl rfl h (fun s3 h => ?_)
    refine w_iload (p' := 171) rfl rfl rfl rfl ?_
    refine w_const (p' := 172) rfl rfl rfl ?_
    refine w_add (p' := 173) rfl rfl h.1 ?_
    have h := h.2
    refine w_istore (p' := 175) (ls' := [some (.inr (.inr (.inl (some 113)))), some (.inl v1), some (.inl v2), some (.inl v3), some (.inl v4), some (.inl (v2 + 1))]) rfl rfl rfl (Nat.le_of_ble_eq_true rfl) rfl ?_
    exact w_cut (q_le_s (q_le_s (q_le_s (q_le_s (q_le_n (q_le_s q_le_z)))))) h
  · have h := h.2 e
    refine w_aload (p' := 111) rfl rfl rfl rfl ?_
    refine w_getR (p' := 114) rfl rfl rfl rfl rfl ?_
    refine w_iload (p' := 116) rfl rfl rfl rfl ?_
    refine w_iald (p' := 117) (N := 241) rfl rfl rfl rfl h.1 h.2.1 ?_
    have h := h.2.2
    refine w_const (p' := 118) rfl rfl rfl ?_
    refine w_icmp (t := 138) (e := 121) rfl rfl rfl (fun e => ?_) (fun e => ?_)
    · have h := h.1 e
      refine w_iinc (p' := 141) (ls' := [some (.inr (.inr (.inl (some 113)))), some (.inl v1), some (.inl v2), some (.inl v3), some (.inl v4), some (.inl (v5 + 1))]) rfl rfl rfl (Nat.le_of_ble_eq_true rfl) h.1 rfl ?_
      have h := h.2
      refine w_goto (p' := 104) rfl rfl ?_
      exact w_cut (q_le_s (q_le_s (q_le_s (q_le_s (q_le_s (q_le_s q_le_z)))))) h
    · have h := h.2 e
      refine w_aload (p' := 122) rfl rfl rfl rfl ?_
      refine w_getR (p' := 125) rfl rfl rfl rfl rfl ?_
      refine w_iload (p' := 127) rfl rfl rfl rfl ?_
      refine w_const (p' := 128) rfl rfl rfl ?_
      refine v_iast (p' := 129) (N := 241) rfl rfl rfl rfl h.1 h.2.1  ?_
      have h := h.2.2
      intro s4 es4
      have h := h s4 es4
      refine w_aload (p' := 130) rfl rfl rfl rfl ?_
      refine w_getR (p' := 133) rfl rfl rfl rfl rfl ?_
      refine w_iload (p' := 135) rfl rfl rfl rfl ?_
      refine w_const (p' := 137) rfl rfl rfl ?_
      refine v_iast (p' := 138) (N := 241) rfl rfl rfl rfl h.1 h.2.1  ?_
      have h := h.2.2
      intro s5 es5
      have h := h s5 es5
      refine w_iinc (p' := 141) (ls' := [some (.inr (.inr (.inl (some 113)))), some (.inl v1), some (.inl v2), some (.inl v3), some (.inl v4), some (.inl (v5 + 1))]) rfl rfl rfl (Nat.le_of_ble_eq_true rfl) h.1 rfl ?_
      have h := h.2
      refine w_goto (p' := 104) rfl rfl ?_
      exact w_cut (q_le_s (q_le_s (q_le_s (q_le_s (q_le_s (q_le_s q_le_z)))))) h
set_option maxRecDepth 20000 in
theorem sg_m_closesLink_175 {X : Nat × (Nat → Int32)}  {v1 v2 v3 v5 : Int} {s : qM} {K : Int → qM → Prop} (h : ((((s 113 33) ≤ v5) → c_m_adds X 5 v2 0 s (fun s1 => (((v3 ≤ 0) → (-2147483648 ≤ (v1 + 1) ∧ (v1 + 1) < 2147483648) ∧ K (v1 + 1) s1) ∧ (¬ (v3 ≤ 0) → (-2147483648 ≤ (v1 + v3) ∧ (v1 + v3) < 2147483648) ∧ (-2147483648 ≤ ((v1 + v3) + 3) ∧ ((v1 + v3) + 3) < 2147483648) ∧ K ((v1 + v3) + 3) s1)))) ∧ (¬ ((s 113 33) ≤ v5) → ((0 : Int) ≤ v5) ∧ (v5 < (241 : Int)) ∧ (∀ s2 : qM, s2 = q_up s 147 v5 1 → (-2147483648 ≤ (v5 + 1) ∧ (v5 + 1) < 2147483648) ∧ L_m_closesLink_175 X v1 v2 v3 (v5 + 1) s2 K)))) : L_m_closesLink_175 X v1 v2 v3 v5 s K := by
  unfold L_m_closesLink_175
  refine w_iload (p' := 177) rfl rfl rfl rfl ?_
  refine w_aload (p' := 178) rfl rfl rfl rfl ?_
  refine w_getI (p' := 181) (j := 33) rfl rfl (by decide) rfl rfl ?_
  refine w_icmp (t := 198) (e := 184) rfl rfl rfl (fun e => ?_) (fun e => ?_)
  · have h := h.1 e
    refine w_aload (p' := 199) rfl rfl rfl rfl ?_
    refine w_const (p' := 200) rfl rfl rfl ?_
    refine w_iload (p' := 201) rfl rfl rfl rfl ?_
    refine w_const (p' := 202) rfl rfl rfl ?_
    refine v_callV (M' := 81) (p' := 205) (rest := []) (as := [(.inr (.inr (.inl (some 113)))), (.inl 5), (.inl v2), (.inl 0)]) rfl rfl rfl rfl rfl rfl rfl rfl rfl rfl rfl rfl rfl h (fun s1 h => ?_)
    refine w_iload (p' := 206) rfl rfl rfl rfl ?_
    refine w_if (t := 217) (e := 209) rfl rfl rfl (fun e => ?_) (fun e => ?_)
    · have h := h.1 e
      refine w_iload (p' := 218) rfl rfl rfl rfl ?_
      refine w_const (p' := 219) rfl rfl rfl ?_
      refine w_add (p' := 220) rfl rfl h.1 ?_
      have h := h.2
      exact w_iret rfl trivial ⟨rfl, _, rfl, h⟩
    · have h := h.2 e
      refine w_iload (p' := 210) rfl rfl rfl rfl ?_
      refine w_iload (p' := 211) rfl rfl rfl rfl ?_
      refine w_add (p' := 212) rfl rfl h.1 ?_
      have h := h.2
      refine w_const (p' := 213) rfl rfl rfl ?_
      refine w_add (p' := 214) rfl rfl h.1 ?_
      have h := h.2
      refine w_goto (p' := 220) rfl rfl ?_
      exact w_iret rfl trivial ⟨rfl, _, rfl, h⟩
  · have h := h.2 e
    refine w_aload (p' := 185) rfl rfl rfl rfl ?_
    refine w_getR (p' := 188) rfl rfl rfl rfl rfl ?_
    refine w_iload (p' := 190) rfl rfl rfl rfl ?_
    refine w_const (p' := 191) rfl rfl rfl ?_
    refine v_bast (p' := 192) (N := 241) rfl rfl rfl rfl h.1 h.2.1 (by decide) (by decide) ?_
    have h := h.2.2
    intro s2 es2
    have h := h s2 es2
    refine w_iinc (p' := 195) (ls' := [some (.inr (.inr (.inl (some 113)))), some (.inl v1), some (.inl v2), some (.inl v3), none, some (.inl (v5 + 1))]) rfl rfl rfl (Nat.le_of_ble_eq_true rfl) h.1 rfl ?_
    have h := h.2
    refine w_goto (p' := 175) rfl rfl ?_
    exact w_cut (q_le_s (q_le_s (q_le_s (q_le_s (q_le_n (q_le_s q_le_z)))))) h
set_option maxRecDepth 20000 in
theorem sg_m_fit {X : Nat × (Nat → Int32)} {x1 : Int} {x2 : Int} {s : qM} {K : Int → qM → Prop} (h : ((0 : Int) ≤ x1) ∧ (x1 < (241 : Int)) ∧ ((((s 144 x1) = 0) → ((0 : Int) ≤ x2) ∧ (x2 < (241 : Int)) ∧ ((((s 144 x2) = 0) → L_m_fit_41 X x1 x2 0 s K) ∧ (¬ ((s 144 x2) = 0) → ((0 : Int) ≤ x2) ∧ (x2 < (241 : Int)) ∧ ((((s 145 x2) = 0) → L_m_fit_41 X x1 x2 0 s K) ∧ (¬ ((s 145 x2) = 0) → L_m_fit_41 X x1 x2 1 s K))))) ∧ (¬ ((s 144 x1) = 0) → ((0 : Int) ≤ x1) ∧ (x1 < (241 : Int)) ∧ ((((s 145 x1) ≠ 0) → L_m_fit_41 X x1 x2 1 s K) ∧ (¬ ((s 145 x1) ≠ 0) → ((0 : Int) ≤ x2) ∧ (x2 < (241 : Int)) ∧ ((((s 144 x2) = 0) → L_m_fit_41 X x1 x2 0 s K) ∧ (¬ ((s 144 x2) = 0) → ((0 : Int) ≤ x2) ∧ (x2 < (241 : Int)) ∧ ((((s 145 x2) = 0) → L_m_fit_41 X x1 x2 0 s K) ∧ (¬ ((s 145 x2) = 0) → L_m_fit_41 X x1 x2 1 s K))))))))) : c_m_fit X x1 x2 s K := by
  unfold c_m_fit
  refine w_aload (p' := 1) rfl rfl rfl rfl ?_
  refine w_getR (p' := 4) rfl rfl rfl rfl rfl ?_
  refine w_iload (p' := 5) rfl rfl rfl rfl ?_
  refine w_bald (p' := 6) (N := 241) rfl rfl rfl rfl h.1 h.2.1 ?_
  have h := h.2.2
  refine w_if (t := 18) (e := 9) rfl rfl rfl (fun e => ?_) (fun e => ?_)
  · have h := h.1 e
    refine w_aload (p' := 19) rfl rfl rfl rfl ?_
    refine w_getR (p' := 22) rfl rfl rfl rfl rfl ?_
    refine w_iload (p' := 23) rfl rfl rfl rfl ?_
    refine w_bald (p' := 24) (N := 241) rfl rfl rfl rfl h.1 h.2.1 ?_
    have h := h.2.2
    refine w_if (t := 40) (e := 27) rfl rfl rfl (fun e => ?_) (fun e => ?_)
    · have h := h.1 e
      refine w_const (p' := 41) rfl rfl rfl ?_
      exact w_cut (q_le_s (q_le_s (q_le_s (q_le_n q_le_z)))) h
    · have h := h.2 e
      refine w_aload (p' := 28) rfl rfl rfl rfl ?_
      refine w_getR (p' := 31) rfl rfl rfl rfl rfl ?_
      refine w_iload (p' := 32) rfl rfl rfl rfl ?_
      refine w_bald (p' := 33) (N := 241) rfl rfl rfl rfl h.1 h.2.1 ?_
      have h := h.2.2
      refine w_if (t := 40) (e := 36) rfl rfl rfl (fun e => ?_) (fun e => ?_)
      · have h := h.1 e
        refine w_const (p' := 41) rfl rfl rfl ?_
        exact w_cut (q_le_s (q_le_s (q_le_s (q_le_n q_le_z)))) h
      · have h := h.2 e
        refine w_const (p' := 37) rfl rfl rfl ?_
        refine w_goto (p' := 41) rfl rfl ?_
        exact w_cut (q_le_s (q_le_s (q_le_s (q_le_n q_le_z)))) h
  · have h := h.2 e
    refine w_aload (p' := 10) rfl rfl rfl rfl ?_
    refine w_getR (p' := 13) rfl rfl rfl rfl rfl ?_
    refine w_iload (p' := 14) rfl rfl rfl rfl ?_
    refine w_bald (p' := 15) (N := 241) rfl rfl rfl rfl h.1 h.2.1 ?_
    have h := h.2.2
    refine w_if (t := 36) (e := 18) rfl rfl rfl (fun e => ?_) (fun e => ?_)
    · have h := h.1 e
      refine w_const (p' := 37) rfl rfl rfl ?_
      refine w_goto (p' := 41) rfl rfl ?_
      exact w_cut (q_le_s (q_le_s (q_le_s (q_le_n q_le_z)))) h
    · have h := h.2 e
      refine w_aload (p' := 19) rfl rfl rfl rfl ?_
      refine w_getR (p' := 22) rfl rfl rfl rfl rfl ?_
      refine w_iload (p' := 23) rfl rfl rfl rfl ?_
      refine w_bald (p' := 24) (N := 241) rfl rfl rfl rfl h.1 h.2.1 ?_
      have h := h.2.2
      refine w_if (t := 40) (e := 27) rfl rfl rfl (fun e => ?_) (fun e => ?_)
      · have h := h.1 e
        refine w_const (p' := 41) rfl rfl rfl ?_
        exact w_cut (q_le_s (q_le_s (q_le_s (q_le_n q_le_z)))) h
      · have h := h.2 e
        refine w_aload (p' := 28) rfl rfl rfl rfl ?_
        refine w_getR (p' := 31) rfl rfl rfl rfl rfl ?_
        refine w_iload (p' := 32) rfl rfl rfl rfl ?_
        refine w_bald (p' := 33) (N := 241) rfl rfl rfl rfl h.1 h.2.1 ?_
        have h := h.2.2
        refine w_if (t := 40) (e := 36) rfl rfl rfl (fun e => ?_) (fun e => ?_)
        · have h := h.1 e
          refine w_const (p' := 41) rfl rfl rfl ?_
          exact w_cut (q_le_s (q_le_s (q_le_s (q_le_n q_le_z)))) h
        · have h := h.2 e
          refine w_const (p' := 37) rfl rfl rfl ?_
          refine w_goto (p' := 41) rfl rfl ?_
          exact w_cut (q_le_s (q_le_s (q_le_s (q_le_n q_le_z)))) h
set_option maxRecDepth 20000 in
theorem sg_m_fit_41 {X : Nat × (Nat → Int32)}  {v1 v2 t0 : Int} {s : qM} {K : Int → qM → Prop} (h : (((t0 = 0) → K 1 s) ∧ (¬ (t0 = 0) → ((0 : Int) ≤ v1) ∧ (v1 < (241 : Int)) ∧ ((0 : Int) ≤ v2) ∧ (v2 < (241 : Int)) ∧ (-2147483648 ≤ ((s 143 v1) + (s 143 v2)) ∧ ((s 143 v1) + (s 143 v2)) < 2147483648) ∧ ((((Int.tmod ((s 143 v1) + (s 143 v2)) 3) ≠ 0) → K 1 s) ∧ (¬ ((Int.tmod ((s 143 v1) + (s 143 v2)) 3) ≠ 0) → ((0 : Int) ≤ v1) ∧ (v1 < (241 : Int)) ∧ ((((Int.tmod (s 143 v1) 3) ≠ 0) → K 0 s) ∧ (¬ ((Int.tmod (s 143 v1) 3) ≠ 0) → ((0 : Int) ≤ v2) ∧ (v2 < (241 : Int)) ∧ ((((Int.tmod (s 143 v2) 3) ≠ 0) → K 0 s) ∧ (¬ ((Int.tmod (s 143 v2) 3) ≠ 0) → K 1 s))))))))) : L_m_fit_41 X v1 v2 t0 s K := by
  unfold L_m_fit_41
  refine w_istore (p' := 42) (ls' := [some (.inr (.inr (.inl (some 113)))), some (.inl v1), some (.inl v2), some (.inl t0)]) rfl rfl rfl (Nat.le_of_ble_eq_true rfl) rfl ?_
  refine w_iload (p' := 43) rfl rfl rfl rfl ?_
  refine w_if (t := 86) (e := 46) rfl rfl rfl (fun e => ?_) (fun e => ?_)
  · have h := h.1 e
    refine w_const (p' := 87) rfl rfl rfl ?_
    refine w_goto (p' := 91) rfl rfl ?_
    exact w_iret rfl ⟨by decide, by decide⟩ ⟨rfl, _, rfl, h⟩
  · have h := h.2 e
    refine w_aload (p' := 47) rfl rfl rfl rfl ?_
    refine w_getR (p' := 50) rfl rfl rfl rfl rfl ?_
    refine w_iload (p' := 51) rfl rfl rfl rfl ?_
    refine w_iald (p' := 52) (N := 241) rfl rfl rfl rfl h.1 h.2.1 ?_
    have h := h.2.2
    refine w_aload (p' := 53) rfl rfl rfl rfl ?_
    refine w_getR (p' := 56) rfl rfl rfl rfl rfl ?_
    refine w_iload (p' := 57) rfl rfl rfl rfl ?_
    refine w_iald (p' := 58) (N := 241) rfl rfl rfl rfl h.1 h.2.1 ?_
    have h := h.2.2
    refine w_add (p' := 59) rfl rfl h.1 ?_
    have h := h.2
    refine w_const (p' := 60) rfl rfl rfl ?_
    refine w_rem (p' := 61) rfl rfl (by decide) ?_
    refine w_if (t := 86) (e := 64) rfl rfl rfl (fun e => ?_) (fun e => ?_)
    · have h := h.1 e
      refine w_const (p' := 87) rfl rfl rfl ?_
      refine w_goto (p' := 91) rfl rfl ?_
      exact w_iret rfl ⟨by decide, by decide⟩ ⟨rfl, _, rfl, h⟩
    · have h := h.2 e
      refine w_aload (p' := 65) rfl rfl rfl rfl ?_
      refine w_getR (p' := 68) rfl rfl rfl rfl rfl ?_
      refine w_iload (p' := 69) rfl rfl rfl rfl ?_
      refine w_iald (p' := 70) (N := 241) rfl rfl rfl rfl h.1 h.2.1 ?_
      have h := h.2.2
      refine w_const (p' := 71) rfl rfl rfl ?_
      refine w_rem (p' := 72) rfl rfl (by decide) ?_
      refine w_if (t := 90) (e := 75) rfl rfl rfl (fun e => ?_) (fun e => ?_)
      · have h := h.1 e
        refine w_const (p' := 91) rfl rfl rfl ?_
        exact w_iret rfl ⟨by decide, by decide⟩ ⟨rfl, _, rfl, h⟩
      · have h := h.2 e
        refine w_aload (p' := 76) rfl rfl rfl rfl ?_
        refine w_getR (p' := 79) rfl rfl rfl rfl rfl ?_
        refine w_iload (p' := 80) rfl rfl rfl rfl ?_
        refine w_iald (p' := 81) (N := 241) rfl rfl rfl rfl h.1 h.2.1 ?_
        have h := h.2.2
        refine w_const (p' := 82) rfl rfl rfl ?_
        refine w_rem (p' := 83) rfl rfl (by decide) ?_
        refine w_if (t := 90) (e := 86) rfl rfl rfl (fun e => ?_) (fun e => ?_)
        · have h := h.1 e
          refine w_const (p' := 91) rfl rfl rfl ?_
          exact w_iret rfl ⟨by decide, by decide⟩ ⟨rfl, _, rfl, h⟩
        · have h := h.2 e
          refine w_const (p' := 87) rfl rfl rfl ?_
          refine w_goto (p' := 91) rfl rfl ?_
          exact w_iret rfl ⟨by decide, by decide⟩ ⟨rfl, _, rfl, h⟩
set_option maxRecDepth 20000 in
theorem sg_m_nearest {X : Nat × (Nat → Int32)} {x1 : Int} {x2 : Int} {s : qM} {K : Int → qM → Prop} (h : L_m_nearest_5 X x2 (-1) x1 s K) : c_m_nearest X x1 x2 s K := by
  unfold c_m_nearest
  refine w_const (p' := 1) rfl rfl rfl ?_
  refine w_istore (p' := 2) (ls' := [some (.inr (.inr (.inl (some 113)))), some (.inl x1), some (.inl x2), some (.inl (-1)), none]) rfl rfl rfl (Nat.le_of_ble_eq_true rfl) rfl ?_
  refine w_iload (p' := 3) rfl rfl rfl rfl ?_
  refine w_istore (p' := 5) (ls' := [some (.inr (.inr (.inl (some 113)))), some (.inl x1), some (.inl x2), some (.inl (-1)), some (.inl x1)]) rfl rfl rfl (Nat.le_of_ble_eq_true rfl) rfl ?_
  exact w_cut (q_le_s (q_le_n (q_le_s (q_le_s (q_le_s q_le_z))))) h
set_option maxRecDepth 20000 in
theorem sg_m_nearest_5 {X : Nat × (Nat → Int32)}  {v2 v3 v4 : Int} {s : qM} {K : Int → qM → Prop} (h : (((v2 ≤ v4) → K v3 s) ∧ (¬ (v2 ≤ v4) → ((0 : Int) ≤ v4) ∧ (v4 < (241 : Int)) ∧ ((((s 141 v4) ≠ 1) → (-2147483648 ≤ (v4 + 1) ∧ (v4 + 1) < 2147483648) ∧ L_m_nearest_5 X v2 v3 (v4 + 1) s K) ∧ (¬ ((s 141 v4) ≠ 1) → ((0 : Int) ≤ v4) ∧ (v4 < (241 : Int)) ∧ ((((s 144 v4) = 0) → (-2147483648 ≤ (v4 + 1) ∧ (v4 + 1) < 2147483648) ∧ L_m_nearest_5 X v2 v3 (v4 + 1) s K) ∧ (¬ ((s 144 v4) = 0) → ((0 : Int) ≤ v4) ∧ (v4 < (241 : Int)) ∧ ((((s 147 v4) ≠ 0) → (-2147483648 ≤ (v4 + 1) ∧ (v4 + 1) < 2147483648) ∧ L_m_nearest_5 X v2 v3 (v4 + 1) s K) ∧ (¬ ((s 147 v4) ≠ 0) → ((0 : Int) ≤ v4) ∧ (v4 < (241 : Int)) ∧ ((((s 146 v4) ≤ 0) → (-2147483648 ≤ (v4 + 1) ∧ (v4 + 1) < 2147483648) ∧ L_m_nearest_5 X v2 v3 (v4 + 1) s K) ∧ (¬ ((s 146 v4) ≤ 0) → c_m_fit X v4 v2 s (fun r2 s1 => (((r2 = 0) → (-2147483648 ≤ (v4 + 1) ∧ (v4 + 1) < 2147483648) ∧ L_m_nearest_5 X v2 v3 (v4 + 1) s1 K) ∧ (¬ (r2 = 0) → (-2147483648 ≤ (v4 + 1) ∧ (v4 + 1) < 2147483648) ∧ L_m_nearest_5 X v2 v4 (v4 + 1) s1 K)))))))))))))) : L_m_nearest_5 X v2 v3 v4 s K := by
  unfold L_m_nearest_5
  refine w_iload (p' := 7) rfl rfl rfl rfl ?_
  refine w_iload (p' := 8) rfl rfl rfl rfl ?_
  refine w_icmp (t := 75) (e := 11) rfl rfl rfl (fun e => ?_) (fun e => ?_)
  · have h := h.1 e
    refine w_iload (p' := 76) rfl rfl rfl rfl ?_
    exact w_iret rfl trivial ⟨rfl, _, rfl, h⟩
  · have h := h.2 e
    refine w_aload (p' := 12) rfl rfl rfl rfl ?_
    refine w_getR (p' := 15) rfl rfl rfl rfl rfl ?_
    refine w_iload (p' := 17) rfl rfl rfl rfl ?_
    refine w_iald (p' := 18) (N := 241) rfl rfl rfl rfl h.1 h.2.1 ?_
    have h := h.2.2
    refine w_const (p' := 19) rfl rfl rfl ?_
    refine w_icmp (t := 67) (e := 22) rfl rfl rfl (fun e => ?_) (fun e => ?_)
    · have h := h.1 e
      refine w_iload (p' := 68) rfl rfl rfl rfl ?_
      refine w_istore (p' := 69) (ls' := [some (.inr (.inr (.inl (some 113)))), none, some (.inl v2), some (.inl v3), some (.inl v4)]) rfl rfl rfl (Nat.le_of_ble_eq_true rfl) rfl ?_
      refine w_iinc (p' := 72) (ls' := [some (.inr (.inr (.inl (some 113)))), none, some (.inl v2), some (.inl v3), some (.inl (v4 + 1))]) rfl rfl rfl (Nat.le_of_ble_eq_true rfl) h.1 rfl ?_
      have h := h.2
      refine w_goto (p' := 5) rfl rfl ?_
      exact w_cut (q_le_s (q_le_n (q_le_s (q_le_s (q_le_s q_le_z))))) h
    · have h := h.2 e
      refine w_aload (p' := 23) rfl rfl rfl rfl ?_
      refine w_getR (p' := 26) rfl rfl rfl rfl rfl ?_
      refine w_iload (p' := 28) rfl rfl rfl rfl ?_
      refine w_bald (p' := 29) (N := 241) rfl rfl rfl rfl h.1 h.2.1 ?_
      have h := h.2.2
      refine w_if (t := 67) (e := 32) rfl rfl rfl (fun e => ?_) (fun e => ?_)
      · have h := h.1 e
        refine w_iload (p' := 68) rfl rfl rfl rfl ?_
        refine w_istore (p' := 69) (ls' := [some (.inr (.inr (.inl (some 113)))), none, some (.inl v2), some (.inl v3), some (.inl v4)]) rfl rfl rfl (Nat.le_of_ble_eq_true rfl) rfl ?_
        refine w_iinc (p' := 72) (ls' := [some (.inr (.inr (.inl (some 113)))), none, some (.inl v2), some (.inl v3), some (.inl (v4 + 1))]) rfl rfl rfl (Nat.le_of_ble_eq_true rfl) h.1 rfl ?_
        have h := h.2
        refine w_goto (p' := 5) rfl rfl ?_
        exact w_cut (q_le_s (q_le_n (q_le_s (q_le_s (q_le_s q_le_z))))) h
      · have h := h.2 e
        refine w_aload (p' := 33) rfl rfl rfl rfl ?_
        refine w_getR (p' := 36) rfl rfl rfl rfl rfl ?_
        refine w_iload (p' := 38) rfl rfl rfl rfl ?_
        refine w_bald (p' := 39) (N := 241) rfl rfl rfl rfl h.1 h.2.1 ?_
        have h := h.2.2
        refine w_if (t := 67) (e := 42) rfl rfl rfl (fun e => ?_) (fun e => ?_)
        · have h := h.1 e
          refine w_iload (p' := 68) rfl rfl rfl rfl ?_
          refine w_istore (p' := 69) (ls' := [some (.inr (.inr (.inl (some 113)))), none, some (.inl v2), some (.inl v3), some (.inl v4)]) rfl rfl rfl (Nat.le_of_ble_eq_true rfl) rfl ?_
          refine w_iinc (p' := 72) (ls' := [some (.inr (.inr (.inl (some 113)))), none, some (.inl v2), some (.inl v3), some (.inl (v4 + 1))]) rfl rfl rfl (Nat.le_of_ble_eq_true rfl) h.1 rfl ?_
          have h := h.2
          refine w_goto (p' := 5) rfl rfl ?_
          exact w_cut (q_le_s (q_le_n (q_le_s (q_le_s (q_le_s q_le_z))))) h
        · have h := h.2 e
          refine w_aload (p' := 43) rfl rfl rfl rfl ?_
          refine w_getR (p' := 46) rfl rfl rfl rfl rfl ?_
          refine w_iload (p' := 48) rfl rfl rfl rfl ?_
          refine w_iald (p' := 49) (N := 241) rfl rfl rfl rfl h.1 h.2.1 ?_
          have h := h.2.2
          refine w_if (t := 67) (e := 52) rfl rfl rfl (fun e => ?_) (fun e => ?_)
          · have h := h.1 e
            refine w_iload (p' := 68) rfl rfl rfl rfl ?_
            refine w_istore (p' := 69) (ls' := [some (.inr (.inr (.inl (some 113)))), none, some (.inl v2), some (.inl v3), some (.inl v4)]) rfl rfl rfl (Nat.le_of_ble_eq_true rfl) rfl ?_
            refine w_iinc (p' := 72) (ls' := [some (.inr (.inr (.inl (some 113)))), none, some (.inl v2), some (.inl v3), some (.inl (v4 + 1))]) rfl rfl rfl (Nat.le_of_ble_eq_true rfl) h.1 rfl ?_
            have h := h.2
            refine w_goto (p' := 5) rfl rfl ?_
            exact w_cut (q_le_s (q_le_n (q_le_s (q_le_s (q_le_s q_le_z))))) h
          · have h := h.2 e
            refine w_aload (p' := 53) rfl rfl rfl rfl ?_
            refine w_iload (p' := 55) rfl rfl rfl rfl ?_
            refine w_iload (p' := 56) rfl rfl rfl rfl ?_
            refine v_callI (M' := 89) (p' := 59) (rest := []) (as := [(.inr (.inr (.inl (some 113)))), (.inl v4), (.inl v2)]) rfl rfl rfl rfl rfl rfl rfl rfl rfl rfl rfl rfl rfl h (fun r2 s1 h => ?_)
            refine w_if (t := 67) (e := 62) rfl rfl rfl (fun e => ?_) (fun e => ?_)
            · have h := h.1 e
              refine w_iload (p' := 68) rfl rfl rfl rfl ?_
              refine w_istore (p' := 69) (ls' := [some (.inr (.inr (.inl (some 113)))), none, some (.inl v2), some (.inl v3), some (.inl v4)]) rfl rfl rfl (Nat.le_of_ble_eq_true rfl) rfl ?_
              refine w_iinc (p' := 72) (ls' := [some (.inr (.inr (.inl (some 113)))), none, some (.inl v2), some (.inl v3), some (.inl (v4 + 1))]) rfl rfl rfl (Nat.le_of_ble_eq_true rfl) h.1 rfl ?_
              have h := h.2
              refine w_goto (p' := 5) rfl rfl ?_
              exact w_cut (q_le_s (q_le_n (q_le_s (q_le_s (q_le_s q_le_z))))) h
            · have h := h.2 e
              refine w_iload (p' := 64) rfl rfl rfl rfl ?_
              refine w_goto (p' := 68) rfl rfl ?_
              refine w_istore (p' := 69) (ls' := [some (.inr (.inr (.inl (some 113)))), none, some (.inl v2), some (.inl v4), some (.inl v4)]) rfl rfl rfl (Nat.le_of_ble_eq_true rfl) rfl ?_
              refine w_iinc (p' := 72) (ls' := [some (.inr (.inr (.inl (some 113)))), none, some (.inl v2), some (.inl v4), some (.inl (v4 + 1))]) rfl rfl rfl (Nat.le_of_ble_eq_true rfl) h.1 rfl ?_
              have h := h.2
              refine w_goto (p' := 5) rfl rfl ?_
              exact w_cut (q_le_s (q_le_n (q_le_s (q_le_s (q_le_s q_le_z))))) h
set_option maxRecDepth 20000 in
theorem sg_m_pairsUp {X : Nat × (Nat → Int32)} {x1 : Int} {x2 : Int} {s : qM} {K : qM → Prop} (h : L_m_pairsUp_2 X x1 x2 x1 s K) : c_m_pairsUp X x1 x2 s K := by
  unfold c_m_pairsUp
  refine w_iload (p' := 1) rfl rfl rfl rfl ?_
  refine w_istore (p' := 2) (ls' := [some (.inr (.inr (.inl (some 113)))), some (.inl x1), some (.inl x2), some (.inl x1), none, none, none, none]) rfl rfl rfl (Nat.le_of_ble_eq_true rfl) rfl ?_
  exact w_cut (q_le_s (q_le_s (q_le_s (q_le_s (q_le_n (q_le_n (q_le_n (q_le_n q_le_z)))))))) h
set_option maxRecDepth 20000 in
theorem sg_m_pairsUp_2 {X : Nat × (Nat → Int32)}  {v1 v2 v3 : Int} {s : qM} {K : qM → Prop} (h : (((v2 ≤ v3) → K s) ∧ (¬ (v2 ≤ v3) → ((0 : Int) ≤ v3) ∧ (v3 < (241 : Int)) ∧ ((((s 141 v3) ≠ 1) → L_m_pairsUp_42 X v1 v2 v3 0 s K) ∧ (¬ ((s 141 v3) ≠ 1) → ((0 : Int) ≤ v3) ∧ (v3 < (241 : Int)) ∧ ((((s 145 v3) = 0) → L_m_pairsUp_42 X v1 v2 v3 0 s K) ∧ (¬ ((s 145 v3) = 0) → ((0 : Int) ≤ v3) ∧ (v3 < (241 : Int)) ∧ ((((s 147 v3) ≠ 0) → L_m_pairsUp_42 X v1 v2 v3 0 s K) ∧ (¬ ((s 147 v3) ≠ 0) → L_m_pairsUp_42 X v1 v2 v3 1 s K))))))))) : L_m_pairsUp_2 X v1 v2 v3 s K := by
  unfold L_m_pairsUp_2
  refine w_iload (p' := 3) rfl rfl rfl rfl ?_
  refine w_iload (p' := 4) rfl rfl rfl rfl ?_
  refine w_icmp (t := 250) (e := 7) rfl rfl rfl (fun e => ?_) (fun e => ?_)
  · have h := h.1 e
    exact w_vret rfl ⟨rfl, rfl, h⟩
  · have h := h.2 e
    refine w_aload (p' := 8) rfl rfl rfl rfl ?_
    refine w_getR (p' := 11) rfl rfl rfl rfl rfl ?_
    refine w_iload (p' := 12) rfl rfl rfl rfl ?_
    refine w_iald (p' := 13) (N := 241) rfl rfl rfl rfl h.1 h.2.1 ?_
    have h := h.2.2
    refine w_const (p' := 14) rfl rfl rfl ?_
    refine w_icmp (t := 39) (e := 17) rfl rfl rfl (fun e => ?_) (fun e => ?_)
    · have h := h.1 e
      refine w_const (p' := 40) rfl rfl rfl ?_
      refine w_istore (p' := 42) (ls' := [some (.inr (.inr (.inl (some 113)))), some (.inl v1), some (.inl v2), some (.inl v3), some (.inl 0), none, none, none]) rfl rfl rfl (Nat.le_of_ble_eq_true rfl) rfl ?_
      exact w_cut (q_le_s (q_le_s (q_le_s (q_le_s (q_le_s (q_le_n (q_le_n (q_le_n q_le_z)))))))) h
    · have h := h.2 e
      refine w_aload (p' := 18) rfl rfl rfl rfl ?_
      refine w_getR (p' := 21) rfl rfl rfl rfl rfl ?_
      refine w_iload (p' := 22) rfl rfl rfl rfl ?_
      refine w_bald (p' := 23) (N := 241) rfl rfl rfl rfl h.1 h.2.1 ?_
      have h := h.2.2
      refine w_if (t := 39) (e := 26) rfl rfl rfl (fun e => ?_) (fun e => ?_)
      · have h := h.1 e
        refine w_const (p' := 40) rfl rfl rfl ?_
        refine w_istore (p' := 42) (ls' := [some (.inr (.inr (.inl (some 113)))), some (.inl v1), some (.inl v2), some (.inl v3), some (.inl 0), none, none, none]) rfl rfl rfl (Nat.le_of_ble_eq_true rfl) rfl ?_
        exact w_cut (q_le_s (q_le_s (q_le_s (q_le_s (q_le_s (q_le_n (q_le_n (q_le_n q_le_z)))))))) h
      · have h := h.2 e
        refine w_aload (p' := 27) rfl rfl rfl rfl ?_
        refine w_getR (p' := 30) rfl rfl rfl rfl rfl ?_
        refine w_iload (p' := 31) rfl rfl rfl rfl ?_
        refine w_bald (p' := 32) (N := 241) rfl rfl rfl rfl h.1 h.2.1 ?_
        have h := h.2.2
        refine w_if (t := 39) (e := 35) rfl rfl rfl (fun e => ?_) (fun e => ?_)
        · have h := h.1 e
          refine w_const (p' := 40) rfl rfl rfl ?_
          refine w_istore (p' := 42) (ls' := [some (.inr (.inr (.inl (some 113)))), some (.inl v1), some (.inl v2), some (.inl v3), some (.inl 0), none, none, none]) rfl rfl rfl (Nat.le_of_ble_eq_true rfl) rfl ?_
          exact w_cut (q_le_s (q_le_s (q_le_s (q_le_s (q_le_s (q_le_n (q_le_n (q_le_n q_le_z)))))))) h
        · have h := h.2 e
          refine w_const (p' := 36) rfl rfl rfl ?_
          refine w_goto (p' := 40) rfl rfl ?_
          refine w_istore (p' := 42) (ls' := [some (.inr (.inr (.inl (some 113)))), some (.inl v1), some (.inl v2), some (.inl v3), some (.inl 1), none, none, none]) rfl rfl rfl (Nat.le_of_ble_eq_true rfl) rfl ?_
          exact w_cut (q_le_s (q_le_s (q_le_s (q_le_s (q_le_s (q_le_n (q_le_n (q_le_n q_le_z)))))))) h
set_option maxRecDepth 20000 in
theorem sg_m_pairsUp_42 {X : Nat × (Nat → Int32)}  {v1 v2 v3 v4 : Int} {s : qM} {K : qM → Prop} (h : (((v4 = 0) → (-2147483648 ≤ (v3 + 1) ∧ (v3 + 1) < 2147483648) ∧ L_m_pairsUp_2 X v1 v2 (v3 + 1) s K) ∧ (¬ (v4 = 0) → ((0 : Int) ≤ v3) ∧ (v3 < (241 : Int)) ∧ ((((s 146 v3) ≤ 0) → (-2147483648 ≤ (v3 + 1) ∧ (v3 + 1) < 2147483648) ∧ L_m_pairsUp_2 X v1 v2 (v3 + 1) s K) ∧ (¬ ((s 146 v3) ≤ 0) → c_m_nearest X v1 v3 s (fun r2 s1 => (((r2 ≠ (-1)) → ((0 : Int) ≤ v3) ∧ (v3 < (241 : Int)) ∧ ((((s1 146 v3) ≤ 1) → ((0 : Int) ≤ (s1 113 41)) ∧ ((s1 113 41) < (241 : Int)) ∧ (∀ s3 : qM, s3 = q_up s1 148 (s1 113 41) r2 → ((0 : Int) ≤ (s3 113 41)) ∧ ((s3 113 41) < (241 : Int)) ∧ (∀ s4 : qM, s4 = q_up s3 149 (s3 113 41) v3 → L_m_pairsUp_165 X v1 v2 v3 v4 r2 0 (s4 113 41) 9 s4 K))) ∧ (¬ ((s1 146 v3) ≤ 1) → ((0 : Int) ≤ r2) ∧ (r2 < (241 : Int)) ∧ ((((s1 146 r2) ≤ 1) → ((0 : Int) ≤ (s1 113 41)) ∧ ((s1 113 41) < (241 : Int)) ∧ (∀ s5 : qM, s5 = q_up s1 148 (s1 113 41) r2 → ((0 : Int) ≤ (s5 113 41)) ∧ ((s5 113 41) < (241 : Int)) ∧ (∀ s6 : qM, s6 = q_up s5 149 (s5 113 41) v3 → L_m_pairsUp_165 X v1 v2 v3 v4 r2 0 (s6 113 41) 9 s6 K))) ∧ (¬ ((s1 146 r2) ≤ 1) → ((0 : Int) ≤ (s1 113 41)) ∧ ((s1 113 41) < (241 : Int)) ∧ (∀ s7 : qM, s7 = q_up s1 148 (s1 113 41) r2 → ((0 : Int) ≤ (s7 113 41)) ∧ ((s7 113 41) < (241 : Int)) ∧ (∀ s8 : qM, s8 = q_up s7 149 (s7 113 41) v3 → L_m_pairsUp_165 X v1 v2 v3 v4 r2 1 (s8 113 41) 10 s8 K))))))) ∧ (¬ (r2 ≠ (-1)) → ((0 : Int) ≤ v3) ∧ (v3 < (241 : Int)) ∧ ((((s1 144 v3) ≠ 0) → ((0 : Int) ≤ v3) ∧ (v3 < (241 : Int)) ∧ (∀ s9 : qM, s9 = q_up s1 147 v3 0 → L_m_pairsUp_42 X v1 v2 v3 0 s9 K)) ∧ (¬ ((s1 144 v3) ≠ 0) → ((0 : Int) ≤ v3) ∧ (v3 < (241 : Int)) ∧ (∀ s10 : qM, s10 = q_up s1 147 v3 1 → L_m_pairsUp_42 X v1 v2 v3 0 s10 K))))))))))) : L_m_pairsUp_42 X v1 v2 v3 v4 s K := by
  unfold L_m_pairsUp_42
  refine w_iload (p' := 44) rfl rfl rfl rfl ?_
  refine w_if (t := 244) (e := 47) rfl rfl rfl (fun e => ?_) (fun e => ?_)
  · have h := h.1 e
    refine w_iinc (p' := 247) (ls' := [some (.inr (.inr (.inl (some 113)))), some (.inl v1), some (.inl v2), some (.inl (v3 + 1)), some (.inl v4), none, none, none]) rfl rfl rfl (Nat.le_of_ble_eq_true rfl) h.1 rfl ?_
    have h := h.2
    refine w_goto (p' := 2) rfl rfl ?_
    exact w_cut (q_le_s (q_le_s (q_le_s (q_le_s (q_le_n (q_le_n (q_le_n (q_le_n q_le_z)))))))) h
  · have h := h.2 e
    refine w_aload (p' := 48) rfl rfl rfl rfl ?_
    refine w_getR (p' := 51) rfl rfl rfl rfl rfl ?_
    refine w_iload (p' := 52) rfl rfl rfl rfl ?_
    refine w_iald (p' := 53) (N := 241) rfl rfl rfl rfl h.1 h.2.1 ?_
    have h := h.2.2
    refine w_if (t := 244) (e := 56) rfl rfl rfl (fun e => ?_) (fun e => ?_)
    · have h := h.1 e
      refine w_iinc (p' := 247) (ls' := [some (.inr (.inr (.inl (some 113)))), some (.inl v1), some (.inl v2), some (.inl (v3 + 1)), some (.inl v4), none, none, none]) rfl rfl rfl (Nat.le_of_ble_eq_true rfl) h.1 rfl ?_
      have h := h.2
      refine w_goto (p' := 2) rfl rfl ?_
      exact w_cut (q_le_s (q_le_s (q_le_s (q_le_s (q_le_n (q_le_n (q_le_n (q_le_n q_le_z)))))))) h
    · have h := h.2 e
      refine w_aload (p' := 57) rfl rfl rfl rfl ?_
      refine w_iload (p' := 58) rfl rfl rfl rfl ?_
      refine w_iload (p' := 59) rfl rfl rfl rfl ?_
      refine v_callI (M' := 90) (p' := 62) (rest := []) (as := [(.inr (.inr (.inl (some 113)))), (.inl v1), (.inl v3)]) rfl rfl rfl rfl rfl rfl rfl rfl rfl rfl rfl rfl rfl h (fun r2 s1 h => ?_)
      refine w_istore (p' := 64) (ls' := [some (.inr (.inr (.inl (some 113)))), some (.inl v1), some (.inl v2), some (.inl v3), some (.inl v4), some (.inl r2), none, none]) rfl rfl rfl (Nat.le_of_ble_eq_true rfl) rfl ?_
      refine w_iload (p' := 66) rfl rfl rfl rfl ?_
      refine w_const (p' := 67) rfl rfl rfl ?_
      refine w_icmp (t := 96) (e := 70) rfl rfl rfl (fun e => ?_) (fun e => ?_)
      · have h := h.1 e
        refine w_aload (p' := 97) rfl rfl rfl rfl ?_
        refine w_getR (p' := 100) rfl rfl rfl rfl rfl ?_
        refine w_iload (p' := 101) rfl rfl rfl rfl ?_
        refine w_iald (p' := 102) (N := 241) rfl rfl rfl rfl h.1 h.2.1 ?_
        have h := h.2.2
        refine w_const (p' := 103) rfl rfl rfl ?_
        refine w_icmp (t := 121) (e := 106) rfl rfl rfl (fun e => ?_) (fun e => ?_)
        · have h := h.1 e
          refine w_const (p' := 122) rfl rfl rfl ?_
          refine w_istore (p' := 124) (ls' := [some (.inr (.inr (.inl (some 113)))), some (.inl v1), some (.inl v2), some (.inl v3), some (.inl v4), some (.inl r2), some (.inl 0), none]) rfl rfl rfl (Nat.le_of_ble_eq_true rfl) rfl ?_
          refine w_aload (p' := 125) rfl rfl rfl rfl ?_
          refine w_getR (p' := 128) rfl rfl rfl rfl rfl ?_
          refine w_aload (p' := 129) rfl rfl rfl rfl ?_
          refine w_getI (p' := 132) (j := 41) rfl rfl (by decide) rfl rfl ?_
          refine w_iload (p' := 134) rfl rfl rfl rfl ?_
          refine v_iast (p' := 135) (N := 241) rfl rfl rfl rfl h.1 h.2.1  ?_
          have h := h.2.2
          intro s3 es3
          have h := h s3 es3
          refine w_aload (p' := 136) rfl rfl rfl rfl ?_
          refine w_getR (p' := 139) rfl rfl rfl rfl rfl ?_
          refine w_aload (p' := 140) rfl rfl rfl rfl ?_
          refine w_getI (p' := 143) (j := 41) rfl rfl (by decide) rfl rfl ?_
          refine w_iload (p' := 144) rfl rfl rfl rfl ?_
          refine v_iast (p' := 145) (N := 241) rfl rfl rfl rfl h.1 h.2.1  ?_
          have h := h.2.2
          intro s4 es4
          have h := h s4 es4
          refine w_aload (p' := 146) rfl rfl rfl rfl ?_
          refine w_getR (p' := 149) rfl rfl rfl rfl rfl ?_
          refine w_aload (p' := 150) rfl rfl rfl rfl ?_
          refine w_getI (p' := 153) (j := 41) rfl rfl (by decide) rfl rfl ?_
          refine w_iload (p' := 155) rfl rfl rfl rfl ?_
          refine w_if (t := 163) (e := 158) rfl rfl rfl (fun e => ?_) (fun e => absurd (show (0 : Int) = 0 by decide) e)
          refine w_const (p' := 165) rfl rfl rfl ?_
          exact w_cut (q_le_s (q_le_s (q_le_s (q_le_s (q_le_s (q_le_s (q_le_s (q_le_n q_le_z)))))))) h
        · have h := h.2 e
          refine w_aload (p' := 107) rfl rfl rfl rfl ?_
          refine w_getR (p' := 110) rfl rfl rfl rfl rfl ?_
          refine w_iload (p' := 112) rfl rfl rfl rfl ?_
          refine w_iald (p' := 113) (N := 241) rfl rfl rfl rfl h.1 h.2.1 ?_
          have h := h.2.2
          refine w_const (p' := 114) rfl rfl rfl ?_
          refine w_icmp (t := 121) (e := 117) rfl rfl rfl (fun e => ?_) (fun e => ?_)
          · have h := h.1 e
            refine w_const (p' := 122) rfl rfl rfl ?_
            refine w_istore (p' := 124) (ls' := [some (.inr (.inr (.inl (some 113)))), some (.inl v1), some (.inl v2), some (.inl v3), some (.inl v4), some (.inl r2), some (.inl 0), none]) rfl rfl rfl (Nat.le_of_ble_eq_true rfl) rfl ?_
            refine w_aload (p' := 125) rfl rfl rfl rfl ?_
            refine w_getR (p' := 128) rfl rfl rfl rfl rfl ?_
            refine w_aload (p' := 129) rfl rfl rfl rfl ?_
            refine w_getI (p' := 132) (j := 41) rfl rfl (by decide) rfl rfl ?_
            refine w_iload (p' := 134) rfl rfl rfl rfl ?_
            refine v_iast (p' := 135) (N := 241) rfl rfl rfl rfl h.1 h.2.1  ?_
            have h := h.2.2
            intro s5 es5
            have h := h s5 es5
            refine w_aload (p' := 136) rfl rfl rfl rfl ?_
            refine w_getR (p' := 139) rfl rfl rfl rfl rfl ?_
            refine w_aload (p' := 140) rfl rfl rfl rfl ?_
            refine w_getI (p' := 143) (j := 41) rfl rfl (by decide) rfl rfl ?_
            refine w_iload (p' := 144) rfl rfl rfl rfl ?_
            refine v_iast (p' := 145) (N := 241) rfl rfl rfl rfl h.1 h.2.1  ?_
            have h := h.2.2
            intro s6 es6
            have h := h s6 es6
            refine w_aload (p' := 146) rfl rfl rfl rfl ?_
            refine w_getR (p' := 149) rfl rfl rfl rfl rfl ?_
            refine w_aload (p' := 150) rfl rfl rfl rfl ?_
            refine w_getI (p' := 153) (j := 41) rfl rfl (by decide) rfl rfl ?_
            refine w_iload (p' := 155) rfl rfl rfl rfl ?_
            refine w_if (t := 163) (e := 158) rfl rfl rfl (fun e => ?_) (fun e => absurd (show (0 : Int) = 0 by decide) e)
            refine w_const (p' := 165) rfl rfl rfl ?_
            exact w_cut (q_le_s (q_le_s (q_le_s (q_le_s (q_le_s (q_le_s (q_le_s (q_le_n q_le_z)))))))) h
          · have h := h.2 e
            refine w_const (p' := 118) rfl rfl rfl ?_
            refine w_goto (p' := 122) rfl rfl ?_
            refine w_istore (p' := 124) (ls' := [some (.inr (.inr (.inl (some 113)))), some (.inl v1), some (.inl v2), some (.inl v3), some (.inl v4), some (.inl r2), some (.inl 1), none]) rfl rfl rfl (Nat.le_of_ble_eq_true rfl) rfl ?_
            refine w_aload (p' := 125) rfl rfl rfl rfl ?_
            refine w_getR (p' := 128) rfl rfl rfl rfl rfl ?_
            refine w_aload (p' := 129) rfl rfl rfl rfl ?_
            refine w_getI (p' := 132) (j := 41) rfl rfl (by decide) rfl rfl ?_
            refine w_iload (p' := 134) rfl rfl rfl rfl ?_
            refine v_iast (p' := 135) (N := 241) rfl rfl rfl rfl h.1 h.2.1  ?_
            have h := h.2.2
            intro s7 es7
            have h := h s7 es7
            refine w_aload (p' := 136) rfl rfl rfl rfl ?_
            refine w_getR (p' := 139) rfl rfl rfl rfl rfl ?_
            refine w_aload (p' := 140) rfl rfl rfl rfl ?_
            refine w_getI (p' := 143) (j := 41) rfl rfl (by decide) rfl rfl ?_
            refine w_iload (p' := 144) rfl rfl rfl rfl ?_
            refine v_iast (p' := 145) (N := 241) rfl rfl rfl rfl h.1 h.2.1  ?_
            have h := h.2.2
            intro s8 es8
            have h := h s8 es8
            refine w_aload (p' := 146) rfl rfl rfl rfl ?_
            refine w_getR (p' := 149) rfl rfl rfl rfl rfl ?_
            refine w_aload (p' := 150) rfl rfl rfl rfl ?_
            refine w_getI (p' := 153) (j := 41) rfl rfl (by decide) rfl rfl ?_
            refine w_iload (p' := 155) rfl rfl rfl rfl ?_
            refine w_if (t := 163) (e := 158) rfl rfl rfl (fun e => absurd e (show ¬ ((1 : Int) = 0) by decide)) (fun e => ?_)
            refine w_const (p' := 160) rfl rfl rfl ?_
            refine w_goto (p' := 165) rfl rfl ?_
            exact w_cut (q_le_s (q_le_s (q_le_s (q_le_s (q_le_s (q_le_s (q_le_s (q_le_n q_le_z)))))))) h
      · have h := h.2 e
        refine w_const (p' := 71) rfl rfl rfl ?_
        refine w_istore (p' := 73) (ls' := [some (.inr (.inr (.inl (some 113)))), some (.inl v1), some (.inl v2), some (.inl v3), some (.inl 0), some (.inl r2), none, none]) rfl rfl rfl (Nat.le_of_ble_eq_true rfl) rfl ?_
        refine w_aload (p' := 74) rfl rfl rfl rfl ?_
        refine w_getR (p' := 77) rfl rfl rfl rfl rfl ?_
        refine w_iload (p' := 78) rfl rfl rfl rfl ?_
        refine w_aload (p' := 79) rfl rfl rfl rfl ?_
        refine w_getR (p' := 82) rfl rfl rfl rfl rfl ?_
        refine w_iload (p' := 83) rfl rfl rfl rfl ?_
        refine w_bald (p' := 84) (N := 241) rfl rfl rfl rfl h.1 h.2.1 ?_
        have h := h.2.2
        refine w_if (t := 91) (e := 87) rfl rfl rfl (fun e => ?_) (fun e => ?_)
        · have h := h.1 e
          refine w_const (p' := 92) rfl rfl rfl ?_
          refine v_bast (p' := 93) (N := 241) rfl rfl rfl rfl h.1 h.2.1 (by decide) (by decide) ?_
          have h := h.2.2
          intro s9 es9
          have h := h s9 es9
          refine w_goto (p' := 241) rfl rfl ?_
          refine w_goto (p' := 42) rfl rfl ?_
          exact w_cut (q_le_s (q_le_s (q_le_s (q_le_s (q_le_s (q_le_n (q_le_n (q_le_n q_le_z)))))))) h
        · have h := h.2 e
          refine w_const (p' := 88) rfl rfl rfl ?_
          refine w_goto (p' := 92) rfl rfl ?_
          refine v_bast (p' := 93) (N := 241) rfl rfl rfl rfl h.1 h.2.1 (by decide) (by decide) ?_
          have h := h.2.2
          intro s10 es10
          have h := h s10 es10
          refine w_goto (p' := 241) rfl rfl ?_
          refine w_goto (p' := 42) rfl rfl ?_
          exact w_cut (q_le_s (q_le_s (q_le_s (q_le_s (q_le_s (q_le_n (q_le_n (q_le_n q_le_z)))))))) h
set_option maxRecDepth 20000 in
theorem sg_m_pairsUp_165 {X : Nat × (Nat → Int32)}  {v1 v2 v3 v4 v5 v6 t1 t2 : Int} {s : qM} {K : qM → Prop} (h : ((0 : Int) ≤ t1) ∧ (t1 < (241 : Int)) ∧ (∀ s1 : qM, s1 = q_up s 150 t1 t2 → (-2147483648 ≤ ((s1 113 41) + 1) ∧ ((s1 113 41) + 1) < 2147483648) ∧ (∀ s2 : qM, s2 = q_up s1 113 41 ((s1 113 41) + 1) → ((0 : Int) ≤ v3) ∧ (v3 < (241 : Int)) ∧ (((v6 = 0) → (-2147483648 ≤ ((s2 146 v3) - 1) ∧ ((s2 146 v3) - 1) < 2147483648) ∧ ((0 : Int) ≤ v3) ∧ (v3 < (241 : Int)) ∧ (∀ s3 : qM, s3 = q_up s2 146 v3 ((s2 146 v3) - 1) → ((0 : Int) ≤ v5) ∧ (v5 < (241 : Int)) ∧ (((v6 = 0) → (-2147483648 ≤ ((s3 146 v5) - 1) ∧ ((s3 146 v5) - 1) < 2147483648) ∧ ((0 : Int) ≤ v5) ∧ (v5 < (241 : Int)) ∧ (∀ s4 : qM, s4 = q_up s3 146 v5 ((s3 146 v5) - 1) → (-2147483648 ≤ (v5 + 1) ∧ (v5 + 1) < 2147483648) ∧ L_m_pairsUp_221 X v1 v2 v3 v4 (v5 + 1) s4 K)) ∧ (¬ (v6 = 0) → (-2147483648 ≤ ((s3 146 v5) - 2) ∧ ((s3 146 v5) - 2) < 2147483648) ∧ ((0 : Int) ≤ v5) ∧ (v5 < (241 : Int)) ∧ (∀ s5 : qM, s5 = q_up s3 146 v5 ((s3 146 v5) - 2) → (-2147483648 ≤ (v5 + 1) ∧ (v5 + 1) < 2147483648) ∧ L_m_pairsUp_221 X v1 v2 v3 v4 (v5 + 1) s5 K))))) ∧ (¬ (v6 = 0) → (-2147483648 ≤ ((s2 146 v3) - 2) ∧ ((s2 146 v3) - 2) < 2147483648) ∧ ((0 : Int) ≤ v3) ∧ (v3 < (241 : Int)) ∧ (∀ s6 : qM, s6 = q_up s2 146 v3 ((s2 146 v3) - 2) → ((0 : Int) ≤ v5) ∧ (v5 < (241 : Int)) ∧ (((v6 = 0) → (-2147483648 ≤ ((s6 146 v5) - 1) ∧ ((s6 146 v5) - 1) < 2147483648) ∧ ((0 : Int) ≤ v5) ∧ (v5 < (241 : Int)) ∧ (∀ s7 : qM, s7 = q_up s6 146 v5 ((s6 146 v5) - 1) → (-2147483648 ≤ (v5 + 1) ∧ (v5 + 1) < 2147483648) ∧ L_m_pairsUp_221 X v1 v2 v3 v4 (v5 + 1) s7 K)) ∧ (¬ (v6 = 0) → (-2147483648 ≤ ((s6 146 v5) - 2) ∧ ((s6 146 v5) - 2) < 2147483648) ∧ ((0 : Int) ≤ v5) ∧ (v5 < (241 : Int)) ∧ (∀ s8 : qM, s8 = q_up s6 146 v5 ((s6 146 v5) - 2) → (-2147483648 ≤ (v5 + 1) ∧ (v5 + 1) < 2147483648) ∧ L_m_pairsUp_221 X v1 v2 v3 v4 (v5 + 1) s8 K))))))))) : L_m_pairsUp_165 X v1 v2 v3 v4 v5 v6 t1 t2 s K := by
  unfold L_m_pairsUp_165
  refine v_iast (p' := 166) (N := 241) rfl rfl rfl rfl h.1 h.2.1  ?_
  have h := h.2.2
  intro s1 es1
  have h := h s1 es1
  refine w_aload (p' := 167) rfl rfl rfl rfl ?_
  refine w_dup (p' := 168) rfl rfl rfl ?_
  refine w_getI (p' := 171) (j := 41) rfl rfl (by decide) rfl rfl ?_
  refine w_const (p' := 172) rfl rfl rfl ?_
  refine w_add (p' := 173) rfl rfl h.1 ?_
  have h := h.2
  refine v_putI (p' := 176) (j := 41) rfl rfl (by decide) rfl rfl trivial ?_
  intro s2 es2
  have h := h s2 es2
  refine w_aload (p' := 177) rfl rfl rfl rfl ?_
  refine w_getR (p' := 180) rfl rfl rfl rfl rfl ?_
  refine w_iload (p' := 181) rfl rfl rfl rfl ?_
  refine w_dup2 (p' := 182) rfl rfl rfl rfl ?_
  refine w_iald (p' := 183) (N := 241) rfl rfl rfl rfl h.1 h.2.1 ?_
  have h := h.2.2
  refine w_iload (p' := 185) rfl rfl rfl rfl ?_
  refine w_if (t := 192) (e := 188) rfl rfl rfl (fun e => ?_) (fun e => ?_)
  · have h := h.1 e
    refine w_const (p' := 193) rfl rfl rfl ?_
    refine w_sub (p' := 194) rfl rfl h.1 ?_
    have h := h.2
    refine v_iast (p' := 195) (N := 241) rfl rfl rfl rfl h.1 h.2.1  ?_
    have h := h.2.2
    intro s3 es3
    have h := h s3 es3
    refine w_aload (p' := 196) rfl rfl rfl rfl ?_
    refine w_getR (p' := 199) rfl rfl rfl rfl rfl ?_
    refine w_iload (p' := 201) rfl rfl rfl rfl ?_
    refine w_dup2 (p' := 202) rfl rfl rfl rfl ?_
    refine w_iald (p' := 203) (N := 241) rfl rfl rfl rfl h.1 h.2.1 ?_
    have h := h.2.2
    refine w_iload (p' := 205) rfl rfl rfl rfl ?_
    refine w_if (t := 212) (e := 208) rfl rfl rfl (fun e => ?_) (fun e => ?_)
    · have h := h.1 e
      refine w_const (p' := 213) rfl rfl rfl ?_
      refine w_sub (p' := 214) rfl rfl h.1 ?_
      have h := h.2
      refine v_iast (p' := 215) (N := 241) rfl rfl rfl rfl h.1 h.2.1  ?_
      have h := h.2.2
      intro s4 es4
      have h := h s4 es4
      refine w_iload (p' := 217) rfl rfl rfl rfl ?_
      refine w_const (p' := 218) rfl rfl rfl ?_
      refine w_add (p' := 219) rfl rfl h.1 ?_
      have h := h.2
      refine w_istore (p' := 221) (ls' := [some (.inr (.inr (.inl (some 113)))), some (.inl v1), some (.inl v2), some (.inl v3), some (.inl v4), some (.inl v5), some (.inl v6), some (.inl (v5 + 1))]) rfl rfl rfl (Nat.le_of_ble_eq_true rfl) rfl ?_
      exact w_cut (q_le_s (q_le_s (q_le_s (q_le_s (q_le_s (q_le_n (q_le_n (q_le_s q_le_z)))))))) h
    · have h := h.2 e
      refine w_const (p' := 209) rfl rfl rfl ?_
      refine w_goto (p' := 213) rfl rfl ?_
      refine w_sub (p' := 214) rfl rfl h.1 ?_
      have h := h.2
      refine v_iast (p' := 215) (N := 241) rfl rfl rfl rfl h.1 h.2.1  ?_
      have h := h.2.2
      intro s5 es5
      have h := h s5 es5
      refine w_iload (p' := 217) rfl rfl rfl rfl ?_
      refine w_const (p' := 218) rfl rfl rfl ?_
      refine w_add (p' := 219) rfl rfl h.1 ?_
      have h := h.2
      refine w_istore (p' := 221) (ls' := [some (.inr (.inr (.inl (some 113)))), some (.inl v1), some (.inl v2), some (.inl v3), some (.inl v4), some (.inl v5), some (.inl v6), some (.inl (v5 + 1))]) rfl rfl rfl (Nat.le_of_ble_eq_true rfl) rfl ?_
      exact w_cut (q_le_s (q_le_s (q_le_s (q_le_s (q_le_s (q_le_n (q_le_n (q_le_s q_le_z)))))))) h
  · have h := h.2 e
    refine w_const (p' := 189) rfl rfl rfl ?_
    refine w_goto (p' := 193) rfl rfl ?_
    refine w_sub (p' := 194) rfl rfl h.1 ?_
    have h := h.2
    refine v_iast (p' := 195) (N := 241) rfl rfl rfl rfl h.1 h.2.1  ?_
    have h := h.2.2
    intro s6 es6
    have h := h s6 es6
    refine w_aload (p' := 196) rfl rfl rfl rfl ?_
    refine w_getR (p' := 199) rfl rfl rfl rfl rfl ?_
    refine w_iload (p' := 201) rfl rfl rfl rfl ?_
    refine w_dup2 (p' := 202) rfl rfl rfl rfl ?_
    refine w_iald (p' := 203) (N := 241) rfl rfl rfl rfl h.1 h.2.1 ?_
    have h := h.2.2
    refine w_iload (p' := 205) rfl rfl rfl rfl ?_
    refine w_if (t := 212) (e := 208) rfl rfl rfl (fun e => ?_) (fun e => ?_)
    · have h := h.1 e
      refine w_const (p' := 213) rfl rfl rfl ?_
      refine w_sub (p' := 214) rfl rfl h.1 ?_
      have h := h.2
      refine v_iast (p' := 215) (N := 241) rfl rfl rfl rfl h.1 h.2.1  ?_
      have h := h.2.2
      intro s7 es7
      have h := h s7 es7
      refine w_iload (p' := 217) rfl rfl rfl rfl ?_
      refine w_const (p' := 218) rfl rfl rfl ?_
      refine w_add (p' := 219) rfl rfl h.1 ?_
      have h := h.2
      refine w_istore (p' := 221) (ls' := [some (.inr (.inr (.inl (some 113)))), some (.inl v1), some (.inl v2), some (.inl v3), some (.inl v4), some (.inl v5), some (.inl v6), some (.inl (v5 + 1))]) rfl rfl rfl (Nat.le_of_ble_eq_true rfl) rfl ?_
      exact w_cut (q_le_s (q_le_s (q_le_s (q_le_s (q_le_s (q_le_n (q_le_n (q_le_s q_le_z)))))))) h
    · have h := h.2 e
      refine w_const (p' := 209) rfl rfl rfl ?_
      refine w_goto (p' := 213) rfl rfl ?_
      refine w_sub (p' := 214) rfl rfl h.1 ?_
      have h := h.2
      refine v_iast (p' := 215) (N := 241) rfl rfl rfl rfl h.1 h.2.1  ?_
      have h := h.2.2
      intro s8 es8
      have h := h s8 es8
      refine w_iload (p' := 217) rfl rfl rfl rfl ?_
      refine w_const (p' := 218) rfl rfl rfl ?_
      refine w_add (p' := 219) rfl rfl h.1 ?_
      have h := h.2
      refine w_istore (p' := 221) (ls' := [some (.inr (.inr (.inl (some 113)))), some (.inl v1), some (.inl v2), some (.inl v3), some (.inl v4), some (.inl v5), some (.inl v6), some (.inl (v5 + 1))]) rfl rfl rfl (Nat.le_of_ble_eq_true rfl) rfl ?_
      exact w_cut (q_le_s (q_le_s (q_le_s (q_le_s (q_le_s (q_le_n (q_le_n (q_le_s q_le_z)))))))) h
set_option maxRecDepth 20000 in
theorem sg_m_pairsUp_221 {X : Nat × (Nat → Int32)}  {v1 v2 v3 v4 v7 : Int} {s : qM} {K : qM → Prop} (h : (((v3 ≤ v7) → L_m_pairsUp_42 X v1 v2 v3 v4 s K) ∧ (¬ (v3 ≤ v7) → ((0 : Int) ≤ v7) ∧ (v7 < (241 : Int)) ∧ (∀ s1 : qM, s1 = q_up s 147 v7 1 → (-2147483648 ≤ (v7 + 1) ∧ (v7 + 1) < 2147483648) ∧ L_m_pairsUp_221 X v1 v2 v3 v4 (v7 + 1) s1 K)))) : L_m_pairsUp_221 X v1 v2 v3 v4 v7 s K := by
  unfold L_m_pairsUp_221
  refine w_iload (p' := 223) rfl rfl rfl rfl ?_
  refine w_iload (p' := 224) rfl rfl rfl rfl ?_
  refine w_icmp (t := 241) (e := 227) rfl rfl rfl (fun e => ?_) (fun e => ?_)
  · have h := h.1 e
    refine w_goto (p' := 42) rfl rfl ?_
    exact w_cut (q_le_s (q_le_s (q_le_s (q_le_s (q_le_s (q_le_n (q_le_n (q_le_n q_le_z)))))))) h
  · have h := h.2 e
    refine w_aload (p' := 228) rfl rfl rfl rfl ?_
    refine w_getR (p' := 231) rfl rfl rfl rfl rfl ?_
    refine w_iload (p' := 233) rfl rfl rfl rfl ?_
    refine w_const (p' := 234) rfl rfl rfl ?_
    refine v_bast (p' := 235) (N := 241) rfl rfl rfl rfl h.1 h.2.1 (by decide) (by decide) ?_
    have h := h.2.2
    intro s1 es1
    have h := h s1 es1
    refine w_iinc (p' := 238) (ls' := [some (.inr (.inr (.inl (some 113)))), some (.inl v1), some (.inl v2), some (.inl v3), some (.inl v4), none, none, some (.inl (v7 + 1))]) rfl rfl rfl (Nat.le_of_ble_eq_true rfl) h.1 rfl ?_
    have h := h.2
    refine w_goto (p' := 221) rfl rfl ?_
    exact w_cut (q_le_s (q_le_s (q_le_s (q_le_s (q_le_s (q_le_n (q_le_n (q_le_s q_le_z)))))))) h
set_option maxRecDepth 20000 in
theorem sg_m_cuts {X : Nat × (Nat → Int32)} {x1 : Int} {s : qM} {K : qM → Prop} (h : c_m_laysInline X x1 s (fun s1 => (∀ s2 : qM, s2 = q_up s1 113 33 0 → (∀ s3 : qM, s3 = q_up s2 113 41 0 → L_m_cuts_17 X 0 s3 K)))) : c_m_cuts X x1 s K := by
  unfold c_m_cuts
  refine w_aload (p' := 1) rfl rfl rfl rfl ?_
  refine w_iload (p' := 2) rfl rfl rfl rfl ?_
  refine v_callV (M' := 77) (p' := 5) (rest := []) (as := [(.inr (.inr (.inl (some 113)))), (.inl x1)]) rfl rfl rfl rfl rfl rfl rfl rfl rfl rfl rfl rfl rfl h (fun s1 h => ?_)
  refine w_aload (p' := 6) rfl rfl rfl rfl ?_
  refine w_const (p' := 7) rfl rfl rfl ?_
  refine v_putI (p' := 10) (j := 33) rfl rfl (by decide) rfl rfl trivial ?_
  intro s2 es2
  have h := h s2 es2
  refine w_aload (p' := 11) rfl rfl rfl rfl ?_
  refine w_const (p' := 12) rfl rfl rfl ?_
  refine v_putI (p' := 15) (j := 41) rfl rfl (by decide) rfl rfl trivial ?_
  intro s3 es3
  have h := h s3 es3
  refine w_const (p' := 16) rfl rfl rfl ?_
  refine w_istore (p' := 17) (ls' := [some (.inr (.inr (.inl (some 113)))), some (.inl x1), some (.inl 0), none]) rfl rfl rfl (Nat.le_of_ble_eq_true rfl) rfl ?_
  exact w_cut (q_le_s (q_le_n (q_le_s (q_le_n q_le_z)))) h
set_option maxRecDepth 20000 in
theorem sg_m_cuts_17 {X : Nat × (Nat → Int32)}  {v2 : Int} {s : qM} {K : qM → Prop} (h : ((((s 113 28) ≤ v2) → c_m_pairsUp X 0 (s 113 33) s (fun s1 => K s1)) ∧ (¬ ((s 113 28) ≤ v2) → c_m_in X v2 s (fun r3 s2 => (((r3 ≠ 92) → L_m_cuts_69 X v2 r3 s2 K) ∧ (¬ (r3 ≠ 92) → (-2147483648 ≤ (v2 + 1) ∧ (v2 + 1) < 2147483648) ∧ c_m_in X (v2 + 1) s2 (fun r5 s4 => c_m_isSign X r5 s4 (fun r7 s6 => (((r7 = 0) → L_m_cuts_69 X v2 r3 s6 K) ∧ (¬ (r7 = 0) → (-2147483648 ≤ (v2 + 1) ∧ (v2 + 1) < 2147483648) ∧ c_m_in X (v2 + 1) s6 (fun r9 s8 => c_m_adds X 0 r9 0 s8 (fun s10 => (-2147483648 ≤ (v2 + 2) ∧ (v2 + 2) < 2147483648) ∧ L_m_cuts_17 X (v2 + 2) s10 K)))))))))))) : L_m_cuts_17 X v2 s K := by
  unfold L_m_cuts_17
  refine w_iload (p' := 18) rfl rfl rfl rfl ?_
  refine w_aload (p' := 19) rfl rfl rfl rfl ?_
  refine w_getI (p' := 22) (j := 28) rfl rfl (by decide) rfl rfl ?_
  refine w_icmp (t := 153) (e := 25) rfl rfl rfl (fun e => ?_) (fun e => ?_)
  · have h := h.1 e
    refine w_aload (p' := 154) rfl rfl rfl rfl ?_
    refine w_const (p' := 155) rfl rfl rfl ?_
    refine w_aload (p' := 156) rfl rfl rfl rfl ?_
    refine w_getI (p' := 159) (j := 33) rfl rfl (by decide) rfl rfl ?_
    refine v_callV (M' := 91) (p' := 162) (rest := []) (as := [(.inr (.inr (.inl (some 113)))), (.inl 0), (.inl (s 113 33))]) rfl rfl rfl rfl rfl rfl rfl rfl rfl rfl rfl rfl rfl h (fun s1 h => ?_)
    exact w_vret rfl ⟨rfl, rfl, h⟩
  · have h := h.2 e
    refine w_aload (p' := 26) rfl rfl rfl rfl ?_
    refine w_iload (p' := 27) rfl rfl rfl rfl ?_
    refine v_callI (M' := 78) (p' := 30) (rest := []) (as := [(.inr (.inr (.inl (some 113)))), (.inl v2)]) rfl rfl rfl rfl rfl rfl rfl rfl rfl rfl rfl rfl rfl h (fun r3 s2 h => ?_)
    refine w_istore (p' := 31) (ls' := [some (.inr (.inr (.inl (some 113)))), none, some (.inl v2), some (.inl r3)]) rfl rfl rfl (Nat.le_of_ble_eq_true rfl) rfl ?_
    refine w_iload (p' := 32) rfl rfl rfl rfl ?_
    refine w_const (p' := 34) rfl rfl rfl ?_
    refine w_icmp (t := 69) (e := 37) rfl rfl rfl (fun e => ?_) (fun e => ?_)
    · have h := h.1 e
      exact w_cut (q_le_s (q_le_n (q_le_s (q_le_s q_le_z)))) h
    · have h := h.2 e
      refine w_aload (p' := 38) rfl rfl rfl rfl ?_
      refine w_iload (p' := 39) rfl rfl rfl rfl ?_
      refine w_const (p' := 40) rfl rfl rfl ?_
      refine w_add (p' := 41) rfl rfl h.1 ?_
      have h := h.2
      refine v_callI (M' := 78) (p' := 44) (rest := []) (as := [(.inr (.inr (.inl (some 113)))), (.inl (v2 + 1))]) rfl rfl rfl rfl rfl rfl rfl rfl rfl rfl rfl rfl rfl h (fun r5 s4 h => ?_)
      refine v_callI (M' := 49) (p' := 47) (rest := []) (as := [(.inl r5)]) rfl rfl rfl rfl rfl rfl rfl rfl rfl rfl rfl trivial rfl h (fun r7 s6 h => ?_)
      refine w_if (t := 69) (e := 50) rfl rfl rfl (fun e => ?_) (fun e => ?_)
      · have h := h.1 e
        exact w_cut (q_le_s (q_le_n (q_le_s (q_le_s q_le_z)))) h
      · have h := h.2 e
        refine w_aload (p' := 51) rfl rfl rfl rfl ?_
        refine w_const (p' := 52) rfl rfl rfl ?_
        refine w_aload (p' := 53) rfl rfl rfl rfl ?_
        refine w_iload (p' := 54) rfl rfl rfl rfl ?_
        refine w_const (p' := 55) rfl rfl rfl ?_
        refine w_add (p' := 56) rfl rfl h.1 ?_
        have h := h.2
        refine v_callI (M' := 78) (p' := 59) (rest := [(.inl 0), (.inr (.inr (.inl (some 113))))]) (as := [(.inr (.inr (.inl (some 113)))), (.inl (v2 + 1))]) rfl rfl rfl rfl rfl rfl rfl rfl rfl rfl rfl rfl rfl h (fun r9 s8 h => ?_)
        refine w_const (p' := 60) rfl rfl rfl ?_
        refine v_callV (M' := 81) (p' := 63) (rest := []) (as := [(.inr (.inr (.inl (some 113)))), (.inl 0), (.inl r9), (.inl 0)]) rfl rfl rfl rfl rfl rfl rfl rfl rfl rfl rfl rfl rfl h (fun s10 h => ?_)
        refine w_iinc (p' := 66) (ls' := [some (.inr (.inr (.inl (some 113)))), none, some (.inl (v2 + 2)), some (.inl r3)]) rfl rfl rfl (Nat.le_of_ble_eq_true rfl) h.1 rfl ?_
        have h := h.2
        refine w_goto (p' := 150) rfl rfl ?_
        refine w_goto (p' := 17) rfl rfl ?_
        exact w_cut (q_le_s (q_le_n (q_le_s (q_le_n q_le_z)))) h
set_option maxRecDepth 20000 in
theorem sg_m_cuts_69 {X : Nat × (Nat → Int32)}  {v2 v3 : Int} {s : qM} {K : qM → Prop} (h : (((v3 ≠ 96) → (((v3 ≠ 91) → (((v3 ≠ 93) → (((v3 ≠ 42) → c_m_adds X 0 v3 0 s (fun s1 => (-2147483648 ≤ (v2 + 1) ∧ (v2 + 1) < 2147483648) ∧ L_m_cuts_17 X (v2 + 1) s1 K)) ∧ (¬ (v3 ≠ 42) → c_m_addsRun X v2 s (fun s2 => c_m_run X v2 s2 (fun r4 s3 => (-2147483648 ≤ (v2 + r4) ∧ (v2 + r4) < 2147483648) ∧ L_m_cuts_17 X (v2 + r4) s3 K))))) ∧ (¬ (v3 ≠ 93) → c_m_closesLink X v2 s (fun r6 s5 => L_m_cuts_17 X r6 s5 K)))) ∧ (¬ (v3 ≠ 91) → c_m_adds X 3 v2 0 s (fun s7 => (-2147483648 ≤ (v2 + 1) ∧ (v2 + 1) < 2147483648) ∧ L_m_cuts_17 X (v2 + 1) s7 K)))) ∧ (¬ (v3 ≠ 96) → c_m_cutsCode X v2 s (fun r9 s8 => L_m_cuts_17 X r9 s8 K)))) : L_m_cuts_69 X v2 v3 s K := by
  unfold L_m_cuts_69
  refine w_iload (p' := 70) rfl rfl rfl rfl ?_
  refine w_const (p' := 72) rfl rfl rfl ?_
  refine w_icmp (t := 84) (e := 75) rfl rfl rfl (fun e => ?_) (fun e => ?_)
  · have h := h.1 e
    refine w_iload (p' := 85) rfl rfl rfl rfl ?_
    refine w_const (p' := 87) rfl rfl rfl ?_
    refine w_icmp (t := 103) (e := 90) rfl rfl rfl (fun e => ?_) (fun e => ?_)
    · have h := h.1 e
      refine w_iload (p' := 104) rfl rfl rfl rfl ?_
      refine w_const (p' := 106) rfl rfl rfl ?_
      refine w_icmp (t := 118) (e := 109) rfl rfl rfl (fun e => ?_) (fun e => ?_)
      · have h := h.1 e
        refine w_iload (p' := 119) rfl rfl rfl rfl ?_
        refine w_const (p' := 121) rfl rfl rfl ?_
        refine w_icmp (t := 140) (e := 124) rfl rfl rfl (fun e => ?_) (fun e => ?_)
        · have h := h.1 e
          refine w_aload (p' := 141) rfl rfl rfl rfl ?_
          refine w_const (p' := 142) rfl rfl rfl ?_
          refine w_iload (p' := 143) rfl rfl rfl rfl ?_
          refine w_const (p' := 144) rfl rfl rfl ?_
          refine v_callV (M' := 81) (p' := 147) (rest := []) (as := [(.inr (.inr (.inl (some 113)))), (.inl 0), (.inl v3), (.inl 0)]) rfl rfl rfl rfl rfl rfl rfl rfl rfl rfl rfl rfl rfl h (fun s1 h => ?_)
          refine w_iinc (p' := 150) (ls' := [some (.inr (.inr (.inl (some 113)))), none, some (.inl (v2 + 1)), some (.inl v3)]) rfl rfl rfl (Nat.le_of_ble_eq_true rfl) h.1 rfl ?_
          have h := h.2
          refine w_goto (p' := 17) rfl rfl ?_
          exact w_cut (q_le_s (q_le_n (q_le_s (q_le_n q_le_z)))) h
        · have h := h.2 e
          refine w_aload (p' := 125) rfl rfl rfl rfl ?_
          refine w_iload (p' := 126) rfl rfl rfl rfl ?_
          refine v_callV (M' := 82) (p' := 129) (rest := []) (as := [(.inr (.inr (.inl (some 113)))), (.inl v2)]) rfl rfl rfl rfl rfl rfl rfl rfl rfl rfl rfl rfl rfl h (fun s2 h => ?_)
          refine w_iload (p' := 130) rfl rfl rfl rfl ?_
          refine w_aload (p' := 131) rfl rfl rfl rfl ?_
          refine w_iload (p' := 132) rfl rfl rfl rfl ?_
          refine v_callI (M' := 80) (p' := 135) (rest := [(.inl v2)]) (as := [(.inr (.inr (.inl (some 113)))), (.inl v2)]) rfl rfl rfl rfl rfl rfl rfl rfl rfl rfl rfl rfl rfl h (fun r4 s3 h => ?_)
          refine w_add (p' := 136) rfl rfl h.1 ?_
          have h := h.2
          refine w_istore (p' := 137) (ls' := [some (.inr (.inr (.inl (some 113)))), none, some (.inl (v2 + r4)), some (.inl v3)]) rfl rfl rfl (Nat.le_of_ble_eq_true rfl) rfl ?_
          refine w_goto (p' := 150) rfl rfl ?_
          refine w_goto (p' := 17) rfl rfl ?_
          exact w_cut (q_le_s (q_le_n (q_le_s (q_le_n q_le_z)))) h
      · have h := h.2 e
        refine w_aload (p' := 110) rfl rfl rfl rfl ?_
        refine w_iload (p' := 111) rfl rfl rfl rfl ?_
        refine v_callI (M' := 88) (p' := 114) (rest := []) (as := [(.inr (.inr (.inl (some 113)))), (.inl v2)]) rfl rfl rfl rfl rfl rfl rfl rfl rfl rfl rfl rfl rfl h (fun r6 s5 h => ?_)
        refine w_istore (p' := 115) (ls' := [some (.inr (.inr (.inl (some 113)))), none, some (.inl r6), some (.inl v3)]) rfl rfl rfl (Nat.le_of_ble_eq_true rfl) rfl ?_
        refine w_goto (p' := 150) rfl rfl ?_
        refine w_goto (p' := 17) rfl rfl ?_
        exact w_cut (q_le_s (q_le_n (q_le_s (q_le_n q_le_z)))) h
    · have h := h.2 e
      refine w_aload (p' := 91) rfl rfl rfl rfl ?_
      refine w_const (p' := 92) rfl rfl rfl ?_
      refine w_iload (p' := 93) rfl rfl rfl rfl ?_
      refine w_const (p' := 94) rfl rfl rfl ?_
      refine v_callV (M' := 81) (p' := 97) (rest := []) (as := [(.inr (.inr (.inl (some 113)))), (.inl 3), (.inl v2), (.inl 0)]) rfl rfl rfl rfl rfl rfl rfl rfl rfl rfl rfl rfl rfl h (fun s7 h => ?_)
      refine w_iinc (p' := 100) (ls' := [some (.inr (.inr (.inl (some 113)))), none, some (.inl (v2 + 1)), some (.inl v3)]) rfl rfl rfl (Nat.le_of_ble_eq_true rfl) h.1 rfl ?_
      have h := h.2
      refine w_goto (p' := 150) rfl rfl ?_
      refine w_goto (p' := 17) rfl rfl ?_
      exact w_cut (q_le_s (q_le_n (q_le_s (q_le_n q_le_z)))) h
  · have h := h.2 e
    refine w_aload (p' := 76) rfl rfl rfl rfl ?_
    refine w_iload (p' := 77) rfl rfl rfl rfl ?_
    refine v_callI (M' := 93) (p' := 80) (rest := []) (as := [(.inr (.inr (.inl (some 113)))), (.inl v2)]) rfl rfl rfl rfl rfl rfl rfl rfl rfl rfl rfl rfl rfl h (fun r9 s8 h => ?_)
    refine w_istore (p' := 81) (ls' := [some (.inr (.inr (.inl (some 113)))), none, some (.inl r9), some (.inl v3)]) rfl rfl rfl (Nat.le_of_ble_eq_true rfl) rfl ?_
    refine w_goto (p' := 150) rfl rfl ?_
    refine w_goto (p' := 17) rfl rfl ?_
    exact w_cut (q_le_s (q_le_n (q_le_s (q_le_n q_le_z)))) h
set_option maxRecDepth 20000 in
theorem sg_m_cutsCode {X : Nat × (Nat → Int32)} {x1 : Int} {s : qM} {K : Int → qM → Prop} (h : c_m_run X x1 s (fun r2 s1 => (-2147483648 ≤ (x1 + r2) ∧ (x1 + r2) < 2147483648) ∧ c_m_nextRun X (x1 + r2) r2 s1 (fun r4 s3 => (((r4 = (-1)) → L_m_cutsCode_36 X x1 r2 0 s3 K) ∧ (¬ (r4 = (-1)) → (-2147483648 ≤ (x1 + r2) ∧ (x1 + r2) < 2147483648) ∧ c_m_adds X 2 (x1 + r2) r4 s3 (fun s5 => (-2147483648 ≤ (r4 + r2) ∧ (r4 + r2) < 2147483648) ∧ K (r4 + r2) s5)))))) : c_m_cutsCode X x1 s K := by
  unfold c_m_cutsCode
  refine w_aload (p' := 1) rfl rfl rfl rfl ?_
  refine w_iload (p' := 2) rfl rfl rfl rfl ?_
  refine v_callI (M' := 80) (p' := 5) (rest := []) (as := [(.inr (.inr (.inl (some 113)))), (.inl x1)]) rfl rfl rfl rfl rfl rfl rfl rfl rfl rfl rfl rfl rfl h (fun r2 s1 h => ?_)
  refine w_istore (p' := 6) (ls' := [some (.inr (.inr (.inl (some 113)))), some (.inl x1), some (.inl r2), none, none]) rfl rfl rfl (Nat.le_of_ble_eq_true rfl) rfl ?_
  refine w_aload (p' := 7) rfl rfl rfl rfl ?_
  refine w_iload (p' := 8) rfl rfl rfl rfl ?_
  refine w_iload (p' := 9) rfl rfl rfl rfl ?_
  refine w_add (p' := 10) rfl rfl h.1 ?_
  have h := h.2
  refine w_iload (p' := 11) rfl rfl rfl rfl ?_
  refine v_callI (M' := 83) (p' := 14) (rest := []) (as := [(.inr (.inr (.inl (some 113)))), (.inl (x1 + r2)), (.inl r2)]) rfl rfl rfl rfl rfl rfl rfl rfl rfl rfl rfl rfl rfl h (fun r4 s3 h => ?_)
  refine w_istore (p' := 15) (ls' := [some (.inr (.inr (.inl (some 113)))), some (.inl x1), some (.inl r2), some (.inl r4), none]) rfl rfl rfl (Nat.le_of_ble_eq_true rfl) rfl ?_
  refine w_iload (p' := 16) rfl rfl rfl rfl ?_
  refine w_const (p' := 17) rfl rfl rfl ?_
  refine w_icmp (t := 33) (e := 20) rfl rfl rfl (fun e => ?_) (fun e => ?_)
  · have h := h.1 e
    refine w_const (p' := 34) rfl rfl rfl ?_
    refine w_istore (p' := 36) (ls' := [some (.inr (.inr (.inl (some 113)))), some (.inl x1), some (.inl r2), some (.inl r4), some (.inl 0)]) rfl rfl rfl (Nat.le_of_ble_eq_true rfl) rfl ?_
    exact w_cut (q_le_s (q_le_s (q_le_s (q_le_n (q_le_s q_le_z))))) h
  · have h := h.2 e
    refine w_aload (p' := 21) rfl rfl rfl rfl ?_
    refine w_const (p' := 22) rfl rfl rfl ?_
    refine w_iload (p' := 23) rfl rfl rfl rfl ?_
    refine w_iload (p' := 24) rfl rfl rfl rfl ?_
    refine w_add (p' := 25) rfl rfl h.1 ?_
    have h := h.2
    refine w_iload (p' := 26) rfl rfl rfl rfl ?_
    refine v_callV (M' := 81) (p' := 29) (rest := []) (as := [(.inr (.inr (.inl (some 113)))), (.inl 2), (.inl (x1 + r2)), (.inl r4)]) rfl rfl rfl rfl rfl rfl rfl rfl rfl rfl rfl rfl rfl h (fun s5 h => ?_)
    refine w_iload (p' := 30) rfl rfl rfl rfl ?_
    refine w_iload (p' := 31) rfl rfl rfl rfl ?_
    refine w_add (p' := 32) rfl rfl h.1 ?_
    have h := h.2
    exact w_iret rfl trivial ⟨rfl, _, rfl, h⟩
set_option maxRecDepth 20000 in
theorem sg_m_cutsCode_36 {X : Nat × (Nat → Int32)}  {v1 v2 v4 : Int} {s : qM} {K : Int → qM → Prop} (h : (((v2 ≤ v4) → (-2147483648 ≤ (v1 + v2) ∧ (v1 + v2) < 2147483648) ∧ K (v1 + v2) s) ∧ (¬ (v2 ≤ v4) → c_m_in X v1 s (fun r2 s1 => c_m_adds X 0 r2 0 s1 (fun s3 => (-2147483648 ≤ (v4 + 1) ∧ (v4 + 1) < 2147483648) ∧ L_m_cutsCode_36 X v1 v2 (v4 + 1) s3 K))))) : L_m_cutsCode_36 X v1 v2 v4 s K := by
  unfold L_m_cutsCode_36
  refine w_iload (p' := 38) rfl rfl rfl rfl ?_
  refine w_iload (p' := 39) rfl rfl rfl rfl ?_
  refine w_icmp (t := 59) (e := 42) rfl rfl rfl (fun e => ?_) (fun e => ?_)
  · have h := h.1 e
    refine w_iload (p' := 60) rfl rfl rfl rfl ?_
    refine w_iload (p' := 61) rfl rfl rfl rfl ?_
    refine w_add (p' := 62) rfl rfl h.1 ?_
    have h := h.2
    exact w_iret rfl trivial ⟨rfl, _, rfl, h⟩
  · have h := h.2 e
    refine w_aload (p' := 43) rfl rfl rfl rfl ?_
    refine w_const (p' := 44) rfl rfl rfl ?_
    refine w_aload (p' := 45) rfl rfl rfl rfl ?_
    refine w_iload (p' := 46) rfl rfl rfl rfl ?_
    refine v_callI (M' := 78) (p' := 49) (rest := [(.inl 0), (.inr (.inr (.inl (some 113))))]) (as := [(.inr (.inr (.inl (some 113)))), (.inl v1)]) rfl rfl rfl rfl rfl rfl rfl rfl rfl rfl rfl rfl rfl h (fun r2 s1 h => ?_)
    refine w_const (p' := 50) rfl rfl rfl ?_
    refine v_callV (M' := 81) (p' := 53) (rest := []) (as := [(.inr (.inr (.inl (some 113)))), (.inl 0), (.inl r2), (.inl 0)]) rfl rfl rfl rfl rfl rfl rfl rfl rfl rfl rfl rfl rfl h (fun s3 h => ?_)
    refine w_iinc (p' := 56) (ls' := [some (.inr (.inr (.inl (some 113)))), some (.inl v1), some (.inl v2), none, some (.inl (v4 + 1))]) rfl rfl rfl (Nat.le_of_ble_eq_true rfl) h.1 rfl ?_
    have h := h.2
    refine w_goto (p' := 36) rfl rfl ?_
    exact w_cut (q_le_s (q_le_s (q_le_s (q_le_n (q_le_s q_le_z))))) h
set_option maxRecDepth 20000 in
theorem sg_m_addsNode {X : Nat × (Nat → Int32)} {x1 : Int} {x2 : Int} {s : qM} {K : Int → qM → Prop} (h : ((0 : Int) ≤ (s 113 20)) ∧ ((s 113 20) < (900 : Int)) ∧ (∀ s1 : qM, s1 = q_up s 131 (s 113 20) x1 → ((0 : Int) ≤ (s1 113 20)) ∧ ((s1 113 20) < (900 : Int)) ∧ (∀ s2 : qM, s2 = q_up s1 132 (s1 113 20) (s1 113 54) → ((0 : Int) ≤ (s2 113 20)) ∧ ((s2 113 20) < (900 : Int)) ∧ (∀ s3 : qM, s3 = q_up s2 133 (s2 113 20) 0 → ((0 : Int) ≤ (s3 113 20)) ∧ ((s3 113 20) < (900 : Int)) ∧ (∀ s4 : qM, s4 = q_up s3 134 (s3 113 20) x2 → ((0 : Int) ≤ (s4 113 20)) ∧ ((s4 113 20) < (900 : Int)) ∧ (∀ s5 : qM, s5 = q_up s4 136 (s4 113 20) (-1) → ((0 : Int) ≤ (s5 113 20)) ∧ ((s5 113 20) < (900 : Int)) ∧ (∀ s6 : qM, s6 = q_up s5 153 (s5 113 20) (s5 113 51) → ((((s6 113 54) = (-1)) → (-2147483648 ≤ ((s6 113 20) + 1) ∧ ((s6 113 20) + 1) < 2147483648) ∧ (∀ s7 : qM, s7 = q_up s6 113 20 ((s6 113 20) + 1) → (-2147483648 ≤ ((s7 113 20) - 1) ∧ ((s7 113 20) - 1) < 2147483648) ∧ K ((s7 113 20) - 1) s7)) ∧ (¬ ((s6 113 54) = (-1)) → ((0 : Int) ≤ (s6 113 54)) ∧ ((s6 113 54) < (900 : Int)) ∧ (-2147483648 ≤ ((s6 133 (s6 113 54)) + 1) ∧ ((s6 133 (s6 113 54)) + 1) < 2147483648) ∧ ((0 : Int) ≤ (s6 113 54)) ∧ ((s6 113 54) < (900 : Int)) ∧ (∀ s8 : qM, s8 = q_up s6 133 (s6 113 54) ((s6 133 (s6 113 54)) + 1) → (-2147483648 ≤ ((s8 113 20) + 1) ∧ ((s8 113 20) + 1) < 2147483648) ∧ (∀ s9 : qM, s9 = q_up s8 113 20 ((s8 113 20) + 1) → (-2147483648 ≤ ((s9 113 20) - 1) ∧ ((s9 113 20) - 1) < 2147483648) ∧ K ((s9 113 20) - 1) s9))))))))))) : c_m_addsNode X x1 x2 s K := by
  unfold c_m_addsNode
  refine w_aload (p' := 1) rfl rfl rfl rfl ?_
  refine w_getR (p' := 4) rfl rfl rfl rfl rfl ?_
  refine w_aload (p' := 5) rfl rfl rfl rfl ?_
  refine w_getI (p' := 8) (j := 20) rfl rfl (by decide) rfl rfl ?_
  refine w_iload (p' := 9) rfl rfl rfl rfl ?_
  refine v_iast (p' := 10) (N := 900) rfl rfl rfl rfl h.1 h.2.1  ?_
  have h := h.2.2
  intro s1 es1
  have h := h s1 es1
  refine w_aload (p' := 11) rfl rfl rfl rfl ?_
  refine w_getR (p' := 14) rfl rfl rfl rfl rfl ?_
  refine w_aload (p' := 15) rfl rfl rfl rfl ?_
  refine w_getI (p' := 18) (j := 20) rfl rfl (by decide) rfl rfl ?_
  refine w_aload (p' := 19) rfl rfl rfl rfl ?_
  refine w_getI (p' := 22) (j := 54) rfl rfl (by decide) rfl rfl ?_
  refine v_iast (p' := 23) (N := 900) rfl rfl rfl rfl h.1 h.2.1  ?_
  have h := h.2.2
  intro s2 es2
  have h := h s2 es2
  refine w_aload (p' := 24) rfl rfl rfl rfl ?_
  refine w_getR (p' := 27) rfl rfl rfl rfl rfl ?_
  refine w_aload (p' := 28) rfl rfl rfl rfl ?_
  refine w_getI (p' := 31) (j := 20) rfl rfl (by decide) rfl rfl ?_
  refine w_const (p' := 32) rfl rfl rfl ?_
  refine v_iast (p' := 33) (N := 900) rfl rfl rfl rfl h.1 h.2.1  ?_
  have h := h.2.2
  intro s3 es3
  have h := h s3 es3
  refine w_aload (p' := 34) rfl rfl rfl rfl ?_
  refine w_getR (p' := 37) rfl rfl rfl rfl rfl ?_
  refine w_aload (p' := 38) rfl rfl rfl rfl ?_
  refine w_getI (p' := 41) (j := 20) rfl rfl (by decide) rfl rfl ?_
  refine w_iload (p' := 42) rfl rfl rfl rfl ?_
  refine v_iast (p' := 43) (N := 900) rfl rfl rfl rfl h.1 h.2.1  ?_
  have h := h.2.2
  intro s4 es4
  have h := h s4 es4
  refine w_aload (p' := 44) rfl rfl rfl rfl ?_
  refine w_getR (p' := 47) rfl rfl rfl rfl rfl ?_
  refine w_aload (p' := 48) rfl rfl rfl rfl ?_
  refine w_getI (p' := 51) (j := 20) rfl rfl (by decide) rfl rfl ?_
  refine w_const (p' := 52) rfl rfl rfl ?_
  refine v_iast (p' := 53) (N := 900) rfl rfl rfl rfl h.1 h.2.1  ?_
  have h := h.2.2
  intro s5 es5
  have h := h s5 es5
  refine w_aload (p' := 54) rfl rfl rfl rfl ?_
  refine w_getR (p' := 57) rfl rfl rfl rfl rfl ?_
  refine w_aload (p' := 58) rfl rfl rfl rfl ?_
  refine w_getI (p' := 61) (j := 20) rfl rfl (by decide) rfl rfl ?_
  refine w_aload (p' := 62) rfl rfl rfl rfl ?_
  refine w_getI (p' := 65) (j := 51) rfl rfl (by decide) rfl rfl ?_
  refine v_iast (p' := 66) (N := 900) rfl rfl rfl rfl h.1 h.2.1  ?_
  have h := h.2.2
  intro s6 es6
  have h := h s6 es6
  refine w_aload (p' := 67) rfl rfl rfl rfl ?_
  refine w_getI (p' := 70) (j := 54) rfl rfl (by decide) rfl rfl ?_
  refine w_const (p' := 71) rfl rfl rfl ?_
  refine w_icmp (t := 87) (e := 74) rfl rfl rfl (fun e => ?_) (fun e => ?_)
  · have h := h.1 e
    refine w_aload (p' := 88) rfl rfl rfl rfl ?_
    refine w_dup (p' := 89) rfl rfl rfl ?_
    refine w_getI (p' := 92) (j := 20) rfl rfl (by decide) rfl rfl ?_
    refine w_const (p' := 93) rfl rfl rfl ?_
    refine w_add (p' := 94) rfl rfl h.1 ?_
    have h := h.2
    refine v_putI (p' := 97) (j := 20) rfl rfl (by decide) rfl rfl trivial ?_
    intro s7 es7
    have h := h s7 es7
    refine w_aload (p' := 98) rfl rfl rfl rfl ?_
    refine w_getI (p' := 101) (j := 20) rfl rfl (by decide) rfl rfl ?_
    refine w_const (p' := 102) rfl rfl rfl ?_
    refine w_sub (p' := 103) rfl rfl h.1 ?_
    have h := h.2
    exact w_iret rfl trivial ⟨rfl, _, rfl, h⟩
  · have h := h.2 e
    refine w_aload (p' := 75) rfl rfl rfl rfl ?_
    refine w_getR (p' := 78) rfl rfl rfl rfl rfl ?_
    refine w_aload (p' := 79) rfl rfl rfl rfl ?_
    refine w_getI (p' := 82) (j := 54) rfl rfl (by decide) rfl rfl ?_
    refine w_dup2 (p' := 83) rfl rfl rfl rfl ?_
    refine w_iald (p' := 84) (N := 900) rfl rfl rfl rfl h.1 h.2.1 ?_
    have h := h.2.2
    refine w_const (p' := 85) rfl rfl rfl ?_
    refine w_add (p' := 86) rfl rfl h.1 ?_
    have h := h.2
    refine v_iast (p' := 87) (N := 900) rfl rfl rfl rfl h.1 h.2.1  ?_
    have h := h.2.2
    intro s8 es8
    have h := h s8 es8
    refine w_aload (p' := 88) rfl rfl rfl rfl ?_
    refine w_dup (p' := 89) rfl rfl rfl ?_
    refine w_getI (p' := 92) (j := 20) rfl rfl (by decide) rfl rfl ?_
    refine w_const (p' := 93) rfl rfl rfl ?_
    refine w_add (p' := 94) rfl rfl h.1 ?_
    have h := h.2
    refine v_putI (p' := 97) (j := 20) rfl rfl (by decide) rfl rfl trivial ?_
    intro s9 es9
    have h := h s9 es9
    refine w_aload (p' := 98) rfl rfl rfl rfl ?_
    refine w_getI (p' := 101) (j := 20) rfl rfl (by decide) rfl rfl ?_
    refine w_const (p' := 102) rfl rfl rfl ?_
    refine w_sub (p' := 103) rfl rfl h.1 ?_
    have h := h.2
    exact w_iret rfl trivial ⟨rfl, _, rfl, h⟩
set_option maxRecDepth 20000 in
theorem sg_m_addsCharacter {X : Nat × (Nat → Int32)} {x1 : Int} {s : qM} {K : qM → Prop} (h : (-2147483648 ≤ ((s 113 20) - 1) ∧ ((s 113 20) - 1) < 2147483648) ∧ ((0 : Int) ≤ ((s 113 20) - 1)) ∧ (((s 113 20) - 1) < (900 : Int)) ∧ ((((s 131 ((s 113 20) - 1)) ≠ 8) → L_m_addsCharacter_46 X x1 0 s K) ∧ (¬ ((s 131 ((s 113 20) - 1)) ≠ 8) → (-2147483648 ≤ ((s 113 20) - 1) ∧ ((s 113 20) - 1) < 2147483648) ∧ ((0 : Int) ≤ ((s 113 20) - 1)) ∧ (((s 113 20) - 1) < (900 : Int)) ∧ ((((s 132 ((s 113 20) - 1)) ≠ (s 113 54)) → L_m_addsCharacter_46 X x1 0 s K) ∧ (¬ ((s 132 ((s 113 20) - 1)) ≠ (s 113 54)) → ((((s 113 55) ≠ 0) → L_m_addsCharacter_46 X x1 0 s K) ∧ (¬ ((s 113 55) ≠ 0) → L_m_addsCharacter_46 X x1 1 s K))))))) : c_m_addsCharacter X x1 s K := by
  unfold c_m_addsCharacter
  refine w_aload (p' := 1) rfl rfl rfl rfl ?_
  refine w_getR (p' := 4) rfl rfl rfl rfl rfl ?_
  refine w_aload (p' := 5) rfl rfl rfl rfl ?_
  refine w_getI (p' := 8) (j := 20) rfl rfl (by decide) rfl rfl ?_
  refine w_const (p' := 9) rfl rfl rfl ?_
  refine w_sub (p' := 10) rfl rfl h.1 ?_
  have h := h.2
  refine w_iald (p' := 11) (N := 900) rfl rfl rfl rfl h.1 h.2.1 ?_
  have h := h.2.2
  refine w_const (p' := 13) rfl rfl rfl ?_
  refine w_icmp (t := 45) (e := 16) rfl rfl rfl (fun e => ?_) (fun e => ?_)
  · have h := h.1 e
    refine w_const (p' := 46) rfl rfl rfl ?_
    exact w_cut (q_le_s (q_le_s (q_le_n (q_le_n q_le_z)))) h
  · have h := h.2 e
    refine w_aload (p' := 17) rfl rfl rfl rfl ?_
    refine w_getR (p' := 20) rfl rfl rfl rfl rfl ?_
    refine w_aload (p' := 21) rfl rfl rfl rfl ?_
    refine w_getI (p' := 24) (j := 20) rfl rfl (by decide) rfl rfl ?_
    refine w_const (p' := 25) rfl rfl rfl ?_
    refine w_sub (p' := 26) rfl rfl h.1 ?_
    have h := h.2
    refine w_iald (p' := 27) (N := 900) rfl rfl rfl rfl h.1 h.2.1 ?_
    have h := h.2.2
    refine w_aload (p' := 28) rfl rfl rfl rfl ?_
    refine w_getI (p' := 31) (j := 54) rfl rfl (by decide) rfl rfl ?_
    refine w_icmp (t := 45) (e := 34) rfl rfl rfl (fun e => ?_) (fun e => ?_)
    · have h := h.1 e
      refine w_const (p' := 46) rfl rfl rfl ?_
      exact w_cut (q_le_s (q_le_s (q_le_n (q_le_n q_le_z)))) h
    · have h := h.2 e
      refine w_aload (p' := 35) rfl rfl rfl rfl ?_
      refine w_getI (p' := 38) (j := 55) rfl rfl (by decide) rfl rfl ?_
      refine w_if (t := 45) (e := 41) rfl rfl rfl (fun e => ?_) (fun e => ?_)
      · have h := h.1 e
        refine w_const (p' := 46) rfl rfl rfl ?_
        exact w_cut (q_le_s (q_le_s (q_le_n (q_le_n q_le_z)))) h
      · have h := h.2 e
        refine w_const (p' := 42) rfl rfl rfl ?_
        refine w_goto (p' := 46) rfl rfl ?_
        exact w_cut (q_le_s (q_le_s (q_le_n (q_le_n q_le_z)))) h
set_option maxRecDepth 20000 in
theorem sg_m_addsCharacter_46 {X : Nat × (Nat → Int32)}  {v1 t0 : Int} {s : qM} {K : qM → Prop} (h : (((t0 = 0) → c_m_addsNode X 8 0 s (fun r2 s1 => ((0 : Int) ≤ (s1 113 51)) ∧ ((s1 113 51) < (300 : Int)) ∧ (∀ s3 : qM, s3 = q_up s1 152 (s1 113 51) v1 → (-2147483648 ≤ ((s3 113 51) + 1) ∧ ((s3 113 51) + 1) < 2147483648) ∧ (∀ s4 : qM, s4 = q_up s3 113 51 ((s3 113 51) + 1) → ((0 : Int) ≤ r2) ∧ (r2 < (900 : Int)) ∧ (-2147483648 ≤ ((s4 134 r2) + 1) ∧ ((s4 134 r2) + 1) < 2147483648) ∧ ((0 : Int) ≤ r2) ∧ (r2 < (900 : Int)) ∧ (∀ s5 : qM, s5 = q_up s4 134 r2 ((s4 134 r2) + 1) → (∀ s6 : qM, s6 = q_up s5 113 55 0 → K s6)))))) ∧ (¬ (t0 = 0) → (-2147483648 ≤ ((s 113 20) - 1) ∧ ((s 113 20) - 1) < 2147483648) ∧ ((0 : Int) ≤ (s 113 51)) ∧ ((s 113 51) < (300 : Int)) ∧ (∀ s7 : qM, s7 = q_up s 152 (s 113 51) v1 → (-2147483648 ≤ ((s7 113 51) + 1) ∧ ((s7 113 51) + 1) < 2147483648) ∧ (∀ s8 : qM, s8 = q_up s7 113 51 ((s7 113 51) + 1) → ((0 : Int) ≤ ((s 113 20) - 1)) ∧ (((s 113 20) - 1) < (900 : Int)) ∧ (-2147483648 ≤ ((s8 134 ((s 113 20) - 1)) + 1) ∧ ((s8 134 ((s 113 20) - 1)) + 1) < 2147483648) ∧ ((0 : Int) ≤ ((s 113 20) - 1)) ∧ (((s 113 20) - 1) < (900 : Int)) ∧ (∀ s9 : qM, s9 = q_up s8 134 ((s 113 20) - 1) ((s8 134 ((s 113 20) - 1)) + 1) → (∀ s10 : qM, s10 = q_up s9 113 55 0 → K s10))))))) : L_m_addsCharacter_46 X v1 t0 s K := by
  unfold L_m_addsCharacter_46
  refine w_istore (p' := 47) (ls' := [some (.inr (.inr (.inl (some 113)))), some (.inl v1), some (.inl t0), none]) rfl rfl rfl (Nat.le_of_ble_eq_true rfl) rfl ?_
  refine w_iload (p' := 48) rfl rfl rfl rfl ?_
  refine w_if (t := 60) (e := 51) rfl rfl rfl (fun e => ?_) (fun e => ?_)
  · have h := h.1 e
    refine w_aload (p' := 61) rfl rfl rfl rfl ?_
    refine w_const (p' := 63) rfl rfl rfl ?_
    refine w_const (p' := 64) rfl rfl rfl ?_
    refine v_callI (M' := 94) (p' := 67) (rest := []) (as := [(.inr (.inr (.inl (some 113)))), (.inl 8), (.inl 0)]) rfl rfl rfl rfl rfl rfl rfl rfl rfl rfl rfl rfl rfl h (fun r2 s1 h => ?_)
    refine w_istore (p' := 68) (ls' := [some (.inr (.inr (.inl (some 113)))), some (.inl v1), some (.inl t0), some (.inl r2)]) rfl rfl rfl (Nat.le_of_ble_eq_true rfl) rfl ?_
    refine w_aload (p' := 69) rfl rfl rfl rfl ?_
    refine w_getR (p' := 72) rfl rfl rfl rfl rfl ?_
    refine w_aload (p' := 73) rfl rfl rfl rfl ?_
    refine w_getI (p' := 76) (j := 51) rfl rfl (by decide) rfl rfl ?_
    refine w_iload (p' := 77) rfl rfl rfl rfl ?_
    refine v_iast (p' := 78) (N := 300) rfl rfl rfl rfl h.1 h.2.1  ?_
    have h := h.2.2
    intro s3 es3
    have h := h s3 es3
    refine w_aload (p' := 79) rfl rfl rfl rfl ?_
    refine w_dup (p' := 80) rfl rfl rfl ?_
    refine w_getI (p' := 83) (j := 51) rfl rfl (by decide) rfl rfl ?_
    refine w_const (p' := 84) rfl rfl rfl ?_
    refine w_add (p' := 85) rfl rfl h.1 ?_
    have h := h.2
    refine v_putI (p' := 88) (j := 51) rfl rfl (by decide) rfl rfl trivial ?_
    intro s4 es4
    have h := h s4 es4
    refine w_aload (p' := 89) rfl rfl rfl rfl ?_
    refine w_getR (p' := 92) rfl rfl rfl rfl rfl ?_
    refine w_iload (p' := 93) rfl rfl rfl rfl ?_
    refine w_dup2 (p' := 94) rfl rfl rfl rfl ?_
    refine w_iald (p' := 95) (N := 900) rfl rfl rfl rfl h.1 h.2.1 ?_
    have h := h.2.2
    refine w_const (p' := 96) rfl rfl rfl ?_
    refine w_add (p' := 97) rfl rfl h.1 ?_
    have h := h.2
    refine v_iast (p' := 98) (N := 900) rfl rfl rfl rfl h.1 h.2.1  ?_
    have h := h.2.2
    intro s5 es5
    have h := h s5 es5
    refine w_aload (p' := 99) rfl rfl rfl rfl ?_
    refine w_const (p' := 100) rfl rfl rfl ?_
    refine v_putI (p' := 103) (j := 55) rfl rfl (by decide) rfl rfl ⟨by decide, by decide⟩ ?_
    intro s6 es6
    have h := h s6 es6
    exact w_vret rfl ⟨rfl, rfl, h⟩
  · have h := h.2 e
    refine w_aload (p' := 52) rfl rfl rfl rfl ?_
    refine w_getI (p' := 55) (j := 20) rfl rfl (by decide) rfl rfl ?_
    refine w_const (p' := 56) rfl rfl rfl ?_
    refine w_sub (p' := 57) rfl rfl h.1 ?_
    have h := h.2
    refine w_goto (p' := 67) rfl rfl ?_
    refine w_istore (p' := 68) (ls' := [some (.inr (.inr (.inl (some 113)))), some (.inl v1), some (.inl t0), some (.inl ((s 113 20) - 1))]) rfl rfl rfl (Nat.le_of_ble_eq_true rfl) rfl ?_
    refine w_aload (p' := 69) rfl rfl rfl rfl ?_
    refine w_getR (p' := 72) rfl rfl rfl rfl rfl ?_
    refine w_aload (p' := 73) rfl rfl rfl rfl ?_
    refine w_getI (p' := 76) (j := 51) rfl rfl (by decide) rfl rfl ?_
    refine w_iload (p' := 77) rfl rfl rfl rfl ?_
    refine v_iast (p' := 78) (N := 300) rfl rfl rfl rfl h.1 h.2.1  ?_
    have h := h.2.2
    intro s7 es7
    have h := h s7 es7
    refine w_aload (p' := 79) rfl rfl rfl rfl ?_
    refine w_dup (p' := 80) rfl rfl rfl ?_
    refine w_getI (p' := 83) (j := 51) rfl rfl (by decide) rfl rfl ?_
    refine w_const (p' := 84) rfl rfl rfl ?_
    refine w_add (p' := 85) rfl rfl h.1 ?_
    have h := h.2
    refine v_putI (p' := 88) (j := 51) rfl rfl (by decide) rfl rfl trivial ?_
    intro s8 es8
    have h := h s8 es8
    refine w_aload (p' := 89) rfl rfl rfl rfl ?_
    refine w_getR (p' := 92) rfl rfl rfl rfl rfl ?_
    refine w_iload (p' := 93) rfl rfl rfl rfl ?_
    refine w_dup2 (p' := 94) rfl rfl rfl rfl ?_
    refine w_iald (p' := 95) (N := 900) rfl rfl rfl rfl h.1 h.2.1 ?_
    have h := h.2.2
    refine w_const (p' := 96) rfl rfl rfl ?_
    refine w_add (p' := 97) rfl rfl h.1 ?_
    have h := h.2
    refine v_iast (p' := 98) (N := 900) rfl rfl rfl rfl h.1 h.2.1  ?_
    have h := h.2.2
    intro s9 es9
    have h := h s9 es9
    refine w_aload (p' := 99) rfl rfl rfl rfl ?_
    refine w_const (p' := 100) rfl rfl rfl ?_
    refine v_putI (p' := 103) (j := 55) rfl rfl (by decide) rfl rfl ⟨by decide, by decide⟩ ?_
    intro s10 es10
    have h := h s10 es10
    exact w_vret rfl ⟨rfl, rfl, h⟩
set_option maxRecDepth 20000 in
theorem sg_m_enters {X : Nat × (Nat → Int32)} {x1 : Int} {s : qM} {K : qM → Prop} (h : c_m_addsNode X x1 0 s (fun r2 s1 => (∀ s3 : qM, s3 = q_up s1 113 54 r2 → (∀ s4 : qM, s4 = q_up s3 113 55 0 → K s4)))) : c_m_enters X x1 s K := by
  unfold c_m_enters
  refine w_aload (p' := 1) rfl rfl rfl rfl ?_
  refine w_aload (p' := 2) rfl rfl rfl rfl ?_
  refine w_iload (p' := 3) rfl rfl rfl rfl ?_
  refine w_const (p' := 4) rfl rfl rfl ?_
  refine v_callI (M' := 94) (p' := 7) (rest := [(.inr (.inr (.inl (some 113))))]) (as := [(.inr (.inr (.inl (some 113)))), (.inl x1), (.inl 0)]) rfl rfl rfl rfl rfl rfl rfl rfl rfl rfl rfl rfl rfl h (fun r2 s1 h => ?_)
  refine v_putI (p' := 10) (j := 54) rfl rfl (by decide) rfl rfl trivial ?_
  intro s3 es3
  have h := h s3 es3
  refine w_aload (p' := 11) rfl rfl rfl rfl ?_
  refine w_const (p' := 12) rfl rfl rfl ?_
  refine v_putI (p' := 15) (j := 55) rfl rfl (by decide) rfl rfl ⟨by decide, by decide⟩ ?_
  intro s4 es4
  have h := h s4 es4
  exact w_vret rfl ⟨rfl, rfl, h⟩
set_option maxRecDepth 20000 in
theorem sg_m_leaves {X : Nat × (Nat → Int32)}  {s : qM} {K : qM → Prop} (h : ((0 : Int) ≤ (s 113 54)) ∧ ((s 113 54) < (900 : Int)) ∧ (∀ s1 : qM, s1 = q_up s 113 54 (s 132 (s 113 54)) → (∀ s2 : qM, s2 = q_up s1 113 55 1 → K s2))) : c_m_leaves X  s K := by
  unfold c_m_leaves
  refine w_aload (p' := 1) rfl rfl rfl rfl ?_
  refine w_aload (p' := 2) rfl rfl rfl rfl ?_
  refine w_getR (p' := 5) rfl rfl rfl rfl rfl ?_
  refine w_aload (p' := 6) rfl rfl rfl rfl ?_
  refine w_getI (p' := 9) (j := 54) rfl rfl (by decide) rfl rfl ?_
  refine w_iald (p' := 10) (N := 900) rfl rfl rfl rfl h.1 h.2.1 ?_
  have h := h.2.2
  refine v_putI (p' := 13) (j := 54) rfl rfl (by decide) rfl rfl trivial ?_
  intro s1 es1
  have h := h s1 es1
  refine w_aload (p' := 14) rfl rfl rfl rfl ?_
  refine w_const (p' := 15) rfl rfl rfl ?_
  refine v_putI (p' := 18) (j := 55) rfl rfl (by decide) rfl rfl ⟨by decide, by decide⟩ ?_
  intro s2 es2
  have h := h s2 es2
  exact w_vret rfl ⟨rfl, rfl, h⟩
set_option maxRecDepth 20000 in
theorem sg_m_treesInline {X : Nat × (Nat → Int32)} {x1 : Int} {s : qM} {K : qM → Prop} (h : c_m_cuts X x1 s (fun s1 => (∀ s2 : qM, s2 = q_up s1 113 55 0 → L_m_treesInline_12 X 0 s2 K))) : c_m_treesInline X x1 s K := by
  unfold c_m_treesInline
  refine w_aload (p' := 1) rfl rfl rfl rfl ?_
  refine w_iload (p' := 2) rfl rfl rfl rfl ?_
  refine v_callV (M' := 92) (p' := 5) (rest := []) (as := [(.inr (.inr (.inl (some 113)))), (.inl x1)]) rfl rfl rfl rfl rfl rfl rfl rfl rfl rfl rfl rfl rfl h (fun s1 h => ?_)
  refine w_aload (p' := 6) rfl rfl rfl rfl ?_
  refine w_const (p' := 7) rfl rfl rfl ?_
  refine v_putI (p' := 10) (j := 55) rfl rfl (by decide) rfl rfl ⟨by decide, by decide⟩ ?_
  intro s2 es2
  have h := h s2 es2
  refine w_const (p' := 11) rfl rfl rfl ?_
  refine w_istore (p' := 12) (ls' := [some (.inr (.inr (.inl (some 113)))), some (.inl x1), some (.inl 0), none, none]) rfl rfl rfl (Nat.le_of_ble_eq_true rfl) rfl ?_
  exact w_cut (q_le_s (q_le_n (q_le_s (q_le_n (q_le_n q_le_z))))) h
set_option maxRecDepth 20000 in
theorem sg_m_treesInline_12 {X : Nat × (Nat → Int32)}  {v2 : Int} {s : qM} {K : qM → Prop} (h : ((((s 113 33) ≤ v2) → K s) ∧ (¬ ((s 113 33) ≤ v2) → ((0 : Int) ≤ v2) ∧ (v2 < (241 : Int)) ∧ ((((s 141 v2) = 0) → ((((s 141 v2) ≠ 3) → ((0 : Int) ≤ v2) ∧ (v2 < (241 : Int)) ∧ c_m_addsCharacter X (s 142 v2) s (fun s1 => (-2147483648 ≤ (v2 + 1) ∧ (v2 + 1) < 2147483648) ∧ L_m_treesInline_12 X (v2 + 1) s1 K)) ∧ (¬ ((s 141 v2) ≠ 3) → c_m_addsCharacter X 91 s (fun s2 => (-2147483648 ≤ (v2 + 1) ∧ (v2 + 1) < 2147483648) ∧ L_m_treesInline_12 X (v2 + 1) s2 K)))) ∧ (¬ ((s 141 v2) = 0) → ((((s 141 v2) ≠ 3) → ((((s 141 v2) ≠ 1) → ((((s 141 v2) ≠ 2) → ((((s 141 v2) ≠ 4) → c_m_leaves X  s (fun s3 => (-2147483648 ≤ (v2 + 1) ∧ (v2 + 1) < 2147483648) ∧ L_m_treesInline_12 X (v2 + 1) s3 K)) ∧ (¬ ((s 141 v2) ≠ 4) → c_m_enters X 12 s (fun s4 => ((0 : Int) ≤ v2) ∧ (v2 < (241 : Int)) ∧ ((0 : Int) ≤ (s4 113 54)) ∧ ((s4 113 54) < (900 : Int)) ∧ (∀ s5 : qM, s5 = q_up s4 136 (s4 113 54) (s4 143 v2) → (-2147483648 ≤ (v2 + 1) ∧ (v2 + 1) < 2147483648) ∧ L_m_treesInline_12 X (v2 + 1) s5 K))))) ∧ (¬ ((s 141 v2) ≠ 2) → c_m_enters X 11 s (fun s6 => ((0 : Int) ≤ v2) ∧ (v2 < (241 : Int)) ∧ L_m_treesInline_91 X v2 (s6 142 v2) s6 K)))) ∧ (¬ ((s 141 v2) ≠ 1) → c_m_treesRun X v2 s (fun s7 => (-2147483648 ≤ (v2 + 1) ∧ (v2 + 1) < 2147483648) ∧ L_m_treesInline_12 X (v2 + 1) s7 K)))) ∧ (¬ ((s 141 v2) ≠ 3) → ((((s 141 v2) ≠ 3) → ((0 : Int) ≤ v2) ∧ (v2 < (241 : Int)) ∧ c_m_addsCharacter X (s 142 v2) s (fun s8 => (-2147483648 ≤ (v2 + 1) ∧ (v2 + 1) < 2147483648) ∧ L_m_treesInline_12 X (v2 + 1) s8 K)) ∧ (¬ ((s 141 v2) ≠ 3) → c_m_addsCharacter X 91 s (fun s9 => (-2147483648 ≤ (v2 + 1) ∧ (v2 + 1) < 2147483648) ∧ L_m_treesInline_12 X (v2 + 1) s9 K)))))))))) : L_m_treesInline_12 X v2 s K := by
  unfold L_m_treesInline_12
  refine w_iload (p' := 13) rfl rfl rfl rfl ?_
  refine w_aload (p' := 14) rfl rfl rfl rfl ?_
  refine w_getI (p' := 17) (j := 33) rfl rfl (by decide) rfl rfl ?_
  refine w_icmp (t := 192) (e := 20) rfl rfl rfl (fun e => ?_) (fun e => ?_)
  · have h := h.1 e
    exact w_vret rfl ⟨rfl, rfl, h⟩
  · have h := h.2 e
    refine w_aload (p' := 21) rfl rfl rfl rfl ?_
    refine w_getR (p' := 24) rfl rfl rfl rfl rfl ?_
    refine w_iload (p' := 25) rfl rfl rfl rfl ?_
    refine w_iald (p' := 26) (N := 241) rfl rfl rfl rfl h.1 h.2.1 ?_
    have h := h.2.2
    refine w_istore (p' := 27) (ls' := [some (.inr (.inr (.inl (some 113)))), none, some (.inl v2), some (.inl (s 141 v2)), none]) rfl rfl rfl (Nat.le_of_ble_eq_true rfl) rfl ?_
    refine w_iload (p' := 28) rfl rfl rfl rfl ?_
    refine w_if (t := 36) (e := 31) rfl rfl rfl (fun e => ?_) (fun e => ?_)
    · have h := h.1 e
      refine w_aload (p' := 37) rfl rfl rfl rfl ?_
      refine w_iload (p' := 38) rfl rfl rfl rfl ?_
      refine w_const (p' := 39) rfl rfl rfl ?_
      refine w_icmp (t := 47) (e := 42) rfl rfl rfl (fun e => ?_) (fun e => ?_)
      · have h := h.1 e
        refine w_aload (p' := 48) rfl rfl rfl rfl ?_
        refine w_getR (p' := 51) rfl rfl rfl rfl rfl ?_
        refine w_iload (p' := 52) rfl rfl rfl rfl ?_
        refine w_iald (p' := 53) (N := 241) rfl rfl rfl rfl h.1 h.2.1 ?_
        have h := h.2.2
        refine v_callV (M' := 95) (p' := 56) (rest := []) (as := [(.inr (.inr (.inl (some 113)))), (.inl (s 142 v2))]) rfl rfl rfl rfl rfl rfl rfl rfl rfl rfl rfl rfl rfl h (fun s1 h => ?_)
        refine w_goto (p' := 186) rfl rfl ?_
        refine w_iinc (p' := 189) (ls' := [some (.inr (.inr (.inl (some 113)))), none, some (.inl (v2 + 1)), some (.inl (s 141 v2)), none]) rfl rfl rfl (Nat.le_of_ble_eq_true rfl) h.1 rfl ?_
        have h := h.2
        refine w_goto (p' := 12) rfl rfl ?_
        exact w_cut (q_le_s (q_le_n (q_le_s (q_le_n (q_le_n q_le_z))))) h
      · have h := h.2 e
        refine w_const (p' := 44) rfl rfl rfl ?_
        refine w_goto (p' := 53) rfl rfl ?_
        refine v_callV (M' := 95) (p' := 56) (rest := []) (as := [(.inr (.inr (.inl (some 113)))), (.inl 91)]) rfl rfl rfl rfl rfl rfl rfl rfl rfl rfl rfl rfl rfl h (fun s2 h => ?_)
        refine w_goto (p' := 186) rfl rfl ?_
        refine w_iinc (p' := 189) (ls' := [some (.inr (.inr (.inl (some 113)))), none, some (.inl (v2 + 1)), some (.inl (s 141 v2)), none]) rfl rfl rfl (Nat.le_of_ble_eq_true rfl) h.1 rfl ?_
        have h := h.2
        refine w_goto (p' := 12) rfl rfl ?_
        exact w_cut (q_le_s (q_le_n (q_le_s (q_le_n (q_le_n q_le_z))))) h
    · have h := h.2 e
      refine w_iload (p' := 32) rfl rfl rfl rfl ?_
      refine w_const (p' := 33) rfl rfl rfl ?_
      refine w_icmp (t := 59) (e := 36) rfl rfl rfl (fun e => ?_) (fun e => ?_)
      · have h := h.1 e
        refine w_iload (p' := 60) rfl rfl rfl rfl ?_
        refine w_const (p' := 61) rfl rfl rfl ?_
        refine w_icmp (t := 72) (e := 64) rfl rfl rfl (fun e => ?_) (fun e => ?_)
        · have h := h.1 e
          refine w_iload (p' := 73) rfl rfl rfl rfl ?_
          refine w_const (p' := 74) rfl rfl rfl ?_
          refine w_icmp (t := 153) (e := 77) rfl rfl rfl (fun e => ?_) (fun e => ?_)
          · have h := h.1 e
            refine w_iload (p' := 154) rfl rfl rfl rfl ?_
            refine w_const (p' := 155) rfl rfl rfl ?_
            refine w_icmp (t := 182) (e := 158) rfl rfl rfl (fun e => ?_) (fun e => ?_)
            · have h := h.1 e
              refine w_aload (p' := 183) rfl rfl rfl rfl ?_
              refine v_callV (M' := 97) (p' := 186) (rest := []) (as := [(.inr (.inr (.inl (some 113))))]) rfl rfl rfl rfl rfl rfl rfl rfl rfl rfl rfl rfl rfl h (fun s3 h => ?_)
              refine w_iinc (p' := 189) (ls' := [some (.inr (.inr (.inl (some 113)))), none, some (.inl (v2 + 1)), some (.inl (s 141 v2)), none]) rfl rfl rfl (Nat.le_of_ble_eq_true rfl) h.1 rfl ?_
              have h := h.2
              refine w_goto (p' := 12) rfl rfl ?_
              exact w_cut (q_le_s (q_le_n (q_le_s (q_le_n (q_le_n q_le_z))))) h
            · have h := h.2 e
              refine w_aload (p' := 159) rfl rfl rfl rfl ?_
              refine w_const (p' := 161) rfl rfl rfl ?_
              refine v_callV (M' := 96) (p' := 164) (rest := []) (as := [(.inr (.inr (.inl (some 113)))), (.inl 12)]) rfl rfl rfl rfl rfl rfl rfl rfl rfl rfl rfl rfl rfl h (fun s4 h => ?_)
              refine w_aload (p' := 165) rfl rfl rfl rfl ?_
              refine w_getR (p' := 168) rfl rfl rfl rfl rfl ?_
              refine w_aload (p' := 169) rfl rfl rfl rfl ?_
              refine w_getI (p' := 172) (j := 54) rfl rfl (by decide) rfl rfl ?_
              refine w_aload (p' := 173) rfl rfl rfl rfl ?_
              refine w_getR (p' := 176) rfl rfl rfl rfl rfl ?_
              refine w_iload (p' := 177) rfl rfl rfl rfl ?_
              refine w_iald (p' := 178) (N := 241) rfl rfl rfl rfl h.1 h.2.1 ?_
              have h := h.2.2
              refine v_iast (p' := 179) (N := 900) rfl rfl rfl rfl h.1 h.2.1  ?_
              have h := h.2.2
              intro s5 es5
              have h := h s5 es5
              refine w_goto (p' := 186) rfl rfl ?_
              refine w_iinc (p' := 189) (ls' := [some (.inr (.inr (.inl (some 113)))), none, some (.inl (v2 + 1)), some (.inl (s 141 v2)), none]) rfl rfl rfl (Nat.le_of_ble_eq_true rfl) h.1 rfl ?_
              have h := h.2
              refine w_goto (p' := 12) rfl rfl ?_
              exact w_cut (q_le_s (q_le_n (q_le_s (q_le_n (q_le_n q_le_z))))) h
          · have h := h.2 e
            refine w_aload (p' := 78) rfl rfl rfl rfl ?_
            refine w_const (p' := 80) rfl rfl rfl ?_
            refine v_callV (M' := 96) (p' := 83) (rest := []) (as := [(.inr (.inr (.inl (some 113)))), (.inl 11)]) rfl rfl rfl rfl rfl rfl rfl rfl rfl rfl rfl rfl rfl h (fun s6 h => ?_)
            refine w_aload (p' := 84) rfl rfl rfl rfl ?_
            refine w_getR (p' := 87) rfl rfl rfl rfl rfl ?_
            refine w_iload (p' := 88) rfl rfl rfl rfl ?_
            refine w_iald (p' := 89) (N := 241) rfl rfl rfl rfl h.1 h.2.1 ?_
            have h := h.2.2
            refine w_istore (p' := 91) (ls' := [some (.inr (.inr (.inl (some 113)))), none, some (.inl v2), some (.inl (s 141 v2)), some (.inl (s6 142 v2))]) rfl rfl rfl (Nat.le_of_ble_eq_true rfl) rfl ?_
            exact w_cut (q_le_s (q_le_n (q_le_s (q_le_n (q_le_s q_le_z))))) h
        · have h := h.2 e
          refine w_aload (p' := 65) rfl rfl rfl rfl ?_
          refine w_iload (p' := 66) rfl rfl rfl rfl ?_
          refine v_callV (M' := 99) (p' := 69) (rest := []) (as := [(.inr (.inr (.inl (some 113)))), (.inl v2)]) rfl rfl rfl rfl rfl rfl rfl rfl rfl rfl rfl rfl rfl h (fun s7 h => ?_)
          refine w_goto (p' := 186) rfl rfl ?_
          refine w_iinc (p' := 189) (ls' := [some (.inr (.inr (.inl (some 113)))), none, some (.inl (v2 + 1)), some (.inl (s 141 v2)), none]) rfl rfl rfl (Nat.le_of_ble_eq_true rfl) h.1 rfl ?_
          have h := h.2
          refine w_goto (p' := 12) rfl rfl ?_
          exact w_cut (q_le_s (q_le_n (q_le_s (q_le_n (q_le_n q_le_z))))) h
      · have h := h.2 e
        refine w_aload (p' := 37) rfl rfl rfl rfl ?_
        refine w_iload (p' := 38) rfl rfl rfl rfl ?_
        refine w_const (p' := 39) rfl rfl rfl ?_
        refine w_icmp (t := 47) (e := 42) rfl rfl rfl (fun e => ?_) (fun e => ?_)
        · have h := h.1 e
          refine w_aload (p' := 48) rfl rfl rfl rfl ?_
          refine w_getR (p' := 51) rfl rfl rfl rfl rfl ?_
          refine w_iload (p' := 52) rfl rfl rfl rfl ?_
          refine w_iald (p' := 53) (N := 241) rfl rfl rfl rfl h.1 h.2.1 ?_
          have h := h.2.2
          refine v_callV (M' := 95) (p' := 56) (rest := []) (as := [(.inr (.inr (.inl (some 113)))), (.inl (s 142 v2))]) rfl rfl rfl rfl rfl rfl rfl rfl rfl rfl rfl rfl rfl h (fun s8 h => ?_)
          refine w_goto (p' := 186) rfl rfl ?_
          refine w_iinc (p' := 189) (ls' := [some (.inr (.inr (.inl (some 113)))), none, some (.inl (v2 + 1)), some (.inl (s 141 v2)), none]) rfl rfl rfl (Nat.le_of_ble_eq_true rfl) h.1 rfl ?_
          have h := h.2
          refine w_goto (p' := 12) rfl rfl ?_
          exact w_cut (q_le_s (q_le_n (q_le_s (q_le_n (q_le_n q_le_z))))) h
        · have h := h.2 e
          refine w_const (p' := 44) rfl rfl rfl ?_
          refine w_goto (p' := 53) rfl rfl ?_
          refine v_callV (M' := 95) (p' := 56) (rest := []) (as := [(.inr (.inr (.inl (some 113)))), (.inl 91)]) rfl rfl rfl rfl rfl rfl rfl rfl rfl rfl rfl rfl rfl h (fun s9 h => ?_)
          refine w_goto (p' := 186) rfl rfl ?_
          refine w_iinc (p' := 189) (ls' := [some (.inr (.inr (.inl (some 113)))), none, some (.inl (v2 + 1)), some (.inl (s 141 v2)), none]) rfl rfl rfl (Nat.le_of_ble_eq_true rfl) h.1 rfl ?_
          have h := h.2
          refine w_goto (p' := 12) rfl rfl ?_
          exact w_cut (q_le_s (q_le_n (q_le_s (q_le_n (q_le_n q_le_z))))) h
set_option maxRecDepth 20000 in
theorem sg_m_treesInline_91 {X : Nat × (Nat → Int32)}  {v2 v4 : Int} {s : qM} {K : qM → Prop} (h : ((0 : Int) ≤ v2) ∧ (v2 < (241 : Int)) ∧ ((((s 143 v2) ≤ v4) → c_m_leaves X  s (fun s1 => (-2147483648 ≤ (v2 + 1) ∧ (v2 + 1) < 2147483648) ∧ L_m_treesInline_12 X (v2 + 1) s1 K)) ∧ (¬ ((s 143 v2) ≤ v4) → c_m_in X v4 s (fun r3 s2 => ((0 : Int) ≤ (s 113 51)) ∧ ((s 113 51) < (300 : Int)) ∧ (∀ s4 : qM, s4 = q_up s2 152 (s 113 51) r3 → (-2147483648 ≤ ((s4 113 51) + 1) ∧ ((s4 113 51) + 1) < 2147483648) ∧ (∀ s5 : qM, s5 = q_up s4 113 51 ((s4 113 51) + 1) → ((0 : Int) ≤ (s5 113 54)) ∧ ((s5 113 54) < (900 : Int)) ∧ (-2147483648 ≤ ((s5 134 (s5 113 54)) + 1) ∧ ((s5 134 (s5 113 54)) + 1) < 2147483648) ∧ ((0 : Int) ≤ (s5 113 54)) ∧ ((s5 113 54) < (900 : Int)) ∧ (∀ s6 : qM, s6 = q_up s5 134 (s5 113 54) ((s5 134 (s5 113 54)) + 1) → (-2147483648 ≤ (v4 + 1) ∧ (v4 + 1) < 2147483648) ∧ L_m_treesInline_91 X v2 (v4 + 1) s6 K))))))) : L_m_treesInline_91 X v2 v4 s K := by
  unfold L_m_treesInline_91
  refine w_iload (p' := 93) rfl rfl rfl rfl ?_
  refine w_aload (p' := 94) rfl rfl rfl rfl ?_
  refine w_getR (p' := 97) rfl rfl rfl rfl rfl ?_
  refine w_iload (p' := 98) rfl rfl rfl rfl ?_
  refine w_iald (p' := 99) (N := 241) rfl rfl rfl rfl h.1 h.2.1 ?_
  have h := h.2.2
  refine w_icmp (t := 146) (e := 102) rfl rfl rfl (fun e => ?_) (fun e => ?_)
  · have h := h.1 e
    refine w_aload (p' := 147) rfl rfl rfl rfl ?_
    refine v_callV (M' := 97) (p' := 150) (rest := []) (as := [(.inr (.inr (.inl (some 113))))]) rfl rfl rfl rfl rfl rfl rfl rfl rfl rfl rfl rfl rfl h (fun s1 h => ?_)
    refine w_goto (p' := 186) rfl rfl ?_
    refine w_iinc (p' := 189) (ls' := [some (.inr (.inr (.inl (some 113)))), none, some (.inl (v2 + 1)), none, some (.inl v4)]) rfl rfl rfl (Nat.le_of_ble_eq_true rfl) h.1 rfl ?_
    have h := h.2
    refine w_goto (p' := 12) rfl rfl ?_
    exact w_cut (q_le_s (q_le_n (q_le_s (q_le_n (q_le_n q_le_z))))) h
  · have h := h.2 e
    refine w_aload (p' := 103) rfl rfl rfl rfl ?_
    refine w_getR (p' := 106) rfl rfl rfl rfl rfl ?_
    refine w_aload (p' := 107) rfl rfl rfl rfl ?_
    refine w_getI (p' := 110) (j := 51) rfl rfl (by decide) rfl rfl ?_
    refine w_aload (p' := 111) rfl rfl rfl rfl ?_
    refine w_iload (p' := 113) rfl rfl rfl rfl ?_
    refine v_callI (M' := 78) (p' := 116) (rest := [(.inl (s 113 51)), (.inr (.inr (.inl (some 152))))]) (as := [(.inr (.inr (.inl (some 113)))), (.inl v4)]) rfl rfl rfl rfl rfl rfl rfl rfl rfl rfl rfl rfl rfl h (fun r3 s2 h => ?_)
    refine v_iast (p' := 117) (N := 300) rfl rfl rfl rfl h.1 h.2.1  ?_
    have h := h.2.2
    intro s4 es4
    have h := h s4 es4
    refine w_aload (p' := 118) rfl rfl rfl rfl ?_
    refine w_dup (p' := 119) rfl rfl rfl ?_
    refine w_getI (p' := 122) (j := 51) rfl rfl (by decide) rfl rfl ?_
    refine w_const (p' := 123) rfl rfl rfl ?_
    refine w_add (p' := 124) rfl rfl h.1 ?_
    have h := h.2
    refine v_putI (p' := 127) (j := 51) rfl rfl (by decide) rfl rfl trivial ?_
    intro s5 es5
    have h := h s5 es5
    refine w_aload (p' := 128) rfl rfl rfl rfl ?_
    refine w_getR (p' := 131) rfl rfl rfl rfl rfl ?_
    refine w_aload (p' := 132) rfl rfl rfl rfl ?_
    refine w_getI (p' := 135) (j := 54) rfl rfl (by decide) rfl rfl ?_
    refine w_dup2 (p' := 136) rfl rfl rfl rfl ?_
    refine w_iald (p' := 137) (N := 900) rfl rfl rfl rfl h.1 h.2.1 ?_
    have h := h.2.2
    refine w_const (p' := 138) rfl rfl rfl ?_
    refine w_add (p' := 139) rfl rfl h.1 ?_
    have h := h.2
    refine v_iast (p' := 140) (N := 900) rfl rfl rfl rfl h.1 h.2.1  ?_
    have h := h.2.2
    intro s6 es6
    have h := h s6 es6
    refine w_iinc (p' := 143) (ls' := [some (.inr (.inr (.inl (some 113)))), none, some (.inl v2), none, some (.inl (v4 + 1))]) rfl rfl rfl (Nat.le_of_ble_eq_true rfl) h.1 rfl ?_
    have h := h.2
    refine w_goto (p' := 91) rfl rfl ?_
    exact w_cut (q_le_s (q_le_n (q_le_s (q_le_n (q_le_s q_le_z))))) h
set_option maxRecDepth 20000 in
theorem sg_m_treesRun {X : Nat × (Nat → Int32)} {x1 : Int} {s : qM} {K : qM → Prop} (h : L_m_treesRun_2 X x1 0 s K) : c_m_treesRun X x1 s K := by
  unfold c_m_treesRun
  refine w_const (p' := 1) rfl rfl rfl ?_
  refine w_istore (p' := 2) (ls' := [some (.inr (.inr (.inl (some 113)))), some (.inl x1), some (.inl 0)]) rfl rfl rfl (Nat.le_of_ble_eq_true rfl) rfl ?_
  exact w_cut (q_le_s (q_le_s (q_le_s q_le_z))) h
set_option maxRecDepth 20000 in
theorem sg_m_treesRun_2 {X : Nat × (Nat → Int32)}  {v1 v2 : Int} {s : qM} {K : qM → Prop} (h : ((((s 113 41) ≤ v2) → L_m_treesRun_32 X v1 0 s K) ∧ (¬ ((s 113 41) ≤ v2) → ((0 : Int) ≤ v2) ∧ (v2 < (241 : Int)) ∧ ((((s 149 v2) ≠ v1) → (-2147483648 ≤ (v2 + 1) ∧ (v2 + 1) < 2147483648) ∧ L_m_treesRun_2 X v1 (v2 + 1) s K) ∧ (¬ ((s 149 v2) ≠ v1) → c_m_leaves X  s (fun s1 => (-2147483648 ≤ (v2 + 1) ∧ (v2 + 1) < 2147483648) ∧ L_m_treesRun_2 X v1 (v2 + 1) s1 K)))))) : L_m_treesRun_2 X v1 v2 s K := by
  unfold L_m_treesRun_2
  refine w_iload (p' := 3) rfl rfl rfl rfl ?_
  refine w_aload (p' := 4) rfl rfl rfl rfl ?_
  refine w_getI (p' := 7) (j := 41) rfl rfl (by decide) rfl rfl ?_
  refine w_icmp (t := 30) (e := 10) rfl rfl rfl (fun e => ?_) (fun e => ?_)
  · have h := h.1 e
    refine w_const (p' := 31) rfl rfl rfl ?_
    refine w_istore (p' := 32) (ls' := [some (.inr (.inr (.inl (some 113)))), some (.inl v1), some (.inl 0)]) rfl rfl rfl (Nat.le_of_ble_eq_true rfl) rfl ?_
    exact w_cut (q_le_s (q_le_s (q_le_s q_le_z))) h
  · have h := h.2 e
    refine w_aload (p' := 11) rfl rfl rfl rfl ?_
    refine w_getR (p' := 14) rfl rfl rfl rfl rfl ?_
    refine w_iload (p' := 15) rfl rfl rfl rfl ?_
    refine w_iald (p' := 16) (N := 241) rfl rfl rfl rfl h.1 h.2.1 ?_
    have h := h.2.2
    refine w_iload (p' := 17) rfl rfl rfl rfl ?_
    refine w_icmp (t := 24) (e := 20) rfl rfl rfl (fun e => ?_) (fun e => ?_)
    · have h := h.1 e
      refine w_iinc (p' := 27) (ls' := [some (.inr (.inr (.inl (some 113)))), some (.inl v1), some (.inl (v2 + 1))]) rfl rfl rfl (Nat.le_of_ble_eq_true rfl) h.1 rfl ?_
      have h := h.2
      refine w_goto (p' := 2) rfl rfl ?_
      exact w_cut (q_le_s (q_le_s (q_le_s q_le_z))) h
    · have h := h.2 e
      refine w_aload (p' := 21) rfl rfl rfl rfl ?_
      refine v_callV (M' := 97) (p' := 24) (rest := []) (as := [(.inr (.inr (.inl (some 113))))]) rfl rfl rfl rfl rfl rfl rfl rfl rfl rfl rfl rfl rfl h (fun s1 h => ?_)
      refine w_iinc (p' := 27) (ls' := [some (.inr (.inr (.inl (some 113)))), some (.inl v1), some (.inl (v2 + 1))]) rfl rfl rfl (Nat.le_of_ble_eq_true rfl) h.1 rfl ?_
      have h := h.2
      refine w_goto (p' := 2) rfl rfl ?_
      exact w_cut (q_le_s (q_le_s (q_le_s q_le_z))) h
set_option maxRecDepth 20000 in
theorem sg_m_treesRun_32 {X : Nat × (Nat → Int32)}  {v1 v2 : Int} {s : qM} {K : qM → Prop} (h : ((0 : Int) ≤ v1) ∧ (v1 < (241 : Int)) ∧ ((((s 146 v1) ≤ v2) → (-2147483648 ≤ ((s 113 41) - 1) ∧ ((s 113 41) - 1) < 2147483648) ∧ L_m_treesRun_61 X v1 ((s 113 41) - 1) s K) ∧ (¬ ((s 146 v1) ≤ v2) → c_m_addsCharacter X 42 s (fun s1 => (-2147483648 ≤ (v2 + 1) ∧ (v2 + 1) < 2147483648) ∧ L_m_treesRun_32 X v1 (v2 + 1) s1 K)))) : L_m_treesRun_32 X v1 v2 s K := by
  unfold L_m_treesRun_32
  refine w_iload (p' := 33) rfl rfl rfl rfl ?_
  refine w_aload (p' := 34) rfl rfl rfl rfl ?_
  refine w_getR (p' := 37) rfl rfl rfl rfl rfl ?_
  refine w_iload (p' := 38) rfl rfl rfl rfl ?_
  refine w_iald (p' := 39) (N := 241) rfl rfl rfl rfl h.1 h.2.1 ?_
  have h := h.2.2
  refine w_icmp (t := 54) (e := 42) rfl rfl rfl (fun e => ?_) (fun e => ?_)
  · have h := h.1 e
    refine w_aload (p' := 55) rfl rfl rfl rfl ?_
    refine w_getI (p' := 58) (j := 41) rfl rfl (by decide) rfl rfl ?_
    refine w_const (p' := 59) rfl rfl rfl ?_
    refine w_sub (p' := 60) rfl rfl h.1 ?_
    have h := h.2
    refine w_istore (p' := 61) (ls' := [some (.inr (.inr (.inl (some 113)))), some (.inl v1), some (.inl ((s 113 41) - 1))]) rfl rfl rfl (Nat.le_of_ble_eq_true rfl) rfl ?_
    exact w_cut (q_le_s (q_le_s (q_le_s q_le_z))) h
  · have h := h.2 e
    refine w_aload (p' := 43) rfl rfl rfl rfl ?_
    refine w_const (p' := 45) rfl rfl rfl ?_
    refine v_callV (M' := 95) (p' := 48) (rest := []) (as := [(.inr (.inr (.inl (some 113)))), (.inl 42)]) rfl rfl rfl rfl rfl rfl rfl rfl rfl rfl rfl rfl rfl h (fun s1 h => ?_)
    refine w_iinc (p' := 51) (ls' := [some (.inr (.inr (.inl (some 113)))), some (.inl v1), some (.inl (v2 + 1))]) rfl rfl rfl (Nat.le_of_ble_eq_true rfl) h.1 rfl ?_
    have h := h.2
    refine w_goto (p' := 32) rfl rfl ?_
    exact w_cut (q_le_s (q_le_s (q_le_s q_le_z))) h
set_option maxRecDepth 20000 in
theorem sg_m_treesRun_61 {X : Nat × (Nat → Int32)}  {v1 v2 : Int} {s : qM} {K : qM → Prop} (h : (((v2 < 0) → K s) ∧ (¬ (v2 < 0) → ((0 : Int) ≤ v2) ∧ (v2 < (241 : Int)) ∧ ((((s 148 v2) ≠ v1) → (-2147483648 ≤ (v2 + (-1)) ∧ (v2 + (-1)) < 2147483648) ∧ L_m_treesRun_61 X v1 (v2 + (-1)) s K) ∧ (¬ ((s 148 v2) ≠ v1) → ((0 : Int) ≤ v2) ∧ (v2 < (241 : Int)) ∧ c_m_enters X (s 150 v2) s (fun s1 => (-2147483648 ≤ (v2 + (-1)) ∧ (v2 + (-1)) < 2147483648) ∧ L_m_treesRun_61 X v1 (v2 + (-1)) s1 K)))))) : L_m_treesRun_61 X v1 v2 s K := by
  unfold L_m_treesRun_61
  refine w_iload (p' := 62) rfl rfl rfl rfl ?_
  refine w_if (t := 91) (e := 65) rfl rfl rfl (fun e => ?_) (fun e => ?_)
  · have h := h.1 e
    exact w_vret rfl ⟨rfl, rfl, h⟩
  · have h := h.2 e
    refine w_aload (p' := 66) rfl rfl rfl rfl ?_
    refine w_getR (p' := 69) rfl rfl rfl rfl rfl ?_
    refine w_iload (p' := 70) rfl rfl rfl rfl ?_
    refine w_iald (p' := 71) (N := 241) rfl rfl rfl rfl h.1 h.2.1 ?_
    have h := h.2.2
    refine w_iload (p' := 72) rfl rfl rfl rfl ?_
    refine w_icmp (t := 85) (e := 75) rfl rfl rfl (fun e => ?_) (fun e => ?_)
    · have h := h.1 e
      refine w_iinc (p' := 88) (ls' := [some (.inr (.inr (.inl (some 113)))), some (.inl v1), some (.inl (v2 + (-1)))]) rfl rfl rfl (Nat.le_of_ble_eq_true rfl) h.1 rfl ?_
      have h := h.2
      refine w_goto (p' := 61) rfl rfl ?_
      exact w_cut (q_le_s (q_le_s (q_le_s q_le_z))) h
    · have h := h.2 e
      refine w_aload (p' := 76) rfl rfl rfl rfl ?_
      refine w_aload (p' := 77) rfl rfl rfl rfl ?_
      refine w_getR (p' := 80) rfl rfl rfl rfl rfl ?_
      refine w_iload (p' := 81) rfl rfl rfl rfl ?_
      refine w_iald (p' := 82) (N := 241) rfl rfl rfl rfl h.1 h.2.1 ?_
      have h := h.2.2
      refine v_callV (M' := 96) (p' := 85) (rest := []) (as := [(.inr (.inr (.inl (some 113)))), (.inl (s 150 v2))]) rfl rfl rfl rfl rfl rfl rfl rfl rfl rfl rfl rfl rfl h (fun s1 h => ?_)
      refine w_iinc (p' := 88) (ls' := [some (.inr (.inr (.inl (some 113)))), some (.inl v1), some (.inl (v2 + (-1)))]) rfl rfl rfl (Nat.le_of_ble_eq_true rfl) h.1 rfl ?_
      have h := h.2
      refine w_goto (p' := 61) rfl rfl ?_
      exact w_cut (q_le_s (q_le_s (q_le_s q_le_z))) h
set_option maxRecDepth 20000 in
theorem sg_m_trees {X : Nat × (Nat → Int32)}  {s : qM} {K : qM → Prop} (h : c_m_blocks X  s (fun s1 => (∀ s2 : qM, s2 = q_up s1 113 20 0 → (∀ s3 : qM, s3 = q_up s2 113 51 0 → L_m_trees_16 X 0 s3 K)))) : c_m_trees X  s K := by
  unfold c_m_trees
  refine w_aload (p' := 1) rfl rfl rfl rfl ?_
  refine v_callV (M' := 76) (p' := 4) (rest := []) (as := [(.inr (.inr (.inl (some 113))))]) rfl rfl rfl rfl rfl rfl rfl rfl rfl rfl rfl rfl rfl h (fun s1 h => ?_)
  refine w_aload (p' := 5) rfl rfl rfl rfl ?_
  refine w_const (p' := 6) rfl rfl rfl ?_
  refine v_putI (p' := 9) (j := 20) rfl rfl (by decide) rfl rfl trivial ?_
  intro s2 es2
  have h := h s2 es2
  refine w_aload (p' := 10) rfl rfl rfl rfl ?_
  refine w_const (p' := 11) rfl rfl rfl ?_
  refine v_putI (p' := 14) (j := 51) rfl rfl (by decide) rfl rfl trivial ?_
  intro s3 es3
  have h := h s3 es3
  refine w_const (p' := 15) rfl rfl rfl ?_
  refine w_istore (p' := 16) (ls' := [some (.inr (.inr (.inl (some 113)))), some (.inl 0), none]) rfl rfl rfl (Nat.le_of_ble_eq_true rfl) rfl ?_
  exact w_cut (q_le_s (q_le_s (q_le_n q_le_z))) h
set_option maxRecDepth 20000 in
theorem sg_m_trees_16 {X : Nat × (Nat → Int32)}  {v1 : Int} {s : qM} {K : qM → Prop} (h : ((((s 113 4) ≤ v1) → K s) ∧ (¬ ((s 113 4) ≤ v1) → ((0 : Int) ≤ v1) ∧ (v1 < (600 : Int)) ∧ ((((s 118 v1) ≠ (-1)) → ((0 : Int) ≤ v1) ∧ (v1 < (600 : Int)) ∧ ((0 : Int) ≤ (s 118 v1)) ∧ ((s 118 v1) < (600 : Int)) ∧ L_m_trees_50 X v1 (s 137 (s 118 v1)) s K) ∧ (¬ ((s 118 v1) ≠ (-1)) → L_m_trees_50 X v1 (-1) s K))))) : L_m_trees_16 X v1 s K := by
  unfold L_m_trees_16
  refine w_iload (p' := 17) rfl rfl rfl rfl ?_
  refine w_aload (p' := 18) rfl rfl rfl rfl ?_
  refine w_getI (p' := 21) (j := 4) rfl rfl (by decide) rfl rfl ?_
  refine w_icmp (t := 167) (e := 24) rfl rfl rfl (fun e => ?_) (fun e => ?_)
  · have h := h.1 e
    exact w_vret rfl ⟨rfl, rfl, h⟩
  · have h := h.2 e
    refine w_aload (p' := 25) rfl rfl rfl rfl ?_
    refine w_aload (p' := 26) rfl rfl rfl rfl ?_
    refine w_getR (p' := 29) rfl rfl rfl rfl rfl ?_
    refine w_iload (p' := 30) rfl rfl rfl rfl ?_
    refine w_iald (p' := 31) (N := 600) rfl rfl rfl rfl h.1 h.2.1 ?_
    have h := h.2.2
    refine w_const (p' := 32) rfl rfl rfl ?_
    refine w_icmp (t := 39) (e := 35) rfl rfl rfl (fun e => ?_) (fun e => ?_)
    · have h := h.1 e
      refine w_aload (p' := 40) rfl rfl rfl rfl ?_
      refine w_getR (p' := 43) rfl rfl rfl rfl rfl ?_
      refine w_aload (p' := 44) rfl rfl rfl rfl ?_
      refine w_getR (p' := 47) rfl rfl rfl rfl rfl ?_
      refine w_iload (p' := 48) rfl rfl rfl rfl ?_
      refine w_iald (p' := 49) (N := 600) rfl rfl rfl rfl h.1 h.2.1 ?_
      have h := h.2.2
      refine w_iald (p' := 50) (N := 600) rfl rfl rfl rfl h.1 h.2.1 ?_
      have h := h.2.2
      exact w_cut (q_le_s (q_le_s (q_le_n q_le_z))) h
    · have h := h.2 e
      refine w_const (p' := 36) rfl rfl rfl ?_
      refine w_goto (p' := 50) rfl rfl ?_
      exact w_cut (q_le_s (q_le_s (q_le_n q_le_z))) h
set_option maxRecDepth 20000 in
theorem sg_m_trees_50 {X : Nat × (Nat → Int32)}  {v1 t1 : Int} {s : qM} {K : qM → Prop} (h : (∀ s1 : qM, s1 = q_up s 113 54 t1 → ((0 : Int) ≤ v1) ∧ (v1 < (600 : Int)) ∧ ((((s1 117 v1) = 4) → ((0 : Int) ≤ v1) ∧ (v1 < (600 : Int)) ∧ L_m_trees_119 X v1 (s1 117 v1) v1 (s1 117 v1) (s1 120 v1) s1 K) ∧ (¬ ((s1 117 v1) = 4) → ((((s1 117 v1) ≠ 3) → ((((s1 117 v1) ≠ 5) → ((((s1 117 v1) ≠ 2) → L_m_trees_119 X v1 (s1 117 v1) v1 (s1 117 v1) 0 s1 K) ∧ (¬ ((s1 117 v1) ≠ 2) → ((0 : Int) ≤ v1) ∧ (v1 < (600 : Int)) ∧ ((((s1 121 v1) = 0) → L_m_trees_119 X v1 (s1 117 v1) v1 (s1 117 v1) 0 s1 K) ∧ (¬ ((s1 121 v1) = 0) → L_m_trees_119 X v1 (s1 117 v1) v1 (s1 117 v1) 1 s1 K))))) ∧ (¬ ((s1 117 v1) ≠ 5) → ((0 : Int) ≤ v1) ∧ (v1 < (600 : Int)) ∧ L_m_trees_119 X v1 (s1 117 v1) v1 (s1 117 v1) (s1 123 v1) s1 K))) ∧ (¬ ((s1 117 v1) ≠ 3) → ((0 : Int) ≤ v1) ∧ (v1 < (600 : Int)) ∧ L_m_trees_119 X v1 (s1 117 v1) v1 (s1 117 v1) (s1 120 v1) s1 K)))))) : L_m_trees_50 X v1 t1 s K := by
  unfold L_m_trees_50
  refine v_putI (p' := 53) (j := 54) rfl rfl (by decide) rfl rfl trivial ?_
  intro s1 es1
  have h := h s1 es1
  refine w_aload (p' := 54) rfl rfl rfl rfl ?_
  refine w_getR (p' := 57) rfl rfl rfl rfl rfl ?_
  refine w_iload (p' := 58) rfl rfl rfl rfl ?_
  refine w_iald (p' := 59) (N := 600) rfl rfl rfl rfl h.1 h.2.1 ?_
  have h := h.2.2
  refine w_istore (p' := 60) (ls' := [some (.inr (.inr (.inl (some 113)))), some (.inl v1), some (.inl (s1 117 v1))]) rfl rfl rfl (Nat.le_of_ble_eq_true rfl) rfl ?_
  refine w_aload (p' := 61) rfl rfl rfl rfl ?_
  refine w_getR (p' := 64) rfl rfl rfl rfl rfl ?_
  refine w_iload (p' := 65) rfl rfl rfl rfl ?_
  refine w_aload (p' := 66) rfl rfl rfl rfl ?_
  refine w_iload (p' := 67) rfl rfl rfl rfl ?_
  refine w_iload (p' := 68) rfl rfl rfl rfl ?_
  refine w_const (p' := 69) rfl rfl rfl ?_
  refine w_icmp (t := 77) (e := 72) rfl rfl rfl (fun e => ?_) (fun e => ?_)
  · have h := h.1 e
    refine w_aload (p' := 78) rfl rfl rfl rfl ?_
    refine w_getR (p' := 81) rfl rfl rfl rfl rfl ?_
    refine w_iload (p' := 82) rfl rfl rfl rfl ?_
    refine w_iald (p' := 83) (N := 600) rfl rfl rfl rfl h.1 h.2.1 ?_
    have h := h.2.2
    refine w_goto (p' := 119) rfl rfl ?_
    exact w_cut (q_le_s (q_le_s (q_le_s q_le_z))) h
  · have h := h.2 e
    refine w_iload (p' := 73) rfl rfl rfl rfl ?_
    refine w_const (p' := 74) rfl rfl rfl ?_
    refine w_icmp (t := 86) (e := 77) rfl rfl rfl (fun e => ?_) (fun e => ?_)
    · have h := h.1 e
      refine w_iload (p' := 87) rfl rfl rfl rfl ?_
      refine w_const (p' := 88) rfl rfl rfl ?_
      refine w_icmp (t := 100) (e := 91) rfl rfl rfl (fun e => ?_) (fun e => ?_)
      · have h := h.1 e
        refine w_iload (p' := 101) rfl rfl rfl rfl ?_
        refine w_const (p' := 102) rfl rfl rfl ?_
        refine w_icmp (t := 118) (e := 105) rfl rfl rfl (fun e => ?_) (fun e => ?_)
        · have h := h.1 e
          refine w_const (p' := 119) rfl rfl rfl ?_
          exact w_cut (q_le_s (q_le_s (q_le_s q_le_z))) h
        · have h := h.2 e
          refine w_aload (p' := 106) rfl rfl rfl rfl ?_
          refine w_getR (p' := 109) rfl rfl rfl rfl rfl ?_
          refine w_iload (p' := 110) rfl rfl rfl rfl ?_
          refine w_bald (p' := 111) (N := 600) rfl rfl rfl rfl h.1 h.2.1 ?_
          have h := h.2.2
          refine w_if (t := 118) (e := 114) rfl rfl rfl (fun e => ?_) (fun e => ?_)
          · have h := h.1 e
            refine w_const (p' := 119) rfl rfl rfl ?_
            exact w_cut (q_le_s (q_le_s (q_le_s q_le_z))) h
          · have h := h.2 e
            refine w_const (p' := 115) rfl rfl rfl ?_
            refine w_goto (p' := 119) rfl rfl ?_
            exact w_cut (q_le_s (q_le_s (q_le_s q_le_z))) h
      · have h := h.2 e
        refine w_aload (p' := 92) rfl rfl rfl rfl ?_
        refine w_getR (p' := 95) rfl rfl rfl rfl rfl ?_
        refine w_iload (p' := 96) rfl rfl rfl rfl ?_
        refine w_iald (p' := 97) (N := 600) rfl rfl rfl rfl h.1 h.2.1 ?_
        have h := h.2.2
        refine w_goto (p' := 119) rfl rfl ?_
        exact w_cut (q_le_s (q_le_s (q_le_s q_le_z))) h
    · have h := h.2 e
      refine w_aload (p' := 78) rfl rfl rfl rfl ?_
      refine w_getR (p' := 81) rfl rfl rfl rfl rfl ?_
      refine w_iload (p' := 82) rfl rfl rfl rfl ?_
      refine w_iald (p' := 83) (N := 600) rfl rfl rfl rfl h.1 h.2.1 ?_
      have h := h.2.2
      refine w_goto (p' := 119) rfl rfl ?_
      exact w_cut (q_le_s (q_le_s (q_le_s q_le_z))) h
set_option maxRecDepth 20000 in
theorem sg_m_trees_119 {X : Nat × (Nat → Int32)}  {v1 v2 t1 t3 t4 : Int} {s : qM} {K : qM → Prop} (h : c_m_addsNode X t3 t4 s (fun r2 s1 => ((0 : Int) ≤ t1) ∧ (t1 < (600 : Int)) ∧ (∀ s3 : qM, s3 = q_up s1 137 t1 r2 → (-2147483648 ≤ ((s3 113 20) - 1) ∧ ((s3 113 20) - 1) < 2147483648) ∧ ((0 : Int) ≤ ((s3 113 20) - 1)) ∧ (((s3 113 20) - 1) < (900 : Int)) ∧ (∀ s4 : qM, s4 = q_up s3 135 ((s3 113 20) - 1) v1 → (((v2 = 6) → (-2147483648 ≤ ((s4 113 20) - 1) ∧ ((s4 113 20) - 1) < 2147483648) ∧ (∀ s5 : qM, s5 = q_up s4 113 54 ((s4 113 20) - 1) → c_m_treesInline X v1 s5 (fun s6 => (-2147483648 ≤ (v1 + 1) ∧ (v1 + 1) < 2147483648) ∧ L_m_trees_16 X (v1 + 1) s6 K))) ∧ (¬ (v2 = 6) → (((v2 ≠ 4) → (-2147483648 ≤ (v1 + 1) ∧ (v1 + 1) < 2147483648) ∧ L_m_trees_16 X (v1 + 1) s4 K) ∧ (¬ (v2 ≠ 4) → (-2147483648 ≤ ((s4 113 20) - 1) ∧ ((s4 113 20) - 1) < 2147483648) ∧ (∀ s7 : qM, s7 = q_up s4 113 54 ((s4 113 20) - 1) → c_m_treesInline X v1 s7 (fun s8 => (-2147483648 ≤ (v1 + 1) ∧ (v1 + 1) < 2147483648) ∧ L_m_trees_16 X (v1 + 1) s8 K)))))))))) : L_m_trees_119 X v1 v2 t1 t3 t4 s K := by
  unfold L_m_trees_119
  refine v_callI (M' := 94) (p' := 122) (rest := [(.inl t1), (.inr (.inr (.inl (some 137))))]) (as := [(.inr (.inr (.inl (some 113)))), (.inl t3), (.inl t4)]) rfl rfl rfl rfl rfl rfl rfl rfl rfl rfl rfl rfl rfl h (fun r2 s1 h => ?_)
  refine v_iast (p' := 123) (N := 600) rfl rfl rfl rfl h.1 h.2.1  ?_
  have h := h.2.2
  intro s3 es3
  have h := h s3 es3
  refine w_aload (p' := 124) rfl rfl rfl rfl ?_
  refine w_getR (p' := 127) rfl rfl rfl rfl rfl ?_
  refine w_aload (p' := 128) rfl rfl rfl rfl ?_
  refine w_getI (p' := 131) (j := 20) rfl rfl (by decide) rfl rfl ?_
  refine w_const (p' := 132) rfl rfl rfl ?_
  refine w_sub (p' := 133) rfl rfl h.1 ?_
  have h := h.2
  refine w_iload (p' := 134) rfl rfl rfl rfl ?_
  refine v_iast (p' := 135) (N := 900) rfl rfl rfl rfl h.1 h.2.1  ?_
  have h := h.2.2
  intro s4 es4
  have h := h s4 es4
  refine w_iload (p' := 136) rfl rfl rfl rfl ?_
  refine w_const (p' := 138) rfl rfl rfl ?_
  refine w_icmp (t := 146) (e := 141) rfl rfl rfl (fun e => ?_) (fun e => ?_)
  · have h := h.1 e
    refine w_aload (p' := 147) rfl rfl rfl rfl ?_
    refine w_aload (p' := 148) rfl rfl rfl rfl ?_
    refine w_getI (p' := 151) (j := 20) rfl rfl (by decide) rfl rfl ?_
    refine w_const (p' := 152) rfl rfl rfl ?_
    refine w_sub (p' := 153) rfl rfl h.1 ?_
    have h := h.2
    refine v_putI (p' := 156) (j := 54) rfl rfl (by decide) rfl rfl trivial ?_
    intro s5 es5
    have h := h s5 es5
    refine w_aload (p' := 157) rfl rfl rfl rfl ?_
    refine w_iload (p' := 158) rfl rfl rfl rfl ?_
    refine v_callV (M' := 98) (p' := 161) (rest := []) (as := [(.inr (.inr (.inl (some 113)))), (.inl v1)]) rfl rfl rfl rfl rfl rfl rfl rfl rfl rfl rfl rfl rfl h (fun s6 h => ?_)
    refine w_iinc (p' := 164) (ls' := [some (.inr (.inr (.inl (some 113)))), some (.inl (v1 + 1)), some (.inl v2)]) rfl rfl rfl (Nat.le_of_ble_eq_true rfl) h.1 rfl ?_
    have h := h.2
    refine w_goto (p' := 16) rfl rfl ?_
    exact w_cut (q_le_s (q_le_s (q_le_n q_le_z))) h
  · have h := h.2 e
    refine w_iload (p' := 142) rfl rfl rfl rfl ?_
    refine w_const (p' := 143) rfl rfl rfl ?_
    refine w_icmp (t := 161) (e := 146) rfl rfl rfl (fun e => ?_) (fun e => ?_)
    · have h := h.1 e
      refine w_iinc (p' := 164) (ls' := [some (.inr (.inr (.inl (some 113)))), some (.inl (v1 + 1)), some (.inl v2)]) rfl rfl rfl (Nat.le_of_ble_eq_true rfl) h.1 rfl ?_
      have h := h.2
      refine w_goto (p' := 16) rfl rfl ?_
      exact w_cut (q_le_s (q_le_s (q_le_n q_le_z))) h
    · have h := h.2 e
      refine w_aload (p' := 147) rfl rfl rfl rfl ?_
      refine w_aload (p' := 148) rfl rfl rfl rfl ?_
      refine w_getI (p' := 151) (j := 20) rfl rfl (by decide) rfl rfl ?_
      refine w_const (p' := 152) rfl rfl rfl ?_
      refine w_sub (p' := 153) rfl rfl h.1 ?_
      have h := h.2
      refine v_putI (p' := 156) (j := 54) rfl rfl (by decide) rfl rfl trivial ?_
      intro s7 es7
      have h := h s7 es7
      refine w_aload (p' := 157) rfl rfl rfl rfl ?_
      refine w_iload (p' := 158) rfl rfl rfl rfl ?_
      refine v_callV (M' := 98) (p' := 161) (rest := []) (as := [(.inr (.inr (.inl (some 113)))), (.inl v1)]) rfl rfl rfl rfl rfl rfl rfl rfl rfl rfl rfl rfl rfl h (fun s8 h => ?_)
      refine w_iinc (p' := 164) (ls' := [some (.inr (.inr (.inl (some 113)))), some (.inl (v1 + 1)), some (.inl v2)]) rfl rfl rfl (Nat.le_of_ble_eq_true rfl) h.1 rfl ?_
      have h := h.2
      refine w_goto (p' := 16) rfl rfl ?_
      exact w_cut (q_le_s (q_le_s (q_le_n q_le_z))) h
set_option maxRecDepth 20000 in
theorem sg_m_nodes {X : Nat × (Nat → Int32)}  {s : qM} {K : Int → qM → Prop} (h : (∀ s1 : qM, s1 = q_up s 113 47 0 → c_m_trees X  s1 (fun s2 => K (s2 113 20) s2))) : c_m_nodes X  s K := by
  unfold c_m_nodes
  refine w_aload (p' := 1) rfl rfl rfl rfl ?_
  refine w_const (p' := 2) rfl rfl rfl ?_
  refine v_putI (p' := 5) (j := 47) rfl rfl (by decide) rfl rfl trivial ?_
  intro s1 es1
  have h := h s1 es1
  refine w_aload (p' := 6) rfl rfl rfl rfl ?_
  refine v_callV (M' := 100) (p' := 9) (rest := []) (as := [(.inr (.inr (.inl (some 113))))]) rfl rfl rfl rfl rfl rfl rfl rfl rfl rfl rfl rfl rfl h (fun s2 h => ?_)
  refine w_aload (p' := 10) rfl rfl rfl rfl ?_
  refine w_getI (p' := 13) (j := 20) rfl rfl (by decide) rfl rfl ?_
  exact w_iret rfl trivial ⟨rfl, _, rfl, h⟩
set_option maxRecDepth 20000 in
theorem sg_m_node {X : Nat × (Nat → Int32)} {x1 : Int} {x2 : Int} {s : qM} {K : Int → qM → Prop} (h : c_m_trees X  s (fun s1 => (-2147483648 ≤ ((s1 113 20) - 1) ∧ ((s1 113 20) - 1) < 2147483648) ∧ c_m_isIn X x1 0 ((s1 113 20) - 1) s1 (fun r3 s2 => (((r3 ≠ 0) → c_m_isIn X x2 0 3 s2 (fun r5 s4 => (((r5 = 0) → L_m_node_37 X x1 x2 2 s4 K) ∧ (¬ (r5 = 0) → L_m_node_37 X x1 x2 0 s4 K)))) ∧ (¬ (r3 ≠ 0) → L_m_node_37 X x1 x2 1 s2 K))))) : c_m_node X x1 x2 s K := by
  unfold c_m_node
  refine w_aload (p' := 1) rfl rfl rfl rfl ?_
  refine v_callV (M' := 100) (p' := 4) (rest := []) (as := [(.inr (.inr (.inl (some 113))))]) rfl rfl rfl rfl rfl rfl rfl rfl rfl rfl rfl rfl rfl h (fun s1 h => ?_)
  refine w_aload (p' := 5) rfl rfl rfl rfl ?_
  refine w_iload (p' := 6) rfl rfl rfl rfl ?_
  refine w_const (p' := 7) rfl rfl rfl ?_
  refine w_aload (p' := 8) rfl rfl rfl rfl ?_
  refine w_getI (p' := 11) (j := 20) rfl rfl (by decide) rfl rfl ?_
  refine w_const (p' := 12) rfl rfl rfl ?_
  refine w_sub (p' := 13) rfl rfl h.1 ?_
  have h := h.2
  refine v_callI (M' := 47) (p' := 16) (rest := [(.inr (.inr (.inl (some 113))))]) (as := [(.inl x1), (.inl 0), (.inl ((s1 113 20) - 1))]) rfl rfl rfl rfl rfl rfl rfl rfl rfl rfl rfl trivial rfl h (fun r3 s2 h => ?_)
  refine w_if (t := 23) (e := 19) rfl rfl rfl (fun e => ?_) (fun e => ?_)
  · have h := h.1 e
    refine w_iload (p' := 24) rfl rfl rfl rfl ?_
    refine w_const (p' := 25) rfl rfl rfl ?_
    refine w_const (p' := 26) rfl rfl rfl ?_
    refine v_callI (M' := 47) (p' := 29) (rest := [(.inr (.inr (.inl (some 113))))]) (as := [(.inl x2), (.inl 0), (.inl 3)]) rfl rfl rfl rfl rfl rfl rfl rfl rfl rfl rfl trivial rfl h (fun r5 s4 h => ?_)
    refine w_if (t := 36) (e := 32) rfl rfl rfl (fun e => ?_) (fun e => ?_)
    · have h := h.1 e
      refine w_const (p' := 37) rfl rfl rfl ?_
      exact w_cut (q_le_s (q_le_s (q_le_s q_le_z))) h
    · have h := h.2 e
      refine w_const (p' := 33) rfl rfl rfl ?_
      refine w_goto (p' := 37) rfl rfl ?_
      exact w_cut (q_le_s (q_le_s (q_le_s q_le_z))) h
  · have h := h.2 e
    refine w_const (p' := 20) rfl rfl rfl ?_
    refine w_goto (p' := 37) rfl rfl ?_
    exact w_cut (q_le_s (q_le_s (q_le_s q_le_z))) h
set_option maxRecDepth 20000 in
theorem sg_m_node_37 {X : Nat × (Nat → Int32)}  {v1 v2 t1 : Int} {s : qM} {K : Int → qM → Prop} (h : c_m_can X t1 s (fun r2 s1 => (((r2 ≠ 0) → (((v2 ≠ 0) → (((v2 ≠ 1) → (((v2 ≠ 2) → ((0 : Int) ≤ v1) ∧ (v1 < (900 : Int)) ∧ K (s1 134 v1) s1) ∧ (¬ (v2 ≠ 2) → ((0 : Int) ≤ v1) ∧ (v1 < (900 : Int)) ∧ K (s1 133 v1) s1))) ∧ (¬ (v2 ≠ 1) → ((0 : Int) ≤ v1) ∧ (v1 < (900 : Int)) ∧ K (s1 132 v1) s1))) ∧ (¬ (v2 ≠ 0) → ((0 : Int) ≤ v1) ∧ (v1 < (900 : Int)) ∧ K (s1 131 v1) s1))) ∧ (¬ (r2 ≠ 0) → K 0 s1)))) : L_m_node_37 X v1 v2 t1 s K := by
  unfold L_m_node_37
  refine v_callI (M' := 46) (p' := 40) (rest := []) (as := [(.inr (.inr (.inl (some 113)))), (.inl t1)]) rfl rfl rfl rfl rfl rfl rfl rfl rfl rfl rfl rfl rfl h (fun r2 s1 h => ?_)
  refine w_if (t := 45) (e := 43) rfl rfl rfl (fun e => ?_) (fun e => ?_)
  · have h := h.1 e
    refine w_iload (p' := 46) rfl rfl rfl rfl ?_
    refine w_if (t := 58) (e := 49) rfl rfl rfl (fun e => ?_) (fun e => ?_)
    · have h := h.1 e
      refine w_iload (p' := 59) rfl rfl rfl rfl ?_
      refine w_const (p' := 60) rfl rfl rfl ?_
      refine w_icmp (t := 72) (e := 63) rfl rfl rfl (fun e => ?_) (fun e => ?_)
      · have h := h.1 e
        refine w_iload (p' := 73) rfl rfl rfl rfl ?_
        refine w_const (p' := 74) rfl rfl rfl ?_
        refine w_icmp (t := 86) (e := 77) rfl rfl rfl (fun e => ?_) (fun e => ?_)
        · have h := h.1 e
          refine w_aload (p' := 87) rfl rfl rfl rfl ?_
          refine w_getR (p' := 90) rfl rfl rfl rfl rfl ?_
          refine w_iload (p' := 91) rfl rfl rfl rfl ?_
          refine w_iald (p' := 92) (N := 900) rfl rfl rfl rfl h.1 h.2.1 ?_
          have h := h.2.2
          exact w_iret rfl trivial ⟨rfl, _, rfl, h⟩
        · have h := h.2 e
          refine w_aload (p' := 78) rfl rfl rfl rfl ?_
          refine w_getR (p' := 81) rfl rfl rfl rfl rfl ?_
          refine w_iload (p' := 82) rfl rfl rfl rfl ?_
          refine w_iald (p' := 83) (N := 900) rfl rfl rfl rfl h.1 h.2.1 ?_
          have h := h.2.2
          refine w_goto (p' := 92) rfl rfl ?_
          exact w_iret rfl trivial ⟨rfl, _, rfl, h⟩
      · have h := h.2 e
        refine w_aload (p' := 64) rfl rfl rfl rfl ?_
        refine w_getR (p' := 67) rfl rfl rfl rfl rfl ?_
        refine w_iload (p' := 68) rfl rfl rfl rfl ?_
        refine w_iald (p' := 69) (N := 900) rfl rfl rfl rfl h.1 h.2.1 ?_
        have h := h.2.2
        refine w_goto (p' := 92) rfl rfl ?_
        exact w_iret rfl trivial ⟨rfl, _, rfl, h⟩
    · have h := h.2 e
      refine w_aload (p' := 50) rfl rfl rfl rfl ?_
      refine w_getR (p' := 53) rfl rfl rfl rfl rfl ?_
      refine w_iload (p' := 54) rfl rfl rfl rfl ?_
      refine w_iald (p' := 55) (N := 900) rfl rfl rfl rfl h.1 h.2.1 ?_
      have h := h.2.2
      refine w_goto (p' := 92) rfl rfl ?_
      exact w_iret rfl trivial ⟨rfl, _, rfl, h⟩
  · have h := h.2 e
    refine w_const (p' := 44) rfl rfl rfl ?_
    exact w_iret rfl trivial ⟨rfl, _, rfl, h⟩
set_option maxRecDepth 20000 in
theorem sg_m_child {X : Nat × (Nat → Int32)} {x1 : Int} {x2 : Int} {s : qM} {K : Int → qM → Prop} (h : c_m_trees X  s (fun s1 => (-2147483648 ≤ ((s1 113 20) - 1) ∧ ((s1 113 20) - 1) < 2147483648) ∧ c_m_isIn X x1 0 ((s1 113 20) - 1) s1 (fun r3 s2 => (((r3 = 0) → c_m_can X 1 s2 (fun r5 s4 => (((r5 ≠ 0) → L_m_child_53 X x1 x2 x1 (-1) s4 K) ∧ (¬ (r5 ≠ 0) → K 0 s4)))) ∧ (¬ (r3 = 0) → ((0 : Int) ≤ x1) ∧ (x1 < (900 : Int)) ∧ (-2147483648 ≤ ((s2 133 x1) - 1) ∧ ((s2 133 x1) - 1) < 2147483648) ∧ c_m_isIn X x2 0 ((s2 133 x1) - 1) s2 (fun r7 s6 => (((r7 = 0) → c_m_can X 1 s6 (fun r9 s8 => (((r9 ≠ 0) → L_m_child_53 X x1 x2 x1 (-1) s8 K) ∧ (¬ (r9 ≠ 0) → K 0 s8)))) ∧ (¬ (r7 = 0) → c_m_can X 0 s6 (fun r11 s10 => (((r11 ≠ 0) → L_m_child_53 X x1 x2 x1 (-1) s10 K) ∧ (¬ (r11 ≠ 0) → K 0 s10))))))))))) : c_m_child X x1 x2 s K := by
  unfold c_m_child
  refine w_aload (p' := 1) rfl rfl rfl rfl ?_
  refine v_callV (M' := 100) (p' := 4) (rest := []) (as := [(.inr (.inr (.inl (some 113))))]) rfl rfl rfl rfl rfl rfl rfl rfl rfl rfl rfl rfl rfl h (fun s1 h => ?_)
  refine w_aload (p' := 5) rfl rfl rfl rfl ?_
  refine w_iload (p' := 6) rfl rfl rfl rfl ?_
  refine w_const (p' := 7) rfl rfl rfl ?_
  refine w_aload (p' := 8) rfl rfl rfl rfl ?_
  refine w_getI (p' := 11) (j := 20) rfl rfl (by decide) rfl rfl ?_
  refine w_const (p' := 12) rfl rfl rfl ?_
  refine w_sub (p' := 13) rfl rfl h.1 ?_
  have h := h.2
  refine v_callI (M' := 47) (p' := 16) (rest := [(.inr (.inr (.inl (some 113))))]) (as := [(.inl x1), (.inl 0), (.inl ((s1 113 20) - 1))]) rfl rfl rfl rfl rfl rfl rfl rfl rfl rfl rfl trivial rfl h (fun r3 s2 h => ?_)
  refine w_if (t := 39) (e := 19) rfl rfl rfl (fun e => ?_) (fun e => ?_)
  · have h := h.1 e
    refine w_const (p' := 40) rfl rfl rfl ?_
    refine v_callI (M' := 46) (p' := 43) (rest := []) (as := [(.inr (.inr (.inl (some 113)))), (.inl 1)]) rfl rfl rfl rfl rfl rfl rfl rfl rfl rfl rfl rfl rfl h (fun r5 s4 h => ?_)
    refine w_if (t := 48) (e := 46) rfl rfl rfl (fun e => ?_) (fun e => ?_)
    · have h := h.1 e
      refine w_iload (p' := 49) rfl rfl rfl rfl ?_
      refine w_istore (p' := 50) (ls' := [some (.inr (.inr (.inl (some 113)))), some (.inl x1), some (.inl x2), some (.inl x1), none]) rfl rfl rfl (Nat.le_of_ble_eq_true rfl) rfl ?_
      refine w_const (p' := 51) rfl rfl rfl ?_
      refine w_istore (p' := 53) (ls' := [some (.inr (.inr (.inl (some 113)))), some (.inl x1), some (.inl x2), some (.inl x1), some (.inl (-1))]) rfl rfl rfl (Nat.le_of_ble_eq_true rfl) rfl ?_
      exact w_cut (q_le_s (q_le_s (q_le_s (q_le_s (q_le_s q_le_z))))) h
    · have h := h.2 e
      refine w_const (p' := 47) rfl rfl rfl ?_
      exact w_iret rfl trivial ⟨rfl, _, rfl, h⟩
  · have h := h.2 e
    refine w_iload (p' := 20) rfl rfl rfl rfl ?_
    refine w_const (p' := 21) rfl rfl rfl ?_
    refine w_aload (p' := 22) rfl rfl rfl rfl ?_
    refine w_getR (p' := 25) rfl rfl rfl rfl rfl ?_
    refine w_iload (p' := 26) rfl rfl rfl rfl ?_
    refine w_iald (p' := 27) (N := 900) rfl rfl rfl rfl h.1 h.2.1 ?_
    have h := h.2.2
    refine w_const (p' := 28) rfl rfl rfl ?_
    refine w_sub (p' := 29) rfl rfl h.1 ?_
    have h := h.2
    refine v_callI (M' := 47) (p' := 32) (rest := [(.inr (.inr (.inl (some 113))))]) (as := [(.inl x2), (.inl 0), (.inl ((s2 133 x1) - 1))]) rfl rfl rfl rfl rfl rfl rfl rfl rfl rfl rfl trivial rfl h (fun r7 s6 h => ?_)
    refine w_if (t := 39) (e := 35) rfl rfl rfl (fun e => ?_) (fun e => ?_)
    · have h := h.1 e
      refine w_const (p' := 40) rfl rfl rfl ?_
      refine v_callI (M' := 46) (p' := 43) (rest := []) (as := [(.inr (.inr (.inl (some 113)))), (.inl 1)]) rfl rfl rfl rfl rfl rfl rfl rfl rfl rfl rfl rfl rfl h (fun r9 s8 h => ?_)
      refine w_if (t := 48) (e := 46) rfl rfl rfl (fun e => ?_) (fun e => ?_)
      · have h := h.1 e
        refine w_iload (p' := 49) rfl rfl rfl rfl ?_
        refine w_istore (p' := 50) (ls' := [some (.inr (.inr (.inl (some 113)))), some (.inl x1), some (.inl x2), some (.inl x1), none]) rfl rfl rfl (Nat.le_of_ble_eq_true rfl) rfl ?_
        refine w_const (p' := 51) rfl rfl rfl ?_
        refine w_istore (p' := 53) (ls' := [some (.inr (.inr (.inl (some 113)))), some (.inl x1), some (.inl x2), some (.inl x1), some (.inl (-1))]) rfl rfl rfl (Nat.le_of_ble_eq_true rfl) rfl ?_
        exact w_cut (q_le_s (q_le_s (q_le_s (q_le_s (q_le_s q_le_z))))) h
      · have h := h.2 e
        refine w_const (p' := 47) rfl rfl rfl ?_
        exact w_iret rfl trivial ⟨rfl, _, rfl, h⟩
    · have h := h.2 e
      refine w_const (p' := 36) rfl rfl rfl ?_
      refine w_goto (p' := 40) rfl rfl ?_
      refine v_callI (M' := 46) (p' := 43) (rest := []) (as := [(.inr (.inr (.inl (some 113)))), (.inl 0)]) rfl rfl rfl rfl rfl rfl rfl rfl rfl rfl rfl rfl rfl h (fun r11 s10 h => ?_)
      refine w_if (t := 48) (e := 46) rfl rfl rfl (fun e => ?_) (fun e => ?_)
      · have h := h.1 e
        refine w_iload (p' := 49) rfl rfl rfl rfl ?_
        refine w_istore (p' := 50) (ls' := [some (.inr (.inr (.inl (some 113)))), some (.inl x1), some (.inl x2), some (.inl x1), none]) rfl rfl rfl (Nat.le_of_ble_eq_true rfl) rfl ?_
        refine w_const (p' := 51) rfl rfl rfl ?_
        refine w_istore (p' := 53) (ls' := [some (.inr (.inr (.inl (some 113)))), some (.inl x1), some (.inl x2), some (.inl x1), some (.inl (-1))]) rfl rfl rfl (Nat.le_of_ble_eq_true rfl) rfl ?_
        exact w_cut (q_le_s (q_le_s (q_le_s (q_le_s (q_le_s q_le_z))))) h
      · have h := h.2 e
        refine w_const (p' := 47) rfl rfl rfl ?_
        exact w_iret rfl trivial ⟨rfl, _, rfl, h⟩
set_option maxRecDepth 20000 in
theorem sg_m_child_53 {X : Nat × (Nat → Int32)}  {v1 v2 v3 v4 : Int} {s : qM} {K : Int → qM → Prop} (h : (((v2 ≤ v4) → K v3 s) ∧ (¬ (v2 ≤ v4) → (-2147483648 ≤ (v3 + 1) ∧ (v3 + 1) < 2147483648) ∧ L_m_child_62 X v1 v2 (v3 + 1) v4 s K))) : L_m_child_53 X v1 v2 v3 v4 s K := by
  unfold L_m_child_53
  refine w_iload (p' := 55) rfl rfl rfl rfl ?_
  refine w_iload (p' := 56) rfl rfl rfl rfl ?_
  refine w_icmp (t := 84) (e := 59) rfl rfl rfl (fun e => ?_) (fun e => ?_)
  · have h := h.1 e
    refine w_iload (p' := 85) rfl rfl rfl rfl ?_
    exact w_iret rfl trivial ⟨rfl, _, rfl, h⟩
  · have h := h.2 e
    refine w_iinc (p' := 62) (ls' := [some (.inr (.inr (.inl (some 113)))), some (.inl v1), some (.inl v2), some (.inl (v3 + 1)), some (.inl v4)]) rfl rfl rfl (Nat.le_of_ble_eq_true rfl) h.1 rfl ?_
    have h := h.2
    exact w_cut (q_le_s (q_le_s (q_le_s (q_le_s (q_le_s q_le_z))))) h
set_option maxRecDepth 20000 in
theorem sg_m_child_62 {X : Nat × (Nat → Int32)}  {v1 v2 v3 v4 : Int} {s : qM} {K : Int → qM → Prop} (h : ((0 : Int) ≤ v3) ∧ (v3 < (900 : Int)) ∧ ((((s 132 v3) = v1) → (-2147483648 ≤ (v4 + 1) ∧ (v4 + 1) < 2147483648) ∧ L_m_child_53 X v1 v2 v3 (v4 + 1) s K) ∧ (¬ ((s 132 v3) = v1) → (-2147483648 ≤ (v3 + 1) ∧ (v3 + 1) < 2147483648) ∧ L_m_child_62 X v1 v2 (v3 + 1) v4 s K))) : L_m_child_62 X v1 v2 v3 v4 s K := by
  unfold L_m_child_62
  refine w_aload (p' := 63) rfl rfl rfl rfl ?_
  refine w_getR (p' := 66) rfl rfl rfl rfl rfl ?_
  refine w_iload (p' := 67) rfl rfl rfl rfl ?_
  refine w_iald (p' := 68) (N := 900) rfl rfl rfl rfl h.1 h.2.1 ?_
  have h := h.2.2
  refine w_iload (p' := 69) rfl rfl rfl rfl ?_
  refine w_icmp (t := 78) (e := 72) rfl rfl rfl (fun e => ?_) (fun e => ?_)
  · have h := h.1 e
    refine w_iinc (p' := 81) (ls' := [some (.inr (.inr (.inl (some 113)))), some (.inl v1), some (.inl v2), some (.inl v3), some (.inl (v4 + 1))]) rfl rfl rfl (Nat.le_of_ble_eq_true rfl) h.1 rfl ?_
    have h := h.2
    refine w_goto (p' := 53) rfl rfl ?_
    exact w_cut (q_le_s (q_le_s (q_le_s (q_le_s (q_le_s q_le_z))))) h
  · have h := h.2 e
    refine w_iinc (p' := 75) (ls' := [some (.inr (.inr (.inl (some 113)))), some (.inl v1), some (.inl v2), some (.inl (v3 + 1)), some (.inl v4)]) rfl rfl rfl (Nat.le_of_ble_eq_true rfl) h.1 rfl ?_
    have h := h.2
    refine w_goto (p' := 62) rfl rfl ?_
    exact w_cut (q_le_s (q_le_s (q_le_s (q_le_s (q_le_s q_le_z))))) h
set_option maxRecDepth 20000 in
theorem sg_m_owner {X : Nat × (Nat → Int32)} {x1 : Int} {s : qM} {K : Int → qM → Prop} (h : (-2147483648 ≤ ((s 113 0) - 1) ∧ ((s 113 0) - 1) < 2147483648) ∧ c_m_isIn X x1 0 ((s 113 0) - 1) s (fun r2 s1 => (((r2 = 0) → c_m_can X 1 s1 (fun r4 s3 => (((r4 ≠ 0) → c_m_trees X  s3 (fun s5 => ((0 : Int) ≤ x1) ∧ (x1 < (240 : Int)) ∧ ((0 : Int) ≤ (s5 129 x1)) ∧ ((s5 129 x1) < (600 : Int)) ∧ K (s5 137 (s5 129 x1)) s5)) ∧ (¬ (r4 ≠ 0) → K 0 s3)))) ∧ (¬ (r2 = 0) → c_m_can X 0 s1 (fun r7 s6 => (((r7 ≠ 0) → c_m_trees X  s6 (fun s8 => ((0 : Int) ≤ x1) ∧ (x1 < (240 : Int)) ∧ ((0 : Int) ≤ (s8 129 x1)) ∧ ((s8 129 x1) < (600 : Int)) ∧ K (s8 137 (s8 129 x1)) s8)) ∧ (¬ (r7 ≠ 0) → K 0 s6))))))) : c_m_owner X x1 s K := by
  unfold c_m_owner
  refine w_aload (p' := 1) rfl rfl rfl rfl ?_
  refine w_iload (p' := 2) rfl rfl rfl rfl ?_
  refine w_const (p' := 3) rfl rfl rfl ?_
  refine w_aload (p' := 4) rfl rfl rfl rfl ?_
  refine w_getI (p' := 7) (j := 0) rfl rfl (by decide) rfl rfl ?_
  refine w_const (p' := 8) rfl rfl rfl ?_
  refine w_sub (p' := 9) rfl rfl h.1 ?_
  have h := h.2
  refine v_callI (M' := 47) (p' := 12) (rest := [(.inr (.inr (.inl (some 113))))]) (as := [(.inl x1), (.inl 0), (.inl ((s 113 0) - 1))]) rfl rfl rfl rfl rfl rfl rfl rfl rfl rfl rfl trivial rfl h (fun r2 s1 h => ?_)
  refine w_if (t := 19) (e := 15) rfl rfl rfl (fun e => ?_) (fun e => ?_)
  · have h := h.1 e
    refine w_const (p' := 20) rfl rfl rfl ?_
    refine v_callI (M' := 46) (p' := 23) (rest := []) (as := [(.inr (.inr (.inl (some 113)))), (.inl 1)]) rfl rfl rfl rfl rfl rfl rfl rfl rfl rfl rfl rfl rfl h (fun r4 s3 h => ?_)
    refine w_if (t := 28) (e := 26) rfl rfl rfl (fun e => ?_) (fun e => ?_)
    · have h := h.1 e
      refine w_aload (p' := 29) rfl rfl rfl rfl ?_
      refine v_callV (M' := 100) (p' := 32) (rest := []) (as := [(.inr (.inr (.inl (some 113))))]) rfl rfl rfl rfl rfl rfl rfl rfl rfl rfl rfl rfl rfl h (fun s5 h => ?_)
      refine w_aload (p' := 33) rfl rfl rfl rfl ?_
      refine w_getR (p' := 36) rfl rfl rfl rfl rfl ?_
      refine w_aload (p' := 37) rfl rfl rfl rfl ?_
      refine w_getR (p' := 40) rfl rfl rfl rfl rfl ?_
      refine w_iload (p' := 41) rfl rfl rfl rfl ?_
      refine w_iald (p' := 42) (N := 240) rfl rfl rfl rfl h.1 h.2.1 ?_
      have h := h.2.2
      refine w_iald (p' := 43) (N := 600) rfl rfl rfl rfl h.1 h.2.1 ?_
      have h := h.2.2
      exact w_iret rfl trivial ⟨rfl, _, rfl, h⟩
    · have h := h.2 e
      refine w_const (p' := 27) rfl rfl rfl ?_
      exact w_iret rfl trivial ⟨rfl, _, rfl, h⟩
  · have h := h.2 e
    refine w_const (p' := 16) rfl rfl rfl ?_
    refine w_goto (p' := 20) rfl rfl ?_
    refine v_callI (M' := 46) (p' := 23) (rest := []) (as := [(.inr (.inr (.inl (some 113)))), (.inl 0)]) rfl rfl rfl rfl rfl rfl rfl rfl rfl rfl rfl rfl rfl h (fun r7 s6 h => ?_)
    refine w_if (t := 28) (e := 26) rfl rfl rfl (fun e => ?_) (fun e => ?_)
    · have h := h.1 e
      refine w_aload (p' := 29) rfl rfl rfl rfl ?_
      refine v_callV (M' := 100) (p' := 32) (rest := []) (as := [(.inr (.inr (.inl (some 113))))]) rfl rfl rfl rfl rfl rfl rfl rfl rfl rfl rfl rfl rfl h (fun s8 h => ?_)
      refine w_aload (p' := 33) rfl rfl rfl rfl ?_
      refine w_getR (p' := 36) rfl rfl rfl rfl rfl ?_
      refine w_aload (p' := 37) rfl rfl rfl rfl ?_
      refine w_getR (p' := 40) rfl rfl rfl rfl rfl ?_
      refine w_iload (p' := 41) rfl rfl rfl rfl ?_
      refine w_iald (p' := 42) (N := 240) rfl rfl rfl rfl h.1 h.2.1 ?_
      have h := h.2.2
      refine w_iald (p' := 43) (N := 600) rfl rfl rfl rfl h.1 h.2.1 ?_
      have h := h.2.2
      exact w_iret rfl trivial ⟨rfl, _, rfl, h⟩
    · have h := h.2 e
      refine w_const (p' := 27) rfl rfl rfl ?_
      exact w_iret rfl trivial ⟨rfl, _, rfl, h⟩
set_option maxRecDepth 20000 in
theorem sg_m_leads {X : Nat × (Nat → Int32)} {x1 : Int} {s : qM} {K : Int → qM → Prop} (h : c_m_trees X  s (fun s1 => (-2147483648 ≤ ((s1 113 20) - 1) ∧ ((s1 113 20) - 1) < 2147483648) ∧ c_m_isIn X x1 0 ((s1 113 20) - 1) s1 (fun r3 s2 => (((r3 ≠ 0) → ((0 : Int) ≤ x1) ∧ (x1 < (900 : Int)) ∧ ((((s2 131 x1) ≠ 12) → c_m_can X 2 s2 (fun r5 s4 => (((r5 ≠ 0) → ((0 : Int) ≤ x1) ∧ (x1 < (900 : Int)) ∧ ((0 : Int) ≤ (s4 136 x1)) ∧ ((s4 136 x1) < (600 : Int)) ∧ K (s4 137 (s4 136 x1)) s4) ∧ (¬ (r5 ≠ 0) → K 0 s4)))) ∧ (¬ ((s2 131 x1) ≠ 12) → c_m_can X 0 s2 (fun r7 s6 => (((r7 ≠ 0) → ((0 : Int) ≤ x1) ∧ (x1 < (900 : Int)) ∧ ((0 : Int) ≤ (s6 136 x1)) ∧ ((s6 136 x1) < (600 : Int)) ∧ K (s6 137 (s6 136 x1)) s6) ∧ (¬ (r7 ≠ 0) → K 0 s6)))))) ∧ (¬ (r3 ≠ 0) → c_m_can X 1 s2 (fun r9 s8 => (((r9 ≠ 0) → ((0 : Int) ≤ x1) ∧ (x1 < (900 : Int)) ∧ ((0 : Int) ≤ (s8 136 x1)) ∧ ((s8 136 x1) < (600 : Int)) ∧ K (s8 137 (s8 136 x1)) s8) ∧ (¬ (r9 ≠ 0) → K 0 s8)))))))) : c_m_leads X x1 s K := by
  unfold c_m_leads
  refine w_aload (p' := 1) rfl rfl rfl rfl ?_
  refine v_callV (M' := 100) (p' := 4) (rest := []) (as := [(.inr (.inr (.inl (some 113))))]) rfl rfl rfl rfl rfl rfl rfl rfl rfl rfl rfl rfl rfl h (fun s1 h => ?_)
  refine w_aload (p' := 5) rfl rfl rfl rfl ?_
  refine w_iload (p' := 6) rfl rfl rfl rfl ?_
  refine w_const (p' := 7) rfl rfl rfl ?_
  refine w_aload (p' := 8) rfl rfl rfl rfl ?_
  refine w_getI (p' := 11) (j := 20) rfl rfl (by decide) rfl rfl ?_
  refine w_const (p' := 12) rfl rfl rfl ?_
  refine w_sub (p' := 13) rfl rfl h.1 ?_
  have h := h.2
  refine v_callI (M' := 47) (p' := 16) (rest := [(.inr (.inr (.inl (some 113))))]) (as := [(.inl x1), (.inl 0), (.inl ((s1 113 20) - 1))]) rfl rfl rfl rfl rfl rfl rfl rfl rfl rfl rfl trivial rfl h (fun r3 s2 h => ?_)
  refine w_if (t := 23) (e := 19) rfl rfl rfl (fun e => ?_) (fun e => ?_)
  · have h := h.1 e
    refine w_aload (p' := 24) rfl rfl rfl rfl ?_
    refine w_getR (p' := 27) rfl rfl rfl rfl rfl ?_
    refine w_iload (p' := 28) rfl rfl rfl rfl ?_
    refine w_iald (p' := 29) (N := 900) rfl rfl rfl rfl h.1 h.2.1 ?_
    have h := h.2.2
    refine w_const (p' := 31) rfl rfl rfl ?_
    refine w_icmp (t := 38) (e := 34) rfl rfl rfl (fun e => ?_) (fun e => ?_)
    · have h := h.1 e
      refine w_const (p' := 39) rfl rfl rfl ?_
      refine v_callI (M' := 46) (p' := 42) (rest := []) (as := [(.inr (.inr (.inl (some 113)))), (.inl 2)]) rfl rfl rfl rfl rfl rfl rfl rfl rfl rfl rfl rfl rfl h (fun r5 s4 h => ?_)
      refine w_if (t := 47) (e := 45) rfl rfl rfl (fun e => ?_) (fun e => ?_)
      · have h := h.1 e
        refine w_aload (p' := 48) rfl rfl rfl rfl ?_
        refine w_getR (p' := 51) rfl rfl rfl rfl rfl ?_
        refine w_aload (p' := 52) rfl rfl rfl rfl ?_
        refine w_getR (p' := 55) rfl rfl rfl rfl rfl ?_
        refine w_iload (p' := 56) rfl rfl rfl rfl ?_
        refine w_iald (p' := 57) (N := 900) rfl rfl rfl rfl h.1 h.2.1 ?_
        have h := h.2.2
        refine w_iald (p' := 58) (N := 600) rfl rfl rfl rfl h.1 h.2.1 ?_
        have h := h.2.2
        exact w_iret rfl trivial ⟨rfl, _, rfl, h⟩
      · have h := h.2 e
        refine w_const (p' := 46) rfl rfl rfl ?_
        exact w_iret rfl trivial ⟨rfl, _, rfl, h⟩
    · have h := h.2 e
      refine w_const (p' := 35) rfl rfl rfl ?_
      refine w_goto (p' := 39) rfl rfl ?_
      refine v_callI (M' := 46) (p' := 42) (rest := []) (as := [(.inr (.inr (.inl (some 113)))), (.inl 0)]) rfl rfl rfl rfl rfl rfl rfl rfl rfl rfl rfl rfl rfl h (fun r7 s6 h => ?_)
      refine w_if (t := 47) (e := 45) rfl rfl rfl (fun e => ?_) (fun e => ?_)
      · have h := h.1 e
        refine w_aload (p' := 48) rfl rfl rfl rfl ?_
        refine w_getR (p' := 51) rfl rfl rfl rfl rfl ?_
        refine w_aload (p' := 52) rfl rfl rfl rfl ?_
        refine w_getR (p' := 55) rfl rfl rfl rfl rfl ?_
        refine w_iload (p' := 56) rfl rfl rfl rfl ?_
        refine w_iald (p' := 57) (N := 900) rfl rfl rfl rfl h.1 h.2.1 ?_
        have h := h.2.2
        refine w_iald (p' := 58) (N := 600) rfl rfl rfl rfl h.1 h.2.1 ?_
        have h := h.2.2
        exact w_iret rfl trivial ⟨rfl, _, rfl, h⟩
      · have h := h.2 e
        refine w_const (p' := 46) rfl rfl rfl ?_
        exact w_iret rfl trivial ⟨rfl, _, rfl, h⟩
  · have h := h.2 e
    refine w_const (p' := 20) rfl rfl rfl ?_
    refine w_goto (p' := 39) rfl rfl ?_
    refine v_callI (M' := 46) (p' := 42) (rest := []) (as := [(.inr (.inr (.inl (some 113)))), (.inl 1)]) rfl rfl rfl rfl rfl rfl rfl rfl rfl rfl rfl rfl rfl h (fun r9 s8 h => ?_)
    refine w_if (t := 47) (e := 45) rfl rfl rfl (fun e => ?_) (fun e => ?_)
    · have h := h.1 e
      refine w_aload (p' := 48) rfl rfl rfl rfl ?_
      refine w_getR (p' := 51) rfl rfl rfl rfl rfl ?_
      refine w_aload (p' := 52) rfl rfl rfl rfl ?_
      refine w_getR (p' := 55) rfl rfl rfl rfl rfl ?_
      refine w_iload (p' := 56) rfl rfl rfl rfl ?_
      refine w_iald (p' := 57) (N := 900) rfl rfl rfl rfl h.1 h.2.1 ?_
      have h := h.2.2
      refine w_iald (p' := 58) (N := 600) rfl rfl rfl rfl h.1 h.2.1 ?_
      have h := h.2.2
      exact w_iret rfl trivial ⟨rfl, _, rfl, h⟩
    · have h := h.2 e
      refine w_const (p' := 46) rfl rfl rfl ?_
      exact w_iret rfl trivial ⟨rfl, _, rfl, h⟩
set_option maxRecDepth 20000 in
theorem sg_m_count {X : Nat × (Nat → Int32)} {x1 : Int} {s : qM} {K : Int → qM → Prop} (h : c_m_isIn X x1 0 12 s (fun r2 s1 => (((r2 = 0) → c_m_can X 1 s1 (fun r4 s3 => (((r4 ≠ 0) → c_m_trees X  s3 (fun s5 => L_m_count_32 X x1 0 0 s5 K)) ∧ (¬ (r4 ≠ 0) → K 0 s3)))) ∧ (¬ (r2 = 0) → c_m_can X 0 s1 (fun r7 s6 => (((r7 ≠ 0) → c_m_trees X  s6 (fun s8 => L_m_count_32 X x1 0 0 s8 K)) ∧ (¬ (r7 ≠ 0) → K 0 s6))))))) : c_m_count X x1 s K := by
  unfold c_m_count
  refine w_aload (p' := 1) rfl rfl rfl rfl ?_
  refine w_iload (p' := 2) rfl rfl rfl rfl ?_
  refine w_const (p' := 3) rfl rfl rfl ?_
  refine w_const (p' := 5) rfl rfl rfl ?_
  refine v_callI (M' := 47) (p' := 8) (rest := [(.inr (.inr (.inl (some 113))))]) (as := [(.inl x1), (.inl 0), (.inl 12)]) rfl rfl rfl rfl rfl rfl rfl rfl rfl rfl rfl trivial rfl h (fun r2 s1 h => ?_)
  refine w_if (t := 15) (e := 11) rfl rfl rfl (fun e => ?_) (fun e => ?_)
  · have h := h.1 e
    refine w_const (p' := 16) rfl rfl rfl ?_
    refine v_callI (M' := 46) (p' := 19) (rest := []) (as := [(.inr (.inr (.inl (some 113)))), (.inl 1)]) rfl rfl rfl rfl rfl rfl rfl rfl rfl rfl rfl rfl rfl h (fun r4 s3 h => ?_)
    refine w_if (t := 24) (e := 22) rfl rfl rfl (fun e => ?_) (fun e => ?_)
    · have h := h.1 e
      refine w_aload (p' := 25) rfl rfl rfl rfl ?_
      refine v_callV (M' := 100) (p' := 28) (rest := []) (as := [(.inr (.inr (.inl (some 113))))]) rfl rfl rfl rfl rfl rfl rfl rfl rfl rfl rfl rfl rfl h (fun s5 h => ?_)
      refine w_const (p' := 29) rfl rfl rfl ?_
      refine w_istore (p' := 30) (ls' := [some (.inr (.inr (.inl (some 113)))), some (.inl x1), some (.inl 0), none]) rfl rfl rfl (Nat.le_of_ble_eq_true rfl) rfl ?_
      refine w_const (p' := 31) rfl rfl rfl ?_
      refine w_istore (p' := 32) (ls' := [some (.inr (.inr (.inl (some 113)))), some (.inl x1), some (.inl 0), some (.inl 0)]) rfl rfl rfl (Nat.le_of_ble_eq_true rfl) rfl ?_
      exact w_cut (q_le_s (q_le_s (q_le_s (q_le_s q_le_z)))) h
    · have h := h.2 e
      refine w_const (p' := 23) rfl rfl rfl ?_
      exact w_iret rfl trivial ⟨rfl, _, rfl, h⟩
  · have h := h.2 e
    refine w_const (p' := 12) rfl rfl rfl ?_
    refine w_goto (p' := 16) rfl rfl ?_
    refine v_callI (M' := 46) (p' := 19) (rest := []) (as := [(.inr (.inr (.inl (some 113)))), (.inl 0)]) rfl rfl rfl rfl rfl rfl rfl rfl rfl rfl rfl rfl rfl h (fun r7 s6 h => ?_)
    refine w_if (t := 24) (e := 22) rfl rfl rfl (fun e => ?_) (fun e => ?_)
    · have h := h.1 e
      refine w_aload (p' := 25) rfl rfl rfl rfl ?_
      refine v_callV (M' := 100) (p' := 28) (rest := []) (as := [(.inr (.inr (.inl (some 113))))]) rfl rfl rfl rfl rfl rfl rfl rfl rfl rfl rfl rfl rfl h (fun s8 h => ?_)
      refine w_const (p' := 29) rfl rfl rfl ?_
      refine w_istore (p' := 30) (ls' := [some (.inr (.inr (.inl (some 113)))), some (.inl x1), some (.inl 0), none]) rfl rfl rfl (Nat.le_of_ble_eq_true rfl) rfl ?_
      refine w_const (p' := 31) rfl rfl rfl ?_
      refine w_istore (p' := 32) (ls' := [some (.inr (.inr (.inl (some 113)))), some (.inl x1), some (.inl 0), some (.inl 0)]) rfl rfl rfl (Nat.le_of_ble_eq_true rfl) rfl ?_
      exact w_cut (q_le_s (q_le_s (q_le_s (q_le_s q_le_z)))) h
    · have h := h.2 e
      refine w_const (p' := 23) rfl rfl rfl ?_
      exact w_iret rfl trivial ⟨rfl, _, rfl, h⟩
set_option maxRecDepth 20000 in
theorem sg_m_count_32 {X : Nat × (Nat → Int32)}  {v1 v2 v3 : Int} {s : qM} {K : Int → qM → Prop} (h : ((((s 113 20) ≤ v3) → K v2 s) ∧ (¬ ((s 113 20) ≤ v3) → ((0 : Int) ≤ v3) ∧ (v3 < (900 : Int)) ∧ ((((s 131 v3) ≠ v1) → (-2147483648 ≤ (v2 + 0) ∧ (v2 + 0) < 2147483648) ∧ (-2147483648 ≤ (v3 + 1) ∧ (v3 + 1) < 2147483648) ∧ L_m_count_32 X v1 (v2 + 0) (v3 + 1) s K) ∧ (¬ ((s 131 v3) ≠ v1) → (-2147483648 ≤ (v2 + 1) ∧ (v2 + 1) < 2147483648) ∧ (-2147483648 ≤ (v3 + 1) ∧ (v3 + 1) < 2147483648) ∧ L_m_count_32 X v1 (v2 + 1) (v3 + 1) s K))))) : L_m_count_32 X v1 v2 v3 s K := by
  unfold L_m_count_32
  refine w_iload (p' := 33) rfl rfl rfl rfl ?_
  refine w_aload (p' := 34) rfl rfl rfl rfl ?_
  refine w_getI (p' := 37) (j := 20) rfl rfl (by decide) rfl rfl ?_
  refine w_icmp (t := 64) (e := 40) rfl rfl rfl (fun e => ?_) (fun e => ?_)
  · have h := h.1 e
    refine w_iload (p' := 65) rfl rfl rfl rfl ?_
    exact w_iret rfl trivial ⟨rfl, _, rfl, h⟩
  · have h := h.2 e
    refine w_iload (p' := 41) rfl rfl rfl rfl ?_
    refine w_aload (p' := 42) rfl rfl rfl rfl ?_
    refine w_getR (p' := 45) rfl rfl rfl rfl rfl ?_
    refine w_iload (p' := 46) rfl rfl rfl rfl ?_
    refine w_iald (p' := 47) (N := 900) rfl rfl rfl rfl h.1 h.2.1 ?_
    have h := h.2.2
    refine w_iload (p' := 48) rfl rfl rfl rfl ?_
    refine w_icmp (t := 55) (e := 51) rfl rfl rfl (fun e => ?_) (fun e => ?_)
    · have h := h.1 e
      refine w_const (p' := 56) rfl rfl rfl ?_
      refine w_add (p' := 57) rfl rfl h.1 ?_
      have h := h.2
      refine w_istore (p' := 58) (ls' := [some (.inr (.inr (.inl (some 113)))), some (.inl v1), some (.inl (v2 + 0)), some (.inl v3)]) rfl rfl rfl (Nat.le_of_ble_eq_true rfl) rfl ?_
      refine w_iinc (p' := 61) (ls' := [some (.inr (.inr (.inl (some 113)))), some (.inl v1), some (.inl (v2 + 0)), some (.inl (v3 + 1))]) rfl rfl rfl (Nat.le_of_ble_eq_true rfl) h.1 rfl ?_
      have h := h.2
      refine w_goto (p' := 32) rfl rfl ?_
      exact w_cut (q_le_s (q_le_s (q_le_s (q_le_s q_le_z)))) h
    · have h := h.2 e
      refine w_const (p' := 52) rfl rfl rfl ?_
      refine w_goto (p' := 56) rfl rfl ?_
      refine w_add (p' := 57) rfl rfl h.1 ?_
      have h := h.2
      refine w_istore (p' := 58) (ls' := [some (.inr (.inr (.inl (some 113)))), some (.inl v1), some (.inl (v2 + 1)), some (.inl v3)]) rfl rfl rfl (Nat.le_of_ble_eq_true rfl) rfl ?_
      refine w_iinc (p' := 61) (ls' := [some (.inr (.inr (.inl (some 113)))), some (.inl v1), some (.inl (v2 + 1)), some (.inl (v3 + 1))]) rfl rfl rfl (Nat.le_of_ble_eq_true rfl) h.1 rfl ?_
      have h := h.2
      refine w_goto (p' := 32) rfl rfl ?_
      exact w_cut (q_le_s (q_le_s (q_le_s (q_le_s q_le_z)))) h
set_option maxRecDepth 20000 in
theorem sg_m_gives {X : Nat × (Nat → Int32)} {x1 : Int} {s : qM} {K : qM → Prop} (h : ((0 : Int) ≤ (s 113 45)) ∧ ((s 113 45) < (3000 : Int)) ∧ (∀ s1 : qM, s1 = q_up s 151 (s 113 45) x1 → (-2147483648 ≤ ((s1 113 45) + 1) ∧ ((s1 113 45) + 1) < 2147483648) ∧ (∀ s2 : qM, s2 = q_up s1 113 45 ((s1 113 45) + 1) → K s2))) : c_m_gives X x1 s K := by
  unfold c_m_gives
  refine w_aload (p' := 1) rfl rfl rfl rfl ?_
  refine w_getR (p' := 4) rfl rfl rfl rfl rfl ?_
  refine w_aload (p' := 5) rfl rfl rfl rfl ?_
  refine w_getI (p' := 8) (j := 45) rfl rfl (by decide) rfl rfl ?_
  refine w_iload (p' := 9) rfl rfl rfl rfl ?_
  refine v_iast (p' := 10) (N := 3000) rfl rfl rfl rfl h.1 h.2.1  ?_
  have h := h.2.2
  intro s1 es1
  have h := h s1 es1
  refine w_aload (p' := 11) rfl rfl rfl rfl ?_
  refine w_dup (p' := 12) rfl rfl rfl ?_
  refine w_getI (p' := 15) (j := 45) rfl rfl (by decide) rfl rfl ?_
  refine w_const (p' := 16) rfl rfl rfl ?_
  refine w_add (p' := 17) rfl rfl h.1 ?_
  have h := h.2
  refine v_putI (p' := 20) (j := 45) rfl rfl (by decide) rfl rfl trivial ?_
  intro s2 es2
  have h := h s2 es2
  exact w_vret rfl ⟨rfl, rfl, h⟩
set_option maxRecDepth 20000 in
theorem sg_m_ahead {X : Nat × (Nat → Int32)} {x1 : Int} {s : qM} {K : Int → qM → Prop} (h : L_m_ahead_4 X x1 0 0 s K) : c_m_ahead X x1 s K := by
  unfold c_m_ahead
  refine w_const (p' := 1) rfl rfl rfl ?_
  refine w_istore (p' := 2) (ls' := [some (.inr (.inr (.inl (some 113)))), some (.inl x1), some (.inl 0), none]) rfl rfl rfl (Nat.le_of_ble_eq_true rfl) rfl ?_
  refine w_const (p' := 3) rfl rfl rfl ?_
  refine w_istore (p' := 4) (ls' := [some (.inr (.inr (.inl (some 113)))), some (.inl x1), some (.inl 0), some (.inl 0)]) rfl rfl rfl (Nat.le_of_ble_eq_true rfl) rfl ?_
  exact w_cut (q_le_s (q_le_s (q_le_s (q_le_s q_le_z)))) h
set_option maxRecDepth 20000 in
theorem sg_m_ahead_4 {X : Nat × (Nat → Int32)}  {v1 v2 v3 : Int} {s : qM} {K : Int → qM → Prop} (h : (((v1 ≤ v3) → K v2 s) ∧ (¬ (v1 ≤ v3) → ((0 : Int) ≤ v3) ∧ (v3 < (600 : Int)) ∧ ((0 : Int) ≤ v1) ∧ (v1 < (600 : Int)) ∧ ((((s 117 v3) ≠ (s 117 v1)) → (-2147483648 ≤ (v2 + 0) ∧ (v2 + 0) < 2147483648) ∧ (-2147483648 ≤ (v3 + 1) ∧ (v3 + 1) < 2147483648) ∧ L_m_ahead_4 X v1 (v2 + 0) (v3 + 1) s K) ∧ (¬ ((s 117 v3) ≠ (s 117 v1)) → (-2147483648 ≤ (v2 + 1) ∧ (v2 + 1) < 2147483648) ∧ (-2147483648 ≤ (v3 + 1) ∧ (v3 + 1) < 2147483648) ∧ L_m_ahead_4 X v1 (v2 + 1) (v3 + 1) s K))))) : L_m_ahead_4 X v1 v2 v3 s K := by
  unfold L_m_ahead_4
  refine w_iload (p' := 5) rfl rfl rfl rfl ?_
  refine w_iload (p' := 6) rfl rfl rfl rfl ?_
  refine w_icmp (t := 38) (e := 9) rfl rfl rfl (fun e => ?_) (fun e => ?_)
  · have h := h.1 e
    refine w_iload (p' := 39) rfl rfl rfl rfl ?_
    exact w_iret rfl trivial ⟨rfl, _, rfl, h⟩
  · have h := h.2 e
    refine w_iload (p' := 10) rfl rfl rfl rfl ?_
    refine w_aload (p' := 11) rfl rfl rfl rfl ?_
    refine w_getR (p' := 14) rfl rfl rfl rfl rfl ?_
    refine w_iload (p' := 15) rfl rfl rfl rfl ?_
    refine w_iald (p' := 16) (N := 600) rfl rfl rfl rfl h.1 h.2.1 ?_
    have h := h.2.2
    refine w_aload (p' := 17) rfl rfl rfl rfl ?_
    refine w_getR (p' := 20) rfl rfl rfl rfl rfl ?_
    refine w_iload (p' := 21) rfl rfl rfl rfl ?_
    refine w_iald (p' := 22) (N := 600) rfl rfl rfl rfl h.1 h.2.1 ?_
    have h := h.2.2
    refine w_icmp (t := 29) (e := 25) rfl rfl rfl (fun e => ?_) (fun e => ?_)
    · have h := h.1 e
      refine w_const (p' := 30) rfl rfl rfl ?_
      refine w_add (p' := 31) rfl rfl h.1 ?_
      have h := h.2
      refine w_istore (p' := 32) (ls' := [some (.inr (.inr (.inl (some 113)))), some (.inl v1), some (.inl (v2 + 0)), some (.inl v3)]) rfl rfl rfl (Nat.le_of_ble_eq_true rfl) rfl ?_
      refine w_iinc (p' := 35) (ls' := [some (.inr (.inr (.inl (some 113)))), some (.inl v1), some (.inl (v2 + 0)), some (.inl (v3 + 1))]) rfl rfl rfl (Nat.le_of_ble_eq_true rfl) h.1 rfl ?_
      have h := h.2
      refine w_goto (p' := 4) rfl rfl ?_
      exact w_cut (q_le_s (q_le_s (q_le_s (q_le_s q_le_z)))) h
    · have h := h.2 e
      refine w_const (p' := 26) rfl rfl rfl ?_
      refine w_goto (p' := 30) rfl rfl ?_
      refine w_add (p' := 31) rfl rfl h.1 ?_
      have h := h.2
      refine w_istore (p' := 32) (ls' := [some (.inr (.inr (.inl (some 113)))), some (.inl v1), some (.inl (v2 + 1)), some (.inl v3)]) rfl rfl rfl (Nat.le_of_ble_eq_true rfl) rfl ?_
      refine w_iinc (p' := 35) (ls' := [some (.inr (.inr (.inl (some 113)))), some (.inl v1), some (.inl (v2 + 1)), some (.inl (v3 + 1))]) rfl rfl rfl (Nat.le_of_ble_eq_true rfl) h.1 rfl ?_
      have h := h.2
      refine w_goto (p' := 4) rfl rfl ?_
      exact w_cut (q_le_s (q_le_s (q_le_s (q_le_s q_le_z)))) h
