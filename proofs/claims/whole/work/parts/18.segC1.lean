/-! Segments, by program (wip/tools/seg.py). -/
set_option maxRecDepth 20000 in
theorem sg_Rd_putContainersIn {X : Nat × (Nat → Int32)}  {s : qM} {K : qM → Prop} (h : L_Rd_putContainersIn_2 X 0 s K) : c_Rd_putContainersIn X  s K := by
  unfold c_Rd_putContainersIn
  refine w_const (p' := 1) rfl rfl rfl ?_
  refine w_istore (p' := 2) (ls' := [some (.inr (.inr (.inl (some 43)))), some (.inl 0), none, none]) rfl rfl rfl (Nat.le_of_ble_eq_true rfl) rfl ?_
  exact w_cut (q_le_s (q_le_s (q_le_n (q_le_n q_le_z)))) h
set_option maxRecDepth 20000 in
theorem sg_Rd_putContainersIn_2 {X : Nat × (Nat → Int32)}  {v1 : Int} {s : qM} {K : qM → Prop} (h : (((240 ≤ v1) → K s) ∧ (¬ (240 ≤ v1) → c_Rd_markerSize X  s (fun r2 s1 => (((r2 ≠ 0) → c_Rd_look X 0 s1 (fun r4 s3 => (((r4 ≠ 62) → c_Rd_putItem X r2 s3 (fun r6 s5 => L_Rd_putContainersIn_53 X v1 r2 r6 s5 K)) ∧ (¬ (r4 ≠ 62) → c_Blocks_add X 1 (s3 43 5) (s3 43 8) s3 (fun r8 s7 => L_Rd_putContainersIn_53 X v1 r2 r8 s7 K))))) ∧ (¬ (r2 ≠ 0) → K s1)))))) : L_Rd_putContainersIn_2 X v1 s K := by
  unfold L_Rd_putContainersIn_2
  refine w_iload (p' := 3) rfl rfl rfl rfl ?_
  refine w_const (p' := 6) rfl rfl rfl ?_
  refine w_icmp (t := 92) (e := 9) rfl rfl rfl (fun e => ?_) (fun e => ?_)
  · have h := h.1 e
    exact w_vret rfl ⟨rfl, rfl, h⟩
  · have h := h.2 e
    refine w_aload (p' := 10) rfl rfl rfl rfl ?_
    refine v_callI (M' := 134) (p' := 13) (rest := []) (as := [(.inr (.inr (.inl (some 43))))]) rfl rfl rfl rfl rfl rfl rfl rfl rfl rfl rfl rfl rfl h (fun r2 s1 h => ?_)
    refine w_istore (p' := 14) (ls' := [some (.inr (.inr (.inl (some 43)))), some (.inl v1), some (.inl r2), none]) rfl rfl rfl (Nat.le_of_ble_eq_true rfl) rfl ?_
    refine w_iload (p' := 15) rfl rfl rfl rfl ?_
    refine w_if (t := 19) (e := 18) rfl rfl rfl (fun e => ?_) (fun e => ?_)
    · have h := h.1 e
      refine w_aload (p' := 20) rfl rfl rfl rfl ?_
      refine w_const (p' := 21) rfl rfl rfl ?_
      refine v_callI (M' := 143) (p' := 24) (rest := []) (as := [(.inr (.inr (.inl (some 43)))), (.inl 0)]) rfl rfl rfl rfl rfl rfl rfl rfl rfl rfl rfl rfl rfl h (fun r4 s3 h => ?_)
      refine w_const (p' := 26) rfl rfl rfl ?_
      refine w_icmp (t := 48) (e := 29) rfl rfl rfl (fun e => ?_) (fun e => ?_)
      · have h := h.1 e
        refine w_aload (p' := 49) rfl rfl rfl rfl ?_
        refine w_iload (p' := 50) rfl rfl rfl rfl ?_
        refine v_callI (M' := 135) (p' := 53) (rest := []) (as := [(.inr (.inr (.inl (some 43)))), (.inl r2)]) rfl rfl rfl rfl rfl rfl rfl rfl rfl rfl rfl rfl rfl h (fun r6 s5 h => ?_)
        exact w_cut (q_le_s (q_le_s (q_le_s (q_le_n q_le_z)))) h
      · have h := h.2 e
        refine w_aload (p' := 30) rfl rfl rfl rfl ?_
        refine w_getR (p' := 33) rfl rfl rfl rfl rfl ?_
        refine w_const (p' := 34) rfl rfl rfl ?_
        refine w_aload (p' := 35) rfl rfl rfl rfl ?_
        refine w_getI (p' := 38) (j := 5) rfl rfl (by decide) rfl rfl ?_
        refine w_aload (p' := 39) rfl rfl rfl rfl ?_
        refine w_getI (p' := 42) (j := 8) rfl rfl (by decide) rfl rfl ?_
        refine v_callI (M' := 148) (p' := 45) (rest := []) (as := [(.inr (.inr (.inl (some 12)))), (.inl 1), (.inl (s3 43 5)), (.inl (s3 43 8))]) rfl rfl rfl rfl rfl rfl rfl rfl rfl rfl rfl rfl rfl h (fun r8 s7 h => ?_)
        refine w_goto (p' := 53) rfl rfl ?_
        exact w_cut (q_le_s (q_le_s (q_le_s (q_le_n q_le_z)))) h
    · have h := h.2 e
      exact w_vret rfl ⟨rfl, rfl, h⟩
set_option maxRecDepth 20000 in
theorem sg_Rd_putContainersIn_53 {X : Nat × (Nat → Int32)}  {v1 v2 t0 : Int} {s : qM} {K : qM → Prop} (h : c_Rd_look X v2 s (fun r2 s1 => (((r2 ≠ 32) → c_Rd_takeOff X v2 t0 s1 (fun s3 => (∀ s4 : qM, s4 = q_up s3 43 5 t0 → (∀ s5 : qM, s5 = q_up s4 43 7 1 → (-2147483648 ≤ (v1 + 1) ∧ (v1 + 1) < 2147483648) ∧ L_Rd_putContainersIn_2 X (v1 + 1) s5 K)))) ∧ (¬ (r2 ≠ 32) → (-2147483648 ≤ (v2 + 1) ∧ (v2 + 1) < 2147483648) ∧ c_Rd_takeOff X (v2 + 1) t0 s1 (fun s6 => (∀ s7 : qM, s7 = q_up s6 43 5 t0 → (∀ s8 : qM, s8 = q_up s7 43 7 1 → (-2147483648 ≤ (v1 + 1) ∧ (v1 + 1) < 2147483648) ∧ L_Rd_putContainersIn_2 X (v1 + 1) s8 K))))))) : L_Rd_putContainersIn_53 X v1 v2 t0 s K := by
  unfold L_Rd_putContainersIn_53
  refine w_istore (p' := 54) (ls' := [some (.inr (.inr (.inl (some 43)))), some (.inl v1), some (.inl v2), some (.inl t0)]) rfl rfl rfl (Nat.le_of_ble_eq_true rfl) rfl ?_
  refine w_aload (p' := 55) rfl rfl rfl rfl ?_
  refine w_aload (p' := 56) rfl rfl rfl rfl ?_
  refine w_iload (p' := 57) rfl rfl rfl rfl ?_
  refine v_callI (M' := 143) (p' := 60) (rest := [(.inr (.inr (.inl (some 43))))]) (as := [(.inr (.inr (.inl (some 43)))), (.inl v2)]) rfl rfl rfl rfl rfl rfl rfl rfl rfl rfl rfl rfl rfl h (fun r2 s1 h => ?_)
  refine w_const (p' := 62) rfl rfl rfl ?_
  refine w_icmp (t := 71) (e := 65) rfl rfl rfl (fun e => ?_) (fun e => ?_)
  · have h := h.1 e
    refine w_iload (p' := 72) rfl rfl rfl rfl ?_
    refine w_iload (p' := 73) rfl rfl rfl rfl ?_
    refine v_callV (M' := 144) (p' := 76) (rest := []) (as := [(.inr (.inr (.inl (some 43)))), (.inl v2), (.inl t0)]) rfl rfl rfl rfl rfl rfl rfl rfl rfl rfl rfl rfl rfl h (fun s3 h => ?_)
    refine w_aload (p' := 77) rfl rfl rfl rfl ?_
    refine w_iload (p' := 78) rfl rfl rfl rfl ?_
    refine v_putI (p' := 81) (j := 5) rfl rfl (by decide) rfl rfl trivial ?_
    intro s4 es4
    have h := h s4 es4
    refine w_aload (p' := 82) rfl rfl rfl rfl ?_
    refine w_const (p' := 83) rfl rfl rfl ?_
    refine v_putI (p' := 86) (j := 7) rfl rfl (by decide) rfl rfl ⟨by decide, by decide⟩ ?_
    intro s5 es5
    have h := h s5 es5
    refine w_iinc (p' := 89) (ls' := [some (.inr (.inr (.inl (some 43)))), some (.inl (v1 + 1)), some (.inl v2), some (.inl t0)]) rfl rfl rfl (Nat.le_of_ble_eq_true rfl) h.1 rfl ?_
    have h := h.2
    refine w_goto (p' := 2) rfl rfl ?_
    exact w_cut (q_le_s (q_le_s (q_le_n (q_le_n q_le_z)))) h
  · have h := h.2 e
    refine w_iload (p' := 66) rfl rfl rfl rfl ?_
    refine w_const (p' := 67) rfl rfl rfl ?_
    refine w_add (p' := 68) rfl rfl h.1 ?_
    have h := h.2
    refine w_goto (p' := 72) rfl rfl ?_
    refine w_iload (p' := 73) rfl rfl rfl rfl ?_
    refine v_callV (M' := 144) (p' := 76) (rest := []) (as := [(.inr (.inr (.inl (some 43)))), (.inl (v2 + 1)), (.inl t0)]) rfl rfl rfl rfl rfl rfl rfl rfl rfl rfl rfl rfl rfl h (fun s6 h => ?_)
    refine w_aload (p' := 77) rfl rfl rfl rfl ?_
    refine w_iload (p' := 78) rfl rfl rfl rfl ?_
    refine v_putI (p' := 81) (j := 5) rfl rfl (by decide) rfl rfl trivial ?_
    intro s7 es7
    have h := h s7 es7
    refine w_aload (p' := 82) rfl rfl rfl rfl ?_
    refine w_const (p' := 83) rfl rfl rfl ?_
    refine v_putI (p' := 86) (j := 7) rfl rfl (by decide) rfl rfl ⟨by decide, by decide⟩ ?_
    intro s8 es8
    have h := h s8 es8
    refine w_iinc (p' := 89) (ls' := [some (.inr (.inr (.inl (some 43)))), some (.inl (v1 + 1)), some (.inl v2), some (.inl t0)]) rfl rfl rfl (Nat.le_of_ble_eq_true rfl) h.1 rfl ?_
    have h := h.2
    refine w_goto (p' := 2) rfl rfl ?_
    exact w_cut (q_le_s (q_le_s (q_le_n (q_le_n q_le_z)))) h
set_option maxRecDepth 20000 in
theorem sg_Rd_markerSize {X : Nat × (Nat → Int32)}  {s : qM} {K : Int → qM → Prop} (h : c_Rd_look X 0 s (fun r2 s1 => (((r2 ≠ 62) → (((r2 = 45) → c_Rd_look X 1 s1 (fun r4 s3 => c_T_isGap X r4 s3 (fun r6 s5 => (((r6 = 0) → K 0 s5) ∧ (¬ (r6 = 0) → K 1 s5))))) ∧ (¬ (r2 = 45) → (((r2 ≠ 43) → (((r2 < 48) → K 0 s1) ∧ (¬ (r2 < 48) → (((57 < r2) → K 0 s1) ∧ (¬ (57 < r2) → c_Rd_look X 1 s1 (fun r8 s7 => (((r8 ≠ 46) → K 0 s7) ∧ (¬ (r8 ≠ 46) → c_Rd_look X 2 s7 (fun r10 s9 => c_T_isGap X r10 s9 (fun r12 s11 => (((r12 = 0) → K 0 s11) ∧ (¬ (r12 = 0) → K 2 s11)))))))))))) ∧ (¬ (r2 ≠ 43) → c_Rd_look X 1 s1 (fun r14 s13 => c_T_isGap X r14 s13 (fun r16 s15 => (((r16 = 0) → K 0 s15) ∧ (¬ (r16 = 0) → K 1 s15))))))))) ∧ (¬ (r2 ≠ 62) → K 1 s1)))) : c_Rd_markerSize X  s K := by
  unfold c_Rd_markerSize
  refine w_aload (p' := 1) rfl rfl rfl rfl ?_
  refine w_const (p' := 2) rfl rfl rfl ?_
  refine v_callI (M' := 143) (p' := 5) (rest := []) (as := [(.inr (.inr (.inl (some 43)))), (.inl 0)]) rfl rfl rfl rfl rfl rfl rfl rfl rfl rfl rfl rfl rfl h (fun r2 s1 h => ?_)
  refine w_istore (p' := 6) (ls' := [some (.inr (.inr (.inl (some 43)))), some (.inl r2), none]) rfl rfl rfl (Nat.le_of_ble_eq_true rfl) rfl ?_
  refine w_iload (p' := 7) rfl rfl rfl rfl ?_
  refine w_const (p' := 9) rfl rfl rfl ?_
  refine w_icmp (t := 14) (e := 12) rfl rfl rfl (fun e => ?_) (fun e => ?_)
  · have h := h.1 e
    refine w_const (p' := 15) rfl rfl rfl ?_
    refine w_istore (p' := 16) (ls' := [some (.inr (.inr (.inl (some 43)))), some (.inl r2), some (.inl 0)]) rfl rfl rfl (Nat.le_of_ble_eq_true rfl) rfl ?_
    refine w_iload (p' := 17) rfl rfl rfl rfl ?_
    refine w_const (p' := 19) rfl rfl rfl ?_
    refine w_icmp (t := 28) (e := 22) rfl rfl rfl (fun e => ?_) (fun e => ?_)
    · have h := h.1 e
      refine w_const (p' := 29) rfl rfl rfl ?_
      refine w_istore (p' := 30) (ls' := [some (.inr (.inr (.inl (some 43)))), some (.inl r2), some (.inl 1)]) rfl rfl rfl (Nat.le_of_ble_eq_true rfl) rfl ?_
      refine w_goto (p' := 57) rfl rfl ?_
      refine w_iload (p' := 58) rfl rfl rfl rfl ?_
      refine w_if (t := 76) (e := 61) rfl rfl rfl (fun e => absurd e (show ¬ ((1 : Int) ≤ 0) by decide)) (fun e => ?_)
      refine w_aload (p' := 62) rfl rfl rfl rfl ?_
      refine w_iload (p' := 63) rfl rfl rfl rfl ?_
      refine v_callI (M' := 143) (p' := 66) (rest := []) (as := [(.inr (.inr (.inl (some 43)))), (.inl 1)]) rfl rfl rfl rfl rfl rfl rfl rfl rfl rfl rfl rfl rfl h (fun r4 s3 h => ?_)
      refine v_callI (M' := 38) (p' := 69) (rest := []) (as := [(.inl r4)]) rfl rfl rfl rfl rfl rfl rfl rfl rfl rfl rfl trivial rfl h (fun r6 s5 h => ?_)
      refine w_if (t := 76) (e := 72) rfl rfl rfl (fun e => ?_) (fun e => ?_)
      · have h := h.1 e
        refine w_const (p' := 77) rfl rfl rfl ?_
        exact w_iret rfl trivial ⟨rfl, _, rfl, h⟩
      · have h := h.2 e
        refine w_iload (p' := 73) rfl rfl rfl rfl ?_
        refine w_goto (p' := 77) rfl rfl ?_
        exact w_iret rfl trivial ⟨rfl, _, rfl, h⟩
    · have h := h.2 e
      refine w_iload (p' := 23) rfl rfl rfl rfl ?_
      refine w_const (p' := 25) rfl rfl rfl ?_
      refine w_icmp (t := 33) (e := 28) rfl rfl rfl (fun e => ?_) (fun e => ?_)
      · have h := h.1 e
        refine w_iload (p' := 34) rfl rfl rfl rfl ?_
        refine w_const (p' := 36) rfl rfl rfl ?_
        refine w_icmp (t := 57) (e := 39) rfl rfl rfl (fun e => ?_) (fun e => ?_)
        · have h := h.1 e
          refine w_iload (p' := 58) rfl rfl rfl rfl ?_
          refine w_if (t := 76) (e := 61) rfl rfl rfl (fun e => ?_) (fun e => absurd (show (0 : Int) ≤ 0 by decide) e)
          refine w_const (p' := 77) rfl rfl rfl ?_
          exact w_iret rfl trivial ⟨rfl, _, rfl, h⟩
        · have h := h.2 e
          refine w_iload (p' := 40) rfl rfl rfl rfl ?_
          refine w_const (p' := 42) rfl rfl rfl ?_
          refine w_icmp (t := 57) (e := 45) rfl rfl rfl (fun e => ?_) (fun e => ?_)
          · have h := h.1 e
            refine w_iload (p' := 58) rfl rfl rfl rfl ?_
            refine w_if (t := 76) (e := 61) rfl rfl rfl (fun e => ?_) (fun e => absurd (show (0 : Int) ≤ 0 by decide) e)
            refine w_const (p' := 77) rfl rfl rfl ?_
            exact w_iret rfl trivial ⟨rfl, _, rfl, h⟩
          · have h := h.2 e
            refine w_aload (p' := 46) rfl rfl rfl rfl ?_
            refine w_const (p' := 47) rfl rfl rfl ?_
            refine v_callI (M' := 143) (p' := 50) (rest := []) (as := [(.inr (.inr (.inl (some 43)))), (.inl 1)]) rfl rfl rfl rfl rfl rfl rfl rfl rfl rfl rfl rfl rfl h (fun r8 s7 h => ?_)
            refine w_const (p' := 52) rfl rfl rfl ?_
            refine w_icmp (t := 57) (e := 55) rfl rfl rfl (fun e => ?_) (fun e => ?_)
            · have h := h.1 e
              refine w_iload (p' := 58) rfl rfl rfl rfl ?_
              refine w_if (t := 76) (e := 61) rfl rfl rfl (fun e => ?_) (fun e => absurd (show (0 : Int) ≤ 0 by decide) e)
              refine w_const (p' := 77) rfl rfl rfl ?_
              exact w_iret rfl trivial ⟨rfl, _, rfl, h⟩
            · have h := h.2 e
              refine w_const (p' := 56) rfl rfl rfl ?_
              refine w_istore (p' := 57) (ls' := [some (.inr (.inr (.inl (some 43)))), some (.inl r2), some (.inl 2)]) rfl rfl rfl (Nat.le_of_ble_eq_true rfl) rfl ?_
              refine w_iload (p' := 58) rfl rfl rfl rfl ?_
              refine w_if (t := 76) (e := 61) rfl rfl rfl (fun e => absurd e (show ¬ ((2 : Int) ≤ 0) by decide)) (fun e => ?_)
              refine w_aload (p' := 62) rfl rfl rfl rfl ?_
              refine w_iload (p' := 63) rfl rfl rfl rfl ?_
              refine v_callI (M' := 143) (p' := 66) (rest := []) (as := [(.inr (.inr (.inl (some 43)))), (.inl 2)]) rfl rfl rfl rfl rfl rfl rfl rfl rfl rfl rfl rfl rfl h (fun r10 s9 h => ?_)
              refine v_callI (M' := 38) (p' := 69) (rest := []) (as := [(.inl r10)]) rfl rfl rfl rfl rfl rfl rfl rfl rfl rfl rfl trivial rfl h (fun r12 s11 h => ?_)
              refine w_if (t := 76) (e := 72) rfl rfl rfl (fun e => ?_) (fun e => ?_)
              · have h := h.1 e
                refine w_const (p' := 77) rfl rfl rfl ?_
                exact w_iret rfl trivial ⟨rfl, _, rfl, h⟩
              · have h := h.2 e
                refine w_iload (p' := 73) rfl rfl rfl rfl ?_
                refine w_goto (p' := 77) rfl rfl ?_
                exact w_iret rfl trivial ⟨rfl, _, rfl, h⟩
      · have h := h.2 e
        refine w_const (p' := 29) rfl rfl rfl ?_
        refine w_istore (p' := 30) (ls' := [some (.inr (.inr (.inl (some 43)))), some (.inl r2), some (.inl 1)]) rfl rfl rfl (Nat.le_of_ble_eq_true rfl) rfl ?_
        refine w_goto (p' := 57) rfl rfl ?_
        refine w_iload (p' := 58) rfl rfl rfl rfl ?_
        refine w_if (t := 76) (e := 61) rfl rfl rfl (fun e => absurd e (show ¬ ((1 : Int) ≤ 0) by decide)) (fun e => ?_)
        refine w_aload (p' := 62) rfl rfl rfl rfl ?_
        refine w_iload (p' := 63) rfl rfl rfl rfl ?_
        refine v_callI (M' := 143) (p' := 66) (rest := []) (as := [(.inr (.inr (.inl (some 43)))), (.inl 1)]) rfl rfl rfl rfl rfl rfl rfl rfl rfl rfl rfl rfl rfl h (fun r14 s13 h => ?_)
        refine v_callI (M' := 38) (p' := 69) (rest := []) (as := [(.inl r14)]) rfl rfl rfl rfl rfl rfl rfl rfl rfl rfl rfl trivial rfl h (fun r16 s15 h => ?_)
        refine w_if (t := 76) (e := 72) rfl rfl rfl (fun e => ?_) (fun e => ?_)
        · have h := h.1 e
          refine w_const (p' := 77) rfl rfl rfl ?_
          exact w_iret rfl trivial ⟨rfl, _, rfl, h⟩
        · have h := h.2 e
          refine w_iload (p' := 73) rfl rfl rfl rfl ?_
          refine w_goto (p' := 77) rfl rfl ?_
          exact w_iret rfl trivial ⟨rfl, _, rfl, h⟩
  · have h := h.2 e
    refine w_const (p' := 13) rfl rfl rfl ?_
    exact w_iret rfl trivial ⟨rfl, _, rfl, h⟩
set_option maxRecDepth 20000 in
theorem sg_Rd_putItem {X : Nat × (Nat → Int32)} {x1 : Int} {s : qM} {K : Int → qM → Prop} (h : (((x1 ≠ 2) → c_Rd_look X 0 s (fun r2 s1 => L_Rd_putItem_15 X x1 r2 s1 K)) ∧ (¬ (x1 ≠ 2) → L_Rd_putItem_15 X x1 48 s K))) : c_Rd_putItem X x1 s K := by
  unfold c_Rd_putItem
  refine w_iload (p' := 1) rfl rfl rfl rfl ?_
  refine w_const (p' := 2) rfl rfl rfl ?_
  refine w_icmp (t := 10) (e := 5) rfl rfl rfl (fun e => ?_) (fun e => ?_)
  · have h := h.1 e
    refine w_aload (p' := 11) rfl rfl rfl rfl ?_
    refine w_const (p' := 12) rfl rfl rfl ?_
    refine v_callI (M' := 143) (p' := 15) (rest := []) (as := [(.inr (.inr (.inl (some 43)))), (.inl 0)]) rfl rfl rfl rfl rfl rfl rfl rfl rfl rfl rfl rfl rfl h (fun r2 s1 h => ?_)
    exact w_cut (q_le_s (q_le_s (q_le_n (q_le_n (q_le_n q_le_z))))) h
  · have h := h.2 e
    refine w_const (p' := 7) rfl rfl rfl ?_
    refine w_goto (p' := 15) rfl rfl ?_
    exact w_cut (q_le_s (q_le_s (q_le_n (q_le_n (q_le_n q_le_z))))) h
set_option maxRecDepth 20000 in
theorem sg_Rd_putItem_15 {X : Nat × (Nat → Int32)}  {v1 t0 : Int} {s : qM} {K : Int → qM → Prop} (h : c_Blocks_openIn X (s 43 5) s (fun r2 s1 => c_Blocks_kindOf X r2 s1 (fun r4 s3 => (((r4 ≠ 2) → L_Rd_putItem_52 X v1 t0 s3 K) ∧ (¬ (r4 ≠ 2) → c_Blocks_markerOf X r2 s3 (fun r6 s5 => (((r6 = t0) → c_Blocks_add X 3 r2 (s5 43 8) s5 (fun r8 s7 => (-2147483648 ≤ (v1 + 1) ∧ (v1 + 1) < 2147483648) ∧ c_Blocks_measure X r8 (v1 + 1) s7 (fun s9 => K r8 s9))) ∧ (¬ (r6 = t0) → L_Rd_putItem_52 X v1 t0 s5 K)))))))) : L_Rd_putItem_15 X v1 t0 s K := by
  unfold L_Rd_putItem_15
  refine w_istore (p' := 16) (ls' := [some (.inr (.inr (.inl (some 43)))), some (.inl v1), some (.inl t0), none, none]) rfl rfl rfl (Nat.le_of_ble_eq_true rfl) rfl ?_
  refine w_aload (p' := 17) rfl rfl rfl rfl ?_
  refine w_getR (p' := 20) rfl rfl rfl rfl rfl ?_
  refine w_aload (p' := 21) rfl rfl rfl rfl ?_
  refine w_getI (p' := 24) (j := 5) rfl rfl (by decide) rfl rfl ?_
  refine v_callI (M' := 150) (p' := 27) (rest := []) (as := [(.inr (.inr (.inl (some 12)))), (.inl (s 43 5))]) rfl rfl rfl rfl rfl rfl rfl rfl rfl rfl rfl rfl rfl h (fun r2 s1 h => ?_)
  refine w_istore (p' := 28) (ls' := [some (.inr (.inr (.inl (some 43)))), some (.inl v1), some (.inl t0), some (.inl r2), none]) rfl rfl rfl (Nat.le_of_ble_eq_true rfl) rfl ?_
  refine w_aload (p' := 29) rfl rfl rfl rfl ?_
  refine w_getR (p' := 32) rfl rfl rfl rfl rfl ?_
  refine w_iload (p' := 33) rfl rfl rfl rfl ?_
  refine v_callI (M' := 153) (p' := 36) (rest := []) (as := [(.inr (.inr (.inl (some 12)))), (.inl r2)]) rfl rfl rfl rfl rfl rfl rfl rfl rfl rfl rfl rfl rfl h (fun r4 s3 h => ?_)
  refine w_const (p' := 37) rfl rfl rfl ?_
  refine w_icmp (t := 52) (e := 40) rfl rfl rfl (fun e => ?_) (fun e => ?_)
  · have h := h.1 e
    exact w_cut (q_le_s (q_le_s (q_le_s (q_le_n (q_le_n q_le_z))))) h
  · have h := h.2 e
    refine w_aload (p' := 41) rfl rfl rfl rfl ?_
    refine w_getR (p' := 44) rfl rfl rfl rfl rfl ?_
    refine w_iload (p' := 45) rfl rfl rfl rfl ?_
    refine v_callI (M' := 158) (p' := 48) (rest := []) (as := [(.inr (.inr (.inl (some 12)))), (.inl r2)]) rfl rfl rfl rfl rfl rfl rfl rfl rfl rfl rfl rfl rfl h (fun r6 s5 h => ?_)
    refine w_iload (p' := 49) rfl rfl rfl rfl ?_
    refine w_icmp (t := 78) (e := 52) rfl rfl rfl (fun e => ?_) (fun e => ?_)
    · have h := h.1 e
      refine w_aload (p' := 79) rfl rfl rfl rfl ?_
      refine w_getR (p' := 82) rfl rfl rfl rfl rfl ?_
      refine w_const (p' := 83) rfl rfl rfl ?_
      refine w_iload (p' := 84) rfl rfl rfl rfl ?_
      refine w_aload (p' := 85) rfl rfl rfl rfl ?_
      refine w_getI (p' := 88) (j := 8) rfl rfl (by decide) rfl rfl ?_
      refine v_callI (M' := 148) (p' := 91) (rest := []) (as := [(.inr (.inr (.inl (some 12)))), (.inl 3), (.inl r2), (.inl (s5 43 8))]) rfl rfl rfl rfl rfl rfl rfl rfl rfl rfl rfl rfl rfl h (fun r8 s7 h => ?_)
      refine w_istore (p' := 93) (ls' := [some (.inr (.inr (.inl (some 43)))), some (.inl v1), some (.inl t0), some (.inl r2), some (.inl r8)]) rfl rfl rfl (Nat.le_of_ble_eq_true rfl) rfl ?_
      refine w_aload (p' := 94) rfl rfl rfl rfl ?_
      refine w_getR (p' := 97) rfl rfl rfl rfl rfl ?_
      refine w_iload (p' := 99) rfl rfl rfl rfl ?_
      refine w_iload (p' := 100) rfl rfl rfl rfl ?_
      refine w_const (p' := 101) rfl rfl rfl ?_
      refine w_add (p' := 102) rfl rfl h.1 ?_
      have h := h.2
      refine v_callV (M' := 157) (p' := 105) (rest := []) (as := [(.inr (.inr (.inl (some 12)))), (.inl r8), (.inl (v1 + 1))]) rfl rfl rfl rfl rfl rfl rfl rfl rfl rfl rfl rfl rfl h (fun s9 h => ?_)
      refine w_iload (p' := 107) rfl rfl rfl rfl ?_
      exact w_iret rfl trivial ⟨rfl, _, rfl, h⟩
    · have h := h.2 e
      exact w_cut (q_le_s (q_le_s (q_le_s (q_le_n (q_le_n q_le_z))))) h
set_option maxRecDepth 20000 in
theorem sg_Rd_putItem_52 {X : Nat × (Nat → Int32)}  {v1 v2 : Int} {s : qM} {K : Int → qM → Prop} (h : c_Blocks_add X 2 (s 43 5) (s 43 8) s (fun r2 s1 => c_Blocks_mark X r2 v2 s1 (fun s3 => c_Blocks_add X 3 r2 (s3 43 8) s3 (fun r5 s4 => (-2147483648 ≤ (v1 + 1) ∧ (v1 + 1) < 2147483648) ∧ c_Blocks_measure X r5 (v1 + 1) s4 (fun s6 => K r5 s6))))) : L_Rd_putItem_52 X v1 v2 s K := by
  unfold L_Rd_putItem_52
  refine w_aload (p' := 53) rfl rfl rfl rfl ?_
  refine w_getR (p' := 56) rfl rfl rfl rfl rfl ?_
  refine w_const (p' := 57) rfl rfl rfl ?_
  refine w_aload (p' := 58) rfl rfl rfl rfl ?_
  refine w_getI (p' := 61) (j := 5) rfl rfl (by decide) rfl rfl ?_
  refine w_aload (p' := 62) rfl rfl rfl rfl ?_
  refine w_getI (p' := 65) (j := 8) rfl rfl (by decide) rfl rfl ?_
  refine v_callI (M' := 148) (p' := 68) (rest := []) (as := [(.inr (.inr (.inl (some 12)))), (.inl 2), (.inl (s 43 5)), (.inl (s 43 8))]) rfl rfl rfl rfl rfl rfl rfl rfl rfl rfl rfl rfl rfl h (fun r2 s1 h => ?_)
  refine w_istore (p' := 69) (ls' := [some (.inr (.inr (.inl (some 43)))), some (.inl v1), some (.inl v2), some (.inl r2), none]) rfl rfl rfl (Nat.le_of_ble_eq_true rfl) rfl ?_
  refine w_aload (p' := 70) rfl rfl rfl rfl ?_
  refine w_getR (p' := 73) rfl rfl rfl rfl rfl ?_
  refine w_iload (p' := 74) rfl rfl rfl rfl ?_
  refine w_iload (p' := 75) rfl rfl rfl rfl ?_
  refine v_callV (M' := 159) (p' := 78) (rest := []) (as := [(.inr (.inr (.inl (some 12)))), (.inl r2), (.inl v2)]) rfl rfl rfl rfl rfl rfl rfl rfl rfl rfl rfl rfl rfl h (fun s3 h => ?_)
  refine w_aload (p' := 79) rfl rfl rfl rfl ?_
  refine w_getR (p' := 82) rfl rfl rfl rfl rfl ?_
  refine w_const (p' := 83) rfl rfl rfl ?_
  refine w_iload (p' := 84) rfl rfl rfl rfl ?_
  refine w_aload (p' := 85) rfl rfl rfl rfl ?_
  refine w_getI (p' := 88) (j := 8) rfl rfl (by decide) rfl rfl ?_
  refine v_callI (M' := 148) (p' := 91) (rest := []) (as := [(.inr (.inr (.inl (some 12)))), (.inl 3), (.inl r2), (.inl (s3 43 8))]) rfl rfl rfl rfl rfl rfl rfl rfl rfl rfl rfl rfl rfl h (fun r5 s4 h => ?_)
  refine w_istore (p' := 93) (ls' := [some (.inr (.inr (.inl (some 43)))), some (.inl v1), some (.inl v2), some (.inl r2), some (.inl r5)]) rfl rfl rfl (Nat.le_of_ble_eq_true rfl) rfl ?_
  refine w_aload (p' := 94) rfl rfl rfl rfl ?_
  refine w_getR (p' := 97) rfl rfl rfl rfl rfl ?_
  refine w_iload (p' := 99) rfl rfl rfl rfl ?_
  refine w_iload (p' := 100) rfl rfl rfl rfl ?_
  refine w_const (p' := 101) rfl rfl rfl ?_
  refine w_add (p' := 102) rfl rfl h.1 ?_
  have h := h.2
  refine v_callV (M' := 157) (p' := 105) (rest := []) (as := [(.inr (.inr (.inl (some 12)))), (.inl r5), (.inl (v1 + 1))]) rfl rfl rfl rfl rfl rfl rfl rfl rfl rfl rfl rfl rfl h (fun s6 h => ?_)
  refine w_iload (p' := 107) rfl rfl rfl rfl ?_
  exact w_iret rfl trivial ⟨rfl, _, rfl, h⟩
set_option maxRecDepth 20000 in
theorem sg_Rd_readBlank {X : Nat × (Nat → Int32)}  {s : qM} {K : Int → qM → Prop} (h : c_Blocks_openIn X (s 43 5) s (fun r2 s1 => (((r2 ≠ (s1 43 6)) → c_Blocks_kindOf X r2 s1 (fun r4 s3 => (((r4 ≠ 6) → K (s3 43 5) s3) ∧ (¬ (r4 ≠ 6) → c_Blocks_close X r2 s3 (fun s5 => K (s5 43 5) s5))))) ∧ (¬ (r2 ≠ (s1 43 6)) → (((r2 ≠ (-1)) → c_Blocks_close X r2 s1 (fun s6 => K (s6 43 5) s6)) ∧ (¬ (r2 ≠ (-1)) → c_Blocks_kindOf X r2 s1 (fun r8 s7 => (((r8 ≠ 6) → K (s7 43 5) s7) ∧ (¬ (r8 ≠ 6) → c_Blocks_close X r2 s7 (fun s9 => K (s9 43 5) s9)))))))))) : c_Rd_readBlank X  s K := by
  unfold c_Rd_readBlank
  refine w_aload (p' := 1) rfl rfl rfl rfl ?_
  refine w_getR (p' := 4) rfl rfl rfl rfl rfl ?_
  refine w_aload (p' := 5) rfl rfl rfl rfl ?_
  refine w_getI (p' := 8) (j := 5) rfl rfl (by decide) rfl rfl ?_
  refine v_callI (M' := 150) (p' := 11) (rest := []) (as := [(.inr (.inr (.inl (some 12)))), (.inl (s 43 5))]) rfl rfl rfl rfl rfl rfl rfl rfl rfl rfl rfl rfl rfl h (fun r2 s1 h => ?_)
  refine w_istore (p' := 12) (ls' := [some (.inr (.inr (.inl (some 43)))), some (.inl r2)]) rfl rfl rfl (Nat.le_of_ble_eq_true rfl) rfl ?_
  refine w_iload (p' := 13) rfl rfl rfl rfl ?_
  refine w_aload (p' := 14) rfl rfl rfl rfl ?_
  refine w_getI (p' := 17) (j := 6) rfl rfl (by decide) rfl rfl ?_
  refine w_icmp (t := 25) (e := 20) rfl rfl rfl (fun e => ?_) (fun e => ?_)
  · have h := h.1 e
    refine w_aload (p' := 26) rfl rfl rfl rfl ?_
    refine w_getR (p' := 29) rfl rfl rfl rfl rfl ?_
    refine w_iload (p' := 30) rfl rfl rfl rfl ?_
    refine v_callI (M' := 153) (p' := 33) (rest := []) (as := [(.inr (.inr (.inl (some 12)))), (.inl r2)]) rfl rfl rfl rfl rfl rfl rfl rfl rfl rfl rfl rfl rfl h (fun r4 s3 h => ?_)
    refine w_const (p' := 35) rfl rfl rfl ?_
    refine w_icmp (t := 46) (e := 38) rfl rfl rfl (fun e => ?_) (fun e => ?_)
    · have h := h.1 e
      refine w_aload (p' := 47) rfl rfl rfl rfl ?_
      refine w_getI (p' := 50) (j := 5) rfl rfl (by decide) rfl rfl ?_
      exact w_iret rfl trivial ⟨rfl, _, rfl, h⟩
    · have h := h.2 e
      refine w_aload (p' := 39) rfl rfl rfl rfl ?_
      refine w_getR (p' := 42) rfl rfl rfl rfl rfl ?_
      refine w_iload (p' := 43) rfl rfl rfl rfl ?_
      refine v_callV (M' := 149) (p' := 46) (rest := []) (as := [(.inr (.inr (.inl (some 12)))), (.inl r2)]) rfl rfl rfl rfl rfl rfl rfl rfl rfl rfl rfl rfl rfl h (fun s5 h => ?_)
      refine w_aload (p' := 47) rfl rfl rfl rfl ?_
      refine w_getI (p' := 50) (j := 5) rfl rfl (by decide) rfl rfl ?_
      exact w_iret rfl trivial ⟨rfl, _, rfl, h⟩
  · have h := h.2 e
    refine w_iload (p' := 21) rfl rfl rfl rfl ?_
    refine w_const (p' := 22) rfl rfl rfl ?_
    refine w_icmp (t := 38) (e := 25) rfl rfl rfl (fun e => ?_) (fun e => ?_)
    · have h := h.1 e
      refine w_aload (p' := 39) rfl rfl rfl rfl ?_
      refine w_getR (p' := 42) rfl rfl rfl rfl rfl ?_
      refine w_iload (p' := 43) rfl rfl rfl rfl ?_
      refine v_callV (M' := 149) (p' := 46) (rest := []) (as := [(.inr (.inr (.inl (some 12)))), (.inl r2)]) rfl rfl rfl rfl rfl rfl rfl rfl rfl rfl rfl rfl rfl h (fun s6 h => ?_)
      refine w_aload (p' := 47) rfl rfl rfl rfl ?_
      refine w_getI (p' := 50) (j := 5) rfl rfl (by decide) rfl rfl ?_
      exact w_iret rfl trivial ⟨rfl, _, rfl, h⟩
    · have h := h.2 e
      refine w_aload (p' := 26) rfl rfl rfl rfl ?_
      refine w_getR (p' := 29) rfl rfl rfl rfl rfl ?_
      refine w_iload (p' := 30) rfl rfl rfl rfl ?_
      refine v_callI (M' := 153) (p' := 33) (rest := []) (as := [(.inr (.inr (.inl (some 12)))), (.inl r2)]) rfl rfl rfl rfl rfl rfl rfl rfl rfl rfl rfl rfl rfl h (fun r8 s7 h => ?_)
      refine w_const (p' := 35) rfl rfl rfl ?_
      refine w_icmp (t := 46) (e := 38) rfl rfl rfl (fun e => ?_) (fun e => ?_)
      · have h := h.1 e
        refine w_aload (p' := 47) rfl rfl rfl rfl ?_
        refine w_getI (p' := 50) (j := 5) rfl rfl (by decide) rfl rfl ?_
        exact w_iret rfl trivial ⟨rfl, _, rfl, h⟩
      · have h := h.2 e
        refine w_aload (p' := 39) rfl rfl rfl rfl ?_
        refine w_getR (p' := 42) rfl rfl rfl rfl rfl ?_
        refine w_iload (p' := 43) rfl rfl rfl rfl ?_
        refine v_callV (M' := 149) (p' := 46) (rest := []) (as := [(.inr (.inr (.inl (some 12)))), (.inl r2)]) rfl rfl rfl rfl rfl rfl rfl rfl rfl rfl rfl rfl rfl h (fun s9 h => ?_)
        refine w_aload (p' := 47) rfl rfl rfl rfl ?_
        refine w_getI (p' := 50) (j := 5) rfl rfl (by decide) rfl rfl ?_
        exact w_iret rfl trivial ⟨rfl, _, rfl, h⟩
set_option maxRecDepth 20000 in
theorem sg_Rd_readLeaf {X : Nat × (Nat → Int32)} {x1 : Int} {s : qM} {K : Int → qM → Prop} (h : c_Rd_headingLevel X  s (fun r2 s1 => (((r2 ≤ 0) → c_Rd_isFenceMark X  s1 (fun r4 s3 => (((r4 = 0) → c_Blocks_innermostOpen X  s3 (fun r6 s5 => c_Blocks_kindOf X r6 s5 (fun r8 s7 => (((r8 ≠ 6) → L_Rd_readLeaf_68 X x1 s7 K) ∧ (¬ (r8 ≠ 6) → ((((s7 43 7) ≠ 0) → L_Rd_readLeaf_68 X x1 s7 K) ∧ (¬ ((s7 43 7) ≠ 0) → c_Blocks_addLine X r6 s7 (fun s9 => K r6 s9)))))))) ∧ (¬ (r4 = 0) → c_Rd_putLeaf X 5 x1 s3 (fun r11 s10 => K r11 s10))))) ∧ (¬ (r2 ≤ 0) → c_Rd_putHeading X x1 r2 s1 (fun r13 s12 => K r13 s12))))) : c_Rd_readLeaf X x1 s K := by
  unfold c_Rd_readLeaf
  refine w_aload (p' := 1) rfl rfl rfl rfl ?_
  refine v_callI (M' := 140) (p' := 4) (rest := []) (as := [(.inr (.inr (.inl (some 43))))]) rfl rfl rfl rfl rfl rfl rfl rfl rfl rfl rfl rfl rfl h (fun r2 s1 h => ?_)
  refine w_istore (p' := 5) (ls' := [some (.inr (.inr (.inl (some 43)))), some (.inl x1), some (.inl r2), none, none, none, none]) rfl rfl rfl (Nat.le_of_ble_eq_true rfl) rfl ?_
  refine w_iload (p' := 6) rfl rfl rfl rfl ?_
  refine w_if (t := 16) (e := 9) rfl rfl rfl (fun e => ?_) (fun e => ?_)
  · have h := h.1 e
    refine w_aload (p' := 17) rfl rfl rfl rfl ?_
    refine v_callI (M' := 141) (p' := 20) (rest := []) (as := [(.inr (.inr (.inl (some 43))))]) rfl rfl rfl rfl rfl rfl rfl rfl rfl rfl rfl rfl rfl h (fun r4 s3 h => ?_)
    refine w_if (t := 30) (e := 23) rfl rfl rfl (fun e => ?_) (fun e => ?_)
    · have h := h.1 e
      refine w_aload (p' := 31) rfl rfl rfl rfl ?_
      refine w_getR (p' := 34) rfl rfl rfl rfl rfl ?_
      refine v_callI (M' := 151) (p' := 37) (rest := []) (as := [(.inr (.inr (.inl (some 12))))]) rfl rfl rfl rfl rfl rfl rfl rfl rfl rfl rfl rfl rfl h (fun r6 s5 h => ?_)
      refine w_istore (p' := 38) (ls' := [some (.inr (.inr (.inl (some 43)))), some (.inl x1), some (.inl r2), some (.inl r6), none, none, none]) rfl rfl rfl (Nat.le_of_ble_eq_true rfl) rfl ?_
      refine w_aload (p' := 39) rfl rfl rfl rfl ?_
      refine w_getR (p' := 42) rfl rfl rfl rfl rfl ?_
      refine w_iload (p' := 43) rfl rfl rfl rfl ?_
      refine v_callI (M' := 153) (p' := 46) (rest := []) (as := [(.inr (.inr (.inl (some 12)))), (.inl r6)]) rfl rfl rfl rfl rfl rfl rfl rfl rfl rfl rfl rfl rfl h (fun r8 s7 h => ?_)
      refine w_const (p' := 48) rfl rfl rfl ?_
      refine w_icmp (t := 68) (e := 51) rfl rfl rfl (fun e => ?_) (fun e => ?_)
      · have h := h.1 e
        exact w_cut (q_le_s (q_le_s (q_le_n (q_le_n (q_le_n (q_le_n (q_le_n q_le_z))))))) h
      · have h := h.2 e
        refine w_aload (p' := 52) rfl rfl rfl rfl ?_
        refine w_getI (p' := 55) (j := 7) rfl rfl (by decide) rfl rfl ?_
        refine w_if (t := 68) (e := 58) rfl rfl rfl (fun e => ?_) (fun e => ?_)
        · have h := h.1 e
          exact w_cut (q_le_s (q_le_s (q_le_n (q_le_n (q_le_n (q_le_n (q_le_n q_le_z))))))) h
        · have h := h.2 e
          refine w_aload (p' := 59) rfl rfl rfl rfl ?_
          refine w_getR (p' := 62) rfl rfl rfl rfl rfl ?_
          refine w_iload (p' := 63) rfl rfl rfl rfl ?_
          refine v_callV (M' := 163) (p' := 66) (rest := []) (as := [(.inr (.inr (.inl (some 12)))), (.inl r6)]) rfl rfl rfl rfl rfl rfl rfl rfl rfl rfl rfl rfl rfl h (fun s9 h => ?_)
          refine w_iload (p' := 67) rfl rfl rfl rfl ?_
          exact w_iret rfl trivial ⟨rfl, _, rfl, h⟩
    · have h := h.2 e
      refine w_aload (p' := 24) rfl rfl rfl rfl ?_
      refine w_const (p' := 25) rfl rfl rfl ?_
      refine w_iload (p' := 26) rfl rfl rfl rfl ?_
      refine v_callI (M' := 139) (p' := 29) (rest := []) (as := [(.inr (.inr (.inl (some 43)))), (.inl 5), (.inl x1)]) rfl rfl rfl rfl rfl rfl rfl rfl rfl rfl rfl rfl rfl h (fun r11 s10 h => ?_)
      exact w_iret rfl trivial ⟨rfl, _, rfl, h⟩
  · have h := h.2 e
    refine w_aload (p' := 10) rfl rfl rfl rfl ?_
    refine w_iload (p' := 11) rfl rfl rfl rfl ?_
    refine w_iload (p' := 12) rfl rfl rfl rfl ?_
    refine v_callI (M' := 138) (p' := 15) (rest := []) (as := [(.inr (.inr (.inl (some 43)))), (.inl x1), (.inl r2)]) rfl rfl rfl rfl rfl rfl rfl rfl rfl rfl rfl rfl rfl h (fun r13 s12 h => ?_)
    exact w_iret rfl trivial ⟨rfl, _, rfl, h⟩
set_option maxRecDepth 20000 in
theorem sg_Rd_readLeaf_68 {X : Nat × (Nat → Int32)}  {v1 : Int} {s : qM} {K : Int → qM → Prop} (h : c_Rd_definedName X  s (fun r2 s1 => ((((q_lcmp r2 0) = 0) → c_Rd_putLeaf X 6 v1 s1 (fun r4 s3 => c_Blocks_addLine X r4 s3 (fun s5 => K r4 s5))) ∧ (¬ ((q_lcmp r2 0) = 0) → c_Rd_putLeaf X 7 v1 s1 (fun r7 s6 => c_Blocks_define X r2 r7 s6 (fun s8 => c_Blocks_close X r7 s8 (fun s9 => K r7 s9))))))) : L_Rd_readLeaf_68 X v1 s K := by
  unfold L_Rd_readLeaf_68
  refine w_aload (p' := 69) rfl rfl rfl rfl ?_
  refine v_callL (M' := 142) (p' := 72) (rest := []) (as := [(.inr (.inr (.inl (some 43))))]) rfl rfl rfl rfl rfl rfl rfl rfl rfl rfl rfl rfl rfl h (fun r2 s1 h => ?_)
  refine w_lstore (p' := 74) (ls' := [some (.inr (.inr (.inl (some 43)))), some (.inl v1), none, none, some (.inr (.inl r2)), none, none]) rfl rfl rfl (Nat.le_of_ble_eq_true rfl) rfl ?_
  refine w_lload (p' := 76) rfl rfl rfl rfl ?_
  refine w_lconst (p' := 77) rfl rfl rfl ?_
  refine w_lcmp (p' := 78) rfl rfl ?_
  refine w_if (t := 113) (e := 81) rfl rfl rfl (fun e => ?_) (fun e => ?_)
  · have h := h.1 e
    refine w_aload (p' := 114) rfl rfl rfl rfl ?_
    refine w_const (p' := 116) rfl rfl rfl ?_
    refine w_iload (p' := 117) rfl rfl rfl rfl ?_
    refine v_callI (M' := 139) (p' := 120) (rest := []) (as := [(.inr (.inr (.inl (some 43)))), (.inl 6), (.inl v1)]) rfl rfl rfl rfl rfl rfl rfl rfl rfl rfl rfl rfl rfl h (fun r4 s3 h => ?_)
    refine w_istore (p' := 121) (ls' := [some (.inr (.inr (.inl (some 43)))), some (.inl v1), none, some (.inl r4), some (.inr (.inl r2)), none, none]) rfl rfl rfl (Nat.le_of_ble_eq_true rfl) rfl ?_
    refine w_aload (p' := 122) rfl rfl rfl rfl ?_
    refine w_getR (p' := 125) rfl rfl rfl rfl rfl ?_
    refine w_iload (p' := 126) rfl rfl rfl rfl ?_
    refine v_callV (M' := 163) (p' := 129) (rest := []) (as := [(.inr (.inr (.inl (some 12)))), (.inl r4)]) rfl rfl rfl rfl rfl rfl rfl rfl rfl rfl rfl rfl rfl h (fun s5 h => ?_)
    refine w_iload (p' := 130) rfl rfl rfl rfl ?_
    exact w_iret rfl trivial ⟨rfl, _, rfl, h⟩
  · have h := h.2 e
    refine w_aload (p' := 82) rfl rfl rfl rfl ?_
    refine w_const (p' := 84) rfl rfl rfl ?_
    refine w_iload (p' := 85) rfl rfl rfl rfl ?_
    refine v_callI (M' := 139) (p' := 88) (rest := []) (as := [(.inr (.inr (.inl (some 43)))), (.inl 7), (.inl v1)]) rfl rfl rfl rfl rfl rfl rfl rfl rfl rfl rfl rfl rfl h (fun r7 s6 h => ?_)
    refine w_istore (p' := 90) (ls' := [some (.inr (.inr (.inl (some 43)))), some (.inl v1), none, none, some (.inr (.inl r2)), none, some (.inl r7)]) rfl rfl rfl (Nat.le_of_ble_eq_true rfl) rfl ?_
    refine w_aload (p' := 91) rfl rfl rfl rfl ?_
    refine w_getR (p' := 94) rfl rfl rfl rfl rfl ?_
    refine w_lload (p' := 96) rfl rfl rfl rfl ?_
    refine w_iload (p' := 98) rfl rfl rfl rfl ?_
    refine v_callV (M' := 170) (p' := 101) (rest := []) (as := [(.inr (.inr (.inl (some 12)))), (.inr (.inl r2)), (.inl r7)]) rfl rfl rfl rfl rfl rfl rfl rfl rfl rfl rfl rfl rfl h (fun s8 h => ?_)
    refine w_aload (p' := 102) rfl rfl rfl rfl ?_
    refine w_getR (p' := 105) rfl rfl rfl rfl rfl ?_
    refine w_iload (p' := 107) rfl rfl rfl rfl ?_
    refine v_callV (M' := 149) (p' := 110) (rest := []) (as := [(.inr (.inr (.inl (some 12)))), (.inl r7)]) rfl rfl rfl rfl rfl rfl rfl rfl rfl rfl rfl rfl rfl h (fun s9 h => ?_)
    refine w_iload (p' := 112) rfl rfl rfl rfl ?_
    exact w_iret rfl trivial ⟨rfl, _, rfl, h⟩
set_option maxRecDepth 20000 in
theorem sg_Rd_putHeading {X : Nat × (Nat → Int32)} {x1 : Int} {x2 : Int} {s : qM} {K : Int → qM → Prop} (h : c_Rd_putLeaf X 4 x1 s (fun r2 s1 => c_Blocks_measure X r2 x2 s1 (fun s3 => c_Blocks_addLine X r2 s3 (fun s4 => (-2147483648 ≤ ((s4 43 3) + x2) ∧ ((s4 43 3) + x2) < 2147483648) ∧ c_Blocks_beginContent X x1 ((s4 43 3) + x2) s4 (fun s5 => (-2147483648 ≤ ((s5 43 3) + x2) ∧ ((s5 43 3) + x2) < 2147483648) ∧ c_T_anchorCode X 1 ((s5 43 3) + x2) (s5 43 4) s5 (fun r7 s6 => c_Blocks_anchor X r7 r2 s6 (fun s8 => c_Blocks_close X r2 s8 (fun s9 => K r2 s9)))))))) : c_Rd_putHeading X x1 x2 s K := by
  unfold c_Rd_putHeading
  refine w_aload (p' := 1) rfl rfl rfl rfl ?_
  refine w_const (p' := 2) rfl rfl rfl ?_
  refine w_iload (p' := 3) rfl rfl rfl rfl ?_
  refine v_callI (M' := 139) (p' := 6) (rest := []) (as := [(.inr (.inr (.inl (some 43)))), (.inl 4), (.inl x1)]) rfl rfl rfl rfl rfl rfl rfl rfl rfl rfl rfl rfl rfl h (fun r2 s1 h => ?_)
  refine w_istore (p' := 7) (ls' := [some (.inr (.inr (.inl (some 43)))), some (.inl x1), some (.inl x2), some (.inl r2)]) rfl rfl rfl (Nat.le_of_ble_eq_true rfl) rfl ?_
  refine w_aload (p' := 8) rfl rfl rfl rfl ?_
  refine w_getR (p' := 11) rfl rfl rfl rfl rfl ?_
  refine w_iload (p' := 12) rfl rfl rfl rfl ?_
  refine w_iload (p' := 13) rfl rfl rfl rfl ?_
  refine v_callV (M' := 157) (p' := 16) (rest := []) (as := [(.inr (.inr (.inl (some 12)))), (.inl r2), (.inl x2)]) rfl rfl rfl rfl rfl rfl rfl rfl rfl rfl rfl rfl rfl h (fun s3 h => ?_)
  refine w_aload (p' := 17) rfl rfl rfl rfl ?_
  refine w_getR (p' := 20) rfl rfl rfl rfl rfl ?_
  refine w_iload (p' := 21) rfl rfl rfl rfl ?_
  refine v_callV (M' := 163) (p' := 24) (rest := []) (as := [(.inr (.inr (.inl (some 12)))), (.inl r2)]) rfl rfl rfl rfl rfl rfl rfl rfl rfl rfl rfl rfl rfl h (fun s4 h => ?_)
  refine w_aload (p' := 25) rfl rfl rfl rfl ?_
  refine w_getR (p' := 28) rfl rfl rfl rfl rfl ?_
  refine w_iload (p' := 29) rfl rfl rfl rfl ?_
  refine w_aload (p' := 30) rfl rfl rfl rfl ?_
  refine w_getI (p' := 33) (j := 3) rfl rfl (by decide) rfl rfl ?_
  refine w_iload (p' := 34) rfl rfl rfl rfl ?_
  refine w_add (p' := 35) rfl rfl h.1 ?_
  have h := h.2
  refine v_callV (M' := 165) (p' := 38) (rest := []) (as := [(.inr (.inr (.inl (some 12)))), (.inl x1), (.inl ((s4 43 3) + x2))]) rfl rfl rfl rfl rfl rfl rfl rfl rfl rfl rfl rfl rfl h (fun s5 h => ?_)
  refine w_aload (p' := 39) rfl rfl rfl rfl ?_
  refine w_getR (p' := 42) rfl rfl rfl rfl rfl ?_
  refine w_aload (p' := 43) rfl rfl rfl rfl ?_
  refine w_getR (p' := 46) rfl rfl rfl rfl rfl ?_
  refine w_aload (p' := 47) rfl rfl rfl rfl ?_
  refine w_getI (p' := 50) (j := 3) rfl rfl (by decide) rfl rfl ?_
  refine w_iload (p' := 51) rfl rfl rfl rfl ?_
  refine w_add (p' := 52) rfl rfl h.1 ?_
  have h := h.2
  refine w_aload (p' := 53) rfl rfl rfl rfl ?_
  refine w_getI (p' := 56) (j := 4) rfl rfl (by decide) rfl rfl ?_
  refine v_callL (M' := 43) (p' := 59) (rest := [(.inr (.inr (.inl (some 12))))]) (as := [(.inr (.inr (.inl (some 1)))), (.inl ((s5 43 3) + x2)), (.inl (s5 43 4))]) rfl rfl rfl rfl rfl rfl rfl rfl rfl rfl rfl trivial rfl h (fun r7 s6 h => ?_)
  refine w_iload (p' := 60) rfl rfl rfl rfl ?_
  refine v_callV (M' := 171) (p' := 63) (rest := []) (as := [(.inr (.inr (.inl (some 12)))), (.inr (.inl r7)), (.inl r2)]) rfl rfl rfl rfl rfl rfl rfl rfl rfl rfl rfl rfl rfl h (fun s8 h => ?_)
  refine w_aload (p' := 64) rfl rfl rfl rfl ?_
  refine w_getR (p' := 67) rfl rfl rfl rfl rfl ?_
  refine w_iload (p' := 68) rfl rfl rfl rfl ?_
  refine v_callV (M' := 149) (p' := 71) (rest := []) (as := [(.inr (.inr (.inl (some 12)))), (.inl r2)]) rfl rfl rfl rfl rfl rfl rfl rfl rfl rfl rfl rfl rfl h (fun s9 h => ?_)
  refine w_iload (p' := 72) rfl rfl rfl rfl ?_
  exact w_iret rfl trivial ⟨rfl, _, rfl, h⟩
set_option maxRecDepth 20000 in
theorem sg_Rd_putLeaf {X : Nat × (Nat → Int32)} {x1 : Int} {x2 : Int} {s : qM} {K : Int → qM → Prop} (h : c_Blocks_add X x1 (s 43 5) (s 43 8) s (fun r2 s1 => c_Blocks_beginAt X r2 x2 s1 (fun s3 => K r2 s3))) : c_Rd_putLeaf X x1 x2 s K := by
  unfold c_Rd_putLeaf
  refine w_aload (p' := 1) rfl rfl rfl rfl ?_
  refine w_getR (p' := 4) rfl rfl rfl rfl rfl ?_
  refine w_iload (p' := 5) rfl rfl rfl rfl ?_
  refine w_aload (p' := 6) rfl rfl rfl rfl ?_
  refine w_getI (p' := 9) (j := 5) rfl rfl (by decide) rfl rfl ?_
  refine w_aload (p' := 10) rfl rfl rfl rfl ?_
  refine w_getI (p' := 13) (j := 8) rfl rfl (by decide) rfl rfl ?_
  refine v_callI (M' := 148) (p' := 16) (rest := []) (as := [(.inr (.inr (.inl (some 12)))), (.inl x1), (.inl (s 43 5)), (.inl (s 43 8))]) rfl rfl rfl rfl rfl rfl rfl rfl rfl rfl rfl rfl rfl h (fun r2 s1 h => ?_)
  refine w_istore (p' := 17) (ls' := [some (.inr (.inr (.inl (some 43)))), some (.inl x1), some (.inl x2), some (.inl r2)]) rfl rfl rfl (Nat.le_of_ble_eq_true rfl) rfl ?_
  refine w_aload (p' := 18) rfl rfl rfl rfl ?_
  refine w_getR (p' := 21) rfl rfl rfl rfl rfl ?_
  refine w_iload (p' := 22) rfl rfl rfl rfl ?_
  refine w_iload (p' := 23) rfl rfl rfl rfl ?_
  refine v_callV (M' := 162) (p' := 26) (rest := []) (as := [(.inr (.inr (.inl (some 12)))), (.inl r2), (.inl x2)]) rfl rfl rfl rfl rfl rfl rfl rfl rfl rfl rfl rfl rfl h (fun s3 h => ?_)
  refine w_iload (p' := 27) rfl rfl rfl rfl ?_
  exact w_iret rfl trivial ⟨rfl, _, rfl, h⟩
set_option maxRecDepth 20000 in
theorem sg_Rd_headingLevel {X : Nat × (Nat → Int32)}  {s : qM} {K : Int → qM → Prop} (h : L_Rd_headingLevel_4 X 0 0 s K) : c_Rd_headingLevel X  s K := by
  unfold c_Rd_headingLevel
  refine w_const (p' := 1) rfl rfl rfl ?_
  refine w_istore (p' := 2) (ls' := [some (.inr (.inr (.inl (some 43)))), some (.inl 0), none]) rfl rfl rfl (Nat.le_of_ble_eq_true rfl) rfl ?_
  refine w_const (p' := 3) rfl rfl rfl ?_
  refine w_istore (p' := 4) (ls' := [some (.inr (.inr (.inl (some 43)))), some (.inl 0), some (.inl 0)]) rfl rfl rfl (Nat.le_of_ble_eq_true rfl) rfl ?_
  exact w_cut (q_le_s (q_le_s (q_le_s q_le_z))) h
set_option maxRecDepth 20000 in
theorem sg_Rd_headingLevel_4 {X : Nat × (Nat → Int32)}  {v1 v2 : Int} {s : qM} {K : Int → qM → Prop} (h : (((3 ≤ v2) → c_Rd_look X v1 s (fun r2 s1 => c_T_isGap X r2 s1 (fun r4 s3 => (((r4 = 0) → K 0 s3) ∧ (¬ (r4 = 0) → K v1 s3))))) ∧ (¬ (3 ≤ v2) → c_Rd_look X v2 s (fun r6 s5 => (((r6 ≠ 35) → c_Rd_look X v1 s5 (fun r8 s7 => c_T_isGap X r8 s7 (fun r10 s9 => (((r10 = 0) → K 0 s9) ∧ (¬ (r10 = 0) → K v1 s9))))) ∧ (¬ (r6 ≠ 35) → (-2147483648 ≤ (v1 + 1) ∧ (v1 + 1) < 2147483648) ∧ (-2147483648 ≤ (v2 + 1) ∧ (v2 + 1) < 2147483648) ∧ L_Rd_headingLevel_4 X (v1 + 1) (v2 + 1) s5 K)))))) : L_Rd_headingLevel_4 X v1 v2 s K := by
  unfold L_Rd_headingLevel_4
  refine w_iload (p' := 5) rfl rfl rfl rfl ?_
  refine w_const (p' := 6) rfl rfl rfl ?_
  refine w_icmp (t := 28) (e := 9) rfl rfl rfl (fun e => ?_) (fun e => ?_)
  · have h := h.1 e
    refine w_aload (p' := 29) rfl rfl rfl rfl ?_
    refine w_iload (p' := 30) rfl rfl rfl rfl ?_
    refine v_callI (M' := 143) (p' := 33) (rest := []) (as := [(.inr (.inr (.inl (some 43)))), (.inl v1)]) rfl rfl rfl rfl rfl rfl rfl rfl rfl rfl rfl rfl rfl h (fun r2 s1 h => ?_)
    refine v_callI (M' := 38) (p' := 36) (rest := []) (as := [(.inl r2)]) rfl rfl rfl rfl rfl rfl rfl rfl rfl rfl rfl trivial rfl h (fun r4 s3 h => ?_)
    refine w_if (t := 43) (e := 39) rfl rfl rfl (fun e => ?_) (fun e => ?_)
    · have h := h.1 e
      refine w_const (p' := 44) rfl rfl rfl ?_
      exact w_iret rfl trivial ⟨rfl, _, rfl, h⟩
    · have h := h.2 e
      refine w_iload (p' := 40) rfl rfl rfl rfl ?_
      refine w_goto (p' := 44) rfl rfl ?_
      exact w_iret rfl trivial ⟨rfl, _, rfl, h⟩
  · have h := h.2 e
    refine w_aload (p' := 10) rfl rfl rfl rfl ?_
    refine w_iload (p' := 11) rfl rfl rfl rfl ?_
    refine v_callI (M' := 143) (p' := 14) (rest := []) (as := [(.inr (.inr (.inl (some 43)))), (.inl v2)]) rfl rfl rfl rfl rfl rfl rfl rfl rfl rfl rfl rfl rfl h (fun r6 s5 h => ?_)
    refine w_const (p' := 16) rfl rfl rfl ?_
    refine w_icmp (t := 28) (e := 19) rfl rfl rfl (fun e => ?_) (fun e => ?_)
    · have h := h.1 e
      refine w_aload (p' := 29) rfl rfl rfl rfl ?_
      refine w_iload (p' := 30) rfl rfl rfl rfl ?_
      refine v_callI (M' := 143) (p' := 33) (rest := []) (as := [(.inr (.inr (.inl (some 43)))), (.inl v1)]) rfl rfl rfl rfl rfl rfl rfl rfl rfl rfl rfl rfl rfl h (fun r8 s7 h => ?_)
      refine v_callI (M' := 38) (p' := 36) (rest := []) (as := [(.inl r8)]) rfl rfl rfl rfl rfl rfl rfl rfl rfl rfl rfl trivial rfl h (fun r10 s9 h => ?_)
      refine w_if (t := 43) (e := 39) rfl rfl rfl (fun e => ?_) (fun e => ?_)
      · have h := h.1 e
        refine w_const (p' := 44) rfl rfl rfl ?_
        exact w_iret rfl trivial ⟨rfl, _, rfl, h⟩
      · have h := h.2 e
        refine w_iload (p' := 40) rfl rfl rfl rfl ?_
        refine w_goto (p' := 44) rfl rfl ?_
        exact w_iret rfl trivial ⟨rfl, _, rfl, h⟩
    · have h := h.2 e
      refine w_iinc (p' := 22) (ls' := [some (.inr (.inr (.inl (some 43)))), some (.inl (v1 + 1)), some (.inl v2)]) rfl rfl rfl (Nat.le_of_ble_eq_true rfl) h.1 rfl ?_
      have h := h.2
      refine w_iinc (p' := 25) (ls' := [some (.inr (.inr (.inl (some 43)))), some (.inl (v1 + 1)), some (.inl (v2 + 1))]) rfl rfl rfl (Nat.le_of_ble_eq_true rfl) h.1 rfl ?_
      have h := h.2
      refine w_goto (p' := 4) rfl rfl ?_
      exact w_cut (q_le_s (q_le_s (q_le_s q_le_z))) h
set_option maxRecDepth 20000 in
theorem sg_Rd_isFenceMark {X : Nat × (Nat → Int32)}  {s : qM} {K : Int → qM → Prop} (h : c_Rd_look X 0 s (fun r2 s1 => (((r2 ≠ 126) → K 0 s1) ∧ (¬ (r2 ≠ 126) → c_Rd_look X 1 s1 (fun r4 s3 => (((r4 ≠ 126) → K 0 s3) ∧ (¬ (r4 ≠ 126) → c_Rd_look X 2 s3 (fun r6 s5 => (((r6 ≠ 126) → K 0 s5) ∧ (¬ (r6 ≠ 126) → (-2147483648 ≤ ((s5 43 3) + 3) ∧ ((s5 43 3) + 3) < 2147483648) ∧ c_T_skipBlanks X 1 ((s5 43 3) + 3) (s5 43 4) s5 (fun r8 s7 => (((r8 ≠ (s7 43 4)) → K 0 s7) ∧ (¬ (r8 ≠ (s7 43 4)) → K 1 s7))))))))))))) : c_Rd_isFenceMark X  s K := by
  unfold c_Rd_isFenceMark
  refine w_aload (p' := 1) rfl rfl rfl rfl ?_
  refine w_const (p' := 2) rfl rfl rfl ?_
  refine v_callI (M' := 143) (p' := 5) (rest := []) (as := [(.inr (.inr (.inl (some 43)))), (.inl 0)]) rfl rfl rfl rfl rfl rfl rfl rfl rfl rfl rfl rfl rfl h (fun r2 s1 h => ?_)
  refine w_const (p' := 7) rfl rfl rfl ?_
  refine w_icmp (t := 58) (e := 10) rfl rfl rfl (fun e => ?_) (fun e => ?_)
  · have h := h.1 e
    refine w_const (p' := 59) rfl rfl rfl ?_
    exact w_iret rfl ⟨by decide, by decide⟩ ⟨rfl, _, rfl, h⟩
  · have h := h.2 e
    refine w_aload (p' := 11) rfl rfl rfl rfl ?_
    refine w_const (p' := 12) rfl rfl rfl ?_
    refine v_callI (M' := 143) (p' := 15) (rest := []) (as := [(.inr (.inr (.inl (some 43)))), (.inl 1)]) rfl rfl rfl rfl rfl rfl rfl rfl rfl rfl rfl rfl rfl h (fun r4 s3 h => ?_)
    refine w_const (p' := 17) rfl rfl rfl ?_
    refine w_icmp (t := 58) (e := 20) rfl rfl rfl (fun e => ?_) (fun e => ?_)
    · have h := h.1 e
      refine w_const (p' := 59) rfl rfl rfl ?_
      exact w_iret rfl ⟨by decide, by decide⟩ ⟨rfl, _, rfl, h⟩
    · have h := h.2 e
      refine w_aload (p' := 21) rfl rfl rfl rfl ?_
      refine w_const (p' := 22) rfl rfl rfl ?_
      refine v_callI (M' := 143) (p' := 25) (rest := []) (as := [(.inr (.inr (.inl (some 43)))), (.inl 2)]) rfl rfl rfl rfl rfl rfl rfl rfl rfl rfl rfl rfl rfl h (fun r6 s5 h => ?_)
      refine w_const (p' := 27) rfl rfl rfl ?_
      refine w_icmp (t := 58) (e := 30) rfl rfl rfl (fun e => ?_) (fun e => ?_)
      · have h := h.1 e
        refine w_const (p' := 59) rfl rfl rfl ?_
        exact w_iret rfl ⟨by decide, by decide⟩ ⟨rfl, _, rfl, h⟩
      · have h := h.2 e
        refine w_aload (p' := 31) rfl rfl rfl rfl ?_
        refine w_getR (p' := 34) rfl rfl rfl rfl rfl ?_
        refine w_aload (p' := 35) rfl rfl rfl rfl ?_
        refine w_getI (p' := 38) (j := 3) rfl rfl (by decide) rfl rfl ?_
        refine w_const (p' := 39) rfl rfl rfl ?_
        refine w_add (p' := 40) rfl rfl h.1 ?_
        have h := h.2
        refine w_aload (p' := 41) rfl rfl rfl rfl ?_
        refine w_getI (p' := 44) (j := 4) rfl rfl (by decide) rfl rfl ?_
        refine v_callI (M' := 39) (p' := 47) (rest := []) (as := [(.inr (.inr (.inl (some 1)))), (.inl ((s5 43 3) + 3)), (.inl (s5 43 4))]) rfl rfl rfl rfl rfl rfl rfl rfl rfl rfl rfl trivial rfl h (fun r8 s7 h => ?_)
        refine w_aload (p' := 48) rfl rfl rfl rfl ?_
        refine w_getI (p' := 51) (j := 4) rfl rfl (by decide) rfl rfl ?_
        refine w_icmp (t := 58) (e := 54) rfl rfl rfl (fun e => ?_) (fun e => ?_)
        · have h := h.1 e
          refine w_const (p' := 59) rfl rfl rfl ?_
          exact w_iret rfl ⟨by decide, by decide⟩ ⟨rfl, _, rfl, h⟩
        · have h := h.2 e
          refine w_const (p' := 55) rfl rfl rfl ?_
          refine w_goto (p' := 59) rfl rfl ?_
          exact w_iret rfl ⟨by decide, by decide⟩ ⟨rfl, _, rfl, h⟩
set_option maxRecDepth 20000 in
theorem sg_Rd_definedName {X : Nat × (Nat → Int32)}  {s : qM} {K : Int → qM → Prop} (h : (-2147483648 ≤ ((s 43 3) + 1) ∧ ((s 43 3) + 1) < 2147483648) ∧ c_T_skipWord X 1 ((s 43 3) + 1) (s 43 4) s (fun r2 s1 => (-2147483648 ≤ (r2 + 2) ∧ (r2 + 2) < 2147483648) ∧ c_Rd_look X 0 s1 (fun r4 s3 => (((r4 ≠ 91) → K 0 s3) ∧ (¬ (r4 ≠ 91) → (-2147483648 ≤ (r2 - (s3 43 3)) ∧ (r2 - (s3 43 3)) < 2147483648) ∧ c_Rd_look X (r2 - (s3 43 3)) s3 (fun r6 s5 => (((r6 ≠ 93) → K 0 s5) ∧ (¬ (r6 ≠ 93) → (-2147483648 ≤ (r2 + 1) ∧ (r2 + 1) < 2147483648) ∧ (-2147483648 ≤ ((r2 + 1) - (s5 43 3)) ∧ ((r2 + 1) - (s5 43 3)) < 2147483648) ∧ c_Rd_look X ((r2 + 1) - (s5 43 3)) s5 (fun r8 s7 => (((r8 = 58) → c_T_skipBlanks X 1 (r2 + 2) (s7 43 4) s7 (fun r10 s9 => c_T_skipWord X 1 r10 (s9 43 4) s9 (fun r12 s11 => (-2147483648 ≤ (r12 - r10) ∧ (r12 - r10) < 2147483648) ∧ (((r10 = (r2 + 2)) → K 0 s11) ∧ (¬ (r10 = (r2 + 2)) → ((((r12 - r10) < 1) → K 0 s11) ∧ (¬ ((r12 - r10) < 1) → (((8 < (r12 - r10)) → K 0 s11) ∧ (¬ (8 < (r12 - r10)) → c_T_skipBlanks X 1 r12 (s11 43 4) s11 (fun r14 s13 => ((((s13 43 4) ≤ r14) → (-2147483648 ≤ ((s13 43 3) + 1) ∧ ((s13 43 3) + 1) < 2147483648) ∧ c_T_nameCode X 1 ((s13 43 3) + 1) r2 s13 (fun r16 s15 => K r16 s15)) ∧ (¬ ((s13 43 4) ≤ r14) → K 0 s13)))))))))))) ∧ (¬ (r8 = 58) → K 0 s7))))))))))) : c_Rd_definedName X  s K := by
  unfold c_Rd_definedName
  refine w_aload (p' := 1) rfl rfl rfl rfl ?_
  refine w_getR (p' := 4) rfl rfl rfl rfl rfl ?_
  refine w_aload (p' := 5) rfl rfl rfl rfl ?_
  refine w_getI (p' := 8) (j := 3) rfl rfl (by decide) rfl rfl ?_
  refine w_const (p' := 9) rfl rfl rfl ?_
  refine w_add (p' := 10) rfl rfl h.1 ?_
  have h := h.2
  refine w_aload (p' := 11) rfl rfl rfl rfl ?_
  refine w_getI (p' := 14) (j := 4) rfl rfl (by decide) rfl rfl ?_
  refine v_callI (M' := 41) (p' := 17) (rest := []) (as := [(.inr (.inr (.inl (some 1)))), (.inl ((s 43 3) + 1)), (.inl (s 43 4))]) rfl rfl rfl rfl rfl rfl rfl rfl rfl rfl rfl trivial rfl h (fun r2 s1 h => ?_)
  refine w_istore (p' := 18) (ls' := [some (.inr (.inr (.inl (some 43)))), some (.inl r2), none, none, none, none]) rfl rfl rfl (Nat.le_of_ble_eq_true rfl) rfl ?_
  refine w_iload (p' := 19) rfl rfl rfl rfl ?_
  refine w_const (p' := 20) rfl rfl rfl ?_
  refine w_add (p' := 21) rfl rfl h.1 ?_
  have h := h.2
  refine w_istore (p' := 22) (ls' := [some (.inr (.inr (.inl (some 43)))), some (.inl r2), some (.inl (r2 + 2)), none, none, none]) rfl rfl rfl (Nat.le_of_ble_eq_true rfl) rfl ?_
  refine w_aload (p' := 23) rfl rfl rfl rfl ?_
  refine w_const (p' := 24) rfl rfl rfl ?_
  refine v_callI (M' := 143) (p' := 27) (rest := []) (as := [(.inr (.inr (.inl (some 43)))), (.inl 0)]) rfl rfl rfl rfl rfl rfl rfl rfl rfl rfl rfl rfl rfl h (fun r4 s3 h => ?_)
  refine w_const (p' := 29) rfl rfl rfl ?_
  refine w_icmp (t := 64) (e := 32) rfl rfl rfl (fun e => ?_) (fun e => ?_)
  · have h := h.1 e
    refine w_lconst (p' := 65) rfl rfl rfl ?_
    exact w_lret rfl ⟨rfl, _, rfl, h⟩
  · have h := h.2 e
    refine w_aload (p' := 33) rfl rfl rfl rfl ?_
    refine w_iload (p' := 34) rfl rfl rfl rfl ?_
    refine w_aload (p' := 35) rfl rfl rfl rfl ?_
    refine w_getI (p' := 38) (j := 3) rfl rfl (by decide) rfl rfl ?_
    refine w_sub (p' := 39) rfl rfl h.1 ?_
    have h := h.2
    refine v_callI (M' := 143) (p' := 42) (rest := []) (as := [(.inr (.inr (.inl (some 43)))), (.inl (r2 - (s3 43 3)))]) rfl rfl rfl rfl rfl rfl rfl rfl rfl rfl rfl rfl rfl h (fun r6 s5 h => ?_)
    refine w_const (p' := 44) rfl rfl rfl ?_
    refine w_icmp (t := 64) (e := 47) rfl rfl rfl (fun e => ?_) (fun e => ?_)
    · have h := h.1 e
      refine w_lconst (p' := 65) rfl rfl rfl ?_
      exact w_lret rfl ⟨rfl, _, rfl, h⟩
    · have h := h.2 e
      refine w_aload (p' := 48) rfl rfl rfl rfl ?_
      refine w_iload (p' := 49) rfl rfl rfl rfl ?_
      refine w_const (p' := 50) rfl rfl rfl ?_
      refine w_add (p' := 51) rfl rfl h.1 ?_
      have h := h.2
      refine w_aload (p' := 52) rfl rfl rfl rfl ?_
      refine w_getI (p' := 55) (j := 3) rfl rfl (by decide) rfl rfl ?_
      refine w_sub (p' := 56) rfl rfl h.1 ?_
      have h := h.2
      refine v_callI (M' := 143) (p' := 59) (rest := []) (as := [(.inr (.inr (.inl (some 43)))), (.inl ((r2 + 1) - (s5 43 3)))]) rfl rfl rfl rfl rfl rfl rfl rfl rfl rfl rfl rfl rfl h (fun r8 s7 h => ?_)
      refine w_const (p' := 61) rfl rfl rfl ?_
      refine w_icmp (t := 66) (e := 64) rfl rfl rfl (fun e => ?_) (fun e => ?_)
      · have h := h.1 e
        refine w_aload (p' := 67) rfl rfl rfl rfl ?_
        refine w_getR (p' := 70) rfl rfl rfl rfl rfl ?_
        refine w_iload (p' := 71) rfl rfl rfl rfl ?_
        refine w_aload (p' := 72) rfl rfl rfl rfl ?_
        refine w_getI (p' := 75) (j := 4) rfl rfl (by decide) rfl rfl ?_
        refine v_callI (M' := 39) (p' := 78) (rest := []) (as := [(.inr (.inr (.inl (some 1)))), (.inl (r2 + 2)), (.inl (s7 43 4))]) rfl rfl rfl rfl rfl rfl rfl rfl rfl rfl rfl trivial rfl h (fun r10 s9 h => ?_)
        refine w_istore (p' := 79) (ls' := [some (.inr (.inr (.inl (some 43)))), some (.inl r2), some (.inl (r2 + 2)), some (.inl r10), none, none]) rfl rfl rfl (Nat.le_of_ble_eq_true rfl) rfl ?_
        refine w_aload (p' := 80) rfl rfl rfl rfl ?_
        refine w_getR (p' := 83) rfl rfl rfl rfl rfl ?_
        refine w_iload (p' := 84) rfl rfl rfl rfl ?_
        refine w_aload (p' := 85) rfl rfl rfl rfl ?_
        refine w_getI (p' := 88) (j := 4) rfl rfl (by decide) rfl rfl ?_
        refine v_callI (M' := 41) (p' := 91) (rest := []) (as := [(.inr (.inr (.inl (some 1)))), (.inl r10), (.inl (s9 43 4))]) rfl rfl rfl rfl rfl rfl rfl rfl rfl rfl rfl trivial rfl h (fun r12 s11 h => ?_)
        refine w_istore (p' := 93) (ls' := [some (.inr (.inr (.inl (some 43)))), some (.inl r2), some (.inl (r2 + 2)), some (.inl r10), some (.inl r12), none]) rfl rfl rfl (Nat.le_of_ble_eq_true rfl) rfl ?_
        refine w_iload (p' := 95) rfl rfl rfl rfl ?_
        refine w_iload (p' := 96) rfl rfl rfl rfl ?_
        refine w_sub (p' := 97) rfl rfl h.1 ?_
        have h := h.2
        refine w_istore (p' := 99) (ls' := [some (.inr (.inr (.inl (some 43)))), some (.inl r2), some (.inl (r2 + 2)), some (.inl r10), some (.inl r12), some (.inl (r12 - r10))]) rfl rfl rfl (Nat.le_of_ble_eq_true rfl) rfl ?_
        refine w_iload (p' := 100) rfl rfl rfl rfl ?_
        refine w_iload (p' := 101) rfl rfl rfl rfl ?_
        refine w_icmp (t := 137) (e := 104) rfl rfl rfl (fun e => ?_) (fun e => ?_)
        · have h := h.1 e
          refine w_lconst (p' := 138) rfl rfl rfl ?_
          exact w_lret rfl ⟨rfl, _, rfl, h⟩
        · have h := h.2 e
          refine w_iload (p' := 106) rfl rfl rfl rfl ?_
          refine w_const (p' := 107) rfl rfl rfl ?_
          refine w_icmp (t := 137) (e := 110) rfl rfl rfl (fun e => ?_) (fun e => ?_)
          · have h := h.1 e
            refine w_lconst (p' := 138) rfl rfl rfl ?_
            exact w_lret rfl ⟨rfl, _, rfl, h⟩
          · have h := h.2 e
            refine w_iload (p' := 112) rfl rfl rfl rfl ?_
            refine w_const (p' := 114) rfl rfl rfl ?_
            refine w_icmp (t := 137) (e := 117) rfl rfl rfl (fun e => ?_) (fun e => ?_)
            · have h := h.1 e
              refine w_lconst (p' := 138) rfl rfl rfl ?_
              exact w_lret rfl ⟨rfl, _, rfl, h⟩
            · have h := h.2 e
              refine w_aload (p' := 118) rfl rfl rfl rfl ?_
              refine w_getR (p' := 121) rfl rfl rfl rfl rfl ?_
              refine w_iload (p' := 123) rfl rfl rfl rfl ?_
              refine w_aload (p' := 124) rfl rfl rfl rfl ?_
              refine w_getI (p' := 127) (j := 4) rfl rfl (by decide) rfl rfl ?_
              refine v_callI (M' := 39) (p' := 130) (rest := []) (as := [(.inr (.inr (.inl (some 1)))), (.inl r12), (.inl (s11 43 4))]) rfl rfl rfl rfl rfl rfl rfl rfl rfl rfl rfl trivial rfl h (fun r14 s13 h => ?_)
              refine w_aload (p' := 131) rfl rfl rfl rfl ?_
              refine w_getI (p' := 134) (j := 4) rfl rfl (by decide) rfl rfl ?_
              refine w_icmp (t := 139) (e := 137) rfl rfl rfl (fun e => ?_) (fun e => ?_)
              · have h := h.1 e
                refine w_aload (p' := 140) rfl rfl rfl rfl ?_
                refine w_getR (p' := 143) rfl rfl rfl rfl rfl ?_
                refine w_aload (p' := 144) rfl rfl rfl rfl ?_
                refine w_getI (p' := 147) (j := 3) rfl rfl (by decide) rfl rfl ?_
                refine w_const (p' := 148) rfl rfl rfl ?_
                refine w_add (p' := 149) rfl rfl h.1 ?_
                have h := h.2
                refine w_iload (p' := 150) rfl rfl rfl rfl ?_
                refine v_callL (M' := 42) (p' := 153) (rest := []) (as := [(.inr (.inr (.inl (some 1)))), (.inl ((s13 43 3) + 1)), (.inl r2)]) rfl rfl rfl rfl rfl rfl rfl rfl rfl rfl rfl trivial rfl h (fun r16 s15 h => ?_)
                exact w_lret rfl ⟨rfl, _, rfl, h⟩
              · have h := h.2 e
                refine w_lconst (p' := 138) rfl rfl rfl ?_
                exact w_lret rfl ⟨rfl, _, rfl, h⟩
      · have h := h.2 e
        refine w_lconst (p' := 65) rfl rfl rfl ?_
        exact w_lret rfl ⟨rfl, _, rfl, h⟩
set_option maxRecDepth 20000 in
theorem sg_Rd_look {X : Nat × (Nat → Int32)} {x1 : Int} {s : qM} {K : Int → qM → Prop} (h : (-2147483648 ≤ ((s 43 3) + x1) ∧ ((s 43 3) + x1) < 2147483648) ∧ ((((s 43 4) ≤ ((s 43 3) + x1)) → K (-1) s) ∧ (¬ ((s 43 4) ≤ ((s 43 3) + x1)) → (-2147483648 ≤ ((s 43 3) + x1) ∧ ((s 43 3) + x1) < 2147483648) ∧ c_Row_at X 1 ((s 43 3) + x1) s (fun r2 s1 => K r2 s1)))) : c_Rd_look X x1 s K := by
  unfold c_Rd_look
  refine w_aload (p' := 1) rfl rfl rfl rfl ?_
  refine w_getI (p' := 4) (j := 3) rfl rfl (by decide) rfl rfl ?_
  refine w_iload (p' := 5) rfl rfl rfl rfl ?_
  refine w_add (p' := 6) rfl rfl h.1 ?_
  have h := h.2
  refine w_aload (p' := 7) rfl rfl rfl rfl ?_
  refine w_getI (p' := 10) (j := 4) rfl rfl (by decide) rfl rfl ?_
  refine w_icmp (t := 29) (e := 13) rfl rfl rfl (fun e => ?_) (fun e => ?_)
  · have h := h.1 e
    refine w_const (p' := 30) rfl rfl rfl ?_
    exact w_iret rfl trivial ⟨rfl, _, rfl, h⟩
  · have h := h.2 e
    refine w_aload (p' := 14) rfl rfl rfl rfl ?_
    refine w_getR (p' := 17) rfl rfl rfl rfl rfl ?_
    refine w_aload (p' := 18) rfl rfl rfl rfl ?_
    refine w_getI (p' := 21) (j := 3) rfl rfl (by decide) rfl rfl ?_
    refine w_iload (p' := 22) rfl rfl rfl rfl ?_
    refine w_add (p' := 23) rfl rfl h.1 ?_
    have h := h.2
    refine v_callI (M' := 224) (p' := 26) (rest := []) (as := [(.inr (.inr (.inl (some 1)))), (.inl ((s 43 3) + x1))]) rfl rfl rfl rfl rfl rfl rfl rfl rfl rfl rfl rfl rfl h (fun r2 s1 h => ?_)
    refine w_goto (p' := 30) rfl rfl ?_
    exact w_iret rfl trivial ⟨rfl, _, rfl, h⟩
set_option maxRecDepth 20000 in
theorem sg_Rd_takeOff {X : Nat × (Nat → Int32)} {x1 : Int} {x2 : Int} {s : qM} {K : qM → Prop} (h : L_Rd_takeOff_2 X x1 x2 0 s K) : c_Rd_takeOff X x1 x2 s K := by
  unfold c_Rd_takeOff
  refine w_const (p' := 1) rfl rfl rfl ?_
  refine w_istore (p' := 2) (ls' := [some (.inr (.inr (.inl (some 43)))), some (.inl x1), some (.inl x2), some (.inl 0)]) rfl rfl rfl (Nat.le_of_ble_eq_true rfl) rfl ?_
  exact w_cut (q_le_s (q_le_s (q_le_s (q_le_s q_le_z)))) h
set_option maxRecDepth 20000 in
theorem sg_Rd_takeOff_2 {X : Nat × (Nat → Int32)}  {v1 v2 v3 : Int} {s : qM} {K : qM → Prop} (h : (((v1 ≤ v3) → K s) ∧ (¬ (v1 ≤ v3) → c_Blocks_own X (s 43 3) v2 s (fun s1 => (-2147483648 ≤ ((s1 43 3) + 1) ∧ ((s1 43 3) + 1) < 2147483648) ∧ (∀ s2 : qM, s2 = q_up s1 43 3 ((s1 43 3) + 1) → (-2147483648 ≤ (v3 + 1) ∧ (v3 + 1) < 2147483648) ∧ L_Rd_takeOff_2 X v1 v2 (v3 + 1) s2 K))))) : L_Rd_takeOff_2 X v1 v2 v3 s K := by
  unfold L_Rd_takeOff_2
  refine w_iload (p' := 3) rfl rfl rfl rfl ?_
  refine w_iload (p' := 4) rfl rfl rfl rfl ?_
  refine w_icmp (t := 35) (e := 7) rfl rfl rfl (fun e => ?_) (fun e => ?_)
  · have h := h.1 e
    exact w_vret rfl ⟨rfl, rfl, h⟩
  · have h := h.2 e
    refine w_aload (p' := 8) rfl rfl rfl rfl ?_
    refine w_getR (p' := 11) rfl rfl rfl rfl rfl ?_
    refine w_aload (p' := 12) rfl rfl rfl rfl ?_
    refine w_getI (p' := 15) (j := 3) rfl rfl (by decide) rfl rfl ?_
    refine w_iload (p' := 16) rfl rfl rfl rfl ?_
    refine v_callV (M' := 169) (p' := 19) (rest := []) (as := [(.inr (.inr (.inl (some 12)))), (.inl (s 43 3)), (.inl v2)]) rfl rfl rfl rfl rfl rfl rfl rfl rfl rfl rfl rfl rfl h (fun s1 h => ?_)
    refine w_aload (p' := 20) rfl rfl rfl rfl ?_
    refine w_dup (p' := 21) rfl rfl rfl ?_
    refine w_getI (p' := 24) (j := 3) rfl rfl (by decide) rfl rfl ?_
    refine w_const (p' := 25) rfl rfl rfl ?_
    refine w_add (p' := 26) rfl rfl h.1 ?_
    have h := h.2
    refine v_putI (p' := 29) (j := 3) rfl rfl (by decide) rfl rfl trivial ?_
    intro s2 es2
    have h := h s2 es2
    refine w_iinc (p' := 32) (ls' := [some (.inr (.inr (.inl (some 43)))), some (.inl v1), some (.inl v2), some (.inl (v3 + 1))]) rfl rfl rfl (Nat.le_of_ble_eq_true rfl) h.1 rfl ?_
    have h := h.2
    refine w_goto (p' := 2) rfl rfl ?_
    exact w_cut (q_le_s (q_le_s (q_le_s (q_le_s q_le_z)))) h
set_option maxRecDepth 20000 in
theorem sg_Rd_ownRest {X : Nat × (Nat → Int32)} {x1 : Int} {x2 : Int} {s : qM} {K : qM → Prop} (h : c_Blocks_ownLine X x1 x2 s (fun s1 => L_Rd_ownRest_14 X x2 (s1 43 3) s1 K)) : c_Rd_ownRest X x1 x2 s K := by
  unfold c_Rd_ownRest
  refine w_aload (p' := 1) rfl rfl rfl rfl ?_
  refine w_getR (p' := 4) rfl rfl rfl rfl rfl ?_
  refine w_iload (p' := 5) rfl rfl rfl rfl ?_
  refine w_iload (p' := 6) rfl rfl rfl rfl ?_
  refine v_callV (M' := 167) (p' := 9) (rest := []) (as := [(.inr (.inr (.inl (some 12)))), (.inl x1), (.inl x2)]) rfl rfl rfl rfl rfl rfl rfl rfl rfl rfl rfl rfl rfl h (fun s1 h => ?_)
  refine w_aload (p' := 10) rfl rfl rfl rfl ?_
  refine w_getI (p' := 13) (j := 3) rfl rfl (by decide) rfl rfl ?_
  refine w_istore (p' := 14) (ls' := [some (.inr (.inr (.inl (some 43)))), some (.inl x1), some (.inl x2), some (.inl (s1 43 3))]) rfl rfl rfl (Nat.le_of_ble_eq_true rfl) rfl ?_
  exact w_cut (q_le_s (q_le_n (q_le_s (q_le_s q_le_z)))) h
set_option maxRecDepth 20000 in
theorem sg_Rd_ownRest_14 {X : Nat × (Nat → Int32)}  {v2 v3 : Int} {s : qM} {K : qM → Prop} (h : ((((s 43 4) < v3) → K s) ∧ (¬ ((s 43 4) < v3) → c_Blocks_own X v3 v2 s (fun s1 => (-2147483648 ≤ (v3 + 1) ∧ (v3 + 1) < 2147483648) ∧ L_Rd_ownRest_14 X v2 (v3 + 1) s1 K)))) : L_Rd_ownRest_14 X v2 v3 s K := by
  unfold L_Rd_ownRest_14
  refine w_iload (p' := 15) rfl rfl rfl rfl ?_
  refine w_aload (p' := 16) rfl rfl rfl rfl ?_
  refine w_getI (p' := 19) (j := 4) rfl rfl (by decide) rfl rfl ?_
  refine w_icmp (t := 37) (e := 22) rfl rfl rfl (fun e => ?_) (fun e => ?_)
  · have h := h.1 e
    exact w_vret rfl ⟨rfl, rfl, h⟩
  · have h := h.2 e
    refine w_aload (p' := 23) rfl rfl rfl rfl ?_
    refine w_getR (p' := 26) rfl rfl rfl rfl rfl ?_
    refine w_iload (p' := 27) rfl rfl rfl rfl ?_
    refine w_iload (p' := 28) rfl rfl rfl rfl ?_
    refine v_callV (M' := 169) (p' := 31) (rest := []) (as := [(.inr (.inr (.inl (some 12)))), (.inl v3), (.inl v2)]) rfl rfl rfl rfl rfl rfl rfl rfl rfl rfl rfl rfl rfl h (fun s1 h => ?_)
    refine w_iinc (p' := 34) (ls' := [some (.inr (.inr (.inl (some 43)))), none, some (.inl v2), some (.inl (v3 + 1))]) rfl rfl rfl (Nat.le_of_ble_eq_true rfl) h.1 rfl ?_
    have h := h.2
    refine w_goto (p' := 14) rfl rfl ?_
    exact w_cut (q_le_s (q_le_n (q_le_s (q_le_s q_le_z)))) h
set_option maxRecDepth 20000 in
theorem sg_Blocks_start {X : Nat × (Nat → Int32)} {x1 : Int} {x2 : Int} {s : qM} {K : qM → Prop} (h : c_Row_empty X 13 s (fun s1 => c_Row_empty X 15 s1 (fun s2 => c_Row_empty X 17 s2 (fun s3 => c_Row_empty X 19 s3 (fun s4 => c_Row_empty X 21 s4 (fun s5 => c_Row_empty X 23 s5 (fun s6 => c_Row_empty X 25 s6 (fun s7 => c_Row_empty X 27 s7 (fun s8 => c_Row_fill X 29 x2 0 s8 (fun s9 => c_Row_fill X 31 x2 0 s9 (fun s10 => c_Row_fill X 33 x1 0 s10 (fun s11 => c_Names_empty X 35 s11 (fun s12 => c_Names_empty X 39 s12 (fun s13 => K s13)))))))))))))) : c_Blocks_start X x1 x2 s K := by
  unfold c_Blocks_start
  refine w_aload (p' := 1) rfl rfl rfl rfl ?_
  refine w_getR (p' := 4) rfl rfl rfl rfl rfl ?_
  refine v_callV (M' := 227) (p' := 7) (rest := []) (as := [(.inr (.inr (.inl (some 13))))]) rfl rfl rfl rfl rfl rfl rfl rfl rfl rfl rfl rfl rfl h (fun s1 h => ?_)
  refine w_aload (p' := 8) rfl rfl rfl rfl ?_
  refine w_getR (p' := 11) rfl rfl rfl rfl rfl ?_
  refine v_callV (M' := 227) (p' := 14) (rest := []) (as := [(.inr (.inr (.inl (some 15))))]) rfl rfl rfl rfl rfl rfl rfl rfl rfl rfl rfl rfl rfl h (fun s2 h => ?_)
  refine w_aload (p' := 15) rfl rfl rfl rfl ?_
  refine w_getR (p' := 18) rfl rfl rfl rfl rfl ?_
  refine v_callV (M' := 227) (p' := 21) (rest := []) (as := [(.inr (.inr (.inl (some 17))))]) rfl rfl rfl rfl rfl rfl rfl rfl rfl rfl rfl rfl rfl h (fun s3 h => ?_)
  refine w_aload (p' := 22) rfl rfl rfl rfl ?_
  refine w_getR (p' := 25) rfl rfl rfl rfl rfl ?_
  refine v_callV (M' := 227) (p' := 28) (rest := []) (as := [(.inr (.inr (.inl (some 19))))]) rfl rfl rfl rfl rfl rfl rfl rfl rfl rfl rfl rfl rfl h (fun s4 h => ?_)
  refine w_aload (p' := 29) rfl rfl rfl rfl ?_
  refine w_getR (p' := 32) rfl rfl rfl rfl rfl ?_
  refine v_callV (M' := 227) (p' := 35) (rest := []) (as := [(.inr (.inr (.inl (some 21))))]) rfl rfl rfl rfl rfl rfl rfl rfl rfl rfl rfl rfl rfl h (fun s5 h => ?_)
  refine w_aload (p' := 36) rfl rfl rfl rfl ?_
  refine w_getR (p' := 39) rfl rfl rfl rfl rfl ?_
  refine v_callV (M' := 227) (p' := 42) (rest := []) (as := [(.inr (.inr (.inl (some 23))))]) rfl rfl rfl rfl rfl rfl rfl rfl rfl rfl rfl rfl rfl h (fun s6 h => ?_)
  refine w_aload (p' := 43) rfl rfl rfl rfl ?_
  refine w_getR (p' := 46) rfl rfl rfl rfl rfl ?_
  refine v_callV (M' := 227) (p' := 49) (rest := []) (as := [(.inr (.inr (.inl (some 25))))]) rfl rfl rfl rfl rfl rfl rfl rfl rfl rfl rfl rfl rfl h (fun s7 h => ?_)
  refine w_aload (p' := 50) rfl rfl rfl rfl ?_
  refine w_getR (p' := 53) rfl rfl rfl rfl rfl ?_
  refine v_callV (M' := 227) (p' := 56) (rest := []) (as := [(.inr (.inr (.inl (some 27))))]) rfl rfl rfl rfl rfl rfl rfl rfl rfl rfl rfl rfl rfl h (fun s8 h => ?_)
  refine w_aload (p' := 57) rfl rfl rfl rfl ?_
  refine w_getR (p' := 60) rfl rfl rfl rfl rfl ?_
  refine w_iload (p' := 61) rfl rfl rfl rfl ?_
  refine w_const (p' := 62) rfl rfl rfl ?_
  refine v_callV (M' := 229) (p' := 65) (rest := []) (as := [(.inr (.inr (.inl (some 29)))), (.inl x2), (.inl 0)]) rfl rfl rfl rfl rfl rfl rfl rfl rfl rfl rfl rfl rfl h (fun s9 h => ?_)
  refine w_aload (p' := 66) rfl rfl rfl rfl ?_
  refine w_getR (p' := 69) rfl rfl rfl rfl rfl ?_
  refine w_iload (p' := 70) rfl rfl rfl rfl ?_
  refine w_const (p' := 71) rfl rfl rfl ?_
  refine v_callV (M' := 229) (p' := 74) (rest := []) (as := [(.inr (.inr (.inl (some 31)))), (.inl x2), (.inl 0)]) rfl rfl rfl rfl rfl rfl rfl rfl rfl rfl rfl rfl rfl h (fun s10 h => ?_)
  refine w_aload (p' := 75) rfl rfl rfl rfl ?_
  refine w_getR (p' := 78) rfl rfl rfl rfl rfl ?_
  refine w_iload (p' := 79) rfl rfl rfl rfl ?_
  refine w_const (p' := 80) rfl rfl rfl ?_
  refine v_callV (M' := 229) (p' := 83) (rest := []) (as := [(.inr (.inr (.inl (some 33)))), (.inl x1), (.inl 0)]) rfl rfl rfl rfl rfl rfl rfl rfl rfl rfl rfl rfl rfl h (fun s11 h => ?_)
  refine w_aload (p' := 84) rfl rfl rfl rfl ?_
  refine w_getR (p' := 87) rfl rfl rfl rfl rfl ?_
  refine v_callV (M' := 207) (p' := 90) (rest := []) (as := [(.inr (.inr (.inl (some 35))))]) rfl rfl rfl rfl rfl rfl rfl rfl rfl rfl rfl rfl rfl h (fun s12 h => ?_)
  refine w_aload (p' := 91) rfl rfl rfl rfl ?_
  refine w_getR (p' := 94) rfl rfl rfl rfl rfl ?_
  refine v_callV (M' := 207) (p' := 97) (rest := []) (as := [(.inr (.inr (.inl (some 39))))]) rfl rfl rfl rfl rfl rfl rfl rfl rfl rfl rfl rfl rfl h (fun s13 h => ?_)
  exact w_vret rfl ⟨rfl, rfl, h⟩
set_option maxRecDepth 20000 in
theorem sg_Blocks_add {X : Nat × (Nat → Int32)} {x1 : Int} {x2 : Int} {x3 : Int} {s : qM} {K : Int → qM → Prop} (h : c_Row_at X 13 x2 s (fun r2 s1 => (((r2 ≠ 3) → (((x3 = 0) → L_Blocks_add_65 X x1 x2 s1 K) ∧ (¬ (x3 = 0) → c_Row_at X 19 x2 s1 (fun r4 s3 => (((r4 ≠ 1) → L_Blocks_add_65 X x1 x2 s3 K) ∧ (¬ (r4 ≠ 1) → c_Row_at X 13 x2 s3 (fun r6 s5 => (((r6 ≠ 2) → L_Blocks_add_65 X x1 x2 s5 K) ∧ (¬ (r6 ≠ 2) → c_Row_set X 21 x2 1 s5 (fun s7 => L_Blocks_add_65 X x1 x2 s7 K)))))))))) ∧ (¬ (r2 ≠ 3) → c_Row_at X 15 x2 s1 (fun r9 s8 => (((x3 = 0) → L_Blocks_add_65 X x1 x2 s8 K) ∧ (¬ (x3 = 0) → c_Row_at X 19 x2 s8 (fun r11 s10 => (((r11 ≠ 1) → L_Blocks_add_65 X x1 x2 s10 K) ∧ (¬ (r11 ≠ 1) → c_Row_at X 13 r9 s10 (fun r13 s12 => (((r13 ≠ 2) → L_Blocks_add_65 X x1 x2 s12 K) ∧ (¬ (r13 ≠ 2) → c_Row_set X 21 r9 1 s12 (fun s14 => L_Blocks_add_65 X x1 x2 s14 K)))))))))))))) : c_Blocks_add X x1 x2 x3 s K := by
  unfold c_Blocks_add
  refine w_aload (p' := 1) rfl rfl rfl rfl ?_
  refine w_getR (p' := 4) rfl rfl rfl rfl rfl ?_
  refine w_iload (p' := 5) rfl rfl rfl rfl ?_
  refine v_callI (M' := 224) (p' := 8) (rest := []) (as := [(.inr (.inr (.inl (some 13)))), (.inl x2)]) rfl rfl rfl rfl rfl rfl rfl rfl rfl rfl rfl rfl rfl h (fun r2 s1 h => ?_)
  refine w_const (p' := 9) rfl rfl rfl ?_
  refine w_icmp (t := 23) (e := 12) rfl rfl rfl (fun e => ?_) (fun e => ?_)
  · have h := h.1 e
    refine w_iload (p' := 24) rfl rfl rfl rfl ?_
    refine w_istore (p' := 26) (ls' := [some (.inr (.inr (.inl (some 12)))), some (.inl x1), some (.inl x2), some (.inl x3), some (.inl x2), none]) rfl rfl rfl (Nat.le_of_ble_eq_true rfl) rfl ?_
    refine w_iload (p' := 27) rfl rfl rfl rfl ?_
    refine w_if (t := 65) (e := 30) rfl rfl rfl (fun e => ?_) (fun e => ?_)
    · have h := h.1 e
      exact w_cut (q_le_s (q_le_s (q_le_s (q_le_n (q_le_n (q_le_n q_le_z)))))) h
    · have h := h.2 e
      refine w_aload (p' := 31) rfl rfl rfl rfl ?_
      refine w_getR (p' := 34) rfl rfl rfl rfl rfl ?_
      refine w_iload (p' := 35) rfl rfl rfl rfl ?_
      refine v_callI (M' := 224) (p' := 38) (rest := []) (as := [(.inr (.inr (.inl (some 19)))), (.inl x2)]) rfl rfl rfl rfl rfl rfl rfl rfl rfl rfl rfl rfl rfl h (fun r4 s3 h => ?_)
      refine w_const (p' := 39) rfl rfl rfl ?_
      refine w_icmp (t := 65) (e := 42) rfl rfl rfl (fun e => ?_) (fun e => ?_)
      · have h := h.1 e
        exact w_cut (q_le_s (q_le_s (q_le_s (q_le_n (q_le_n (q_le_n q_le_z)))))) h
      · have h := h.2 e
        refine w_aload (p' := 43) rfl rfl rfl rfl ?_
        refine w_getR (p' := 46) rfl rfl rfl rfl rfl ?_
        refine w_iload (p' := 48) rfl rfl rfl rfl ?_
        refine v_callI (M' := 224) (p' := 51) (rest := []) (as := [(.inr (.inr (.inl (some 13)))), (.inl x2)]) rfl rfl rfl rfl rfl rfl rfl rfl rfl rfl rfl rfl rfl h (fun r6 s5 h => ?_)
        refine w_const (p' := 52) rfl rfl rfl ?_
        refine w_icmp (t := 65) (e := 55) rfl rfl rfl (fun e => ?_) (fun e => ?_)
        · have h := h.1 e
          exact w_cut (q_le_s (q_le_s (q_le_s (q_le_n (q_le_n (q_le_n q_le_z)))))) h
        · have h := h.2 e
          refine w_aload (p' := 56) rfl rfl rfl rfl ?_
          refine w_getR (p' := 59) rfl rfl rfl rfl rfl ?_
          refine w_iload (p' := 61) rfl rfl rfl rfl ?_
          refine w_const (p' := 62) rfl rfl rfl ?_
          refine v_callV (M' := 225) (p' := 65) (rest := []) (as := [(.inr (.inr (.inl (some 21)))), (.inl x2), (.inl 1)]) rfl rfl rfl rfl rfl rfl rfl rfl rfl rfl rfl rfl rfl h (fun s7 h => ?_)
          exact w_cut (q_le_s (q_le_s (q_le_s (q_le_n (q_le_n (q_le_n q_le_z)))))) h
  · have h := h.2 e
    refine w_aload (p' := 13) rfl rfl rfl rfl ?_
    refine w_getR (p' := 16) rfl rfl rfl rfl rfl ?_
    refine w_iload (p' := 17) rfl rfl rfl rfl ?_
    refine v_callI (M' := 224) (p' := 20) (rest := []) (as := [(.inr (.inr (.inl (some 15)))), (.inl x2)]) rfl rfl rfl rfl rfl rfl rfl rfl rfl rfl rfl rfl rfl h (fun r9 s8 h => ?_)
    refine w_goto (p' := 24) rfl rfl ?_
    refine w_istore (p' := 26) (ls' := [some (.inr (.inr (.inl (some 12)))), some (.inl x1), some (.inl x2), some (.inl x3), some (.inl r9), none]) rfl rfl rfl (Nat.le_of_ble_eq_true rfl) rfl ?_
    refine w_iload (p' := 27) rfl rfl rfl rfl ?_
    refine w_if (t := 65) (e := 30) rfl rfl rfl (fun e => ?_) (fun e => ?_)
    · have h := h.1 e
      exact w_cut (q_le_s (q_le_s (q_le_s (q_le_n (q_le_n (q_le_n q_le_z)))))) h
    · have h := h.2 e
      refine w_aload (p' := 31) rfl rfl rfl rfl ?_
      refine w_getR (p' := 34) rfl rfl rfl rfl rfl ?_
      refine w_iload (p' := 35) rfl rfl rfl rfl ?_
      refine v_callI (M' := 224) (p' := 38) (rest := []) (as := [(.inr (.inr (.inl (some 19)))), (.inl x2)]) rfl rfl rfl rfl rfl rfl rfl rfl rfl rfl rfl rfl rfl h (fun r11 s10 h => ?_)
      refine w_const (p' := 39) rfl rfl rfl ?_
      refine w_icmp (t := 65) (e := 42) rfl rfl rfl (fun e => ?_) (fun e => ?_)
      · have h := h.1 e
        exact w_cut (q_le_s (q_le_s (q_le_s (q_le_n (q_le_n (q_le_n q_le_z)))))) h
      · have h := h.2 e
        refine w_aload (p' := 43) rfl rfl rfl rfl ?_
        refine w_getR (p' := 46) rfl rfl rfl rfl rfl ?_
        refine w_iload (p' := 48) rfl rfl rfl rfl ?_
        refine v_callI (M' := 224) (p' := 51) (rest := []) (as := [(.inr (.inr (.inl (some 13)))), (.inl r9)]) rfl rfl rfl rfl rfl rfl rfl rfl rfl rfl rfl rfl rfl h (fun r13 s12 h => ?_)
        refine w_const (p' := 52) rfl rfl rfl ?_
        refine w_icmp (t := 65) (e := 55) rfl rfl rfl (fun e => ?_) (fun e => ?_)
        · have h := h.1 e
          exact w_cut (q_le_s (q_le_s (q_le_s (q_le_n (q_le_n (q_le_n q_le_z)))))) h
        · have h := h.2 e
          refine w_aload (p' := 56) rfl rfl rfl rfl ?_
          refine w_getR (p' := 59) rfl rfl rfl rfl rfl ?_
          refine w_iload (p' := 61) rfl rfl rfl rfl ?_
          refine w_const (p' := 62) rfl rfl rfl ?_
          refine v_callV (M' := 225) (p' := 65) (rest := []) (as := [(.inr (.inr (.inl (some 21)))), (.inl r9), (.inl 1)]) rfl rfl rfl rfl rfl rfl rfl rfl rfl rfl rfl rfl rfl h (fun s14 h => ?_)
          exact w_cut (q_le_s (q_le_s (q_le_s (q_le_n (q_le_n (q_le_n q_le_z)))))) h
set_option maxRecDepth 20000 in
theorem sg_Blocks_add_65 {X : Nat × (Nat → Int32)}  {v1 v2 : Int} {s : qM} {K : Int → qM → Prop} (h : c_Row_size X 13 s (fun r2 s1 => c_Row_add X 13 v1 s1 (fun s3 => c_Row_add X 15 v2 s3 (fun s4 => c_Row_add X 17 (-1) s4 (fun s5 => c_Row_add X 19 0 s5 (fun s6 => c_Row_add X 21 0 s6 (fun s7 => c_Row_add X 23 (-1) s7 (fun s8 => c_Row_add X 25 (-1) s8 (fun s9 => c_Row_add X 27 0 s9 (fun s10 => c_Row_set X 19 v2 1 s10 (fun s11 => c_Row_set X 17 v2 r2 s11 (fun s12 => K r2 s12)))))))))))) : L_Blocks_add_65 X v1 v2 s K := by
  unfold L_Blocks_add_65
  refine w_aload (p' := 66) rfl rfl rfl rfl ?_
  refine w_getR (p' := 69) rfl rfl rfl rfl rfl ?_
  refine v_callI (M' := 223) (p' := 72) (rest := []) (as := [(.inr (.inr (.inl (some 13))))]) rfl rfl rfl rfl rfl rfl rfl rfl rfl rfl rfl rfl rfl h (fun r2 s1 h => ?_)
  refine w_istore (p' := 74) (ls' := [some (.inr (.inr (.inl (some 12)))), some (.inl v1), some (.inl v2), none, none, some (.inl r2)]) rfl rfl rfl (Nat.le_of_ble_eq_true rfl) rfl ?_
  refine w_aload (p' := 75) rfl rfl rfl rfl ?_
  refine w_getR (p' := 78) rfl rfl rfl rfl rfl ?_
  refine w_iload (p' := 79) rfl rfl rfl rfl ?_
  refine v_callV (M' := 226) (p' := 82) (rest := []) (as := [(.inr (.inr (.inl (some 13)))), (.inl v1)]) rfl rfl rfl rfl rfl rfl rfl rfl rfl rfl rfl rfl rfl h (fun s3 h => ?_)
  refine w_aload (p' := 83) rfl rfl rfl rfl ?_
  refine w_getR (p' := 86) rfl rfl rfl rfl rfl ?_
  refine w_iload (p' := 87) rfl rfl rfl rfl ?_
  refine v_callV (M' := 226) (p' := 90) (rest := []) (as := [(.inr (.inr (.inl (some 15)))), (.inl v2)]) rfl rfl rfl rfl rfl rfl rfl rfl rfl rfl rfl rfl rfl h (fun s4 h => ?_)
  refine w_aload (p' := 91) rfl rfl rfl rfl ?_
  refine w_getR (p' := 94) rfl rfl rfl rfl rfl ?_
  refine w_const (p' := 95) rfl rfl rfl ?_
  refine v_callV (M' := 226) (p' := 98) (rest := []) (as := [(.inr (.inr (.inl (some 17)))), (.inl (-1))]) rfl rfl rfl rfl rfl rfl rfl rfl rfl rfl rfl rfl rfl h (fun s5 h => ?_)
  refine w_aload (p' := 99) rfl rfl rfl rfl ?_
  refine w_getR (p' := 102) rfl rfl rfl rfl rfl ?_
  refine w_const (p' := 103) rfl rfl rfl ?_
  refine v_callV (M' := 226) (p' := 106) (rest := []) (as := [(.inr (.inr (.inl (some 19)))), (.inl 0)]) rfl rfl rfl rfl rfl rfl rfl rfl rfl rfl rfl rfl rfl h (fun s6 h => ?_)
  refine w_aload (p' := 107) rfl rfl rfl rfl ?_
  refine w_getR (p' := 110) rfl rfl rfl rfl rfl ?_
  refine w_const (p' := 111) rfl rfl rfl ?_
  refine v_callV (M' := 226) (p' := 114) (rest := []) (as := [(.inr (.inr (.inl (some 21)))), (.inl 0)]) rfl rfl rfl rfl rfl rfl rfl rfl rfl rfl rfl rfl rfl h (fun s7 h => ?_)
  refine w_aload (p' := 115) rfl rfl rfl rfl ?_
  refine w_getR (p' := 118) rfl rfl rfl rfl rfl ?_
  refine w_const (p' := 119) rfl rfl rfl ?_
  refine v_callV (M' := 226) (p' := 122) (rest := []) (as := [(.inr (.inr (.inl (some 23)))), (.inl (-1))]) rfl rfl rfl rfl rfl rfl rfl rfl rfl rfl rfl rfl rfl h (fun s8 h => ?_)
  refine w_aload (p' := 123) rfl rfl rfl rfl ?_
  refine w_getR (p' := 126) rfl rfl rfl rfl rfl ?_
  refine w_const (p' := 127) rfl rfl rfl ?_
  refine v_callV (M' := 226) (p' := 130) (rest := []) (as := [(.inr (.inr (.inl (some 25)))), (.inl (-1))]) rfl rfl rfl rfl rfl rfl rfl rfl rfl rfl rfl rfl rfl h (fun s9 h => ?_)
  refine w_aload (p' := 131) rfl rfl rfl rfl ?_
  refine w_getR (p' := 134) rfl rfl rfl rfl rfl ?_
  refine w_const (p' := 135) rfl rfl rfl ?_
  refine v_callV (M' := 226) (p' := 138) (rest := []) (as := [(.inr (.inr (.inl (some 27)))), (.inl 0)]) rfl rfl rfl rfl rfl rfl rfl rfl rfl rfl rfl rfl rfl h (fun s10 h => ?_)
  refine w_aload (p' := 139) rfl rfl rfl rfl ?_
  refine w_getR (p' := 142) rfl rfl rfl rfl rfl ?_
  refine w_iload (p' := 143) rfl rfl rfl rfl ?_
  refine w_const (p' := 144) rfl rfl rfl ?_
  refine v_callV (M' := 225) (p' := 147) (rest := []) (as := [(.inr (.inr (.inl (some 19)))), (.inl v2), (.inl 1)]) rfl rfl rfl rfl rfl rfl rfl rfl rfl rfl rfl rfl rfl h (fun s11 h => ?_)
  refine w_aload (p' := 148) rfl rfl rfl rfl ?_
  refine w_getR (p' := 151) rfl rfl rfl rfl rfl ?_
  refine w_iload (p' := 152) rfl rfl rfl rfl ?_
  refine w_iload (p' := 154) rfl rfl rfl rfl ?_
  refine v_callV (M' := 225) (p' := 157) (rest := []) (as := [(.inr (.inr (.inl (some 17)))), (.inl v2), (.inl r2)]) rfl rfl rfl rfl rfl rfl rfl rfl rfl rfl rfl rfl rfl h (fun s12 h => ?_)
  refine w_iload (p' := 159) rfl rfl rfl rfl ?_
  exact w_iret rfl trivial ⟨rfl, _, rfl, h⟩
set_option maxRecDepth 20000 in
theorem sg_Blocks_close {X : Nat × (Nat → Int32)} {x1 : Int} {s : qM} {K : qM → Prop} (h : c_Row_at X 15 x1 s (fun r2 s1 => c_Row_set X 17 r2 (-1) s1 (fun s3 => K s3))) : c_Blocks_close X x1 s K := by
  unfold c_Blocks_close
  refine w_aload (p' := 1) rfl rfl rfl rfl ?_
  refine w_getR (p' := 4) rfl rfl rfl rfl rfl ?_
  refine w_aload (p' := 5) rfl rfl rfl rfl ?_
  refine w_getR (p' := 8) rfl rfl rfl rfl rfl ?_
  refine w_iload (p' := 9) rfl rfl rfl rfl ?_
  refine v_callI (M' := 224) (p' := 12) (rest := [(.inr (.inr (.inl (some 17))))]) (as := [(.inr (.inr (.inl (some 15)))), (.inl x1)]) rfl rfl rfl rfl rfl rfl rfl rfl rfl rfl rfl rfl rfl h (fun r2 s1 h => ?_)
  refine w_const (p' := 13) rfl rfl rfl ?_
  refine v_callV (M' := 225) (p' := 16) (rest := []) (as := [(.inr (.inr (.inl (some 17)))), (.inl r2), (.inl (-1))]) rfl rfl rfl rfl rfl rfl rfl rfl rfl rfl rfl rfl rfl h (fun s3 h => ?_)
  exact w_vret rfl ⟨rfl, rfl, h⟩
set_option maxRecDepth 20000 in
theorem sg_Blocks_openIn {X : Nat × (Nat → Int32)} {x1 : Int} {s : qM} {K : Int → qM → Prop} (h : c_Row_at X 17 x1 s (fun r2 s1 => K r2 s1)) : c_Blocks_openIn X x1 s K := by
  unfold c_Blocks_openIn
  refine w_aload (p' := 1) rfl rfl rfl rfl ?_
  refine w_getR (p' := 4) rfl rfl rfl rfl rfl ?_
  refine w_iload (p' := 5) rfl rfl rfl rfl ?_
  refine v_callI (M' := 224) (p' := 8) (rest := []) (as := [(.inr (.inr (.inl (some 17)))), (.inl x1)]) rfl rfl rfl rfl rfl rfl rfl rfl rfl rfl rfl rfl rfl h (fun r2 s1 h => ?_)
  exact w_iret rfl trivial ⟨rfl, _, rfl, h⟩
set_option maxRecDepth 20000 in
theorem sg_Blocks_innermostOpen {X : Nat × (Nat → Int32)}  {s : qM} {K : Int → qM → Prop} (h : L_Blocks_innermostOpen_4 X 0 0 s K) : c_Blocks_innermostOpen X  s K := by
  unfold c_Blocks_innermostOpen
  refine w_const (p' := 1) rfl rfl rfl ?_
  refine w_istore (p' := 2) (ls' := [some (.inr (.inr (.inl (some 12)))), some (.inl 0), none]) rfl rfl rfl (Nat.le_of_ble_eq_true rfl) rfl ?_
  refine w_const (p' := 3) rfl rfl rfl ?_
  refine w_istore (p' := 4) (ls' := [some (.inr (.inr (.inl (some 12)))), some (.inl 0), some (.inl 0)]) rfl rfl rfl (Nat.le_of_ble_eq_true rfl) rfl ?_
  exact w_cut (q_le_s (q_le_s (q_le_s q_le_z))) h
set_option maxRecDepth 20000 in
theorem sg_Blocks_innermostOpen_4 {X : Nat × (Nat → Int32)}  {v1 v2 : Int} {s : qM} {K : Int → qM → Prop} (h : (((482 ≤ v2) → K v1 s) ∧ (¬ (482 ≤ v2) → c_Blocks_openIn X v1 s (fun r2 s1 => (((r2 = (-1)) → K v1 s1) ∧ (¬ (r2 = (-1)) → c_Blocks_openIn X v1 s1 (fun r4 s3 => (-2147483648 ≤ (v2 + 1) ∧ (v2 + 1) < 2147483648) ∧ L_Blocks_innermostOpen_4 X r4 (v2 + 1) s3 K))))))) : L_Blocks_innermostOpen_4 X v1 v2 s K := by
  unfold L_Blocks_innermostOpen_4
  refine w_iload (p' := 5) rfl rfl rfl rfl ?_
  refine w_const (p' := 8) rfl rfl rfl ?_
  refine w_icmp (t := 32) (e := 11) rfl rfl rfl (fun e => ?_) (fun e => ?_)
  · have h := h.1 e
    refine w_iload (p' := 33) rfl rfl rfl rfl ?_
    exact w_iret rfl trivial ⟨rfl, _, rfl, h⟩
  · have h := h.2 e
    refine w_aload (p' := 12) rfl rfl rfl rfl ?_
    refine w_iload (p' := 13) rfl rfl rfl rfl ?_
    refine v_callI (M' := 150) (p' := 16) (rest := []) (as := [(.inr (.inr (.inl (some 12)))), (.inl v1)]) rfl rfl rfl rfl rfl rfl rfl rfl rfl rfl rfl rfl rfl h (fun r2 s1 h => ?_)
    refine w_const (p' := 17) rfl rfl rfl ?_
    refine w_icmp (t := 32) (e := 20) rfl rfl rfl (fun e => ?_) (fun e => ?_)
    · have h := h.1 e
      refine w_iload (p' := 33) rfl rfl rfl rfl ?_
      exact w_iret rfl trivial ⟨rfl, _, rfl, h⟩
    · have h := h.2 e
      refine w_aload (p' := 21) rfl rfl rfl rfl ?_
      refine w_iload (p' := 22) rfl rfl rfl rfl ?_
      refine v_callI (M' := 150) (p' := 25) (rest := []) (as := [(.inr (.inr (.inl (some 12)))), (.inl v1)]) rfl rfl rfl rfl rfl rfl rfl rfl rfl rfl rfl rfl rfl h (fun r4 s3 h => ?_)
      refine w_istore (p' := 26) (ls' := [some (.inr (.inr (.inl (some 12)))), some (.inl r4), some (.inl v2)]) rfl rfl rfl (Nat.le_of_ble_eq_true rfl) rfl ?_
      refine w_iinc (p' := 29) (ls' := [some (.inr (.inr (.inl (some 12)))), some (.inl r4), some (.inl (v2 + 1))]) rfl rfl rfl (Nat.le_of_ble_eq_true rfl) h.1 rfl ?_
      have h := h.2
      refine w_goto (p' := 4) rfl rfl ?_
      exact w_cut (q_le_s (q_le_s (q_le_s q_le_z))) h
set_option maxRecDepth 20000 in
theorem sg_Blocks_size {X : Nat × (Nat → Int32)}  {s : qM} {K : Int → qM → Prop} (h : c_Row_size X 13 s (fun r2 s1 => K r2 s1)) : c_Blocks_size X  s K := by
  unfold c_Blocks_size
  refine w_aload (p' := 1) rfl rfl rfl rfl ?_
  refine w_getR (p' := 4) rfl rfl rfl rfl rfl ?_
  refine v_callI (M' := 223) (p' := 7) (rest := []) (as := [(.inr (.inr (.inl (some 13))))]) rfl rfl rfl rfl rfl rfl rfl rfl rfl rfl rfl rfl rfl h (fun r2 s1 h => ?_)
  exact w_iret rfl trivial ⟨rfl, _, rfl, h⟩
set_option maxRecDepth 20000 in
theorem sg_Blocks_kindOf {X : Nat × (Nat → Int32)} {x1 : Int} {s : qM} {K : Int → qM → Prop} (h : c_Row_at X 13 x1 s (fun r2 s1 => K r2 s1)) : c_Blocks_kindOf X x1 s K := by
  unfold c_Blocks_kindOf
  refine w_aload (p' := 1) rfl rfl rfl rfl ?_
  refine w_getR (p' := 4) rfl rfl rfl rfl rfl ?_
  refine w_iload (p' := 5) rfl rfl rfl rfl ?_
  refine v_callI (M' := 224) (p' := 8) (rest := []) (as := [(.inr (.inr (.inl (some 13)))), (.inl x1)]) rfl rfl rfl rfl rfl rfl rfl rfl rfl rfl rfl rfl rfl h (fun r2 s1 h => ?_)
  exact w_iret rfl trivial ⟨rfl, _, rfl, h⟩
set_option maxRecDepth 20000 in
theorem sg_Blocks_parentOf {X : Nat × (Nat → Int32)} {x1 : Int} {s : qM} {K : Int → qM → Prop} (h : c_Row_at X 15 x1 s (fun r2 s1 => K r2 s1)) : c_Blocks_parentOf X x1 s K := by
  unfold c_Blocks_parentOf
  refine w_aload (p' := 1) rfl rfl rfl rfl ?_
  refine w_getR (p' := 4) rfl rfl rfl rfl rfl ?_
  refine w_iload (p' := 5) rfl rfl rfl rfl ?_
  refine v_callI (M' := 224) (p' := 8) (rest := []) (as := [(.inr (.inr (.inl (some 15)))), (.inl x1)]) rfl rfl rfl rfl rfl rfl rfl rfl rfl rfl rfl rfl rfl h (fun r2 s1 h => ?_)
  exact w_iret rfl trivial ⟨rfl, _, rfl, h⟩
set_option maxRecDepth 20000 in
theorem sg_Blocks_isContainer {X : Nat × (Nat → Int32)} {x1 : Int} {s : qM} {K : Int → qM → Prop} (h : c_Row_at X 13 x1 s (fun r2 s1 => (((r2 < 0) → K 0 s1) ∧ (¬ (r2 < 0) → (((3 < r2) → K 0 s1) ∧ (¬ (3 < r2) → K 1 s1)))))) : c_Blocks_isContainer X x1 s K := by
  unfold c_Blocks_isContainer
  refine w_aload (p' := 1) rfl rfl rfl rfl ?_
  refine w_getR (p' := 4) rfl rfl rfl rfl rfl ?_
  refine w_iload (p' := 5) rfl rfl rfl rfl ?_
  refine v_callI (M' := 224) (p' := 8) (rest := []) (as := [(.inr (.inr (.inl (some 13)))), (.inl x1)]) rfl rfl rfl rfl rfl rfl rfl rfl rfl rfl rfl rfl rfl h (fun r2 s1 h => ?_)
  refine w_istore (p' := 9) (ls' := [some (.inr (.inr (.inl (some 12)))), some (.inl x1), some (.inl r2)]) rfl rfl rfl (Nat.le_of_ble_eq_true rfl) rfl ?_
  refine w_iload (p' := 10) rfl rfl rfl rfl ?_
  refine w_if (t := 22) (e := 13) rfl rfl rfl (fun e => ?_) (fun e => ?_)
  · have h := h.1 e
    refine w_const (p' := 23) rfl rfl rfl ?_
    exact w_iret rfl ⟨by decide, by decide⟩ ⟨rfl, _, rfl, h⟩
  · have h := h.2 e
    refine w_iload (p' := 14) rfl rfl rfl rfl ?_
    refine w_const (p' := 15) rfl rfl rfl ?_
    refine w_icmp (t := 22) (e := 18) rfl rfl rfl (fun e => ?_) (fun e => ?_)
    · have h := h.1 e
      refine w_const (p' := 23) rfl rfl rfl ?_
      exact w_iret rfl ⟨by decide, by decide⟩ ⟨rfl, _, rfl, h⟩
    · have h := h.2 e
      refine w_const (p' := 19) rfl rfl rfl ?_
      refine w_goto (p' := 23) rfl rfl ?_
      exact w_iret rfl ⟨by decide, by decide⟩ ⟨rfl, _, rfl, h⟩
set_option maxRecDepth 20000 in
theorem sg_Blocks_measureOf {X : Nat × (Nat → Int32)} {x1 : Int} {s : qM} {K : Int → qM → Prop} (h : c_Row_at X 13 x1 s (fun r2 s1 => (((r2 ≠ 5) → c_Row_at X 21 x1 s1 (fun r4 s3 => K r4 s3)) ∧ (¬ (r2 ≠ 5) → c_Row_at X 27 x1 s1 (fun r6 s5 => K r6 s5))))) : c_Blocks_measureOf X x1 s K := by
  unfold c_Blocks_measureOf
  refine w_aload (p' := 1) rfl rfl rfl rfl ?_
  refine w_getR (p' := 4) rfl rfl rfl rfl rfl ?_
  refine w_iload (p' := 5) rfl rfl rfl rfl ?_
  refine v_callI (M' := 224) (p' := 8) (rest := []) (as := [(.inr (.inr (.inl (some 13)))), (.inl x1)]) rfl rfl rfl rfl rfl rfl rfl rfl rfl rfl rfl rfl rfl h (fun r2 s1 h => ?_)
  refine w_const (p' := 9) rfl rfl rfl ?_
  refine w_icmp (t := 23) (e := 12) rfl rfl rfl (fun e => ?_) (fun e => ?_)
  · have h := h.1 e
    refine w_aload (p' := 24) rfl rfl rfl rfl ?_
    refine w_getR (p' := 27) rfl rfl rfl rfl rfl ?_
    refine w_iload (p' := 28) rfl rfl rfl rfl ?_
    refine v_callI (M' := 224) (p' := 31) (rest := []) (as := [(.inr (.inr (.inl (some 21)))), (.inl x1)]) rfl rfl rfl rfl rfl rfl rfl rfl rfl rfl rfl rfl rfl h (fun r4 s3 h => ?_)
    exact w_iret rfl trivial ⟨rfl, _, rfl, h⟩
  · have h := h.2 e
    refine w_aload (p' := 13) rfl rfl rfl rfl ?_
    refine w_getR (p' := 16) rfl rfl rfl rfl rfl ?_
    refine w_iload (p' := 17) rfl rfl rfl rfl ?_
    refine v_callI (M' := 224) (p' := 20) (rest := []) (as := [(.inr (.inr (.inl (some 27)))), (.inl x1)]) rfl rfl rfl rfl rfl rfl rfl rfl rfl rfl rfl rfl rfl h (fun r6 s5 h => ?_)
    refine w_goto (p' := 31) rfl rfl ?_
    exact w_iret rfl trivial ⟨rfl, _, rfl, h⟩
set_option maxRecDepth 20000 in
theorem sg_Blocks_measure {X : Nat × (Nat → Int32)} {x1 : Int} {x2 : Int} {s : qM} {K : qM → Prop} (h : c_Row_set X 21 x1 x2 s (fun s1 => K s1)) : c_Blocks_measure X x1 x2 s K := by
  unfold c_Blocks_measure
  refine w_aload (p' := 1) rfl rfl rfl rfl ?_
  refine w_getR (p' := 4) rfl rfl rfl rfl rfl ?_
  refine w_iload (p' := 5) rfl rfl rfl rfl ?_
  refine w_iload (p' := 6) rfl rfl rfl rfl ?_
  refine v_callV (M' := 225) (p' := 9) (rest := []) (as := [(.inr (.inr (.inl (some 21)))), (.inl x1), (.inl x2)]) rfl rfl rfl rfl rfl rfl rfl rfl rfl rfl rfl rfl rfl h (fun s1 h => ?_)
  exact w_vret rfl ⟨rfl, rfl, h⟩
set_option maxRecDepth 20000 in
theorem sg_Blocks_markerOf {X : Nat × (Nat → Int32)} {x1 : Int} {s : qM} {K : Int → qM → Prop} (h : c_Row_at X 23 x1 s (fun r2 s1 => K r2 s1)) : c_Blocks_markerOf X x1 s K := by
  unfold c_Blocks_markerOf
  refine w_aload (p' := 1) rfl rfl rfl rfl ?_
  refine w_getR (p' := 4) rfl rfl rfl rfl rfl ?_
  refine w_iload (p' := 5) rfl rfl rfl rfl ?_
  refine v_callI (M' := 224) (p' := 8) (rest := []) (as := [(.inr (.inr (.inl (some 23)))), (.inl x1)]) rfl rfl rfl rfl rfl rfl rfl rfl rfl rfl rfl rfl rfl h (fun r2 s1 h => ?_)
  exact w_iret rfl trivial ⟨rfl, _, rfl, h⟩
set_option maxRecDepth 20000 in
theorem sg_Blocks_mark {X : Nat × (Nat → Int32)} {x1 : Int} {x2 : Int} {s : qM} {K : qM → Prop} (h : c_Row_set X 23 x1 x2 s (fun s1 => K s1)) : c_Blocks_mark X x1 x2 s K := by
  unfold c_Blocks_mark
  refine w_aload (p' := 1) rfl rfl rfl rfl ?_
  refine w_getR (p' := 4) rfl rfl rfl rfl rfl ?_
  refine w_iload (p' := 5) rfl rfl rfl rfl ?_
  refine w_iload (p' := 6) rfl rfl rfl rfl ?_
  refine v_callV (M' := 225) (p' := 9) (rest := []) (as := [(.inr (.inr (.inl (some 23)))), (.inl x1), (.inl x2)]) rfl rfl rfl rfl rfl rfl rfl rfl rfl rfl rfl rfl rfl h (fun s1 h => ?_)
  exact w_vret rfl ⟨rfl, rfl, h⟩
set_option maxRecDepth 20000 in
theorem sg_Blocks_firstLineOf {X : Nat × (Nat → Int32)} {x1 : Int} {s : qM} {K : Int → qM → Prop} (h : c_Row_at X 25 x1 s (fun r2 s1 => K r2 s1)) : c_Blocks_firstLineOf X x1 s K := by
  unfold c_Blocks_firstLineOf
  refine w_aload (p' := 1) rfl rfl rfl rfl ?_
  refine w_getR (p' := 4) rfl rfl rfl rfl rfl ?_
  refine w_iload (p' := 5) rfl rfl rfl rfl ?_
  refine v_callI (M' := 224) (p' := 8) (rest := []) (as := [(.inr (.inr (.inl (some 25)))), (.inl x1)]) rfl rfl rfl rfl rfl rfl rfl rfl rfl rfl rfl rfl rfl h (fun r2 s1 h => ?_)
  exact w_iret rfl trivial ⟨rfl, _, rfl, h⟩
set_option maxRecDepth 20000 in
theorem sg_Blocks_linesOf {X : Nat × (Nat → Int32)} {x1 : Int} {s : qM} {K : Int → qM → Prop} (h : c_Row_at X 27 x1 s (fun r2 s1 => K r2 s1)) : c_Blocks_linesOf X x1 s K := by
  unfold c_Blocks_linesOf
  refine w_aload (p' := 1) rfl rfl rfl rfl ?_
  refine w_getR (p' := 4) rfl rfl rfl rfl rfl ?_
  refine w_iload (p' := 5) rfl rfl rfl rfl ?_
  refine v_callI (M' := 224) (p' := 8) (rest := []) (as := [(.inr (.inr (.inl (some 27)))), (.inl x1)]) rfl rfl rfl rfl rfl rfl rfl rfl rfl rfl rfl rfl rfl h (fun r2 s1 h => ?_)
  exact w_iret rfl trivial ⟨rfl, _, rfl, h⟩
set_option maxRecDepth 20000 in
theorem sg_Blocks_beginAt {X : Nat × (Nat → Int32)} {x1 : Int} {x2 : Int} {s : qM} {K : qM → Prop} (h : c_Row_set X 25 x1 x2 s (fun s1 => K s1)) : c_Blocks_beginAt X x1 x2 s K := by
  unfold c_Blocks_beginAt
  refine w_aload (p' := 1) rfl rfl rfl rfl ?_
  refine w_getR (p' := 4) rfl rfl rfl rfl rfl ?_
  refine w_iload (p' := 5) rfl rfl rfl rfl ?_
  refine w_iload (p' := 6) rfl rfl rfl rfl ?_
  refine v_callV (M' := 225) (p' := 9) (rest := []) (as := [(.inr (.inr (.inl (some 25)))), (.inl x1), (.inl x2)]) rfl rfl rfl rfl rfl rfl rfl rfl rfl rfl rfl rfl rfl h (fun s1 h => ?_)
  exact w_vret rfl ⟨rfl, rfl, h⟩
set_option maxRecDepth 20000 in
theorem sg_Blocks_addLine {X : Nat × (Nat → Int32)} {x1 : Int} {s : qM} {K : qM → Prop} (h : c_Row_at X 27 x1 s (fun r2 s1 => (-2147483648 ≤ (r2 + 1) ∧ (r2 + 1) < 2147483648) ∧ c_Row_set X 27 x1 (r2 + 1) s1 (fun s3 => K s3))) : c_Blocks_addLine X x1 s K := by
  unfold c_Blocks_addLine
  refine w_aload (p' := 1) rfl rfl rfl rfl ?_
  refine w_getR (p' := 4) rfl rfl rfl rfl rfl ?_
  refine w_iload (p' := 5) rfl rfl rfl rfl ?_
  refine w_aload (p' := 6) rfl rfl rfl rfl ?_
  refine w_getR (p' := 9) rfl rfl rfl rfl rfl ?_
  refine w_iload (p' := 10) rfl rfl rfl rfl ?_
  refine v_callI (M' := 224) (p' := 13) (rest := [(.inl x1), (.inr (.inr (.inl (some 27))))]) (as := [(.inr (.inr (.inl (some 27)))), (.inl x1)]) rfl rfl rfl rfl rfl rfl rfl rfl rfl rfl rfl rfl rfl h (fun r2 s1 h => ?_)
  refine w_const (p' := 14) rfl rfl rfl ?_
  refine w_add (p' := 15) rfl rfl h.1 ?_
  have h := h.2
  refine v_callV (M' := 225) (p' := 18) (rest := []) (as := [(.inr (.inr (.inl (some 27)))), (.inl x1), (.inl (r2 + 1))]) rfl rfl rfl rfl rfl rfl rfl rfl rfl rfl rfl rfl rfl h (fun s3 h => ?_)
  exact w_vret rfl ⟨rfl, rfl, h⟩
set_option maxRecDepth 20000 in
theorem sg_Blocks_contentBegin {X : Nat × (Nat → Int32)} {x1 : Int} {s : qM} {K : Int → qM → Prop} (h : c_Row_at X 29 x1 s (fun r2 s1 => K r2 s1)) : c_Blocks_contentBegin X x1 s K := by
  unfold c_Blocks_contentBegin
  refine w_aload (p' := 1) rfl rfl rfl rfl ?_
  refine w_getR (p' := 4) rfl rfl rfl rfl rfl ?_
  refine w_iload (p' := 5) rfl rfl rfl rfl ?_
  refine v_callI (M' := 224) (p' := 8) (rest := []) (as := [(.inr (.inr (.inl (some 29)))), (.inl x1)]) rfl rfl rfl rfl rfl rfl rfl rfl rfl rfl rfl rfl rfl h (fun r2 s1 h => ?_)
  exact w_iret rfl trivial ⟨rfl, _, rfl, h⟩
set_option maxRecDepth 20000 in
theorem sg_Blocks_beginContent {X : Nat × (Nat → Int32)} {x1 : Int} {x2 : Int} {s : qM} {K : qM → Prop} (h : c_Row_set X 29 x1 x2 s (fun s1 => K s1)) : c_Blocks_beginContent X x1 x2 s K := by
  unfold c_Blocks_beginContent
  refine w_aload (p' := 1) rfl rfl rfl rfl ?_
  refine w_getR (p' := 4) rfl rfl rfl rfl rfl ?_
  refine w_iload (p' := 5) rfl rfl rfl rfl ?_
  refine w_iload (p' := 6) rfl rfl rfl rfl ?_
  refine v_callV (M' := 225) (p' := 9) (rest := []) (as := [(.inr (.inr (.inl (some 29)))), (.inl x1), (.inl x2)]) rfl rfl rfl rfl rfl rfl rfl rfl rfl rfl rfl rfl rfl h (fun s1 h => ?_)
  exact w_vret rfl ⟨rfl, rfl, h⟩
set_option maxRecDepth 20000 in
theorem sg_Blocks_ownerOfLine {X : Nat × (Nat → Int32)} {x1 : Int} {s : qM} {K : Int → qM → Prop} (h : c_Row_at X 31 x1 s (fun r2 s1 => K r2 s1)) : c_Blocks_ownerOfLine X x1 s K := by
  unfold c_Blocks_ownerOfLine
  refine w_aload (p' := 1) rfl rfl rfl rfl ?_
  refine w_getR (p' := 4) rfl rfl rfl rfl rfl ?_
  refine w_iload (p' := 5) rfl rfl rfl rfl ?_
  refine v_callI (M' := 224) (p' := 8) (rest := []) (as := [(.inr (.inr (.inl (some 31)))), (.inl x1)]) rfl rfl rfl rfl rfl rfl rfl rfl rfl rfl rfl rfl rfl h (fun r2 s1 h => ?_)
  exact w_iret rfl trivial ⟨rfl, _, rfl, h⟩
set_option maxRecDepth 20000 in
theorem sg_Blocks_ownLine {X : Nat × (Nat → Int32)} {x1 : Int} {x2 : Int} {s : qM} {K : qM → Prop} (h : c_Row_set X 31 x1 x2 s (fun s1 => K s1)) : c_Blocks_ownLine X x1 x2 s K := by
  unfold c_Blocks_ownLine
  refine w_aload (p' := 1) rfl rfl rfl rfl ?_
  refine w_getR (p' := 4) rfl rfl rfl rfl rfl ?_
  refine w_iload (p' := 5) rfl rfl rfl rfl ?_
  refine w_iload (p' := 6) rfl rfl rfl rfl ?_
  refine v_callV (M' := 225) (p' := 9) (rest := []) (as := [(.inr (.inr (.inl (some 31)))), (.inl x1), (.inl x2)]) rfl rfl rfl rfl rfl rfl rfl rfl rfl rfl rfl rfl rfl h (fun s1 h => ?_)
  exact w_vret rfl ⟨rfl, rfl, h⟩
set_option maxRecDepth 20000 in
theorem sg_Blocks_ownerAt {X : Nat × (Nat → Int32)} {x1 : Int} {s : qM} {K : Int → qM → Prop} (h : c_Row_at X 33 x1 s (fun r2 s1 => K r2 s1)) : c_Blocks_ownerAt X x1 s K := by
  unfold c_Blocks_ownerAt
  refine w_aload (p' := 1) rfl rfl rfl rfl ?_
  refine w_getR (p' := 4) rfl rfl rfl rfl rfl ?_
  refine w_iload (p' := 5) rfl rfl rfl rfl ?_
  refine v_callI (M' := 224) (p' := 8) (rest := []) (as := [(.inr (.inr (.inl (some 33)))), (.inl x1)]) rfl rfl rfl rfl rfl rfl rfl rfl rfl rfl rfl rfl rfl h (fun r2 s1 h => ?_)
  exact w_iret rfl trivial ⟨rfl, _, rfl, h⟩
set_option maxRecDepth 20000 in
theorem sg_Blocks_own {X : Nat × (Nat → Int32)} {x1 : Int} {x2 : Int} {s : qM} {K : qM → Prop} (h : c_Row_set X 33 x1 x2 s (fun s1 => K s1)) : c_Blocks_own X x1 x2 s K := by
  unfold c_Blocks_own
  refine w_aload (p' := 1) rfl rfl rfl rfl ?_
  refine w_getR (p' := 4) rfl rfl rfl rfl rfl ?_
  refine w_iload (p' := 5) rfl rfl rfl rfl ?_
  refine w_iload (p' := 6) rfl rfl rfl rfl ?_
  refine v_callV (M' := 225) (p' := 9) (rest := []) (as := [(.inr (.inr (.inl (some 33)))), (.inl x1), (.inl x2)]) rfl rfl rfl rfl rfl rfl rfl rfl rfl rfl rfl rfl rfl h (fun s1 h => ?_)
  exact w_vret rfl ⟨rfl, rfl, h⟩
set_option maxRecDepth 20000 in
theorem sg_Blocks_define {X : Nat × (Nat → Int32)} {x1 : Int} {x2 : Int} {s : qM} {K : qM → Prop} (h : c_Names_add X 35 x1 x2 s (fun s1 => K s1)) : c_Blocks_define X x1 x2 s K := by
  unfold c_Blocks_define
  refine w_aload (p' := 1) rfl rfl rfl rfl ?_
  refine w_getR (p' := 4) rfl rfl rfl rfl rfl ?_
  refine w_lload (p' := 5) rfl rfl rfl rfl ?_
  refine w_iload (p' := 6) rfl rfl rfl rfl ?_
  refine v_callV (M' := 208) (p' := 9) (rest := []) (as := [(.inr (.inr (.inl (some 35)))), (.inr (.inl x1)), (.inl x2)]) rfl rfl rfl rfl rfl rfl rfl rfl rfl rfl rfl rfl rfl h (fun s1 h => ?_)
  exact w_vret rfl ⟨rfl, rfl, h⟩
set_option maxRecDepth 20000 in
theorem sg_Blocks_anchor {X : Nat × (Nat → Int32)} {x1 : Int} {x2 : Int} {s : qM} {K : qM → Prop} (h : c_Names_add X 39 x1 x2 s (fun s1 => K s1)) : c_Blocks_anchor X x1 x2 s K := by
  unfold c_Blocks_anchor
  refine w_aload (p' := 1) rfl rfl rfl rfl ?_
  refine w_getR (p' := 4) rfl rfl rfl rfl rfl ?_
  refine w_lload (p' := 5) rfl rfl rfl rfl ?_
  refine w_iload (p' := 6) rfl rfl rfl rfl ?_
  refine v_callV (M' := 208) (p' := 9) (rest := []) (as := [(.inr (.inr (.inl (some 39)))), (.inr (.inl x1)), (.inl x2)]) rfl rfl rfl rfl rfl rfl rfl rfl rfl rfl rfl rfl rfl h (fun s1 h => ?_)
  exact w_vret rfl ⟨rfl, rfl, h⟩
set_option maxRecDepth 20000 in
theorem sg_Blocks_linkSign {X : Nat × (Nat → Int32)} {x1 : Int} {s : qM} {K : Int → qM → Prop} (h : c_Names_find X 35 x1 s (fun r2 s1 => c_Names_find X 39 x1 s1 (fun r4 s3 => (((r2 = (-1)) → (((r4 = (-1)) → K (-1) s3) ∧ (¬ (r4 = (-1)) → (-2147483648 ≤ (400 + r4) ∧ (400 + r4) < 2147483648) ∧ K (400 + r4) s3))) ∧ (¬ (r2 = (-1)) → (-2147483648 ≤ (300 + r2) ∧ (300 + r2) < 2147483648) ∧ K (300 + r2) s3))))) : c_Blocks_linkSign X x1 s K := by
  unfold c_Blocks_linkSign
  refine w_aload (p' := 1) rfl rfl rfl rfl ?_
  refine w_getR (p' := 4) rfl rfl rfl rfl rfl ?_
  refine w_lload (p' := 5) rfl rfl rfl rfl ?_
  refine v_callI (M' := 209) (p' := 8) (rest := []) (as := [(.inr (.inr (.inl (some 35)))), (.inr (.inl x1))]) rfl rfl rfl rfl rfl rfl rfl rfl rfl rfl rfl rfl rfl h (fun r2 s1 h => ?_)
  refine w_istore (p' := 9) (ls' := [some (.inr (.inr (.inl (some 12)))), some (.inr (.inl x1)), none, some (.inl r2), none]) rfl rfl rfl (Nat.le_of_ble_eq_true rfl) rfl ?_
  refine w_aload (p' := 10) rfl rfl rfl rfl ?_
  refine w_getR (p' := 13) rfl rfl rfl rfl rfl ?_
  refine w_lload (p' := 14) rfl rfl rfl rfl ?_
  refine v_callI (M' := 209) (p' := 17) (rest := []) (as := [(.inr (.inr (.inl (some 39)))), (.inr (.inl x1))]) rfl rfl rfl rfl rfl rfl rfl rfl rfl rfl rfl rfl rfl h (fun r4 s3 h => ?_)
  refine w_istore (p' := 19) (ls' := [some (.inr (.inr (.inl (some 12)))), some (.inr (.inl x1)), none, some (.inl r2), some (.inl r4)]) rfl rfl rfl (Nat.le_of_ble_eq_true rfl) rfl ?_
  refine w_iload (p' := 20) rfl rfl rfl rfl ?_
  refine w_const (p' := 21) rfl rfl rfl ?_
  refine w_icmp (t := 30) (e := 24) rfl rfl rfl (fun e => ?_) (fun e => ?_)
  · have h := h.1 e
    refine w_iload (p' := 32) rfl rfl rfl rfl ?_
    refine w_const (p' := 33) rfl rfl rfl ?_
    refine w_icmp (t := 45) (e := 36) rfl rfl rfl (fun e => ?_) (fun e => ?_)
    · have h := h.1 e
      refine w_const (p' := 46) rfl rfl rfl ?_
      exact w_iret rfl trivial ⟨rfl, _, rfl, h⟩
    · have h := h.2 e
      refine w_const (p' := 39) rfl rfl rfl ?_
      refine w_iload (p' := 41) rfl rfl rfl rfl ?_
      refine w_add (p' := 42) rfl rfl h.1 ?_
      have h := h.2
      refine w_goto (p' := 46) rfl rfl ?_
      exact w_iret rfl trivial ⟨rfl, _, rfl, h⟩
  · have h := h.2 e
    refine w_const (p' := 27) rfl rfl rfl ?_
    refine w_iload (p' := 28) rfl rfl rfl rfl ?_
    refine w_add (p' := 29) rfl rfl h.1 ?_
    have h := h.2
    exact w_iret rfl trivial ⟨rfl, _, rfl, h⟩
set_option maxRecDepth 20000 in
theorem sg_Blocks_linkedBlock {X : Nat × (Nat → Int32)} {x1 : Int} {s : qM} {K : Int → qM → Prop} (h : (((x1 < 400) → (-2147483648 ≤ (x1 - 300) ∧ (x1 - 300) < 2147483648) ∧ c_Names_blockAt X 35 (x1 - 300) s (fun r2 s1 => K r2 s1)) ∧ (¬ (x1 < 400) → (-2147483648 ≤ (x1 - 400) ∧ (x1 - 400) < 2147483648) ∧ c_Names_blockAt X 39 (x1 - 400) s (fun r4 s3 => K r4 s3)))) : c_Blocks_linkedBlock X x1 s K := by
  unfold c_Blocks_linkedBlock
  refine w_iload (p' := 1) rfl rfl rfl rfl ?_
  refine w_const (p' := 4) rfl rfl rfl ?_
  refine w_icmp (t := 22) (e := 7) rfl rfl rfl (fun e => ?_) (fun e => ?_)
  · have h := h.1 e
    refine w_aload (p' := 23) rfl rfl rfl rfl ?_
    refine w_getR (p' := 26) rfl rfl rfl rfl rfl ?_
    refine w_iload (p' := 27) rfl rfl rfl rfl ?_
    refine w_const (p' := 30) rfl rfl rfl ?_
    refine w_sub (p' := 31) rfl rfl h.1 ?_
    have h := h.2
    refine v_callI (M' := 210) (p' := 34) (rest := []) (as := [(.inr (.inr (.inl (some 35)))), (.inl (x1 - 300))]) rfl rfl rfl rfl rfl rfl rfl rfl rfl rfl rfl rfl rfl h (fun r2 s1 h => ?_)
    exact w_iret rfl trivial ⟨rfl, _, rfl, h⟩
  · have h := h.2 e
    refine w_aload (p' := 8) rfl rfl rfl rfl ?_
    refine w_getR (p' := 11) rfl rfl rfl rfl rfl ?_
    refine w_iload (p' := 12) rfl rfl rfl rfl ?_
    refine w_const (p' := 15) rfl rfl rfl ?_
    refine w_sub (p' := 16) rfl rfl h.1 ?_
    have h := h.2
    refine v_callI (M' := 210) (p' := 19) (rest := []) (as := [(.inr (.inr (.inl (some 39)))), (.inl (x1 - 400))]) rfl rfl rfl rfl rfl rfl rfl rfl rfl rfl rfl rfl rfl h (fun r4 s3 h => ?_)
    refine w_goto (p' := 34) rfl rfl ?_
    exact w_iret rfl trivial ⟨rfl, _, rfl, h⟩
set_option maxRecDepth 20000 in
theorem sg_Il_start {X : Nat × (Nat → Int32)}  {s : qM} {K : qM → Prop} (h : c_Row_empty X 45 s (fun s1 => c_Row_empty X 47 s1 (fun s2 => c_Row_empty X 49 s2 (fun s3 => c_Row_empty X 51 s3 (fun s4 => c_Runs_empty X  s4 (fun s5 => K s5)))))) : c_Il_start X  s K := by
  unfold c_Il_start
  refine w_aload (p' := 1) rfl rfl rfl rfl ?_
  refine w_getR (p' := 4) rfl rfl rfl rfl rfl ?_
  refine v_callV (M' := 227) (p' := 7) (rest := []) (as := [(.inr (.inr (.inl (some 45))))]) rfl rfl rfl rfl rfl rfl rfl rfl rfl rfl rfl rfl rfl h (fun s1 h => ?_)
  refine w_aload (p' := 8) rfl rfl rfl rfl ?_
  refine w_getR (p' := 11) rfl rfl rfl rfl rfl ?_
  refine v_callV (M' := 227) (p' := 14) (rest := []) (as := [(.inr (.inr (.inl (some 47))))]) rfl rfl rfl rfl rfl rfl rfl rfl rfl rfl rfl rfl rfl h (fun s2 h => ?_)
  refine w_aload (p' := 15) rfl rfl rfl rfl ?_
  refine w_getR (p' := 18) rfl rfl rfl rfl rfl ?_
  refine v_callV (M' := 227) (p' := 21) (rest := []) (as := [(.inr (.inr (.inl (some 49))))]) rfl rfl rfl rfl rfl rfl rfl rfl rfl rfl rfl rfl rfl h (fun s3 h => ?_)
  refine w_aload (p' := 22) rfl rfl rfl rfl ?_
  refine w_getR (p' := 25) rfl rfl rfl rfl rfl ?_
  refine v_callV (M' := 227) (p' := 28) (rest := []) (as := [(.inr (.inr (.inl (some 51))))]) rfl rfl rfl rfl rfl rfl rfl rfl rfl rfl rfl rfl rfl h (fun s4 h => ?_)
  refine w_aload (p' := 29) rfl rfl rfl rfl ?_
  refine w_getR (p' := 32) rfl rfl rfl rfl rfl ?_
  refine v_callV (M' := 234) (p' := 35) (rest := []) (as := [(.inr (.inr (.inl (some 53))))]) rfl rfl rfl rfl rfl rfl rfl rfl rfl rfl rfl rfl rfl h (fun s5 h => ?_)
  exact w_vret rfl ⟨rfl, rfl, h⟩
set_option maxRecDepth 20000 in
theorem sg_Il_addCharacter {X : Nat × (Nat → Int32)} {x1 : Int} {s : qM} {K : qM → Prop} (h : c_Row_add X 45 x1 s (fun s1 => c_Row_add X 47 0 s1 (fun s2 => c_Row_add X 49 (-1) s2 (fun s3 => K s3)))) : c_Il_addCharacter X x1 s K := by
  unfold c_Il_addCharacter
  refine w_aload (p' := 1) rfl rfl rfl rfl ?_
  refine w_getR (p' := 4) rfl rfl rfl rfl rfl ?_
  refine w_iload (p' := 5) rfl rfl rfl rfl ?_
  refine v_callV (M' := 226) (p' := 8) (rest := []) (as := [(.inr (.inr (.inl (some 45)))), (.inl x1)]) rfl rfl rfl rfl rfl rfl rfl rfl rfl rfl rfl rfl rfl h (fun s1 h => ?_)
  refine w_aload (p' := 9) rfl rfl rfl rfl ?_
  refine w_getR (p' := 12) rfl rfl rfl rfl rfl ?_
  refine w_const (p' := 13) rfl rfl rfl ?_
  refine v_callV (M' := 226) (p' := 16) (rest := []) (as := [(.inr (.inr (.inl (some 47)))), (.inl 0)]) rfl rfl rfl rfl rfl rfl rfl rfl rfl rfl rfl rfl rfl h (fun s2 h => ?_)
  refine w_aload (p' := 17) rfl rfl rfl rfl ?_
  refine w_getR (p' := 20) rfl rfl rfl rfl rfl ?_
  refine w_const (p' := 21) rfl rfl rfl ?_
  refine v_callV (M' := 226) (p' := 24) (rest := []) (as := [(.inr (.inr (.inl (some 49)))), (.inl (-1))]) rfl rfl rfl rfl rfl rfl rfl rfl rfl rfl rfl rfl rfl h (fun s3 h => ?_)
  exact w_vret rfl ⟨rfl, rfl, h⟩
set_option maxRecDepth 20000 in
theorem sg_Il_size {X : Nat × (Nat → Int32)}  {s : qM} {K : Int → qM → Prop} (h : c_Row_size X 45 s (fun r2 s1 => K r2 s1)) : c_Il_size X  s K := by
  unfold c_Il_size
  refine w_aload (p' := 1) rfl rfl rfl rfl ?_
  refine w_getR (p' := 4) rfl rfl rfl rfl rfl ?_
  refine v_callI (M' := 223) (p' := 7) (rest := []) (as := [(.inr (.inr (.inl (some 45))))]) rfl rfl rfl rfl rfl rfl rfl rfl rfl rfl rfl rfl rfl h (fun r2 s1 h => ?_)
  exact w_iret rfl trivial ⟨rfl, _, rfl, h⟩
set_option maxRecDepth 20000 in
theorem sg_Il_characterAt {X : Nat × (Nat → Int32)} {x1 : Int} {s : qM} {K : Int → qM → Prop} (h : c_Row_at X 45 x1 s (fun r2 s1 => K r2 s1)) : c_Il_characterAt X x1 s K := by
  unfold c_Il_characterAt
  refine w_aload (p' := 1) rfl rfl rfl rfl ?_
  refine w_getR (p' := 4) rfl rfl rfl rfl rfl ?_
  refine w_iload (p' := 5) rfl rfl rfl rfl ?_
  refine v_callI (M' := 224) (p' := 8) (rest := []) (as := [(.inr (.inr (.inl (some 45)))), (.inl x1)]) rfl rfl rfl rfl rfl rfl rfl rfl rfl rfl rfl rfl rfl h (fun r2 s1 h => ?_)
  exact w_iret rfl trivial ⟨rfl, _, rfl, h⟩
set_option maxRecDepth 20000 in
theorem sg_Il_roleAt {X : Nat × (Nat → Int32)} {x1 : Int} {s : qM} {K : Int → qM → Prop} (h : c_Row_at X 47 x1 s (fun r2 s1 => K r2 s1)) : c_Il_roleAt X x1 s K := by
  unfold c_Il_roleAt
  refine w_aload (p' := 1) rfl rfl rfl rfl ?_
  refine w_getR (p' := 4) rfl rfl rfl rfl rfl ?_
  refine w_iload (p' := 5) rfl rfl rfl rfl ?_
  refine v_callI (M' := 224) (p' := 8) (rest := []) (as := [(.inr (.inr (.inl (some 47)))), (.inl x1)]) rfl rfl rfl rfl rfl rfl rfl rfl rfl rfl rfl rfl rfl h (fun r2 s1 h => ?_)
  exact w_iret rfl trivial ⟨rfl, _, rfl, h⟩
set_option maxRecDepth 20000 in
theorem sg_Il_signAt {X : Nat × (Nat → Int32)} {x1 : Int} {s : qM} {K : Int → qM → Prop} (h : c_Row_at X 49 x1 s (fun r2 s1 => K r2 s1)) : c_Il_signAt X x1 s K := by
  unfold c_Il_signAt
  refine w_aload (p' := 1) rfl rfl rfl rfl ?_
  refine w_getR (p' := 4) rfl rfl rfl rfl rfl ?_
  refine w_iload (p' := 5) rfl rfl rfl rfl ?_
  refine v_callI (M' := 224) (p' := 8) (rest := []) (as := [(.inr (.inr (.inl (some 49)))), (.inl x1)]) rfl rfl rfl rfl rfl rfl rfl rfl rfl rfl rfl rfl rfl h (fun r2 s1 h => ?_)
  exact w_iret rfl trivial ⟨rfl, _, rfl, h⟩
set_option maxRecDepth 20000 in
theorem sg_Il_read {X : Nat × (Nat → Int32)}  {s : qM} {K : qM → Prop} (h : L_Il_read_4 X 0 0 s K) : c_Il_read X  s K := by
  unfold c_Il_read
  refine w_const (p' := 1) rfl rfl rfl ?_
  refine w_istore (p' := 2) (ls' := [some (.inr (.inr (.inl (some 44)))), some (.inl 0), none]) rfl rfl rfl (Nat.le_of_ble_eq_true rfl) rfl ?_
  refine w_const (p' := 3) rfl rfl rfl ?_
  refine w_istore (p' := 4) (ls' := [some (.inr (.inr (.inl (some 44)))), some (.inl 0), some (.inl 0)]) rfl rfl rfl (Nat.le_of_ble_eq_true rfl) rfl ?_
  exact w_cut (q_le_s (q_le_s (q_le_s q_le_z))) h
set_option maxRecDepth 20000 in
theorem sg_Il_read_4 {X : Nat × (Nat → Int32)}  {v1 v2 : Int} {s : qM} {K : qM → Prop} (h : (((240 ≤ v2) → c_Runs_resolve X 0 47 s (fun s1 => K s1)) ∧ (¬ (240 ≤ v2) → c_Row_size X 45 s (fun r3 s2 => (((r3 ≤ v1) → c_Runs_resolve X 0 47 s2 (fun s4 => K s4)) ∧ (¬ (r3 ≤ v1) → c_Row_at X 45 v1 s2 (fun r6 s5 => (((r6 = 42) → c_Il_passStars X v1 s5 (fun r8 s7 => (-2147483648 ≤ (v2 + 1) ∧ (v2 + 1) < 2147483648) ∧ L_Il_read_4 X r8 (v2 + 1) s7 K)) ∧ (¬ (r6 = 42) → (((r6 = 91) → c_Row_add X 51 v1 s5 (fun s9 => (-2147483648 ≤ (v1 + 1) ∧ (v1 + 1) < 2147483648) ∧ (-2147483648 ≤ (v2 + 1) ∧ (v2 + 1) < 2147483648) ∧ L_Il_read_4 X (v1 + 1) (v2 + 1) s9 K)) ∧ (¬ (r6 = 91) → (((r6 = 92) → c_Il_passEscape X v1 s5 (fun r11 s10 => (-2147483648 ≤ (v2 + 1) ∧ (v2 + 1) < 2147483648) ∧ L_Il_read_4 X r11 (v2 + 1) s10 K)) ∧ (¬ (r6 = 92) → (((r6 = 93) → c_Il_passBracket X v1 s5 (fun r13 s12 => (-2147483648 ≤ (v2 + 1) ∧ (v2 + 1) < 2147483648) ∧ L_Il_read_4 X r13 (v2 + 1) s12 K)) ∧ (¬ (r6 = 93) → (((r6 = 96) → c_Il_passTicks X v1 s5 (fun r15 s14 => (-2147483648 ≤ (v2 + 1) ∧ (v2 + 1) < 2147483648) ∧ L_Il_read_4 X r15 (v2 + 1) s14 K)) ∧ (¬ (r6 = 96) → (-2147483648 ≤ (v1 + 1) ∧ (v1 + 1) < 2147483648) ∧ (-2147483648 ≤ (v2 + 1) ∧ (v2 + 1) < 2147483648) ∧ L_Il_read_4 X (v1 + 1) (v2 + 1) s5 K))))))))))))))))) : L_Il_read_4 X v1 v2 s K := by
  unfold L_Il_read_4
  refine w_iload (p' := 5) rfl rfl rfl rfl ?_
  refine w_const (p' := 8) rfl rfl rfl ?_
  refine w_icmp (t := 139) (e := 11) rfl rfl rfl (fun e => ?_) (fun e => ?_)
  · have h := h.1 e
    refine w_aload (p' := 140) rfl rfl rfl rfl ?_
    refine w_getR (p' := 143) rfl rfl rfl rfl rfl ?_
    refine w_const (p' := 144) rfl rfl rfl ?_
    refine w_aload (p' := 145) rfl rfl rfl rfl ?_
    refine w_getR (p' := 148) rfl rfl rfl rfl rfl ?_
    refine v_callV (M' := 239) (p' := 151) (rest := []) (as := [(.inr (.inr (.inl (some 53)))), (.inl 0), (.inr (.inr (.inl (some 47))))]) rfl rfl rfl rfl rfl rfl rfl rfl rfl rfl rfl rfl rfl h (fun s1 h => ?_)
    exact w_vret rfl ⟨rfl, rfl, h⟩
  · have h := h.2 e
    refine w_iload (p' := 12) rfl rfl rfl rfl ?_
    refine w_aload (p' := 13) rfl rfl rfl rfl ?_
    refine w_getR (p' := 16) rfl rfl rfl rfl rfl ?_
    refine v_callI (M' := 223) (p' := 19) (rest := [(.inl v1)]) (as := [(.inr (.inr (.inl (some 45))))]) rfl rfl rfl rfl rfl rfl rfl rfl rfl rfl rfl rfl rfl h (fun r3 s2 h => ?_)
    refine w_icmp (t := 139) (e := 22) rfl rfl rfl (fun e => ?_) (fun e => ?_)
    · have h := h.1 e
      refine w_aload (p' := 140) rfl rfl rfl rfl ?_
      refine w_getR (p' := 143) rfl rfl rfl rfl rfl ?_
      refine w_const (p' := 144) rfl rfl rfl ?_
      refine w_aload (p' := 145) rfl rfl rfl rfl ?_
      refine w_getR (p' := 148) rfl rfl rfl rfl rfl ?_
      refine v_callV (M' := 239) (p' := 151) (rest := []) (as := [(.inr (.inr (.inl (some 53)))), (.inl 0), (.inr (.inr (.inl (some 47))))]) rfl rfl rfl rfl rfl rfl rfl rfl rfl rfl rfl rfl rfl h (fun s4 h => ?_)
      exact w_vret rfl ⟨rfl, rfl, h⟩
    · have h := h.2 e
      refine w_aload (p' := 23) rfl rfl rfl rfl ?_
      refine w_getR (p' := 26) rfl rfl rfl rfl rfl ?_
      refine w_iload (p' := 27) rfl rfl rfl rfl ?_
      refine v_callI (M' := 224) (p' := 30) (rest := []) (as := [(.inr (.inr (.inl (some 45)))), (.inl v1)]) rfl rfl rfl rfl rfl rfl rfl rfl rfl rfl rfl rfl rfl h (fun r6 s5 h => ?_)
      refine w_lsw rfl ?_
      refine ⟨fun e => ?_, fun e => ?_⟩
      · have h := h.1 e
        refine w_aload (p' := 122) rfl rfl rfl rfl ?_
        refine w_iload (p' := 123) rfl rfl rfl rfl ?_
        refine v_callI (M' := 189) (p' := 126) (rest := []) (as := [(.inr (.inr (.inl (some 44)))), (.inl v1)]) rfl rfl rfl rfl rfl rfl rfl rfl rfl rfl rfl rfl rfl h (fun r8 s7 h => ?_)
        refine w_istore (p' := 127) (ls' := [some (.inr (.inr (.inl (some 44)))), some (.inl r8), some (.inl v2)]) rfl rfl rfl (Nat.le_of_ble_eq_true rfl) rfl ?_
        refine w_goto (p' := 133) rfl rfl ?_
        refine w_iinc (p' := 136) (ls' := [some (.inr (.inr (.inl (some 44)))), some (.inl r8), some (.inl (v2 + 1))]) rfl rfl rfl (Nat.le_of_ble_eq_true rfl) h.1 rfl ?_
        have h := h.2
        refine w_goto (p' := 4) rfl rfl ?_
        exact w_cut (q_le_s (q_le_s (q_le_s q_le_z))) h
      · have h := h.2 e
        refine ⟨fun e => ?_, fun e => ?_⟩
        · have h := h.1 e
          refine w_aload (p' := 99) rfl rfl rfl rfl ?_
          refine w_getR (p' := 102) rfl rfl rfl rfl rfl ?_
          refine w_iload (p' := 103) rfl rfl rfl rfl ?_
          refine v_callV (M' := 226) (p' := 106) (rest := []) (as := [(.inr (.inr (.inl (some 51)))), (.inl v1)]) rfl rfl rfl rfl rfl rfl rfl rfl rfl rfl rfl rfl rfl h (fun s9 h => ?_)
          refine w_iinc (p' := 109) (ls' := [some (.inr (.inr (.inl (some 44)))), some (.inl (v1 + 1)), some (.inl v2)]) rfl rfl rfl (Nat.le_of_ble_eq_true rfl) h.1 rfl ?_
          have h := h.2
          refine w_goto (p' := 133) rfl rfl ?_
          refine w_iinc (p' := 136) (ls' := [some (.inr (.inr (.inl (some 44)))), some (.inl (v1 + 1)), some (.inl (v2 + 1))]) rfl rfl rfl (Nat.le_of_ble_eq_true rfl) h.1 rfl ?_
          have h := h.2
          refine w_goto (p' := 4) rfl rfl ?_
          exact w_cut (q_le_s (q_le_s (q_le_s q_le_z))) h
        · have h := h.2 e
          refine ⟨fun e => ?_, fun e => ?_⟩
          · have h := h.1 e
            refine w_aload (p' := 81) rfl rfl rfl rfl ?_
            refine w_iload (p' := 82) rfl rfl rfl rfl ?_
            refine v_callI (M' := 182) (p' := 85) (rest := []) (as := [(.inr (.inr (.inl (some 44)))), (.inl v1)]) rfl rfl rfl rfl rfl rfl rfl rfl rfl rfl rfl rfl rfl h (fun r11 s10 h => ?_)
            refine w_istore (p' := 86) (ls' := [some (.inr (.inr (.inl (some 44)))), some (.inl r11), some (.inl v2)]) rfl rfl rfl (Nat.le_of_ble_eq_true rfl) rfl ?_
            refine w_goto (p' := 133) rfl rfl ?_
            refine w_iinc (p' := 136) (ls' := [some (.inr (.inr (.inl (some 44)))), some (.inl r11), some (.inl (v2 + 1))]) rfl rfl rfl (Nat.le_of_ble_eq_true rfl) h.1 rfl ?_
            have h := h.2
            refine w_goto (p' := 4) rfl rfl ?_
            exact w_cut (q_le_s (q_le_s (q_le_s q_le_z))) h
          · have h := h.2 e
            refine ⟨fun e => ?_, fun e => ?_⟩
            · have h := h.1 e
              refine w_aload (p' := 113) rfl rfl rfl rfl ?_
              refine w_iload (p' := 114) rfl rfl rfl rfl ?_
              refine v_callI (M' := 187) (p' := 117) (rest := []) (as := [(.inr (.inr (.inl (some 44)))), (.inl v1)]) rfl rfl rfl rfl rfl rfl rfl rfl rfl rfl rfl rfl rfl h (fun r13 s12 h => ?_)
              refine w_istore (p' := 118) (ls' := [some (.inr (.inr (.inl (some 44)))), some (.inl r13), some (.inl v2)]) rfl rfl rfl (Nat.le_of_ble_eq_true rfl) rfl ?_
              refine w_goto (p' := 133) rfl rfl ?_
              refine w_iinc (p' := 136) (ls' := [some (.inr (.inr (.inl (some 44)))), some (.inl r13), some (.inl (v2 + 1))]) rfl rfl rfl (Nat.le_of_ble_eq_true rfl) h.1 rfl ?_
              have h := h.2
              refine w_goto (p' := 4) rfl rfl ?_
              exact w_cut (q_le_s (q_le_s (q_le_s q_le_z))) h
            · have h := h.2 e
              refine ⟨fun e => ?_, fun e => ?_⟩
              · have h := h.1 e
                refine w_aload (p' := 90) rfl rfl rfl rfl ?_
                refine w_iload (p' := 91) rfl rfl rfl rfl ?_
                refine v_callI (M' := 183) (p' := 94) (rest := []) (as := [(.inr (.inr (.inl (some 44)))), (.inl v1)]) rfl rfl rfl rfl rfl rfl rfl rfl rfl rfl rfl rfl rfl h (fun r15 s14 h => ?_)
                refine w_istore (p' := 95) (ls' := [some (.inr (.inr (.inl (some 44)))), some (.inl r15), some (.inl v2)]) rfl rfl rfl (Nat.le_of_ble_eq_true rfl) rfl ?_
                refine w_goto (p' := 133) rfl rfl ?_
                refine w_iinc (p' := 136) (ls' := [some (.inr (.inr (.inl (some 44)))), some (.inl r15), some (.inl (v2 + 1))]) rfl rfl rfl (Nat.le_of_ble_eq_true rfl) h.1 rfl ?_
                have h := h.2
                refine w_goto (p' := 4) rfl rfl ?_
                exact w_cut (q_le_s (q_le_s (q_le_s q_le_z))) h
              · have h := h.2 e
                refine w_iinc (p' := 133) (ls' := [some (.inr (.inr (.inl (some 44)))), some (.inl (v1 + 1)), some (.inl v2)]) rfl rfl rfl (Nat.le_of_ble_eq_true rfl) h.1 rfl ?_
                have h := h.2
                refine w_iinc (p' := 136) (ls' := [some (.inr (.inr (.inl (some 44)))), some (.inl (v1 + 1)), some (.inl (v2 + 1))]) rfl rfl rfl (Nat.le_of_ble_eq_true rfl) h.1 rfl ?_
                have h := h.2
                refine w_goto (p' := 4) rfl rfl ?_
                exact w_cut (q_le_s (q_le_s (q_le_s q_le_z))) h
set_option maxRecDepth 20000 in
theorem sg_Il_passEscape {X : Nat × (Nat → Int32)} {x1 : Int} {s : qM} {K : Int → qM → Prop} (h : (-2147483648 ≤ (x1 + 1) ∧ (x1 + 1) < 2147483648) ∧ c_Row_at X 45 (x1 + 1) s (fun r2 s1 => c_T_isSign X r2 s1 (fun r4 s3 => (((r4 ≠ 0) → c_Row_set X 47 x1 (-3) s3 (fun s5 => (-2147483648 ≤ (x1 + 2) ∧ (x1 + 2) < 2147483648) ∧ K (x1 + 2) s5)) ∧ (¬ (r4 ≠ 0) → (-2147483648 ≤ (x1 + 1) ∧ (x1 + 1) < 2147483648) ∧ K (x1 + 1) s3))))) : c_Il_passEscape X x1 s K := by
  unfold c_Il_passEscape
  refine w_aload (p' := 1) rfl rfl rfl rfl ?_
  refine w_getR (p' := 4) rfl rfl rfl rfl rfl ?_
  refine w_iload (p' := 5) rfl rfl rfl rfl ?_
  refine w_const (p' := 6) rfl rfl rfl ?_
  refine w_add (p' := 7) rfl rfl h.1 ?_
  have h := h.2
  refine v_callI (M' := 224) (p' := 10) (rest := []) (as := [(.inr (.inr (.inl (some 45)))), (.inl (x1 + 1))]) rfl rfl rfl rfl rfl rfl rfl rfl rfl rfl rfl rfl rfl h (fun r2 s1 h => ?_)
  refine v_callI (M' := 37) (p' := 13) (rest := []) (as := [(.inl r2)]) rfl rfl rfl rfl rfl rfl rfl rfl rfl rfl rfl trivial rfl h (fun r4 s3 h => ?_)
  refine w_if (t := 20) (e := 16) rfl rfl rfl (fun e => ?_) (fun e => ?_)
  · have h := h.1 e
    refine w_aload (p' := 21) rfl rfl rfl rfl ?_
    refine w_getR (p' := 24) rfl rfl rfl rfl rfl ?_
    refine w_iload (p' := 25) rfl rfl rfl rfl ?_
    refine w_const (p' := 27) rfl rfl rfl ?_
    refine v_callV (M' := 225) (p' := 30) (rest := []) (as := [(.inr (.inr (.inl (some 47)))), (.inl x1), (.inl (-3))]) rfl rfl rfl rfl rfl rfl rfl rfl rfl rfl rfl rfl rfl h (fun s5 h => ?_)
    refine w_iload (p' := 31) rfl rfl rfl rfl ?_
    refine w_const (p' := 32) rfl rfl rfl ?_
    refine w_add (p' := 33) rfl rfl h.1 ?_
    have h := h.2
    exact w_iret rfl trivial ⟨rfl, _, rfl, h⟩
  · have h := h.2 e
    refine w_iload (p' := 17) rfl rfl rfl rfl ?_
    refine w_const (p' := 18) rfl rfl rfl ?_
    refine w_add (p' := 19) rfl rfl h.1 ?_
    have h := h.2
    exact w_iret rfl trivial ⟨rfl, _, rfl, h⟩
set_option maxRecDepth 20000 in
theorem sg_Il_passTicks {X : Nat × (Nat → Int32)} {x1 : Int} {s : qM} {K : Int → qM → Prop} (h : c_Il_runEnd X x1 s (fun r2 s1 => (-2147483648 ≤ (r2 - x1) ∧ (r2 - x1) < 2147483648) ∧ c_Il_findTicks X r2 (r2 - x1) s1 (fun r4 s3 => (((r4 ≠ (-1)) → c_Il_pass X x1 r2 s3 (fun s5 => c_Row_set X 47 x1 11 s5 (fun s6 => (-2147483648 ≤ (r4 + (r2 - x1)) ∧ (r4 + (r2 - x1)) < 2147483648) ∧ c_Il_pass X r4 (r4 + (r2 - x1)) s6 (fun s7 => c_Row_set X 47 r4 (-4) s7 (fun s8 => (-2147483648 ≤ (r4 + (r2 - x1)) ∧ (r4 + (r2 - x1)) < 2147483648) ∧ K (r4 + (r2 - x1)) s8))))) ∧ (¬ (r4 ≠ (-1)) → K r2 s3))))) : c_Il_passTicks X x1 s K := by
  unfold c_Il_passTicks
  refine w_aload (p' := 1) rfl rfl rfl rfl ?_
  refine w_iload (p' := 2) rfl rfl rfl rfl ?_
  refine v_callI (M' := 185) (p' := 5) (rest := []) (as := [(.inr (.inr (.inl (some 44)))), (.inl x1)]) rfl rfl rfl rfl rfl rfl rfl rfl rfl rfl rfl rfl rfl h (fun r2 s1 h => ?_)
  refine w_istore (p' := 6) (ls' := [some (.inr (.inr (.inl (some 44)))), some (.inl x1), some (.inl r2), none, none]) rfl rfl rfl (Nat.le_of_ble_eq_true rfl) rfl ?_
  refine w_iload (p' := 7) rfl rfl rfl rfl ?_
  refine w_iload (p' := 8) rfl rfl rfl rfl ?_
  refine w_sub (p' := 9) rfl rfl h.1 ?_
  have h := h.2
  refine w_istore (p' := 10) (ls' := [some (.inr (.inr (.inl (some 44)))), some (.inl x1), some (.inl r2), some (.inl (r2 - x1)), none]) rfl rfl rfl (Nat.le_of_ble_eq_true rfl) rfl ?_
  refine w_aload (p' := 11) rfl rfl rfl rfl ?_
  refine w_iload (p' := 12) rfl rfl rfl rfl ?_
  refine w_iload (p' := 13) rfl rfl rfl rfl ?_
  refine v_callI (M' := 184) (p' := 16) (rest := []) (as := [(.inr (.inr (.inl (some 44)))), (.inl r2), (.inl (r2 - x1))]) rfl rfl rfl rfl rfl rfl rfl rfl rfl rfl rfl rfl rfl h (fun r4 s3 h => ?_)
  refine w_istore (p' := 18) (ls' := [some (.inr (.inr (.inl (some 44)))), some (.inl x1), some (.inl r2), some (.inl (r2 - x1)), some (.inl r4)]) rfl rfl rfl (Nat.le_of_ble_eq_true rfl) rfl ?_
  refine w_iload (p' := 20) rfl rfl rfl rfl ?_
  refine w_const (p' := 21) rfl rfl rfl ?_
  refine w_icmp (t := 26) (e := 24) rfl rfl rfl (fun e => ?_) (fun e => ?_)
  · have h := h.1 e
    refine w_aload (p' := 27) rfl rfl rfl rfl ?_
    refine w_iload (p' := 28) rfl rfl rfl rfl ?_
    refine w_iload (p' := 29) rfl rfl rfl rfl ?_
    refine v_callV (M' := 186) (p' := 32) (rest := []) (as := [(.inr (.inr (.inl (some 44)))), (.inl x1), (.inl r2)]) rfl rfl rfl rfl rfl rfl rfl rfl rfl rfl rfl rfl rfl h (fun s5 h => ?_)
    refine w_aload (p' := 33) rfl rfl rfl rfl ?_
    refine w_getR (p' := 36) rfl rfl rfl rfl rfl ?_
    refine w_iload (p' := 37) rfl rfl rfl rfl ?_
    refine w_const (p' := 39) rfl rfl rfl ?_
    refine v_callV (M' := 225) (p' := 42) (rest := []) (as := [(.inr (.inr (.inl (some 47)))), (.inl x1), (.inl 11)]) rfl rfl rfl rfl rfl rfl rfl rfl rfl rfl rfl rfl rfl h (fun s6 h => ?_)
    refine w_aload (p' := 43) rfl rfl rfl rfl ?_
    refine w_iload (p' := 45) rfl rfl rfl rfl ?_
    refine w_iload (p' := 47) rfl rfl rfl rfl ?_
    refine w_iload (p' := 48) rfl rfl rfl rfl ?_
    refine w_add (p' := 49) rfl rfl h.1 ?_
    have h := h.2
    refine v_callV (M' := 186) (p' := 52) (rest := []) (as := [(.inr (.inr (.inl (some 44)))), (.inl r4), (.inl (r4 + (r2 - x1)))]) rfl rfl rfl rfl rfl rfl rfl rfl rfl rfl rfl rfl rfl h (fun s7 h => ?_)
    refine w_aload (p' := 53) rfl rfl rfl rfl ?_
    refine w_getR (p' := 56) rfl rfl rfl rfl rfl ?_
    refine w_iload (p' := 58) rfl rfl rfl rfl ?_
    refine w_const (p' := 60) rfl rfl rfl ?_
    refine v_callV (M' := 225) (p' := 63) (rest := []) (as := [(.inr (.inr (.inl (some 47)))), (.inl r4), (.inl (-4))]) rfl rfl rfl rfl rfl rfl rfl rfl rfl rfl rfl rfl rfl h (fun s8 h => ?_)
    refine w_iload (p' := 65) rfl rfl rfl rfl ?_
    refine w_iload (p' := 66) rfl rfl rfl rfl ?_
    refine w_add (p' := 67) rfl rfl h.1 ?_
    have h := h.2
    exact w_iret rfl trivial ⟨rfl, _, rfl, h⟩
  · have h := h.2 e
    refine w_iload (p' := 25) rfl rfl rfl rfl ?_
    exact w_iret rfl trivial ⟨rfl, _, rfl, h⟩
set_option maxRecDepth 20000 in
theorem sg_Il_findTicks {X : Nat × (Nat → Int32)} {x1 : Int} {x2 : Int} {s : qM} {K : Int → qM → Prop} (h : L_Il_findTicks_5 X x2 x1 0 s K) : c_Il_findTicks X x1 x2 s K := by
  unfold c_Il_findTicks
  refine w_iload (p' := 1) rfl rfl rfl rfl ?_
  refine w_istore (p' := 2) (ls' := [some (.inr (.inr (.inl (some 44)))), some (.inl x1), some (.inl x2), some (.inl x1), none, none]) rfl rfl rfl (Nat.le_of_ble_eq_true rfl) rfl ?_
  refine w_const (p' := 3) rfl rfl rfl ?_
  refine w_istore (p' := 5) (ls' := [some (.inr (.inr (.inl (some 44)))), some (.inl x1), some (.inl x2), some (.inl x1), some (.inl 0), none]) rfl rfl rfl (Nat.le_of_ble_eq_true rfl) rfl ?_
  exact w_cut (q_le_s (q_le_n (q_le_s (q_le_s (q_le_s (q_le_n q_le_z)))))) h
set_option maxRecDepth 20000 in
theorem sg_Il_findTicks_5 {X : Nat × (Nat → Int32)}  {v2 v3 v4 : Int} {s : qM} {K : Int → qM → Prop} (h : (((240 ≤ v4) → K (-1) s) ∧ (¬ (240 ≤ v4) → c_Row_size X 45 s (fun r2 s1 => (((r2 ≤ v3) → K (-1) s1) ∧ (¬ (r2 ≤ v3) → c_Il_runEnd X v3 s1 (fun r4 s3 => c_Row_at X 45 v3 s3 (fun r6 s5 => (((r6 ≠ 96) → (-2147483648 ≤ (v4 + 1) ∧ (v4 + 1) < 2147483648) ∧ L_Il_findTicks_5 X v2 r4 (v4 + 1) s5 K) ∧ (¬ (r6 ≠ 96) → (-2147483648 ≤ (r4 - v3) ∧ (r4 - v3) < 2147483648) ∧ ((((r4 - v3) ≠ v2) → (-2147483648 ≤ (v4 + 1) ∧ (v4 + 1) < 2147483648) ∧ L_Il_findTicks_5 X v2 r4 (v4 + 1) s5 K) ∧ (¬ ((r4 - v3) ≠ v2) → K v3 s5)))))))))))) : L_Il_findTicks_5 X v2 v3 v4 s K := by
  unfold L_Il_findTicks_5
  refine w_iload (p' := 7) rfl rfl rfl rfl ?_
  refine w_const (p' := 10) rfl rfl rfl ?_
  refine w_icmp (t := 63) (e := 13) rfl rfl rfl (fun e => ?_) (fun e => ?_)
  · have h := h.1 e
    refine w_const (p' := 64) rfl rfl rfl ?_
    exact w_iret rfl trivial ⟨rfl, _, rfl, h⟩
  · have h := h.2 e
    refine w_iload (p' := 14) rfl rfl rfl rfl ?_
    refine w_aload (p' := 15) rfl rfl rfl rfl ?_
    refine w_getR (p' := 18) rfl rfl rfl rfl rfl ?_
    refine v_callI (M' := 223) (p' := 21) (rest := [(.inl v3)]) (as := [(.inr (.inr (.inl (some 45))))]) rfl rfl rfl rfl rfl rfl rfl rfl rfl rfl rfl rfl rfl h (fun r2 s1 h => ?_)
    refine w_icmp (t := 63) (e := 24) rfl rfl rfl (fun e => ?_) (fun e => ?_)
    · have h := h.1 e
      refine w_const (p' := 64) rfl rfl rfl ?_
      exact w_iret rfl trivial ⟨rfl, _, rfl, h⟩
    · have h := h.2 e
      refine w_aload (p' := 25) rfl rfl rfl rfl ?_
      refine w_iload (p' := 26) rfl rfl rfl rfl ?_
      refine v_callI (M' := 185) (p' := 29) (rest := []) (as := [(.inr (.inr (.inl (some 44)))), (.inl v3)]) rfl rfl rfl rfl rfl rfl rfl rfl rfl rfl rfl rfl rfl h (fun r4 s3 h => ?_)
      refine w_istore (p' := 31) (ls' := [some (.inr (.inr (.inl (some 44)))), none, some (.inl v2), some (.inl v3), some (.inl v4), some (.inl r4)]) rfl rfl rfl (Nat.le_of_ble_eq_true rfl) rfl ?_
      refine w_aload (p' := 32) rfl rfl rfl rfl ?_
      refine w_getR (p' := 35) rfl rfl rfl rfl rfl ?_
      refine w_iload (p' := 36) rfl rfl rfl rfl ?_
      refine v_callI (M' := 224) (p' := 39) (rest := []) (as := [(.inr (.inr (.inl (some 45)))), (.inl v3)]) rfl rfl rfl rfl rfl rfl rfl rfl rfl rfl rfl rfl rfl h (fun r6 s5 h => ?_)
      refine w_const (p' := 41) rfl rfl rfl ?_
      refine w_icmp (t := 54) (e := 44) rfl rfl rfl (fun e => ?_) (fun e => ?_)
      · have h := h.1 e
        refine w_iload (p' := 56) rfl rfl rfl rfl ?_
        refine w_istore (p' := 57) (ls' := [some (.inr (.inr (.inl (some 44)))), none, some (.inl v2), some (.inl r4), some (.inl v4), some (.inl r4)]) rfl rfl rfl (Nat.le_of_ble_eq_true rfl) rfl ?_
        refine w_iinc (p' := 60) (ls' := [some (.inr (.inr (.inl (some 44)))), none, some (.inl v2), some (.inl r4), some (.inl (v4 + 1)), some (.inl r4)]) rfl rfl rfl (Nat.le_of_ble_eq_true rfl) h.1 rfl ?_
        have h := h.2
        refine w_goto (p' := 5) rfl rfl ?_
        exact w_cut (q_le_s (q_le_n (q_le_s (q_le_s (q_le_s (q_le_n q_le_z)))))) h
      · have h := h.2 e
        refine w_iload (p' := 46) rfl rfl rfl rfl ?_
        refine w_iload (p' := 47) rfl rfl rfl rfl ?_
        refine w_sub (p' := 48) rfl rfl h.1 ?_
        have h := h.2
        refine w_iload (p' := 49) rfl rfl rfl rfl ?_
        refine w_icmp (t := 54) (e := 52) rfl rfl rfl (fun e => ?_) (fun e => ?_)
        · have h := h.1 e
          refine w_iload (p' := 56) rfl rfl rfl rfl ?_
          refine w_istore (p' := 57) (ls' := [some (.inr (.inr (.inl (some 44)))), none, some (.inl v2), some (.inl r4), some (.inl v4), some (.inl r4)]) rfl rfl rfl (Nat.le_of_ble_eq_true rfl) rfl ?_
          refine w_iinc (p' := 60) (ls' := [some (.inr (.inr (.inl (some 44)))), none, some (.inl v2), some (.inl r4), some (.inl (v4 + 1)), some (.inl r4)]) rfl rfl rfl (Nat.le_of_ble_eq_true rfl) h.1 rfl ?_
          have h := h.2
          refine w_goto (p' := 5) rfl rfl ?_
          exact w_cut (q_le_s (q_le_n (q_le_s (q_le_s (q_le_s (q_le_n q_le_z)))))) h
        · have h := h.2 e
          refine w_iload (p' := 53) rfl rfl rfl rfl ?_
          exact w_iret rfl trivial ⟨rfl, _, rfl, h⟩
set_option maxRecDepth 20000 in
theorem sg_Il_runEnd {X : Nat × (Nat → Int32)} {x1 : Int} {s : qM} {K : Int → qM → Prop} (h : (-2147483648 ≤ (x1 + 1) ∧ (x1 + 1) < 2147483648) ∧ L_Il_runEnd_4 X x1 (x1 + 1) s K) : c_Il_runEnd X x1 s K := by
  unfold c_Il_runEnd
  refine w_iload (p' := 1) rfl rfl rfl rfl ?_
  refine w_const (p' := 2) rfl rfl rfl ?_
  refine w_add (p' := 3) rfl rfl h.1 ?_
  have h := h.2
  refine w_istore (p' := 4) (ls' := [some (.inr (.inr (.inl (some 44)))), some (.inl x1), some (.inl (x1 + 1))]) rfl rfl rfl (Nat.le_of_ble_eq_true rfl) rfl ?_
  exact w_cut (q_le_s (q_le_s (q_le_s q_le_z))) h
set_option maxRecDepth 20000 in
theorem sg_Il_runEnd_4 {X : Nat × (Nat → Int32)}  {v1 v2 : Int} {s : qM} {K : Int → qM → Prop} (h : c_Row_size X 45 s (fun r2 s1 => (((r2 ≤ v2) → c_Row_size X 45 s1 (fun r4 s3 => K r4 s3)) ∧ (¬ (r2 ≤ v2) → c_Row_at X 45 v2 s1 (fun r6 s5 => c_Row_at X 45 v1 s5 (fun r8 s7 => (((r6 = r8) → (-2147483648 ≤ (v2 + 1) ∧ (v2 + 1) < 2147483648) ∧ L_Il_runEnd_4 X v1 (v2 + 1) s7 K) ∧ (¬ (r6 = r8) → K v2 s7)))))))) : L_Il_runEnd_4 X v1 v2 s K := by
  unfold L_Il_runEnd_4
  refine w_iload (p' := 5) rfl rfl rfl rfl ?_
  refine w_aload (p' := 6) rfl rfl rfl rfl ?_
  refine w_getR (p' := 9) rfl rfl rfl rfl rfl ?_
  refine v_callI (M' := 223) (p' := 12) (rest := [(.inl v2)]) (as := [(.inr (.inr (.inl (some 45))))]) rfl rfl rfl rfl rfl rfl rfl rfl rfl rfl rfl rfl rfl h (fun r2 s1 h => ?_)
  refine w_icmp (t := 42) (e := 15) rfl rfl rfl (fun e => ?_) (fun e => ?_)
  · have h := h.1 e
    refine w_aload (p' := 43) rfl rfl rfl rfl ?_
    refine w_getR (p' := 46) rfl rfl rfl rfl rfl ?_
    refine v_callI (M' := 223) (p' := 49) (rest := []) (as := [(.inr (.inr (.inl (some 45))))]) rfl rfl rfl rfl rfl rfl rfl rfl rfl rfl rfl rfl rfl h (fun r4 s3 h => ?_)
    exact w_iret rfl trivial ⟨rfl, _, rfl, h⟩
  · have h := h.2 e
    refine w_aload (p' := 16) rfl rfl rfl rfl ?_
    refine w_getR (p' := 19) rfl rfl rfl rfl rfl ?_
    refine w_iload (p' := 20) rfl rfl rfl rfl ?_
    refine v_callI (M' := 224) (p' := 23) (rest := []) (as := [(.inr (.inr (.inl (some 45)))), (.inl v2)]) rfl rfl rfl rfl rfl rfl rfl rfl rfl rfl rfl rfl rfl h (fun r6 s5 h => ?_)
    refine w_aload (p' := 24) rfl rfl rfl rfl ?_
    refine w_getR (p' := 27) rfl rfl rfl rfl rfl ?_
    refine w_iload (p' := 28) rfl rfl rfl rfl ?_
    refine v_callI (M' := 224) (p' := 31) (rest := [(.inl r6)]) (as := [(.inr (.inr (.inl (some 45)))), (.inl v1)]) rfl rfl rfl rfl rfl rfl rfl rfl rfl rfl rfl rfl rfl h (fun r8 s7 h => ?_)
    refine w_icmp (t := 36) (e := 34) rfl rfl rfl (fun e => ?_) (fun e => ?_)
    · have h := h.1 e
      refine w_iinc (p' := 39) (ls' := [some (.inr (.inr (.inl (some 44)))), some (.inl v1), some (.inl (v2 + 1))]) rfl rfl rfl (Nat.le_of_ble_eq_true rfl) h.1 rfl ?_
      have h := h.2
      refine w_goto (p' := 4) rfl rfl ?_
      exact w_cut (q_le_s (q_le_s (q_le_s q_le_z))) h
    · have h := h.2 e
      refine w_iload (p' := 35) rfl rfl rfl rfl ?_
      exact w_iret rfl trivial ⟨rfl, _, rfl, h⟩
set_option maxRecDepth 20000 in
theorem sg_Il_pass {X : Nat × (Nat → Int32)} {x1 : Int} {x2 : Int} {s : qM} {K : qM → Prop} (h : L_Il_pass_2 X x2 x1 s K) : c_Il_pass X x1 x2 s K := by
  unfold c_Il_pass
  refine w_iload (p' := 1) rfl rfl rfl rfl ?_
  refine w_istore (p' := 2) (ls' := [some (.inr (.inr (.inl (some 44)))), some (.inl x1), some (.inl x2), some (.inl x1)]) rfl rfl rfl (Nat.le_of_ble_eq_true rfl) rfl ?_
  exact w_cut (q_le_s (q_le_n (q_le_s (q_le_s q_le_z)))) h
set_option maxRecDepth 20000 in
theorem sg_Il_pass_2 {X : Nat × (Nat → Int32)}  {v2 v3 : Int} {s : qM} {K : qM → Prop} (h : (((v2 ≤ v3) → K s) ∧ (¬ (v2 ≤ v3) → c_Row_set X 47 v3 (-3) s (fun s1 => (-2147483648 ≤ (v3 + 1) ∧ (v3 + 1) < 2147483648) ∧ L_Il_pass_2 X v2 (v3 + 1) s1 K)))) : L_Il_pass_2 X v2 v3 s K := by
  unfold L_Il_pass_2
  refine w_iload (p' := 3) rfl rfl rfl rfl ?_
  refine w_iload (p' := 4) rfl rfl rfl rfl ?_
  refine w_icmp (t := 23) (e := 7) rfl rfl rfl (fun e => ?_) (fun e => ?_)
  · have h := h.1 e
    exact w_vret rfl ⟨rfl, rfl, h⟩
  · have h := h.2 e
    refine w_aload (p' := 8) rfl rfl rfl rfl ?_
    refine w_getR (p' := 11) rfl rfl rfl rfl rfl ?_
    refine w_iload (p' := 12) rfl rfl rfl rfl ?_
    refine w_const (p' := 14) rfl rfl rfl ?_
    refine v_callV (M' := 225) (p' := 17) (rest := []) (as := [(.inr (.inr (.inl (some 47)))), (.inl v3), (.inl (-3))]) rfl rfl rfl rfl rfl rfl rfl rfl rfl rfl rfl rfl rfl h (fun s1 h => ?_)
    refine w_iinc (p' := 20) (ls' := [some (.inr (.inr (.inl (some 44)))), none, some (.inl v2), some (.inl (v3 + 1))]) rfl rfl rfl (Nat.le_of_ble_eq_true rfl) h.1 rfl ?_
    have h := h.2
    refine w_goto (p' := 2) rfl rfl ?_
    exact w_cut (q_le_s (q_le_n (q_le_s (q_le_s q_le_z)))) h
set_option maxRecDepth 20000 in
theorem sg_Il_passBracket {X : Nat × (Nat → Int32)} {x1 : Int} {s : qM} {K : Int → qM → Prop} (h : c_Row_size X 51 s (fun r2 s1 => (((r2 ≠ 0) → c_Row_size X 51 s1 (fun r4 s3 => (-2147483648 ≤ (r4 - 1) ∧ (r4 - 1) < 2147483648) ∧ c_Row_at X 51 (r4 - 1) s3 (fun r6 s5 => c_Row_size X 51 s5 (fun r8 s7 => (-2147483648 ≤ (r8 - 1) ∧ (r8 - 1) < 2147483648) ∧ c_Row_cut X 51 (r8 - 1) s7 (fun s9 => (-2147483648 ≤ (x1 + 1) ∧ (x1 + 1) < 2147483648) ∧ c_Il_referenceEnd X (x1 + 1) s9 (fun r11 s10 => (-2147483648 ≤ (x1 + 1) ∧ (x1 + 1) < 2147483648) ∧ (((r11 ≤ (x1 + 1)) → L_Il_passBracket_67 X x1 r6 r11 0 s10 K) ∧ (¬ (r11 ≤ (x1 + 1)) → L_Il_passBracket_67 X x1 r6 r11 1 s10 K)))))))) ∧ (¬ (r2 ≠ 0) → (-2147483648 ≤ (x1 + 1) ∧ (x1 + 1) < 2147483648) ∧ K (x1 + 1) s1)))) : c_Il_passBracket X x1 s K := by
  unfold c_Il_passBracket
  refine w_aload (p' := 1) rfl rfl rfl rfl ?_
  refine w_getR (p' := 4) rfl rfl rfl rfl rfl ?_
  refine v_callI (M' := 223) (p' := 7) (rest := []) (as := [(.inr (.inr (.inl (some 51))))]) rfl rfl rfl rfl rfl rfl rfl rfl rfl rfl rfl rfl rfl h (fun r2 s1 h => ?_)
  refine w_if (t := 14) (e := 10) rfl rfl rfl (fun e => ?_) (fun e => ?_)
  · have h := h.1 e
    refine w_aload (p' := 15) rfl rfl rfl rfl ?_
    refine w_getR (p' := 18) rfl rfl rfl rfl rfl ?_
    refine w_aload (p' := 19) rfl rfl rfl rfl ?_
    refine w_getR (p' := 22) rfl rfl rfl rfl rfl ?_
    refine v_callI (M' := 223) (p' := 25) (rest := [(.inr (.inr (.inl (some 51))))]) (as := [(.inr (.inr (.inl (some 51))))]) rfl rfl rfl rfl rfl rfl rfl rfl rfl rfl rfl rfl rfl h (fun r4 s3 h => ?_)
    refine w_const (p' := 26) rfl rfl rfl ?_
    refine w_sub (p' := 27) rfl rfl h.1 ?_
    have h := h.2
    refine v_callI (M' := 224) (p' := 30) (rest := []) (as := [(.inr (.inr (.inl (some 51)))), (.inl (r4 - 1))]) rfl rfl rfl rfl rfl rfl rfl rfl rfl rfl rfl rfl rfl h (fun r6 s5 h => ?_)
    refine w_istore (p' := 31) (ls' := [some (.inr (.inr (.inl (some 44)))), some (.inl x1), some (.inl r6), none, none, none, none, none]) rfl rfl rfl (Nat.le_of_ble_eq_true rfl) rfl ?_
    refine w_aload (p' := 32) rfl rfl rfl rfl ?_
    refine w_getR (p' := 35) rfl rfl rfl rfl rfl ?_
    refine w_aload (p' := 36) rfl rfl rfl rfl ?_
    refine w_getR (p' := 39) rfl rfl rfl rfl rfl ?_
    refine v_callI (M' := 223) (p' := 42) (rest := [(.inr (.inr (.inl (some 51))))]) (as := [(.inr (.inr (.inl (some 51))))]) rfl rfl rfl rfl rfl rfl rfl rfl rfl rfl rfl rfl rfl h (fun r8 s7 h => ?_)
    refine w_const (p' := 43) rfl rfl rfl ?_
    refine w_sub (p' := 44) rfl rfl h.1 ?_
    have h := h.2
    refine v_callV (M' := 228) (p' := 47) (rest := []) (as := [(.inr (.inr (.inl (some 51)))), (.inl (r8 - 1))]) rfl rfl rfl rfl rfl rfl rfl rfl rfl rfl rfl rfl rfl h (fun s9 h => ?_)
    refine w_aload (p' := 48) rfl rfl rfl rfl ?_
    refine w_iload (p' := 49) rfl rfl rfl rfl ?_
    refine w_const (p' := 50) rfl rfl rfl ?_
    refine w_add (p' := 51) rfl rfl h.1 ?_
    have h := h.2
    refine v_callI (M' := 188) (p' := 54) (rest := []) (as := [(.inr (.inr (.inl (some 44)))), (.inl (x1 + 1))]) rfl rfl rfl rfl rfl rfl rfl rfl rfl rfl rfl rfl rfl h (fun r11 s10 h => ?_)
    refine w_istore (p' := 55) (ls' := [some (.inr (.inr (.inl (some 44)))), some (.inl x1), some (.inl r6), some (.inl r11), none, none, none, none]) rfl rfl rfl (Nat.le_of_ble_eq_true rfl) rfl ?_
    refine w_iload (p' := 56) rfl rfl rfl rfl ?_
    refine w_iload (p' := 57) rfl rfl rfl rfl ?_
    refine w_const (p' := 58) rfl rfl rfl ?_
    refine w_add (p' := 59) rfl rfl h.1 ?_
    have h := h.2
    refine w_icmp (t := 66) (e := 62) rfl rfl rfl (fun e => ?_) (fun e => ?_)
    · have h := h.1 e
      refine w_const (p' := 67) rfl rfl rfl ?_
      exact w_cut (q_le_s (q_le_s (q_le_s (q_le_s (q_le_n (q_le_n (q_le_n (q_le_n q_le_z)))))))) h
    · have h := h.2 e
      refine w_const (p' := 63) rfl rfl rfl ?_
      refine w_goto (p' := 67) rfl rfl ?_
      exact w_cut (q_le_s (q_le_s (q_le_s (q_le_s (q_le_n (q_le_n (q_le_n (q_le_n q_le_z)))))))) h
  · have h := h.2 e
    refine w_iload (p' := 11) rfl rfl rfl rfl ?_
    refine w_const (p' := 12) rfl rfl rfl ?_
    refine w_add (p' := 13) rfl rfl h.1 ?_
    have h := h.2
    exact w_iret rfl trivial ⟨rfl, _, rfl, h⟩
set_option maxRecDepth 20000 in
theorem sg_Il_passBracket_67 {X : Nat × (Nat → Int32)}  {v1 v2 v3 t0 : Int} {s : qM} {K : Int → qM → Prop} (h : (((t0 = 0) → (-2147483648 ≤ (v2 + 1) ∧ (v2 + 1) < 2147483648) ∧ c_T_nameCode X 45 (v2 + 1) v1 s (fun r2 s1 => ((((q_lcmp r2 0) ≠ 0) → c_Blocks_linkSign X r2 s1 (fun r4 s3 => L_Il_passBracket_123 X v1 v2 v3 r4 s3 K)) ∧ (¬ ((q_lcmp r2 0) ≠ 0) → L_Il_passBracket_123 X v1 v2 v3 (-1) s1 K)))) ∧ (¬ (t0 = 0) → (-2147483648 ≤ (v1 + 2) ∧ (v1 + 2) < 2147483648) ∧ (-2147483648 ≤ (v3 - 1) ∧ (v3 - 1) < 2147483648) ∧ c_T_nameCode X 45 (v1 + 2) (v3 - 1) s (fun r6 s5 => ((((q_lcmp r6 0) ≠ 0) → c_Blocks_linkSign X r6 s5 (fun r8 s7 => L_Il_passBracket_123 X v1 v2 v3 r8 s7 K)) ∧ (¬ ((q_lcmp r6 0) ≠ 0) → L_Il_passBracket_123 X v1 v2 v3 (-1) s5 K)))))) : L_Il_passBracket_67 X v1 v2 v3 t0 s K := by
  unfold L_Il_passBracket_67
  refine w_istore (p' := 69) (ls' := [some (.inr (.inr (.inl (some 44)))), some (.inl v1), some (.inl v2), some (.inl v3), some (.inl t0), none, none, none]) rfl rfl rfl (Nat.le_of_ble_eq_true rfl) rfl ?_
  refine w_iload (p' := 71) rfl rfl rfl rfl ?_
  refine w_if (t := 90) (e := 74) rfl rfl rfl (fun e => ?_) (fun e => ?_)
  · have h := h.1 e
    refine w_aload (p' := 91) rfl rfl rfl rfl ?_
    refine w_getR (p' := 94) rfl rfl rfl rfl rfl ?_
    refine w_iload (p' := 95) rfl rfl rfl rfl ?_
    refine w_const (p' := 96) rfl rfl rfl ?_
    refine w_add (p' := 97) rfl rfl h.1 ?_
    have h := h.2
    refine w_iload (p' := 98) rfl rfl rfl rfl ?_
    refine v_callL (M' := 42) (p' := 101) (rest := []) (as := [(.inr (.inr (.inl (some 45)))), (.inl (v2 + 1)), (.inl v1)]) rfl rfl rfl rfl rfl rfl rfl rfl rfl rfl rfl trivial rfl h (fun r2 s1 h => ?_)
    refine w_lstore (p' := 103) (ls' := [some (.inr (.inr (.inl (some 44)))), some (.inl v1), some (.inl v2), some (.inl v3), some (.inl t0), some (.inr (.inl r2)), none, none]) rfl rfl rfl (Nat.le_of_ble_eq_true rfl) rfl ?_
    refine w_lload (p' := 105) rfl rfl rfl rfl ?_
    refine w_lconst (p' := 106) rfl rfl rfl ?_
    refine w_lcmp (p' := 107) rfl rfl ?_
    refine w_if (t := 114) (e := 110) rfl rfl rfl (fun e => ?_) (fun e => ?_)
    · have h := h.1 e
      refine w_aload (p' := 115) rfl rfl rfl rfl ?_
      refine w_getR (p' := 118) rfl rfl rfl rfl rfl ?_
      refine w_lload (p' := 120) rfl rfl rfl rfl ?_
      refine v_callI (M' := 172) (p' := 123) (rest := []) (as := [(.inr (.inr (.inl (some 12)))), (.inr (.inl r2))]) rfl rfl rfl rfl rfl rfl rfl rfl rfl rfl rfl rfl rfl h (fun r4 s3 h => ?_)
      exact w_cut (q_le_s (q_le_s (q_le_s (q_le_s (q_le_n (q_le_n (q_le_n (q_le_n q_le_z)))))))) h
    · have h := h.2 e
      refine w_const (p' := 111) rfl rfl rfl ?_
      refine w_goto (p' := 123) rfl rfl ?_
      exact w_cut (q_le_s (q_le_s (q_le_s (q_le_s (q_le_n (q_le_n (q_le_n (q_le_n q_le_z)))))))) h
  · have h := h.2 e
    refine w_aload (p' := 75) rfl rfl rfl rfl ?_
    refine w_getR (p' := 78) rfl rfl rfl rfl rfl ?_
    refine w_iload (p' := 79) rfl rfl rfl rfl ?_
    refine w_const (p' := 80) rfl rfl rfl ?_
    refine w_add (p' := 81) rfl rfl h.1 ?_
    have h := h.2
    refine w_iload (p' := 82) rfl rfl rfl rfl ?_
    refine w_const (p' := 83) rfl rfl rfl ?_
    refine w_sub (p' := 84) rfl rfl h.1 ?_
    have h := h.2
    refine v_callL (M' := 42) (p' := 87) (rest := []) (as := [(.inr (.inr (.inl (some 45)))), (.inl (v1 + 2)), (.inl (v3 - 1))]) rfl rfl rfl rfl rfl rfl rfl rfl rfl rfl rfl trivial rfl h (fun r6 s5 h => ?_)
    refine w_goto (p' := 101) rfl rfl ?_
    refine w_lstore (p' := 103) (ls' := [some (.inr (.inr (.inl (some 44)))), some (.inl v1), some (.inl v2), some (.inl v3), some (.inl t0), some (.inr (.inl r6)), none, none]) rfl rfl rfl (Nat.le_of_ble_eq_true rfl) rfl ?_
    refine w_lload (p' := 105) rfl rfl rfl rfl ?_
    refine w_lconst (p' := 106) rfl rfl rfl ?_
    refine w_lcmp (p' := 107) rfl rfl ?_
    refine w_if (t := 114) (e := 110) rfl rfl rfl (fun e => ?_) (fun e => ?_)
    · have h := h.1 e
      refine w_aload (p' := 115) rfl rfl rfl rfl ?_
      refine w_getR (p' := 118) rfl rfl rfl rfl rfl ?_
      refine w_lload (p' := 120) rfl rfl rfl rfl ?_
      refine v_callI (M' := 172) (p' := 123) (rest := []) (as := [(.inr (.inr (.inl (some 12)))), (.inr (.inl r6))]) rfl rfl rfl rfl rfl rfl rfl rfl rfl rfl rfl rfl rfl h (fun r8 s7 h => ?_)
      exact w_cut (q_le_s (q_le_s (q_le_s (q_le_s (q_le_n (q_le_n (q_le_n (q_le_n q_le_z)))))))) h
    · have h := h.2 e
      refine w_const (p' := 111) rfl rfl rfl ?_
      refine w_goto (p' := 123) rfl rfl ?_
      exact w_cut (q_le_s (q_le_s (q_le_s (q_le_s (q_le_n (q_le_n (q_le_n (q_le_n q_le_z)))))))) h
set_option maxRecDepth 20000 in
theorem sg_Il_passBracket_123 {X : Nat × (Nat → Int32)}  {v1 v2 v3 t0 : Int} {s : qM} {K : Int → qM → Prop} (h : (((t0 ≠ (-1)) → c_Row_set X 47 v2 12 s (fun s1 => c_Row_set X 49 v2 t0 s1 (fun s2 => c_Row_set X 47 v1 (-4) s2 (fun s3 => (-2147483648 ≤ (v1 + 1) ∧ (v1 + 1) < 2147483648) ∧ c_Il_pass X (v1 + 1) v3 s3 (fun s4 => c_Row_empty X 51 s4 (fun s5 => c_Runs_firstBehind X v2 s5 (fun r7 s6 => c_Runs_resolve X r7 47 s6 (fun s8 => K v3 s8)))))))) ∧ (¬ (t0 ≠ (-1)) → (-2147483648 ≤ (v1 + 1) ∧ (v1 + 1) < 2147483648) ∧ K (v1 + 1) s))) : L_Il_passBracket_123 X v1 v2 v3 t0 s K := by
  unfold L_Il_passBracket_123
  refine w_istore (p' := 125) (ls' := [some (.inr (.inr (.inl (some 44)))), some (.inl v1), some (.inl v2), some (.inl v3), none, none, none, some (.inl t0)]) rfl rfl rfl (Nat.le_of_ble_eq_true rfl) rfl ?_
  refine w_iload (p' := 127) rfl rfl rfl rfl ?_
  refine w_const (p' := 128) rfl rfl rfl ?_
  refine w_icmp (t := 135) (e := 131) rfl rfl rfl (fun e => ?_) (fun e => ?_)
  · have h := h.1 e
    refine w_aload (p' := 136) rfl rfl rfl rfl ?_
    refine w_getR (p' := 139) rfl rfl rfl rfl rfl ?_
    refine w_iload (p' := 140) rfl rfl rfl rfl ?_
    refine w_const (p' := 142) rfl rfl rfl ?_
    refine v_callV (M' := 225) (p' := 145) (rest := []) (as := [(.inr (.inr (.inl (some 47)))), (.inl v2), (.inl 12)]) rfl rfl rfl rfl rfl rfl rfl rfl rfl rfl rfl rfl rfl h (fun s1 h => ?_)
    refine w_aload (p' := 146) rfl rfl rfl rfl ?_
    refine w_getR (p' := 149) rfl rfl rfl rfl rfl ?_
    refine w_iload (p' := 150) rfl rfl rfl rfl ?_
    refine w_iload (p' := 152) rfl rfl rfl rfl ?_
    refine v_callV (M' := 225) (p' := 155) (rest := []) (as := [(.inr (.inr (.inl (some 49)))), (.inl v2), (.inl t0)]) rfl rfl rfl rfl rfl rfl rfl rfl rfl rfl rfl rfl rfl h (fun s2 h => ?_)
    refine w_aload (p' := 156) rfl rfl rfl rfl ?_
    refine w_getR (p' := 159) rfl rfl rfl rfl rfl ?_
    refine w_iload (p' := 160) rfl rfl rfl rfl ?_
    refine w_const (p' := 162) rfl rfl rfl ?_
    refine v_callV (M' := 225) (p' := 165) (rest := []) (as := [(.inr (.inr (.inl (some 47)))), (.inl v1), (.inl (-4))]) rfl rfl rfl rfl rfl rfl rfl rfl rfl rfl rfl rfl rfl h (fun s3 h => ?_)
    refine w_aload (p' := 166) rfl rfl rfl rfl ?_
    refine w_iload (p' := 167) rfl rfl rfl rfl ?_
    refine w_const (p' := 168) rfl rfl rfl ?_
    refine w_add (p' := 169) rfl rfl h.1 ?_
    have h := h.2
    refine w_iload (p' := 170) rfl rfl rfl rfl ?_
    refine v_callV (M' := 186) (p' := 173) (rest := []) (as := [(.inr (.inr (.inl (some 44)))), (.inl (v1 + 1)), (.inl v3)]) rfl rfl rfl rfl rfl rfl rfl rfl rfl rfl rfl rfl rfl h (fun s4 h => ?_)
    refine w_aload (p' := 174) rfl rfl rfl rfl ?_
    refine w_getR (p' := 177) rfl rfl rfl rfl rfl ?_
    refine v_callV (M' := 227) (p' := 180) (rest := []) (as := [(.inr (.inr (.inl (some 51))))]) rfl rfl rfl rfl rfl rfl rfl rfl rfl rfl rfl rfl rfl h (fun s5 h => ?_)
    refine w_aload (p' := 181) rfl rfl rfl rfl ?_
    refine w_getR (p' := 184) rfl rfl rfl rfl rfl ?_
    refine w_aload (p' := 185) rfl rfl rfl rfl ?_
    refine w_getR (p' := 188) rfl rfl rfl rfl rfl ?_
    refine w_iload (p' := 189) rfl rfl rfl rfl ?_
    refine v_callI (M' := 238) (p' := 192) (rest := [(.inr (.inr (.inl (some 53))))]) (as := [(.inr (.inr (.inl (some 53)))), (.inl v2)]) rfl rfl rfl rfl rfl rfl rfl rfl rfl rfl rfl rfl rfl h (fun r7 s6 h => ?_)
    refine w_aload (p' := 193) rfl rfl rfl rfl ?_
    refine w_getR (p' := 196) rfl rfl rfl rfl rfl ?_
    refine v_callV (M' := 239) (p' := 199) (rest := []) (as := [(.inr (.inr (.inl (some 53)))), (.inl r7), (.inr (.inr (.inl (some 47))))]) rfl rfl rfl rfl rfl rfl rfl rfl rfl rfl rfl rfl rfl h (fun s8 h => ?_)
    refine w_iload (p' := 200) rfl rfl rfl rfl ?_
    exact w_iret rfl trivial ⟨rfl, _, rfl, h⟩
  · have h := h.2 e
    refine w_iload (p' := 132) rfl rfl rfl rfl ?_
    refine w_const (p' := 133) rfl rfl rfl ?_
    refine w_add (p' := 134) rfl rfl h.1 ?_
    have h := h.2
    exact w_iret rfl trivial ⟨rfl, _, rfl, h⟩
set_option maxRecDepth 20000 in
theorem sg_Il_referenceEnd {X : Nat × (Nat → Int32)} {x1 : Int} {s : qM} {K : Int → qM → Prop} (h : c_Row_at X 45 x1 s (fun r2 s1 => (((r2 = 91) → (-2147483648 ≤ (x1 + 1) ∧ (x1 + 1) < 2147483648) ∧ c_Row_size X 45 s1 (fun r4 s3 => c_T_skipWord X 45 (x1 + 1) r4 s3 (fun r6 s5 => (-2147483648 ≤ (r6 - x1) ∧ (r6 - x1) < 2147483648) ∧ (-2147483648 ≤ ((r6 - x1) - 1) ∧ ((r6 - x1) - 1) < 2147483648) ∧ (((((r6 - x1) - 1) < 1) → K x1 s5) ∧ (¬ (((r6 - x1) - 1) < 1) → (((6 < ((r6 - x1) - 1)) → K x1 s5) ∧ (¬ (6 < ((r6 - x1) - 1)) → c_Row_at X 45 r6 s5 (fun r8 s7 => (((r8 ≠ 93) → K x1 s7) ∧ (¬ (r8 ≠ 93) → (-2147483648 ≤ (r6 + 1) ∧ (r6 + 1) < 2147483648) ∧ K (r6 + 1) s7)))))))))) ∧ (¬ (r2 = 91) → K x1 s1)))) : c_Il_referenceEnd X x1 s K := by
  unfold c_Il_referenceEnd
  refine w_aload (p' := 1) rfl rfl rfl rfl ?_
  refine w_getR (p' := 4) rfl rfl rfl rfl rfl ?_
  refine w_iload (p' := 5) rfl rfl rfl rfl ?_
  refine v_callI (M' := 224) (p' := 8) (rest := []) (as := [(.inr (.inr (.inl (some 45)))), (.inl x1)]) rfl rfl rfl rfl rfl rfl rfl rfl rfl rfl rfl rfl rfl h (fun r2 s1 h => ?_)
  refine w_const (p' := 10) rfl rfl rfl ?_
  refine w_icmp (t := 15) (e := 13) rfl rfl rfl (fun e => ?_) (fun e => ?_)
  · have h := h.1 e
    refine w_aload (p' := 16) rfl rfl rfl rfl ?_
    refine w_getR (p' := 19) rfl rfl rfl rfl rfl ?_
    refine w_iload (p' := 20) rfl rfl rfl rfl ?_
    refine w_const (p' := 21) rfl rfl rfl ?_
    refine w_add (p' := 22) rfl rfl h.1 ?_
    have h := h.2
    refine w_aload (p' := 23) rfl rfl rfl rfl ?_
    refine w_getR (p' := 26) rfl rfl rfl rfl rfl ?_
    refine v_callI (M' := 223) (p' := 29) (rest := [(.inl (x1 + 1)), (.inr (.inr (.inl (some 45))))]) (as := [(.inr (.inr (.inl (some 45))))]) rfl rfl rfl rfl rfl rfl rfl rfl rfl rfl rfl rfl rfl h (fun r4 s3 h => ?_)
    refine v_callI (M' := 41) (p' := 32) (rest := []) (as := [(.inr (.inr (.inl (some 45)))), (.inl (x1 + 1)), (.inl r4)]) rfl rfl rfl rfl rfl rfl rfl rfl rfl rfl rfl trivial rfl h (fun r6 s5 h => ?_)
    refine w_istore (p' := 33) (ls' := [some (.inr (.inr (.inl (some 44)))), some (.inl x1), some (.inl r6), none]) rfl rfl rfl (Nat.le_of_ble_eq_true rfl) rfl ?_
    refine w_iload (p' := 34) rfl rfl rfl rfl ?_
    refine w_iload (p' := 35) rfl rfl rfl rfl ?_
    refine w_sub (p' := 36) rfl rfl h.1 ?_
    have h := h.2
    refine w_const (p' := 37) rfl rfl rfl ?_
    refine w_sub (p' := 38) rfl rfl h.1 ?_
    have h := h.2
    refine w_istore (p' := 39) (ls' := [some (.inr (.inr (.inl (some 44)))), some (.inl x1), some (.inl r6), some (.inl ((r6 - x1) - 1))]) rfl rfl rfl (Nat.le_of_ble_eq_true rfl) rfl ?_
    refine w_iload (p' := 40) rfl rfl rfl rfl ?_
    refine w_const (p' := 41) rfl rfl rfl ?_
    refine w_icmp (t := 69) (e := 44) rfl rfl rfl (fun e => ?_) (fun e => ?_)
    · have h := h.1 e
      refine w_iload (p' := 70) rfl rfl rfl rfl ?_
      exact w_iret rfl trivial ⟨rfl, _, rfl, h⟩
    · have h := h.2 e
      refine w_iload (p' := 45) rfl rfl rfl rfl ?_
      refine w_const (p' := 47) rfl rfl rfl ?_
      refine w_icmp (t := 69) (e := 50) rfl rfl rfl (fun e => ?_) (fun e => ?_)
      · have h := h.1 e
        refine w_iload (p' := 70) rfl rfl rfl rfl ?_
        exact w_iret rfl trivial ⟨rfl, _, rfl, h⟩
      · have h := h.2 e
        refine w_aload (p' := 51) rfl rfl rfl rfl ?_
        refine w_getR (p' := 54) rfl rfl rfl rfl rfl ?_
        refine w_iload (p' := 55) rfl rfl rfl rfl ?_
        refine v_callI (M' := 224) (p' := 58) (rest := []) (as := [(.inr (.inr (.inl (some 45)))), (.inl r6)]) rfl rfl rfl rfl rfl rfl rfl rfl rfl rfl rfl rfl rfl h (fun r8 s7 h => ?_)
        refine w_const (p' := 60) rfl rfl rfl ?_
        refine w_icmp (t := 69) (e := 63) rfl rfl rfl (fun e => ?_) (fun e => ?_)
        · have h := h.1 e
          refine w_iload (p' := 70) rfl rfl rfl rfl ?_
          exact w_iret rfl trivial ⟨rfl, _, rfl, h⟩
        · have h := h.2 e
          refine w_iload (p' := 64) rfl rfl rfl rfl ?_
          refine w_const (p' := 65) rfl rfl rfl ?_
          refine w_add (p' := 66) rfl rfl h.1 ?_
          have h := h.2
          refine w_goto (p' := 70) rfl rfl ?_
          exact w_iret rfl trivial ⟨rfl, _, rfl, h⟩
  · have h := h.2 e
    refine w_iload (p' := 14) rfl rfl rfl rfl ?_
    exact w_iret rfl trivial ⟨rfl, _, rfl, h⟩
set_option maxRecDepth 20000 in
theorem sg_Il_passStars {X : Nat × (Nat → Int32)} {x1 : Int} {s : qM} {K : Int → qM → Prop} (h : c_Il_runEnd X x1 s (fun r2 s1 => (-2147483648 ≤ (x1 - 1) ∧ (x1 - 1) < 2147483648) ∧ c_Row_at X 45 (x1 - 1) s1 (fun r4 s3 => c_Row_at X 45 r2 s3 (fun r6 s5 => c_Runs_add X x1 r2 r4 r6 s5 (fun s7 => K r2 s7))))) : c_Il_passStars X x1 s K := by
  unfold c_Il_passStars
  refine w_aload (p' := 1) rfl rfl rfl rfl ?_
  refine w_iload (p' := 2) rfl rfl rfl rfl ?_
  refine v_callI (M' := 185) (p' := 5) (rest := []) (as := [(.inr (.inr (.inl (some 44)))), (.inl x1)]) rfl rfl rfl rfl rfl rfl rfl rfl rfl rfl rfl rfl rfl h (fun r2 s1 h => ?_)
  refine w_istore (p' := 6) (ls' := [some (.inr (.inr (.inl (some 44)))), some (.inl x1), some (.inl r2)]) rfl rfl rfl (Nat.le_of_ble_eq_true rfl) rfl ?_
  refine w_aload (p' := 7) rfl rfl rfl rfl ?_
  refine w_getR (p' := 10) rfl rfl rfl rfl rfl ?_
  refine w_iload (p' := 11) rfl rfl rfl rfl ?_
  refine w_iload (p' := 12) rfl rfl rfl rfl ?_
  refine w_aload (p' := 13) rfl rfl rfl rfl ?_
  refine w_getR (p' := 16) rfl rfl rfl rfl rfl ?_
  refine w_iload (p' := 17) rfl rfl rfl rfl ?_
  refine w_const (p' := 18) rfl rfl rfl ?_
  refine w_sub (p' := 19) rfl rfl h.1 ?_
  have h := h.2
  refine v_callI (M' := 224) (p' := 22) (rest := [(.inl r2), (.inl x1), (.inr (.inr (.inl (some 53))))]) (as := [(.inr (.inr (.inl (some 45)))), (.inl (x1 - 1))]) rfl rfl rfl rfl rfl rfl rfl rfl rfl rfl rfl rfl rfl h (fun r4 s3 h => ?_)
  refine w_aload (p' := 23) rfl rfl rfl rfl ?_
  refine w_getR (p' := 26) rfl rfl rfl rfl rfl ?_
  refine w_iload (p' := 27) rfl rfl rfl rfl ?_
  refine v_callI (M' := 224) (p' := 30) (rest := [(.inl r4), (.inl r2), (.inl x1), (.inr (.inr (.inl (some 53))))]) (as := [(.inr (.inr (.inl (some 45)))), (.inl r2)]) rfl rfl rfl rfl rfl rfl rfl rfl rfl rfl rfl rfl rfl h (fun r6 s5 h => ?_)
  refine v_callV (M' := 236) (p' := 33) (rest := []) (as := [(.inr (.inr (.inl (some 53)))), (.inl x1), (.inl r2), (.inl r4), (.inl r6)]) rfl rfl rfl rfl rfl rfl rfl rfl rfl rfl rfl rfl rfl h (fun s7 h => ?_)
  refine w_iload (p' := 34) rfl rfl rfl rfl ?_
  exact w_iret rfl trivial ⟨rfl, _, rfl, h⟩
set_option maxRecDepth 20000 in
theorem sg_Lines_split {X : Nat × (Nat → Int32)} {th : Nat} {s : qM} {K : qM → Prop} {th_t : Nat} {th_b : Nat} {th_e : Nat} (hth : q_isLines th th_t th_b th_e) (h : c_Row_empty X th_b s (fun s1 => c_Row_empty X th_e s1 (fun s2 => c_Row_add X th_b 0 s2 (fun s3 => L_Lines_split_24 X th 0 s3 K)))) : c_Lines_split X th s K := by
  unfold c_Lines_split
  refine w_aload (p' := 1) rfl rfl rfl rfl ?_
  refine w_getR (p' := 4) rfl rfl rfl hth.tag hth.ref_begins ?_
  refine v_callV (M' := 227) (p' := 7) (rest := []) (as := [(.inr (.inr (.inl (some th_b))))]) rfl rfl rfl rfl rfl rfl rfl rfl rfl rfl rfl hth.begins.tag rfl h (fun s1 h => ?_)
  refine w_aload (p' := 8) rfl rfl rfl rfl ?_
  refine w_getR (p' := 11) rfl rfl rfl hth.tag hth.ref_ends ?_
  refine v_callV (M' := 227) (p' := 14) (rest := []) (as := [(.inr (.inr (.inl (some th_e))))]) rfl rfl rfl rfl rfl rfl rfl rfl rfl rfl rfl hth.ends.tag rfl h (fun s2 h => ?_)
  refine w_aload (p' := 15) rfl rfl rfl rfl ?_
  refine w_getR (p' := 18) rfl rfl rfl hth.tag hth.ref_begins ?_
  refine w_const (p' := 19) rfl rfl rfl ?_
  refine v_callV (M' := 226) (p' := 22) (rest := []) (as := [(.inr (.inr (.inl (some th_b)))), (.inl 0)]) rfl rfl rfl rfl rfl rfl rfl rfl rfl rfl rfl hth.begins.tag rfl h (fun s3 h => ?_)
  refine w_const (p' := 23) rfl rfl rfl ?_
  refine w_istore (p' := 24) (ls' := [some (.inr (.inr (.inl (some th)))), some (.inl 0)]) rfl rfl rfl (Nat.le_of_ble_eq_true rfl) rfl ?_
  exact w_cut (q_le_s (q_le_s q_le_z)) h
set_option maxRecDepth 20000 in
theorem sg_Lines_split_24 {X : Nat × (Nat → Int32)} {th : Nat} {v1 : Int} {s : qM} {K : qM → Prop} {th_t : Nat} {th_b : Nat} {th_e : Nat} (hth : q_isLines th th_t th_b th_e) (h : c_Row_size X th_t s (fun r2 s1 => (((r2 ≤ v1) → c_Row_size X th_t s1 (fun r4 s3 => c_Row_add X th_e r4 s3 (fun s5 => K s5))) ∧ (¬ (r2 ≤ v1) → c_Row_at X th_t v1 s1 (fun r7 s6 => (((r7 ≠ 10) → (-2147483648 ≤ (v1 + 1) ∧ (v1 + 1) < 2147483648) ∧ L_Lines_split_24 X th (v1 + 1) s6 K) ∧ (¬ (r7 ≠ 10) → c_Row_add X th_e v1 s6 (fun s8 => (-2147483648 ≤ (v1 + 1) ∧ (v1 + 1) < 2147483648) ∧ c_Row_add X th_b (v1 + 1) s8 (fun s9 => (-2147483648 ≤ (v1 + 1) ∧ (v1 + 1) < 2147483648) ∧ L_Lines_split_24 X th (v1 + 1) s9 K))))))))) : L_Lines_split_24 X th v1 s K := by
  unfold L_Lines_split_24
  refine w_iload (p' := 25) rfl rfl rfl rfl ?_
  refine w_aload (p' := 26) rfl rfl rfl rfl ?_
  refine w_getR (p' := 29) rfl rfl rfl hth.tag hth.ref_text ?_
  refine v_callI (M' := 223) (p' := 32) (rest := [(.inl v1)]) (as := [(.inr (.inr (.inl (some th_t))))]) rfl rfl rfl rfl rfl rfl rfl rfl rfl rfl rfl hth.text.tag rfl h (fun r2 s1 h => ?_)
  refine w_icmp (t := 72) (e := 35) rfl rfl rfl (fun e => ?_) (fun e => ?_)
  · have h := h.1 e
    refine w_aload (p' := 73) rfl rfl rfl rfl ?_
    refine w_getR (p' := 76) rfl rfl rfl hth.tag hth.ref_ends ?_
    refine w_aload (p' := 77) rfl rfl rfl rfl ?_
    refine w_getR (p' := 80) rfl rfl rfl hth.tag hth.ref_text ?_
    refine v_callI (M' := 223) (p' := 83) (rest := [(.inr (.inr (.inl (some th_e))))]) (as := [(.inr (.inr (.inl (some th_t))))]) rfl rfl rfl rfl rfl rfl rfl rfl rfl rfl rfl hth.text.tag rfl h (fun r4 s3 h => ?_)
    refine v_callV (M' := 226) (p' := 86) (rest := []) (as := [(.inr (.inr (.inl (some th_e)))), (.inl r4)]) rfl rfl rfl rfl rfl rfl rfl rfl rfl rfl rfl hth.ends.tag rfl h (fun s5 h => ?_)
    exact w_vret rfl ⟨rfl, rfl, h⟩
  · have h := h.2 e
    refine w_aload (p' := 36) rfl rfl rfl rfl ?_
    refine w_getR (p' := 39) rfl rfl rfl hth.tag hth.ref_text ?_
    refine w_iload (p' := 40) rfl rfl rfl rfl ?_
    refine v_callI (M' := 224) (p' := 43) (rest := []) (as := [(.inr (.inr (.inl (some th_t)))), (.inl v1)]) rfl rfl rfl rfl rfl rfl rfl rfl rfl rfl rfl hth.text.tag rfl h (fun r7 s6 h => ?_)
    refine w_const (p' := 45) rfl rfl rfl ?_
    refine w_icmp (t := 66) (e := 48) rfl rfl rfl (fun e => ?_) (fun e => ?_)
    · have h := h.1 e
      refine w_iinc (p' := 69) (ls' := [some (.inr (.inr (.inl (some th)))), some (.inl (v1 + 1))]) rfl rfl rfl (Nat.le_of_ble_eq_true rfl) h.1 rfl ?_
      have h := h.2
      refine w_goto (p' := 24) rfl rfl ?_
      exact w_cut (q_le_s (q_le_s q_le_z)) h
    · have h := h.2 e
      refine w_aload (p' := 49) rfl rfl rfl rfl ?_
      refine w_getR (p' := 52) rfl rfl rfl hth.tag hth.ref_ends ?_
      refine w_iload (p' := 53) rfl rfl rfl rfl ?_
      refine v_callV (M' := 226) (p' := 56) (rest := []) (as := [(.inr (.inr (.inl (some th_e)))), (.inl v1)]) rfl rfl rfl rfl rfl rfl rfl rfl rfl rfl rfl hth.ends.tag rfl h (fun s8 h => ?_)
      refine w_aload (p' := 57) rfl rfl rfl rfl ?_
      refine w_getR (p' := 60) rfl rfl rfl hth.tag hth.ref_begins ?_
      refine w_iload (p' := 61) rfl rfl rfl rfl ?_
      refine w_const (p' := 62) rfl rfl rfl ?_
      refine w_add (p' := 63) rfl rfl h.1 ?_
      have h := h.2
      refine v_callV (M' := 226) (p' := 66) (rest := []) (as := [(.inr (.inr (.inl (some th_b)))), (.inl (v1 + 1))]) rfl rfl rfl rfl rfl rfl rfl rfl rfl rfl rfl hth.begins.tag rfl h (fun s9 h => ?_)
      refine w_iinc (p' := 69) (ls' := [some (.inr (.inr (.inl (some th)))), some (.inl (v1 + 1))]) rfl rfl rfl (Nat.le_of_ble_eq_true rfl) h.1 rfl ?_
      have h := h.2
      refine w_goto (p' := 24) rfl rfl ?_
      exact w_cut (q_le_s (q_le_s q_le_z)) h
set_option maxRecDepth 20000 in
theorem sg_Lines_many {X : Nat × (Nat → Int32)} {th : Nat} {s : qM} {K : Int → qM → Prop} {th_t : Nat} {th_b : Nat} {th_e : Nat} (hth : q_isLines th th_t th_b th_e) (h : c_Row_size X th_e s (fun r2 s1 => K r2 s1)) : c_Lines_many X th s K := by
  unfold c_Lines_many
  refine w_aload (p' := 1) rfl rfl rfl rfl ?_
  refine w_getR (p' := 4) rfl rfl rfl hth.tag hth.ref_ends ?_
  refine v_callI (M' := 223) (p' := 7) (rest := []) (as := [(.inr (.inr (.inl (some th_e))))]) rfl rfl rfl rfl rfl rfl rfl rfl rfl rfl rfl hth.ends.tag rfl h (fun r2 s1 h => ?_)
  exact w_iret rfl trivial ⟨rfl, _, rfl, h⟩
set_option maxRecDepth 20000 in
theorem sg_Lines_begin {X : Nat × (Nat → Int32)} {th : Nat} {x1 : Int} {s : qM} {K : Int → qM → Prop} {th_t : Nat} {th_b : Nat} {th_e : Nat} (hth : q_isLines th th_t th_b th_e) (h : c_Row_at X th_b x1 s (fun r2 s1 => K r2 s1)) : c_Lines_begin X th x1 s K := by
  unfold c_Lines_begin
  refine w_aload (p' := 1) rfl rfl rfl rfl ?_
  refine w_getR (p' := 4) rfl rfl rfl hth.tag hth.ref_begins ?_
  refine w_iload (p' := 5) rfl rfl rfl rfl ?_
  refine v_callI (M' := 224) (p' := 8) (rest := []) (as := [(.inr (.inr (.inl (some th_b)))), (.inl x1)]) rfl rfl rfl rfl rfl rfl rfl rfl rfl rfl rfl hth.begins.tag rfl h (fun r2 s1 h => ?_)
  exact w_iret rfl trivial ⟨rfl, _, rfl, h⟩
set_option maxRecDepth 20000 in
theorem sg_Lines_end {X : Nat × (Nat → Int32)} {th : Nat} {x1 : Int} {s : qM} {K : Int → qM → Prop} {th_t : Nat} {th_b : Nat} {th_e : Nat} (hth : q_isLines th th_t th_b th_e) (h : c_Row_at X th_e x1 s (fun r2 s1 => K r2 s1)) : c_Lines_end X th x1 s K := by
  unfold c_Lines_end
  refine w_aload (p' := 1) rfl rfl rfl rfl ?_
  refine w_getR (p' := 4) rfl rfl rfl hth.tag hth.ref_ends ?_
  refine w_iload (p' := 5) rfl rfl rfl rfl ?_
  refine v_callI (M' := 224) (p' := 8) (rest := []) (as := [(.inr (.inr (.inl (some th_e)))), (.inl x1)]) rfl rfl rfl rfl rfl rfl rfl rfl rfl rfl rfl hth.ends.tag rfl h (fun r2 s1 h => ?_)
  exact w_iret rfl trivial ⟨rfl, _, rfl, h⟩
set_option maxRecDepth 20000 in
theorem sg_Lines_characterAt {X : Nat × (Nat → Int32)} {th : Nat} {x1 : Int} {s : qM} {K : Int → qM → Prop} {th_t : Nat} {th_b : Nat} {th_e : Nat} (hth : q_isLines th th_t th_b th_e) (h : c_Row_at X th_t x1 s (fun r2 s1 => K r2 s1)) : c_Lines_characterAt X th x1 s K := by
  unfold c_Lines_characterAt
  refine w_aload (p' := 1) rfl rfl rfl rfl ?_
  refine w_getR (p' := 4) rfl rfl rfl hth.tag hth.ref_text ?_
  refine w_iload (p' := 5) rfl rfl rfl rfl ?_
  refine v_callI (M' := 224) (p' := 8) (rest := []) (as := [(.inr (.inr (.inl (some th_t)))), (.inl x1)]) rfl rfl rfl rfl rfl rfl rfl rfl rfl rfl rfl hth.text.tag rfl h (fun r2 s1 h => ?_)
  exact w_iret rfl trivial ⟨rfl, _, rfl, h⟩
