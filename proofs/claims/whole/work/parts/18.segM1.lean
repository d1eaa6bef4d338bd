/-! Segments, by program (wip/tools/seg.py). -/
set_option maxRecDepth 20000 in
theorem sg_m_looksAt {X : Nat × (Nat → Int32)} {x1 : Int} {s : qM} {K : qM → Prop} (h : (∀ s1 : qM, s1 = q_up s 113 49 x1 → c_m_endOf X x1 s1 (fun r3 s2 => (∀ s4 : qM, s4 = q_up s2 113 50 r3 → ((0 : Int) ≤ (s4 113 17)) ∧ ((s4 113 17) < (241 : Int)) ∧ (∀ s5 : qM, s5 = q_up s4 124 (s4 113 17) (-1) → L_m_looksAt_31 X x1 0 0 1 s5 K))))) : c_m_looksAt X x1 s K := by
  unfold c_m_looksAt
  refine w_aload (p' := 1) rfl rfl rfl rfl ?_
  refine w_iload (p' := 2) rfl rfl rfl rfl ?_
  refine v_putI (p' := 5) (j := 49) rfl rfl (by decide) rfl rfl trivial ?_
  intro s1 es1
  have h := h s1 es1
  refine w_aload (p' := 6) rfl rfl rfl rfl ?_
  refine w_aload (p' := 7) rfl rfl rfl rfl ?_
  refine w_iload (p' := 8) rfl rfl rfl rfl ?_
  refine v_callI (M' := 56) (p' := 11) (rest := [(.inr (.inr (.inl (some 113))))]) (as := [(.inr (.inr (.inl (some 113)))), (.inl x1)]) rfl rfl rfl rfl rfl rfl rfl rfl rfl rfl rfl rfl rfl h (fun r3 s2 h => ?_)
  refine v_putI (p' := 14) (j := 50) rfl rfl (by decide) rfl rfl trivial ?_
  intro s4 es4
  have h := h s4 es4
  refine w_aload (p' := 15) rfl rfl rfl rfl ?_
  refine w_getR (p' := 18) rfl rfl rfl rfl rfl ?_
  refine w_aload (p' := 19) rfl rfl rfl rfl ?_
  refine w_getI (p' := 22) (j := 17) rfl rfl (by decide) rfl rfl ?_
  refine w_const (p' := 23) rfl rfl rfl ?_
  refine v_iast (p' := 24) (N := 241) rfl rfl rfl rfl h.1 h.2.1  ?_
  have h := h.2.2
  intro s5 es5
  have h := h s5 es5
  refine w_const (p' := 25) rfl rfl rfl ?_
  refine w_istore (p' := 26) (ls' := [some (.inr (.inr (.inl (some 113)))), some (.inl x1), some (.inl 0), none, none, none, none, none, none, none, none]) rfl rfl rfl (Nat.le_of_ble_eq_true rfl) rfl ?_
  refine w_const (p' := 27) rfl rfl rfl ?_
  refine w_istore (p' := 28) (ls' := [some (.inr (.inr (.inl (some 113)))), some (.inl x1), some (.inl 0), some (.inl 0), none, none, none, none, none, none, none]) rfl rfl rfl (Nat.le_of_ble_eq_true rfl) rfl ?_
  refine w_const (p' := 29) rfl rfl rfl ?_
  refine w_istore (p' := 31) (ls' := [some (.inr (.inr (.inl (some 113)))), some (.inl x1), some (.inl 0), some (.inl 0), some (.inl 1), none, none, none, none, none, none]) rfl rfl rfl (Nat.le_of_ble_eq_true rfl) rfl ?_
  exact w_cut (q_le_s (q_le_s (q_le_s (q_le_s (q_le_s (q_le_n (q_le_n (q_le_n (q_le_n (q_le_n (q_le_n q_le_z))))))))))) h
set_option maxRecDepth 20000 in
theorem sg_m_looksAt_31 {X : Nat × (Nat → Int32)}  {v1 v2 v3 v4 : Int} {s : qM} {K : qM → Prop} (h : (((v4 = 0) → L_m_looksAt_129 X v1 v2 v3 v4 s K) ∧ (¬ (v4 = 0) → ((0 : Int) ≤ v2) ∧ (v2 < (600 : Int)) ∧ ((((s 122 v2) = (-1)) → L_m_looksAt_129 X v1 v2 v3 v4 s K) ∧ (¬ ((s 122 v2) = (-1)) → ((0 : Int) ≤ v2) ∧ (v2 < (600 : Int)) ∧ ((0 : Int) ≤ (s 122 v2)) ∧ ((s 122 v2) < (600 : Int)) ∧ ((((s 119 (s 122 v2)) = 0) → L_m_looksAt_129 X v1 v2 v3 v4 s K) ∧ (¬ ((s 119 (s 122 v2)) = 0) → ((0 : Int) ≤ v2) ∧ (v2 < (600 : Int)) ∧ ((0 : Int) ≤ (s 122 v2)) ∧ ((s 122 v2) < (600 : Int)) ∧ c_m_isContainer X (s 117 (s 122 v2)) s (fun r2 s1 => (((r2 = 0) → L_m_looksAt_129 X v1 v2 v3 v4 s1 K) ∧ (¬ (r2 = 0) → ((0 : Int) ≤ v2) ∧ (v2 < (600 : Int)) ∧ c_m_goesOn X (s1 122 v2) s1 (fun r4 s3 => (((r4 = 0) → (((r4 = 0) → L_m_looksAt_31 X v1 v2 v3 r4 s3 K) ∧ (¬ (r4 = 0) → ((0 : Int) ≤ v2) ∧ (v2 < (600 : Int)) ∧ ((((s3 117 v2) = 2) → L_m_looksAt_31 X v1 v2 v3 r4 s3 K) ∧ (¬ ((s3 117 v2) = 2) → L_m_looksAt_31 X v1 v2 v2 r4 s3 K))))) ∧ (¬ (r4 = 0) → ((0 : Int) ≤ v2) ∧ (v2 < (600 : Int)) ∧ (((r4 = 0) → L_m_looksAt_31 X v1 (s3 122 v2) v3 r4 s3 K) ∧ (¬ (r4 = 0) → ((0 : Int) ≤ (s3 122 v2)) ∧ ((s3 122 v2) < (600 : Int)) ∧ ((((s3 117 (s3 122 v2)) = 2) → L_m_looksAt_31 X v1 (s3 122 v2) v3 r4 s3 K) ∧ (¬ ((s3 117 (s3 122 v2)) = 2) → L_m_looksAt_31 X v1 (s3 122 v2) (s3 122 v2) r4 s3 K))))))))))))))))) : L_m_looksAt_31 X v1 v2 v3 v4 s K := by
  unfold L_m_looksAt_31
  refine w_iload (p' := 33) rfl rfl rfl rfl ?_
  refine w_if (t := 129) (e := 36) rfl rfl rfl (fun e => ?_) (fun e => ?_)
  · have h := h.1 e
    exact w_cut (q_le_s (q_le_s (q_le_s (q_le_s (q_le_s (q_le_n (q_le_n (q_le_n (q_le_n (q_le_n (q_le_n q_le_z))))))))))) h
  · have h := h.2 e
    refine w_aload (p' := 37) rfl rfl rfl rfl ?_
    refine w_getR (p' := 40) rfl rfl rfl rfl rfl ?_
    refine w_iload (p' := 41) rfl rfl rfl rfl ?_
    refine w_iald (p' := 42) (N := 600) rfl rfl rfl rfl h.1 h.2.1 ?_
    have h := h.2.2
    refine w_const (p' := 43) rfl rfl rfl ?_
    refine w_icmp (t := 129) (e := 46) rfl rfl rfl (fun e => ?_) (fun e => ?_)
    · have h := h.1 e
      exact w_cut (q_le_s (q_le_s (q_le_s (q_le_s (q_le_s (q_le_n (q_le_n (q_le_n (q_le_n (q_le_n (q_le_n q_le_z))))))))))) h
    · have h := h.2 e
      refine w_aload (p' := 47) rfl rfl rfl rfl ?_
      refine w_getR (p' := 50) rfl rfl rfl rfl rfl ?_
      refine w_aload (p' := 51) rfl rfl rfl rfl ?_
      refine w_getR (p' := 54) rfl rfl rfl rfl rfl ?_
      refine w_iload (p' := 55) rfl rfl rfl rfl ?_
      refine w_iald (p' := 56) (N := 600) rfl rfl rfl rfl h.1 h.2.1 ?_
      have h := h.2.2
      refine w_bald (p' := 57) (N := 600) rfl rfl rfl rfl h.1 h.2.1 ?_
      have h := h.2.2
      refine w_if (t := 129) (e := 60) rfl rfl rfl (fun e => ?_) (fun e => ?_)
      · have h := h.1 e
        exact w_cut (q_le_s (q_le_s (q_le_s (q_le_s (q_le_s (q_le_n (q_le_n (q_le_n (q_le_n (q_le_n (q_le_n q_le_z))))))))))) h
      · have h := h.2 e
        refine w_aload (p' := 61) rfl rfl rfl rfl ?_
        refine w_getR (p' := 64) rfl rfl rfl rfl rfl ?_
        refine w_aload (p' := 65) rfl rfl rfl rfl ?_
        refine w_getR (p' := 68) rfl rfl rfl rfl rfl ?_
        refine w_iload (p' := 69) rfl rfl rfl rfl ?_
        refine w_iald (p' := 70) (N := 600) rfl rfl rfl rfl h.1 h.2.1 ?_
        have h := h.2.2
        refine w_iald (p' := 71) (N := 600) rfl rfl rfl rfl h.1 h.2.1 ?_
        have h := h.2.2
        refine v_callI (M' := 58) (p' := 74) (rest := []) (as := [(.inl (s 117 (s 122 v2)))]) rfl rfl rfl rfl rfl rfl rfl rfl rfl rfl rfl trivial rfl h (fun r2 s1 h => ?_)
        refine w_if (t := 129) (e := 77) rfl rfl rfl (fun e => ?_) (fun e => ?_)
        · have h := h.1 e
          exact w_cut (q_le_s (q_le_s (q_le_s (q_le_s (q_le_s (q_le_n (q_le_n (q_le_n (q_le_n (q_le_n (q_le_n q_le_z))))))))))) h
        · have h := h.2 e
          refine w_aload (p' := 78) rfl rfl rfl rfl ?_
          refine w_aload (p' := 79) rfl rfl rfl rfl ?_
          refine w_getR (p' := 82) rfl rfl rfl rfl rfl ?_
          refine w_iload (p' := 83) rfl rfl rfl rfl ?_
          refine w_iald (p' := 84) (N := 600) rfl rfl rfl rfl h.1 h.2.1 ?_
          have h := h.2.2
          refine v_callI (M' := 62) (p' := 87) (rest := []) (as := [(.inr (.inr (.inl (some 113)))), (.inl (s1 122 v2))]) rfl rfl rfl rfl rfl rfl rfl rfl rfl rfl rfl rfl rfl h (fun r4 s3 h => ?_)
          refine w_istore (p' := 89) (ls' := [some (.inr (.inr (.inl (some 113)))), some (.inl v1), some (.inl v2), some (.inl v3), some (.inl r4), none, none, none, none, none, none]) rfl rfl rfl (Nat.le_of_ble_eq_true rfl) rfl ?_
          refine w_iload (p' := 91) rfl rfl rfl rfl ?_
          refine w_if (t := 103) (e := 94) rfl rfl rfl (fun e => ?_) (fun e => ?_)
          · have h := h.1 e
            refine w_iload (p' := 104) rfl rfl rfl rfl ?_
            refine w_istore (p' := 105) (ls' := [some (.inr (.inr (.inl (some 113)))), some (.inl v1), some (.inl v2), some (.inl v3), some (.inl r4), none, none, none, none, none, none]) rfl rfl rfl (Nat.le_of_ble_eq_true rfl) rfl ?_
            refine w_iload (p' := 107) rfl rfl rfl rfl ?_
            refine w_if (t := 124) (e := 110) rfl rfl rfl (fun e => ?_) (fun e => ?_)
            · have h := h.1 e
              refine w_iload (p' := 125) rfl rfl rfl rfl ?_
              refine w_istore (p' := 126) (ls' := [some (.inr (.inr (.inl (some 113)))), some (.inl v1), some (.inl v2), some (.inl v3), some (.inl r4), none, none, none, none, none, none]) rfl rfl rfl (Nat.le_of_ble_eq_true rfl) rfl ?_
              refine w_goto (p' := 31) rfl rfl ?_
              exact w_cut (q_le_s (q_le_s (q_le_s (q_le_s (q_le_s (q_le_n (q_le_n (q_le_n (q_le_n (q_le_n (q_le_n q_le_z))))))))))) h
            · have h := h.2 e
              refine w_aload (p' := 111) rfl rfl rfl rfl ?_
              refine w_getR (p' := 114) rfl rfl rfl rfl rfl ?_
              refine w_iload (p' := 115) rfl rfl rfl rfl ?_
              refine w_iald (p' := 116) (N := 600) rfl rfl rfl rfl h.1 h.2.1 ?_
              have h := h.2.2
              refine w_const (p' := 117) rfl rfl rfl ?_
              refine w_icmp (t := 124) (e := 120) rfl rfl rfl (fun e => ?_) (fun e => ?_)
              · have h := h.1 e
                refine w_iload (p' := 125) rfl rfl rfl rfl ?_
                refine w_istore (p' := 126) (ls' := [some (.inr (.inr (.inl (some 113)))), some (.inl v1), some (.inl v2), some (.inl v3), some (.inl r4), none, none, none, none, none, none]) rfl rfl rfl (Nat.le_of_ble_eq_true rfl) rfl ?_
                refine w_goto (p' := 31) rfl rfl ?_
                exact w_cut (q_le_s (q_le_s (q_le_s (q_le_s (q_le_s (q_le_n (q_le_n (q_le_n (q_le_n (q_le_n (q_le_n q_le_z))))))))))) h
              · have h := h.2 e
                refine w_iload (p' := 121) rfl rfl rfl rfl ?_
                refine w_goto (p' := 125) rfl rfl ?_
                refine w_istore (p' := 126) (ls' := [some (.inr (.inr (.inl (some 113)))), some (.inl v1), some (.inl v2), some (.inl v2), some (.inl r4), none, none, none, none, none, none]) rfl rfl rfl (Nat.le_of_ble_eq_true rfl) rfl ?_
                refine w_goto (p' := 31) rfl rfl ?_
                exact w_cut (q_le_s (q_le_s (q_le_s (q_le_s (q_le_s (q_le_n (q_le_n (q_le_n (q_le_n (q_le_n (q_le_n q_le_z))))))))))) h
          · have h := h.2 e
            refine w_aload (p' := 95) rfl rfl rfl rfl ?_
            refine w_getR (p' := 98) rfl rfl rfl rfl rfl ?_
            refine w_iload (p' := 99) rfl rfl rfl rfl ?_
            refine w_iald (p' := 100) (N := 600) rfl rfl rfl rfl h.1 h.2.1 ?_
            have h := h.2.2
            refine w_goto (p' := 104) rfl rfl ?_
            refine w_istore (p' := 105) (ls' := [some (.inr (.inr (.inl (some 113)))), some (.inl v1), some (.inl (s3 122 v2)), some (.inl v3), some (.inl r4), none, none, none, none, none, none]) rfl rfl rfl (Nat.le_of_ble_eq_true rfl) rfl ?_
            refine w_iload (p' := 107) rfl rfl rfl rfl ?_
            refine w_if (t := 124) (e := 110) rfl rfl rfl (fun e => ?_) (fun e => ?_)
            · have h := h.1 e
              refine w_iload (p' := 125) rfl rfl rfl rfl ?_
              refine w_istore (p' := 126) (ls' := [some (.inr (.inr (.inl (some 113)))), some (.inl v1), some (.inl (s3 122 v2)), some (.inl v3), some (.inl r4), none, none, none, none, none, none]) rfl rfl rfl (Nat.le_of_ble_eq_true rfl) rfl ?_
              refine w_goto (p' := 31) rfl rfl ?_
              exact w_cut (q_le_s (q_le_s (q_le_s (q_le_s (q_le_s (q_le_n (q_le_n (q_le_n (q_le_n (q_le_n (q_le_n q_le_z))))))))))) h
            · have h := h.2 e
              refine w_aload (p' := 111) rfl rfl rfl rfl ?_
              refine w_getR (p' := 114) rfl rfl rfl rfl rfl ?_
              refine w_iload (p' := 115) rfl rfl rfl rfl ?_
              refine w_iald (p' := 116) (N := 600) rfl rfl rfl rfl h.1 h.2.1 ?_
              have h := h.2.2
              refine w_const (p' := 117) rfl rfl rfl ?_
              refine w_icmp (t := 124) (e := 120) rfl rfl rfl (fun e => ?_) (fun e => ?_)
              · have h := h.1 e
                refine w_iload (p' := 125) rfl rfl rfl rfl ?_
                refine w_istore (p' := 126) (ls' := [some (.inr (.inr (.inl (some 113)))), some (.inl v1), some (.inl (s3 122 v2)), some (.inl v3), some (.inl r4), none, none, none, none, none, none]) rfl rfl rfl (Nat.le_of_ble_eq_true rfl) rfl ?_
                refine w_goto (p' := 31) rfl rfl ?_
                exact w_cut (q_le_s (q_le_s (q_le_s (q_le_s (q_le_s (q_le_n (q_le_n (q_le_n (q_le_n (q_le_n (q_le_n q_le_z))))))))))) h
              · have h := h.2 e
                refine w_iload (p' := 121) rfl rfl rfl rfl ?_
                refine w_goto (p' := 125) rfl rfl ?_
                refine w_istore (p' := 126) (ls' := [some (.inr (.inr (.inl (some 113)))), some (.inl v1), some (.inl (s3 122 v2)), some (.inl (s3 122 v2)), some (.inl r4), none, none, none, none, none, none]) rfl rfl rfl (Nat.le_of_ble_eq_true rfl) rfl ?_
                refine w_goto (p' := 31) rfl rfl ?_
                exact w_cut (q_le_s (q_le_s (q_le_s (q_le_s (q_le_s (q_le_n (q_le_n (q_le_n (q_le_n (q_le_n (q_le_n q_le_z))))))))))) h
set_option maxRecDepth 20000 in
theorem sg_m_looksAt_129 {X : Nat × (Nat → Int32)}  {v1 v2 v3 v4 : Int} {s : qM} {K : qM → Prop} (h : c_m_openParagraph X  s (fun r2 s1 => (((r2 = (-1)) → c_m_putsContainers X v3 s1 (fun r4 s3 => ((((s3 113 4) ≤ (s1 113 4)) → L_m_looksAt_228 X v1 v2 r4 r2 0 0 s3 K) ∧ (¬ ((s3 113 4) ≤ (s1 113 4)) → L_m_looksAt_228 X v1 v2 r4 r2 0 1 s3 K)))) ∧ (¬ (r2 = (-1)) → ((0 : Int) ≤ r2) ∧ (r2 < (600 : Int)) ∧ ((((s1 117 r2) ≠ 5) → c_m_putsContainers X v3 s1 (fun r6 s5 => ((((s5 113 4) ≤ (s1 113 4)) → L_m_looksAt_228 X v1 v2 r6 r2 0 0 s5 K) ∧ (¬ ((s5 113 4) ≤ (s1 113 4)) → L_m_looksAt_228 X v1 v2 r6 r2 0 1 s5 K)))) ∧ (¬ ((s1 117 r2) ≠ 5) → (((v4 = 0) → c_m_putsContainers X v3 s1 (fun r8 s7 => ((((s7 113 4) ≤ (s1 113 4)) → L_m_looksAt_228 X v1 v2 r8 r2 0 0 s7 K) ∧ (¬ ((s7 113 4) ≤ (s1 113 4)) → L_m_looksAt_228 X v1 v2 r8 r2 0 1 s7 K)))) ∧ (¬ (v4 = 0) → c_m_isFence X  s1 (fun r10 s9 => (((r10 = 0) → ((0 : Int) ≤ r2) ∧ (r2 < (600 : Int)) ∧ (-2147483648 ≤ ((s9 123 r2) + 1) ∧ ((s9 123 r2) + 1) < 2147483648) ∧ ((0 : Int) ≤ r2) ∧ (r2 < (600 : Int)) ∧ (∀ s11 : qM, s11 = q_up s9 123 r2 ((s9 123 r2) + 1) → c_m_lays X r2 s11 (fun s12 => ((((s12 113 0) ≤ (s12 113 50)) → L_m_looksAt_496 X v1 0 r2 (s12 113 49) (s12 113 50) s12 K) ∧ (¬ ((s12 113 0) ≤ (s12 113 50)) → (-2147483648 ≤ ((s12 113 50) + 1) ∧ ((s12 113 50) + 1) < 2147483648) ∧ L_m_looksAt_496 X v1 0 r2 (s12 113 49) ((s12 113 50) + 1) s12 K))))) ∧ (¬ (r10 = 0) → ((0 : Int) ≤ r2) ∧ (r2 < (600 : Int)) ∧ (∀ s13 : qM, s13 = q_up s9 119 r2 0 → ((((s13 113 0) ≤ (s13 113 50)) → L_m_looksAt_496 X v1 0 r2 (s13 113 49) (s13 113 50) s13 K) ∧ (¬ ((s13 113 0) ≤ (s13 113 50)) → (-2147483648 ≤ ((s13 113 50) + 1) ∧ ((s13 113 50) + 1) < 2147483648) ∧ L_m_looksAt_496 X v1 0 r2 (s13 113 49) ((s13 113 50) + 1) s13 K)))))))))))))) : L_m_looksAt_129 X v1 v2 v3 v4 s K := by
  unfold L_m_looksAt_129
  refine w_aload (p' := 130) rfl rfl rfl rfl ?_
  refine v_callI (M' := 71) (p' := 133) (rest := []) (as := [(.inr (.inr (.inl (some 113))))]) rfl rfl rfl rfl rfl rfl rfl rfl rfl rfl rfl rfl rfl h (fun r2 s1 h => ?_)
  refine w_istore (p' := 135) (ls' := [some (.inr (.inr (.inl (some 113)))), some (.inl v1), some (.inl v2), some (.inl v3), some (.inl v4), some (.inl r2), none, none, none, none, none]) rfl rfl rfl (Nat.le_of_ble_eq_true rfl) rfl ?_
  refine w_const (p' := 136) rfl rfl rfl ?_
  refine w_istore (p' := 138) (ls' := [some (.inr (.inr (.inl (some 113)))), some (.inl v1), some (.inl v2), some (.inl v3), some (.inl v4), some (.inl r2), some (.inl 0), none, none, none, none]) rfl rfl rfl (Nat.le_of_ble_eq_true rfl) rfl ?_
  refine w_iload (p' := 140) rfl rfl rfl rfl ?_
  refine w_const (p' := 141) rfl rfl rfl ?_
  refine w_icmp (t := 202) (e := 144) rfl rfl rfl (fun e => ?_) (fun e => ?_)
  · have h := h.1 e
    refine w_aload (p' := 203) rfl rfl rfl rfl ?_
    refine w_getI (p' := 206) (j := 4) rfl rfl (by decide) rfl rfl ?_
    refine w_istore (p' := 208) (ls' := [some (.inr (.inr (.inl (some 113)))), some (.inl v1), some (.inl v2), some (.inl v3), some (.inl v4), some (.inl r2), some (.inl 0), none, some (.inl (s1 113 4)), none, none]) rfl rfl rfl (Nat.le_of_ble_eq_true rfl) rfl ?_
    refine w_aload (p' := 209) rfl rfl rfl rfl ?_
    refine w_iload (p' := 210) rfl rfl rfl rfl ?_
    refine v_callI (M' := 64) (p' := 213) (rest := []) (as := [(.inr (.inr (.inl (some 113)))), (.inl v3)]) rfl rfl rfl rfl rfl rfl rfl rfl rfl rfl rfl rfl rfl h (fun r4 s3 h => ?_)
    refine w_istore (p' := 214) (ls' := [some (.inr (.inr (.inl (some 113)))), some (.inl v1), some (.inl v2), some (.inl r4), some (.inl v4), some (.inl r2), some (.inl 0), none, some (.inl (s1 113 4)), none, none]) rfl rfl rfl (Nat.le_of_ble_eq_true rfl) rfl ?_
    refine w_aload (p' := 215) rfl rfl rfl rfl ?_
    refine w_getI (p' := 218) (j := 4) rfl rfl (by decide) rfl rfl ?_
    refine w_iload (p' := 220) rfl rfl rfl rfl ?_
    refine w_icmp (t := 227) (e := 223) rfl rfl rfl (fun e => ?_) (fun e => ?_)
    · have h := h.1 e
      refine w_const (p' := 228) rfl rfl rfl ?_
      exact w_cut (q_le_s (q_le_s (q_le_s (q_le_s (q_le_n (q_le_s (q_le_s (q_le_n (q_le_n (q_le_n (q_le_n q_le_z))))))))))) h
    · have h := h.2 e
      refine w_const (p' := 224) rfl rfl rfl ?_
      refine w_goto (p' := 228) rfl rfl ?_
      exact w_cut (q_le_s (q_le_s (q_le_s (q_le_s (q_le_n (q_le_s (q_le_s (q_le_n (q_le_n (q_le_n (q_le_n q_le_z))))))))))) h
  · have h := h.2 e
    refine w_aload (p' := 145) rfl rfl rfl rfl ?_
    refine w_getR (p' := 148) rfl rfl rfl rfl rfl ?_
    refine w_iload (p' := 150) rfl rfl rfl rfl ?_
    refine w_iald (p' := 151) (N := 600) rfl rfl rfl rfl h.1 h.2.1 ?_
    have h := h.2.2
    refine w_const (p' := 152) rfl rfl rfl ?_
    refine w_icmp (t := 202) (e := 155) rfl rfl rfl (fun e => ?_) (fun e => ?_)
    · have h := h.1 e
      refine w_aload (p' := 203) rfl rfl rfl rfl ?_
      refine w_getI (p' := 206) (j := 4) rfl rfl (by decide) rfl rfl ?_
      refine w_istore (p' := 208) (ls' := [some (.inr (.inr (.inl (some 113)))), some (.inl v1), some (.inl v2), some (.inl v3), some (.inl v4), some (.inl r2), some (.inl 0), none, some (.inl (s1 113 4)), none, none]) rfl rfl rfl (Nat.le_of_ble_eq_true rfl) rfl ?_
      refine w_aload (p' := 209) rfl rfl rfl rfl ?_
      refine w_iload (p' := 210) rfl rfl rfl rfl ?_
      refine v_callI (M' := 64) (p' := 213) (rest := []) (as := [(.inr (.inr (.inl (some 113)))), (.inl v3)]) rfl rfl rfl rfl rfl rfl rfl rfl rfl rfl rfl rfl rfl h (fun r6 s5 h => ?_)
      refine w_istore (p' := 214) (ls' := [some (.inr (.inr (.inl (some 113)))), some (.inl v1), some (.inl v2), some (.inl r6), some (.inl v4), some (.inl r2), some (.inl 0), none, some (.inl (s1 113 4)), none, none]) rfl rfl rfl (Nat.le_of_ble_eq_true rfl) rfl ?_
      refine w_aload (p' := 215) rfl rfl rfl rfl ?_
      refine w_getI (p' := 218) (j := 4) rfl rfl (by decide) rfl rfl ?_
      refine w_iload (p' := 220) rfl rfl rfl rfl ?_
      refine w_icmp (t := 227) (e := 223) rfl rfl rfl (fun e => ?_) (fun e => ?_)
      · have h := h.1 e
        refine w_const (p' := 228) rfl rfl rfl ?_
        exact w_cut (q_le_s (q_le_s (q_le_s (q_le_s (q_le_n (q_le_s (q_le_s (q_le_n (q_le_n (q_le_n (q_le_n q_le_z))))))))))) h
      · have h := h.2 e
        refine w_const (p' := 224) rfl rfl rfl ?_
        refine w_goto (p' := 228) rfl rfl ?_
        exact w_cut (q_le_s (q_le_s (q_le_s (q_le_s (q_le_n (q_le_s (q_le_s (q_le_n (q_le_n (q_le_n (q_le_n q_le_z))))))))))) h
    · have h := h.2 e
      refine w_iload (p' := 157) rfl rfl rfl rfl ?_
      refine w_if (t := 202) (e := 160) rfl rfl rfl (fun e => ?_) (fun e => ?_)
      · have h := h.1 e
        refine w_aload (p' := 203) rfl rfl rfl rfl ?_
        refine w_getI (p' := 206) (j := 4) rfl rfl (by decide) rfl rfl ?_
        refine w_istore (p' := 208) (ls' := [some (.inr (.inr (.inl (some 113)))), some (.inl v1), some (.inl v2), some (.inl v3), some (.inl v4), some (.inl r2), some (.inl 0), none, some (.inl (s1 113 4)), none, none]) rfl rfl rfl (Nat.le_of_ble_eq_true rfl) rfl ?_
        refine w_aload (p' := 209) rfl rfl rfl rfl ?_
        refine w_iload (p' := 210) rfl rfl rfl rfl ?_
        refine v_callI (M' := 64) (p' := 213) (rest := []) (as := [(.inr (.inr (.inl (some 113)))), (.inl v3)]) rfl rfl rfl rfl rfl rfl rfl rfl rfl rfl rfl rfl rfl h (fun r8 s7 h => ?_)
        refine w_istore (p' := 214) (ls' := [some (.inr (.inr (.inl (some 113)))), some (.inl v1), some (.inl v2), some (.inl r8), some (.inl v4), some (.inl r2), some (.inl 0), none, some (.inl (s1 113 4)), none, none]) rfl rfl rfl (Nat.le_of_ble_eq_true rfl) rfl ?_
        refine w_aload (p' := 215) rfl rfl rfl rfl ?_
        refine w_getI (p' := 218) (j := 4) rfl rfl (by decide) rfl rfl ?_
        refine w_iload (p' := 220) rfl rfl rfl rfl ?_
        refine w_icmp (t := 227) (e := 223) rfl rfl rfl (fun e => ?_) (fun e => ?_)
        · have h := h.1 e
          refine w_const (p' := 228) rfl rfl rfl ?_
          exact w_cut (q_le_s (q_le_s (q_le_s (q_le_s (q_le_n (q_le_s (q_le_s (q_le_n (q_le_n (q_le_n (q_le_n q_le_z))))))))))) h
        · have h := h.2 e
          refine w_const (p' := 224) rfl rfl rfl ?_
          refine w_goto (p' := 228) rfl rfl ?_
          exact w_cut (q_le_s (q_le_s (q_le_s (q_le_s (q_le_n (q_le_s (q_le_s (q_le_n (q_le_n (q_le_n (q_le_n q_le_z))))))))))) h
      · have h := h.2 e
        refine w_iload (p' := 162) rfl rfl rfl rfl ?_
        refine w_istore (p' := 164) (ls' := [some (.inr (.inr (.inl (some 113)))), some (.inl v1), some (.inl v2), some (.inl v3), some (.inl v4), some (.inl r2), some (.inl 0), some (.inl r2), none, none, none]) rfl rfl rfl (Nat.le_of_ble_eq_true rfl) rfl ?_
        refine w_aload (p' := 165) rfl rfl rfl rfl ?_
        refine v_callI (M' := 66) (p' := 168) (rest := []) (as := [(.inr (.inr (.inl (some 113))))]) rfl rfl rfl rfl rfl rfl rfl rfl rfl rfl rfl rfl rfl h (fun r10 s9 h => ?_)
        refine w_if (t := 182) (e := 171) rfl rfl rfl (fun e => ?_) (fun e => ?_)
        · have h := h.1 e
          refine w_aload (p' := 183) rfl rfl rfl rfl ?_
          refine w_getR (p' := 186) rfl rfl rfl rfl rfl ?_
          refine w_iload (p' := 188) rfl rfl rfl rfl ?_
          refine w_dup2 (p' := 189) rfl rfl rfl rfl ?_
          refine w_iald (p' := 190) (N := 600) rfl rfl rfl rfl h.1 h.2.1 ?_
          have h := h.2.2
          refine w_const (p' := 191) rfl rfl rfl ?_
          refine w_add (p' := 192) rfl rfl h.1 ?_
          have h := h.2
          refine v_iast (p' := 193) (N := 600) rfl rfl rfl rfl h.1 h.2.1  ?_
          have h := h.2.2
          intro s11 es11
          have h := h s11 es11
          refine w_aload (p' := 194) rfl rfl rfl rfl ?_
          refine w_iload (p' := 196) rfl rfl rfl rfl ?_
          refine v_callV (M' := 72) (p' := 199) (rest := []) (as := [(.inr (.inr (.inl (some 113)))), (.inl r2)]) rfl rfl rfl rfl rfl rfl rfl rfl rfl rfl rfl rfl rfl h (fun s12 h => ?_)
          refine w_goto (p' := 467) rfl rfl ?_
          refine w_aload (p' := 468) rfl rfl rfl rfl ?_
          refine w_aload (p' := 469) rfl rfl rfl rfl ?_
          refine w_getI (p' := 472) (j := 49) rfl rfl (by decide) rfl rfl ?_
          refine w_aload (p' := 473) rfl rfl rfl rfl ?_
          refine w_getI (p' := 476) (j := 50) rfl rfl (by decide) rfl rfl ?_
          refine w_aload (p' := 477) rfl rfl rfl rfl ?_
          refine w_getI (p' := 480) (j := 0) rfl rfl (by decide) rfl rfl ?_
          refine w_icmp (t := 492) (e := 483) rfl rfl rfl (fun e => ?_) (fun e => ?_)
          · have h := h.1 e
            refine w_aload (p' := 493) rfl rfl rfl rfl ?_
            refine w_getI (p' := 496) (j := 50) rfl rfl (by decide) rfl rfl ?_
            exact w_cut (q_le_s (q_le_s (q_le_n (q_le_n (q_le_n (q_le_n (q_le_s (q_le_s (q_le_n (q_le_n (q_le_n q_le_z))))))))))) h
          · have h := h.2 e
            refine w_aload (p' := 484) rfl rfl rfl rfl ?_
            refine w_getI (p' := 487) (j := 50) rfl rfl (by decide) rfl rfl ?_
            refine w_const (p' := 488) rfl rfl rfl ?_
            refine w_add (p' := 489) rfl rfl h.1 ?_
            have h := h.2
            refine w_goto (p' := 496) rfl rfl ?_
            exact w_cut (q_le_s (q_le_s (q_le_n (q_le_n (q_le_n (q_le_n (q_le_s (q_le_s (q_le_n (q_le_n (q_le_n q_le_z))))))))))) h
        · have h := h.2 e
          refine w_aload (p' := 172) rfl rfl rfl rfl ?_
          refine w_getR (p' := 175) rfl rfl rfl rfl rfl ?_
          refine w_iload (p' := 177) rfl rfl rfl rfl ?_
          refine w_const (p' := 178) rfl rfl rfl ?_
          refine v_bast (p' := 179) (N := 600) rfl rfl rfl rfl h.1 h.2.1 (by decide) (by decide) ?_
          have h := h.2.2
          intro s13 es13
          have h := h s13 es13
          refine w_goto (p' := 467) rfl rfl ?_
          refine w_aload (p' := 468) rfl rfl rfl rfl ?_
          refine w_aload (p' := 469) rfl rfl rfl rfl ?_
          refine w_getI (p' := 472) (j := 49) rfl rfl (by decide) rfl rfl ?_
          refine w_aload (p' := 473) rfl rfl rfl rfl ?_
          refine w_getI (p' := 476) (j := 50) rfl rfl (by decide) rfl rfl ?_
          refine w_aload (p' := 477) rfl rfl rfl rfl ?_
          refine w_getI (p' := 480) (j := 0) rfl rfl (by decide) rfl rfl ?_
          refine w_icmp (t := 492) (e := 483) rfl rfl rfl (fun e => ?_) (fun e => ?_)
          · have h := h.1 e
            refine w_aload (p' := 493) rfl rfl rfl rfl ?_
            refine w_getI (p' := 496) (j := 50) rfl rfl (by decide) rfl rfl ?_
            exact w_cut (q_le_s (q_le_s (q_le_n (q_le_n (q_le_n (q_le_n (q_le_s (q_le_s (q_le_n (q_le_n (q_le_n q_le_z))))))))))) h
          · have h := h.2 e
            refine w_aload (p' := 484) rfl rfl rfl rfl ?_
            refine w_getI (p' := 487) (j := 50) rfl rfl (by decide) rfl rfl ?_
            refine w_const (p' := 488) rfl rfl rfl ?_
            refine w_add (p' := 489) rfl rfl h.1 ?_
            have h := h.2
            refine w_goto (p' := 496) rfl rfl ?_
            exact w_cut (q_le_s (q_le_s (q_le_n (q_le_n (q_le_n (q_le_n (q_le_s (q_le_s (q_le_n (q_le_n (q_le_n q_le_z))))))))))) h
set_option maxRecDepth 20000 in
theorem sg_m_looksAt_228 {X : Nat × (Nat → Int32)}  {v1 v2 v3 v5 v6 t0 : Int} {s : qM} {K : qM → Prop} (h : c_m_headingLevel X  s (fun r2 s1 => c_m_isBlank X (s1 113 49) (s1 113 50) s1 (fun r4 s3 => (((r4 = 0) → (((r2 ≤ 0) → c_m_isFence X  s3 (fun r6 s5 => (((r6 = 0) → (((v5 = (-1)) → L_m_looksAt_398 X v1 v3 v6 s5 K) ∧ (¬ (v5 = (-1)) → ((0 : Int) ≤ v5) ∧ (v5 < (600 : Int)) ∧ ((((s5 117 v5) ≠ 6) → L_m_looksAt_398 X v1 v3 v6 s5 K) ∧ (¬ ((s5 117 v5) ≠ 6) → (((t0 ≠ 0) → L_m_looksAt_398 X v1 v3 v6 s5 K) ∧ (¬ (t0 ≠ 0) → c_m_lays X v5 s5 (fun s7 => ((((s7 113 0) ≤ (s7 113 50)) → L_m_looksAt_496 X v1 v6 v5 (s7 113 49) (s7 113 50) s7 K) ∧ (¬ ((s7 113 0) ≤ (s7 113 50)) → (-2147483648 ≤ ((s7 113 50) + 1) ∧ ((s7 113 50) + 1) < 2147483648) ∧ L_m_looksAt_496 X v1 v6 v5 (s7 113 49) ((s7 113 50) + 1) s7 K)))))))))) ∧ (¬ (r6 = 0) → c_m_puts X v3 5 0 s5 (fun r9 s8 => ((((s8 113 0) ≤ (s8 113 50)) → L_m_looksAt_496 X v1 v6 r9 (s8 113 49) (s8 113 50) s8 K) ∧ (¬ ((s8 113 0) ≤ (s8 113 50)) → (-2147483648 ≤ ((s8 113 50) + 1) ∧ ((s8 113 50) + 1) < 2147483648) ∧ L_m_looksAt_496 X v1 v6 r9 (s8 113 49) ((s8 113 50) + 1) s8 K))))))) ∧ (¬ (r2 ≤ 0) → c_m_puts X v3 4 r2 s3 (fun r11 s10 => (-2147483648 ≤ ((s10 113 49) + r2) ∧ ((s10 113 49) + r2) < 2147483648) ∧ (∀ s12 : qM, s12 = q_up s10 113 49 ((s10 113 49) + r2) → c_m_lays X r11 s12 (fun s13 => (-2147483648 ≤ ((s13 113 49) - r2) ∧ ((s13 113 49) - r2) < 2147483648) ∧ (∀ s14 : qM, s14 = q_up s13 113 49 ((s13 113 49) - r2) → (-2147483648 ≤ ((s14 113 49) + r2) ∧ ((s14 113 49) + r2) < 2147483648) ∧ c_m_names X r11 ((s14 113 49) + r2) (s14 113 50) s14 (fun s15 => ((((s15 113 0) ≤ (s15 113 50)) → L_m_looksAt_496 X v1 v6 r11 (s15 113 49) (s15 113 50) s15 K) ∧ (¬ ((s15 113 0) ≤ (s15 113 50)) → (-2147483648 ≤ ((s15 113 50) + 1) ∧ ((s15 113 50) + 1) < 2147483648) ∧ L_m_looksAt_496 X v1 v6 r11 (s15 113 49) ((s15 113 50) + 1) s15 K)))))))))) ∧ (¬ (r4 = 0) → (((t0 ≠ 0) → L_m_looksAt_264 X v1 v2 v3 v3 t0 0 s3 K) ∧ (¬ (t0 ≠ 0) → L_m_looksAt_264 X v1 v2 v3 v3 t0 1 s3 K))))))) : L_m_looksAt_228 X v1 v2 v3 v5 v6 t0 s K := by
  unfold L_m_looksAt_228
  refine w_istore (p' := 230) (ls' := [some (.inr (.inr (.inl (some 113)))), some (.inl v1), some (.inl v2), some (.inl v3), none, some (.inl v5), some (.inl v6), none, none, some (.inl t0), none]) rfl rfl rfl (Nat.le_of_ble_eq_true rfl) rfl ?_
  refine w_aload (p' := 231) rfl rfl rfl rfl ?_
  refine v_callI (M' := 67) (p' := 234) (rest := []) (as := [(.inr (.inr (.inl (some 113))))]) rfl rfl rfl rfl rfl rfl rfl rfl rfl rfl rfl rfl rfl h (fun r2 s1 h => ?_)
  refine w_istore (p' := 236) (ls' := [some (.inr (.inr (.inl (some 113)))), some (.inl v1), some (.inl v2), some (.inl v3), none, some (.inl v5), some (.inl v6), none, none, some (.inl t0), some (.inl r2)]) rfl rfl rfl (Nat.le_of_ble_eq_true rfl) rfl ?_
  refine w_aload (p' := 237) rfl rfl rfl rfl ?_
  refine w_aload (p' := 238) rfl rfl rfl rfl ?_
  refine w_getI (p' := 241) (j := 49) rfl rfl (by decide) rfl rfl ?_
  refine w_aload (p' := 242) rfl rfl rfl rfl ?_
  refine w_getI (p' := 245) (j := 50) rfl rfl (by decide) rfl rfl ?_
  refine v_callI (M' := 57) (p' := 248) (rest := []) (as := [(.inr (.inr (.inl (some 113)))), (.inl (s1 113 49)), (.inl (s1 113 50))]) rfl rfl rfl rfl rfl rfl rfl rfl rfl rfl rfl rfl rfl h (fun r4 s3 h => ?_)
  refine w_if (t := 280) (e := 251) rfl rfl rfl (fun e => ?_) (fun e => ?_)
  · have h := h.1 e
    refine w_iload (p' := 282) rfl rfl rfl rfl ?_
    refine w_if (t := 343) (e := 285) rfl rfl rfl (fun e => ?_) (fun e => ?_)
    · have h := h.1 e
      refine w_aload (p' := 344) rfl rfl rfl rfl ?_
      refine v_callI (M' := 66) (p' := 347) (rest := []) (as := [(.inr (.inr (.inl (some 113))))]) rfl rfl rfl rfl rfl rfl rfl rfl rfl rfl rfl rfl rfl h (fun r6 s5 h => ?_)
      refine w_if (t := 362) (e := 350) rfl rfl rfl (fun e => ?_) (fun e => ?_)
      · have h := h.1 e
        refine w_iload (p' := 364) rfl rfl rfl rfl ?_
        refine w_const (p' := 365) rfl rfl rfl ?_
        refine w_icmp (t := 398) (e := 368) rfl rfl rfl (fun e => ?_) (fun e => ?_)
        · have h := h.1 e
          exact w_cut (q_le_s (q_le_s (q_le_n (q_le_s (q_le_n (q_le_n (q_le_s (q_le_n (q_le_n (q_le_n (q_le_n q_le_z))))))))))) h
        · have h := h.2 e
          refine w_aload (p' := 369) rfl rfl rfl rfl ?_
          refine w_getR (p' := 372) rfl rfl rfl rfl rfl ?_
          refine w_iload (p' := 374) rfl rfl rfl rfl ?_
          refine w_iald (p' := 375) (N := 600) rfl rfl rfl rfl h.1 h.2.1 ?_
          have h := h.2.2
          refine w_const (p' := 377) rfl rfl rfl ?_
          refine w_icmp (t := 398) (e := 380) rfl rfl rfl (fun e => ?_) (fun e => ?_)
          · have h := h.1 e
            exact w_cut (q_le_s (q_le_s (q_le_n (q_le_s (q_le_n (q_le_n (q_le_s (q_le_n (q_le_n (q_le_n (q_le_n q_le_z))))))))))) h
          · have h := h.2 e
            refine w_iload (p' := 382) rfl rfl rfl rfl ?_
            refine w_if (t := 398) (e := 385) rfl rfl rfl (fun e => ?_) (fun e => ?_)
            · have h := h.1 e
              exact w_cut (q_le_s (q_le_s (q_le_n (q_le_s (q_le_n (q_le_n (q_le_s (q_le_n (q_le_n (q_le_n (q_le_n q_le_z))))))))))) h
            · have h := h.2 e
              refine w_iload (p' := 387) rfl rfl rfl rfl ?_
              refine w_istore (p' := 389) (ls' := [some (.inr (.inr (.inl (some 113)))), some (.inl v1), some (.inl v2), some (.inl v3), none, some (.inl v5), some (.inl v6), some (.inl v5), none, some (.inl t0), some (.inl r2)]) rfl rfl rfl (Nat.le_of_ble_eq_true rfl) rfl ?_
              refine w_aload (p' := 390) rfl rfl rfl rfl ?_
              refine w_iload (p' := 392) rfl rfl rfl rfl ?_
              refine v_callV (M' := 72) (p' := 395) (rest := []) (as := [(.inr (.inr (.inl (some 113)))), (.inl v5)]) rfl rfl rfl rfl rfl rfl rfl rfl rfl rfl rfl rfl rfl h (fun s7 h => ?_)
              refine w_goto (p' := 467) rfl rfl ?_
              refine w_aload (p' := 468) rfl rfl rfl rfl ?_
              refine w_aload (p' := 469) rfl rfl rfl rfl ?_
              refine w_getI (p' := 472) (j := 49) rfl rfl (by decide) rfl rfl ?_
              refine w_aload (p' := 473) rfl rfl rfl rfl ?_
              refine w_getI (p' := 476) (j := 50) rfl rfl (by decide) rfl rfl ?_
              refine w_aload (p' := 477) rfl rfl rfl rfl ?_
              refine w_getI (p' := 480) (j := 0) rfl rfl (by decide) rfl rfl ?_
              refine w_icmp (t := 492) (e := 483) rfl rfl rfl (fun e => ?_) (fun e => ?_)
              · have h := h.1 e
                refine w_aload (p' := 493) rfl rfl rfl rfl ?_
                refine w_getI (p' := 496) (j := 50) rfl rfl (by decide) rfl rfl ?_
                exact w_cut (q_le_s (q_le_s (q_le_n (q_le_n (q_le_n (q_le_n (q_le_s (q_le_s (q_le_n (q_le_n (q_le_n q_le_z))))))))))) h
              · have h := h.2 e
                refine w_aload (p' := 484) rfl rfl rfl rfl ?_
                refine w_getI (p' := 487) (j := 50) rfl rfl (by decide) rfl rfl ?_
                refine w_const (p' := 488) rfl rfl rfl ?_
                refine w_add (p' := 489) rfl rfl h.1 ?_
                have h := h.2
                refine w_goto (p' := 496) rfl rfl ?_
                exact w_cut (q_le_s (q_le_s (q_le_n (q_le_n (q_le_n (q_le_n (q_le_s (q_le_s (q_le_n (q_le_n (q_le_n q_le_z))))))))))) h
      · have h := h.2 e
        refine w_aload (p' := 351) rfl rfl rfl rfl ?_
        refine w_iload (p' := 352) rfl rfl rfl rfl ?_
        refine w_const (p' := 353) rfl rfl rfl ?_
        refine w_const (p' := 354) rfl rfl rfl ?_
        refine v_callI (M' := 60) (p' := 357) (rest := []) (as := [(.inr (.inr (.inl (some 113)))), (.inl v3), (.inl 5), (.inl 0)]) rfl rfl rfl rfl rfl rfl rfl rfl rfl rfl rfl rfl rfl h (fun r9 s8 h => ?_)
        refine w_istore (p' := 359) (ls' := [some (.inr (.inr (.inl (some 113)))), some (.inl v1), some (.inl v2), some (.inl v3), none, some (.inl v5), some (.inl v6), some (.inl r9), none, some (.inl t0), some (.inl r2)]) rfl rfl rfl (Nat.le_of_ble_eq_true rfl) rfl ?_
        refine w_goto (p' := 467) rfl rfl ?_
        refine w_aload (p' := 468) rfl rfl rfl rfl ?_
        refine w_aload (p' := 469) rfl rfl rfl rfl ?_
        refine w_getI (p' := 472) (j := 49) rfl rfl (by decide) rfl rfl ?_
        refine w_aload (p' := 473) rfl rfl rfl rfl ?_
        refine w_getI (p' := 476) (j := 50) rfl rfl (by decide) rfl rfl ?_
        refine w_aload (p' := 477) rfl rfl rfl rfl ?_
        refine w_getI (p' := 480) (j := 0) rfl rfl (by decide) rfl rfl ?_
        refine w_icmp (t := 492) (e := 483) rfl rfl rfl (fun e => ?_) (fun e => ?_)
        · have h := h.1 e
          refine w_aload (p' := 493) rfl rfl rfl rfl ?_
          refine w_getI (p' := 496) (j := 50) rfl rfl (by decide) rfl rfl ?_
          exact w_cut (q_le_s (q_le_s (q_le_n (q_le_n (q_le_n (q_le_n (q_le_s (q_le_s (q_le_n (q_le_n (q_le_n q_le_z))))))))))) h
        · have h := h.2 e
          refine w_aload (p' := 484) rfl rfl rfl rfl ?_
          refine w_getI (p' := 487) (j := 50) rfl rfl (by decide) rfl rfl ?_
          refine w_const (p' := 488) rfl rfl rfl ?_
          refine w_add (p' := 489) rfl rfl h.1 ?_
          have h := h.2
          refine w_goto (p' := 496) rfl rfl ?_
          exact w_cut (q_le_s (q_le_s (q_le_n (q_le_n (q_le_n (q_le_n (q_le_s (q_le_s (q_le_n (q_le_n (q_le_n q_le_z))))))))))) h
    · have h := h.2 e
      refine w_aload (p' := 286) rfl rfl rfl rfl ?_
      refine w_iload (p' := 287) rfl rfl rfl rfl ?_
      refine w_const (p' := 288) rfl rfl rfl ?_
      refine w_iload (p' := 290) rfl rfl rfl rfl ?_
      refine v_callI (M' := 60) (p' := 293) (rest := []) (as := [(.inr (.inr (.inl (some 113)))), (.inl v3), (.inl 4), (.inl r2)]) rfl rfl rfl rfl rfl rfl rfl rfl rfl rfl rfl rfl rfl h (fun r11 s10 h => ?_)
      refine w_istore (p' := 295) (ls' := [some (.inr (.inr (.inl (some 113)))), some (.inl v1), some (.inl v2), some (.inl v3), none, some (.inl v5), some (.inl v6), some (.inl r11), none, some (.inl t0), some (.inl r2)]) rfl rfl rfl (Nat.le_of_ble_eq_true rfl) rfl ?_
      refine w_aload (p' := 296) rfl rfl rfl rfl ?_
      refine w_dup (p' := 297) rfl rfl rfl ?_
      refine w_getI (p' := 300) (j := 49) rfl rfl (by decide) rfl rfl ?_
      refine w_iload (p' := 302) rfl rfl rfl rfl ?_
      refine w_add (p' := 303) rfl rfl h.1 ?_
      have h := h.2
      refine v_putI (p' := 306) (j := 49) rfl rfl (by decide) rfl rfl trivial ?_
      intro s12 es12
      have h := h s12 es12
      refine w_aload (p' := 307) rfl rfl rfl rfl ?_
      refine w_iload (p' := 309) rfl rfl rfl rfl ?_
      refine v_callV (M' := 72) (p' := 312) (rest := []) (as := [(.inr (.inr (.inl (some 113)))), (.inl r11)]) rfl rfl rfl rfl rfl rfl rfl rfl rfl rfl rfl rfl rfl h (fun s13 h => ?_)
      refine w_aload (p' := 313) rfl rfl rfl rfl ?_
      refine w_dup (p' := 314) rfl rfl rfl ?_
      refine w_getI (p' := 317) (j := 49) rfl rfl (by decide) rfl rfl ?_
      refine w_iload (p' := 319) rfl rfl rfl rfl ?_
      refine w_sub (p' := 320) rfl rfl h.1 ?_
      have h := h.2
      refine v_putI (p' := 323) (j := 49) rfl rfl (by decide) rfl rfl trivial ?_
      intro s14 es14
      have h := h s14 es14
      refine w_aload (p' := 324) rfl rfl rfl rfl ?_
      refine w_iload (p' := 326) rfl rfl rfl rfl ?_
      refine w_aload (p' := 327) rfl rfl rfl rfl ?_
      refine w_getI (p' := 330) (j := 49) rfl rfl (by decide) rfl rfl ?_
      refine w_iload (p' := 332) rfl rfl rfl rfl ?_
      refine w_add (p' := 333) rfl rfl h.1 ?_
      have h := h.2
      refine w_aload (p' := 334) rfl rfl rfl rfl ?_
      refine w_getI (p' := 337) (j := 50) rfl rfl (by decide) rfl rfl ?_
      refine v_callV (M' := 70) (p' := 340) (rest := []) (as := [(.inr (.inr (.inl (some 113)))), (.inl r11), (.inl ((s14 113 49) + r2)), (.inl (s14 113 50))]) rfl rfl rfl rfl rfl rfl rfl rfl rfl rfl rfl rfl rfl h (fun s15 h => ?_)
      refine w_goto (p' := 467) rfl rfl ?_
      refine w_aload (p' := 468) rfl rfl rfl rfl ?_
      refine w_aload (p' := 469) rfl rfl rfl rfl ?_
      refine w_getI (p' := 472) (j := 49) rfl rfl (by decide) rfl rfl ?_
      refine w_aload (p' := 473) rfl rfl rfl rfl ?_
      refine w_getI (p' := 476) (j := 50) rfl rfl (by decide) rfl rfl ?_
      refine w_aload (p' := 477) rfl rfl rfl rfl ?_
      refine w_getI (p' := 480) (j := 0) rfl rfl (by decide) rfl rfl ?_
      refine w_icmp (t := 492) (e := 483) rfl rfl rfl (fun e => ?_) (fun e => ?_)
      · have h := h.1 e
        refine w_aload (p' := 493) rfl rfl rfl rfl ?_
        refine w_getI (p' := 496) (j := 50) rfl rfl (by decide) rfl rfl ?_
        exact w_cut (q_le_s (q_le_s (q_le_n (q_le_n (q_le_n (q_le_n (q_le_s (q_le_s (q_le_n (q_le_n (q_le_n q_le_z))))))))))) h
      · have h := h.2 e
        refine w_aload (p' := 484) rfl rfl rfl rfl ?_
        refine w_getI (p' := 487) (j := 50) rfl rfl (by decide) rfl rfl ?_
        refine w_const (p' := 488) rfl rfl rfl ?_
        refine w_add (p' := 489) rfl rfl h.1 ?_
        have h := h.2
        refine w_goto (p' := 496) rfl rfl ?_
        exact w_cut (q_le_s (q_le_s (q_le_n (q_le_n (q_le_n (q_le_n (q_le_s (q_le_s (q_le_n (q_le_n (q_le_n q_le_z))))))))))) h
  · have h := h.2 e
    refine w_iload (p' := 252) rfl rfl rfl rfl ?_
    refine w_istore (p' := 254) (ls' := [some (.inr (.inr (.inl (some 113)))), some (.inl v1), some (.inl v2), some (.inl v3), none, some (.inl v5), some (.inl v6), some (.inl v3), none, some (.inl t0), some (.inl r2)]) rfl rfl rfl (Nat.le_of_ble_eq_true rfl) rfl ?_
    refine w_iload (p' := 256) rfl rfl rfl rfl ?_
    refine w_if (t := 263) (e := 259) rfl rfl rfl (fun e => ?_) (fun e => ?_)
    · have h := h.1 e
      refine w_const (p' := 264) rfl rfl rfl ?_
      exact w_cut (q_le_s (q_le_s (q_le_s (q_le_s (q_le_n (q_le_n (q_le_n (q_le_s (q_le_n (q_le_s (q_le_n q_le_z))))))))))) h
    · have h := h.2 e
      refine w_const (p' := 260) rfl rfl rfl ?_
      refine w_goto (p' := 264) rfl rfl ?_
      exact w_cut (q_le_s (q_le_s (q_le_s (q_le_s (q_le_n (q_le_n (q_le_n (q_le_s (q_le_n (q_le_s (q_le_n q_le_z))))))))))) h
set_option maxRecDepth 20000 in
theorem sg_m_looksAt_496 {X : Nat × (Nat → Int32)}  {v1 v6 v7 t1 t2 : Int} {s : qM} {K : qM → Prop} (h : c_m_owns X t1 t2 v7 s (fun s1 => (0 ≤ v6 ∧ v6 ≤ 1) ∧ (∀ s2 : qM, s2 = q_up s1 113 48 v6 → ((0 : Int) ≤ v7) ∧ (v7 < (600 : Int)) ∧ ((((s2 117 v7) ≠ 5) → ((0 : Int) ≤ (s2 113 17)) ∧ ((s2 113 17) < (241 : Int)) ∧ (∀ s3 : qM, s3 = q_up s2 128 (s2 113 17) 0 → ((0 : Int) ≤ (s3 113 17)) ∧ ((s3 113 17) < (241 : Int)) ∧ (∀ s4 : qM, s4 = q_up s3 127 (s3 113 17) v1 → (-2147483648 ≤ ((s4 113 17) + 1) ∧ ((s4 113 17) + 1) < 2147483648) ∧ (∀ s5 : qM, s5 = q_up s4 113 17 ((s4 113 17) + 1) → K s5)))) ∧ (¬ ((s2 117 v7) ≠ 5) → ((0 : Int) ≤ (s2 113 17)) ∧ ((s2 113 17) < (241 : Int)) ∧ (∀ s6 : qM, s6 = q_up s2 128 (s2 113 17) 1 → ((0 : Int) ≤ (s6 113 17)) ∧ ((s6 113 17) < (241 : Int)) ∧ (∀ s7 : qM, s7 = q_up s6 127 (s6 113 17) v1 → (-2147483648 ≤ ((s7 113 17) + 1) ∧ ((s7 113 17) + 1) < 2147483648) ∧ (∀ s8 : qM, s8 = q_up s7 113 17 ((s7 113 17) + 1) → K s8)))))))) : L_m_looksAt_496 X v1 v6 v7 t1 t2 s K := by
  unfold L_m_looksAt_496
  refine w_iload (p' := 498) rfl rfl rfl rfl ?_
  refine v_callV (M' := 61) (p' := 501) (rest := []) (as := [(.inr (.inr (.inl (some 113)))), (.inl t1), (.inl t2), (.inl v7)]) rfl rfl rfl rfl rfl rfl rfl rfl rfl rfl rfl rfl rfl h (fun s1 h => ?_)
  refine w_aload (p' := 502) rfl rfl rfl rfl ?_
  refine w_iload (p' := 504) rfl rfl rfl rfl ?_
  refine v_putI (p' := 507) (j := 48) rfl rfl (by decide) rfl rfl h.1 ?_
  have h := h.2
  intro s2 es2
  have h := h s2 es2
  refine w_aload (p' := 508) rfl rfl rfl rfl ?_
  refine w_getR (p' := 511) rfl rfl rfl rfl rfl ?_
  refine w_aload (p' := 512) rfl rfl rfl rfl ?_
  refine w_getI (p' := 515) (j := 17) rfl rfl (by decide) rfl rfl ?_
  refine w_aload (p' := 516) rfl rfl rfl rfl ?_
  refine w_getR (p' := 519) rfl rfl rfl rfl rfl ?_
  refine w_iload (p' := 521) rfl rfl rfl rfl ?_
  refine w_iald (p' := 522) (N := 600) rfl rfl rfl rfl h.1 h.2.1 ?_
  have h := h.2.2
  refine w_const (p' := 523) rfl rfl rfl ?_
  refine w_icmp (t := 530) (e := 526) rfl rfl rfl (fun e => ?_) (fun e => ?_)
  · have h := h.1 e
    refine w_const (p' := 531) rfl rfl rfl ?_
    refine v_bast (p' := 532) (N := 241) rfl rfl rfl rfl h.1 h.2.1 (by decide) (by decide) ?_
    have h := h.2.2
    intro s3 es3
    have h := h s3 es3
    refine w_aload (p' := 533) rfl rfl rfl rfl ?_
    refine w_getR (p' := 536) rfl rfl rfl rfl rfl ?_
    refine w_aload (p' := 537) rfl rfl rfl rfl ?_
    refine w_getI (p' := 540) (j := 17) rfl rfl (by decide) rfl rfl ?_
    refine w_iload (p' := 541) rfl rfl rfl rfl ?_
    refine v_iast (p' := 542) (N := 241) rfl rfl rfl rfl h.1 h.2.1  ?_
    have h := h.2.2
    intro s4 es4
    have h := h s4 es4
    refine w_aload (p' := 543) rfl rfl rfl rfl ?_
    refine w_dup (p' := 544) rfl rfl rfl ?_
    refine w_getI (p' := 547) (j := 17) rfl rfl (by decide) rfl rfl ?_
    refine w_const (p' := 548) rfl rfl rfl ?_
    refine w_add (p' := 549) rfl rfl h.1 ?_
    have h := h.2
    refine v_putI (p' := 552) (j := 17) rfl rfl (by decide) rfl rfl trivial ?_
    intro s5 es5
    have h := h s5 es5
    exact w_vret rfl ⟨rfl, rfl, h⟩
  · have h := h.2 e
    refine w_const (p' := 527) rfl rfl rfl ?_
    refine w_goto (p' := 531) rfl rfl ?_
    refine v_bast (p' := 532) (N := 241) rfl rfl rfl rfl h.1 h.2.1 (by decide) (by decide) ?_
    have h := h.2.2
    intro s6 es6
    have h := h s6 es6
    refine w_aload (p' := 533) rfl rfl rfl rfl ?_
    refine w_getR (p' := 536) rfl rfl rfl rfl rfl ?_
    refine w_aload (p' := 537) rfl rfl rfl rfl ?_
    refine w_getI (p' := 540) (j := 17) rfl rfl (by decide) rfl rfl ?_
    refine w_iload (p' := 541) rfl rfl rfl rfl ?_
    refine v_iast (p' := 542) (N := 241) rfl rfl rfl rfl h.1 h.2.1  ?_
    have h := h.2.2
    intro s7 es7
    have h := h s7 es7
    refine w_aload (p' := 543) rfl rfl rfl rfl ?_
    refine w_dup (p' := 544) rfl rfl rfl ?_
    refine w_getI (p' := 547) (j := 17) rfl rfl (by decide) rfl rfl ?_
    refine w_const (p' := 548) rfl rfl rfl ?_
    refine w_add (p' := 549) rfl rfl h.1 ?_
    have h := h.2
    refine v_putI (p' := 552) (j := 17) rfl rfl (by decide) rfl rfl trivial ?_
    intro s8 es8
    have h := h s8 es8
    exact w_vret rfl ⟨rfl, rfl, h⟩
set_option maxRecDepth 20000 in
theorem sg_m_looksAt_398 {X : Nat × (Nat → Int32)}  {v1 v3 v6 : Int} {s : qM} {K : qM → Prop} (h : c_m_isDefinition X  s (fun r2 s1 => (((r2 = 0) → c_m_puts X v3 6 0 s1 (fun r4 s3 => c_m_lays X r4 s3 (fun s5 => ((((s5 113 0) ≤ (s5 113 50)) → L_m_looksAt_496 X v1 v6 r4 (s5 113 49) (s5 113 50) s5 K) ∧ (¬ ((s5 113 0) ≤ (s5 113 50)) → (-2147483648 ≤ ((s5 113 50) + 1) ∧ ((s5 113 50) + 1) < 2147483648) ∧ L_m_looksAt_496 X v1 v6 r4 (s5 113 49) ((s5 113 50) + 1) s5 K))))) ∧ (¬ (r2 = 0) → c_m_puts X v3 7 0 s1 (fun r7 s6 => (-2147483648 ≤ ((s6 113 49) + 1) ∧ ((s6 113 49) + 1) < 2147483648) ∧ (-2147483648 ≤ ((s6 113 49) + 1) ∧ ((s6 113 49) + 1) < 2147483648) ∧ (-2147483648 ≤ ((s6 113 49) + 1) ∧ ((s6 113 49) + 1) < 2147483648) ∧ c_m_letters X ((s6 113 49) + 1) (s6 113 50) s6 (fun r9 s8 => (-2147483648 ≤ (((s6 113 49) + 1) + r9) ∧ (((s6 113 49) + 1) + r9) < 2147483648) ∧ c_m_names X r7 ((s6 113 49) + 1) (((s6 113 49) + 1) + r9) s8 (fun s10 => ((((s10 113 0) ≤ (s10 113 50)) → L_m_looksAt_496 X v1 v6 r7 (s10 113 49) (s10 113 50) s10 K) ∧ (¬ ((s10 113 0) ≤ (s10 113 50)) → (-2147483648 ≤ ((s10 113 50) + 1) ∧ ((s10 113 50) + 1) < 2147483648) ∧ L_m_looksAt_496 X v1 v6 r7 (s10 113 49) ((s10 113 50) + 1) s10 K))))))))) : L_m_looksAt_398 X v1 v3 v6 s K := by
  unfold L_m_looksAt_398
  refine w_aload (p' := 399) rfl rfl rfl rfl ?_
  refine v_callI (M' := 69) (p' := 402) (rest := []) (as := [(.inr (.inr (.inl (some 113))))]) rfl rfl rfl rfl rfl rfl rfl rfl rfl rfl rfl rfl rfl h (fun r2 s1 h => ?_)
  refine w_if (t := 451) (e := 405) rfl rfl rfl (fun e => ?_) (fun e => ?_)
  · have h := h.1 e
    refine w_aload (p' := 452) rfl rfl rfl rfl ?_
    refine w_iload (p' := 453) rfl rfl rfl rfl ?_
    refine w_const (p' := 455) rfl rfl rfl ?_
    refine w_const (p' := 456) rfl rfl rfl ?_
    refine v_callI (M' := 60) (p' := 459) (rest := []) (as := [(.inr (.inr (.inl (some 113)))), (.inl v3), (.inl 6), (.inl 0)]) rfl rfl rfl rfl rfl rfl rfl rfl rfl rfl rfl rfl rfl h (fun r4 s3 h => ?_)
    refine w_istore (p' := 461) (ls' := [some (.inr (.inr (.inl (some 113)))), some (.inl v1), none, some (.inl v3), none, none, some (.inl v6), some (.inl r4), none, none, none]) rfl rfl rfl (Nat.le_of_ble_eq_true rfl) rfl ?_
    refine w_aload (p' := 462) rfl rfl rfl rfl ?_
    refine w_iload (p' := 464) rfl rfl rfl rfl ?_
    refine v_callV (M' := 72) (p' := 467) (rest := []) (as := [(.inr (.inr (.inl (some 113)))), (.inl r4)]) rfl rfl rfl rfl rfl rfl rfl rfl rfl rfl rfl rfl rfl h (fun s5 h => ?_)
    refine w_aload (p' := 468) rfl rfl rfl rfl ?_
    refine w_aload (p' := 469) rfl rfl rfl rfl ?_
    refine w_getI (p' := 472) (j := 49) rfl rfl (by decide) rfl rfl ?_
    refine w_aload (p' := 473) rfl rfl rfl rfl ?_
    refine w_getI (p' := 476) (j := 50) rfl rfl (by decide) rfl rfl ?_
    refine w_aload (p' := 477) rfl rfl rfl rfl ?_
    refine w_getI (p' := 480) (j := 0) rfl rfl (by decide) rfl rfl ?_
    refine w_icmp (t := 492) (e := 483) rfl rfl rfl (fun e => ?_) (fun e => ?_)
    · have h := h.1 e
      refine w_aload (p' := 493) rfl rfl rfl rfl ?_
      refine w_getI (p' := 496) (j := 50) rfl rfl (by decide) rfl rfl ?_
      exact w_cut (q_le_s (q_le_s (q_le_n (q_le_n (q_le_n (q_le_n (q_le_s (q_le_s (q_le_n (q_le_n (q_le_n q_le_z))))))))))) h
    · have h := h.2 e
      refine w_aload (p' := 484) rfl rfl rfl rfl ?_
      refine w_getI (p' := 487) (j := 50) rfl rfl (by decide) rfl rfl ?_
      refine w_const (p' := 488) rfl rfl rfl ?_
      refine w_add (p' := 489) rfl rfl h.1 ?_
      have h := h.2
      refine w_goto (p' := 496) rfl rfl ?_
      exact w_cut (q_le_s (q_le_s (q_le_n (q_le_n (q_le_n (q_le_n (q_le_s (q_le_s (q_le_n (q_le_n (q_le_n q_le_z))))))))))) h
  · have h := h.2 e
    refine w_aload (p' := 406) rfl rfl rfl rfl ?_
    refine w_iload (p' := 407) rfl rfl rfl rfl ?_
    refine w_const (p' := 409) rfl rfl rfl ?_
    refine w_const (p' := 410) rfl rfl rfl ?_
    refine v_callI (M' := 60) (p' := 413) (rest := []) (as := [(.inr (.inr (.inl (some 113)))), (.inl v3), (.inl 7), (.inl 0)]) rfl rfl rfl rfl rfl rfl rfl rfl rfl rfl rfl rfl rfl h (fun r7 s6 h => ?_)
    refine w_istore (p' := 415) (ls' := [some (.inr (.inr (.inl (some 113)))), some (.inl v1), none, some (.inl v3), none, none, some (.inl v6), some (.inl r7), none, none, none]) rfl rfl rfl (Nat.le_of_ble_eq_true rfl) rfl ?_
    refine w_aload (p' := 416) rfl rfl rfl rfl ?_
    refine w_iload (p' := 418) rfl rfl rfl rfl ?_
    refine w_aload (p' := 419) rfl rfl rfl rfl ?_
    refine w_getI (p' := 422) (j := 49) rfl rfl (by decide) rfl rfl ?_
    refine w_const (p' := 423) rfl rfl rfl ?_
    refine w_add (p' := 424) rfl rfl h.1 ?_
    have h := h.2
    refine w_aload (p' := 425) rfl rfl rfl rfl ?_
    refine w_getI (p' := 428) (j := 49) rfl rfl (by decide) rfl rfl ?_
    refine w_const (p' := 429) rfl rfl rfl ?_
    refine w_add (p' := 430) rfl rfl h.1 ?_
    have h := h.2
    refine w_aload (p' := 431) rfl rfl rfl rfl ?_
    refine w_aload (p' := 432) rfl rfl rfl rfl ?_
    refine w_getI (p' := 435) (j := 49) rfl rfl (by decide) rfl rfl ?_
    refine w_const (p' := 436) rfl rfl rfl ?_
    refine w_add (p' := 437) rfl rfl h.1 ?_
    have h := h.2
    refine w_aload (p' := 438) rfl rfl rfl rfl ?_
    refine w_getI (p' := 441) (j := 50) rfl rfl (by decide) rfl rfl ?_
    refine v_callI (M' := 68) (p' := 444) (rest := [(.inl ((s6 113 49) + 1)), (.inl ((s6 113 49) + 1)), (.inl r7), (.inr (.inr (.inl (some 113))))]) (as := [(.inr (.inr (.inl (some 113)))), (.inl ((s6 113 49) + 1)), (.inl (s6 113 50))]) rfl rfl rfl rfl rfl rfl rfl rfl rfl rfl rfl rfl rfl h (fun r9 s8 h => ?_)
    refine w_add (p' := 445) rfl rfl h.1 ?_
    have h := h.2
    refine v_callV (M' := 70) (p' := 448) (rest := []) (as := [(.inr (.inr (.inl (some 113)))), (.inl r7), (.inl ((s6 113 49) + 1)), (.inl (((s6 113 49) + 1) + r9))]) rfl rfl rfl rfl rfl rfl rfl rfl rfl rfl rfl rfl rfl h (fun s10 h => ?_)
    refine w_goto (p' := 467) rfl rfl ?_
    refine w_aload (p' := 468) rfl rfl rfl rfl ?_
    refine w_aload (p' := 469) rfl rfl rfl rfl ?_
    refine w_getI (p' := 472) (j := 49) rfl rfl (by decide) rfl rfl ?_
    refine w_aload (p' := 473) rfl rfl rfl rfl ?_
    refine w_getI (p' := 476) (j := 50) rfl rfl (by decide) rfl rfl ?_
    refine w_aload (p' := 477) rfl rfl rfl rfl ?_
    refine w_getI (p' := 480) (j := 0) rfl rfl (by decide) rfl rfl ?_
    refine w_icmp (t := 492) (e := 483) rfl rfl rfl (fun e => ?_) (fun e => ?_)
    · have h := h.1 e
      refine w_aload (p' := 493) rfl rfl rfl rfl ?_
      refine w_getI (p' := 496) (j := 50) rfl rfl (by decide) rfl rfl ?_
      exact w_cut (q_le_s (q_le_s (q_le_n (q_le_n (q_le_n (q_le_n (q_le_s (q_le_s (q_le_n (q_le_n (q_le_n q_le_z))))))))))) h
    · have h := h.2 e
      refine w_aload (p' := 484) rfl rfl rfl rfl ?_
      refine w_getI (p' := 487) (j := 50) rfl rfl (by decide) rfl rfl ?_
      refine w_const (p' := 488) rfl rfl rfl ?_
      refine w_add (p' := 489) rfl rfl h.1 ?_
      have h := h.2
      refine w_goto (p' := 496) rfl rfl ?_
      exact w_cut (q_le_s (q_le_s (q_le_n (q_le_n (q_le_n (q_le_n (q_le_s (q_le_s (q_le_n (q_le_n (q_le_n q_le_z))))))))))) h
set_option maxRecDepth 20000 in
theorem sg_m_looksAt_264 {X : Nat × (Nat → Int32)}  {v1 v2 v3 v7 v9 t0 : Int} {s : qM} {K : qM → Prop} (h : (((v9 ≠ 0) → ((((s 113 0) ≤ (s 113 50)) → L_m_looksAt_496 X v1 t0 v7 (s 113 49) (s 113 50) s K) ∧ (¬ ((s 113 0) ≤ (s 113 50)) → (-2147483648 ≤ ((s 113 50) + 1) ∧ ((s 113 50) + 1) < 2147483648) ∧ L_m_looksAt_496 X v1 t0 v7 (s 113 49) ((s 113 50) + 1) s K))) ∧ (¬ (v9 ≠ 0) → c_m_closesBehind X v2 v3 s (fun s1 => ((((s1 113 0) ≤ (s1 113 50)) → L_m_looksAt_496 X v1 t0 v7 (s1 113 49) (s1 113 50) s1 K) ∧ (¬ ((s1 113 0) ≤ (s1 113 50)) → (-2147483648 ≤ ((s1 113 50) + 1) ∧ ((s1 113 50) + 1) < 2147483648) ∧ L_m_looksAt_496 X v1 t0 v7 (s1 113 49) ((s1 113 50) + 1) s1 K)))))) : L_m_looksAt_264 X v1 v2 v3 v7 v9 t0 s K := by
  unfold L_m_looksAt_264
  refine w_istore (p' := 266) (ls' := [some (.inr (.inr (.inl (some 113)))), some (.inl v1), some (.inl v2), some (.inl v3), none, none, some (.inl t0), some (.inl v7), none, some (.inl v9), none]) rfl rfl rfl (Nat.le_of_ble_eq_true rfl) rfl ?_
  refine w_iload (p' := 268) rfl rfl rfl rfl ?_
  refine w_if (t := 467) (e := 271) rfl rfl rfl (fun e => ?_) (fun e => ?_)
  · have h := h.1 e
    refine w_aload (p' := 468) rfl rfl rfl rfl ?_
    refine w_aload (p' := 469) rfl rfl rfl rfl ?_
    refine w_getI (p' := 472) (j := 49) rfl rfl (by decide) rfl rfl ?_
    refine w_aload (p' := 473) rfl rfl rfl rfl ?_
    refine w_getI (p' := 476) (j := 50) rfl rfl (by decide) rfl rfl ?_
    refine w_aload (p' := 477) rfl rfl rfl rfl ?_
    refine w_getI (p' := 480) (j := 0) rfl rfl (by decide) rfl rfl ?_
    refine w_icmp (t := 492) (e := 483) rfl rfl rfl (fun e => ?_) (fun e => ?_)
    · have h := h.1 e
      refine w_aload (p' := 493) rfl rfl rfl rfl ?_
      refine w_getI (p' := 496) (j := 50) rfl rfl (by decide) rfl rfl ?_
      exact w_cut (q_le_s (q_le_s (q_le_n (q_le_n (q_le_n (q_le_n (q_le_s (q_le_s (q_le_n (q_le_n (q_le_n q_le_z))))))))))) h
    · have h := h.2 e
      refine w_aload (p' := 484) rfl rfl rfl rfl ?_
      refine w_getI (p' := 487) (j := 50) rfl rfl (by decide) rfl rfl ?_
      refine w_const (p' := 488) rfl rfl rfl ?_
      refine w_add (p' := 489) rfl rfl h.1 ?_
      have h := h.2
      refine w_goto (p' := 496) rfl rfl ?_
      exact w_cut (q_le_s (q_le_s (q_le_n (q_le_n (q_le_n (q_le_n (q_le_s (q_le_s (q_le_n (q_le_n (q_le_n q_le_z))))))))))) h
  · have h := h.2 e
    refine w_aload (p' := 272) rfl rfl rfl rfl ?_
    refine w_iload (p' := 273) rfl rfl rfl rfl ?_
    refine w_iload (p' := 274) rfl rfl rfl rfl ?_
    refine v_callV (M' := 75) (p' := 277) (rest := []) (as := [(.inr (.inr (.inl (some 113)))), (.inl v2), (.inl v3)]) rfl rfl rfl rfl rfl rfl rfl rfl rfl rfl rfl rfl rfl h (fun s1 h => ?_)
    refine w_goto (p' := 467) rfl rfl ?_
    refine w_aload (p' := 468) rfl rfl rfl rfl ?_
    refine w_aload (p' := 469) rfl rfl rfl rfl ?_
    refine w_getI (p' := 472) (j := 49) rfl rfl (by decide) rfl rfl ?_
    refine w_aload (p' := 473) rfl rfl rfl rfl ?_
    refine w_getI (p' := 476) (j := 50) rfl rfl (by decide) rfl rfl ?_
    refine w_aload (p' := 477) rfl rfl rfl rfl ?_
    refine w_getI (p' := 480) (j := 0) rfl rfl (by decide) rfl rfl ?_
    refine w_icmp (t := 492) (e := 483) rfl rfl rfl (fun e => ?_) (fun e => ?_)
    · have h := h.1 e
      refine w_aload (p' := 493) rfl rfl rfl rfl ?_
      refine w_getI (p' := 496) (j := 50) rfl rfl (by decide) rfl rfl ?_
      exact w_cut (q_le_s (q_le_s (q_le_n (q_le_n (q_le_n (q_le_n (q_le_s (q_le_s (q_le_n (q_le_n (q_le_n q_le_z))))))))))) h
    · have h := h.2 e
      refine w_aload (p' := 484) rfl rfl rfl rfl ?_
      refine w_getI (p' := 487) (j := 50) rfl rfl (by decide) rfl rfl ?_
      refine w_const (p' := 488) rfl rfl rfl ?_
      refine w_add (p' := 489) rfl rfl h.1 ?_
      have h := h.2
      refine w_goto (p' := 496) rfl rfl ?_
      exact w_cut (q_le_s (q_le_s (q_le_n (q_le_n (q_le_n (q_le_n (q_le_s (q_le_s (q_le_n (q_le_n (q_le_n q_le_z))))))))))) h
set_option maxRecDepth 20000 in
theorem sg_m_closesBehind {X : Nat × (Nat → Int32)} {x1 : Int} {x2 : Int} {s : qM} {K : qM → Prop} (h : ((0 : Int) ≤ x1) ∧ (x1 < (600 : Int)) ∧ ((((s 122 x1) = (-1)) → ((0 : Int) ≤ x2) ∧ (x2 < (600 : Int)) ∧ ((((s 122 x2) = (-1)) → K s) ∧ (¬ ((s 122 x2) = (-1)) → ((0 : Int) ≤ (s 122 x2)) ∧ ((s 122 x2) < (600 : Int)) ∧ ((((s 119 (s 122 x2)) = 0) → K s) ∧ (¬ ((s 119 (s 122 x2)) = 0) → ((0 : Int) ≤ (s 122 x2)) ∧ ((s 122 x2) < (600 : Int)) ∧ ((((s 117 (s 122 x2)) ≠ 6) → K s) ∧ (¬ ((s 117 (s 122 x2)) ≠ 6) → ((0 : Int) ≤ (s 122 x2)) ∧ ((s 122 x2) < (600 : Int)) ∧ (∀ s1 : qM, s1 = q_up s 119 (s 122 x2) 0 → K s1)))))))) ∧ (¬ ((s 122 x1) = (-1)) → ((0 : Int) ≤ (s 122 x1)) ∧ ((s 122 x1) < (600 : Int)) ∧ ((((s 119 (s 122 x1)) = 0) → ((0 : Int) ≤ x2) ∧ (x2 < (600 : Int)) ∧ ((((s 122 x2) = (-1)) → K s) ∧ (¬ ((s 122 x2) = (-1)) → ((0 : Int) ≤ (s 122 x2)) ∧ ((s 122 x2) < (600 : Int)) ∧ ((((s 119 (s 122 x2)) = 0) → K s) ∧ (¬ ((s 119 (s 122 x2)) = 0) → ((0 : Int) ≤ (s 122 x2)) ∧ ((s 122 x2) < (600 : Int)) ∧ ((((s 117 (s 122 x2)) ≠ 6) → K s) ∧ (¬ ((s 117 (s 122 x2)) ≠ 6) → ((0 : Int) ≤ (s 122 x2)) ∧ ((s 122 x2) < (600 : Int)) ∧ (∀ s2 : qM, s2 = q_up s 119 (s 122 x2) 0 → K s2)))))))) ∧ (¬ ((s 119 (s 122 x1)) = 0) → ((0 : Int) ≤ (s 122 x1)) ∧ ((s 122 x1) < (600 : Int)) ∧ c_m_isContainer X (s 117 (s 122 x1)) s (fun r4 s3 => (((r4 = 0) → ((0 : Int) ≤ x2) ∧ (x2 < (600 : Int)) ∧ ((((s3 122 x2) = (-1)) → K s3) ∧ (¬ ((s3 122 x2) = (-1)) → ((0 : Int) ≤ (s3 122 x2)) ∧ ((s3 122 x2) < (600 : Int)) ∧ ((((s3 119 (s3 122 x2)) = 0) → K s3) ∧ (¬ ((s3 119 (s3 122 x2)) = 0) → ((0 : Int) ≤ (s3 122 x2)) ∧ ((s3 122 x2) < (600 : Int)) ∧ ((((s3 117 (s3 122 x2)) ≠ 6) → K s3) ∧ (¬ ((s3 117 (s3 122 x2)) ≠ 6) → ((0 : Int) ≤ (s3 122 x2)) ∧ ((s3 122 x2) < (600 : Int)) ∧ (∀ s5 : qM, s5 = q_up s3 119 (s3 122 x2) 0 → K s5)))))))) ∧ (¬ (r4 = 0) → c_m_closes X (s 122 x1) s3 (fun s6 => ((0 : Int) ≤ x2) ∧ (x2 < (600 : Int)) ∧ ((((s6 122 x2) = (-1)) → K s6) ∧ (¬ ((s6 122 x2) = (-1)) → ((0 : Int) ≤ (s6 122 x2)) ∧ ((s6 122 x2) < (600 : Int)) ∧ ((((s6 119 (s6 122 x2)) = 0) → K s6) ∧ (¬ ((s6 119 (s6 122 x2)) = 0) → ((0 : Int) ≤ (s6 122 x2)) ∧ ((s6 122 x2) < (600 : Int)) ∧ ((((s6 117 (s6 122 x2)) ≠ 6) → K s6) ∧ (¬ ((s6 117 (s6 122 x2)) ≠ 6) → ((0 : Int) ≤ (s6 122 x2)) ∧ ((s6 122 x2) < (600 : Int)) ∧ (∀ s7 : qM, s7 = q_up s6 119 (s6 122 x2) 0 → K s7)))))))))))))))) : c_m_closesBehind X x1 x2 s K := by
  unfold c_m_closesBehind
  refine w_aload (p' := 1) rfl rfl rfl rfl ?_
  refine w_getR (p' := 4) rfl rfl rfl rfl rfl ?_
  refine w_iload (p' := 5) rfl rfl rfl rfl ?_
  refine w_iald (p' := 6) (N := 600) rfl rfl rfl rfl h.1 h.2.1 ?_
  have h := h.2.2
  refine w_istore (p' := 7) (ls' := [some (.inr (.inr (.inl (some 113)))), some (.inl x1), some (.inl x2), some (.inl (s 122 x1))]) rfl rfl rfl (Nat.le_of_ble_eq_true rfl) rfl ?_
  refine w_iload (p' := 8) rfl rfl rfl rfl ?_
  refine w_const (p' := 9) rfl rfl rfl ?_
  refine w_icmp (t := 38) (e := 12) rfl rfl rfl (fun e => ?_) (fun e => ?_)
  · have h := h.1 e
    refine w_aload (p' := 39) rfl rfl rfl rfl ?_
    refine w_getR (p' := 42) rfl rfl rfl rfl rfl ?_
    refine w_iload (p' := 43) rfl rfl rfl rfl ?_
    refine w_iald (p' := 44) (N := 600) rfl rfl rfl rfl h.1 h.2.1 ?_
    have h := h.2.2
    refine w_istore (p' := 45) (ls' := [some (.inr (.inr (.inl (some 113)))), some (.inl x1), some (.inl x2), some (.inl (s 122 x2))]) rfl rfl rfl (Nat.le_of_ble_eq_true rfl) rfl ?_
    refine w_iload (p' := 46) rfl rfl rfl rfl ?_
    refine w_const (p' := 47) rfl rfl rfl ?_
    refine w_icmp (t := 77) (e := 50) rfl rfl rfl (fun e => ?_) (fun e => ?_)
    · have h := h.1 e
      exact w_vret rfl ⟨rfl, rfl, h⟩
    · have h := h.2 e
      refine w_aload (p' := 51) rfl rfl rfl rfl ?_
      refine w_getR (p' := 54) rfl rfl rfl rfl rfl ?_
      refine w_iload (p' := 55) rfl rfl rfl rfl ?_
      refine w_bald (p' := 56) (N := 600) rfl rfl rfl rfl h.1 h.2.1 ?_
      have h := h.2.2
      refine w_if (t := 77) (e := 59) rfl rfl rfl (fun e => ?_) (fun e => ?_)
      · have h := h.1 e
        exact w_vret rfl ⟨rfl, rfl, h⟩
      · have h := h.2 e
        refine w_aload (p' := 60) rfl rfl rfl rfl ?_
        refine w_getR (p' := 63) rfl rfl rfl rfl rfl ?_
        refine w_iload (p' := 64) rfl rfl rfl rfl ?_
        refine w_iald (p' := 65) (N := 600) rfl rfl rfl rfl h.1 h.2.1 ?_
        have h := h.2.2
        refine w_const (p' := 67) rfl rfl rfl ?_
        refine w_icmp (t := 77) (e := 70) rfl rfl rfl (fun e => ?_) (fun e => ?_)
        · have h := h.1 e
          exact w_vret rfl ⟨rfl, rfl, h⟩
        · have h := h.2 e
          refine w_aload (p' := 71) rfl rfl rfl rfl ?_
          refine w_getR (p' := 74) rfl rfl rfl rfl rfl ?_
          refine w_iload (p' := 75) rfl rfl rfl rfl ?_
          refine w_const (p' := 76) rfl rfl rfl ?_
          refine v_bast (p' := 77) (N := 600) rfl rfl rfl rfl h.1 h.2.1 (by decide) (by decide) ?_
          have h := h.2.2
          intro s1 es1
          have h := h s1 es1
          exact w_vret rfl ⟨rfl, rfl, h⟩
  · have h := h.2 e
    refine w_aload (p' := 13) rfl rfl rfl rfl ?_
    refine w_getR (p' := 16) rfl rfl rfl rfl rfl ?_
    refine w_iload (p' := 17) rfl rfl rfl rfl ?_
    refine w_bald (p' := 18) (N := 600) rfl rfl rfl rfl h.1 h.2.1 ?_
    have h := h.2.2
    refine w_if (t := 38) (e := 21) rfl rfl rfl (fun e => ?_) (fun e => ?_)
    · have h := h.1 e
      refine w_aload (p' := 39) rfl rfl rfl rfl ?_
      refine w_getR (p' := 42) rfl rfl rfl rfl rfl ?_
      refine w_iload (p' := 43) rfl rfl rfl rfl ?_
      refine w_iald (p' := 44) (N := 600) rfl rfl rfl rfl h.1 h.2.1 ?_
      have h := h.2.2
      refine w_istore (p' := 45) (ls' := [some (.inr (.inr (.inl (some 113)))), some (.inl x1), some (.inl x2), some (.inl (s 122 x2))]) rfl rfl rfl (Nat.le_of_ble_eq_true rfl) rfl ?_
      refine w_iload (p' := 46) rfl rfl rfl rfl ?_
      refine w_const (p' := 47) rfl rfl rfl ?_
      refine w_icmp (t := 77) (e := 50) rfl rfl rfl (fun e => ?_) (fun e => ?_)
      · have h := h.1 e
        exact w_vret rfl ⟨rfl, rfl, h⟩
      · have h := h.2 e
        refine w_aload (p' := 51) rfl rfl rfl rfl ?_
        refine w_getR (p' := 54) rfl rfl rfl rfl rfl ?_
        refine w_iload (p' := 55) rfl rfl rfl rfl ?_
        refine w_bald (p' := 56) (N := 600) rfl rfl rfl rfl h.1 h.2.1 ?_
        have h := h.2.2
        refine w_if (t := 77) (e := 59) rfl rfl rfl (fun e => ?_) (fun e => ?_)
        · have h := h.1 e
          exact w_vret rfl ⟨rfl, rfl, h⟩
        · have h := h.2 e
          refine w_aload (p' := 60) rfl rfl rfl rfl ?_
          refine w_getR (p' := 63) rfl rfl rfl rfl rfl ?_
          refine w_iload (p' := 64) rfl rfl rfl rfl ?_
          refine w_iald (p' := 65) (N := 600) rfl rfl rfl rfl h.1 h.2.1 ?_
          have h := h.2.2
          refine w_const (p' := 67) rfl rfl rfl ?_
          refine w_icmp (t := 77) (e := 70) rfl rfl rfl (fun e => ?_) (fun e => ?_)
          · have h := h.1 e
            exact w_vret rfl ⟨rfl, rfl, h⟩
          · have h := h.2 e
            refine w_aload (p' := 71) rfl rfl rfl rfl ?_
            refine w_getR (p' := 74) rfl rfl rfl rfl rfl ?_
            refine w_iload (p' := 75) rfl rfl rfl rfl ?_
            refine w_const (p' := 76) rfl rfl rfl ?_
            refine v_bast (p' := 77) (N := 600) rfl rfl rfl rfl h.1 h.2.1 (by decide) (by decide) ?_
            have h := h.2.2
            intro s2 es2
            have h := h s2 es2
            exact w_vret rfl ⟨rfl, rfl, h⟩
    · have h := h.2 e
      refine w_aload (p' := 22) rfl rfl rfl rfl ?_
      refine w_getR (p' := 25) rfl rfl rfl rfl rfl ?_
      refine w_iload (p' := 26) rfl rfl rfl rfl ?_
      refine w_iald (p' := 27) (N := 600) rfl rfl rfl rfl h.1 h.2.1 ?_
      have h := h.2.2
      refine v_callI (M' := 58) (p' := 30) (rest := []) (as := [(.inl (s 117 (s 122 x1)))]) rfl rfl rfl rfl rfl rfl rfl rfl rfl rfl rfl trivial rfl h (fun r4 s3 h => ?_)
      refine w_if (t := 38) (e := 33) rfl rfl rfl (fun e => ?_) (fun e => ?_)
      · have h := h.1 e
        refine w_aload (p' := 39) rfl rfl rfl rfl ?_
        refine w_getR (p' := 42) rfl rfl rfl rfl rfl ?_
        refine w_iload (p' := 43) rfl rfl rfl rfl ?_
        refine w_iald (p' := 44) (N := 600) rfl rfl rfl rfl h.1 h.2.1 ?_
        have h := h.2.2
        refine w_istore (p' := 45) (ls' := [some (.inr (.inr (.inl (some 113)))), some (.inl x1), some (.inl x2), some (.inl (s3 122 x2))]) rfl rfl rfl (Nat.le_of_ble_eq_true rfl) rfl ?_
        refine w_iload (p' := 46) rfl rfl rfl rfl ?_
        refine w_const (p' := 47) rfl rfl rfl ?_
        refine w_icmp (t := 77) (e := 50) rfl rfl rfl (fun e => ?_) (fun e => ?_)
        · have h := h.1 e
          exact w_vret rfl ⟨rfl, rfl, h⟩
        · have h := h.2 e
          refine w_aload (p' := 51) rfl rfl rfl rfl ?_
          refine w_getR (p' := 54) rfl rfl rfl rfl rfl ?_
          refine w_iload (p' := 55) rfl rfl rfl rfl ?_
          refine w_bald (p' := 56) (N := 600) rfl rfl rfl rfl h.1 h.2.1 ?_
          have h := h.2.2
          refine w_if (t := 77) (e := 59) rfl rfl rfl (fun e => ?_) (fun e => ?_)
          · have h := h.1 e
            exact w_vret rfl ⟨rfl, rfl, h⟩
          · have h := h.2 e
            refine w_aload (p' := 60) rfl rfl rfl rfl ?_
            refine w_getR (p' := 63) rfl rfl rfl rfl rfl ?_
            refine w_iload (p' := 64) rfl rfl rfl rfl ?_
            refine w_iald (p' := 65) (N := 600) rfl rfl rfl rfl h.1 h.2.1 ?_
            have h := h.2.2
            refine w_const (p' := 67) rfl rfl rfl ?_
            refine w_icmp (t := 77) (e := 70) rfl rfl rfl (fun e => ?_) (fun e => ?_)
            · have h := h.1 e
              exact w_vret rfl ⟨rfl, rfl, h⟩
            · have h := h.2 e
              refine w_aload (p' := 71) rfl rfl rfl rfl ?_
              refine w_getR (p' := 74) rfl rfl rfl rfl rfl ?_
              refine w_iload (p' := 75) rfl rfl rfl rfl ?_
              refine w_const (p' := 76) rfl rfl rfl ?_
              refine v_bast (p' := 77) (N := 600) rfl rfl rfl rfl h.1 h.2.1 (by decide) (by decide) ?_
              have h := h.2.2
              intro s5 es5
              have h := h s5 es5
              exact w_vret rfl ⟨rfl, rfl, h⟩
      · have h := h.2 e
        refine w_aload (p' := 34) rfl rfl rfl rfl ?_
        refine w_iload (p' := 35) rfl rfl rfl rfl ?_
        refine v_callV (M' := 73) (p' := 38) (rest := []) (as := [(.inr (.inr (.inl (some 113)))), (.inl (s 122 x1))]) rfl rfl rfl rfl rfl rfl rfl rfl rfl rfl rfl rfl rfl h (fun s6 h => ?_)
        refine w_aload (p' := 39) rfl rfl rfl rfl ?_
        refine w_getR (p' := 42) rfl rfl rfl rfl rfl ?_
        refine w_iload (p' := 43) rfl rfl rfl rfl ?_
        refine w_iald (p' := 44) (N := 600) rfl rfl rfl rfl h.1 h.2.1 ?_
        have h := h.2.2
        refine w_istore (p' := 45) (ls' := [some (.inr (.inr (.inl (some 113)))), some (.inl x1), some (.inl x2), some (.inl (s6 122 x2))]) rfl rfl rfl (Nat.le_of_ble_eq_true rfl) rfl ?_
        refine w_iload (p' := 46) rfl rfl rfl rfl ?_
        refine w_const (p' := 47) rfl rfl rfl ?_
        refine w_icmp (t := 77) (e := 50) rfl rfl rfl (fun e => ?_) (fun e => ?_)
        · have h := h.1 e
          exact w_vret rfl ⟨rfl, rfl, h⟩
        · have h := h.2 e
          refine w_aload (p' := 51) rfl rfl rfl rfl ?_
          refine w_getR (p' := 54) rfl rfl rfl rfl rfl ?_
          refine w_iload (p' := 55) rfl rfl rfl rfl ?_
          refine w_bald (p' := 56) (N := 600) rfl rfl rfl rfl h.1 h.2.1 ?_
          have h := h.2.2
          refine w_if (t := 77) (e := 59) rfl rfl rfl (fun e => ?_) (fun e => ?_)
          · have h := h.1 e
            exact w_vret rfl ⟨rfl, rfl, h⟩
          · have h := h.2 e
            refine w_aload (p' := 60) rfl rfl rfl rfl ?_
            refine w_getR (p' := 63) rfl rfl rfl rfl rfl ?_
            refine w_iload (p' := 64) rfl rfl rfl rfl ?_
            refine w_iald (p' := 65) (N := 600) rfl rfl rfl rfl h.1 h.2.1 ?_
            have h := h.2.2
            refine w_const (p' := 67) rfl rfl rfl ?_
            refine w_icmp (t := 77) (e := 70) rfl rfl rfl (fun e => ?_) (fun e => ?_)
            · have h := h.1 e
              exact w_vret rfl ⟨rfl, rfl, h⟩
            · have h := h.2 e
              refine w_aload (p' := 71) rfl rfl rfl rfl ?_
              refine w_getR (p' := 74) rfl rfl rfl rfl rfl ?_
              refine w_iload (p' := 75) rfl rfl rfl rfl ?_
              refine w_const (p' := 76) rfl rfl rfl ?_
              refine v_bast (p' := 77) (N := 600) rfl rfl rfl rfl h.1 h.2.1 (by decide) (by decide) ?_
              have h := h.2.2
              intro s7 es7
              have h := h s7 es7
              exact w_vret rfl ⟨rfl, rfl, h⟩
set_option maxRecDepth 20000 in
theorem sg_m_blocks {X : Nat × (Nat → Int32)}  {s : qM} {K : qM → Prop} (h : (∀ s1 : qM, s1 = q_up s 117 0 0 → (∀ s2 : qM, s2 = q_up s1 118 0 (-1) → (∀ s3 : qM, s3 = q_up s2 119 0 1 → (∀ s4 : qM, s4 = q_up s3 122 0 (-1) → (∀ s5 : qM, s5 = q_up s4 123 0 0 → (∀ s6 : qM, s6 = q_up s5 113 4 1 → (∀ s7 : qM, s7 = q_up s6 113 17 0 → (∀ s8 : qM, s8 = q_up s7 113 48 0 → L_m_blocks_52 X 0 s8 K))))))))) : c_m_blocks X  s K := by
  unfold c_m_blocks
  refine w_aload (p' := 1) rfl rfl rfl rfl ?_
  refine w_getR (p' := 4) rfl rfl rfl rfl rfl ?_
  refine w_const (p' := 5) rfl rfl rfl ?_
  refine w_const (p' := 6) rfl rfl rfl ?_
  refine v_iast (p' := 7) (N := 600) rfl rfl rfl rfl (by decide) (by decide)  ?_
  intro s1 es1
  have h := h s1 es1
  refine w_aload (p' := 8) rfl rfl rfl rfl ?_
  refine w_getR (p' := 11) rfl rfl rfl rfl rfl ?_
  refine w_const (p' := 12) rfl rfl rfl ?_
  refine w_const (p' := 13) rfl rfl rfl ?_
  refine v_iast (p' := 14) (N := 600) rfl rfl rfl rfl (by decide) (by decide)  ?_
  intro s2 es2
  have h := h s2 es2
  refine w_aload (p' := 15) rfl rfl rfl rfl ?_
  refine w_getR (p' := 18) rfl rfl rfl rfl rfl ?_
  refine w_const (p' := 19) rfl rfl rfl ?_
  refine w_const (p' := 20) rfl rfl rfl ?_
  refine v_bast (p' := 21) (N := 600) rfl rfl rfl rfl (by decide) (by decide) (by decide) (by decide) ?_
  intro s3 es3
  have h := h s3 es3
  refine w_aload (p' := 22) rfl rfl rfl rfl ?_
  refine w_getR (p' := 25) rfl rfl rfl rfl rfl ?_
  refine w_const (p' := 26) rfl rfl rfl ?_
  refine w_const (p' := 27) rfl rfl rfl ?_
  refine v_iast (p' := 28) (N := 600) rfl rfl rfl rfl (by decide) (by decide)  ?_
  intro s4 es4
  have h := h s4 es4
  refine w_aload (p' := 29) rfl rfl rfl rfl ?_
  refine w_getR (p' := 32) rfl rfl rfl rfl rfl ?_
  refine w_const (p' := 33) rfl rfl rfl ?_
  refine w_const (p' := 34) rfl rfl rfl ?_
  refine v_iast (p' := 35) (N := 600) rfl rfl rfl rfl (by decide) (by decide)  ?_
  intro s5 es5
  have h := h s5 es5
  refine w_aload (p' := 36) rfl rfl rfl rfl ?_
  refine w_const (p' := 37) rfl rfl rfl ?_
  refine v_putI (p' := 40) (j := 4) rfl rfl (by decide) rfl rfl trivial ?_
  intro s6 es6
  have h := h s6 es6
  refine w_aload (p' := 41) rfl rfl rfl rfl ?_
  refine w_const (p' := 42) rfl rfl rfl ?_
  refine v_putI (p' := 45) (j := 17) rfl rfl (by decide) rfl rfl trivial ?_
  intro s7 es7
  have h := h s7 es7
  refine w_aload (p' := 46) rfl rfl rfl rfl ?_
  refine w_const (p' := 47) rfl rfl rfl ?_
  refine v_putI (p' := 50) (j := 48) rfl rfl (by decide) rfl rfl ⟨by decide, by decide⟩ ?_
  intro s8 es8
  have h := h s8 es8
  refine w_const (p' := 51) rfl rfl rfl ?_
  refine w_istore (p' := 52) (ls' := [some (.inr (.inr (.inl (some 113)))), some (.inl 0)]) rfl rfl rfl (Nat.le_of_ble_eq_true rfl) rfl ?_
  exact w_cut (q_le_s (q_le_s q_le_z)) h
set_option maxRecDepth 20000 in
theorem sg_m_blocks_52 {X : Nat × (Nat → Int32)}  {v1 : Int} {s : qM} {K : qM → Prop} (h : ((((s 113 0) < v1) → K s) ∧ (¬ ((s 113 0) < v1) → c_m_looksAt X v1 s (fun s1 => c_m_endOf X v1 s1 (fun r3 s2 => (-2147483648 ≤ (r3 + 1) ∧ (r3 + 1) < 2147483648) ∧ L_m_blocks_52 X (r3 + 1) s2 K))))) : L_m_blocks_52 X v1 s K := by
  unfold L_m_blocks_52
  refine w_iload (p' := 53) rfl rfl rfl rfl ?_
  refine w_aload (p' := 54) rfl rfl rfl rfl ?_
  refine w_getI (p' := 57) (j := 0) rfl rfl (by decide) rfl rfl ?_
  refine w_icmp (t := 76) (e := 60) rfl rfl rfl (fun e => ?_) (fun e => ?_)
  · have h := h.1 e
    exact w_vret rfl ⟨rfl, rfl, h⟩
  · have h := h.2 e
    refine w_aload (p' := 61) rfl rfl rfl rfl ?_
    refine w_iload (p' := 62) rfl rfl rfl rfl ?_
    refine v_callV (M' := 74) (p' := 65) (rest := []) (as := [(.inr (.inr (.inl (some 113)))), (.inl v1)]) rfl rfl rfl rfl rfl rfl rfl rfl rfl rfl rfl rfl rfl h (fun s1 h => ?_)
    refine w_aload (p' := 66) rfl rfl rfl rfl ?_
    refine w_iload (p' := 67) rfl rfl rfl rfl ?_
    refine v_callI (M' := 56) (p' := 70) (rest := []) (as := [(.inr (.inr (.inl (some 113)))), (.inl v1)]) rfl rfl rfl rfl rfl rfl rfl rfl rfl rfl rfl rfl rfl h (fun r3 s2 h => ?_)
    refine w_const (p' := 71) rfl rfl rfl ?_
    refine w_add (p' := 72) rfl rfl h.1 ?_
    have h := h.2
    refine w_istore (p' := 73) (ls' := [some (.inr (.inr (.inl (some 113)))), some (.inl (r3 + 1))]) rfl rfl rfl (Nat.le_of_ble_eq_true rfl) rfl ?_
    refine w_goto (p' := 52) rfl rfl ?_
    exact w_cut (q_le_s (q_le_s q_le_z)) h
set_option maxRecDepth 20000 in
theorem sg_m_laysInline {X : Nat × (Nat → Int32)} {x1 : Int} {s : qM} {K : qM → Prop} (h : (∀ s1 : qM, s1 = q_up s 113 28 0 → L_m_laysInline_7 X x1 0 s1 K)) : c_m_laysInline X x1 s K := by
  unfold c_m_laysInline
  refine w_aload (p' := 1) rfl rfl rfl rfl ?_
  refine w_const (p' := 2) rfl rfl rfl ?_
  refine v_putI (p' := 5) (j := 28) rfl rfl (by decide) rfl rfl trivial ?_
  intro s1 es1
  have h := h s1 es1
  refine w_const (p' := 6) rfl rfl rfl ?_
  refine w_istore (p' := 7) (ls' := [some (.inr (.inr (.inl (some 113)))), some (.inl x1), some (.inl 0), none, none, none]) rfl rfl rfl (Nat.le_of_ble_eq_true rfl) rfl ?_
  exact w_cut (q_le_s (q_le_s (q_le_s (q_le_n (q_le_n (q_le_n q_le_z)))))) h
set_option maxRecDepth 20000 in
theorem sg_m_laysInline_7 {X : Nat × (Nat → Int32)}  {v1 v2 : Int} {s : qM} {K : qM → Prop} (h : ((((s 113 17) ≤ v2) → K s) ∧ (¬ ((s 113 17) ≤ v2) → ((0 : Int) ≤ v2) ∧ (v2 < (241 : Int)) ∧ ((((s 124 v2) ≠ v1) → (-2147483648 ≤ (v2 + 1) ∧ (v2 + 1) < 2147483648) ∧ L_m_laysInline_7 X v1 (v2 + 1) s K) ∧ (¬ ((s 124 v2) ≠ v1) → (((0 < (s 113 28)) → ((0 : Int) ≤ (s 113 28)) ∧ ((s 113 28) < (241 : Int)) ∧ (∀ s1 : qM, s1 = q_up s 138 (s 113 28) 10 → (-2147483648 ≤ ((s1 113 28) + 1) ∧ ((s1 113 28) + 1) < 2147483648) ∧ (∀ s2 : qM, s2 = q_up s1 113 28 ((s1 113 28) + 1) → ((0 : Int) ≤ v2) ∧ (v2 < (241 : Int)) ∧ ((0 : Int) ≤ v2) ∧ (v2 < (241 : Int)) ∧ c_m_trimmed X (s2 125 v2) (s2 126 v2) s2 (fun r4 s3 => ((0 : Int) ≤ v2) ∧ (v2 < (241 : Int)) ∧ L_m_laysInline_87 X v1 v2 r4 (s3 125 v2) s3 K)))) ∧ (¬ (0 < (s 113 28)) → ((0 : Int) ≤ v2) ∧ (v2 < (241 : Int)) ∧ (((0 ≤ (s 125 v2)) → ((0 : Int) ≤ v2) ∧ (v2 < (241 : Int)) ∧ ((0 : Int) ≤ v2) ∧ (v2 < (241 : Int)) ∧ c_m_trimmed X (s 125 v2) (s 126 v2) s (fun r6 s5 => ((0 : Int) ≤ v2) ∧ (v2 < (241 : Int)) ∧ L_m_laysInline_87 X v1 v2 r6 (s5 125 v2) s5 K)) ∧ (¬ (0 ≤ (s 125 v2)) → ((0 : Int) ≤ (s 113 28)) ∧ ((s 113 28) < (241 : Int)) ∧ (∀ s7 : qM, s7 = q_up s 138 (s 113 28) 10 → (-2147483648 ≤ ((s7 113 28) + 1) ∧ ((s7 113 28) + 1) < 2147483648) ∧ (∀ s8 : qM, s8 = q_up s7 113 28 ((s7 113 28) + 1) → ((0 : Int) ≤ v2) ∧ (v2 < (241 : Int)) ∧ ((0 : Int) ≤ v2) ∧ (v2 < (241 : Int)) ∧ c_m_trimmed X (s8 125 v2) (s8 126 v2) s8 (fun r10 s9 => ((0 : Int) ≤ v2) ∧ (v2 < (241 : Int)) ∧ L_m_laysInline_87 X v1 v2 r10 (s9 125 v2) s9 K)))))))))))) : L_m_laysInline_7 X v1 v2 s K := by
  unfold L_m_laysInline_7
  refine w_iload (p' := 8) rfl rfl rfl rfl ?_
  refine w_aload (p' := 9) rfl rfl rfl rfl ?_
  refine w_getI (p' := 12) (j := 17) rfl rfl (by decide) rfl rfl ?_
  refine w_icmp (t := 159) (e := 15) rfl rfl rfl (fun e => ?_) (fun e => ?_)
  · have h := h.1 e
    exact w_vret rfl ⟨rfl, rfl, h⟩
  · have h := h.2 e
    refine w_aload (p' := 16) rfl rfl rfl rfl ?_
    refine w_getR (p' := 19) rfl rfl rfl rfl rfl ?_
    refine w_iload (p' := 20) rfl rfl rfl rfl ?_
    refine w_iald (p' := 21) (N := 241) rfl rfl rfl rfl h.1 h.2.1 ?_
    have h := h.2.2
    refine w_iload (p' := 22) rfl rfl rfl rfl ?_
    refine w_icmp (t := 153) (e := 25) rfl rfl rfl (fun e => ?_) (fun e => ?_)
    · have h := h.1 e
      refine w_iinc (p' := 156) (ls' := [some (.inr (.inr (.inl (some 113)))), some (.inl v1), some (.inl (v2 + 1)), none, none, none]) rfl rfl rfl (Nat.le_of_ble_eq_true rfl) h.1 rfl ?_
      have h := h.2
      refine w_goto (p' := 7) rfl rfl ?_
      exact w_cut (q_le_s (q_le_s (q_le_s (q_le_n (q_le_n (q_le_n q_le_z)))))) h
    · have h := h.2 e
      refine w_aload (p' := 26) rfl rfl rfl rfl ?_
      refine w_getI (p' := 29) (j := 28) rfl rfl (by decide) rfl rfl ?_
      refine w_if (t := 41) (e := 32) rfl rfl rfl (fun e => ?_) (fun e => ?_)
      · have h := h.1 e
        refine w_aload (p' := 42) rfl rfl rfl rfl ?_
        refine w_getR (p' := 45) rfl rfl rfl rfl rfl ?_
        refine w_aload (p' := 46) rfl rfl rfl rfl ?_
        refine w_getI (p' := 49) (j := 28) rfl rfl (by decide) rfl rfl ?_
        refine w_const (p' := 51) rfl rfl rfl ?_
        refine v_iast (p' := 52) (N := 241) rfl rfl rfl rfl h.1 h.2.1  ?_
        have h := h.2.2
        intro s1 es1
        have h := h s1 es1
        refine w_aload (p' := 53) rfl rfl rfl rfl ?_
        refine w_dup (p' := 54) rfl rfl rfl ?_
        refine w_getI (p' := 57) (j := 28) rfl rfl (by decide) rfl rfl ?_
        refine w_const (p' := 58) rfl rfl rfl ?_
        refine w_add (p' := 59) rfl rfl h.1 ?_
        have h := h.2
        refine v_putI (p' := 62) (j := 28) rfl rfl (by decide) rfl rfl trivial ?_
        intro s2 es2
        have h := h s2 es2
        refine w_aload (p' := 63) rfl rfl rfl rfl ?_
        refine w_aload (p' := 64) rfl rfl rfl rfl ?_
        refine w_getR (p' := 67) rfl rfl rfl rfl rfl ?_
        refine w_iload (p' := 68) rfl rfl rfl rfl ?_
        refine w_iald (p' := 69) (N := 241) rfl rfl rfl rfl h.1 h.2.1 ?_
        have h := h.2.2
        refine w_aload (p' := 70) rfl rfl rfl rfl ?_
        refine w_getR (p' := 73) rfl rfl rfl rfl rfl ?_
        refine w_iload (p' := 74) rfl rfl rfl rfl ?_
        refine w_iald (p' := 75) (N := 241) rfl rfl rfl rfl h.1 h.2.1 ?_
        have h := h.2.2
        refine v_callI (M' := 65) (p' := 78) (rest := []) (as := [(.inr (.inr (.inl (some 113)))), (.inl (s2 125 v2)), (.inl (s2 126 v2))]) rfl rfl rfl rfl rfl rfl rfl rfl rfl rfl rfl rfl rfl h (fun r4 s3 h => ?_)
        refine w_istore (p' := 79) (ls' := [some (.inr (.inr (.inl (some 113)))), some (.inl v1), some (.inl v2), some (.inl r4), none, none]) rfl rfl rfl (Nat.le_of_ble_eq_true rfl) rfl ?_
        refine w_aload (p' := 80) rfl rfl rfl rfl ?_
        refine w_getR (p' := 83) rfl rfl rfl rfl rfl ?_
        refine w_iload (p' := 84) rfl rfl rfl rfl ?_
        refine w_iald (p' := 85) (N := 241) rfl rfl rfl rfl h.1 h.2.1 ?_
        have h := h.2.2
        refine w_istore (p' := 87) (ls' := [some (.inr (.inr (.inl (some 113)))), some (.inl v1), some (.inl v2), some (.inl r4), some (.inl (s3 125 v2)), none]) rfl rfl rfl (Nat.le_of_ble_eq_true rfl) rfl ?_
        exact w_cut (q_le_s (q_le_s (q_le_s (q_le_s (q_le_s (q_le_n q_le_z)))))) h
      · have h := h.2 e
        refine w_aload (p' := 33) rfl rfl rfl rfl ?_
        refine w_getR (p' := 36) rfl rfl rfl rfl rfl ?_
        refine w_iload (p' := 37) rfl rfl rfl rfl ?_
        refine w_iald (p' := 38) (N := 241) rfl rfl rfl rfl h.1 h.2.1 ?_
        have h := h.2.2
        refine w_if (t := 62) (e := 41) rfl rfl rfl (fun e => ?_) (fun e => ?_)
        · have h := h.1 e
          refine w_aload (p' := 63) rfl rfl rfl rfl ?_
          refine w_aload (p' := 64) rfl rfl rfl rfl ?_
          refine w_getR (p' := 67) rfl rfl rfl rfl rfl ?_
          refine w_iload (p' := 68) rfl rfl rfl rfl ?_
          refine w_iald (p' := 69) (N := 241) rfl rfl rfl rfl h.1 h.2.1 ?_
          have h := h.2.2
          refine w_aload (p' := 70) rfl rfl rfl rfl ?_
          refine w_getR (p' := 73) rfl rfl rfl rfl rfl ?_
          refine w_iload (p' := 74) rfl rfl rfl rfl ?_
          refine w_iald (p' := 75) (N := 241) rfl rfl rfl rfl h.1 h.2.1 ?_
          have h := h.2.2
          refine v_callI (M' := 65) (p' := 78) (rest := []) (as := [(.inr (.inr (.inl (some 113)))), (.inl (s 125 v2)), (.inl (s 126 v2))]) rfl rfl rfl rfl rfl rfl rfl rfl rfl rfl rfl rfl rfl h (fun r6 s5 h => ?_)
          refine w_istore (p' := 79) (ls' := [some (.inr (.inr (.inl (some 113)))), some (.inl v1), some (.inl v2), some (.inl r6), none, none]) rfl rfl rfl (Nat.le_of_ble_eq_true rfl) rfl ?_
          refine w_aload (p' := 80) rfl rfl rfl rfl ?_
          refine w_getR (p' := 83) rfl rfl rfl rfl rfl ?_
          refine w_iload (p' := 84) rfl rfl rfl rfl ?_
          refine w_iald (p' := 85) (N := 241) rfl rfl rfl rfl h.1 h.2.1 ?_
          have h := h.2.2
          refine w_istore (p' := 87) (ls' := [some (.inr (.inr (.inl (some 113)))), some (.inl v1), some (.inl v2), some (.inl r6), some (.inl (s5 125 v2)), none]) rfl rfl rfl (Nat.le_of_ble_eq_true rfl) rfl ?_
          exact w_cut (q_le_s (q_le_s (q_le_s (q_le_s (q_le_s (q_le_n q_le_z)))))) h
        · have h := h.2 e
          refine w_aload (p' := 42) rfl rfl rfl rfl ?_
          refine w_getR (p' := 45) rfl rfl rfl rfl rfl ?_
          refine w_aload (p' := 46) rfl rfl rfl rfl ?_
          refine w_getI (p' := 49) (j := 28) rfl rfl (by decide) rfl rfl ?_
          refine w_const (p' := 51) rfl rfl rfl ?_
          refine v_iast (p' := 52) (N := 241) rfl rfl rfl rfl h.1 h.2.1  ?_
          have h := h.2.2
          intro s7 es7
          have h := h s7 es7
          refine w_aload (p' := 53) rfl rfl rfl rfl ?_
          refine w_dup (p' := 54) rfl rfl rfl ?_
          refine w_getI (p' := 57) (j := 28) rfl rfl (by decide) rfl rfl ?_
          refine w_const (p' := 58) rfl rfl rfl ?_
          refine w_add (p' := 59) rfl rfl h.1 ?_
          have h := h.2
          refine v_putI (p' := 62) (j := 28) rfl rfl (by decide) rfl rfl trivial ?_
          intro s8 es8
          have h := h s8 es8
          refine w_aload (p' := 63) rfl rfl rfl rfl ?_
          refine w_aload (p' := 64) rfl rfl rfl rfl ?_
          refine w_getR (p' := 67) rfl rfl rfl rfl rfl ?_
          refine w_iload (p' := 68) rfl rfl rfl rfl ?_
          refine w_iald (p' := 69) (N := 241) rfl rfl rfl rfl h.1 h.2.1 ?_
          have h := h.2.2
          refine w_aload (p' := 70) rfl rfl rfl rfl ?_
          refine w_getR (p' := 73) rfl rfl rfl rfl rfl ?_
          refine w_iload (p' := 74) rfl rfl rfl rfl ?_
          refine w_iald (p' := 75) (N := 241) rfl rfl rfl rfl h.1 h.2.1 ?_
          have h := h.2.2
          refine v_callI (M' := 65) (p' := 78) (rest := []) (as := [(.inr (.inr (.inl (some 113)))), (.inl (s8 125 v2)), (.inl (s8 126 v2))]) rfl rfl rfl rfl rfl rfl rfl rfl rfl rfl rfl rfl rfl h (fun r10 s9 h => ?_)
          refine w_istore (p' := 79) (ls' := [some (.inr (.inr (.inl (some 113)))), some (.inl v1), some (.inl v2), some (.inl r10), none, none]) rfl rfl rfl (Nat.le_of_ble_eq_true rfl) rfl ?_
          refine w_aload (p' := 80) rfl rfl rfl rfl ?_
          refine w_getR (p' := 83) rfl rfl rfl rfl rfl ?_
          refine w_iload (p' := 84) rfl rfl rfl rfl ?_
          refine w_iald (p' := 85) (N := 241) rfl rfl rfl rfl h.1 h.2.1 ?_
          have h := h.2.2
          refine w_istore (p' := 87) (ls' := [some (.inr (.inr (.inl (some 113)))), some (.inl v1), some (.inl v2), some (.inl r10), some (.inl (s9 125 v2)), none]) rfl rfl rfl (Nat.le_of_ble_eq_true rfl) rfl ?_
          exact w_cut (q_le_s (q_le_s (q_le_s (q_le_s (q_le_s (q_le_n q_le_z)))))) h
set_option maxRecDepth 20000 in
theorem sg_m_laysInline_87 {X : Nat × (Nat → Int32)}  {v1 v2 v3 v4 : Int} {s : qM} {K : qM → Prop} (h : (((v3 ≤ v4) → L_m_laysInline_115 X v1 v2 v3 v4 s K) ∧ (¬ (v3 ≤ v4) → ((0 : Int) ≤ v4) ∧ (v4 < (240 : Int)) ∧ ((((s 114 v4) ≠ 32) → L_m_laysInline_115 X v1 v2 v3 v4 s K) ∧ (¬ ((s 114 v4) ≠ 32) → (-2147483648 ≤ (v4 + 1) ∧ (v4 + 1) < 2147483648) ∧ L_m_laysInline_87 X v1 v2 v3 (v4 + 1) s K))))) : L_m_laysInline_87 X v1 v2 v3 v4 s K := by
  unfold L_m_laysInline_87
  refine w_iload (p' := 89) rfl rfl rfl rfl ?_
  refine w_iload (p' := 90) rfl rfl rfl rfl ?_
  refine w_icmp (t := 111) (e := 93) rfl rfl rfl (fun e => ?_) (fun e => ?_)
  · have h := h.1 e
    refine w_iload (p' := 113) rfl rfl rfl rfl ?_
    refine w_istore (p' := 115) (ls' := [some (.inr (.inr (.inl (some 113)))), some (.inl v1), some (.inl v2), some (.inl v3), some (.inl v4), some (.inl v4)]) rfl rfl rfl (Nat.le_of_ble_eq_true rfl) rfl ?_
    exact w_cut (q_le_s (q_le_s (q_le_s (q_le_s (q_le_n (q_le_s q_le_z)))))) h
  · have h := h.2 e
    refine w_aload (p' := 94) rfl rfl rfl rfl ?_
    refine w_getR (p' := 97) rfl rfl rfl rfl rfl ?_
    refine w_iload (p' := 99) rfl rfl rfl rfl ?_
    refine w_iald (p' := 100) (N := 240) rfl rfl rfl rfl h.1 h.2.1 ?_
    have h := h.2.2
    refine w_const (p' := 102) rfl rfl rfl ?_
    refine w_icmp (t := 111) (e := 105) rfl rfl rfl (fun e => ?_) (fun e => ?_)
    · have h := h.1 e
      refine w_iload (p' := 113) rfl rfl rfl rfl ?_
      refine w_istore (p' := 115) (ls' := [some (.inr (.inr (.inl (some 113)))), some (.inl v1), some (.inl v2), some (.inl v3), some (.inl v4), some (.inl v4)]) rfl rfl rfl (Nat.le_of_ble_eq_true rfl) rfl ?_
      exact w_cut (q_le_s (q_le_s (q_le_s (q_le_s (q_le_n (q_le_s q_le_z)))))) h
    · have h := h.2 e
      refine w_iinc (p' := 108) (ls' := [some (.inr (.inr (.inl (some 113)))), some (.inl v1), some (.inl v2), some (.inl v3), some (.inl (v4 + 1)), none]) rfl rfl rfl (Nat.le_of_ble_eq_true rfl) h.1 rfl ?_
      have h := h.2
      refine w_goto (p' := 87) rfl rfl ?_
      exact w_cut (q_le_s (q_le_s (q_le_s (q_le_s (q_le_s (q_le_n q_le_z)))))) h
set_option maxRecDepth 20000 in
theorem sg_m_laysInline_115 {X : Nat × (Nat → Int32)}  {v1 v2 v3 v5 : Int} {s : qM} {K : qM → Prop} (h : (((v3 ≤ v5) → (-2147483648 ≤ (v2 + 1) ∧ (v2 + 1) < 2147483648) ∧ L_m_laysInline_7 X v1 (v2 + 1) s K) ∧ (¬ (v3 ≤ v5) → ((0 : Int) ≤ v5) ∧ (v5 < (240 : Int)) ∧ ((0 : Int) ≤ (s 113 28)) ∧ ((s 113 28) < (241 : Int)) ∧ (∀ s1 : qM, s1 = q_up s 138 (s 113 28) (s 114 v5) → (-2147483648 ≤ ((s1 113 28) + 1) ∧ ((s1 113 28) + 1) < 2147483648) ∧ (∀ s2 : qM, s2 = q_up s1 113 28 ((s1 113 28) + 1) → (-2147483648 ≤ (v5 + 1) ∧ (v5 + 1) < 2147483648) ∧ L_m_laysInline_115 X v1 v2 v3 (v5 + 1) s2 K))))) : L_m_laysInline_115 X v1 v2 v3 v5 s K := by
  unfold L_m_laysInline_115
  refine w_iload (p' := 117) rfl rfl rfl rfl ?_
  refine w_iload (p' := 118) rfl rfl rfl rfl ?_
  refine w_icmp (t := 153) (e := 121) rfl rfl rfl (fun e => ?_) (fun e => ?_)
  · have h := h.1 e
    refine w_iinc (p' := 156) (ls' := [some (.inr (.inr (.inl (some 113)))), some (.inl v1), some (.inl (v2 + 1)), some (.inl v3), none, some (.inl v5)]) rfl rfl rfl (Nat.le_of_ble_eq_true rfl) h.1 rfl ?_
    have h := h.2
    refine w_goto (p' := 7) rfl rfl ?_
    exact w_cut (q_le_s (q_le_s (q_le_s (q_le_n (q_le_n (q_le_n q_le_z)))))) h
  · have h := h.2 e
    refine w_aload (p' := 122) rfl rfl rfl rfl ?_
    refine w_getR (p' := 125) rfl rfl rfl rfl rfl ?_
    refine w_aload (p' := 126) rfl rfl rfl rfl ?_
    refine w_getI (p' := 129) (j := 28) rfl rfl (by decide) rfl rfl ?_
    refine w_aload (p' := 130) rfl rfl rfl rfl ?_
    refine w_getR (p' := 133) rfl rfl rfl rfl rfl ?_
    refine w_iload (p' := 135) rfl rfl rfl rfl ?_
    refine w_iald (p' := 136) (N := 240) rfl rfl rfl rfl h.1 h.2.1 ?_
    have h := h.2.2
    refine v_iast (p' := 137) (N := 241) rfl rfl rfl rfl h.1 h.2.1  ?_
    have h := h.2.2
    intro s1 es1
    have h := h s1 es1
    refine w_aload (p' := 138) rfl rfl rfl rfl ?_
    refine w_dup (p' := 139) rfl rfl rfl ?_
    refine w_getI (p' := 142) (j := 28) rfl rfl (by decide) rfl rfl ?_
    refine w_const (p' := 143) rfl rfl rfl ?_
    refine w_add (p' := 144) rfl rfl h.1 ?_
    have h := h.2
    refine v_putI (p' := 147) (j := 28) rfl rfl (by decide) rfl rfl trivial ?_
    intro s2 es2
    have h := h s2 es2
    refine w_iinc (p' := 150) (ls' := [some (.inr (.inr (.inl (some 113)))), some (.inl v1), some (.inl v2), some (.inl v3), none, some (.inl (v5 + 1))]) rfl rfl rfl (Nat.le_of_ble_eq_true rfl) h.1 rfl ?_
    have h := h.2
    refine w_goto (p' := 115) rfl rfl ?_
    exact w_cut (q_le_s (q_le_s (q_le_s (q_le_s (q_le_n (q_le_s q_le_z)))))) h
set_option maxRecDepth 20000 in
theorem sg_m_in {X : Nat × (Nat → Int32)} {x1 : Int} {s : qM} {K : Int → qM → Prop} (h : (-2147483648 ≤ ((s 113 28) - 1) ∧ ((s 113 28) - 1) < 2147483648) ∧ c_m_isIn X x1 0 ((s 113 28) - 1) s (fun r2 s1 => (((r2 = 0) → K (-1) s1) ∧ (¬ (r2 = 0) → ((0 : Int) ≤ x1) ∧ (x1 < (241 : Int)) ∧ K (s1 138 x1) s1)))) : c_m_in X x1 s K := by
  unfold c_m_in
  refine w_iload (p' := 1) rfl rfl rfl rfl ?_
  refine w_const (p' := 2) rfl rfl rfl ?_
  refine w_aload (p' := 3) rfl rfl rfl rfl ?_
  refine w_getI (p' := 6) (j := 28) rfl rfl (by decide) rfl rfl ?_
  refine w_const (p' := 7) rfl rfl rfl ?_
  refine w_sub (p' := 8) rfl rfl h.1 ?_
  have h := h.2
  refine v_callI (M' := 47) (p' := 11) (rest := []) (as := [(.inl x1), (.inl 0), (.inl ((s 113 28) - 1))]) rfl rfl rfl rfl rfl rfl rfl rfl rfl rfl rfl trivial rfl h (fun r2 s1 h => ?_)
  refine w_if (t := 23) (e := 14) rfl rfl rfl (fun e => ?_) (fun e => ?_)
  · have h := h.1 e
    refine w_const (p' := 24) rfl rfl rfl ?_
    exact w_iret rfl trivial ⟨rfl, _, rfl, h⟩
  · have h := h.2 e
    refine w_aload (p' := 15) rfl rfl rfl rfl ?_
    refine w_getR (p' := 18) rfl rfl rfl rfl rfl ?_
    refine w_iload (p' := 19) rfl rfl rfl rfl ?_
    refine w_iald (p' := 20) (N := 241) rfl rfl rfl rfl h.1 h.2.1 ?_
    have h := h.2.2
    refine w_goto (p' := 24) rfl rfl ?_
    exact w_iret rfl trivial ⟨rfl, _, rfl, h⟩
set_option maxRecDepth 20000 in
theorem sg_m_isEdge {X : Nat × (Nat → Int32)} {x1 : Int} {s : qM} {K : Int → qM → Prop} (h : (((x1 = (-1)) → K 1 s) ∧ (¬ (x1 = (-1)) → (((x1 = 32) → K 1 s) ∧ (¬ (x1 = 32) → (((x1 ≠ 10) → K 0 s) ∧ (¬ (x1 ≠ 10) → K 1 s))))))) : c_m_isEdge X x1 s K := by
  unfold c_m_isEdge
  refine w_iload (p' := 1) rfl rfl rfl rfl ?_
  refine w_const (p' := 2) rfl rfl rfl ?_
  refine w_icmp (t := 17) (e := 5) rfl rfl rfl (fun e => ?_) (fun e => ?_)
  · have h := h.1 e
    refine w_const (p' := 18) rfl rfl rfl ?_
    refine w_goto (p' := 22) rfl rfl ?_
    exact w_iret rfl ⟨by decide, by decide⟩ ⟨rfl, _, rfl, h⟩
  · have h := h.2 e
    refine w_iload (p' := 6) rfl rfl rfl rfl ?_
    refine w_const (p' := 8) rfl rfl rfl ?_
    refine w_icmp (t := 17) (e := 11) rfl rfl rfl (fun e => ?_) (fun e => ?_)
    · have h := h.1 e
      refine w_const (p' := 18) rfl rfl rfl ?_
      refine w_goto (p' := 22) rfl rfl ?_
      exact w_iret rfl ⟨by decide, by decide⟩ ⟨rfl, _, rfl, h⟩
    · have h := h.2 e
      refine w_iload (p' := 12) rfl rfl rfl rfl ?_
      refine w_const (p' := 14) rfl rfl rfl ?_
      refine w_icmp (t := 21) (e := 17) rfl rfl rfl (fun e => ?_) (fun e => ?_)
      · have h := h.1 e
        refine w_const (p' := 22) rfl rfl rfl ?_
        exact w_iret rfl ⟨by decide, by decide⟩ ⟨rfl, _, rfl, h⟩
      · have h := h.2 e
        refine w_const (p' := 18) rfl rfl rfl ?_
        refine w_goto (p' := 22) rfl rfl ?_
        exact w_iret rfl ⟨by decide, by decide⟩ ⟨rfl, _, rfl, h⟩
set_option maxRecDepth 20000 in
theorem sg_m_run {X : Nat × (Nat → Int32)} {x1 : Int} {s : qM} {K : Int → qM → Prop} (h : L_m_run_2 X x1 x1 s K) : c_m_run X x1 s K := by
  unfold c_m_run
  refine w_iload (p' := 1) rfl rfl rfl rfl ?_
  refine w_istore (p' := 2) (ls' := [some (.inr (.inr (.inl (some 113)))), some (.inl x1), some (.inl x1)]) rfl rfl rfl (Nat.le_of_ble_eq_true rfl) rfl ?_
  exact w_cut (q_le_s (q_le_s (q_le_s q_le_z))) h
set_option maxRecDepth 20000 in
theorem sg_m_run_2 {X : Nat × (Nat → Int32)}  {v1 v2 : Int} {s : qM} {K : Int → qM → Prop} (h : c_m_in X v2 s (fun r2 s1 => c_m_in X v1 s1 (fun r4 s3 => (((r2 ≠ r4) → (-2147483648 ≤ (v2 - v1) ∧ (v2 - v1) < 2147483648) ∧ K (v2 - v1) s3) ∧ (¬ (r2 ≠ r4) → (-2147483648 ≤ (v2 + 1) ∧ (v2 + 1) < 2147483648) ∧ L_m_run_2 X v1 (v2 + 1) s3 K))))) : L_m_run_2 X v1 v2 s K := by
  unfold L_m_run_2
  refine w_aload (p' := 3) rfl rfl rfl rfl ?_
  refine w_iload (p' := 4) rfl rfl rfl rfl ?_
  refine v_callI (M' := 78) (p' := 7) (rest := []) (as := [(.inr (.inr (.inl (some 113)))), (.inl v2)]) rfl rfl rfl rfl rfl rfl rfl rfl rfl rfl rfl rfl rfl h (fun r2 s1 h => ?_)
  refine w_aload (p' := 8) rfl rfl rfl rfl ?_
  refine w_iload (p' := 9) rfl rfl rfl rfl ?_
  refine v_callI (M' := 78) (p' := 12) (rest := [(.inl r2)]) (as := [(.inr (.inr (.inl (some 113)))), (.inl v1)]) rfl rfl rfl rfl rfl rfl rfl rfl rfl rfl rfl rfl rfl h (fun r4 s3 h => ?_)
  refine w_icmp (t := 21) (e := 15) rfl rfl rfl (fun e => ?_) (fun e => ?_)
  · have h := h.1 e
    refine w_iload (p' := 22) rfl rfl rfl rfl ?_
    refine w_iload (p' := 23) rfl rfl rfl rfl ?_
    refine w_sub (p' := 24) rfl rfl h.1 ?_
    have h := h.2
    exact w_iret rfl trivial ⟨rfl, _, rfl, h⟩
  · have h := h.2 e
    refine w_iinc (p' := 18) (ls' := [some (.inr (.inr (.inl (some 113)))), some (.inl v1), some (.inl (v2 + 1))]) rfl rfl rfl (Nat.le_of_ble_eq_true rfl) h.1 rfl ?_
    have h := h.2
    refine w_goto (p' := 2) rfl rfl ?_
    exact w_cut (q_le_s (q_le_s (q_le_s q_le_z))) h
set_option maxRecDepth 20000 in
theorem sg_m_adds {X : Nat × (Nat → Int32)} {x1 : Int} {x2 : Int} {x3 : Int} {s : qM} {K : qM → Prop} (h : ((0 : Int) ≤ (s 113 33)) ∧ ((s 113 33) < (241 : Int)) ∧ (∀ s1 : qM, s1 = q_up s 141 (s 113 33) x1 → ((0 : Int) ≤ (s1 113 33)) ∧ ((s1 113 33) < (241 : Int)) ∧ (∀ s2 : qM, s2 = q_up s1 142 (s1 113 33) x2 → ((0 : Int) ≤ (s2 113 33)) ∧ ((s2 113 33) < (241 : Int)) ∧ (∀ s3 : qM, s3 = q_up s2 143 (s2 113 33) x3 → ((0 : Int) ≤ (s3 113 33)) ∧ ((s3 113 33) < (241 : Int)) ∧ (∀ s4 : qM, s4 = q_up s3 147 (s3 113 33) 0 → (-2147483648 ≤ ((s4 113 33) + 1) ∧ ((s4 113 33) + 1) < 2147483648) ∧ (∀ s5 : qM, s5 = q_up s4 113 33 ((s4 113 33) + 1) → K s5)))))) : c_m_adds X x1 x2 x3 s K := by
  unfold c_m_adds
  refine w_aload (p' := 1) rfl rfl rfl rfl ?_
  refine w_getR (p' := 4) rfl rfl rfl rfl rfl ?_
  refine w_aload (p' := 5) rfl rfl rfl rfl ?_
  refine w_getI (p' := 8) (j := 33) rfl rfl (by decide) rfl rfl ?_
  refine w_iload (p' := 9) rfl rfl rfl rfl ?_
  refine v_iast (p' := 10) (N := 241) rfl rfl rfl rfl h.1 h.2.1  ?_
  have h := h.2.2
  intro s1 es1
  have h := h s1 es1
  refine w_aload (p' := 11) rfl rfl rfl rfl ?_
  refine w_getR (p' := 14) rfl rfl rfl rfl rfl ?_
  refine w_aload (p' := 15) rfl rfl rfl rfl ?_
  refine w_getI (p' := 18) (j := 33) rfl rfl (by decide) rfl rfl ?_
  refine w_iload (p' := 19) rfl rfl rfl rfl ?_
  refine v_iast (p' := 20) (N := 241) rfl rfl rfl rfl h.1 h.2.1  ?_
  have h := h.2.2
  intro s2 es2
  have h := h s2 es2
  refine w_aload (p' := 21) rfl rfl rfl rfl ?_
  refine w_getR (p' := 24) rfl rfl rfl rfl rfl ?_
  refine w_aload (p' := 25) rfl rfl rfl rfl ?_
  refine w_getI (p' := 28) (j := 33) rfl rfl (by decide) rfl rfl ?_
  refine w_iload (p' := 29) rfl rfl rfl rfl ?_
  refine v_iast (p' := 30) (N := 241) rfl rfl rfl rfl h.1 h.2.1  ?_
  have h := h.2.2
  intro s3 es3
  have h := h s3 es3
  refine w_aload (p' := 31) rfl rfl rfl rfl ?_
  refine w_getR (p' := 34) rfl rfl rfl rfl rfl ?_
  refine w_aload (p' := 35) rfl rfl rfl rfl ?_
  refine w_getI (p' := 38) (j := 33) rfl rfl (by decide) rfl rfl ?_
  refine w_const (p' := 39) rfl rfl rfl ?_
  refine v_bast (p' := 40) (N := 241) rfl rfl rfl rfl h.1 h.2.1 (by decide) (by decide) ?_
  have h := h.2.2
  intro s4 es4
  have h := h s4 es4
  refine w_aload (p' := 41) rfl rfl rfl rfl ?_
  refine w_dup (p' := 42) rfl rfl rfl ?_
  refine w_getI (p' := 45) (j := 33) rfl rfl (by decide) rfl rfl ?_
  refine w_const (p' := 46) rfl rfl rfl ?_
  refine w_add (p' := 47) rfl rfl h.1 ?_
  have h := h.2
  refine v_putI (p' := 50) (j := 33) rfl rfl (by decide) rfl rfl trivial ?_
  intro s5 es5
  have h := h s5 es5
  exact w_vret rfl ⟨rfl, rfl, h⟩
set_option maxRecDepth 20000 in
theorem sg_m_addsRun {X : Nat × (Nat → Int32)} {x1 : Int} {s : qM} {K : qM → Prop} (h : c_m_run X x1 s (fun r2 s1 => (-2147483648 ≤ (x1 - 1) ∧ (x1 - 1) < 2147483648) ∧ c_m_in X (x1 - 1) s1 (fun r4 s3 => (-2147483648 ≤ (x1 + r2) ∧ (x1 + r2) < 2147483648) ∧ c_m_in X (x1 + r2) s3 (fun r6 s5 => c_m_isEdge X r6 s5 (fun r8 s7 => (((r8 ≠ 0) → L_m_addsRun_66 X x1 r2 r4 r6 (s5 113 33) 0 s7 K) ∧ (¬ (r8 ≠ 0) → c_m_isSign X r6 s7 (fun r10 s9 => (((r10 = 0) → L_m_addsRun_66 X x1 r2 r4 r6 (s5 113 33) 1 s9 K) ∧ (¬ (r10 = 0) → c_m_isEdge X r4 s9 (fun r12 s11 => (((r12 ≠ 0) → L_m_addsRun_66 X x1 r2 r4 r6 (s5 113 33) 1 s11 K) ∧ (¬ (r12 ≠ 0) → c_m_isSign X r4 s11 (fun r14 s13 => (((r14 = 0) → L_m_addsRun_66 X x1 r2 r4 r6 (s5 113 33) 0 s13 K) ∧ (¬ (r14 = 0) → L_m_addsRun_66 X x1 r2 r4 r6 (s5 113 33) 1 s13 K)))))))))))))))) : c_m_addsRun X x1 s K := by
  unfold c_m_addsRun
  refine w_aload (p' := 1) rfl rfl rfl rfl ?_
  refine w_iload (p' := 2) rfl rfl rfl rfl ?_
  refine v_callI (M' := 80) (p' := 5) (rest := []) (as := [(.inr (.inr (.inl (some 113)))), (.inl x1)]) rfl rfl rfl rfl rfl rfl rfl rfl rfl rfl rfl rfl rfl h (fun r2 s1 h => ?_)
  refine w_istore (p' := 6) (ls' := [some (.inr (.inr (.inl (some 113)))), some (.inl x1), some (.inl r2), none, none]) rfl rfl rfl (Nat.le_of_ble_eq_true rfl) rfl ?_
  refine w_aload (p' := 7) rfl rfl rfl rfl ?_
  refine w_iload (p' := 8) rfl rfl rfl rfl ?_
  refine w_const (p' := 9) rfl rfl rfl ?_
  refine w_sub (p' := 10) rfl rfl h.1 ?_
  have h := h.2
  refine v_callI (M' := 78) (p' := 13) (rest := []) (as := [(.inr (.inr (.inl (some 113)))), (.inl (x1 - 1))]) rfl rfl rfl rfl rfl rfl rfl rfl rfl rfl rfl rfl rfl h (fun r4 s3 h => ?_)
  refine w_istore (p' := 14) (ls' := [some (.inr (.inr (.inl (some 113)))), some (.inl x1), some (.inl r2), some (.inl r4), none]) rfl rfl rfl (Nat.le_of_ble_eq_true rfl) rfl ?_
  refine w_aload (p' := 15) rfl rfl rfl rfl ?_
  refine w_iload (p' := 16) rfl rfl rfl rfl ?_
  refine w_iload (p' := 17) rfl rfl rfl rfl ?_
  refine w_add (p' := 18) rfl rfl h.1 ?_
  have h := h.2
  refine v_callI (M' := 78) (p' := 21) (rest := []) (as := [(.inr (.inr (.inl (some 113)))), (.inl (x1 + r2))]) rfl rfl rfl rfl rfl rfl rfl rfl rfl rfl rfl rfl rfl h (fun r6 s5 h => ?_)
  refine w_istore (p' := 23) (ls' := [some (.inr (.inr (.inl (some 113)))), some (.inl x1), some (.inl r2), some (.inl r4), some (.inl r6)]) rfl rfl rfl (Nat.le_of_ble_eq_true rfl) rfl ?_
  refine w_aload (p' := 24) rfl rfl rfl rfl ?_
  refine w_getR (p' := 27) rfl rfl rfl rfl rfl ?_
  refine w_aload (p' := 28) rfl rfl rfl rfl ?_
  refine w_getI (p' := 31) (j := 33) rfl rfl (by decide) rfl rfl ?_
  refine w_iload (p' := 33) rfl rfl rfl rfl ?_
  refine v_callI (M' := 79) (p' := 36) (rest := [(.inl (s5 113 33)), (.inr (.inr (.inl (some 144))))]) (as := [(.inl r6)]) rfl rfl rfl rfl rfl rfl rfl rfl rfl rfl rfl trivial rfl h (fun r8 s7 h => ?_)
  refine w_if (t := 65) (e := 39) rfl rfl rfl (fun e => ?_) (fun e => ?_)
  · have h := h.1 e
    refine w_const (p' := 66) rfl rfl rfl ?_
    exact w_cut (q_le_s (q_le_s (q_le_s (q_le_s (q_le_s q_le_z))))) h
  · have h := h.2 e
    refine w_iload (p' := 41) rfl rfl rfl rfl ?_
    refine v_callI (M' := 49) (p' := 44) (rest := [(.inl (s5 113 33)), (.inr (.inr (.inl (some 144))))]) (as := [(.inl r6)]) rfl rfl rfl rfl rfl rfl rfl rfl rfl rfl rfl trivial rfl h (fun r10 s9 h => ?_)
    refine w_if (t := 61) (e := 47) rfl rfl rfl (fun e => ?_) (fun e => ?_)
    · have h := h.1 e
      refine w_const (p' := 62) rfl rfl rfl ?_
      refine w_goto (p' := 66) rfl rfl ?_
      exact w_cut (q_le_s (q_le_s (q_le_s (q_le_s (q_le_s q_le_z))))) h
    · have h := h.2 e
      refine w_iload (p' := 48) rfl rfl rfl rfl ?_
      refine v_callI (M' := 79) (p' := 51) (rest := [(.inl (s5 113 33)), (.inr (.inr (.inl (some 144))))]) (as := [(.inl r4)]) rfl rfl rfl rfl rfl rfl rfl rfl rfl rfl rfl trivial rfl h (fun r12 s11 h => ?_)
      refine w_if (t := 61) (e := 54) rfl rfl rfl (fun e => ?_) (fun e => ?_)
      · have h := h.1 e
        refine w_const (p' := 62) rfl rfl rfl ?_
        refine w_goto (p' := 66) rfl rfl ?_
        exact w_cut (q_le_s (q_le_s (q_le_s (q_le_s (q_le_s q_le_z))))) h
      · have h := h.2 e
        refine w_iload (p' := 55) rfl rfl rfl rfl ?_
        refine v_callI (M' := 49) (p' := 58) (rest := [(.inl (s5 113 33)), (.inr (.inr (.inl (some 144))))]) (as := [(.inl r4)]) rfl rfl rfl rfl rfl rfl rfl rfl rfl rfl rfl trivial rfl h (fun r14 s13 h => ?_)
        refine w_if (t := 65) (e := 61) rfl rfl rfl (fun e => ?_) (fun e => ?_)
        · have h := h.1 e
          refine w_const (p' := 66) rfl rfl rfl ?_
          exact w_cut (q_le_s (q_le_s (q_le_s (q_le_s (q_le_s q_le_z))))) h
        · have h := h.2 e
          refine w_const (p' := 62) rfl rfl rfl ?_
          refine w_goto (p' := 66) rfl rfl ?_
          exact w_cut (q_le_s (q_le_s (q_le_s (q_le_s (q_le_s q_le_z))))) h
set_option maxRecDepth 20000 in
theorem sg_m_addsRun_66 {X : Nat × (Nat → Int32)}  {v1 v2 v3 v4 t1 t2 : Int} {s : qM} {K : qM → Prop} (h : ((0 : Int) ≤ t1) ∧ (t1 < (241 : Int)) ∧ (0 ≤ t2) ∧ (t2 ≤ 1) ∧ (∀ s1 : qM, s1 = q_up s 144 t1 t2 → c_m_isEdge X v3 s1 (fun r3 s2 => (((r3 ≠ 0) → ((0 : Int) ≤ (s1 113 33)) ∧ ((s1 113 33) < (241 : Int)) ∧ (∀ s4 : qM, s4 = q_up s2 145 (s1 113 33) 0 → ((0 : Int) ≤ (s4 113 33)) ∧ ((s4 113 33) < (241 : Int)) ∧ (∀ s5 : qM, s5 = q_up s4 146 (s4 113 33) v2 → c_m_adds X 1 v1 v2 s5 (fun s6 => K s6)))) ∧ (¬ (r3 ≠ 0) → c_m_isSign X v3 s2 (fun r8 s7 => (((r8 = 0) → ((0 : Int) ≤ (s1 113 33)) ∧ ((s1 113 33) < (241 : Int)) ∧ (∀ s9 : qM, s9 = q_up s7 145 (s1 113 33) 1 → ((0 : Int) ≤ (s9 113 33)) ∧ ((s9 113 33) < (241 : Int)) ∧ (∀ s10 : qM, s10 = q_up s9 146 (s9 113 33) v2 → c_m_adds X 1 v1 v2 s10 (fun s11 => K s11)))) ∧ (¬ (r8 = 0) → c_m_isEdge X v4 s7 (fun r13 s12 => (((r13 ≠ 0) → ((0 : Int) ≤ (s1 113 33)) ∧ ((s1 113 33) < (241 : Int)) ∧ (∀ s14 : qM, s14 = q_up s12 145 (s1 113 33) 1 → ((0 : Int) ≤ (s14 113 33)) ∧ ((s14 113 33) < (241 : Int)) ∧ (∀ s15 : qM, s15 = q_up s14 146 (s14 113 33) v2 → c_m_adds X 1 v1 v2 s15 (fun s16 => K s16)))) ∧ (¬ (r13 ≠ 0) → c_m_isSign X v4 s12 (fun r18 s17 => (((r18 = 0) → ((0 : Int) ≤ (s1 113 33)) ∧ ((s1 113 33) < (241 : Int)) ∧ (∀ s19 : qM, s19 = q_up s17 145 (s1 113 33) 0 → ((0 : Int) ≤ (s19 113 33)) ∧ ((s19 113 33) < (241 : Int)) ∧ (∀ s20 : qM, s20 = q_up s19 146 (s19 113 33) v2 → c_m_adds X 1 v1 v2 s20 (fun s21 => K s21)))) ∧ (¬ (r18 = 0) → ((0 : Int) ≤ (s1 113 33)) ∧ ((s1 113 33) < (241 : Int)) ∧ (∀ s22 : qM, s22 = q_up s17 145 (s1 113 33) 1 → ((0 : Int) ≤ (s22 113 33)) ∧ ((s22 113 33) < (241 : Int)) ∧ (∀ s23 : qM, s23 = q_up s22 146 (s22 113 33) v2 → c_m_adds X 1 v1 v2 s23 (fun s24 => K s24))))))))))))))))) : L_m_addsRun_66 X v1 v2 v3 v4 t1 t2 s K := by
  unfold L_m_addsRun_66
  refine v_bast (p' := 67) (N := 241) rfl rfl rfl rfl h.1 h.2.1 h.2.2.1 h.2.2.2.1 ?_
  have h := h.2.2.2.2
  intro s1 es1
  have h := h s1 es1
  refine w_aload (p' := 68) rfl rfl rfl rfl ?_
  refine w_getR (p' := 71) rfl rfl rfl rfl rfl ?_
  refine w_aload (p' := 72) rfl rfl rfl rfl ?_
  refine w_getI (p' := 75) (j := 33) rfl rfl (by decide) rfl rfl ?_
  refine w_iload (p' := 76) rfl rfl rfl rfl ?_
  refine v_callI (M' := 79) (p' := 79) (rest := [(.inl (s1 113 33)), (.inr (.inr (.inl (some 145))))]) (as := [(.inl v3)]) rfl rfl rfl rfl rfl rfl rfl rfl rfl rfl rfl trivial rfl h (fun r3 s2 h => ?_)
  refine w_if (t := 109) (e := 82) rfl rfl rfl (fun e => ?_) (fun e => ?_)
  · have h := h.1 e
    refine w_const (p' := 110) rfl rfl rfl ?_
    refine v_bast (p' := 111) (N := 241) rfl rfl rfl rfl h.1 h.2.1 (by decide) (by decide) ?_
    have h := h.2.2
    intro s4 es4
    have h := h s4 es4
    refine w_aload (p' := 112) rfl rfl rfl rfl ?_
    refine w_getR (p' := 115) rfl rfl rfl rfl rfl ?_
    refine w_aload (p' := 116) rfl rfl rfl rfl ?_
    refine w_getI (p' := 119) (j := 33) rfl rfl (by decide) rfl rfl ?_
    refine w_iload (p' := 120) rfl rfl rfl rfl ?_
    refine v_iast (p' := 121) (N := 241) rfl rfl rfl rfl h.1 h.2.1  ?_
    have h := h.2.2
    intro s5 es5
    have h := h s5 es5
    refine w_aload (p' := 122) rfl rfl rfl rfl ?_
    refine w_const (p' := 123) rfl rfl rfl ?_
    refine w_iload (p' := 124) rfl rfl rfl rfl ?_
    refine w_iload (p' := 125) rfl rfl rfl rfl ?_
    refine v_callV (M' := 81) (p' := 128) (rest := []) (as := [(.inr (.inr (.inl (some 113)))), (.inl 1), (.inl v1), (.inl v2)]) rfl rfl rfl rfl rfl rfl rfl rfl rfl rfl rfl rfl rfl h (fun s6 h => ?_)
    exact w_vret rfl ⟨rfl, rfl, h⟩
  · have h := h.2 e
    refine w_iload (p' := 83) rfl rfl rfl rfl ?_
    refine v_callI (M' := 49) (p' := 86) (rest := [(.inl (s1 113 33)), (.inr (.inr (.inl (some 145))))]) (as := [(.inl v3)]) rfl rfl rfl rfl rfl rfl rfl rfl rfl rfl rfl trivial rfl h (fun r8 s7 h => ?_)
    refine w_if (t := 105) (e := 89) rfl rfl rfl (fun e => ?_) (fun e => ?_)
    · have h := h.1 e
      refine w_const (p' := 106) rfl rfl rfl ?_
      refine w_goto (p' := 110) rfl rfl ?_
      refine v_bast (p' := 111) (N := 241) rfl rfl rfl rfl h.1 h.2.1 (by decide) (by decide) ?_
      have h := h.2.2
      intro s9 es9
      have h := h s9 es9
      refine w_aload (p' := 112) rfl rfl rfl rfl ?_
      refine w_getR (p' := 115) rfl rfl rfl rfl rfl ?_
      refine w_aload (p' := 116) rfl rfl rfl rfl ?_
      refine w_getI (p' := 119) (j := 33) rfl rfl (by decide) rfl rfl ?_
      refine w_iload (p' := 120) rfl rfl rfl rfl ?_
      refine v_iast (p' := 121) (N := 241) rfl rfl rfl rfl h.1 h.2.1  ?_
      have h := h.2.2
      intro s10 es10
      have h := h s10 es10
      refine w_aload (p' := 122) rfl rfl rfl rfl ?_
      refine w_const (p' := 123) rfl rfl rfl ?_
      refine w_iload (p' := 124) rfl rfl rfl rfl ?_
      refine w_iload (p' := 125) rfl rfl rfl rfl ?_
      refine v_callV (M' := 81) (p' := 128) (rest := []) (as := [(.inr (.inr (.inl (some 113)))), (.inl 1), (.inl v1), (.inl v2)]) rfl rfl rfl rfl rfl rfl rfl rfl rfl rfl rfl rfl rfl h (fun s11 h => ?_)
      exact w_vret rfl ⟨rfl, rfl, h⟩
    · have h := h.2 e
      refine w_iload (p' := 91) rfl rfl rfl rfl ?_
      refine v_callI (M' := 79) (p' := 94) (rest := [(.inl (s1 113 33)), (.inr (.inr (.inl (some 145))))]) (as := [(.inl v4)]) rfl rfl rfl rfl rfl rfl rfl rfl rfl rfl rfl trivial rfl h (fun r13 s12 h => ?_)
      refine w_if (t := 105) (e := 97) rfl rfl rfl (fun e => ?_) (fun e => ?_)
      · have h := h.1 e
        refine w_const (p' := 106) rfl rfl rfl ?_
        refine w_goto (p' := 110) rfl rfl ?_
        refine v_bast (p' := 111) (N := 241) rfl rfl rfl rfl h.1 h.2.1 (by decide) (by decide) ?_
        have h := h.2.2
        intro s14 es14
        have h := h s14 es14
        refine w_aload (p' := 112) rfl rfl rfl rfl ?_
        refine w_getR (p' := 115) rfl rfl rfl rfl rfl ?_
        refine w_aload (p' := 116) rfl rfl rfl rfl ?_
        refine w_getI (p' := 119) (j := 33) rfl rfl (by decide) rfl rfl ?_
        refine w_iload (p' := 120) rfl rfl rfl rfl ?_
        refine v_iast (p' := 121) (N := 241) rfl rfl rfl rfl h.1 h.2.1  ?_
        have h := h.2.2
        intro s15 es15
        have h := h s15 es15
        refine w_aload (p' := 122) rfl rfl rfl rfl ?_
        refine w_const (p' := 123) rfl rfl rfl ?_
        refine w_iload (p' := 124) rfl rfl rfl rfl ?_
        refine w_iload (p' := 125) rfl rfl rfl rfl ?_
        refine v_callV (M' := 81) (p' := 128) (rest := []) (as := [(.inr (.inr (.inl (some 113)))), (.inl 1), (.inl v1), (.inl v2)]) rfl rfl rfl rfl rfl rfl rfl rfl rfl rfl rfl rfl rfl h (fun s16 h => ?_)
        exact w_vret rfl ⟨rfl, rfl, h⟩
      · have h := h.2 e
        refine w_iload (p' := 99) rfl rfl rfl rfl ?_
        refine v_callI (M' := 49) (p' := 102) (rest := [(.inl (s1 113 33)), (.inr (.inr (.inl (some 145))))]) (as := [(.inl v4)]) rfl rfl rfl rfl rfl rfl rfl rfl rfl rfl rfl trivial rfl h (fun r18 s17 h => ?_)
        refine w_if (t := 109) (e := 105) rfl rfl rfl (fun e => ?_) (fun e => ?_)
        · have h := h.1 e
          refine w_const (p' := 110) rfl rfl rfl ?_
          refine v_bast (p' := 111) (N := 241) rfl rfl rfl rfl h.1 h.2.1 (by decide) (by decide) ?_
          have h := h.2.2
          intro s19 es19
          have h := h s19 es19
          refine w_aload (p' := 112) rfl rfl rfl rfl ?_
          refine w_getR (p' := 115) rfl rfl rfl rfl rfl ?_
          refine w_aload (p' := 116) rfl rfl rfl rfl ?_
          refine w_getI (p' := 119) (j := 33) rfl rfl (by decide) rfl rfl ?_
          refine w_iload (p' := 120) rfl rfl rfl rfl ?_
          refine v_iast (p' := 121) (N := 241) rfl rfl rfl rfl h.1 h.2.1  ?_
          have h := h.2.2
          intro s20 es20
          have h := h s20 es20
          refine w_aload (p' := 122) rfl rfl rfl rfl ?_
          refine w_const (p' := 123) rfl rfl rfl ?_
          refine w_iload (p' := 124) rfl rfl rfl rfl ?_
          refine w_iload (p' := 125) rfl rfl rfl rfl ?_
          refine v_callV (M' := 81) (p' := 128) (rest := []) (as := [(.inr (.inr (.inl (some 113)))), (.inl 1), (.inl v1), (.inl v2)]) rfl rfl rfl rfl rfl rfl rfl rfl rfl rfl rfl rfl rfl h (fun s21 h => ?_)
          exact w_vret rfl ⟨rfl, rfl, h⟩
        · have h := h.2 e
          refine w_const (p' := 106) rfl rfl rfl ?_
          refine w_goto (p' := 110) rfl rfl ?_
          refine v_bast (p' := 111) (N := 241) rfl rfl rfl rfl h.1 h.2.1 (by decide) (by decide) ?_
          have h := h.2.2
          intro s22 es22
          have h := h s22 es22
          refine w_aload (p' := 112) rfl rfl rfl rfl ?_
          refine w_getR (p' := 115) rfl rfl rfl rfl rfl ?_
          refine w_aload (p' := 116) rfl rfl rfl rfl ?_
          refine w_getI (p' := 119) (j := 33) rfl rfl (by decide) rfl rfl ?_
          refine w_iload (p' := 120) rfl rfl rfl rfl ?_
          refine v_iast (p' := 121) (N := 241) rfl rfl rfl rfl h.1 h.2.1  ?_
          have h := h.2.2
          intro s23 es23
          have h := h s23 es23
          refine w_aload (p' := 122) rfl rfl rfl rfl ?_
          refine w_const (p' := 123) rfl rfl rfl ?_
          refine w_iload (p' := 124) rfl rfl rfl rfl ?_
          refine w_iload (p' := 125) rfl rfl rfl rfl ?_
          refine v_callV (M' := 81) (p' := 128) (rest := []) (as := [(.inr (.inr (.inl (some 113)))), (.inl 1), (.inl v1), (.inl v2)]) rfl rfl rfl rfl rfl rfl rfl rfl rfl rfl rfl rfl rfl h (fun s24 h => ?_)
          exact w_vret rfl ⟨rfl, rfl, h⟩
set_option maxRecDepth 20000 in
theorem sg_m_nextRun {X : Nat × (Nat → Int32)} {x1 : Int} {x2 : Int} {s : qM} {K : Int → qM → Prop} (h : L_m_nextRun_2 X x2 x1 s K) : c_m_nextRun X x1 x2 s K := by
  unfold c_m_nextRun
  refine w_iload (p' := 1) rfl rfl rfl rfl ?_
  refine w_istore (p' := 2) (ls' := [some (.inr (.inr (.inl (some 113)))), some (.inl x1), some (.inl x2), some (.inl x1)]) rfl rfl rfl (Nat.le_of_ble_eq_true rfl) rfl ?_
  exact w_cut (q_le_s (q_le_n (q_le_s (q_le_s q_le_z)))) h
set_option maxRecDepth 20000 in
theorem sg_m_nextRun_2 {X : Nat × (Nat → Int32)}  {v2 v3 : Int} {s : qM} {K : Int → qM → Prop} (h : ((((s 113 28) ≤ v3) → K (-1) s) ∧ (¬ ((s 113 28) ≤ v3) → c_m_in X v3 s (fun r2 s1 => (((r2 ≠ 96) → (-2147483648 ≤ (v3 + 1) ∧ (v3 + 1) < 2147483648) ∧ L_m_nextRun_2 X v2 (v3 + 1) s1 K) ∧ (¬ (r2 ≠ 96) → c_m_run X v3 s1 (fun r4 s3 => (((r4 ≠ v2) → c_m_run X v3 s3 (fun r6 s5 => (-2147483648 ≤ (v3 + r6) ∧ (v3 + r6) < 2147483648) ∧ L_m_nextRun_2 X v2 (v3 + r6) s5 K)) ∧ (¬ (r4 ≠ v2) → K v3 s3))))))))) : L_m_nextRun_2 X v2 v3 s K := by
  unfold L_m_nextRun_2
  refine w_iload (p' := 3) rfl rfl rfl rfl ?_
  refine w_aload (p' := 4) rfl rfl rfl rfl ?_
  refine w_getI (p' := 7) (j := 28) rfl rfl (by decide) rfl rfl ?_
  refine w_icmp (t := 48) (e := 10) rfl rfl rfl (fun e => ?_) (fun e => ?_)
  · have h := h.1 e
    refine w_const (p' := 49) rfl rfl rfl ?_
    exact w_iret rfl trivial ⟨rfl, _, rfl, h⟩
  · have h := h.2 e
    refine w_aload (p' := 11) rfl rfl rfl rfl ?_
    refine w_iload (p' := 12) rfl rfl rfl rfl ?_
    refine v_callI (M' := 78) (p' := 15) (rest := []) (as := [(.inr (.inr (.inl (some 113)))), (.inl v3)]) rfl rfl rfl rfl rfl rfl rfl rfl rfl rfl rfl rfl rfl h (fun r2 s1 h => ?_)
    refine w_const (p' := 17) rfl rfl rfl ?_
    refine w_icmp (t := 42) (e := 20) rfl rfl rfl (fun e => ?_) (fun e => ?_)
    · have h := h.1 e
      refine w_iinc (p' := 45) (ls' := [some (.inr (.inr (.inl (some 113)))), none, some (.inl v2), some (.inl (v3 + 1))]) rfl rfl rfl (Nat.le_of_ble_eq_true rfl) h.1 rfl ?_
      have h := h.2
      refine w_goto (p' := 2) rfl rfl ?_
      exact w_cut (q_le_s (q_le_n (q_le_s (q_le_s q_le_z)))) h
    · have h := h.2 e
      refine w_aload (p' := 21) rfl rfl rfl rfl ?_
      refine w_iload (p' := 22) rfl rfl rfl rfl ?_
      refine v_callI (M' := 80) (p' := 25) (rest := []) (as := [(.inr (.inr (.inl (some 113)))), (.inl v3)]) rfl rfl rfl rfl rfl rfl rfl rfl rfl rfl rfl rfl rfl h (fun r4 s3 h => ?_)
      refine w_iload (p' := 26) rfl rfl rfl rfl ?_
      refine w_icmp (t := 31) (e := 29) rfl rfl rfl (fun e => ?_) (fun e => ?_)
      · have h := h.1 e
        refine w_iload (p' := 32) rfl rfl rfl rfl ?_
        refine w_aload (p' := 33) rfl rfl rfl rfl ?_
        refine w_iload (p' := 34) rfl rfl rfl rfl ?_
        refine v_callI (M' := 80) (p' := 37) (rest := [(.inl v3)]) (as := [(.inr (.inr (.inl (some 113)))), (.inl v3)]) rfl rfl rfl rfl rfl rfl rfl rfl rfl rfl rfl rfl rfl h (fun r6 s5 h => ?_)
        refine w_add (p' := 38) rfl rfl h.1 ?_
        have h := h.2
        refine w_istore (p' := 39) (ls' := [some (.inr (.inr (.inl (some 113)))), none, some (.inl v2), some (.inl (v3 + r6))]) rfl rfl rfl (Nat.le_of_ble_eq_true rfl) rfl ?_
        refine w_goto (p' := 2) rfl rfl ?_
        exact w_cut (q_le_s (q_le_n (q_le_s (q_le_s q_le_z)))) h
      · have h := h.2 e
        refine w_iload (p' := 30) rfl rfl rfl rfl ?_
        exact w_iret rfl trivial ⟨rfl, _, rfl, h⟩
set_option maxRecDepth 20000 in
theorem sg_m_isSameName {X : Nat × (Nat → Int32)} {x1 : Int} {x2 : Int} {x3 : Int} {s : qM} {K : Int → qM → Prop} (h : L_m_isSameName_6 X x1 x2 x3 1 0 s K) : c_m_isSameName X x1 x2 x3 s K := by
  unfold c_m_isSameName
  refine w_const (p' := 1) rfl rfl rfl ?_
  refine w_istore (p' := 3) (ls' := [some (.inr (.inr (.inl (some 113)))), some (.inl x1), some (.inl x2), some (.inl x3), some (.inl 1), none]) rfl rfl rfl (Nat.le_of_ble_eq_true rfl) rfl ?_
  refine w_const (p' := 4) rfl rfl rfl ?_
  refine w_istore (p' := 6) (ls' := [some (.inr (.inr (.inl (some 113)))), some (.inl x1), some (.inl x2), some (.inl x3), some (.inl 1), some (.inl 0)]) rfl rfl rfl (Nat.le_of_ble_eq_true rfl) rfl ?_
  exact w_cut (q_le_s (q_le_s (q_le_s (q_le_s (q_le_s (q_le_s q_le_z)))))) h
set_option maxRecDepth 20000 in
theorem sg_m_isSameName_6 {X : Nat × (Nat → Int32)}  {v1 v2 v3 v4 v5 : Int} {s : qM} {K : Int → qM → Prop} (h : (((6 ≤ v5) → (0 ≤ v4 ∧ v4 ≤ 1) ∧ K v4 s) ∧ (¬ (6 ≤ v5) → (((v4 = 0) → (-2147483648 ≤ (v5 + 1) ∧ (v5 + 1) < 2147483648) ∧ L_m_isSameName_6 X v1 v2 v3 0 (v5 + 1) s K) ∧ (¬ (v4 = 0) → (-2147483648 ≤ (6 * v1) ∧ (6 * v1) < 2147483648) ∧ (-2147483648 ≤ ((6 * v1) + v5) ∧ ((6 * v1) + v5) < 2147483648) ∧ ((0 : Int) ≤ ((6 * v1) + v5)) ∧ (((6 * v1) + v5) < (3600 : Int)) ∧ (-2147483648 ≤ (v2 + v5) ∧ (v2 + v5) < 2147483648) ∧ (((v3 ≤ (v2 + v5)) → ((((s 130 ((6 * v1) + v5)) ≠ 0) → (-2147483648 ≤ (v5 + 1) ∧ (v5 + 1) < 2147483648) ∧ L_m_isSameName_6 X v1 v2 v3 0 (v5 + 1) s K) ∧ (¬ ((s 130 ((6 * v1) + v5)) ≠ 0) → (-2147483648 ≤ (v5 + 1) ∧ (v5 + 1) < 2147483648) ∧ L_m_isSameName_6 X v1 v2 v3 1 (v5 + 1) s K))) ∧ (¬ (v3 ≤ (v2 + v5)) → (-2147483648 ≤ (v2 + v5) ∧ (v2 + v5) < 2147483648) ∧ c_m_in X (v2 + v5) s (fun r2 s1 => ((((s 130 ((6 * v1) + v5)) ≠ r2) → (-2147483648 ≤ (v5 + 1) ∧ (v5 + 1) < 2147483648) ∧ L_m_isSameName_6 X v1 v2 v3 0 (v5 + 1) s1 K) ∧ (¬ ((s 130 ((6 * v1) + v5)) ≠ r2) → (-2147483648 ≤ (v5 + 1) ∧ (v5 + 1) < 2147483648) ∧ L_m_isSameName_6 X v1 v2 v3 1 (v5 + 1) s1 K)))))))))) : L_m_isSameName_6 X v1 v2 v3 v4 v5 s K := by
  unfold L_m_isSameName_6
  refine w_iload (p' := 8) rfl rfl rfl rfl ?_
  refine w_const (p' := 10) rfl rfl rfl ?_
  refine w_icmp (t := 66) (e := 13) rfl rfl rfl (fun e => ?_) (fun e => ?_)
  · have h := h.1 e
    refine w_iload (p' := 68) rfl rfl rfl rfl ?_
    exact w_iret rfl h.1 ⟨rfl, _, rfl, h.2⟩
  · have h := h.2 e
    refine w_iload (p' := 15) rfl rfl rfl rfl ?_
    refine w_if (t := 57) (e := 18) rfl rfl rfl (fun e => ?_) (fun e => ?_)
    · have h := h.1 e
      refine w_const (p' := 58) rfl rfl rfl ?_
      refine w_istore (p' := 60) (ls' := [some (.inr (.inr (.inl (some 113)))), some (.inl v1), some (.inl v2), some (.inl v3), some (.inl 0), some (.inl v5)]) rfl rfl rfl (Nat.le_of_ble_eq_true rfl) rfl ?_
      refine w_iinc (p' := 63) (ls' := [some (.inr (.inr (.inl (some 113)))), some (.inl v1), some (.inl v2), some (.inl v3), some (.inl 0), some (.inl (v5 + 1))]) rfl rfl rfl (Nat.le_of_ble_eq_true rfl) h.1 rfl ?_
      have h := h.2
      refine w_goto (p' := 6) rfl rfl ?_
      exact w_cut (q_le_s (q_le_s (q_le_s (q_le_s (q_le_s (q_le_s q_le_z)))))) h
    · have h := h.2 e
      refine w_aload (p' := 19) rfl rfl rfl rfl ?_
      refine w_getR (p' := 22) rfl rfl rfl rfl rfl ?_
      refine w_const (p' := 24) rfl rfl rfl ?_
      refine w_iload (p' := 25) rfl rfl rfl rfl ?_
      refine w_mul (p' := 26) rfl rfl h.1 ?_
      have h := h.2
      refine w_iload (p' := 28) rfl rfl rfl rfl ?_
      refine w_add (p' := 29) rfl rfl h.1 ?_
      have h := h.2
      refine w_iald (p' := 30) (N := 3600) rfl rfl rfl rfl h.1 h.2.1 ?_
      have h := h.2.2
      refine w_iload (p' := 31) rfl rfl rfl rfl ?_
      refine w_iload (p' := 33) rfl rfl rfl rfl ?_
      refine w_add (p' := 34) rfl rfl h.1 ?_
      have h := h.2
      refine w_iload (p' := 35) rfl rfl rfl rfl ?_
      refine w_icmp (t := 49) (e := 38) rfl rfl rfl (fun e => ?_) (fun e => ?_)
      · have h := h.1 e
        refine w_const (p' := 50) rfl rfl rfl ?_
        refine w_icmp (t := 57) (e := 53) rfl rfl rfl (fun e => ?_) (fun e => ?_)
        · have h := h.1 e
          refine w_const (p' := 58) rfl rfl rfl ?_
          refine w_istore (p' := 60) (ls' := [some (.inr (.inr (.inl (some 113)))), some (.inl v1), some (.inl v2), some (.inl v3), some (.inl 0), some (.inl v5)]) rfl rfl rfl (Nat.le_of_ble_eq_true rfl) rfl ?_
          refine w_iinc (p' := 63) (ls' := [some (.inr (.inr (.inl (some 113)))), some (.inl v1), some (.inl v2), some (.inl v3), some (.inl 0), some (.inl (v5 + 1))]) rfl rfl rfl (Nat.le_of_ble_eq_true rfl) h.1 rfl ?_
          have h := h.2
          refine w_goto (p' := 6) rfl rfl ?_
          exact w_cut (q_le_s (q_le_s (q_le_s (q_le_s (q_le_s (q_le_s q_le_z)))))) h
        · have h := h.2 e
          refine w_const (p' := 54) rfl rfl rfl ?_
          refine w_goto (p' := 58) rfl rfl ?_
          refine w_istore (p' := 60) (ls' := [some (.inr (.inr (.inl (some 113)))), some (.inl v1), some (.inl v2), some (.inl v3), some (.inl 1), some (.inl v5)]) rfl rfl rfl (Nat.le_of_ble_eq_true rfl) rfl ?_
          refine w_iinc (p' := 63) (ls' := [some (.inr (.inr (.inl (some 113)))), some (.inl v1), some (.inl v2), some (.inl v3), some (.inl 1), some (.inl (v5 + 1))]) rfl rfl rfl (Nat.le_of_ble_eq_true rfl) h.1 rfl ?_
          have h := h.2
          refine w_goto (p' := 6) rfl rfl ?_
          exact w_cut (q_le_s (q_le_s (q_le_s (q_le_s (q_le_s (q_le_s q_le_z)))))) h
      · have h := h.2 e
        refine w_aload (p' := 39) rfl rfl rfl rfl ?_
        refine w_iload (p' := 40) rfl rfl rfl rfl ?_
        refine w_iload (p' := 42) rfl rfl rfl rfl ?_
        refine w_add (p' := 43) rfl rfl h.1 ?_
        have h := h.2
        refine v_callI (M' := 78) (p' := 46) (rest := [(.inl (s 130 ((6 * v1) + v5)))]) (as := [(.inr (.inr (.inl (some 113)))), (.inl (v2 + v5))]) rfl rfl rfl rfl rfl rfl rfl rfl rfl rfl rfl rfl rfl h (fun r2 s1 h => ?_)
        refine w_goto (p' := 50) rfl rfl ?_
        refine w_icmp (t := 57) (e := 53) rfl rfl rfl (fun e => ?_) (fun e => ?_)
        · have h := h.1 e
          refine w_const (p' := 58) rfl rfl rfl ?_
          refine w_istore (p' := 60) (ls' := [some (.inr (.inr (.inl (some 113)))), some (.inl v1), some (.inl v2), some (.inl v3), some (.inl 0), some (.inl v5)]) rfl rfl rfl (Nat.le_of_ble_eq_true rfl) rfl ?_
          refine w_iinc (p' := 63) (ls' := [some (.inr (.inr (.inl (some 113)))), some (.inl v1), some (.inl v2), some (.inl v3), some (.inl 0), some (.inl (v5 + 1))]) rfl rfl rfl (Nat.le_of_ble_eq_true rfl) h.1 rfl ?_
          have h := h.2
          refine w_goto (p' := 6) rfl rfl ?_
          exact w_cut (q_le_s (q_le_s (q_le_s (q_le_s (q_le_s (q_le_s q_le_z)))))) h
        · have h := h.2 e
          refine w_const (p' := 54) rfl rfl rfl ?_
          refine w_goto (p' := 58) rfl rfl ?_
          refine w_istore (p' := 60) (ls' := [some (.inr (.inr (.inl (some 113)))), some (.inl v1), some (.inl v2), some (.inl v3), some (.inl 1), some (.inl v5)]) rfl rfl rfl (Nat.le_of_ble_eq_true rfl) rfl ?_
          refine w_iinc (p' := 63) (ls' := [some (.inr (.inr (.inl (some 113)))), some (.inl v1), some (.inl v2), some (.inl v3), some (.inl 1), some (.inl (v5 + 1))]) rfl rfl rfl (Nat.le_of_ble_eq_true rfl) h.1 rfl ?_
          have h := h.2
          refine w_goto (p' := 6) rfl rfl ?_
          exact w_cut (q_le_s (q_le_s (q_le_s (q_le_s (q_le_s (q_le_s q_le_z)))))) h
set_option maxRecDepth 20000 in
theorem sg_m_meant {X : Nat × (Nat → Int32)} {x1 : Int} {x2 : Int} {s : qM} {K : Int → qM → Prop} (h : (-2147483648 ≤ (x2 - x1) ∧ (x2 - x1) < 2147483648) ∧ c_m_isIn X (x2 - x1) 1 6 s (fun r2 s1 => L_m_meant_13 X x1 x2 r2 x1 s1 K)) : c_m_meant X x1 x2 s K := by
  unfold c_m_meant
  refine w_iload (p' := 1) rfl rfl rfl rfl ?_
  refine w_iload (p' := 2) rfl rfl rfl rfl ?_
  refine w_sub (p' := 3) rfl rfl h.1 ?_
  have h := h.2
  refine w_const (p' := 4) rfl rfl rfl ?_
  refine w_const (p' := 6) rfl rfl rfl ?_
  refine v_callI (M' := 47) (p' := 9) (rest := []) (as := [(.inl (x2 - x1)), (.inl 1), (.inl 6)]) rfl rfl rfl rfl rfl rfl rfl rfl rfl rfl rfl trivial rfl h (fun r2 s1 h => ?_)
  refine w_istore (p' := 10) (ls' := [some (.inr (.inr (.inl (some 113)))), some (.inl x1), some (.inl x2), some (.inl r2), none, none]) rfl rfl rfl (Nat.le_of_ble_eq_true rfl) rfl ?_
  refine w_iload (p' := 11) rfl rfl rfl rfl ?_
  refine w_istore (p' := 13) (ls' := [some (.inr (.inr (.inl (some 113)))), some (.inl x1), some (.inl x2), some (.inl r2), some (.inl x1), none]) rfl rfl rfl (Nat.le_of_ble_eq_true rfl) rfl ?_
  exact w_cut (q_le_s (q_le_s (q_le_s (q_le_s (q_le_s (q_le_n q_le_z)))))) h
set_option maxRecDepth 20000 in
theorem sg_m_meant_13 {X : Nat × (Nat → Int32)}  {v1 v2 v3 v4 : Int} {s : qM} {K : Int → qM → Prop} (h : (((v2 ≤ v4) → (-2147483648 ≤ ((s 113 4) - 1) ∧ ((s 113 4) - 1) < 2147483648) ∧ L_m_meant_58 X v1 v2 v3 (-1) ((s 113 4) - 1) s K) ∧ (¬ (v2 ≤ v4) → (((v3 = 0) → (-2147483648 ≤ (v4 + 1) ∧ (v4 + 1) < 2147483648) ∧ L_m_meant_13 X v1 v2 0 (v4 + 1) s K) ∧ (¬ (v3 = 0) → c_m_in X v4 s (fun r2 s1 => c_m_isLetter X r2 s1 (fun r4 s3 => (((r4 = 0) → (-2147483648 ≤ (v4 + 1) ∧ (v4 + 1) < 2147483648) ∧ L_m_meant_13 X v1 v2 0 (v4 + 1) s3 K) ∧ (¬ (r4 = 0) → (-2147483648 ≤ (v4 + 1) ∧ (v4 + 1) < 2147483648) ∧ L_m_meant_13 X v1 v2 1 (v4 + 1) s3 K))))))))) : L_m_meant_13 X v1 v2 v3 v4 s K := by
  unfold L_m_meant_13
  refine w_iload (p' := 15) rfl rfl rfl rfl ?_
  refine w_iload (p' := 16) rfl rfl rfl rfl ?_
  refine w_icmp (t := 47) (e := 19) rfl rfl rfl (fun e => ?_) (fun e => ?_)
  · have h := h.1 e
    refine w_const (p' := 48) rfl rfl rfl ?_
    refine w_istore (p' := 50) (ls' := [some (.inr (.inr (.inl (some 113)))), some (.inl v1), some (.inl v2), some (.inl v3), some (.inl (-1)), none]) rfl rfl rfl (Nat.le_of_ble_eq_true rfl) rfl ?_
    refine w_aload (p' := 51) rfl rfl rfl rfl ?_
    refine w_getI (p' := 54) (j := 4) rfl rfl (by decide) rfl rfl ?_
    refine w_const (p' := 55) rfl rfl rfl ?_
    refine w_sub (p' := 56) rfl rfl h.1 ?_
    have h := h.2
    refine w_istore (p' := 58) (ls' := [some (.inr (.inr (.inl (some 113)))), some (.inl v1), some (.inl v2), some (.inl v3), some (.inl (-1)), some (.inl ((s 113 4) - 1))]) rfl rfl rfl (Nat.le_of_ble_eq_true rfl) rfl ?_
    exact w_cut (q_le_s (q_le_s (q_le_s (q_le_s (q_le_s (q_le_s q_le_z)))))) h
  · have h := h.2 e
    refine w_iload (p' := 20) rfl rfl rfl rfl ?_
    refine w_if (t := 39) (e := 23) rfl rfl rfl (fun e => ?_) (fun e => ?_)
    · have h := h.1 e
      refine w_const (p' := 40) rfl rfl rfl ?_
      refine w_istore (p' := 41) (ls' := [some (.inr (.inr (.inl (some 113)))), some (.inl v1), some (.inl v2), some (.inl 0), some (.inl v4), none]) rfl rfl rfl (Nat.le_of_ble_eq_true rfl) rfl ?_
      refine w_iinc (p' := 44) (ls' := [some (.inr (.inr (.inl (some 113)))), some (.inl v1), some (.inl v2), some (.inl 0), some (.inl (v4 + 1)), none]) rfl rfl rfl (Nat.le_of_ble_eq_true rfl) h.1 rfl ?_
      have h := h.2
      refine w_goto (p' := 13) rfl rfl ?_
      exact w_cut (q_le_s (q_le_s (q_le_s (q_le_s (q_le_s (q_le_n q_le_z)))))) h
    · have h := h.2 e
      refine w_aload (p' := 24) rfl rfl rfl rfl ?_
      refine w_iload (p' := 26) rfl rfl rfl rfl ?_
      refine v_callI (M' := 78) (p' := 29) (rest := []) (as := [(.inr (.inr (.inl (some 113)))), (.inl v4)]) rfl rfl rfl rfl rfl rfl rfl rfl rfl rfl rfl rfl rfl h (fun r2 s1 h => ?_)
      refine v_callI (M' := 48) (p' := 32) (rest := []) (as := [(.inl r2)]) rfl rfl rfl rfl rfl rfl rfl rfl rfl rfl rfl trivial rfl h (fun r4 s3 h => ?_)
      refine w_if (t := 39) (e := 35) rfl rfl rfl (fun e => ?_) (fun e => ?_)
      · have h := h.1 e
        refine w_const (p' := 40) rfl rfl rfl ?_
        refine w_istore (p' := 41) (ls' := [some (.inr (.inr (.inl (some 113)))), some (.inl v1), some (.inl v2), some (.inl 0), some (.inl v4), none]) rfl rfl rfl (Nat.le_of_ble_eq_true rfl) rfl ?_
        refine w_iinc (p' := 44) (ls' := [some (.inr (.inr (.inl (some 113)))), some (.inl v1), some (.inl v2), some (.inl 0), some (.inl (v4 + 1)), none]) rfl rfl rfl (Nat.le_of_ble_eq_true rfl) h.1 rfl ?_
        have h := h.2
        refine w_goto (p' := 13) rfl rfl ?_
        exact w_cut (q_le_s (q_le_s (q_le_s (q_le_s (q_le_s (q_le_n q_le_z)))))) h
      · have h := h.2 e
        refine w_const (p' := 36) rfl rfl rfl ?_
        refine w_goto (p' := 40) rfl rfl ?_
        refine w_istore (p' := 41) (ls' := [some (.inr (.inr (.inl (some 113)))), some (.inl v1), some (.inl v2), some (.inl 1), some (.inl v4), none]) rfl rfl rfl (Nat.le_of_ble_eq_true rfl) rfl ?_
        refine w_iinc (p' := 44) (ls' := [some (.inr (.inr (.inl (some 113)))), some (.inl v1), some (.inl v2), some (.inl 1), some (.inl (v4 + 1)), none]) rfl rfl rfl (Nat.le_of_ble_eq_true rfl) h.1 rfl ?_
        have h := h.2
        refine w_goto (p' := 13) rfl rfl ?_
        exact w_cut (q_le_s (q_le_s (q_le_s (q_le_s (q_le_s (q_le_n q_le_z)))))) h
set_option maxRecDepth 20000 in
theorem sg_m_meant_58 {X : Nat × (Nat → Int32)}  {v1 v2 v3 v4 v5 : Int} {s : qM} {K : Int → qM → Prop} (h : (((v5 < 0) → (-2147483648 ≤ ((s 113 4) - 1) ∧ ((s 113 4) - 1) < 2147483648) ∧ L_m_meant_112 X v1 v2 v3 v4 ((s 113 4) - 1) s K) ∧ (¬ (v5 < 0) → (((v3 = 0) → (-2147483648 ≤ ((s 113 4) - 1) ∧ ((s 113 4) - 1) < 2147483648) ∧ L_m_meant_112 X v1 v2 v3 v4 ((s 113 4) - 1) s K) ∧ (¬ (v3 = 0) → ((0 : Int) ≤ v5) ∧ (v5 < (600 : Int)) ∧ ((((s 117 v5) ≠ 4) → (-2147483648 ≤ (v5 + (-1)) ∧ (v5 + (-1)) < 2147483648) ∧ L_m_meant_58 X v1 v2 v3 v4 (v5 + (-1)) s K) ∧ (¬ ((s 117 v5) ≠ 4) → c_m_isSameName X v5 v1 v2 s (fun r2 s1 => (((r2 = 0) → (-2147483648 ≤ (v5 + (-1)) ∧ (v5 + (-1)) < 2147483648) ∧ L_m_meant_58 X v1 v2 v3 v4 (v5 + (-1)) s1 K) ∧ (¬ (r2 = 0) → (-2147483648 ≤ (v5 + (-1)) ∧ (v5 + (-1)) < 2147483648) ∧ L_m_meant_58 X v1 v2 v3 v5 (v5 + (-1)) s1 K)))))))))) : L_m_meant_58 X v1 v2 v3 v4 v5 s K := by
  unfold L_m_meant_58
  refine w_iload (p' := 60) rfl rfl rfl rfl ?_
  refine w_if (t := 104) (e := 63) rfl rfl rfl (fun e => ?_) (fun e => ?_)
  · have h := h.1 e
    refine w_aload (p' := 105) rfl rfl rfl rfl ?_
    refine w_getI (p' := 108) (j := 4) rfl rfl (by decide) rfl rfl ?_
    refine w_const (p' := 109) rfl rfl rfl ?_
    refine w_sub (p' := 110) rfl rfl h.1 ?_
    have h := h.2
    refine w_istore (p' := 112) (ls' := [some (.inr (.inr (.inl (some 113)))), some (.inl v1), some (.inl v2), some (.inl v3), some (.inl v4), some (.inl ((s 113 4) - 1))]) rfl rfl rfl (Nat.le_of_ble_eq_true rfl) rfl ?_
    exact w_cut (q_le_s (q_le_s (q_le_s (q_le_s (q_le_s (q_le_s q_le_z)))))) h
  · have h := h.2 e
    refine w_iload (p' := 64) rfl rfl rfl rfl ?_
    refine w_if (t := 104) (e := 67) rfl rfl rfl (fun e => ?_) (fun e => ?_)
    · have h := h.1 e
      refine w_aload (p' := 105) rfl rfl rfl rfl ?_
      refine w_getI (p' := 108) (j := 4) rfl rfl (by decide) rfl rfl ?_
      refine w_const (p' := 109) rfl rfl rfl ?_
      refine w_sub (p' := 110) rfl rfl h.1 ?_
      have h := h.2
      refine w_istore (p' := 112) (ls' := [some (.inr (.inr (.inl (some 113)))), some (.inl v1), some (.inl v2), some (.inl v3), some (.inl v4), some (.inl ((s 113 4) - 1))]) rfl rfl rfl (Nat.le_of_ble_eq_true rfl) rfl ?_
      exact w_cut (q_le_s (q_le_s (q_le_s (q_le_s (q_le_s (q_le_s q_le_z)))))) h
    · have h := h.2 e
      refine w_aload (p' := 68) rfl rfl rfl rfl ?_
      refine w_getR (p' := 71) rfl rfl rfl rfl rfl ?_
      refine w_iload (p' := 73) rfl rfl rfl rfl ?_
      refine w_iald (p' := 74) (N := 600) rfl rfl rfl rfl h.1 h.2.1 ?_
      have h := h.2.2
      refine w_const (p' := 75) rfl rfl rfl ?_
      refine w_icmp (t := 94) (e := 78) rfl rfl rfl (fun e => ?_) (fun e => ?_)
      · have h := h.1 e
        refine w_iload (p' := 96) rfl rfl rfl rfl ?_
        refine w_istore (p' := 98) (ls' := [some (.inr (.inr (.inl (some 113)))), some (.inl v1), some (.inl v2), some (.inl v3), some (.inl v4), some (.inl v5)]) rfl rfl rfl (Nat.le_of_ble_eq_true rfl) rfl ?_
        refine w_iinc (p' := 101) (ls' := [some (.inr (.inr (.inl (some 113)))), some (.inl v1), some (.inl v2), some (.inl v3), some (.inl v4), some (.inl (v5 + (-1)))]) rfl rfl rfl (Nat.le_of_ble_eq_true rfl) h.1 rfl ?_
        have h := h.2
        refine w_goto (p' := 58) rfl rfl ?_
        exact w_cut (q_le_s (q_le_s (q_le_s (q_le_s (q_le_s (q_le_s q_le_z)))))) h
      · have h := h.2 e
        refine w_aload (p' := 79) rfl rfl rfl rfl ?_
        refine w_iload (p' := 81) rfl rfl rfl rfl ?_
        refine w_iload (p' := 82) rfl rfl rfl rfl ?_
        refine w_iload (p' := 83) rfl rfl rfl rfl ?_
        refine v_callI (M' := 84) (p' := 86) (rest := []) (as := [(.inr (.inr (.inl (some 113)))), (.inl v5), (.inl v1), (.inl v2)]) rfl rfl rfl rfl rfl rfl rfl rfl rfl rfl rfl rfl rfl h (fun r2 s1 h => ?_)
        refine w_if (t := 94) (e := 89) rfl rfl rfl (fun e => ?_) (fun e => ?_)
        · have h := h.1 e
          refine w_iload (p' := 96) rfl rfl rfl rfl ?_
          refine w_istore (p' := 98) (ls' := [some (.inr (.inr (.inl (some 113)))), some (.inl v1), some (.inl v2), some (.inl v3), some (.inl v4), some (.inl v5)]) rfl rfl rfl (Nat.le_of_ble_eq_true rfl) rfl ?_
          refine w_iinc (p' := 101) (ls' := [some (.inr (.inr (.inl (some 113)))), some (.inl v1), some (.inl v2), some (.inl v3), some (.inl v4), some (.inl (v5 + (-1)))]) rfl rfl rfl (Nat.le_of_ble_eq_true rfl) h.1 rfl ?_
          have h := h.2
          refine w_goto (p' := 58) rfl rfl ?_
          exact w_cut (q_le_s (q_le_s (q_le_s (q_le_s (q_le_s (q_le_s q_le_z)))))) h
        · have h := h.2 e
          refine w_iload (p' := 91) rfl rfl rfl rfl ?_
          refine w_goto (p' := 96) rfl rfl ?_
          refine w_istore (p' := 98) (ls' := [some (.inr (.inr (.inl (some 113)))), some (.inl v1), some (.inl v2), some (.inl v3), some (.inl v5), some (.inl v5)]) rfl rfl rfl (Nat.le_of_ble_eq_true rfl) rfl ?_
          refine w_iinc (p' := 101) (ls' := [some (.inr (.inr (.inl (some 113)))), some (.inl v1), some (.inl v2), some (.inl v3), some (.inl v5), some (.inl (v5 + (-1)))]) rfl rfl rfl (Nat.le_of_ble_eq_true rfl) h.1 rfl ?_
          have h := h.2
          refine w_goto (p' := 58) rfl rfl ?_
          exact w_cut (q_le_s (q_le_s (q_le_s (q_le_s (q_le_s (q_le_s q_le_z)))))) h
set_option maxRecDepth 20000 in
theorem sg_m_meant_112 {X : Nat × (Nat → Int32)}  {v1 v2 v3 v4 v5 : Int} {s : qM} {K : Int → qM → Prop} (h : (((v5 < 0) → K v4 s) ∧ (¬ (v5 < 0) → (((v3 = 0) → K v4 s) ∧ (¬ (v3 = 0) → ((0 : Int) ≤ v5) ∧ (v5 < (600 : Int)) ∧ ((((s 117 v5) ≠ 7) → (-2147483648 ≤ (v5 + (-1)) ∧ (v5 + (-1)) < 2147483648) ∧ L_m_meant_112 X v1 v2 v3 v4 (v5 + (-1)) s K) ∧ (¬ ((s 117 v5) ≠ 7) → c_m_isSameName X v5 v1 v2 s (fun r2 s1 => (((r2 ≠ 0) → (-2147483648 ≤ (v5 + (-1)) ∧ (v5 + (-1)) < 2147483648) ∧ L_m_meant_112 X v1 v2 v3 v5 (v5 + (-1)) s1 K) ∧ (¬ (r2 ≠ 0) → (((v4 = (-1)) → (-2147483648 ≤ (v5 + (-1)) ∧ (v5 + (-1)) < 2147483648) ∧ L_m_meant_112 X v1 v2 v3 v4 (v5 + (-1)) s1 K) ∧ (¬ (v4 = (-1)) → ((0 : Int) ≤ v4) ∧ (v4 < (600 : Int)) ∧ ((((s1 117 v4) ≠ 7) → (-2147483648 ≤ (v5 + (-1)) ∧ (v5 + (-1)) < 2147483648) ∧ L_m_meant_112 X v1 v2 v3 v4 (v5 + (-1)) s1 K) ∧ (¬ ((s1 117 v4) ≠ 7) → (-2147483648 ≤ (v5 + (-1)) ∧ (v5 + (-1)) < 2147483648) ∧ L_m_meant_112 X v1 v2 v3 v4 (v5 + (-1)) s1 K)))))))))))))) : L_m_meant_112 X v1 v2 v3 v4 v5 s K := by
  unfold L_m_meant_112
  refine w_iload (p' := 114) rfl rfl rfl rfl ?_
  refine w_if (t := 180) (e := 117) rfl rfl rfl (fun e => ?_) (fun e => ?_)
  · have h := h.1 e
    refine w_iload (p' := 182) rfl rfl rfl rfl ?_
    exact w_iret rfl trivial ⟨rfl, _, rfl, h⟩
  · have h := h.2 e
    refine w_iload (p' := 118) rfl rfl rfl rfl ?_
    refine w_if (t := 180) (e := 121) rfl rfl rfl (fun e => ?_) (fun e => ?_)
    · have h := h.1 e
      refine w_iload (p' := 182) rfl rfl rfl rfl ?_
      exact w_iret rfl trivial ⟨rfl, _, rfl, h⟩
    · have h := h.2 e
      refine w_aload (p' := 122) rfl rfl rfl rfl ?_
      refine w_getR (p' := 125) rfl rfl rfl rfl rfl ?_
      refine w_iload (p' := 127) rfl rfl rfl rfl ?_
      refine w_iald (p' := 128) (N := 600) rfl rfl rfl rfl h.1 h.2.1 ?_
      have h := h.2.2
      refine w_const (p' := 130) rfl rfl rfl ?_
      refine w_icmp (t := 170) (e := 133) rfl rfl rfl (fun e => ?_) (fun e => ?_)
      · have h := h.1 e
        refine w_iload (p' := 172) rfl rfl rfl rfl ?_
        refine w_istore (p' := 174) (ls' := [some (.inr (.inr (.inl (some 113)))), some (.inl v1), some (.inl v2), some (.inl v3), some (.inl v4), some (.inl v5)]) rfl rfl rfl (Nat.le_of_ble_eq_true rfl) rfl ?_
        refine w_iinc (p' := 177) (ls' := [some (.inr (.inr (.inl (some 113)))), some (.inl v1), some (.inl v2), some (.inl v3), some (.inl v4), some (.inl (v5 + (-1)))]) rfl rfl rfl (Nat.le_of_ble_eq_true rfl) h.1 rfl ?_
        have h := h.2
        refine w_goto (p' := 112) rfl rfl ?_
        exact w_cut (q_le_s (q_le_s (q_le_s (q_le_s (q_le_s (q_le_s q_le_z)))))) h
      · have h := h.2 e
        refine w_aload (p' := 134) rfl rfl rfl rfl ?_
        refine w_iload (p' := 136) rfl rfl rfl rfl ?_
        refine w_iload (p' := 137) rfl rfl rfl rfl ?_
        refine w_iload (p' := 138) rfl rfl rfl rfl ?_
        refine v_callI (M' := 84) (p' := 141) (rest := []) (as := [(.inr (.inr (.inl (some 113)))), (.inl v5), (.inl v1), (.inl v2)]) rfl rfl rfl rfl rfl rfl rfl rfl rfl rfl rfl rfl rfl h (fun r2 s1 h => ?_)
        refine w_if (t := 165) (e := 144) rfl rfl rfl (fun e => ?_) (fun e => ?_)
        · have h := h.1 e
          refine w_iload (p' := 167) rfl rfl rfl rfl ?_
          refine w_goto (p' := 172) rfl rfl ?_
          refine w_istore (p' := 174) (ls' := [some (.inr (.inr (.inl (some 113)))), some (.inl v1), some (.inl v2), some (.inl v3), some (.inl v5), some (.inl v5)]) rfl rfl rfl (Nat.le_of_ble_eq_true rfl) rfl ?_
          refine w_iinc (p' := 177) (ls' := [some (.inr (.inr (.inl (some 113)))), some (.inl v1), some (.inl v2), some (.inl v3), some (.inl v5), some (.inl (v5 + (-1)))]) rfl rfl rfl (Nat.le_of_ble_eq_true rfl) h.1 rfl ?_
          have h := h.2
          refine w_goto (p' := 112) rfl rfl ?_
          exact w_cut (q_le_s (q_le_s (q_le_s (q_le_s (q_le_s (q_le_s q_le_z)))))) h
        · have h := h.2 e
          refine w_iload (p' := 146) rfl rfl rfl rfl ?_
          refine w_const (p' := 147) rfl rfl rfl ?_
          refine w_icmp (t := 170) (e := 150) rfl rfl rfl (fun e => ?_) (fun e => ?_)
          · have h := h.1 e
            refine w_iload (p' := 172) rfl rfl rfl rfl ?_
            refine w_istore (p' := 174) (ls' := [some (.inr (.inr (.inl (some 113)))), some (.inl v1), some (.inl v2), some (.inl v3), some (.inl v4), some (.inl v5)]) rfl rfl rfl (Nat.le_of_ble_eq_true rfl) rfl ?_
            refine w_iinc (p' := 177) (ls' := [some (.inr (.inr (.inl (some 113)))), some (.inl v1), some (.inl v2), some (.inl v3), some (.inl v4), some (.inl (v5 + (-1)))]) rfl rfl rfl (Nat.le_of_ble_eq_true rfl) h.1 rfl ?_
            have h := h.2
            refine w_goto (p' := 112) rfl rfl ?_
            exact w_cut (q_le_s (q_le_s (q_le_s (q_le_s (q_le_s (q_le_s q_le_z)))))) h
          · have h := h.2 e
            refine w_aload (p' := 151) rfl rfl rfl rfl ?_
            refine w_getR (p' := 154) rfl rfl rfl rfl rfl ?_
            refine w_iload (p' := 156) rfl rfl rfl rfl ?_
            refine w_iald (p' := 157) (N := 600) rfl rfl rfl rfl h.1 h.2.1 ?_
            have h := h.2.2
            refine w_const (p' := 159) rfl rfl rfl ?_
            refine w_icmp (t := 170) (e := 162) rfl rfl rfl (fun e => ?_) (fun e => ?_)
            · have h := h.1 e
              refine w_iload (p' := 172) rfl rfl rfl rfl ?_
              refine w_istore (p' := 174) (ls' := [some (.inr (.inr (.inl (some 113)))), some (.inl v1), some (.inl v2), some (.inl v3), some (.inl v4), some (.inl v5)]) rfl rfl rfl (Nat.le_of_ble_eq_true rfl) rfl ?_
              refine w_iinc (p' := 177) (ls' := [some (.inr (.inr (.inl (some 113)))), some (.inl v1), some (.inl v2), some (.inl v3), some (.inl v4), some (.inl (v5 + (-1)))]) rfl rfl rfl (Nat.le_of_ble_eq_true rfl) h.1 rfl ?_
              have h := h.2
              refine w_goto (p' := 112) rfl rfl ?_
              exact w_cut (q_le_s (q_le_s (q_le_s (q_le_s (q_le_s (q_le_s q_le_z)))))) h
            · have h := h.2 e
              refine w_goto (p' := 170) rfl rfl ?_
              refine w_iload (p' := 172) rfl rfl rfl rfl ?_
              refine w_istore (p' := 174) (ls' := [some (.inr (.inr (.inl (some 113)))), some (.inl v1), some (.inl v2), some (.inl v3), some (.inl v4), some (.inl v5)]) rfl rfl rfl (Nat.le_of_ble_eq_true rfl) rfl ?_
              refine w_iinc (p' := 177) (ls' := [some (.inr (.inr (.inl (some 113)))), some (.inl v1), some (.inl v2), some (.inl v3), some (.inl v4), some (.inl (v5 + (-1)))]) rfl rfl rfl (Nat.le_of_ble_eq_true rfl) h.1 rfl ?_
              have h := h.2
              refine w_goto (p' := 112) rfl rfl ?_
              exact w_cut (q_le_s (q_le_s (q_le_s (q_le_s (q_le_s (q_le_s q_le_z)))))) h
set_option maxRecDepth 20000 in
theorem sg_m_nameBehind {X : Nat × (Nat → Int32)} {x1 : Int} {s : qM} {K : Int → qM → Prop} (h : L_m_nameBehind_2 X x1 0 s K) : c_m_nameBehind X x1 s K := by
  unfold c_m_nameBehind
  refine w_const (p' := 1) rfl rfl rfl ?_
  refine w_istore (p' := 2) (ls' := [some (.inr (.inr (.inl (some 113)))), some (.inl x1), some (.inl 0)]) rfl rfl rfl (Nat.le_of_ble_eq_true rfl) rfl ?_
  exact w_cut (q_le_s (q_le_s (q_le_s q_le_z))) h
set_option maxRecDepth 20000 in
theorem sg_m_nameBehind_2 {X : Nat × (Nat → Int32)}  {v1 v2 : Int} {s : qM} {K : Int → qM → Prop} (h : c_m_in X v1 s (fun r2 s1 => (((r2 ≠ 91) → c_m_isIn X v2 1 6 s1 (fun r4 s3 => (((r4 = 0) → K 0 s3) ∧ (¬ (r4 = 0) → (-2147483648 ≤ (v1 + 1) ∧ (v1 + 1) < 2147483648) ∧ (-2147483648 ≤ ((v1 + 1) + v2) ∧ ((v1 + 1) + v2) < 2147483648) ∧ c_m_in X ((v1 + 1) + v2) s3 (fun r6 s5 => (((r6 ≠ 93) → K 0 s5) ∧ (¬ (r6 ≠ 93) → K v2 s5))))))) ∧ (¬ (r2 ≠ 91) → (-2147483648 ≤ (v1 + 1) ∧ (v1 + 1) < 2147483648) ∧ (-2147483648 ≤ ((v1 + 1) + v2) ∧ ((v1 + 1) + v2) < 2147483648) ∧ c_m_in X ((v1 + 1) + v2) s1 (fun r8 s7 => c_m_isLetter X r8 s7 (fun r10 s9 => (((r10 = 0) → c_m_isIn X v2 1 6 s9 (fun r12 s11 => (((r12 = 0) → K 0 s11) ∧ (¬ (r12 = 0) → (-2147483648 ≤ (v1 + 1) ∧ (v1 + 1) < 2147483648) ∧ (-2147483648 ≤ ((v1 + 1) + v2) ∧ ((v1 + 1) + v2) < 2147483648) ∧ c_m_in X ((v1 + 1) + v2) s11 (fun r14 s13 => (((r14 ≠ 93) → K 0 s13) ∧ (¬ (r14 ≠ 93) → K v2 s13))))))) ∧ (¬ (r10 = 0) → (-2147483648 ≤ (v2 + 1) ∧ (v2 + 1) < 2147483648) ∧ L_m_nameBehind_2 X v1 (v2 + 1) s9 K)))))))) : L_m_nameBehind_2 X v1 v2 s K := by
  unfold L_m_nameBehind_2
  refine w_aload (p' := 3) rfl rfl rfl rfl ?_
  refine w_iload (p' := 4) rfl rfl rfl rfl ?_
  refine v_callI (M' := 78) (p' := 7) (rest := []) (as := [(.inr (.inr (.inl (some 113)))), (.inl v1)]) rfl rfl rfl rfl rfl rfl rfl rfl rfl rfl rfl rfl rfl h (fun r2 s1 h => ?_)
  refine w_const (p' := 9) rfl rfl rfl ?_
  refine w_icmp (t := 33) (e := 12) rfl rfl rfl (fun e => ?_) (fun e => ?_)
  · have h := h.1 e
    refine w_iload (p' := 34) rfl rfl rfl rfl ?_
    refine w_const (p' := 35) rfl rfl rfl ?_
    refine w_const (p' := 37) rfl rfl rfl ?_
    refine v_callI (M' := 47) (p' := 40) (rest := []) (as := [(.inl v2), (.inl 1), (.inl 6)]) rfl rfl rfl rfl rfl rfl rfl rfl rfl rfl rfl trivial rfl h (fun r4 s3 h => ?_)
    refine w_if (t := 61) (e := 43) rfl rfl rfl (fun e => ?_) (fun e => ?_)
    · have h := h.1 e
      refine w_const (p' := 62) rfl rfl rfl ?_
      exact w_iret rfl trivial ⟨rfl, _, rfl, h⟩
    · have h := h.2 e
      refine w_aload (p' := 44) rfl rfl rfl rfl ?_
      refine w_iload (p' := 45) rfl rfl rfl rfl ?_
      refine w_const (p' := 46) rfl rfl rfl ?_
      refine w_add (p' := 47) rfl rfl h.1 ?_
      have h := h.2
      refine w_iload (p' := 48) rfl rfl rfl rfl ?_
      refine w_add (p' := 49) rfl rfl h.1 ?_
      have h := h.2
      refine v_callI (M' := 78) (p' := 52) (rest := []) (as := [(.inr (.inr (.inl (some 113)))), (.inl ((v1 + 1) + v2))]) rfl rfl rfl rfl rfl rfl rfl rfl rfl rfl rfl rfl rfl h (fun r6 s5 h => ?_)
      refine w_const (p' := 54) rfl rfl rfl ?_
      refine w_icmp (t := 61) (e := 57) rfl rfl rfl (fun e => ?_) (fun e => ?_)
      · have h := h.1 e
        refine w_const (p' := 62) rfl rfl rfl ?_
        exact w_iret rfl trivial ⟨rfl, _, rfl, h⟩
      · have h := h.2 e
        refine w_iload (p' := 58) rfl rfl rfl rfl ?_
        refine w_goto (p' := 62) rfl rfl ?_
        exact w_iret rfl trivial ⟨rfl, _, rfl, h⟩
  · have h := h.2 e
    refine w_aload (p' := 13) rfl rfl rfl rfl ?_
    refine w_iload (p' := 14) rfl rfl rfl rfl ?_
    refine w_const (p' := 15) rfl rfl rfl ?_
    refine w_add (p' := 16) rfl rfl h.1 ?_
    have h := h.2
    refine w_iload (p' := 17) rfl rfl rfl rfl ?_
    refine w_add (p' := 18) rfl rfl h.1 ?_
    have h := h.2
    refine v_callI (M' := 78) (p' := 21) (rest := []) (as := [(.inr (.inr (.inl (some 113)))), (.inl ((v1 + 1) + v2))]) rfl rfl rfl rfl rfl rfl rfl rfl rfl rfl rfl rfl rfl h (fun r8 s7 h => ?_)
    refine v_callI (M' := 48) (p' := 24) (rest := []) (as := [(.inl r8)]) rfl rfl rfl rfl rfl rfl rfl rfl rfl rfl rfl trivial rfl h (fun r10 s9 h => ?_)
    refine w_if (t := 33) (e := 27) rfl rfl rfl (fun e => ?_) (fun e => ?_)
    · have h := h.1 e
      refine w_iload (p' := 34) rfl rfl rfl rfl ?_
      refine w_const (p' := 35) rfl rfl rfl ?_
      refine w_const (p' := 37) rfl rfl rfl ?_
      refine v_callI (M' := 47) (p' := 40) (rest := []) (as := [(.inl v2), (.inl 1), (.inl 6)]) rfl rfl rfl rfl rfl rfl rfl rfl rfl rfl rfl trivial rfl h (fun r12 s11 h => ?_)
      refine w_if (t := 61) (e := 43) rfl rfl rfl (fun e => ?_) (fun e => ?_)
      · have h := h.1 e
        refine w_const (p' := 62) rfl rfl rfl ?_
        exact w_iret rfl trivial ⟨rfl, _, rfl, h⟩
      · have h := h.2 e
        refine w_aload (p' := 44) rfl rfl rfl rfl ?_
        refine w_iload (p' := 45) rfl rfl rfl rfl ?_
        refine w_const (p' := 46) rfl rfl rfl ?_
        refine w_add (p' := 47) rfl rfl h.1 ?_
        have h := h.2
        refine w_iload (p' := 48) rfl rfl rfl rfl ?_
        refine w_add (p' := 49) rfl rfl h.1 ?_
        have h := h.2
        refine v_callI (M' := 78) (p' := 52) (rest := []) (as := [(.inr (.inr (.inl (some 113)))), (.inl ((v1 + 1) + v2))]) rfl rfl rfl rfl rfl rfl rfl rfl rfl rfl rfl rfl rfl h (fun r14 s13 h => ?_)
        refine w_const (p' := 54) rfl rfl rfl ?_
        refine w_icmp (t := 61) (e := 57) rfl rfl rfl (fun e => ?_) (fun e => ?_)
        · have h := h.1 e
          refine w_const (p' := 62) rfl rfl rfl ?_
          exact w_iret rfl trivial ⟨rfl, _, rfl, h⟩
        · have h := h.2 e
          refine w_iload (p' := 58) rfl rfl rfl rfl ?_
          refine w_goto (p' := 62) rfl rfl ?_
          exact w_iret rfl trivial ⟨rfl, _, rfl, h⟩
    · have h := h.2 e
      refine w_iinc (p' := 30) (ls' := [some (.inr (.inr (.inl (some 113)))), some (.inl v1), some (.inl (v2 + 1))]) rfl rfl rfl (Nat.le_of_ble_eq_true rfl) h.1 rfl ?_
      have h := h.2
      refine w_goto (p' := 2) rfl rfl ?_
      exact w_cut (q_le_s (q_le_s (q_le_s q_le_z))) h
set_option maxRecDepth 20000 in
theorem sg_m_lastOpen {X : Nat × (Nat → Int32)} {x1 : Int} {s : qM} {K : Int → qM → Prop} (h : L_m_lastOpen_4 X x1 (-1) 0 s K) : c_m_lastOpen X x1 s K := by
  unfold c_m_lastOpen
  refine w_const (p' := 1) rfl rfl rfl ?_
  refine w_istore (p' := 2) (ls' := [some (.inr (.inr (.inl (some 113)))), some (.inl x1), some (.inl (-1)), none]) rfl rfl rfl (Nat.le_of_ble_eq_true rfl) rfl ?_
  refine w_const (p' := 3) rfl rfl rfl ?_
  refine w_istore (p' := 4) (ls' := [some (.inr (.inr (.inl (some 113)))), some (.inl x1), some (.inl (-1)), some (.inl 0)]) rfl rfl rfl (Nat.le_of_ble_eq_true rfl) rfl ?_
  exact w_cut (q_le_s (q_le_s (q_le_s (q_le_s q_le_z)))) h
set_option maxRecDepth 20000 in
theorem sg_m_lastOpen_4 {X : Nat × (Nat → Int32)}  {v1 v2 v3 : Int} {s : qM} {K : Int → qM → Prop} (h : (((v1 ≤ v3) → K v2 s) ∧ (¬ (v1 ≤ v3) → ((0 : Int) ≤ v3) ∧ (v3 < (241 : Int)) ∧ ((((s 141 v3) ≠ 3) → (-2147483648 ≤ (v3 + 1) ∧ (v3 + 1) < 2147483648) ∧ L_m_lastOpen_4 X v1 v2 (v3 + 1) s K) ∧ (¬ ((s 141 v3) ≠ 3) → (-2147483648 ≤ (v3 + 1) ∧ (v3 + 1) < 2147483648) ∧ L_m_lastOpen_4 X v1 v3 (v3 + 1) s K))))) : L_m_lastOpen_4 X v1 v2 v3 s K := by
  unfold L_m_lastOpen_4
  refine w_iload (p' := 5) rfl rfl rfl rfl ?_
  refine w_iload (p' := 6) rfl rfl rfl rfl ?_
  refine w_icmp (t := 31) (e := 9) rfl rfl rfl (fun e => ?_) (fun e => ?_)
  · have h := h.1 e
    refine w_iload (p' := 32) rfl rfl rfl rfl ?_
    exact w_iret rfl trivial ⟨rfl, _, rfl, h⟩
  · have h := h.2 e
    refine w_aload (p' := 10) rfl rfl rfl rfl ?_
    refine w_getR (p' := 13) rfl rfl rfl rfl rfl ?_
    refine w_iload (p' := 14) rfl rfl rfl rfl ?_
    refine w_iald (p' := 15) (N := 241) rfl rfl rfl rfl h.1 h.2.1 ?_
    have h := h.2.2
    refine w_const (p' := 16) rfl rfl rfl ?_
    refine w_icmp (t := 23) (e := 19) rfl rfl rfl (fun e => ?_) (fun e => ?_)
    · have h := h.1 e
      refine w_iload (p' := 24) rfl rfl rfl rfl ?_
      refine w_istore (p' := 25) (ls' := [some (.inr (.inr (.inl (some 113)))), some (.inl v1), some (.inl v2), some (.inl v3)]) rfl rfl rfl (Nat.le_of_ble_eq_true rfl) rfl ?_
      refine w_iinc (p' := 28) (ls' := [some (.inr (.inr (.inl (some 113)))), some (.inl v1), some (.inl v2), some (.inl (v3 + 1))]) rfl rfl rfl (Nat.le_of_ble_eq_true rfl) h.1 rfl ?_
      have h := h.2
      refine w_goto (p' := 4) rfl rfl ?_
      exact w_cut (q_le_s (q_le_s (q_le_s (q_le_s q_le_z)))) h
    · have h := h.2 e
      refine w_iload (p' := 20) rfl rfl rfl rfl ?_
      refine w_goto (p' := 24) rfl rfl ?_
      refine w_istore (p' := 25) (ls' := [some (.inr (.inr (.inl (some 113)))), some (.inl v1), some (.inl v3), some (.inl v3)]) rfl rfl rfl (Nat.le_of_ble_eq_true rfl) rfl ?_
      refine w_iinc (p' := 28) (ls' := [some (.inr (.inr (.inl (some 113)))), some (.inl v1), some (.inl v3), some (.inl (v3 + 1))]) rfl rfl rfl (Nat.le_of_ble_eq_true rfl) h.1 rfl ?_
      have h := h.2
      refine w_goto (p' := 4) rfl rfl ?_
      exact w_cut (q_le_s (q_le_s (q_le_s (q_le_s q_le_z)))) h
