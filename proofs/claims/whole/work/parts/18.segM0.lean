/-! Segments, by program (wip/tools/seg.py). -/
set_option maxRecDepth 20000 in
theorem sg_m_thrown {X : Nat × (Nat → Int32)}  {s : qM} {K : Int → qM → Prop} (h : K (s 113 47) s) : c_m_thrown X  s K := by
  unfold c_m_thrown
  refine w_aload (p' := 1) rfl rfl rfl rfl ?_
  refine w_getI (p' := 4) (j := 47) rfl rfl (by decide) rfl rfl ?_
  exact w_iret rfl trivial ⟨rfl, _, rfl, h⟩
set_option maxRecDepth 20000 in
theorem sg_m_can {X : Nat × (Nat → Int32)} {x1 : Int} {s : qM} {K : Int → qM → Prop} (h : (∀ s1 : qM, s1 = q_up s 113 47 x1 → (((x1 ≠ 0) → K 0 s1) ∧ (¬ (x1 ≠ 0) → K 1 s1)))) : c_m_can X x1 s K := by
  unfold c_m_can
  refine w_aload (p' := 1) rfl rfl rfl rfl ?_
  refine w_iload (p' := 2) rfl rfl rfl rfl ?_
  refine v_putI (p' := 5) (j := 47) rfl rfl (by decide) rfl rfl trivial ?_
  intro s1 es1
  have h := h s1 es1
  refine w_iload (p' := 6) rfl rfl rfl rfl ?_
  refine w_if (t := 13) (e := 9) rfl rfl rfl (fun e => ?_) (fun e => ?_)
  · have h := h.1 e
    refine w_const (p' := 14) rfl rfl rfl ?_
    exact w_iret rfl ⟨by decide, by decide⟩ ⟨rfl, _, rfl, h⟩
  · have h := h.2 e
    refine w_const (p' := 10) rfl rfl rfl ?_
    refine w_goto (p' := 14) rfl rfl ?_
    exact w_iret rfl ⟨by decide, by decide⟩ ⟨rfl, _, rfl, h⟩
set_option maxRecDepth 20000 in
theorem sg_m_isIn {X : Nat × (Nat → Int32)} {x1 : Int} {x2 : Int} {x3 : Int} {s : qM} {K : Int → qM → Prop} (h : (((x1 < x2) → K 0 s) ∧ (¬ (x1 < x2) → (((x3 < x1) → K 0 s) ∧ (¬ (x3 < x1) → K 1 s))))) : c_m_isIn X x1 x2 x3 s K := by
  unfold c_m_isIn
  refine w_iload (p' := 1) rfl rfl rfl rfl ?_
  refine w_iload (p' := 2) rfl rfl rfl rfl ?_
  refine w_icmp (t := 14) (e := 5) rfl rfl rfl (fun e => ?_) (fun e => ?_)
  · have h := h.1 e
    refine w_const (p' := 15) rfl rfl rfl ?_
    exact w_iret rfl ⟨by decide, by decide⟩ ⟨rfl, _, rfl, h⟩
  · have h := h.2 e
    refine w_iload (p' := 6) rfl rfl rfl rfl ?_
    refine w_iload (p' := 7) rfl rfl rfl rfl ?_
    refine w_icmp (t := 14) (e := 10) rfl rfl rfl (fun e => ?_) (fun e => ?_)
    · have h := h.1 e
      refine w_const (p' := 15) rfl rfl rfl ?_
      exact w_iret rfl ⟨by decide, by decide⟩ ⟨rfl, _, rfl, h⟩
    · have h := h.2 e
      refine w_const (p' := 11) rfl rfl rfl ?_
      refine w_goto (p' := 15) rfl rfl ?_
      exact w_iret rfl ⟨by decide, by decide⟩ ⟨rfl, _, rfl, h⟩
set_option maxRecDepth 20000 in
theorem sg_m_isLetter {X : Nat × (Nat → Int32)} {x1 : Int} {s : qM} {K : Int → qM → Prop} (h : c_m_isIn X x1 97 122 s (fun r2 s1 => (((r2 ≠ 0) → K 1 s1) ∧ (¬ (r2 ≠ 0) → c_m_isIn X x1 65 90 s1 (fun r4 s3 => (((r4 ≠ 0) → K 1 s3) ∧ (¬ (r4 ≠ 0) → c_m_isIn X x1 48 57 s3 (fun r6 s5 => (((r6 = 0) → K 0 s5) ∧ (¬ (r6 = 0) → K 1 s5)))))))))) : c_m_isLetter X x1 s K := by
  unfold c_m_isLetter
  refine w_iload (p' := 1) rfl rfl rfl rfl ?_
  refine w_const (p' := 3) rfl rfl rfl ?_
  refine w_const (p' := 5) rfl rfl rfl ?_
  refine v_callI (M' := 47) (p' := 8) (rest := []) (as := [(.inl x1), (.inl 97), (.inl 122)]) rfl rfl rfl rfl rfl rfl rfl rfl rfl rfl rfl trivial rfl h (fun r2 s1 h => ?_)
  refine w_if (t := 33) (e := 11) rfl rfl rfl (fun e => ?_) (fun e => ?_)
  · have h := h.1 e
    refine w_const (p' := 34) rfl rfl rfl ?_
    refine w_goto (p' := 38) rfl rfl ?_
    exact w_iret rfl ⟨by decide, by decide⟩ ⟨rfl, _, rfl, h⟩
  · have h := h.2 e
    refine w_iload (p' := 12) rfl rfl rfl rfl ?_
    refine w_const (p' := 14) rfl rfl rfl ?_
    refine w_const (p' := 16) rfl rfl rfl ?_
    refine v_callI (M' := 47) (p' := 19) (rest := []) (as := [(.inl x1), (.inl 65), (.inl 90)]) rfl rfl rfl rfl rfl rfl rfl rfl rfl rfl rfl trivial rfl h (fun r4 s3 h => ?_)
    refine w_if (t := 33) (e := 22) rfl rfl rfl (fun e => ?_) (fun e => ?_)
    · have h := h.1 e
      refine w_const (p' := 34) rfl rfl rfl ?_
      refine w_goto (p' := 38) rfl rfl ?_
      exact w_iret rfl ⟨by decide, by decide⟩ ⟨rfl, _, rfl, h⟩
    · have h := h.2 e
      refine w_iload (p' := 23) rfl rfl rfl rfl ?_
      refine w_const (p' := 25) rfl rfl rfl ?_
      refine w_const (p' := 27) rfl rfl rfl ?_
      refine v_callI (M' := 47) (p' := 30) (rest := []) (as := [(.inl x1), (.inl 48), (.inl 57)]) rfl rfl rfl rfl rfl rfl rfl rfl rfl rfl rfl trivial rfl h (fun r6 s5 h => ?_)
      refine w_if (t := 37) (e := 33) rfl rfl rfl (fun e => ?_) (fun e => ?_)
      · have h := h.1 e
        refine w_const (p' := 38) rfl rfl rfl ?_
        exact w_iret rfl ⟨by decide, by decide⟩ ⟨rfl, _, rfl, h⟩
      · have h := h.2 e
        refine w_const (p' := 34) rfl rfl rfl ?_
        refine w_goto (p' := 38) rfl rfl ?_
        exact w_iret rfl ⟨by decide, by decide⟩ ⟨rfl, _, rfl, h⟩
set_option maxRecDepth 20000 in
theorem sg_m_isSign {X : Nat × (Nat → Int32)} {x1 : Int} {s : qM} {K : Int → qM → Prop} (h : c_m_isIn X x1 33 126 s (fun r2 s1 => (((r2 = 0) → K 0 s1) ∧ (¬ (r2 = 0) → c_m_isLetter X x1 s1 (fun r4 s3 => (((r4 ≠ 0) → K 0 s3) ∧ (¬ (r4 ≠ 0) → K 1 s3))))))) : c_m_isSign X x1 s K := by
  unfold c_m_isSign
  refine w_iload (p' := 1) rfl rfl rfl rfl ?_
  refine w_const (p' := 3) rfl rfl rfl ?_
  refine w_const (p' := 5) rfl rfl rfl ?_
  refine v_callI (M' := 47) (p' := 8) (rest := []) (as := [(.inl x1), (.inl 33), (.inl 126)]) rfl rfl rfl rfl rfl rfl rfl rfl rfl rfl rfl trivial rfl h (fun r2 s1 h => ?_)
  refine w_if (t := 22) (e := 11) rfl rfl rfl (fun e => ?_) (fun e => ?_)
  · have h := h.1 e
    refine w_const (p' := 23) rfl rfl rfl ?_
    exact w_iret rfl ⟨by decide, by decide⟩ ⟨rfl, _, rfl, h⟩
  · have h := h.2 e
    refine w_iload (p' := 12) rfl rfl rfl rfl ?_
    refine v_callI (M' := 48) (p' := 15) (rest := []) (as := [(.inl x1)]) rfl rfl rfl rfl rfl rfl rfl rfl rfl rfl rfl trivial rfl h (fun r4 s3 h => ?_)
    refine w_if (t := 22) (e := 18) rfl rfl rfl (fun e => ?_) (fun e => ?_)
    · have h := h.1 e
      refine w_const (p' := 23) rfl rfl rfl ?_
      exact w_iret rfl ⟨by decide, by decide⟩ ⟨rfl, _, rfl, h⟩
    · have h := h.2 e
      refine w_const (p' := 19) rfl rfl rfl ?_
      refine w_goto (p' := 23) rfl rfl ?_
      exact w_iret rfl ⟨by decide, by decide⟩ ⟨rfl, _, rfl, h⟩
set_option maxRecDepth 20000 in
theorem sg_m_put {X : Nat × (Nat → Int32)} {x1 : Int} {x2 : Int} {s : qM} {K : Int → qM → Prop} (h : (((x2 = 10) → L_m_put_22 X x1 x2 1 s K) ∧ (¬ (x2 = 10) → c_m_isIn X x2 32 126 s (fun r2 s1 => (((r2 = 0) → L_m_put_22 X x1 x2 0 s1 K) ∧ (¬ (r2 = 0) → L_m_put_22 X x1 x2 1 s1 K)))))) : c_m_put X x1 x2 s K := by
  unfold c_m_put
  refine w_iload (p' := 1) rfl rfl rfl rfl ?_
  refine w_const (p' := 3) rfl rfl rfl ?_
  refine w_icmp (t := 17) (e := 6) rfl rfl rfl (fun e => ?_) (fun e => ?_)
  · have h := h.1 e
    refine w_const (p' := 18) rfl rfl rfl ?_
    refine w_goto (p' := 22) rfl rfl ?_
    exact w_cut (q_le_s (q_le_s (q_le_s (q_le_n (q_le_n q_le_z))))) h
  · have h := h.2 e
    refine w_iload (p' := 7) rfl rfl rfl rfl ?_
    refine w_const (p' := 9) rfl rfl rfl ?_
    refine w_const (p' := 11) rfl rfl rfl ?_
    refine v_callI (M' := 47) (p' := 14) (rest := []) (as := [(.inl x2), (.inl 32), (.inl 126)]) rfl rfl rfl rfl rfl rfl rfl rfl rfl rfl rfl trivial rfl h (fun r2 s1 h => ?_)
    refine w_if (t := 21) (e := 17) rfl rfl rfl (fun e => ?_) (fun e => ?_)
    · have h := h.1 e
      refine w_const (p' := 22) rfl rfl rfl ?_
      exact w_cut (q_le_s (q_le_s (q_le_s (q_le_n (q_le_n q_le_z))))) h
    · have h := h.2 e
      refine w_const (p' := 18) rfl rfl rfl ?_
      refine w_goto (p' := 22) rfl rfl ?_
      exact w_cut (q_le_s (q_le_s (q_le_s (q_le_n (q_le_n q_le_z))))) h
set_option maxRecDepth 20000 in
theorem sg_m_put_22 {X : Nat × (Nat → Int32)}  {v1 v2 t0 : Int} {s : qM} {K : Int → qM → Prop} (h : c_m_isIn X v1 0 (s 113 0) s (fun r2 s1 => (((r2 ≠ 0) → (((t0 ≠ 0) → ((((s1 113 0) ≠ 240) → c_m_can X 0 s1 (fun r4 s3 => (((r4 ≠ 0) → L_m_put_77 X v1 v2 (s3 113 0) s3 K) ∧ (¬ (r4 ≠ 0) → K 0 s3)))) ∧ (¬ ((s1 113 0) ≠ 240) → c_m_can X 3 s1 (fun r6 s5 => (((r6 ≠ 0) → L_m_put_77 X v1 v2 (s5 113 0) s5 K) ∧ (¬ (r6 ≠ 0) → K 0 s5)))))) ∧ (¬ (t0 ≠ 0) → c_m_can X 2 s1 (fun r8 s7 => (((r8 ≠ 0) → L_m_put_77 X v1 v2 (s7 113 0) s7 K) ∧ (¬ (r8 ≠ 0) → K 0 s7)))))) ∧ (¬ (r2 ≠ 0) → c_m_can X 1 s1 (fun r10 s9 => (((r10 ≠ 0) → L_m_put_77 X v1 v2 (s9 113 0) s9 K) ∧ (¬ (r10 ≠ 0) → K 0 s9))))))) : L_m_put_22 X v1 v2 t0 s K := by
  unfold L_m_put_22
  refine w_istore (p' := 23) (ls' := [some (.inr (.inr (.inl (some 113)))), some (.inl v1), some (.inl v2), some (.inl t0), none]) rfl rfl rfl (Nat.le_of_ble_eq_true rfl) rfl ?_
  refine w_aload (p' := 24) rfl rfl rfl rfl ?_
  refine w_iload (p' := 25) rfl rfl rfl rfl ?_
  refine w_const (p' := 26) rfl rfl rfl ?_
  refine w_aload (p' := 27) rfl rfl rfl rfl ?_
  refine w_getI (p' := 30) (j := 0) rfl rfl (by decide) rfl rfl ?_
  refine v_callI (M' := 47) (p' := 33) (rest := [(.inr (.inr (.inl (some 113))))]) (as := [(.inl v1), (.inl 0), (.inl (s 113 0))]) rfl rfl rfl rfl rfl rfl rfl rfl rfl rfl rfl trivial rfl h (fun r2 s1 h => ?_)
  refine w_if (t := 40) (e := 36) rfl rfl rfl (fun e => ?_) (fun e => ?_)
  · have h := h.1 e
    refine w_iload (p' := 41) rfl rfl rfl rfl ?_
    refine w_if (t := 48) (e := 44) rfl rfl rfl (fun e => ?_) (fun e => ?_)
    · have h := h.1 e
      refine w_aload (p' := 49) rfl rfl rfl rfl ?_
      refine w_getI (p' := 52) (j := 0) rfl rfl (by decide) rfl rfl ?_
      refine w_const (p' := 55) rfl rfl rfl ?_
      refine w_icmp (t := 62) (e := 58) rfl rfl rfl (fun e => ?_) (fun e => ?_)
      · have h := h.1 e
        refine w_const (p' := 63) rfl rfl rfl ?_
        refine v_callI (M' := 46) (p' := 66) (rest := []) (as := [(.inr (.inr (.inl (some 113)))), (.inl 0)]) rfl rfl rfl rfl rfl rfl rfl rfl rfl rfl rfl rfl rfl h (fun r4 s3 h => ?_)
        refine w_if (t := 71) (e := 69) rfl rfl rfl (fun e => ?_) (fun e => ?_)
        · have h := h.1 e
          refine w_aload (p' := 72) rfl rfl rfl rfl ?_
          refine w_getI (p' := 75) (j := 0) rfl rfl (by decide) rfl rfl ?_
          refine w_istore (p' := 77) (ls' := [some (.inr (.inr (.inl (some 113)))), some (.inl v1), some (.inl v2), some (.inl t0), some (.inl (s3 113 0))]) rfl rfl rfl (Nat.le_of_ble_eq_true rfl) rfl ?_
          exact w_cut (q_le_s (q_le_s (q_le_s (q_le_n (q_le_s q_le_z))))) h
        · have h := h.2 e
          refine w_const (p' := 70) rfl rfl rfl ?_
          exact w_iret rfl trivial ⟨rfl, _, rfl, h⟩
      · have h := h.2 e
        refine w_const (p' := 59) rfl rfl rfl ?_
        refine w_goto (p' := 63) rfl rfl ?_
        refine v_callI (M' := 46) (p' := 66) (rest := []) (as := [(.inr (.inr (.inl (some 113)))), (.inl 3)]) rfl rfl rfl rfl rfl rfl rfl rfl rfl rfl rfl rfl rfl h (fun r6 s5 h => ?_)
        refine w_if (t := 71) (e := 69) rfl rfl rfl (fun e => ?_) (fun e => ?_)
        · have h := h.1 e
          refine w_aload (p' := 72) rfl rfl rfl rfl ?_
          refine w_getI (p' := 75) (j := 0) rfl rfl (by decide) rfl rfl ?_
          refine w_istore (p' := 77) (ls' := [some (.inr (.inr (.inl (some 113)))), some (.inl v1), some (.inl v2), some (.inl t0), some (.inl (s5 113 0))]) rfl rfl rfl (Nat.le_of_ble_eq_true rfl) rfl ?_
          exact w_cut (q_le_s (q_le_s (q_le_s (q_le_n (q_le_s q_le_z))))) h
        · have h := h.2 e
          refine w_const (p' := 70) rfl rfl rfl ?_
          exact w_iret rfl trivial ⟨rfl, _, rfl, h⟩
    · have h := h.2 e
      refine w_const (p' := 45) rfl rfl rfl ?_
      refine w_goto (p' := 63) rfl rfl ?_
      refine v_callI (M' := 46) (p' := 66) (rest := []) (as := [(.inr (.inr (.inl (some 113)))), (.inl 2)]) rfl rfl rfl rfl rfl rfl rfl rfl rfl rfl rfl rfl rfl h (fun r8 s7 h => ?_)
      refine w_if (t := 71) (e := 69) rfl rfl rfl (fun e => ?_) (fun e => ?_)
      · have h := h.1 e
        refine w_aload (p' := 72) rfl rfl rfl rfl ?_
        refine w_getI (p' := 75) (j := 0) rfl rfl (by decide) rfl rfl ?_
        refine w_istore (p' := 77) (ls' := [some (.inr (.inr (.inl (some 113)))), some (.inl v1), some (.inl v2), some (.inl t0), some (.inl (s7 113 0))]) rfl rfl rfl (Nat.le_of_ble_eq_true rfl) rfl ?_
        exact w_cut (q_le_s (q_le_s (q_le_s (q_le_n (q_le_s q_le_z))))) h
      · have h := h.2 e
        refine w_const (p' := 70) rfl rfl rfl ?_
        exact w_iret rfl trivial ⟨rfl, _, rfl, h⟩
  · have h := h.2 e
    refine w_const (p' := 37) rfl rfl rfl ?_
    refine w_goto (p' := 63) rfl rfl ?_
    refine v_callI (M' := 46) (p' := 66) (rest := []) (as := [(.inr (.inr (.inl (some 113)))), (.inl 1)]) rfl rfl rfl rfl rfl rfl rfl rfl rfl rfl rfl rfl rfl h (fun r10 s9 h => ?_)
    refine w_if (t := 71) (e := 69) rfl rfl rfl (fun e => ?_) (fun e => ?_)
    · have h := h.1 e
      refine w_aload (p' := 72) rfl rfl rfl rfl ?_
      refine w_getI (p' := 75) (j := 0) rfl rfl (by decide) rfl rfl ?_
      refine w_istore (p' := 77) (ls' := [some (.inr (.inr (.inl (some 113)))), some (.inl v1), some (.inl v2), some (.inl t0), some (.inl (s9 113 0))]) rfl rfl rfl (Nat.le_of_ble_eq_true rfl) rfl ?_
      exact w_cut (q_le_s (q_le_s (q_le_s (q_le_n (q_le_s q_le_z))))) h
    · have h := h.2 e
      refine w_const (p' := 70) rfl rfl rfl ?_
      exact w_iret rfl trivial ⟨rfl, _, rfl, h⟩
set_option maxRecDepth 20000 in
theorem sg_m_put_77 {X : Nat × (Nat → Int32)}  {v1 v2 v4 : Int} {s : qM} {K : Int → qM → Prop} (h : (((v4 ≤ v1) → ((0 : Int) ≤ v1) ∧ (v1 < (240 : Int)) ∧ (∀ s1 : qM, s1 = q_up s 114 v1 v2 → (-2147483648 ≤ ((s1 113 0) + 1) ∧ ((s1 113 0) + 1) < 2147483648) ∧ (∀ s2 : qM, s2 = q_up s1 113 0 ((s1 113 0) + 1) → K (s2 113 0) s2))) ∧ (¬ (v4 ≤ v1) → (-2147483648 ≤ (v4 - 1) ∧ (v4 - 1) < 2147483648) ∧ ((0 : Int) ≤ (v4 - 1)) ∧ ((v4 - 1) < (240 : Int)) ∧ ((0 : Int) ≤ v4) ∧ (v4 < (240 : Int)) ∧ (∀ s3 : qM, s3 = q_up s 114 v4 (s 114 (v4 - 1)) → (-2147483648 ≤ (v4 + (-1)) ∧ (v4 + (-1)) < 2147483648) ∧ L_m_put_77 X v1 v2 (v4 + (-1)) s3 K)))) : L_m_put_77 X v1 v2 v4 s K := by
  unfold L_m_put_77
  refine w_iload (p' := 79) rfl rfl rfl rfl ?_
  refine w_iload (p' := 80) rfl rfl rfl rfl ?_
  refine w_icmp (t := 105) (e := 83) rfl rfl rfl (fun e => ?_) (fun e => ?_)
  · have h := h.1 e
    refine w_aload (p' := 106) rfl rfl rfl rfl ?_
    refine w_getR (p' := 109) rfl rfl rfl rfl rfl ?_
    refine w_iload (p' := 110) rfl rfl rfl rfl ?_
    refine w_iload (p' := 111) rfl rfl rfl rfl ?_
    refine v_iast (p' := 112) (N := 240) rfl rfl rfl rfl h.1 h.2.1  ?_
    have h := h.2.2
    intro s1 es1
    have h := h s1 es1
    refine w_aload (p' := 113) rfl rfl rfl rfl ?_
    refine w_dup (p' := 114) rfl rfl rfl ?_
    refine w_getI (p' := 117) (j := 0) rfl rfl (by decide) rfl rfl ?_
    refine w_const (p' := 118) rfl rfl rfl ?_
    refine w_add (p' := 119) rfl rfl h.1 ?_
    have h := h.2
    refine v_putI (p' := 122) (j := 0) rfl rfl (by decide) rfl rfl trivial ?_
    intro s2 es2
    have h := h s2 es2
    refine w_aload (p' := 123) rfl rfl rfl rfl ?_
    refine w_getI (p' := 126) (j := 0) rfl rfl (by decide) rfl rfl ?_
    exact w_iret rfl trivial ⟨rfl, _, rfl, h⟩
  · have h := h.2 e
    refine w_aload (p' := 84) rfl rfl rfl rfl ?_
    refine w_getR (p' := 87) rfl rfl rfl rfl rfl ?_
    refine w_iload (p' := 89) rfl rfl rfl rfl ?_
    refine w_aload (p' := 90) rfl rfl rfl rfl ?_
    refine w_getR (p' := 93) rfl rfl rfl rfl rfl ?_
    refine w_iload (p' := 95) rfl rfl rfl rfl ?_
    refine w_const (p' := 96) rfl rfl rfl ?_
    refine w_sub (p' := 97) rfl rfl h.1 ?_
    have h := h.2
    refine w_iald (p' := 98) (N := 240) rfl rfl rfl rfl h.1 h.2.1 ?_
    have h := h.2.2
    refine v_iast (p' := 99) (N := 240) rfl rfl rfl rfl h.1 h.2.1  ?_
    have h := h.2.2
    intro s3 es3
    have h := h s3 es3
    refine w_iinc (p' := 102) (ls' := [some (.inr (.inr (.inl (some 113)))), some (.inl v1), some (.inl v2), none, some (.inl (v4 + (-1)))]) rfl rfl rfl (Nat.le_of_ble_eq_true rfl) h.1 rfl ?_
    have h := h.2
    refine w_goto (p' := 77) rfl rfl ?_
    exact w_cut (q_le_s (q_le_s (q_le_s (q_le_n (q_le_s q_le_z))))) h
set_option maxRecDepth 20000 in
theorem sg_m_takes {X : Nat × (Nat → Int32)} {x1 : Int} {x2 : Int} {s : qM} {K : qM → Prop} (h : (-2147483648 ≤ ((s 113 0) - x2) ∧ ((s 113 0) - x2) < 2147483648) ∧ (∀ s1 : qM, s1 = q_up s 113 0 ((s 113 0) - x2) → L_m_takes_12 X x2 x1 s1 K)) : c_m_takes X x1 x2 s K := by
  unfold c_m_takes
  refine w_aload (p' := 1) rfl rfl rfl rfl ?_
  refine w_dup (p' := 2) rfl rfl rfl ?_
  refine w_getI (p' := 5) (j := 0) rfl rfl (by decide) rfl rfl ?_
  refine w_iload (p' := 6) rfl rfl rfl rfl ?_
  refine w_sub (p' := 7) rfl rfl h.1 ?_
  have h := h.2
  refine v_putI (p' := 10) (j := 0) rfl rfl (by decide) rfl rfl trivial ?_
  intro s1 es1
  have h := h s1 es1
  refine w_iload (p' := 11) rfl rfl rfl rfl ?_
  refine w_istore (p' := 12) (ls' := [some (.inr (.inr (.inl (some 113)))), some (.inl x1), some (.inl x2), some (.inl x1)]) rfl rfl rfl (Nat.le_of_ble_eq_true rfl) rfl ?_
  exact w_cut (q_le_s (q_le_n (q_le_s (q_le_s q_le_z)))) h
set_option maxRecDepth 20000 in
theorem sg_m_takes_12 {X : Nat × (Nat → Int32)}  {v2 v3 : Int} {s : qM} {K : qM → Prop} (h : ((((s 113 0) ≤ v3) → K s) ∧ (¬ ((s 113 0) ≤ v3) → (-2147483648 ≤ (v3 + v2) ∧ (v3 + v2) < 2147483648) ∧ ((0 : Int) ≤ (v3 + v2)) ∧ ((v3 + v2) < (240 : Int)) ∧ ((0 : Int) ≤ v3) ∧ (v3 < (240 : Int)) ∧ (∀ s1 : qM, s1 = q_up s 114 v3 (s 114 (v3 + v2)) → (-2147483648 ≤ (v3 + 1) ∧ (v3 + 1) < 2147483648) ∧ L_m_takes_12 X v2 (v3 + 1) s1 K)))) : L_m_takes_12 X v2 v3 s K := by
  unfold L_m_takes_12
  refine w_iload (p' := 13) rfl rfl rfl rfl ?_
  refine w_aload (p' := 14) rfl rfl rfl rfl ?_
  refine w_getI (p' := 17) (j := 0) rfl rfl (by decide) rfl rfl ?_
  refine w_icmp (t := 40) (e := 20) rfl rfl rfl (fun e => ?_) (fun e => ?_)
  · have h := h.1 e
    exact w_vret rfl ⟨rfl, rfl, h⟩
  · have h := h.2 e
    refine w_aload (p' := 21) rfl rfl rfl rfl ?_
    refine w_getR (p' := 24) rfl rfl rfl rfl rfl ?_
    refine w_iload (p' := 25) rfl rfl rfl rfl ?_
    refine w_aload (p' := 26) rfl rfl rfl rfl ?_
    refine w_getR (p' := 29) rfl rfl rfl rfl rfl ?_
    refine w_iload (p' := 30) rfl rfl rfl rfl ?_
    refine w_iload (p' := 31) rfl rfl rfl rfl ?_
    refine w_add (p' := 32) rfl rfl h.1 ?_
    have h := h.2
    refine w_iald (p' := 33) (N := 240) rfl rfl rfl rfl h.1 h.2.1 ?_
    have h := h.2.2
    refine v_iast (p' := 34) (N := 240) rfl rfl rfl rfl h.1 h.2.1  ?_
    have h := h.2.2
    intro s1 es1
    have h := h s1 es1
    refine w_iinc (p' := 37) (ls' := [some (.inr (.inr (.inl (some 113)))), none, some (.inl v2), some (.inl (v3 + 1))]) rfl rfl rfl (Nat.le_of_ble_eq_true rfl) h.1 rfl ?_
    have h := h.2
    refine w_goto (p' := 12) rfl rfl ?_
    exact w_cut (q_le_s (q_le_n (q_le_s (q_le_s q_le_z)))) h
set_option maxRecDepth 20000 in
theorem sg_m_take {X : Nat × (Nat → Int32)} {x1 : Int} {x2 : Int} {s : qM} {K : Int → qM → Prop} (h : (-2147483648 ≤ ((s 113 0) - 1) ∧ ((s 113 0) - 1) < 2147483648) ∧ c_m_isIn X x1 0 ((s 113 0) - 1) s (fun r2 s1 => (((r2 ≠ 0) → (-2147483648 ≤ ((s1 113 0) - x1) ∧ ((s1 113 0) - x1) < 2147483648) ∧ c_m_isIn X x2 1 ((s1 113 0) - x1) s1 (fun r4 s3 => (((r4 = 0) → c_m_can X 2 s3 (fun r6 s5 => (((r6 ≠ 0) → c_m_takes X x1 x2 s5 (fun s7 => K (s7 113 0) s7)) ∧ (¬ (r6 ≠ 0) → K 0 s5)))) ∧ (¬ (r4 = 0) → c_m_can X 0 s3 (fun r9 s8 => (((r9 ≠ 0) → c_m_takes X x1 x2 s8 (fun s10 => K (s10 113 0) s10)) ∧ (¬ (r9 ≠ 0) → K 0 s8))))))) ∧ (¬ (r2 ≠ 0) → c_m_can X 1 s1 (fun r12 s11 => (((r12 ≠ 0) → c_m_takes X x1 x2 s11 (fun s13 => K (s13 113 0) s13)) ∧ (¬ (r12 ≠ 0) → K 0 s11))))))) : c_m_take X x1 x2 s K := by
  unfold c_m_take
  refine w_aload (p' := 1) rfl rfl rfl rfl ?_
  refine w_iload (p' := 2) rfl rfl rfl rfl ?_
  refine w_const (p' := 3) rfl rfl rfl ?_
  refine w_aload (p' := 4) rfl rfl rfl rfl ?_
  refine w_getI (p' := 7) (j := 0) rfl rfl (by decide) rfl rfl ?_
  refine w_const (p' := 8) rfl rfl rfl ?_
  refine w_sub (p' := 9) rfl rfl h.1 ?_
  have h := h.2
  refine v_callI (M' := 47) (p' := 12) (rest := [(.inr (.inr (.inl (some 113))))]) (as := [(.inl x1), (.inl 0), (.inl ((s 113 0) - 1))]) rfl rfl rfl rfl rfl rfl rfl rfl rfl rfl rfl trivial rfl h (fun r2 s1 h => ?_)
  refine w_if (t := 19) (e := 15) rfl rfl rfl (fun e => ?_) (fun e => ?_)
  · have h := h.1 e
    refine w_iload (p' := 20) rfl rfl rfl rfl ?_
    refine w_const (p' := 21) rfl rfl rfl ?_
    refine w_aload (p' := 22) rfl rfl rfl rfl ?_
    refine w_getI (p' := 25) (j := 0) rfl rfl (by decide) rfl rfl ?_
    refine w_iload (p' := 26) rfl rfl rfl rfl ?_
    refine w_sub (p' := 27) rfl rfl h.1 ?_
    have h := h.2
    refine v_callI (M' := 47) (p' := 30) (rest := [(.inr (.inr (.inl (some 113))))]) (as := [(.inl x2), (.inl 1), (.inl ((s1 113 0) - x1))]) rfl rfl rfl rfl rfl rfl rfl rfl rfl rfl rfl trivial rfl h (fun r4 s3 h => ?_)
    refine w_if (t := 37) (e := 33) rfl rfl rfl (fun e => ?_) (fun e => ?_)
    · have h := h.1 e
      refine w_const (p' := 38) rfl rfl rfl ?_
      refine v_callI (M' := 46) (p' := 41) (rest := []) (as := [(.inr (.inr (.inl (some 113)))), (.inl 2)]) rfl rfl rfl rfl rfl rfl rfl rfl rfl rfl rfl rfl rfl h (fun r6 s5 h => ?_)
      refine w_if (t := 46) (e := 44) rfl rfl rfl (fun e => ?_) (fun e => ?_)
      · have h := h.1 e
        refine w_aload (p' := 47) rfl rfl rfl rfl ?_
        refine w_iload (p' := 48) rfl rfl rfl rfl ?_
        refine w_iload (p' := 49) rfl rfl rfl rfl ?_
        refine v_callV (M' := 51) (p' := 52) (rest := []) (as := [(.inr (.inr (.inl (some 113)))), (.inl x1), (.inl x2)]) rfl rfl rfl rfl rfl rfl rfl rfl rfl rfl rfl rfl rfl h (fun s7 h => ?_)
        refine w_aload (p' := 53) rfl rfl rfl rfl ?_
        refine w_getI (p' := 56) (j := 0) rfl rfl (by decide) rfl rfl ?_
        exact w_iret rfl trivial ⟨rfl, _, rfl, h⟩
      · have h := h.2 e
        refine w_const (p' := 45) rfl rfl rfl ?_
        exact w_iret rfl trivial ⟨rfl, _, rfl, h⟩
    · have h := h.2 e
      refine w_const (p' := 34) rfl rfl rfl ?_
      refine w_goto (p' := 38) rfl rfl ?_
      refine v_callI (M' := 46) (p' := 41) (rest := []) (as := [(.inr (.inr (.inl (some 113)))), (.inl 0)]) rfl rfl rfl rfl rfl rfl rfl rfl rfl rfl rfl rfl rfl h (fun r9 s8 h => ?_)
      refine w_if (t := 46) (e := 44) rfl rfl rfl (fun e => ?_) (fun e => ?_)
      · have h := h.1 e
        refine w_aload (p' := 47) rfl rfl rfl rfl ?_
        refine w_iload (p' := 48) rfl rfl rfl rfl ?_
        refine w_iload (p' := 49) rfl rfl rfl rfl ?_
        refine v_callV (M' := 51) (p' := 52) (rest := []) (as := [(.inr (.inr (.inl (some 113)))), (.inl x1), (.inl x2)]) rfl rfl rfl rfl rfl rfl rfl rfl rfl rfl rfl rfl rfl h (fun s10 h => ?_)
        refine w_aload (p' := 53) rfl rfl rfl rfl ?_
        refine w_getI (p' := 56) (j := 0) rfl rfl (by decide) rfl rfl ?_
        exact w_iret rfl trivial ⟨rfl, _, rfl, h⟩
      · have h := h.2 e
        refine w_const (p' := 45) rfl rfl rfl ?_
        exact w_iret rfl trivial ⟨rfl, _, rfl, h⟩
  · have h := h.2 e
    refine w_const (p' := 16) rfl rfl rfl ?_
    refine w_goto (p' := 38) rfl rfl ?_
    refine v_callI (M' := 46) (p' := 41) (rest := []) (as := [(.inr (.inr (.inl (some 113)))), (.inl 1)]) rfl rfl rfl rfl rfl rfl rfl rfl rfl rfl rfl rfl rfl h (fun r12 s11 h => ?_)
    refine w_if (t := 46) (e := 44) rfl rfl rfl (fun e => ?_) (fun e => ?_)
    · have h := h.1 e
      refine w_aload (p' := 47) rfl rfl rfl rfl ?_
      refine w_iload (p' := 48) rfl rfl rfl rfl ?_
      refine w_iload (p' := 49) rfl rfl rfl rfl ?_
      refine v_callV (M' := 51) (p' := 52) (rest := []) (as := [(.inr (.inr (.inl (some 113)))), (.inl x1), (.inl x2)]) rfl rfl rfl rfl rfl rfl rfl rfl rfl rfl rfl rfl rfl h (fun s13 h => ?_)
      refine w_aload (p' := 53) rfl rfl rfl rfl ?_
      refine w_getI (p' := 56) (j := 0) rfl rfl (by decide) rfl rfl ?_
      exact w_iret rfl trivial ⟨rfl, _, rfl, h⟩
    · have h := h.2 e
      refine w_const (p' := 45) rfl rfl rfl ?_
      exact w_iret rfl trivial ⟨rfl, _, rfl, h⟩
set_option maxRecDepth 20000 in
theorem sg_m_length {X : Nat × (Nat → Int32)}  {s : qM} {K : Int → qM → Prop} (h : (∀ s1 : qM, s1 = q_up s 113 47 0 → K (s1 113 0) s1)) : c_m_length X  s K := by
  unfold c_m_length
  refine w_aload (p' := 1) rfl rfl rfl rfl ?_
  refine w_const (p' := 2) rfl rfl rfl ?_
  refine v_putI (p' := 5) (j := 47) rfl rfl (by decide) rfl rfl trivial ?_
  intro s1 es1
  have h := h s1 es1
  refine w_aload (p' := 6) rfl rfl rfl rfl ?_
  refine w_getI (p' := 9) (j := 0) rfl rfl (by decide) rfl rfl ?_
  exact w_iret rfl trivial ⟨rfl, _, rfl, h⟩
set_option maxRecDepth 20000 in
theorem sg_m_character {X : Nat × (Nat → Int32)} {x1 : Int} {s : qM} {K : Int → qM → Prop} (h : (-2147483648 ≤ ((s 113 0) - 1) ∧ ((s 113 0) - 1) < 2147483648) ∧ c_m_isIn X x1 0 ((s 113 0) - 1) s (fun r2 s1 => (((r2 = 0) → c_m_can X 1 s1 (fun r4 s3 => (((r4 = 0) → K 0 s3) ∧ (¬ (r4 = 0) → ((0 : Int) ≤ x1) ∧ (x1 < (240 : Int)) ∧ K (s3 114 x1) s3)))) ∧ (¬ (r2 = 0) → c_m_can X 0 s1 (fun r6 s5 => (((r6 = 0) → K 0 s5) ∧ (¬ (r6 = 0) → ((0 : Int) ≤ x1) ∧ (x1 < (240 : Int)) ∧ K (s5 114 x1) s5))))))) : c_m_character X x1 s K := by
  unfold c_m_character
  refine w_aload (p' := 1) rfl rfl rfl rfl ?_
  refine w_iload (p' := 2) rfl rfl rfl rfl ?_
  refine w_const (p' := 3) rfl rfl rfl ?_
  refine w_aload (p' := 4) rfl rfl rfl rfl ?_
  refine w_getI (p' := 7) (j := 0) rfl rfl (by decide) rfl rfl ?_
  refine w_const (p' := 8) rfl rfl rfl ?_
  refine w_sub (p' := 9) rfl rfl h.1 ?_
  have h := h.2
  refine v_callI (M' := 47) (p' := 12) (rest := [(.inr (.inr (.inl (some 113))))]) (as := [(.inl x1), (.inl 0), (.inl ((s 113 0) - 1))]) rfl rfl rfl rfl rfl rfl rfl rfl rfl rfl rfl trivial rfl h (fun r2 s1 h => ?_)
  refine w_if (t := 19) (e := 15) rfl rfl rfl (fun e => ?_) (fun e => ?_)
  · have h := h.1 e
    refine w_const (p' := 20) rfl rfl rfl ?_
    refine v_callI (M' := 46) (p' := 23) (rest := []) (as := [(.inr (.inr (.inl (some 113)))), (.inl 1)]) rfl rfl rfl rfl rfl rfl rfl rfl rfl rfl rfl rfl rfl h (fun r4 s3 h => ?_)
    refine w_if (t := 35) (e := 26) rfl rfl rfl (fun e => ?_) (fun e => ?_)
    · have h := h.1 e
      refine w_const (p' := 36) rfl rfl rfl ?_
      exact w_iret rfl trivial ⟨rfl, _, rfl, h⟩
    · have h := h.2 e
      refine w_aload (p' := 27) rfl rfl rfl rfl ?_
      refine w_getR (p' := 30) rfl rfl rfl rfl rfl ?_
      refine w_iload (p' := 31) rfl rfl rfl rfl ?_
      refine w_iald (p' := 32) (N := 240) rfl rfl rfl rfl h.1 h.2.1 ?_
      have h := h.2.2
      refine w_goto (p' := 36) rfl rfl ?_
      exact w_iret rfl trivial ⟨rfl, _, rfl, h⟩
  · have h := h.2 e
    refine w_const (p' := 16) rfl rfl rfl ?_
    refine w_goto (p' := 20) rfl rfl ?_
    refine v_callI (M' := 46) (p' := 23) (rest := []) (as := [(.inr (.inr (.inl (some 113)))), (.inl 0)]) rfl rfl rfl rfl rfl rfl rfl rfl rfl rfl rfl rfl rfl h (fun r6 s5 h => ?_)
    refine w_if (t := 35) (e := 26) rfl rfl rfl (fun e => ?_) (fun e => ?_)
    · have h := h.1 e
      refine w_const (p' := 36) rfl rfl rfl ?_
      exact w_iret rfl trivial ⟨rfl, _, rfl, h⟩
    · have h := h.2 e
      refine w_aload (p' := 27) rfl rfl rfl rfl ?_
      refine w_getR (p' := 30) rfl rfl rfl rfl rfl ?_
      refine w_iload (p' := 31) rfl rfl rfl rfl ?_
      refine w_iald (p' := 32) (N := 240) rfl rfl rfl rfl h.1 h.2.1 ?_
      have h := h.2.2
      refine w_goto (p' := 36) rfl rfl ?_
      exact w_iret rfl trivial ⟨rfl, _, rfl, h⟩
set_option maxRecDepth 20000 in
theorem sg_m_clear {X : Nat × (Nat → Int32)}  {s : qM} {K : Int → qM → Prop} (h : (∀ s1 : qM, s1 = q_up s 113 47 0 → (∀ s2 : qM, s2 = q_up s1 113 0 0 → K (s1 113 0) s2))) : c_m_clear X  s K := by
  unfold c_m_clear
  refine w_aload (p' := 1) rfl rfl rfl rfl ?_
  refine w_const (p' := 2) rfl rfl rfl ?_
  refine v_putI (p' := 5) (j := 47) rfl rfl (by decide) rfl rfl trivial ?_
  intro s1 es1
  have h := h s1 es1
  refine w_aload (p' := 6) rfl rfl rfl rfl ?_
  refine w_getI (p' := 9) (j := 0) rfl rfl (by decide) rfl rfl ?_
  refine w_istore (p' := 10) (ls' := [some (.inr (.inr (.inl (some 113)))), some (.inl (s1 113 0))]) rfl rfl rfl (Nat.le_of_ble_eq_true rfl) rfl ?_
  refine w_aload (p' := 11) rfl rfl rfl rfl ?_
  refine w_const (p' := 12) rfl rfl rfl ?_
  refine v_putI (p' := 15) (j := 0) rfl rfl (by decide) rfl rfl trivial ?_
  intro s2 es2
  have h := h s2 es2
  refine w_iload (p' := 16) rfl rfl rfl rfl ?_
  exact w_iret rfl trivial ⟨rfl, _, rfl, h⟩
set_option maxRecDepth 20000 in
theorem sg_m_endOf {X : Nat × (Nat → Int32)} {x1 : Int} {s : qM} {K : Int → qM → Prop} (h : L_m_endOf_2 X x1 s K) : c_m_endOf X x1 s K := by
  unfold c_m_endOf
  refine w_iload (p' := 1) rfl rfl rfl rfl ?_
  refine w_istore (p' := 2) (ls' := [some (.inr (.inr (.inl (some 113)))), some (.inl x1), some (.inl x1)]) rfl rfl rfl (Nat.le_of_ble_eq_true rfl) rfl ?_
  exact w_cut (q_le_s (q_le_n (q_le_s q_le_z))) h
set_option maxRecDepth 20000 in
theorem sg_m_endOf_2 {X : Nat × (Nat → Int32)}  {v2 : Int} {s : qM} {K : Int → qM → Prop} (h : ((((s 113 0) ≤ v2) → K v2 s) ∧ (¬ ((s 113 0) ≤ v2) → ((0 : Int) ≤ v2) ∧ (v2 < (240 : Int)) ∧ ((((s 114 v2) = 10) → K v2 s) ∧ (¬ ((s 114 v2) = 10) → (-2147483648 ≤ (v2 + 1) ∧ (v2 + 1) < 2147483648) ∧ L_m_endOf_2 X (v2 + 1) s K))))) : L_m_endOf_2 X v2 s K := by
  unfold L_m_endOf_2
  refine w_iload (p' := 3) rfl rfl rfl rfl ?_
  refine w_aload (p' := 4) rfl rfl rfl rfl ?_
  refine w_getI (p' := 7) (j := 0) rfl rfl (by decide) rfl rfl ?_
  refine w_icmp (t := 27) (e := 10) rfl rfl rfl (fun e => ?_) (fun e => ?_)
  · have h := h.1 e
    refine w_iload (p' := 28) rfl rfl rfl rfl ?_
    exact w_iret rfl trivial ⟨rfl, _, rfl, h⟩
  · have h := h.2 e
    refine w_aload (p' := 11) rfl rfl rfl rfl ?_
    refine w_getR (p' := 14) rfl rfl rfl rfl rfl ?_
    refine w_iload (p' := 15) rfl rfl rfl rfl ?_
    refine w_iald (p' := 16) (N := 240) rfl rfl rfl rfl h.1 h.2.1 ?_
    have h := h.2.2
    refine w_const (p' := 18) rfl rfl rfl ?_
    refine w_icmp (t := 27) (e := 21) rfl rfl rfl (fun e => ?_) (fun e => ?_)
    · have h := h.1 e
      refine w_iload (p' := 28) rfl rfl rfl rfl ?_
      exact w_iret rfl trivial ⟨rfl, _, rfl, h⟩
    · have h := h.2 e
      refine w_iinc (p' := 24) (ls' := [some (.inr (.inr (.inl (some 113)))), none, some (.inl (v2 + 1))]) rfl rfl rfl (Nat.le_of_ble_eq_true rfl) h.1 rfl ?_
      have h := h.2
      refine w_goto (p' := 2) rfl rfl ?_
      exact w_cut (q_le_s (q_le_n (q_le_s q_le_z))) h
set_option maxRecDepth 20000 in
theorem sg_m_isBlank {X : Nat × (Nat → Int32)} {x1 : Int} {x2 : Int} {s : qM} {K : Int → qM → Prop} (h : L_m_isBlank_5 X x2 1 x1 s K) : c_m_isBlank X x1 x2 s K := by
  unfold c_m_isBlank
  refine w_const (p' := 1) rfl rfl rfl ?_
  refine w_istore (p' := 2) (ls' := [some (.inr (.inr (.inl (some 113)))), some (.inl x1), some (.inl x2), some (.inl 1), none]) rfl rfl rfl (Nat.le_of_ble_eq_true rfl) rfl ?_
  refine w_iload (p' := 3) rfl rfl rfl rfl ?_
  refine w_istore (p' := 5) (ls' := [some (.inr (.inr (.inl (some 113)))), some (.inl x1), some (.inl x2), some (.inl 1), some (.inl x1)]) rfl rfl rfl (Nat.le_of_ble_eq_true rfl) rfl ?_
  exact w_cut (q_le_s (q_le_n (q_le_s (q_le_s (q_le_s q_le_z))))) h
set_option maxRecDepth 20000 in
theorem sg_m_isBlank_5 {X : Nat × (Nat → Int32)}  {v2 v3 v4 : Int} {s : qM} {K : Int → qM → Prop} (h : (((v2 ≤ v4) → (0 ≤ v3 ∧ v3 ≤ 1) ∧ K v3 s) ∧ (¬ (v2 ≤ v4) → (((v3 = 0) → (-2147483648 ≤ (v4 + 1) ∧ (v4 + 1) < 2147483648) ∧ L_m_isBlank_5 X v2 0 (v4 + 1) s K) ∧ (¬ (v3 = 0) → ((0 : Int) ≤ v4) ∧ (v4 < (240 : Int)) ∧ ((((s 114 v4) ≠ 32) → (-2147483648 ≤ (v4 + 1) ∧ (v4 + 1) < 2147483648) ∧ L_m_isBlank_5 X v2 0 (v4 + 1) s K) ∧ (¬ ((s 114 v4) ≠ 32) → (-2147483648 ≤ (v4 + 1) ∧ (v4 + 1) < 2147483648) ∧ L_m_isBlank_5 X v2 1 (v4 + 1) s K))))))) : L_m_isBlank_5 X v2 v3 v4 s K := by
  unfold L_m_isBlank_5
  refine w_iload (p' := 7) rfl rfl rfl rfl ?_
  refine w_iload (p' := 8) rfl rfl rfl rfl ?_
  refine w_icmp (t := 39) (e := 11) rfl rfl rfl (fun e => ?_) (fun e => ?_)
  · have h := h.1 e
    refine w_iload (p' := 40) rfl rfl rfl rfl ?_
    exact w_iret rfl h.1 ⟨rfl, _, rfl, h.2⟩
  · have h := h.2 e
    refine w_iload (p' := 12) rfl rfl rfl rfl ?_
    refine w_if (t := 31) (e := 15) rfl rfl rfl (fun e => ?_) (fun e => ?_)
    · have h := h.1 e
      refine w_const (p' := 32) rfl rfl rfl ?_
      refine w_istore (p' := 33) (ls' := [some (.inr (.inr (.inl (some 113)))), none, some (.inl v2), some (.inl 0), some (.inl v4)]) rfl rfl rfl (Nat.le_of_ble_eq_true rfl) rfl ?_
      refine w_iinc (p' := 36) (ls' := [some (.inr (.inr (.inl (some 113)))), none, some (.inl v2), some (.inl 0), some (.inl (v4 + 1))]) rfl rfl rfl (Nat.le_of_ble_eq_true rfl) h.1 rfl ?_
      have h := h.2
      refine w_goto (p' := 5) rfl rfl ?_
      exact w_cut (q_le_s (q_le_n (q_le_s (q_le_s (q_le_s q_le_z))))) h
    · have h := h.2 e
      refine w_aload (p' := 16) rfl rfl rfl rfl ?_
      refine w_getR (p' := 19) rfl rfl rfl rfl rfl ?_
      refine w_iload (p' := 21) rfl rfl rfl rfl ?_
      refine w_iald (p' := 22) (N := 240) rfl rfl rfl rfl h.1 h.2.1 ?_
      have h := h.2.2
      refine w_const (p' := 24) rfl rfl rfl ?_
      refine w_icmp (t := 31) (e := 27) rfl rfl rfl (fun e => ?_) (fun e => ?_)
      · have h := h.1 e
        refine w_const (p' := 32) rfl rfl rfl ?_
        refine w_istore (p' := 33) (ls' := [some (.inr (.inr (.inl (some 113)))), none, some (.inl v2), some (.inl 0), some (.inl v4)]) rfl rfl rfl (Nat.le_of_ble_eq_true rfl) rfl ?_
        refine w_iinc (p' := 36) (ls' := [some (.inr (.inr (.inl (some 113)))), none, some (.inl v2), some (.inl 0), some (.inl (v4 + 1))]) rfl rfl rfl (Nat.le_of_ble_eq_true rfl) h.1 rfl ?_
        have h := h.2
        refine w_goto (p' := 5) rfl rfl ?_
        exact w_cut (q_le_s (q_le_n (q_le_s (q_le_s (q_le_s q_le_z))))) h
      · have h := h.2 e
        refine w_const (p' := 28) rfl rfl rfl ?_
        refine w_goto (p' := 32) rfl rfl ?_
        refine w_istore (p' := 33) (ls' := [some (.inr (.inr (.inl (some 113)))), none, some (.inl v2), some (.inl 1), some (.inl v4)]) rfl rfl rfl (Nat.le_of_ble_eq_true rfl) rfl ?_
        refine w_iinc (p' := 36) (ls' := [some (.inr (.inr (.inl (some 113)))), none, some (.inl v2), some (.inl 1), some (.inl (v4 + 1))]) rfl rfl rfl (Nat.le_of_ble_eq_true rfl) h.1 rfl ?_
        have h := h.2
        refine w_goto (p' := 5) rfl rfl ?_
        exact w_cut (q_le_s (q_le_n (q_le_s (q_le_s (q_le_s q_le_z))))) h
set_option maxRecDepth 20000 in
theorem sg_m_isContainer {X : Nat × (Nat → Int32)} {x1 : Int} {s : qM} {K : Int → qM → Prop} (h : (((3 < x1) → K 0 s) ∧ (¬ (3 < x1) → K 1 s))) : c_m_isContainer X x1 s K := by
  unfold c_m_isContainer
  refine w_iload (p' := 1) rfl rfl rfl rfl ?_
  refine w_const (p' := 2) rfl rfl rfl ?_
  refine w_icmp (t := 9) (e := 5) rfl rfl rfl (fun e => ?_) (fun e => ?_)
  · have h := h.1 e
    refine w_const (p' := 10) rfl rfl rfl ?_
    exact w_iret rfl ⟨by decide, by decide⟩ ⟨rfl, _, rfl, h⟩
  · have h := h.2 e
    refine w_const (p' := 6) rfl rfl rfl ?_
    refine w_goto (p' := 10) rfl rfl ?_
    exact w_iret rfl ⟨by decide, by decide⟩ ⟨rfl, _, rfl, h⟩
set_option maxRecDepth 20000 in
theorem sg_m_closesIn {X : Nat × (Nat → Int32)} {x1 : Int} {s : qM} {K : qM → Prop} (h : ((0 : Int) ≤ x1) ∧ (x1 < (600 : Int)) ∧ L_m_closesIn_7 X (s 122 x1) s K) : c_m_closesIn X x1 s K := by
  unfold c_m_closesIn
  refine w_aload (p' := 1) rfl rfl rfl rfl ?_
  refine w_getR (p' := 4) rfl rfl rfl rfl rfl ?_
  refine w_iload (p' := 5) rfl rfl rfl rfl ?_
  refine w_iald (p' := 6) (N := 600) rfl rfl rfl rfl h.1 h.2.1 ?_
  have h := h.2.2
  refine w_istore (p' := 7) (ls' := [some (.inr (.inr (.inl (some 113)))), some (.inl x1), some (.inl (s 122 x1))]) rfl rfl rfl (Nat.le_of_ble_eq_true rfl) rfl ?_
  exact w_cut (q_le_s (q_le_n (q_le_s q_le_z))) h
set_option maxRecDepth 20000 in
theorem sg_m_closesIn_7 {X : Nat × (Nat → Int32)}  {v2 : Int} {s : qM} {K : qM → Prop} (h : (((v2 = (-1)) → K s) ∧ (¬ (v2 = (-1)) → ((0 : Int) ≤ v2) ∧ (v2 < (600 : Int)) ∧ (∀ s1 : qM, s1 = q_up s 119 v2 0 → ((0 : Int) ≤ v2) ∧ (v2 < (600 : Int)) ∧ L_m_closesIn_7 X (s1 122 v2) s1 K)))) : L_m_closesIn_7 X v2 s K := by
  unfold L_m_closesIn_7
  refine w_iload (p' := 8) rfl rfl rfl rfl ?_
  refine w_const (p' := 9) rfl rfl rfl ?_
  refine w_icmp (t := 29) (e := 12) rfl rfl rfl (fun e => ?_) (fun e => ?_)
  · have h := h.1 e
    exact w_vret rfl ⟨rfl, rfl, h⟩
  · have h := h.2 e
    refine w_aload (p' := 13) rfl rfl rfl rfl ?_
    refine w_getR (p' := 16) rfl rfl rfl rfl rfl ?_
    refine w_iload (p' := 17) rfl rfl rfl rfl ?_
    refine w_const (p' := 18) rfl rfl rfl ?_
    refine v_bast (p' := 19) (N := 600) rfl rfl rfl rfl h.1 h.2.1 (by decide) (by decide) ?_
    have h := h.2.2
    intro s1 es1
    have h := h s1 es1
    refine w_aload (p' := 20) rfl rfl rfl rfl ?_
    refine w_getR (p' := 23) rfl rfl rfl rfl rfl ?_
    refine w_iload (p' := 24) rfl rfl rfl rfl ?_
    refine w_iald (p' := 25) (N := 600) rfl rfl rfl rfl h.1 h.2.1 ?_
    have h := h.2.2
    refine w_istore (p' := 26) (ls' := [some (.inr (.inr (.inl (some 113)))), none, some (.inl (s1 122 v2))]) rfl rfl rfl (Nat.le_of_ble_eq_true rfl) rfl ?_
    refine w_goto (p' := 7) rfl rfl ?_
    exact w_cut (q_le_s (q_le_n (q_le_s q_le_z))) h
set_option maxRecDepth 20000 in
theorem sg_m_puts {X : Nat × (Nat → Int32)} {x1 : Int} {x2 : Int} {x3 : Int} {s : qM} {K : Int → qM → Prop} (h : c_m_closesIn X x1 s (fun s1 => ((0 : Int) ≤ x1) ∧ (x1 < (600 : Int)) ∧ ((((s1 117 x1) ≠ 2) → ((0 : Int) ≤ x1) ∧ (x1 < (600 : Int)) ∧ ((((s1 117 x1) ≠ 3) → L_m_puts_39 X x1 x2 x3 (-1) s1 K) ∧ (¬ ((s1 117 x1) ≠ 3) → ((0 : Int) ≤ x1) ∧ (x1 < (600 : Int)) ∧ L_m_puts_39 X x1 x2 x3 (s1 118 x1) s1 K))) ∧ (¬ ((s1 117 x1) ≠ 2) → L_m_puts_39 X x1 x2 x3 x1 s1 K)))) : c_m_puts X x1 x2 x3 s K := by
  unfold c_m_puts
  refine w_aload (p' := 1) rfl rfl rfl rfl ?_
  refine w_iload (p' := 2) rfl rfl rfl rfl ?_
  refine v_callV (M' := 59) (p' := 5) (rest := []) (as := [(.inr (.inr (.inl (some 113)))), (.inl x1)]) rfl rfl rfl rfl rfl rfl rfl rfl rfl rfl rfl rfl rfl h (fun s1 h => ?_)
  refine w_aload (p' := 6) rfl rfl rfl rfl ?_
  refine w_getR (p' := 9) rfl rfl rfl rfl rfl ?_
  refine w_iload (p' := 10) rfl rfl rfl rfl ?_
  refine w_iald (p' := 11) (N := 600) rfl rfl rfl rfl h.1 h.2.1 ?_
  have h := h.2.2
  refine w_const (p' := 12) rfl rfl rfl ?_
  refine w_icmp (t := 19) (e := 15) rfl rfl rfl (fun e => ?_) (fun e => ?_)
  · have h := h.1 e
    refine w_aload (p' := 20) rfl rfl rfl rfl ?_
    refine w_getR (p' := 23) rfl rfl rfl rfl rfl ?_
    refine w_iload (p' := 24) rfl rfl rfl rfl ?_
    refine w_iald (p' := 25) (N := 600) rfl rfl rfl rfl h.1 h.2.1 ?_
    have h := h.2.2
    refine w_const (p' := 26) rfl rfl rfl ?_
    refine w_icmp (t := 38) (e := 29) rfl rfl rfl (fun e => ?_) (fun e => ?_)
    · have h := h.1 e
      refine w_const (p' := 39) rfl rfl rfl ?_
      exact w_cut (q_le_s (q_le_s (q_le_s (q_le_s (q_le_n q_le_z))))) h
    · have h := h.2 e
      refine w_aload (p' := 30) rfl rfl rfl rfl ?_
      refine w_getR (p' := 33) rfl rfl rfl rfl rfl ?_
      refine w_iload (p' := 34) rfl rfl rfl rfl ?_
      refine w_iald (p' := 35) (N := 600) rfl rfl rfl rfl h.1 h.2.1 ?_
      have h := h.2.2
      refine w_goto (p' := 39) rfl rfl ?_
      exact w_cut (q_le_s (q_le_s (q_le_s (q_le_s (q_le_n q_le_z))))) h
  · have h := h.2 e
    refine w_iload (p' := 16) rfl rfl rfl rfl ?_
    refine w_goto (p' := 39) rfl rfl ?_
    exact w_cut (q_le_s (q_le_s (q_le_s (q_le_s (q_le_n q_le_z))))) h
set_option maxRecDepth 20000 in
theorem sg_m_puts_39 {X : Nat × (Nat → Int32)}  {v1 v2 v3 t0 : Int} {s : qM} {K : Int → qM → Prop} (h : (((t0 = (-1)) → ((0 : Int) ≤ (s 113 4)) ∧ ((s 113 4) < (600 : Int)) ∧ (∀ s1 : qM, s1 = q_up s 117 (s 113 4) v2 → ((0 : Int) ≤ (s1 113 4)) ∧ ((s1 113 4) < (600 : Int)) ∧ (∀ s2 : qM, s2 = q_up s1 118 (s1 113 4) v1 → (((v2 = 4) → L_m_puts_115 X v1 v3 (s2 113 4) 0 s2 K) ∧ (¬ (v2 = 4) → (((v2 = 7) → L_m_puts_115 X v1 v3 (s2 113 4) 0 s2 K) ∧ (¬ (v2 = 7) → L_m_puts_115 X v1 v3 (s2 113 4) 1 s2 K))))))) ∧ (¬ (t0 = (-1)) → ((((s 113 48) = 0) → ((0 : Int) ≤ (s 113 4)) ∧ ((s 113 4) < (600 : Int)) ∧ (∀ s3 : qM, s3 = q_up s 117 (s 113 4) v2 → ((0 : Int) ≤ (s3 113 4)) ∧ ((s3 113 4) < (600 : Int)) ∧ (∀ s4 : qM, s4 = q_up s3 118 (s3 113 4) v1 → (((v2 = 4) → L_m_puts_115 X v1 v3 (s4 113 4) 0 s4 K) ∧ (¬ (v2 = 4) → (((v2 = 7) → L_m_puts_115 X v1 v3 (s4 113 4) 0 s4 K) ∧ (¬ (v2 = 7) → L_m_puts_115 X v1 v3 (s4 113 4) 1 s4 K))))))) ∧ (¬ ((s 113 48) = 0) → ((0 : Int) ≤ v1) ∧ (v1 < (600 : Int)) ∧ ((((s 123 v1) ≤ 0) → ((0 : Int) ≤ (s 113 4)) ∧ ((s 113 4) < (600 : Int)) ∧ (∀ s5 : qM, s5 = q_up s 117 (s 113 4) v2 → ((0 : Int) ≤ (s5 113 4)) ∧ ((s5 113 4) < (600 : Int)) ∧ (∀ s6 : qM, s6 = q_up s5 118 (s5 113 4) v1 → (((v2 = 4) → L_m_puts_115 X v1 v3 (s6 113 4) 0 s6 K) ∧ (¬ (v2 = 4) → (((v2 = 7) → L_m_puts_115 X v1 v3 (s6 113 4) 0 s6 K) ∧ (¬ (v2 = 7) → L_m_puts_115 X v1 v3 (s6 113 4) 1 s6 K))))))) ∧ (¬ ((s 123 v1) ≤ 0) → ((0 : Int) ≤ t0) ∧ (t0 < (600 : Int)) ∧ (∀ s7 : qM, s7 = q_up s 121 t0 1 → ((0 : Int) ≤ (s7 113 4)) ∧ ((s7 113 4) < (600 : Int)) ∧ (∀ s8 : qM, s8 = q_up s7 117 (s7 113 4) v2 → ((0 : Int) ≤ (s8 113 4)) ∧ ((s8 113 4) < (600 : Int)) ∧ (∀ s9 : qM, s9 = q_up s8 118 (s8 113 4) v1 → (((v2 = 4) → L_m_puts_115 X v1 v3 (s9 113 4) 0 s9 K) ∧ (¬ (v2 = 4) → (((v2 = 7) → L_m_puts_115 X v1 v3 (s9 113 4) 0 s9 K) ∧ (¬ (v2 = 7) → L_m_puts_115 X v1 v3 (s9 113 4) 1 s9 K)))))))))))))) : L_m_puts_39 X v1 v2 v3 t0 s K := by
  unfold L_m_puts_39
  refine w_istore (p' := 41) (ls' := [some (.inr (.inr (.inl (some 113)))), some (.inl v1), some (.inl v2), some (.inl v3), some (.inl t0)]) rfl rfl rfl (Nat.le_of_ble_eq_true rfl) rfl ?_
  refine w_iload (p' := 43) rfl rfl rfl rfl ?_
  refine w_const (p' := 44) rfl rfl rfl ?_
  refine w_icmp (t := 71) (e := 47) rfl rfl rfl (fun e => ?_) (fun e => ?_)
  · have h := h.1 e
    refine w_aload (p' := 72) rfl rfl rfl rfl ?_
    refine w_getR (p' := 75) rfl rfl rfl rfl rfl ?_
    refine w_aload (p' := 76) rfl rfl rfl rfl ?_
    refine w_getI (p' := 79) (j := 4) rfl rfl (by decide) rfl rfl ?_
    refine w_iload (p' := 80) rfl rfl rfl rfl ?_
    refine v_iast (p' := 81) (N := 600) rfl rfl rfl rfl h.1 h.2.1  ?_
    have h := h.2.2
    intro s1 es1
    have h := h s1 es1
    refine w_aload (p' := 82) rfl rfl rfl rfl ?_
    refine w_getR (p' := 85) rfl rfl rfl rfl rfl ?_
    refine w_aload (p' := 86) rfl rfl rfl rfl ?_
    refine w_getI (p' := 89) (j := 4) rfl rfl (by decide) rfl rfl ?_
    refine w_iload (p' := 90) rfl rfl rfl rfl ?_
    refine v_iast (p' := 91) (N := 600) rfl rfl rfl rfl h.1 h.2.1  ?_
    have h := h.2.2
    intro s2 es2
    have h := h s2 es2
    refine w_aload (p' := 92) rfl rfl rfl rfl ?_
    refine w_getR (p' := 95) rfl rfl rfl rfl rfl ?_
    refine w_aload (p' := 96) rfl rfl rfl rfl ?_
    refine w_getI (p' := 99) (j := 4) rfl rfl (by decide) rfl rfl ?_
    refine w_iload (p' := 100) rfl rfl rfl rfl ?_
    refine w_const (p' := 101) rfl rfl rfl ?_
    refine w_icmp (t := 114) (e := 104) rfl rfl rfl (fun e => ?_) (fun e => ?_)
    · have h := h.1 e
      refine w_const (p' := 115) rfl rfl rfl ?_
      exact w_cut (q_le_s (q_le_s (q_le_n (q_le_s (q_le_n q_le_z))))) h
    · have h := h.2 e
      refine w_iload (p' := 105) rfl rfl rfl rfl ?_
      refine w_const (p' := 107) rfl rfl rfl ?_
      refine w_icmp (t := 114) (e := 110) rfl rfl rfl (fun e => ?_) (fun e => ?_)
      · have h := h.1 e
        refine w_const (p' := 115) rfl rfl rfl ?_
        exact w_cut (q_le_s (q_le_s (q_le_n (q_le_s (q_le_n q_le_z))))) h
      · have h := h.2 e
        refine w_const (p' := 111) rfl rfl rfl ?_
        refine w_goto (p' := 115) rfl rfl ?_
        exact w_cut (q_le_s (q_le_s (q_le_n (q_le_s (q_le_n q_le_z))))) h
  · have h := h.2 e
    refine w_aload (p' := 48) rfl rfl rfl rfl ?_
    refine w_getI (p' := 51) (j := 48) rfl rfl (by decide) rfl rfl ?_
    refine w_if (t := 71) (e := 54) rfl rfl rfl (fun e => ?_) (fun e => ?_)
    · have h := h.1 e
      refine w_aload (p' := 72) rfl rfl rfl rfl ?_
      refine w_getR (p' := 75) rfl rfl rfl rfl rfl ?_
      refine w_aload (p' := 76) rfl rfl rfl rfl ?_
      refine w_getI (p' := 79) (j := 4) rfl rfl (by decide) rfl rfl ?_
      refine w_iload (p' := 80) rfl rfl rfl rfl ?_
      refine v_iast (p' := 81) (N := 600) rfl rfl rfl rfl h.1 h.2.1  ?_
      have h := h.2.2
      intro s3 es3
      have h := h s3 es3
      refine w_aload (p' := 82) rfl rfl rfl rfl ?_
      refine w_getR (p' := 85) rfl rfl rfl rfl rfl ?_
      refine w_aload (p' := 86) rfl rfl rfl rfl ?_
      refine w_getI (p' := 89) (j := 4) rfl rfl (by decide) rfl rfl ?_
      refine w_iload (p' := 90) rfl rfl rfl rfl ?_
      refine v_iast (p' := 91) (N := 600) rfl rfl rfl rfl h.1 h.2.1  ?_
      have h := h.2.2
      intro s4 es4
      have h := h s4 es4
      refine w_aload (p' := 92) rfl rfl rfl rfl ?_
      refine w_getR (p' := 95) rfl rfl rfl rfl rfl ?_
      refine w_aload (p' := 96) rfl rfl rfl rfl ?_
      refine w_getI (p' := 99) (j := 4) rfl rfl (by decide) rfl rfl ?_
      refine w_iload (p' := 100) rfl rfl rfl rfl ?_
      refine w_const (p' := 101) rfl rfl rfl ?_
      refine w_icmp (t := 114) (e := 104) rfl rfl rfl (fun e => ?_) (fun e => ?_)
      · have h := h.1 e
        refine w_const (p' := 115) rfl rfl rfl ?_
        exact w_cut (q_le_s (q_le_s (q_le_n (q_le_s (q_le_n q_le_z))))) h
      · have h := h.2 e
        refine w_iload (p' := 105) rfl rfl rfl rfl ?_
        refine w_const (p' := 107) rfl rfl rfl ?_
        refine w_icmp (t := 114) (e := 110) rfl rfl rfl (fun e => ?_) (fun e => ?_)
        · have h := h.1 e
          refine w_const (p' := 115) rfl rfl rfl ?_
          exact w_cut (q_le_s (q_le_s (q_le_n (q_le_s (q_le_n q_le_z))))) h
        · have h := h.2 e
          refine w_const (p' := 111) rfl rfl rfl ?_
          refine w_goto (p' := 115) rfl rfl ?_
          exact w_cut (q_le_s (q_le_s (q_le_n (q_le_s (q_le_n q_le_z))))) h
    · have h := h.2 e
      refine w_aload (p' := 55) rfl rfl rfl rfl ?_
      refine w_getR (p' := 58) rfl rfl rfl rfl rfl ?_
      refine w_iload (p' := 59) rfl rfl rfl rfl ?_
      refine w_iald (p' := 60) (N := 600) rfl rfl rfl rfl h.1 h.2.1 ?_
      have h := h.2.2
      refine w_if (t := 71) (e := 63) rfl rfl rfl (fun e => ?_) (fun e => ?_)
      · have h := h.1 e
        refine w_aload (p' := 72) rfl rfl rfl rfl ?_
        refine w_getR (p' := 75) rfl rfl rfl rfl rfl ?_
        refine w_aload (p' := 76) rfl rfl rfl rfl ?_
        refine w_getI (p' := 79) (j := 4) rfl rfl (by decide) rfl rfl ?_
        refine w_iload (p' := 80) rfl rfl rfl rfl ?_
        refine v_iast (p' := 81) (N := 600) rfl rfl rfl rfl h.1 h.2.1  ?_
        have h := h.2.2
        intro s5 es5
        have h := h s5 es5
        refine w_aload (p' := 82) rfl rfl rfl rfl ?_
        refine w_getR (p' := 85) rfl rfl rfl rfl rfl ?_
        refine w_aload (p' := 86) rfl rfl rfl rfl ?_
        refine w_getI (p' := 89) (j := 4) rfl rfl (by decide) rfl rfl ?_
        refine w_iload (p' := 90) rfl rfl rfl rfl ?_
        refine v_iast (p' := 91) (N := 600) rfl rfl rfl rfl h.1 h.2.1  ?_
        have h := h.2.2
        intro s6 es6
        have h := h s6 es6
        refine w_aload (p' := 92) rfl rfl rfl rfl ?_
        refine w_getR (p' := 95) rfl rfl rfl rfl rfl ?_
        refine w_aload (p' := 96) rfl rfl rfl rfl ?_
        refine w_getI (p' := 99) (j := 4) rfl rfl (by decide) rfl rfl ?_
        refine w_iload (p' := 100) rfl rfl rfl rfl ?_
        refine w_const (p' := 101) rfl rfl rfl ?_
        refine w_icmp (t := 114) (e := 104) rfl rfl rfl (fun e => ?_) (fun e => ?_)
        · have h := h.1 e
          refine w_const (p' := 115) rfl rfl rfl ?_
          exact w_cut (q_le_s (q_le_s (q_le_n (q_le_s (q_le_n q_le_z))))) h
        · have h := h.2 e
          refine w_iload (p' := 105) rfl rfl rfl rfl ?_
          refine w_const (p' := 107) rfl rfl rfl ?_
          refine w_icmp (t := 114) (e := 110) rfl rfl rfl (fun e => ?_) (fun e => ?_)
          · have h := h.1 e
            refine w_const (p' := 115) rfl rfl rfl ?_
            exact w_cut (q_le_s (q_le_s (q_le_n (q_le_s (q_le_n q_le_z))))) h
          · have h := h.2 e
            refine w_const (p' := 111) rfl rfl rfl ?_
            refine w_goto (p' := 115) rfl rfl ?_
            exact w_cut (q_le_s (q_le_s (q_le_n (q_le_s (q_le_n q_le_z))))) h
      · have h := h.2 e
        refine w_aload (p' := 64) rfl rfl rfl rfl ?_
        refine w_getR (p' := 67) rfl rfl rfl rfl rfl ?_
        refine w_iload (p' := 69) rfl rfl rfl rfl ?_
        refine w_const (p' := 70) rfl rfl rfl ?_
        refine v_bast (p' := 71) (N := 600) rfl rfl rfl rfl h.1 h.2.1 (by decide) (by decide) ?_
        have h := h.2.2
        intro s7 es7
        have h := h s7 es7
        refine w_aload (p' := 72) rfl rfl rfl rfl ?_
        refine w_getR (p' := 75) rfl rfl rfl rfl rfl ?_
        refine w_aload (p' := 76) rfl rfl rfl rfl ?_
        refine w_getI (p' := 79) (j := 4) rfl rfl (by decide) rfl rfl ?_
        refine w_iload (p' := 80) rfl rfl rfl rfl ?_
        refine v_iast (p' := 81) (N := 600) rfl rfl rfl rfl h.1 h.2.1  ?_
        have h := h.2.2
        intro s8 es8
        have h := h s8 es8
        refine w_aload (p' := 82) rfl rfl rfl rfl ?_
        refine w_getR (p' := 85) rfl rfl rfl rfl rfl ?_
        refine w_aload (p' := 86) rfl rfl rfl rfl ?_
        refine w_getI (p' := 89) (j := 4) rfl rfl (by decide) rfl rfl ?_
        refine w_iload (p' := 90) rfl rfl rfl rfl ?_
        refine v_iast (p' := 91) (N := 600) rfl rfl rfl rfl h.1 h.2.1  ?_
        have h := h.2.2
        intro s9 es9
        have h := h s9 es9
        refine w_aload (p' := 92) rfl rfl rfl rfl ?_
        refine w_getR (p' := 95) rfl rfl rfl rfl rfl ?_
        refine w_aload (p' := 96) rfl rfl rfl rfl ?_
        refine w_getI (p' := 99) (j := 4) rfl rfl (by decide) rfl rfl ?_
        refine w_iload (p' := 100) rfl rfl rfl rfl ?_
        refine w_const (p' := 101) rfl rfl rfl ?_
        refine w_icmp (t := 114) (e := 104) rfl rfl rfl (fun e => ?_) (fun e => ?_)
        · have h := h.1 e
          refine w_const (p' := 115) rfl rfl rfl ?_
          exact w_cut (q_le_s (q_le_s (q_le_n (q_le_s (q_le_n q_le_z))))) h
        · have h := h.2 e
          refine w_iload (p' := 105) rfl rfl rfl rfl ?_
          refine w_const (p' := 107) rfl rfl rfl ?_
          refine w_icmp (t := 114) (e := 110) rfl rfl rfl (fun e => ?_) (fun e => ?_)
          · have h := h.1 e
            refine w_const (p' := 115) rfl rfl rfl ?_
            exact w_cut (q_le_s (q_le_s (q_le_n (q_le_s (q_le_n q_le_z))))) h
          · have h := h.2 e
            refine w_const (p' := 111) rfl rfl rfl ?_
            refine w_goto (p' := 115) rfl rfl ?_
            exact w_cut (q_le_s (q_le_s (q_le_n (q_le_s (q_le_n q_le_z))))) h
set_option maxRecDepth 20000 in
theorem sg_m_puts_115 {X : Nat × (Nat → Int32)}  {v1 v3 t1 t2 : Int} {s : qM} {K : Int → qM → Prop} (h : ((0 : Int) ≤ t1) ∧ (t1 < (600 : Int)) ∧ (0 ≤ t2) ∧ (t2 ≤ 1) ∧ (∀ s1 : qM, s1 = q_up s 119 t1 t2 → ((0 : Int) ≤ (s1 113 4)) ∧ ((s1 113 4) < (600 : Int)) ∧ (∀ s2 : qM, s2 = q_up s1 120 (s1 113 4) v3 → ((0 : Int) ≤ (s2 113 4)) ∧ ((s2 113 4) < (600 : Int)) ∧ (∀ s3 : qM, s3 = q_up s2 121 (s2 113 4) 0 → ((0 : Int) ≤ (s3 113 4)) ∧ ((s3 113 4) < (600 : Int)) ∧ (∀ s4 : qM, s4 = q_up s3 122 (s3 113 4) (-1) → ((0 : Int) ≤ (s4 113 4)) ∧ ((s4 113 4) < (600 : Int)) ∧ (∀ s5 : qM, s5 = q_up s4 123 (s4 113 4) 0 → ((0 : Int) ≤ v1) ∧ (v1 < (600 : Int)) ∧ (∀ s6 : qM, s6 = q_up s5 122 v1 (s5 113 4) → ((0 : Int) ≤ v1) ∧ (v1 < (600 : Int)) ∧ (-2147483648 ≤ ((s6 123 v1) + 1) ∧ ((s6 123 v1) + 1) < 2147483648) ∧ ((0 : Int) ≤ v1) ∧ (v1 < (600 : Int)) ∧ (∀ s7 : qM, s7 = q_up s6 123 v1 ((s6 123 v1) + 1) → (-2147483648 ≤ ((s7 113 4) + 1) ∧ ((s7 113 4) + 1) < 2147483648) ∧ (∀ s8 : qM, s8 = q_up s7 113 4 ((s7 113 4) + 1) → (-2147483648 ≤ ((s8 113 4) - 1) ∧ ((s8 113 4) - 1) < 2147483648) ∧ K ((s8 113 4) - 1) s8))))))))) : L_m_puts_115 X v1 v3 t1 t2 s K := by
  unfold L_m_puts_115
  refine v_bast (p' := 116) (N := 600) rfl rfl rfl rfl h.1 h.2.1 h.2.2.1 h.2.2.2.1 ?_
  have h := h.2.2.2.2
  intro s1 es1
  have h := h s1 es1
  refine w_aload (p' := 117) rfl rfl rfl rfl ?_
  refine w_getR (p' := 120) rfl rfl rfl rfl rfl ?_
  refine w_aload (p' := 121) rfl rfl rfl rfl ?_
  refine w_getI (p' := 124) (j := 4) rfl rfl (by decide) rfl rfl ?_
  refine w_iload (p' := 125) rfl rfl rfl rfl ?_
  refine v_iast (p' := 126) (N := 600) rfl rfl rfl rfl h.1 h.2.1  ?_
  have h := h.2.2
  intro s2 es2
  have h := h s2 es2
  refine w_aload (p' := 127) rfl rfl rfl rfl ?_
  refine w_getR (p' := 130) rfl rfl rfl rfl rfl ?_
  refine w_aload (p' := 131) rfl rfl rfl rfl ?_
  refine w_getI (p' := 134) (j := 4) rfl rfl (by decide) rfl rfl ?_
  refine w_const (p' := 135) rfl rfl rfl ?_
  refine v_bast (p' := 136) (N := 600) rfl rfl rfl rfl h.1 h.2.1 (by decide) (by decide) ?_
  have h := h.2.2
  intro s3 es3
  have h := h s3 es3
  refine w_aload (p' := 137) rfl rfl rfl rfl ?_
  refine w_getR (p' := 140) rfl rfl rfl rfl rfl ?_
  refine w_aload (p' := 141) rfl rfl rfl rfl ?_
  refine w_getI (p' := 144) (j := 4) rfl rfl (by decide) rfl rfl ?_
  refine w_const (p' := 145) rfl rfl rfl ?_
  refine v_iast (p' := 146) (N := 600) rfl rfl rfl rfl h.1 h.2.1  ?_
  have h := h.2.2
  intro s4 es4
  have h := h s4 es4
  refine w_aload (p' := 147) rfl rfl rfl rfl ?_
  refine w_getR (p' := 150) rfl rfl rfl rfl rfl ?_
  refine w_aload (p' := 151) rfl rfl rfl rfl ?_
  refine w_getI (p' := 154) (j := 4) rfl rfl (by decide) rfl rfl ?_
  refine w_const (p' := 155) rfl rfl rfl ?_
  refine v_iast (p' := 156) (N := 600) rfl rfl rfl rfl h.1 h.2.1  ?_
  have h := h.2.2
  intro s5 es5
  have h := h s5 es5
  refine w_aload (p' := 157) rfl rfl rfl rfl ?_
  refine w_getR (p' := 160) rfl rfl rfl rfl rfl ?_
  refine w_iload (p' := 161) rfl rfl rfl rfl ?_
  refine w_aload (p' := 162) rfl rfl rfl rfl ?_
  refine w_getI (p' := 165) (j := 4) rfl rfl (by decide) rfl rfl ?_
  refine v_iast (p' := 166) (N := 600) rfl rfl rfl rfl h.1 h.2.1  ?_
  have h := h.2.2
  intro s6 es6
  have h := h s6 es6
  refine w_aload (p' := 167) rfl rfl rfl rfl ?_
  refine w_getR (p' := 170) rfl rfl rfl rfl rfl ?_
  refine w_iload (p' := 171) rfl rfl rfl rfl ?_
  refine w_dup2 (p' := 172) rfl rfl rfl rfl ?_
  refine w_iald (p' := 173) (N := 600) rfl rfl rfl rfl h.1 h.2.1 ?_
  have h := h.2.2
  refine w_const (p' := 174) rfl rfl rfl ?_
  refine w_add (p' := 175) rfl rfl h.1 ?_
  have h := h.2
  refine v_iast (p' := 176) (N := 600) rfl rfl rfl rfl h.1 h.2.1  ?_
  have h := h.2.2
  intro s7 es7
  have h := h s7 es7
  refine w_aload (p' := 177) rfl rfl rfl rfl ?_
  refine w_dup (p' := 178) rfl rfl rfl ?_
  refine w_getI (p' := 181) (j := 4) rfl rfl (by decide) rfl rfl ?_
  refine w_const (p' := 182) rfl rfl rfl ?_
  refine w_add (p' := 183) rfl rfl h.1 ?_
  have h := h.2
  refine v_putI (p' := 186) (j := 4) rfl rfl (by decide) rfl rfl trivial ?_
  intro s8 es8
  have h := h s8 es8
  refine w_aload (p' := 187) rfl rfl rfl rfl ?_
  refine w_getI (p' := 190) (j := 4) rfl rfl (by decide) rfl rfl ?_
  refine w_const (p' := 191) rfl rfl rfl ?_
  refine w_sub (p' := 192) rfl rfl h.1 ?_
  have h := h.2
  exact w_iret rfl trivial ⟨rfl, _, rfl, h⟩
set_option maxRecDepth 20000 in
theorem sg_m_owns {X : Nat × (Nat → Int32)} {x1 : Int} {x2 : Int} {x3 : Int} {s : qM} {K : qM → Prop} (h : L_m_owns_3 X x2 x3 x1 s K) : c_m_owns X x1 x2 x3 s K := by
  unfold c_m_owns
  refine w_iload (p' := 1) rfl rfl rfl rfl ?_
  refine w_istore (p' := 3) (ls' := [some (.inr (.inr (.inl (some 113)))), some (.inl x1), some (.inl x2), some (.inl x3), some (.inl x1)]) rfl rfl rfl (Nat.le_of_ble_eq_true rfl) rfl ?_
  exact w_cut (q_le_s (q_le_n (q_le_s (q_le_s (q_le_s q_le_z))))) h
set_option maxRecDepth 20000 in
theorem sg_m_owns_3 {X : Nat × (Nat → Int32)}  {v2 v3 v4 : Int} {s : qM} {K : qM → Prop} (h : (((v2 ≤ v4) → K s) ∧ (¬ (v2 ≤ v4) → ((0 : Int) ≤ v4) ∧ (v4 < (240 : Int)) ∧ (∀ s1 : qM, s1 = q_up s 129 v4 v3 → (-2147483648 ≤ (v4 + 1) ∧ (v4 + 1) < 2147483648) ∧ L_m_owns_3 X v2 v3 (v4 + 1) s1 K)))) : L_m_owns_3 X v2 v3 v4 s K := by
  unfold L_m_owns_3
  refine w_iload (p' := 5) rfl rfl rfl rfl ?_
  refine w_iload (p' := 6) rfl rfl rfl rfl ?_
  refine w_icmp (t := 23) (e := 9) rfl rfl rfl (fun e => ?_) (fun e => ?_)
  · have h := h.1 e
    exact w_vret rfl ⟨rfl, rfl, h⟩
  · have h := h.2 e
    refine w_aload (p' := 10) rfl rfl rfl rfl ?_
    refine w_getR (p' := 13) rfl rfl rfl rfl rfl ?_
    refine w_iload (p' := 15) rfl rfl rfl rfl ?_
    refine w_iload (p' := 16) rfl rfl rfl rfl ?_
    refine v_iast (p' := 17) (N := 240) rfl rfl rfl rfl h.1 h.2.1  ?_
    have h := h.2.2
    intro s1 es1
    have h := h s1 es1
    refine w_iinc (p' := 20) (ls' := [some (.inr (.inr (.inl (some 113)))), none, some (.inl v2), some (.inl v3), some (.inl (v4 + 1))]) rfl rfl rfl (Nat.le_of_ble_eq_true rfl) h.1 rfl ?_
    have h := h.2
    refine w_goto (p' := 3) rfl rfl ?_
    exact w_cut (q_le_s (q_le_n (q_le_s (q_le_s (q_le_s q_le_z))))) h
set_option maxRecDepth 20000 in
theorem sg_m_goesOn {X : Nat × (Nat → Int32)} {x1 : Int} {s : qM} {K : Int → qM → Prop} (h : ((0 : Int) ≤ x1) ∧ (x1 < (600 : Int)) ∧ ((((s 117 x1) ≠ 1) → ((0 : Int) ≤ x1) ∧ (x1 < (600 : Int)) ∧ ((((s 117 x1) ≠ 3) → c_m_owns X (s 113 49) (s 113 49) x1 s (fun s1 => K 1 s1)) ∧ (¬ ((s 117 x1) ≠ 3) → ((0 : Int) ≤ x1) ∧ (x1 < (600 : Int)) ∧ c_m_isBlank X (s 113 49) (s 113 50) s (fun r3 s2 => (((r3 = 0) → (-2147483648 ≤ ((s2 113 49) + (s 120 x1)) ∧ ((s2 113 49) + (s 120 x1)) < 2147483648) ∧ ((((s2 113 50) < ((s2 113 49) + (s 120 x1))) → K 0 s2) ∧ (¬ ((s2 113 50) < ((s2 113 49) + (s 120 x1))) → (-2147483648 ≤ ((s2 113 49) + (s 120 x1)) ∧ ((s2 113 49) + (s 120 x1)) < 2147483648) ∧ c_m_isBlank X (s2 113 49) ((s2 113 49) + (s 120 x1)) s2 (fun r5 s4 => (((r5 = 0) → K 0 s4) ∧ (¬ (r5 = 0) → (-2147483648 ≤ ((s4 113 49) + (s 120 x1)) ∧ ((s4 113 49) + (s 120 x1)) < 2147483648) ∧ (∀ s6 : qM, s6 = q_up s4 113 49 ((s4 113 49) + (s 120 x1)) → c_m_owns X (s 113 49) (s6 113 49) x1 s6 (fun s7 => K 1 s7)))))))) ∧ (¬ (r3 = 0) → (∀ s8 : qM, s8 = q_up s2 113 49 (s2 113 50) → c_m_owns X (s 113 49) (s8 113 49) x1 s8 (fun s9 => K 1 s9)))))))) ∧ (¬ ((s 117 x1) ≠ 1) → ((((s 113 49) = (s 113 50)) → K 0 s) ∧ (¬ ((s 113 49) = (s 113 50)) → ((0 : Int) ≤ (s 113 49)) ∧ ((s 113 49) < (240 : Int)) ∧ ((((s 114 (s 113 49)) = 62) → (-2147483648 ≤ ((s 113 49) + 1) ∧ ((s 113 49) + 1) < 2147483648) ∧ ((((s 113 50) ≤ ((s 113 49) + 1)) → (-2147483648 ≤ ((s 113 49) + 1) ∧ ((s 113 49) + 1) < 2147483648) ∧ (∀ s10 : qM, s10 = q_up s 113 49 ((s 113 49) + 1) → c_m_owns X (s 113 49) (s10 113 49) x1 s10 (fun s11 => K 1 s11))) ∧ (¬ ((s 113 50) ≤ ((s 113 49) + 1)) → (-2147483648 ≤ ((s 113 49) + 1) ∧ ((s 113 49) + 1) < 2147483648) ∧ ((0 : Int) ≤ ((s 113 49) + 1)) ∧ (((s 113 49) + 1) < (240 : Int)) ∧ ((((s 114 ((s 113 49) + 1)) ≠ 32) → (-2147483648 ≤ ((s 113 49) + 1) ∧ ((s 113 49) + 1) < 2147483648) ∧ (∀ s12 : qM, s12 = q_up s 113 49 ((s 113 49) + 1) → c_m_owns X (s 113 49) (s12 113 49) x1 s12 (fun s13 => K 1 s13))) ∧ (¬ ((s 114 ((s 113 49) + 1)) ≠ 32) → (-2147483648 ≤ ((s 113 49) + 2) ∧ ((s 113 49) + 2) < 2147483648) ∧ (∀ s14 : qM, s14 = q_up s 113 49 ((s 113 49) + 2) → c_m_owns X (s 113 49) (s14 113 49) x1 s14 (fun s15 => K 1 s15))))))) ∧ (¬ ((s 114 (s 113 49)) = 62) → K 0 s))))))) : c_m_goesOn X x1 s K := by
  unfold c_m_goesOn
  refine w_aload (p' := 1) rfl rfl rfl rfl ?_
  refine w_getI (p' := 4) (j := 49) rfl rfl (by decide) rfl rfl ?_
  refine w_istore (p' := 5) (ls' := [some (.inr (.inr (.inl (some 113)))), some (.inl x1), some (.inl (s 113 49)), none]) rfl rfl rfl (Nat.le_of_ble_eq_true rfl) rfl ?_
  refine w_aload (p' := 6) rfl rfl rfl rfl ?_
  refine w_getR (p' := 9) rfl rfl rfl rfl rfl ?_
  refine w_iload (p' := 10) rfl rfl rfl rfl ?_
  refine w_iald (p' := 11) (N := 600) rfl rfl rfl rfl h.1 h.2.1 ?_
  have h := h.2.2
  refine w_const (p' := 12) rfl rfl rfl ?_
  refine w_icmp (t := 88) (e := 15) rfl rfl rfl (fun e => ?_) (fun e => ?_)
  · have h := h.1 e
    refine w_aload (p' := 89) rfl rfl rfl rfl ?_
    refine w_getR (p' := 92) rfl rfl rfl rfl rfl ?_
    refine w_iload (p' := 93) rfl rfl rfl rfl ?_
    refine w_iald (p' := 94) (N := 600) rfl rfl rfl rfl h.1 h.2.1 ?_
    have h := h.2.2
    refine w_const (p' := 95) rfl rfl rfl ?_
    refine w_icmp (t := 176) (e := 98) rfl rfl rfl (fun e => ?_) (fun e => ?_)
    · have h := h.1 e
      refine w_aload (p' := 177) rfl rfl rfl rfl ?_
      refine w_iload (p' := 178) rfl rfl rfl rfl ?_
      refine w_aload (p' := 179) rfl rfl rfl rfl ?_
      refine w_getI (p' := 182) (j := 49) rfl rfl (by decide) rfl rfl ?_
      refine w_iload (p' := 183) rfl rfl rfl rfl ?_
      refine v_callV (M' := 61) (p' := 186) (rest := []) (as := [(.inr (.inr (.inl (some 113)))), (.inl (s 113 49)), (.inl (s 113 49)), (.inl x1)]) rfl rfl rfl rfl rfl rfl rfl rfl rfl rfl rfl rfl rfl h (fun s1 h => ?_)
      refine w_const (p' := 187) rfl rfl rfl ?_
      exact w_iret rfl ⟨by decide, by decide⟩ ⟨rfl, _, rfl, h⟩
    · have h := h.2 e
      refine w_aload (p' := 99) rfl rfl rfl rfl ?_
      refine w_getR (p' := 102) rfl rfl rfl rfl rfl ?_
      refine w_iload (p' := 103) rfl rfl rfl rfl ?_
      refine w_iald (p' := 104) (N := 600) rfl rfl rfl rfl h.1 h.2.1 ?_
      have h := h.2.2
      refine w_istore (p' := 105) (ls' := [some (.inr (.inr (.inl (some 113)))), some (.inl x1), some (.inl (s 113 49)), some (.inl (s 120 x1))]) rfl rfl rfl (Nat.le_of_ble_eq_true rfl) rfl ?_
      refine w_aload (p' := 106) rfl rfl rfl rfl ?_
      refine w_aload (p' := 107) rfl rfl rfl rfl ?_
      refine w_getI (p' := 110) (j := 49) rfl rfl (by decide) rfl rfl ?_
      refine w_aload (p' := 111) rfl rfl rfl rfl ?_
      refine w_getI (p' := 114) (j := 50) rfl rfl (by decide) rfl rfl ?_
      refine v_callI (M' := 57) (p' := 117) (rest := []) (as := [(.inr (.inr (.inl (some 113)))), (.inl (s 113 49)), (.inl (s 113 50))]) rfl rfl rfl rfl rfl rfl rfl rfl rfl rfl rfl rfl rfl h (fun r3 s2 h => ?_)
      refine w_if (t := 131) (e := 120) rfl rfl rfl (fun e => ?_) (fun e => ?_)
      · have h := h.1 e
        refine w_aload (p' := 132) rfl rfl rfl rfl ?_
        refine w_getI (p' := 135) (j := 49) rfl rfl (by decide) rfl rfl ?_
        refine w_iload (p' := 136) rfl rfl rfl rfl ?_
        refine w_add (p' := 137) rfl rfl h.1 ?_
        have h := h.2
        refine w_aload (p' := 138) rfl rfl rfl rfl ?_
        refine w_getI (p' := 141) (j := 50) rfl rfl (by decide) rfl rfl ?_
        refine w_icmp (t := 174) (e := 144) rfl rfl rfl (fun e => ?_) (fun e => ?_)
        · have h := h.1 e
          refine w_const (p' := 175) rfl rfl rfl ?_
          exact w_iret rfl ⟨by decide, by decide⟩ ⟨rfl, _, rfl, h⟩
        · have h := h.2 e
          refine w_aload (p' := 145) rfl rfl rfl rfl ?_
          refine w_aload (p' := 146) rfl rfl rfl rfl ?_
          refine w_getI (p' := 149) (j := 49) rfl rfl (by decide) rfl rfl ?_
          refine w_aload (p' := 150) rfl rfl rfl rfl ?_
          refine w_getI (p' := 153) (j := 49) rfl rfl (by decide) rfl rfl ?_
          refine w_iload (p' := 154) rfl rfl rfl rfl ?_
          refine w_add (p' := 155) rfl rfl h.1 ?_
          have h := h.2
          refine v_callI (M' := 57) (p' := 158) (rest := []) (as := [(.inr (.inr (.inl (some 113)))), (.inl (s2 113 49)), (.inl ((s2 113 49) + (s 120 x1)))]) rfl rfl rfl rfl rfl rfl rfl rfl rfl rfl rfl rfl rfl h (fun r5 s4 h => ?_)
          refine w_if (t := 174) (e := 161) rfl rfl rfl (fun e => ?_) (fun e => ?_)
          · have h := h.1 e
            refine w_const (p' := 175) rfl rfl rfl ?_
            exact w_iret rfl ⟨by decide, by decide⟩ ⟨rfl, _, rfl, h⟩
          · have h := h.2 e
            refine w_aload (p' := 162) rfl rfl rfl rfl ?_
            refine w_dup (p' := 163) rfl rfl rfl ?_
            refine w_getI (p' := 166) (j := 49) rfl rfl (by decide) rfl rfl ?_
            refine w_iload (p' := 167) rfl rfl rfl rfl ?_
            refine w_add (p' := 168) rfl rfl h.1 ?_
            have h := h.2
            refine v_putI (p' := 171) (j := 49) rfl rfl (by decide) rfl rfl trivial ?_
            intro s6 es6
            have h := h s6 es6
            refine w_goto (p' := 176) rfl rfl ?_
            refine w_aload (p' := 177) rfl rfl rfl rfl ?_
            refine w_iload (p' := 178) rfl rfl rfl rfl ?_
            refine w_aload (p' := 179) rfl rfl rfl rfl ?_
            refine w_getI (p' := 182) (j := 49) rfl rfl (by decide) rfl rfl ?_
            refine w_iload (p' := 183) rfl rfl rfl rfl ?_
            refine v_callV (M' := 61) (p' := 186) (rest := []) (as := [(.inr (.inr (.inl (some 113)))), (.inl (s 113 49)), (.inl (s6 113 49)), (.inl x1)]) rfl rfl rfl rfl rfl rfl rfl rfl rfl rfl rfl rfl rfl h (fun s7 h => ?_)
            refine w_const (p' := 187) rfl rfl rfl ?_
            exact w_iret rfl ⟨by decide, by decide⟩ ⟨rfl, _, rfl, h⟩
      · have h := h.2 e
        refine w_aload (p' := 121) rfl rfl rfl rfl ?_
        refine w_aload (p' := 122) rfl rfl rfl rfl ?_
        refine w_getI (p' := 125) (j := 50) rfl rfl (by decide) rfl rfl ?_
        refine v_putI (p' := 128) (j := 49) rfl rfl (by decide) rfl rfl trivial ?_
        intro s8 es8
        have h := h s8 es8
        refine w_goto (p' := 176) rfl rfl ?_
        refine w_aload (p' := 177) rfl rfl rfl rfl ?_
        refine w_iload (p' := 178) rfl rfl rfl rfl ?_
        refine w_aload (p' := 179) rfl rfl rfl rfl ?_
        refine w_getI (p' := 182) (j := 49) rfl rfl (by decide) rfl rfl ?_
        refine w_iload (p' := 183) rfl rfl rfl rfl ?_
        refine v_callV (M' := 61) (p' := 186) (rest := []) (as := [(.inr (.inr (.inl (some 113)))), (.inl (s 113 49)), (.inl (s8 113 49)), (.inl x1)]) rfl rfl rfl rfl rfl rfl rfl rfl rfl rfl rfl rfl rfl h (fun s9 h => ?_)
        refine w_const (p' := 187) rfl rfl rfl ?_
        exact w_iret rfl ⟨by decide, by decide⟩ ⟨rfl, _, rfl, h⟩
  · have h := h.2 e
    refine w_aload (p' := 16) rfl rfl rfl rfl ?_
    refine w_getI (p' := 19) (j := 49) rfl rfl (by decide) rfl rfl ?_
    refine w_aload (p' := 20) rfl rfl rfl rfl ?_
    refine w_getI (p' := 23) (j := 50) rfl rfl (by decide) rfl rfl ?_
    refine w_icmp (t := 40) (e := 26) rfl rfl rfl (fun e => ?_) (fun e => ?_)
    · have h := h.1 e
      refine w_const (p' := 41) rfl rfl rfl ?_
      exact w_iret rfl ⟨by decide, by decide⟩ ⟨rfl, _, rfl, h⟩
    · have h := h.2 e
      refine w_aload (p' := 27) rfl rfl rfl rfl ?_
      refine w_getR (p' := 30) rfl rfl rfl rfl rfl ?_
      refine w_aload (p' := 31) rfl rfl rfl rfl ?_
      refine w_getI (p' := 34) (j := 49) rfl rfl (by decide) rfl rfl ?_
      refine w_iald (p' := 35) (N := 240) rfl rfl rfl rfl h.1 h.2.1 ?_
      have h := h.2.2
      refine w_const (p' := 37) rfl rfl rfl ?_
      refine w_icmp (t := 42) (e := 40) rfl rfl rfl (fun e => ?_) (fun e => ?_)
      · have h := h.1 e
        refine w_aload (p' := 43) rfl rfl rfl rfl ?_
        refine w_dup (p' := 44) rfl rfl rfl ?_
        refine w_getI (p' := 47) (j := 49) rfl rfl (by decide) rfl rfl ?_
        refine w_aload (p' := 48) rfl rfl rfl rfl ?_
        refine w_getI (p' := 51) (j := 49) rfl rfl (by decide) rfl rfl ?_
        refine w_const (p' := 52) rfl rfl rfl ?_
        refine w_add (p' := 53) rfl rfl h.1 ?_
        have h := h.2
        refine w_aload (p' := 54) rfl rfl rfl rfl ?_
        refine w_getI (p' := 57) (j := 50) rfl rfl (by decide) rfl rfl ?_
        refine w_icmp (t := 80) (e := 60) rfl rfl rfl (fun e => ?_) (fun e => ?_)
        · have h := h.1 e
          refine w_const (p' := 81) rfl rfl rfl ?_
          refine w_add (p' := 82) rfl rfl h.1 ?_
          have h := h.2
          refine v_putI (p' := 85) (j := 49) rfl rfl (by decide) rfl rfl trivial ?_
          intro s10 es10
          have h := h s10 es10
          refine w_goto (p' := 176) rfl rfl ?_
          refine w_aload (p' := 177) rfl rfl rfl rfl ?_
          refine w_iload (p' := 178) rfl rfl rfl rfl ?_
          refine w_aload (p' := 179) rfl rfl rfl rfl ?_
          refine w_getI (p' := 182) (j := 49) rfl rfl (by decide) rfl rfl ?_
          refine w_iload (p' := 183) rfl rfl rfl rfl ?_
          refine v_callV (M' := 61) (p' := 186) (rest := []) (as := [(.inr (.inr (.inl (some 113)))), (.inl (s 113 49)), (.inl (s10 113 49)), (.inl x1)]) rfl rfl rfl rfl rfl rfl rfl rfl rfl rfl rfl rfl rfl h (fun s11 h => ?_)
          refine w_const (p' := 187) rfl rfl rfl ?_
          exact w_iret rfl ⟨by decide, by decide⟩ ⟨rfl, _, rfl, h⟩
        · have h := h.2 e
          refine w_aload (p' := 61) rfl rfl rfl rfl ?_
          refine w_getR (p' := 64) rfl rfl rfl rfl rfl ?_
          refine w_aload (p' := 65) rfl rfl rfl rfl ?_
          refine w_getI (p' := 68) (j := 49) rfl rfl (by decide) rfl rfl ?_
          refine w_const (p' := 69) rfl rfl rfl ?_
          refine w_add (p' := 70) rfl rfl h.1 ?_
          have h := h.2
          refine w_iald (p' := 71) (N := 240) rfl rfl rfl rfl h.1 h.2.1 ?_
          have h := h.2.2
          refine w_const (p' := 73) rfl rfl rfl ?_
          refine w_icmp (t := 80) (e := 76) rfl rfl rfl (fun e => ?_) (fun e => ?_)
          · have h := h.1 e
            refine w_const (p' := 81) rfl rfl rfl ?_
            refine w_add (p' := 82) rfl rfl h.1 ?_
            have h := h.2
            refine v_putI (p' := 85) (j := 49) rfl rfl (by decide) rfl rfl trivial ?_
            intro s12 es12
            have h := h s12 es12
            refine w_goto (p' := 176) rfl rfl ?_
            refine w_aload (p' := 177) rfl rfl rfl rfl ?_
            refine w_iload (p' := 178) rfl rfl rfl rfl ?_
            refine w_aload (p' := 179) rfl rfl rfl rfl ?_
            refine w_getI (p' := 182) (j := 49) rfl rfl (by decide) rfl rfl ?_
            refine w_iload (p' := 183) rfl rfl rfl rfl ?_
            refine v_callV (M' := 61) (p' := 186) (rest := []) (as := [(.inr (.inr (.inl (some 113)))), (.inl (s 113 49)), (.inl (s12 113 49)), (.inl x1)]) rfl rfl rfl rfl rfl rfl rfl rfl rfl rfl rfl rfl rfl h (fun s13 h => ?_)
            refine w_const (p' := 187) rfl rfl rfl ?_
            exact w_iret rfl ⟨by decide, by decide⟩ ⟨rfl, _, rfl, h⟩
          · have h := h.2 e
            refine w_const (p' := 77) rfl rfl rfl ?_
            refine w_goto (p' := 81) rfl rfl ?_
            refine w_add (p' := 82) rfl rfl h.1 ?_
            have h := h.2
            refine v_putI (p' := 85) (j := 49) rfl rfl (by decide) rfl rfl trivial ?_
            intro s14 es14
            have h := h s14 es14
            refine w_goto (p' := 176) rfl rfl ?_
            refine w_aload (p' := 177) rfl rfl rfl rfl ?_
            refine w_iload (p' := 178) rfl rfl rfl rfl ?_
            refine w_aload (p' := 179) rfl rfl rfl rfl ?_
            refine w_getI (p' := 182) (j := 49) rfl rfl (by decide) rfl rfl ?_
            refine w_iload (p' := 183) rfl rfl rfl rfl ?_
            refine v_callV (M' := 61) (p' := 186) (rest := []) (as := [(.inr (.inr (.inl (some 113)))), (.inl (s 113 49)), (.inl (s14 113 49)), (.inl x1)]) rfl rfl rfl rfl rfl rfl rfl rfl rfl rfl rfl rfl rfl h (fun s15 h => ?_)
            refine w_const (p' := 187) rfl rfl rfl ?_
            exact w_iret rfl ⟨by decide, by decide⟩ ⟨rfl, _, rfl, h⟩
      · have h := h.2 e
        refine w_const (p' := 41) rfl rfl rfl ?_
        exact w_iret rfl ⟨by decide, by decide⟩ ⟨rfl, _, rfl, h⟩
set_option maxRecDepth 20000 in
theorem sg_m_marker {X : Nat × (Nat → Int32)}  {s : qM} {K : Int → qM → Prop} (h : ((((s 113 50) ≤ (s 113 49)) → L_m_marker_25 X 10 s K) ∧ (¬ ((s 113 50) ≤ (s 113 49)) → ((0 : Int) ≤ (s 113 49)) ∧ ((s 113 49) < (240 : Int)) ∧ L_m_marker_25 X (s 114 (s 113 49)) s K))) : c_m_marker X  s K := by
  unfold c_m_marker
  refine w_aload (p' := 1) rfl rfl rfl rfl ?_
  refine w_getI (p' := 4) (j := 49) rfl rfl (by decide) rfl rfl ?_
  refine w_aload (p' := 5) rfl rfl rfl rfl ?_
  refine w_getI (p' := 8) (j := 50) rfl rfl (by decide) rfl rfl ?_
  refine w_icmp (t := 23) (e := 11) rfl rfl rfl (fun e => ?_) (fun e => ?_)
  · have h := h.1 e
    refine w_const (p' := 25) rfl rfl rfl ?_
    exact w_cut (q_le_s (q_le_n (q_le_n (q_le_n q_le_z)))) h
  · have h := h.2 e
    refine w_aload (p' := 12) rfl rfl rfl rfl ?_
    refine w_getR (p' := 15) rfl rfl rfl rfl rfl ?_
    refine w_aload (p' := 16) rfl rfl rfl rfl ?_
    refine w_getI (p' := 19) (j := 49) rfl rfl (by decide) rfl rfl ?_
    refine w_iald (p' := 20) (N := 240) rfl rfl rfl rfl h.1 h.2.1 ?_
    have h := h.2.2
    refine w_goto (p' := 25) rfl rfl ?_
    exact w_cut (q_le_s (q_le_n (q_le_n (q_le_n q_le_z)))) h
set_option maxRecDepth 20000 in
theorem sg_m_marker_25 {X : Nat × (Nat → Int32)}  {t0 : Int} {s : qM} {K : Int → qM → Prop} (h : (((t0 = 45) → L_m_marker_87 X t0 1 s K) ∧ (¬ (t0 = 45) → (((t0 ≠ 43) → c_m_isIn X t0 48 57 s (fun r2 s1 => (((r2 = 0) → L_m_marker_87 X t0 0 s1 K) ∧ (¬ (r2 = 0) → (-2147483648 ≤ ((s1 113 49) + 1) ∧ ((s1 113 49) + 1) < 2147483648) ∧ ((((s1 113 50) ≤ ((s1 113 49) + 1)) → L_m_marker_87 X t0 0 s1 K) ∧ (¬ ((s1 113 50) ≤ ((s1 113 49) + 1)) → (-2147483648 ≤ ((s1 113 49) + 1) ∧ ((s1 113 49) + 1) < 2147483648) ∧ ((0 : Int) ≤ ((s1 113 49) + 1)) ∧ (((s1 113 49) + 1) < (240 : Int)) ∧ ((((s1 114 ((s1 113 49) + 1)) ≠ 46) → L_m_marker_87 X t0 0 s1 K) ∧ (¬ ((s1 114 ((s1 113 49) + 1)) ≠ 46) → L_m_marker_87 X t0 2 s1 K)))))))) ∧ (¬ (t0 ≠ 43) → L_m_marker_87 X t0 1 s K))))) : L_m_marker_25 X t0 s K := by
  unfold L_m_marker_25
  refine w_istore (p' := 26) (ls' := [some (.inr (.inr (.inl (some 113)))), some (.inl t0), none, none]) rfl rfl rfl (Nat.le_of_ble_eq_true rfl) rfl ?_
  refine w_iload (p' := 27) rfl rfl rfl rfl ?_
  refine w_const (p' := 29) rfl rfl rfl ?_
  refine w_icmp (t := 38) (e := 32) rfl rfl rfl (fun e => ?_) (fun e => ?_)
  · have h := h.1 e
    refine w_const (p' := 39) rfl rfl rfl ?_
    refine w_goto (p' := 87) rfl rfl ?_
    exact w_cut (q_le_s (q_le_s (q_le_n (q_le_n q_le_z)))) h
  · have h := h.2 e
    refine w_iload (p' := 33) rfl rfl rfl rfl ?_
    refine w_const (p' := 35) rfl rfl rfl ?_
    refine w_icmp (t := 42) (e := 38) rfl rfl rfl (fun e => ?_) (fun e => ?_)
    · have h := h.1 e
      refine w_iload (p' := 43) rfl rfl rfl rfl ?_
      refine w_const (p' := 45) rfl rfl rfl ?_
      refine w_const (p' := 47) rfl rfl rfl ?_
      refine v_callI (M' := 47) (p' := 50) (rest := []) (as := [(.inl t0), (.inl 48), (.inl 57)]) rfl rfl rfl rfl rfl rfl rfl rfl rfl rfl rfl trivial rfl h (fun r2 s1 h => ?_)
      refine w_if (t := 86) (e := 53) rfl rfl rfl (fun e => ?_) (fun e => ?_)
      · have h := h.1 e
        refine w_const (p' := 87) rfl rfl rfl ?_
        exact w_cut (q_le_s (q_le_s (q_le_n (q_le_n q_le_z)))) h
      · have h := h.2 e
        refine w_aload (p' := 54) rfl rfl rfl rfl ?_
        refine w_getI (p' := 57) (j := 49) rfl rfl (by decide) rfl rfl ?_
        refine w_const (p' := 58) rfl rfl rfl ?_
        refine w_add (p' := 59) rfl rfl h.1 ?_
        have h := h.2
        refine w_aload (p' := 60) rfl rfl rfl rfl ?_
        refine w_getI (p' := 63) (j := 50) rfl rfl (by decide) rfl rfl ?_
        refine w_icmp (t := 86) (e := 66) rfl rfl rfl (fun e => ?_) (fun e => ?_)
        · have h := h.1 e
          refine w_const (p' := 87) rfl rfl rfl ?_
          exact w_cut (q_le_s (q_le_s (q_le_n (q_le_n q_le_z)))) h
        · have h := h.2 e
          refine w_aload (p' := 67) rfl rfl rfl rfl ?_
          refine w_getR (p' := 70) rfl rfl rfl rfl rfl ?_
          refine w_aload (p' := 71) rfl rfl rfl rfl ?_
          refine w_getI (p' := 74) (j := 49) rfl rfl (by decide) rfl rfl ?_
          refine w_const (p' := 75) rfl rfl rfl ?_
          refine w_add (p' := 76) rfl rfl h.1 ?_
          have h := h.2
          refine w_iald (p' := 77) (N := 240) rfl rfl rfl rfl h.1 h.2.1 ?_
          have h := h.2.2
          refine w_const (p' := 79) rfl rfl rfl ?_
          refine w_icmp (t := 86) (e := 82) rfl rfl rfl (fun e => ?_) (fun e => ?_)
          · have h := h.1 e
            refine w_const (p' := 87) rfl rfl rfl ?_
            exact w_cut (q_le_s (q_le_s (q_le_n (q_le_n q_le_z)))) h
          · have h := h.2 e
            refine w_const (p' := 83) rfl rfl rfl ?_
            refine w_goto (p' := 87) rfl rfl ?_
            exact w_cut (q_le_s (q_le_s (q_le_n (q_le_n q_le_z)))) h
    · have h := h.2 e
      refine w_const (p' := 39) rfl rfl rfl ?_
      refine w_goto (p' := 87) rfl rfl ?_
      exact w_cut (q_le_s (q_le_s (q_le_n (q_le_n q_le_z)))) h
set_option maxRecDepth 20000 in
theorem sg_m_marker_87 {X : Nat × (Nat → Int32)}  {v1 t0 : Int} {s : qM} {K : Int → qM → Prop} (h : (((t0 ≤ 0) → (((v1 ≠ 62) → K (-1) s) ∧ (¬ (v1 ≠ 62) → K 62 s))) ∧ (¬ (t0 ≤ 0) → (-2147483648 ≤ ((s 113 49) + t0) ∧ ((s 113 49) + t0) < 2147483648) ∧ (((((s 113 49) + t0) = (s 113 50)) → (((v1 ≠ 62) → (((t0 ≠ 2) → K v1 s) ∧ (¬ (t0 ≠ 2) → K 48 s))) ∧ (¬ (v1 ≠ 62) → K 62 s))) ∧ (¬ (((s 113 49) + t0) = (s 113 50)) → (-2147483648 ≤ ((s 113 49) + t0) ∧ ((s 113 49) + t0) < 2147483648) ∧ ((0 : Int) ≤ ((s 113 49) + t0)) ∧ (((s 113 49) + t0) < (240 : Int)) ∧ ((((s 114 ((s 113 49) + t0)) ≠ 32) → (((v1 ≠ 62) → K (-1) s) ∧ (¬ (v1 ≠ 62) → K 62 s))) ∧ (¬ ((s 114 ((s 113 49) + t0)) ≠ 32) → (((v1 ≠ 62) → (((t0 ≠ 2) → K v1 s) ∧ (¬ (t0 ≠ 2) → K 48 s))) ∧ (¬ (v1 ≠ 62) → K 62 s))))))))) : L_m_marker_87 X v1 t0 s K := by
  unfold L_m_marker_87
  refine w_istore (p' := 88) (ls' := [some (.inr (.inr (.inl (some 113)))), some (.inl v1), some (.inl t0), none]) rfl rfl rfl (Nat.le_of_ble_eq_true rfl) rfl ?_
  refine w_iload (p' := 89) rfl rfl rfl rfl ?_
  refine w_if (t := 125) (e := 92) rfl rfl rfl (fun e => ?_) (fun e => ?_)
  · have h := h.1 e
    refine w_const (p' := 126) rfl rfl rfl ?_
    refine w_istore (p' := 127) (ls' := [some (.inr (.inr (.inl (some 113)))), some (.inl v1), some (.inl t0), some (.inl 0)]) rfl rfl rfl (Nat.le_of_ble_eq_true rfl) rfl ?_
    refine w_iload (p' := 128) rfl rfl rfl rfl ?_
    refine w_const (p' := 130) rfl rfl rfl ?_
    refine w_icmp (t := 138) (e := 133) rfl rfl rfl (fun e => ?_) (fun e => ?_)
    · have h := h.1 e
      refine w_iload (p' := 139) rfl rfl rfl rfl ?_
      refine w_if (t := 146) (e := 142) rfl rfl rfl (fun e => absurd e (show ¬ ((0 : Int) ≠ 0) by decide)) (fun e => ?_)
      refine w_const (p' := 143) rfl rfl rfl ?_
      refine w_goto (p' := 157) rfl rfl ?_
      exact w_iret rfl trivial ⟨rfl, _, rfl, h⟩
    · have h := h.2 e
      refine w_const (p' := 135) rfl rfl rfl ?_
      refine w_goto (p' := 157) rfl rfl ?_
      exact w_iret rfl trivial ⟨rfl, _, rfl, h⟩
  · have h := h.2 e
    refine w_aload (p' := 93) rfl rfl rfl rfl ?_
    refine w_getI (p' := 96) (j := 49) rfl rfl (by decide) rfl rfl ?_
    refine w_iload (p' := 97) rfl rfl rfl rfl ?_
    refine w_add (p' := 98) rfl rfl h.1 ?_
    have h := h.2
    refine w_aload (p' := 99) rfl rfl rfl rfl ?_
    refine w_getI (p' := 102) (j := 50) rfl rfl (by decide) rfl rfl ?_
    refine w_icmp (t := 121) (e := 105) rfl rfl rfl (fun e => ?_) (fun e => ?_)
    · have h := h.1 e
      refine w_const (p' := 122) rfl rfl rfl ?_
      refine w_goto (p' := 126) rfl rfl ?_
      refine w_istore (p' := 127) (ls' := [some (.inr (.inr (.inl (some 113)))), some (.inl v1), some (.inl t0), some (.inl 1)]) rfl rfl rfl (Nat.le_of_ble_eq_true rfl) rfl ?_
      refine w_iload (p' := 128) rfl rfl rfl rfl ?_
      refine w_const (p' := 130) rfl rfl rfl ?_
      refine w_icmp (t := 138) (e := 133) rfl rfl rfl (fun e => ?_) (fun e => ?_)
      · have h := h.1 e
        refine w_iload (p' := 139) rfl rfl rfl rfl ?_
        refine w_if (t := 146) (e := 142) rfl rfl rfl (fun e => ?_) (fun e => absurd (show (1 : Int) ≠ 0 by decide) e)
        refine w_iload (p' := 147) rfl rfl rfl rfl ?_
        refine w_const (p' := 148) rfl rfl rfl ?_
        refine w_icmp (t := 156) (e := 151) rfl rfl rfl (fun e => ?_) (fun e => ?_)
        · have h := h.1 e
          refine w_iload (p' := 157) rfl rfl rfl rfl ?_
          exact w_iret rfl trivial ⟨rfl, _, rfl, h⟩
        · have h := h.2 e
          refine w_const (p' := 153) rfl rfl rfl ?_
          refine w_goto (p' := 157) rfl rfl ?_
          exact w_iret rfl trivial ⟨rfl, _, rfl, h⟩
      · have h := h.2 e
        refine w_const (p' := 135) rfl rfl rfl ?_
        refine w_goto (p' := 157) rfl rfl ?_
        exact w_iret rfl trivial ⟨rfl, _, rfl, h⟩
    · have h := h.2 e
      refine w_aload (p' := 106) rfl rfl rfl rfl ?_
      refine w_getR (p' := 109) rfl rfl rfl rfl rfl ?_
      refine w_aload (p' := 110) rfl rfl rfl rfl ?_
      refine w_getI (p' := 113) (j := 49) rfl rfl (by decide) rfl rfl ?_
      refine w_iload (p' := 114) rfl rfl rfl rfl ?_
      refine w_add (p' := 115) rfl rfl h.1 ?_
      have h := h.2
      refine w_iald (p' := 116) (N := 240) rfl rfl rfl rfl h.1 h.2.1 ?_
      have h := h.2.2
      refine w_const (p' := 118) rfl rfl rfl ?_
      refine w_icmp (t := 125) (e := 121) rfl rfl rfl (fun e => ?_) (fun e => ?_)
      · have h := h.1 e
        refine w_const (p' := 126) rfl rfl rfl ?_
        refine w_istore (p' := 127) (ls' := [some (.inr (.inr (.inl (some 113)))), some (.inl v1), some (.inl t0), some (.inl 0)]) rfl rfl rfl (Nat.le_of_ble_eq_true rfl) rfl ?_
        refine w_iload (p' := 128) rfl rfl rfl rfl ?_
        refine w_const (p' := 130) rfl rfl rfl ?_
        refine w_icmp (t := 138) (e := 133) rfl rfl rfl (fun e => ?_) (fun e => ?_)
        · have h := h.1 e
          refine w_iload (p' := 139) rfl rfl rfl rfl ?_
          refine w_if (t := 146) (e := 142) rfl rfl rfl (fun e => absurd e (show ¬ ((0 : Int) ≠ 0) by decide)) (fun e => ?_)
          refine w_const (p' := 143) rfl rfl rfl ?_
          refine w_goto (p' := 157) rfl rfl ?_
          exact w_iret rfl trivial ⟨rfl, _, rfl, h⟩
        · have h := h.2 e
          refine w_const (p' := 135) rfl rfl rfl ?_
          refine w_goto (p' := 157) rfl rfl ?_
          exact w_iret rfl trivial ⟨rfl, _, rfl, h⟩
      · have h := h.2 e
        refine w_const (p' := 122) rfl rfl rfl ?_
        refine w_goto (p' := 126) rfl rfl ?_
        refine w_istore (p' := 127) (ls' := [some (.inr (.inr (.inl (some 113)))), some (.inl v1), some (.inl t0), some (.inl 1)]) rfl rfl rfl (Nat.le_of_ble_eq_true rfl) rfl ?_
        refine w_iload (p' := 128) rfl rfl rfl rfl ?_
        refine w_const (p' := 130) rfl rfl rfl ?_
        refine w_icmp (t := 138) (e := 133) rfl rfl rfl (fun e => ?_) (fun e => ?_)
        · have h := h.1 e
          refine w_iload (p' := 139) rfl rfl rfl rfl ?_
          refine w_if (t := 146) (e := 142) rfl rfl rfl (fun e => ?_) (fun e => absurd (show (1 : Int) ≠ 0 by decide) e)
          refine w_iload (p' := 147) rfl rfl rfl rfl ?_
          refine w_const (p' := 148) rfl rfl rfl ?_
          refine w_icmp (t := 156) (e := 151) rfl rfl rfl (fun e => ?_) (fun e => ?_)
          · have h := h.1 e
            refine w_iload (p' := 157) rfl rfl rfl rfl ?_
            exact w_iret rfl trivial ⟨rfl, _, rfl, h⟩
          · have h := h.2 e
            refine w_const (p' := 153) rfl rfl rfl ?_
            refine w_goto (p' := 157) rfl rfl ?_
            exact w_iret rfl trivial ⟨rfl, _, rfl, h⟩
        · have h := h.2 e
          refine w_const (p' := 135) rfl rfl rfl ?_
          refine w_goto (p' := 157) rfl rfl ?_
          exact w_iret rfl trivial ⟨rfl, _, rfl, h⟩
set_option maxRecDepth 20000 in
theorem sg_m_putsContainers {X : Nat × (Nat → Int32)} {x1 : Int} {s : qM} {K : Int → qM → Prop} (h : c_m_marker X  s (fun r2 s1 => L_m_putsContainers_7 X x1 r2 s1 K)) : c_m_putsContainers X x1 s K := by
  unfold c_m_putsContainers
  refine w_iload (p' := 1) rfl rfl rfl rfl ?_
  refine w_istore (p' := 2) (ls' := [some (.inr (.inr (.inl (some 113)))), some (.inl x1), some (.inl x1), none, none, none]) rfl rfl rfl (Nat.le_of_ble_eq_true rfl) rfl ?_
  refine w_aload (p' := 3) rfl rfl rfl rfl ?_
  refine v_callI (M' := 63) (p' := 6) (rest := []) (as := [(.inr (.inr (.inl (some 113))))]) rfl rfl rfl rfl rfl rfl rfl rfl rfl rfl rfl rfl rfl h (fun r2 s1 h => ?_)
  refine w_istore (p' := 7) (ls' := [some (.inr (.inr (.inl (some 113)))), some (.inl x1), some (.inl x1), some (.inl r2), none, none]) rfl rfl rfl (Nat.le_of_ble_eq_true rfl) rfl ?_
  exact w_cut (q_le_s (q_le_n (q_le_s (q_le_s (q_le_n (q_le_n q_le_z)))))) h
set_option maxRecDepth 20000 in
theorem sg_m_putsContainers_7 {X : Nat × (Nat → Int32)}  {v2 v3 : Int} {s : qM} {K : Int → qM → Prop} (h : (((v3 = (-1)) → K v2 s) ∧ (¬ (v3 = (-1)) → (((v3 ≠ 62) → ((0 : Int) ≤ v2) ∧ (v2 < (600 : Int)) ∧ ((((s 122 v2) = (-1)) → c_m_puts X v2 2 v3 s (fun r2 s1 => L_m_putsContainers_115 X v3 (s 113 49) r2 s1 K)) ∧ (¬ ((s 122 v2) = (-1)) → ((0 : Int) ≤ v2) ∧ (v2 < (600 : Int)) ∧ ((0 : Int) ≤ (s 122 v2)) ∧ ((s 122 v2) < (600 : Int)) ∧ ((((s 119 (s 122 v2)) = 0) → c_m_puts X v2 2 v3 s (fun r4 s3 => L_m_putsContainers_115 X v3 (s 113 49) r4 s3 K)) ∧ (¬ ((s 119 (s 122 v2)) = 0) → ((0 : Int) ≤ v2) ∧ (v2 < (600 : Int)) ∧ ((0 : Int) ≤ (s 122 v2)) ∧ ((s 122 v2) < (600 : Int)) ∧ ((((s 117 (s 122 v2)) ≠ 2) → c_m_puts X v2 2 v3 s (fun r6 s5 => L_m_putsContainers_115 X v3 (s 113 49) r6 s5 K)) ∧ (¬ ((s 117 (s 122 v2)) ≠ 2) → ((0 : Int) ≤ v2) ∧ (v2 < (600 : Int)) ∧ ((0 : Int) ≤ (s 122 v2)) ∧ ((s 122 v2) < (600 : Int)) ∧ ((((s 120 (s 122 v2)) ≠ v3) → c_m_puts X v2 2 v3 s (fun r8 s7 => L_m_putsContainers_115 X v3 (s 113 49) r8 s7 K)) ∧ (¬ ((s 120 (s 122 v2)) ≠ v3) → ((0 : Int) ≤ v2) ∧ (v2 < (600 : Int)) ∧ L_m_putsContainers_115 X v3 (s 113 49) (s 122 v2) s K))))))))) ∧ (¬ (v3 ≠ 62) → c_m_puts X v2 1 0 s (fun r10 s9 => (-2147483648 ≤ ((s9 113 49) + 1) ∧ ((s9 113 49) + 1) < 2147483648) ∧ (∀ s11 : qM, s11 = q_up s9 113 49 ((s9 113 49) + 1) → L_m_putsContainers_156 X r10 (s 113 49) s11 K))))))) : L_m_putsContainers_7 X v2 v3 s K := by
  unfold L_m_putsContainers_7
  refine w_iload (p' := 8) rfl rfl rfl rfl ?_
  refine w_const (p' := 9) rfl rfl rfl ?_
  refine w_icmp (t := 214) (e := 12) rfl rfl rfl (fun e => ?_) (fun e => ?_)
  · have h := h.1 e
    refine w_iload (p' := 215) rfl rfl rfl rfl ?_
    exact w_iret rfl trivial ⟨rfl, _, rfl, h⟩
  · have h := h.2 e
    refine w_aload (p' := 13) rfl rfl rfl rfl ?_
    refine w_getI (p' := 16) (j := 49) rfl rfl (by decide) rfl rfl ?_
    refine w_istore (p' := 18) (ls' := [some (.inr (.inr (.inl (some 113)))), none, some (.inl v2), some (.inl v3), some (.inl (s 113 49)), none]) rfl rfl rfl (Nat.le_of_ble_eq_true rfl) rfl ?_
    refine w_iload (p' := 19) rfl rfl rfl rfl ?_
    refine w_const (p' := 21) rfl rfl rfl ?_
    refine w_icmp (t := 45) (e := 24) rfl rfl rfl (fun e => ?_) (fun e => ?_)
    · have h := h.1 e
      refine w_aload (p' := 46) rfl rfl rfl rfl ?_
      refine w_getR (p' := 49) rfl rfl rfl rfl rfl ?_
      refine w_iload (p' := 50) rfl rfl rfl rfl ?_
      refine w_iald (p' := 51) (N := 600) rfl rfl rfl rfl h.1 h.2.1 ?_
      have h := h.2.2
      refine w_const (p' := 52) rfl rfl rfl ?_
      refine w_icmp (t := 108) (e := 55) rfl rfl rfl (fun e => ?_) (fun e => ?_)
      · have h := h.1 e
        refine w_aload (p' := 109) rfl rfl rfl rfl ?_
        refine w_iload (p' := 110) rfl rfl rfl rfl ?_
        refine w_const (p' := 111) rfl rfl rfl ?_
        refine w_iload (p' := 112) rfl rfl rfl rfl ?_
        refine v_callI (M' := 60) (p' := 115) (rest := []) (as := [(.inr (.inr (.inl (some 113)))), (.inl v2), (.inl 2), (.inl v3)]) rfl rfl rfl rfl rfl rfl rfl rfl rfl rfl rfl rfl rfl h (fun r2 s1 h => ?_)
        exact w_cut (q_le_s (q_le_n (q_le_n (q_le_s (q_le_s (q_le_n q_le_z)))))) h
      · have h := h.2 e
        refine w_aload (p' := 56) rfl rfl rfl rfl ?_
        refine w_getR (p' := 59) rfl rfl rfl rfl rfl ?_
        refine w_aload (p' := 60) rfl rfl rfl rfl ?_
        refine w_getR (p' := 63) rfl rfl rfl rfl rfl ?_
        refine w_iload (p' := 64) rfl rfl rfl rfl ?_
        refine w_iald (p' := 65) (N := 600) rfl rfl rfl rfl h.1 h.2.1 ?_
        have h := h.2.2
        refine w_bald (p' := 66) (N := 600) rfl rfl rfl rfl h.1 h.2.1 ?_
        have h := h.2.2
        refine w_if (t := 108) (e := 69) rfl rfl rfl (fun e => ?_) (fun e => ?_)
        · have h := h.1 e
          refine w_aload (p' := 109) rfl rfl rfl rfl ?_
          refine w_iload (p' := 110) rfl rfl rfl rfl ?_
          refine w_const (p' := 111) rfl rfl rfl ?_
          refine w_iload (p' := 112) rfl rfl rfl rfl ?_
          refine v_callI (M' := 60) (p' := 115) (rest := []) (as := [(.inr (.inr (.inl (some 113)))), (.inl v2), (.inl 2), (.inl v3)]) rfl rfl rfl rfl rfl rfl rfl rfl rfl rfl rfl rfl rfl h (fun r4 s3 h => ?_)
          exact w_cut (q_le_s (q_le_n (q_le_n (q_le_s (q_le_s (q_le_n q_le_z)))))) h
        · have h := h.2 e
          refine w_aload (p' := 70) rfl rfl rfl rfl ?_
          refine w_getR (p' := 73) rfl rfl rfl rfl rfl ?_
          refine w_aload (p' := 74) rfl rfl rfl rfl ?_
          refine w_getR (p' := 77) rfl rfl rfl rfl rfl ?_
          refine w_iload (p' := 78) rfl rfl rfl rfl ?_
          refine w_iald (p' := 79) (N := 600) rfl rfl rfl rfl h.1 h.2.1 ?_
          have h := h.2.2
          refine w_iald (p' := 80) (N := 600) rfl rfl rfl rfl h.1 h.2.1 ?_
          have h := h.2.2
          refine w_const (p' := 81) rfl rfl rfl ?_
          refine w_icmp (t := 108) (e := 84) rfl rfl rfl (fun e => ?_) (fun e => ?_)
          · have h := h.1 e
            refine w_aload (p' := 109) rfl rfl rfl rfl ?_
            refine w_iload (p' := 110) rfl rfl rfl rfl ?_
            refine w_const (p' := 111) rfl rfl rfl ?_
            refine w_iload (p' := 112) rfl rfl rfl rfl ?_
            refine v_callI (M' := 60) (p' := 115) (rest := []) (as := [(.inr (.inr (.inl (some 113)))), (.inl v2), (.inl 2), (.inl v3)]) rfl rfl rfl rfl rfl rfl rfl rfl rfl rfl rfl rfl rfl h (fun r6 s5 h => ?_)
            exact w_cut (q_le_s (q_le_n (q_le_n (q_le_s (q_le_s (q_le_n q_le_z)))))) h
          · have h := h.2 e
            refine w_aload (p' := 85) rfl rfl rfl rfl ?_
            refine w_getR (p' := 88) rfl rfl rfl rfl rfl ?_
            refine w_aload (p' := 89) rfl rfl rfl rfl ?_
            refine w_getR (p' := 92) rfl rfl rfl rfl rfl ?_
            refine w_iload (p' := 93) rfl rfl rfl rfl ?_
            refine w_iald (p' := 94) (N := 600) rfl rfl rfl rfl h.1 h.2.1 ?_
            have h := h.2.2
            refine w_iald (p' := 95) (N := 600) rfl rfl rfl rfl h.1 h.2.1 ?_
            have h := h.2.2
            refine w_iload (p' := 96) rfl rfl rfl rfl ?_
            refine w_icmp (t := 108) (e := 99) rfl rfl rfl (fun e => ?_) (fun e => ?_)
            · have h := h.1 e
              refine w_aload (p' := 109) rfl rfl rfl rfl ?_
              refine w_iload (p' := 110) rfl rfl rfl rfl ?_
              refine w_const (p' := 111) rfl rfl rfl ?_
              refine w_iload (p' := 112) rfl rfl rfl rfl ?_
              refine v_callI (M' := 60) (p' := 115) (rest := []) (as := [(.inr (.inr (.inl (some 113)))), (.inl v2), (.inl 2), (.inl v3)]) rfl rfl rfl rfl rfl rfl rfl rfl rfl rfl rfl rfl rfl h (fun r8 s7 h => ?_)
              exact w_cut (q_le_s (q_le_n (q_le_n (q_le_s (q_le_s (q_le_n q_le_z)))))) h
            · have h := h.2 e
              refine w_aload (p' := 100) rfl rfl rfl rfl ?_
              refine w_getR (p' := 103) rfl rfl rfl rfl rfl ?_
              refine w_iload (p' := 104) rfl rfl rfl rfl ?_
              refine w_iald (p' := 105) (N := 600) rfl rfl rfl rfl h.1 h.2.1 ?_
              have h := h.2.2
              refine w_goto (p' := 115) rfl rfl ?_
              exact w_cut (q_le_s (q_le_n (q_le_n (q_le_s (q_le_s (q_le_n q_le_z)))))) h
    · have h := h.2 e
      refine w_aload (p' := 25) rfl rfl rfl rfl ?_
      refine w_iload (p' := 26) rfl rfl rfl rfl ?_
      refine w_const (p' := 27) rfl rfl rfl ?_
      refine w_const (p' := 28) rfl rfl rfl ?_
      refine v_callI (M' := 60) (p' := 31) (rest := []) (as := [(.inr (.inr (.inl (some 113)))), (.inl v2), (.inl 1), (.inl 0)]) rfl rfl rfl rfl rfl rfl rfl rfl rfl rfl rfl rfl rfl h (fun r10 s9 h => ?_)
      refine w_istore (p' := 32) (ls' := [some (.inr (.inr (.inl (some 113)))), none, some (.inl r10), some (.inl v3), some (.inl (s 113 49)), none]) rfl rfl rfl (Nat.le_of_ble_eq_true rfl) rfl ?_
      refine w_aload (p' := 33) rfl rfl rfl rfl ?_
      refine w_dup (p' := 34) rfl rfl rfl ?_
      refine w_getI (p' := 37) (j := 49) rfl rfl (by decide) rfl rfl ?_
      refine w_const (p' := 38) rfl rfl rfl ?_
      refine w_add (p' := 39) rfl rfl h.1 ?_
      have h := h.2
      refine v_putI (p' := 42) (j := 49) rfl rfl (by decide) rfl rfl trivial ?_
      intro s11 es11
      have h := h s11 es11
      refine w_goto (p' := 156) rfl rfl ?_
      exact w_cut (q_le_s (q_le_n (q_le_s (q_le_n (q_le_s (q_le_n q_le_z)))))) h
set_option maxRecDepth 20000 in
theorem sg_m_putsContainers_115 {X : Nat × (Nat → Int32)}  {v3 v4 t0 : Int} {s : qM} {K : Int → qM → Prop} (h : (((v3 ≠ 48) → c_m_puts X t0 3 2 s (fun r2 s1 => (((v3 ≠ 48) → (-2147483648 ≤ ((s1 113 49) + 1) ∧ ((s1 113 49) + 1) < 2147483648) ∧ (∀ s3 : qM, s3 = q_up s1 113 49 ((s1 113 49) + 1) → L_m_putsContainers_156 X r2 v4 s3 K)) ∧ (¬ (v3 ≠ 48) → (-2147483648 ≤ ((s1 113 49) + 2) ∧ ((s1 113 49) + 2) < 2147483648) ∧ (∀ s4 : qM, s4 = q_up s1 113 49 ((s1 113 49) + 2) → L_m_putsContainers_156 X r2 v4 s4 K))))) ∧ (¬ (v3 ≠ 48) → c_m_puts X t0 3 3 s (fun r6 s5 => (((v3 ≠ 48) → (-2147483648 ≤ ((s5 113 49) + 1) ∧ ((s5 113 49) + 1) < 2147483648) ∧ (∀ s7 : qM, s7 = q_up s5 113 49 ((s5 113 49) + 1) → L_m_putsContainers_156 X r6 v4 s7 K)) ∧ (¬ (v3 ≠ 48) → (-2147483648 ≤ ((s5 113 49) + 2) ∧ ((s5 113 49) + 2) < 2147483648) ∧ (∀ s8 : qM, s8 = q_up s5 113 49 ((s5 113 49) + 2) → L_m_putsContainers_156 X r6 v4 s8 K))))))) : L_m_putsContainers_115 X v3 v4 t0 s K := by
  unfold L_m_putsContainers_115
  refine w_istore (p' := 117) (ls' := [some (.inr (.inr (.inl (some 113)))), none, none, some (.inl v3), some (.inl v4), some (.inl t0)]) rfl rfl rfl (Nat.le_of_ble_eq_true rfl) rfl ?_
  refine w_aload (p' := 118) rfl rfl rfl rfl ?_
  refine w_iload (p' := 120) rfl rfl rfl rfl ?_
  refine w_const (p' := 121) rfl rfl rfl ?_
  refine w_iload (p' := 122) rfl rfl rfl rfl ?_
  refine w_const (p' := 124) rfl rfl rfl ?_
  refine w_icmp (t := 131) (e := 127) rfl rfl rfl (fun e => ?_) (fun e => ?_)
  · have h := h.1 e
    refine w_const (p' := 132) rfl rfl rfl ?_
    refine v_callI (M' := 60) (p' := 135) (rest := []) (as := [(.inr (.inr (.inl (some 113)))), (.inl t0), (.inl 3), (.inl 2)]) rfl rfl rfl rfl rfl rfl rfl rfl rfl rfl rfl rfl rfl h (fun r2 s1 h => ?_)
    refine w_istore (p' := 136) (ls' := [some (.inr (.inr (.inl (some 113)))), none, some (.inl r2), some (.inl v3), some (.inl v4), some (.inl t0)]) rfl rfl rfl (Nat.le_of_ble_eq_true rfl) rfl ?_
    refine w_aload (p' := 137) rfl rfl rfl rfl ?_
    refine w_dup (p' := 138) rfl rfl rfl ?_
    refine w_getI (p' := 141) (j := 49) rfl rfl (by decide) rfl rfl ?_
    refine w_iload (p' := 142) rfl rfl rfl rfl ?_
    refine w_const (p' := 144) rfl rfl rfl ?_
    refine w_icmp (t := 151) (e := 147) rfl rfl rfl (fun e => ?_) (fun e => ?_)
    · have h := h.1 e
      refine w_const (p' := 152) rfl rfl rfl ?_
      refine w_add (p' := 153) rfl rfl h.1 ?_
      have h := h.2
      refine v_putI (p' := 156) (j := 49) rfl rfl (by decide) rfl rfl trivial ?_
      intro s3 es3
      have h := h s3 es3
      exact w_cut (q_le_s (q_le_n (q_le_s (q_le_n (q_le_s (q_le_n q_le_z)))))) h
    · have h := h.2 e
      refine w_const (p' := 148) rfl rfl rfl ?_
      refine w_goto (p' := 152) rfl rfl ?_
      refine w_add (p' := 153) rfl rfl h.1 ?_
      have h := h.2
      refine v_putI (p' := 156) (j := 49) rfl rfl (by decide) rfl rfl trivial ?_
      intro s4 es4
      have h := h s4 es4
      exact w_cut (q_le_s (q_le_n (q_le_s (q_le_n (q_le_s (q_le_n q_le_z)))))) h
  · have h := h.2 e
    refine w_const (p' := 128) rfl rfl rfl ?_
    refine w_goto (p' := 132) rfl rfl ?_
    refine v_callI (M' := 60) (p' := 135) (rest := []) (as := [(.inr (.inr (.inl (some 113)))), (.inl t0), (.inl 3), (.inl 3)]) rfl rfl rfl rfl rfl rfl rfl rfl rfl rfl rfl rfl rfl h (fun r6 s5 h => ?_)
    refine w_istore (p' := 136) (ls' := [some (.inr (.inr (.inl (some 113)))), none, some (.inl r6), some (.inl v3), some (.inl v4), some (.inl t0)]) rfl rfl rfl (Nat.le_of_ble_eq_true rfl) rfl ?_
    refine w_aload (p' := 137) rfl rfl rfl rfl ?_
    refine w_dup (p' := 138) rfl rfl rfl ?_
    refine w_getI (p' := 141) (j := 49) rfl rfl (by decide) rfl rfl ?_
    refine w_iload (p' := 142) rfl rfl rfl rfl ?_
    refine w_const (p' := 144) rfl rfl rfl ?_
    refine w_icmp (t := 151) (e := 147) rfl rfl rfl (fun e => ?_) (fun e => ?_)
    · have h := h.1 e
      refine w_const (p' := 152) rfl rfl rfl ?_
      refine w_add (p' := 153) rfl rfl h.1 ?_
      have h := h.2
      refine v_putI (p' := 156) (j := 49) rfl rfl (by decide) rfl rfl trivial ?_
      intro s7 es7
      have h := h s7 es7
      exact w_cut (q_le_s (q_le_n (q_le_s (q_le_n (q_le_s (q_le_n q_le_z)))))) h
    · have h := h.2 e
      refine w_const (p' := 148) rfl rfl rfl ?_
      refine w_goto (p' := 152) rfl rfl ?_
      refine w_add (p' := 153) rfl rfl h.1 ?_
      have h := h.2
      refine v_putI (p' := 156) (j := 49) rfl rfl (by decide) rfl rfl trivial ?_
      intro s8 es8
      have h := h s8 es8
      exact w_cut (q_le_s (q_le_n (q_le_s (q_le_n (q_le_s (q_le_n q_le_z)))))) h
set_option maxRecDepth 20000 in
theorem sg_m_putsContainers_156 {X : Nat × (Nat → Int32)}  {v2 v4 : Int} {s : qM} {K : Int → qM → Prop} (h : ((((s 113 50) ≤ (s 113 49)) → (-2147483648 ≤ ((s 113 49) + 0) ∧ ((s 113 49) + 0) < 2147483648) ∧ (∀ s1 : qM, s1 = q_up s 113 49 ((s 113 49) + 0) → c_m_owns X v4 (s1 113 49) v2 s1 (fun s2 => c_m_marker X  s2 (fun r4 s3 => L_m_putsContainers_7 X v2 r4 s3 K)))) ∧ (¬ ((s 113 50) ≤ (s 113 49)) → ((0 : Int) ≤ (s 113 49)) ∧ ((s 113 49) < (240 : Int)) ∧ ((((s 114 (s 113 49)) ≠ 32) → (-2147483648 ≤ ((s 113 49) + 0) ∧ ((s 113 49) + 0) < 2147483648) ∧ (∀ s5 : qM, s5 = q_up s 113 49 ((s 113 49) + 0) → c_m_owns X v4 (s5 113 49) v2 s5 (fun s6 => c_m_marker X  s6 (fun r8 s7 => L_m_putsContainers_7 X v2 r8 s7 K)))) ∧ (¬ ((s 114 (s 113 49)) ≠ 32) → (-2147483648 ≤ ((s 113 49) + 1) ∧ ((s 113 49) + 1) < 2147483648) ∧ (∀ s9 : qM, s9 = q_up s 113 49 ((s 113 49) + 1) → c_m_owns X v4 (s9 113 49) v2 s9 (fun s10 => c_m_marker X  s10 (fun r12 s11 => L_m_putsContainers_7 X v2 r12 s11 K)))))))) : L_m_putsContainers_156 X v2 v4 s K := by
  unfold L_m_putsContainers_156
  refine w_aload (p' := 157) rfl rfl rfl rfl ?_
  refine w_dup (p' := 158) rfl rfl rfl ?_
  refine w_getI (p' := 161) (j := 49) rfl rfl (by decide) rfl rfl ?_
  refine w_aload (p' := 162) rfl rfl rfl rfl ?_
  refine w_getI (p' := 165) (j := 49) rfl rfl (by decide) rfl rfl ?_
  refine w_aload (p' := 166) rfl rfl rfl rfl ?_
  refine w_getI (p' := 169) (j := 50) rfl rfl (by decide) rfl rfl ?_
  refine w_icmp (t := 190) (e := 172) rfl rfl rfl (fun e => ?_) (fun e => ?_)
  · have h := h.1 e
    refine w_const (p' := 191) rfl rfl rfl ?_
    refine w_add (p' := 192) rfl rfl h.1 ?_
    have h := h.2
    refine v_putI (p' := 195) (j := 49) rfl rfl (by decide) rfl rfl trivial ?_
    intro s1 es1
    have h := h s1 es1
    refine w_aload (p' := 196) rfl rfl rfl rfl ?_
    refine w_iload (p' := 198) rfl rfl rfl rfl ?_
    refine w_aload (p' := 199) rfl rfl rfl rfl ?_
    refine w_getI (p' := 202) (j := 49) rfl rfl (by decide) rfl rfl ?_
    refine w_iload (p' := 203) rfl rfl rfl rfl ?_
    refine v_callV (M' := 61) (p' := 206) (rest := []) (as := [(.inr (.inr (.inl (some 113)))), (.inl v4), (.inl (s1 113 49)), (.inl v2)]) rfl rfl rfl rfl rfl rfl rfl rfl rfl rfl rfl rfl rfl h (fun s2 h => ?_)
    refine w_aload (p' := 207) rfl rfl rfl rfl ?_
    refine v_callI (M' := 63) (p' := 210) (rest := []) (as := [(.inr (.inr (.inl (some 113))))]) rfl rfl rfl rfl rfl rfl rfl rfl rfl rfl rfl rfl rfl h (fun r4 s3 h => ?_)
    refine w_istore (p' := 211) (ls' := [some (.inr (.inr (.inl (some 113)))), none, some (.inl v2), some (.inl r4), some (.inl v4), none]) rfl rfl rfl (Nat.le_of_ble_eq_true rfl) rfl ?_
    refine w_goto (p' := 7) rfl rfl ?_
    exact w_cut (q_le_s (q_le_n (q_le_s (q_le_s (q_le_n (q_le_n q_le_z)))))) h
  · have h := h.2 e
    refine w_aload (p' := 173) rfl rfl rfl rfl ?_
    refine w_getR (p' := 176) rfl rfl rfl rfl rfl ?_
    refine w_aload (p' := 177) rfl rfl rfl rfl ?_
    refine w_getI (p' := 180) (j := 49) rfl rfl (by decide) rfl rfl ?_
    refine w_iald (p' := 181) (N := 240) rfl rfl rfl rfl h.1 h.2.1 ?_
    have h := h.2.2
    refine w_const (p' := 183) rfl rfl rfl ?_
    refine w_icmp (t := 190) (e := 186) rfl rfl rfl (fun e => ?_) (fun e => ?_)
    · have h := h.1 e
      refine w_const (p' := 191) rfl rfl rfl ?_
      refine w_add (p' := 192) rfl rfl h.1 ?_
      have h := h.2
      refine v_putI (p' := 195) (j := 49) rfl rfl (by decide) rfl rfl trivial ?_
      intro s5 es5
      have h := h s5 es5
      refine w_aload (p' := 196) rfl rfl rfl rfl ?_
      refine w_iload (p' := 198) rfl rfl rfl rfl ?_
      refine w_aload (p' := 199) rfl rfl rfl rfl ?_
      refine w_getI (p' := 202) (j := 49) rfl rfl (by decide) rfl rfl ?_
      refine w_iload (p' := 203) rfl rfl rfl rfl ?_
      refine v_callV (M' := 61) (p' := 206) (rest := []) (as := [(.inr (.inr (.inl (some 113)))), (.inl v4), (.inl (s5 113 49)), (.inl v2)]) rfl rfl rfl rfl rfl rfl rfl rfl rfl rfl rfl rfl rfl h (fun s6 h => ?_)
      refine w_aload (p' := 207) rfl rfl rfl rfl ?_
      refine v_callI (M' := 63) (p' := 210) (rest := []) (as := [(.inr (.inr (.inl (some 113))))]) rfl rfl rfl rfl rfl rfl rfl rfl rfl rfl rfl rfl rfl h (fun r8 s7 h => ?_)
      refine w_istore (p' := 211) (ls' := [some (.inr (.inr (.inl (some 113)))), none, some (.inl v2), some (.inl r8), some (.inl v4), none]) rfl rfl rfl (Nat.le_of_ble_eq_true rfl) rfl ?_
      refine w_goto (p' := 7) rfl rfl ?_
      exact w_cut (q_le_s (q_le_n (q_le_s (q_le_s (q_le_n (q_le_n q_le_z)))))) h
    · have h := h.2 e
      refine w_const (p' := 187) rfl rfl rfl ?_
      refine w_goto (p' := 191) rfl rfl ?_
      refine w_add (p' := 192) rfl rfl h.1 ?_
      have h := h.2
      refine v_putI (p' := 195) (j := 49) rfl rfl (by decide) rfl rfl trivial ?_
      intro s9 es9
      have h := h s9 es9
      refine w_aload (p' := 196) rfl rfl rfl rfl ?_
      refine w_iload (p' := 198) rfl rfl rfl rfl ?_
      refine w_aload (p' := 199) rfl rfl rfl rfl ?_
      refine w_getI (p' := 202) (j := 49) rfl rfl (by decide) rfl rfl ?_
      refine w_iload (p' := 203) rfl rfl rfl rfl ?_
      refine v_callV (M' := 61) (p' := 206) (rest := []) (as := [(.inr (.inr (.inl (some 113)))), (.inl v4), (.inl (s9 113 49)), (.inl v2)]) rfl rfl rfl rfl rfl rfl rfl rfl rfl rfl rfl rfl rfl h (fun s10 h => ?_)
      refine w_aload (p' := 207) rfl rfl rfl rfl ?_
      refine v_callI (M' := 63) (p' := 210) (rest := []) (as := [(.inr (.inr (.inl (some 113))))]) rfl rfl rfl rfl rfl rfl rfl rfl rfl rfl rfl rfl rfl h (fun r12 s11 h => ?_)
      refine w_istore (p' := 211) (ls' := [some (.inr (.inr (.inl (some 113)))), none, some (.inl v2), some (.inl r12), some (.inl v4), none]) rfl rfl rfl (Nat.le_of_ble_eq_true rfl) rfl ?_
      refine w_goto (p' := 7) rfl rfl ?_
      exact w_cut (q_le_s (q_le_n (q_le_s (q_le_s (q_le_n (q_le_n q_le_z)))))) h
set_option maxRecDepth 20000 in
theorem sg_m_trimmed {X : Nat × (Nat → Int32)} {x1 : Int} {x2 : Int} {s : qM} {K : Int → qM → Prop} (h : L_m_trimmed_2 X x1 x2 s K) : c_m_trimmed X x1 x2 s K := by
  unfold c_m_trimmed
  refine w_iload (p' := 1) rfl rfl rfl rfl ?_
  refine w_istore (p' := 2) (ls' := [some (.inr (.inr (.inl (some 113)))), some (.inl x1), some (.inl x2), some (.inl x2)]) rfl rfl rfl (Nat.le_of_ble_eq_true rfl) rfl ?_
  exact w_cut (q_le_s (q_le_s (q_le_n (q_le_s q_le_z)))) h
set_option maxRecDepth 20000 in
theorem sg_m_trimmed_2 {X : Nat × (Nat → Int32)}  {v1 v3 : Int} {s : qM} {K : Int → qM → Prop} (h : (((v3 ≤ v1) → K v3 s) ∧ (¬ (v3 ≤ v1) → (-2147483648 ≤ (v3 - 1) ∧ (v3 - 1) < 2147483648) ∧ ((0 : Int) ≤ (v3 - 1)) ∧ ((v3 - 1) < (240 : Int)) ∧ ((((s 114 (v3 - 1)) ≠ 32) → K v3 s) ∧ (¬ ((s 114 (v3 - 1)) ≠ 32) → (-2147483648 ≤ (v3 + (-1)) ∧ (v3 + (-1)) < 2147483648) ∧ L_m_trimmed_2 X v1 (v3 + (-1)) s K))))) : L_m_trimmed_2 X v1 v3 s K := by
  unfold L_m_trimmed_2
  refine w_iload (p' := 3) rfl rfl rfl rfl ?_
  refine w_iload (p' := 4) rfl rfl rfl rfl ?_
  refine w_icmp (t := 26) (e := 7) rfl rfl rfl (fun e => ?_) (fun e => ?_)
  · have h := h.1 e
    refine w_iload (p' := 27) rfl rfl rfl rfl ?_
    exact w_iret rfl trivial ⟨rfl, _, rfl, h⟩
  · have h := h.2 e
    refine w_aload (p' := 8) rfl rfl rfl rfl ?_
    refine w_getR (p' := 11) rfl rfl rfl rfl rfl ?_
    refine w_iload (p' := 12) rfl rfl rfl rfl ?_
    refine w_const (p' := 13) rfl rfl rfl ?_
    refine w_sub (p' := 14) rfl rfl h.1 ?_
    have h := h.2
    refine w_iald (p' := 15) (N := 240) rfl rfl rfl rfl h.1 h.2.1 ?_
    have h := h.2.2
    refine w_const (p' := 17) rfl rfl rfl ?_
    refine w_icmp (t := 26) (e := 20) rfl rfl rfl (fun e => ?_) (fun e => ?_)
    · have h := h.1 e
      refine w_iload (p' := 27) rfl rfl rfl rfl ?_
      exact w_iret rfl trivial ⟨rfl, _, rfl, h⟩
    · have h := h.2 e
      refine w_iinc (p' := 23) (ls' := [some (.inr (.inr (.inl (some 113)))), some (.inl v1), none, some (.inl (v3 + (-1)))]) rfl rfl rfl (Nat.le_of_ble_eq_true rfl) h.1 rfl ?_
      have h := h.2
      refine w_goto (p' := 2) rfl rfl ?_
      exact w_cut (q_le_s (q_le_s (q_le_n (q_le_s q_le_z)))) h
set_option maxRecDepth 20000 in
theorem sg_m_isFence {X : Nat × (Nat → Int32)}  {s : qM} {K : Int → qM → Prop} (h : c_m_trimmed X (s 113 49) (s 113 50) s (fun r2 s1 => (-2147483648 ≤ (r2 - (s1 113 49)) ∧ (r2 - (s1 113 49)) < 2147483648) ∧ ((((r2 - (s1 113 49)) ≠ 3) → K 0 s1) ∧ (¬ ((r2 - (s1 113 49)) ≠ 3) → ((0 : Int) ≤ (s1 113 49)) ∧ ((s1 113 49) < (240 : Int)) ∧ ((((s1 114 (s1 113 49)) ≠ 126) → K 0 s1) ∧ (¬ ((s1 114 (s1 113 49)) ≠ 126) → (-2147483648 ≤ ((s1 113 49) + 1) ∧ ((s1 113 49) + 1) < 2147483648) ∧ ((0 : Int) ≤ ((s1 113 49) + 1)) ∧ (((s1 113 49) + 1) < (240 : Int)) ∧ ((((s1 114 ((s1 113 49) + 1)) ≠ 126) → K 0 s1) ∧ (¬ ((s1 114 ((s1 113 49) + 1)) ≠ 126) → (-2147483648 ≤ ((s1 113 49) + 2) ∧ ((s1 113 49) + 2) < 2147483648) ∧ ((0 : Int) ≤ ((s1 113 49) + 2)) ∧ (((s1 113 49) + 2) < (240 : Int)) ∧ ((((s1 114 ((s1 113 49) + 2)) ≠ 126) → K 0 s1) ∧ (¬ ((s1 114 ((s1 113 49) + 2)) ≠ 126) → K 1 s1)))))))))) : c_m_isFence X  s K := by
  unfold c_m_isFence
  refine w_aload (p' := 1) rfl rfl rfl rfl ?_
  refine w_aload (p' := 2) rfl rfl rfl rfl ?_
  refine w_getI (p' := 5) (j := 49) rfl rfl (by decide) rfl rfl ?_
  refine w_aload (p' := 6) rfl rfl rfl rfl ?_
  refine w_getI (p' := 9) (j := 50) rfl rfl (by decide) rfl rfl ?_
  refine v_callI (M' := 65) (p' := 12) (rest := []) (as := [(.inr (.inr (.inl (some 113)))), (.inl (s 113 49)), (.inl (s 113 50))]) rfl rfl rfl rfl rfl rfl rfl rfl rfl rfl rfl rfl rfl h (fun r2 s1 h => ?_)
  refine w_aload (p' := 13) rfl rfl rfl rfl ?_
  refine w_getI (p' := 16) (j := 49) rfl rfl (by decide) rfl rfl ?_
  refine w_sub (p' := 17) rfl rfl h.1 ?_
  have h := h.2
  refine w_const (p' := 18) rfl rfl rfl ?_
  refine w_icmp (t := 71) (e := 21) rfl rfl rfl (fun e => ?_) (fun e => ?_)
  · have h := h.1 e
    refine w_const (p' := 72) rfl rfl rfl ?_
    exact w_iret rfl ⟨by decide, by decide⟩ ⟨rfl, _, rfl, h⟩
  · have h := h.2 e
    refine w_aload (p' := 22) rfl rfl rfl rfl ?_
    refine w_getR (p' := 25) rfl rfl rfl rfl rfl ?_
    refine w_aload (p' := 26) rfl rfl rfl rfl ?_
    refine w_getI (p' := 29) (j := 49) rfl rfl (by decide) rfl rfl ?_
    refine w_iald (p' := 30) (N := 240) rfl rfl rfl rfl h.1 h.2.1 ?_
    have h := h.2.2
    refine w_const (p' := 32) rfl rfl rfl ?_
    refine w_icmp (t := 71) (e := 35) rfl rfl rfl (fun e => ?_) (fun e => ?_)
    · have h := h.1 e
      refine w_const (p' := 72) rfl rfl rfl ?_
      exact w_iret rfl ⟨by decide, by decide⟩ ⟨rfl, _, rfl, h⟩
    · have h := h.2 e
      refine w_aload (p' := 36) rfl rfl rfl rfl ?_
      refine w_getR (p' := 39) rfl rfl rfl rfl rfl ?_
      refine w_aload (p' := 40) rfl rfl rfl rfl ?_
      refine w_getI (p' := 43) (j := 49) rfl rfl (by decide) rfl rfl ?_
      refine w_const (p' := 44) rfl rfl rfl ?_
      refine w_add (p' := 45) rfl rfl h.1 ?_
      have h := h.2
      refine w_iald (p' := 46) (N := 240) rfl rfl rfl rfl h.1 h.2.1 ?_
      have h := h.2.2
      refine w_const (p' := 48) rfl rfl rfl ?_
      refine w_icmp (t := 71) (e := 51) rfl rfl rfl (fun e => ?_) (fun e => ?_)
      · have h := h.1 e
        refine w_const (p' := 72) rfl rfl rfl ?_
        exact w_iret rfl ⟨by decide, by decide⟩ ⟨rfl, _, rfl, h⟩
      · have h := h.2 e
        refine w_aload (p' := 52) rfl rfl rfl rfl ?_
        refine w_getR (p' := 55) rfl rfl rfl rfl rfl ?_
        refine w_aload (p' := 56) rfl rfl rfl rfl ?_
        refine w_getI (p' := 59) (j := 49) rfl rfl (by decide) rfl rfl ?_
        refine w_const (p' := 60) rfl rfl rfl ?_
        refine w_add (p' := 61) rfl rfl h.1 ?_
        have h := h.2
        refine w_iald (p' := 62) (N := 240) rfl rfl rfl rfl h.1 h.2.1 ?_
        have h := h.2.2
        refine w_const (p' := 64) rfl rfl rfl ?_
        refine w_icmp (t := 71) (e := 67) rfl rfl rfl (fun e => ?_) (fun e => ?_)
        · have h := h.1 e
          refine w_const (p' := 72) rfl rfl rfl ?_
          exact w_iret rfl ⟨by decide, by decide⟩ ⟨rfl, _, rfl, h⟩
        · have h := h.2 e
          refine w_const (p' := 68) rfl rfl rfl ?_
          refine w_goto (p' := 72) rfl rfl ?_
          exact w_iret rfl ⟨by decide, by decide⟩ ⟨rfl, _, rfl, h⟩
set_option maxRecDepth 20000 in
theorem sg_m_headingLevel {X : Nat × (Nat → Int32)}  {s : qM} {K : Int → qM → Prop} (h : L_m_headingLevel_2 X 0 s K) : c_m_headingLevel X  s K := by
  unfold c_m_headingLevel
  refine w_const (p' := 1) rfl rfl rfl ?_
  refine w_istore (p' := 2) (ls' := [some (.inr (.inr (.inl (some 113)))), some (.inl 0)]) rfl rfl rfl (Nat.le_of_ble_eq_true rfl) rfl ?_
  exact w_cut (q_le_s (q_le_s q_le_z)) h
set_option maxRecDepth 20000 in
theorem sg_m_headingLevel_2 {X : Nat × (Nat → Int32)}  {v1 : Int} {s : qM} {K : Int → qM → Prop} (h : (-2147483648 ≤ ((s 113 49) + v1) ∧ ((s 113 49) + v1) < 2147483648) ∧ ((((s 113 50) ≤ ((s 113 49) + v1)) → L_m_headingLevel_37 X v1 s K) ∧ (¬ ((s 113 50) ≤ ((s 113 49) + v1)) → (-2147483648 ≤ ((s 113 49) + v1) ∧ ((s 113 49) + v1) < 2147483648) ∧ ((0 : Int) ≤ ((s 113 49) + v1)) ∧ (((s 113 49) + v1) < (240 : Int)) ∧ ((((s 114 ((s 113 49) + v1)) ≠ 35) → L_m_headingLevel_37 X v1 s K) ∧ (¬ ((s 114 ((s 113 49) + v1)) ≠ 35) → (-2147483648 ≤ (v1 + 1) ∧ (v1 + 1) < 2147483648) ∧ L_m_headingLevel_2 X (v1 + 1) s K))))) : L_m_headingLevel_2 X v1 s K := by
  unfold L_m_headingLevel_2
  refine w_aload (p' := 3) rfl rfl rfl rfl ?_
  refine w_getI (p' := 6) (j := 49) rfl rfl (by decide) rfl rfl ?_
  refine w_iload (p' := 7) rfl rfl rfl rfl ?_
  refine w_add (p' := 8) rfl rfl h.1 ?_
  have h := h.2
  refine w_aload (p' := 9) rfl rfl rfl rfl ?_
  refine w_getI (p' := 12) (j := 50) rfl rfl (by decide) rfl rfl ?_
  refine w_icmp (t := 37) (e := 15) rfl rfl rfl (fun e => ?_) (fun e => ?_)
  · have h := h.1 e
    exact w_cut (q_le_s (q_le_s q_le_z)) h
  · have h := h.2 e
    refine w_aload (p' := 16) rfl rfl rfl rfl ?_
    refine w_getR (p' := 19) rfl rfl rfl rfl rfl ?_
    refine w_aload (p' := 20) rfl rfl rfl rfl ?_
    refine w_getI (p' := 23) (j := 49) rfl rfl (by decide) rfl rfl ?_
    refine w_iload (p' := 24) rfl rfl rfl rfl ?_
    refine w_add (p' := 25) rfl rfl h.1 ?_
    have h := h.2
    refine w_iald (p' := 26) (N := 240) rfl rfl rfl rfl h.1 h.2.1 ?_
    have h := h.2.2
    refine w_const (p' := 28) rfl rfl rfl ?_
    refine w_icmp (t := 37) (e := 31) rfl rfl rfl (fun e => ?_) (fun e => ?_)
    · have h := h.1 e
      exact w_cut (q_le_s (q_le_s q_le_z)) h
    · have h := h.2 e
      refine w_iinc (p' := 34) (ls' := [some (.inr (.inr (.inl (some 113)))), some (.inl (v1 + 1))]) rfl rfl rfl (Nat.le_of_ble_eq_true rfl) h.1 rfl ?_
      have h := h.2
      refine w_goto (p' := 2) rfl rfl ?_
      exact w_cut (q_le_s (q_le_s q_le_z)) h
set_option maxRecDepth 20000 in
theorem sg_m_headingLevel_37 {X : Nat × (Nat → Int32)}  {v1 : Int} {s : qM} {K : Int → qM → Prop} (h : c_m_isIn X v1 1 3 s (fun r2 s1 => (((r2 = 0) → K 0 s1) ∧ (¬ (r2 = 0) → (-2147483648 ≤ ((s1 113 49) + v1) ∧ ((s1 113 49) + v1) < 2147483648) ∧ (((((s1 113 49) + v1) = (s1 113 50)) → K v1 s1) ∧ (¬ (((s1 113 49) + v1) = (s1 113 50)) → (-2147483648 ≤ ((s1 113 49) + v1) ∧ ((s1 113 49) + v1) < 2147483648) ∧ ((0 : Int) ≤ ((s1 113 49) + v1)) ∧ (((s1 113 49) + v1) < (240 : Int)) ∧ ((((s1 114 ((s1 113 49) + v1)) ≠ 32) → K 0 s1) ∧ (¬ ((s1 114 ((s1 113 49) + v1)) ≠ 32) → K v1 s1)))))))) : L_m_headingLevel_37 X v1 s K := by
  unfold L_m_headingLevel_37
  refine w_iload (p' := 38) rfl rfl rfl rfl ?_
  refine w_const (p' := 39) rfl rfl rfl ?_
  refine w_const (p' := 40) rfl rfl rfl ?_
  refine v_callI (M' := 47) (p' := 43) (rest := []) (as := [(.inl v1), (.inl 1), (.inl 3)]) rfl rfl rfl rfl rfl rfl rfl rfl rfl rfl rfl trivial rfl h (fun r2 s1 h => ?_)
  refine w_if (t := 79) (e := 46) rfl rfl rfl (fun e => ?_) (fun e => ?_)
  · have h := h.1 e
    refine w_const (p' := 80) rfl rfl rfl ?_
    exact w_iret rfl trivial ⟨rfl, _, rfl, h⟩
  · have h := h.2 e
    refine w_aload (p' := 47) rfl rfl rfl rfl ?_
    refine w_getI (p' := 50) (j := 49) rfl rfl (by decide) rfl rfl ?_
    refine w_iload (p' := 51) rfl rfl rfl rfl ?_
    refine w_add (p' := 52) rfl rfl h.1 ?_
    have h := h.2
    refine w_aload (p' := 53) rfl rfl rfl rfl ?_
    refine w_getI (p' := 56) (j := 50) rfl rfl (by decide) rfl rfl ?_
    refine w_icmp (t := 75) (e := 59) rfl rfl rfl (fun e => ?_) (fun e => ?_)
    · have h := h.1 e
      refine w_iload (p' := 76) rfl rfl rfl rfl ?_
      refine w_goto (p' := 80) rfl rfl ?_
      exact w_iret rfl trivial ⟨rfl, _, rfl, h⟩
    · have h := h.2 e
      refine w_aload (p' := 60) rfl rfl rfl rfl ?_
      refine w_getR (p' := 63) rfl rfl rfl rfl rfl ?_
      refine w_aload (p' := 64) rfl rfl rfl rfl ?_
      refine w_getI (p' := 67) (j := 49) rfl rfl (by decide) rfl rfl ?_
      refine w_iload (p' := 68) rfl rfl rfl rfl ?_
      refine w_add (p' := 69) rfl rfl h.1 ?_
      have h := h.2
      refine w_iald (p' := 70) (N := 240) rfl rfl rfl rfl h.1 h.2.1 ?_
      have h := h.2.2
      refine w_const (p' := 72) rfl rfl rfl ?_
      refine w_icmp (t := 79) (e := 75) rfl rfl rfl (fun e => ?_) (fun e => ?_)
      · have h := h.1 e
        refine w_const (p' := 80) rfl rfl rfl ?_
        exact w_iret rfl trivial ⟨rfl, _, rfl, h⟩
      · have h := h.2 e
        refine w_iload (p' := 76) rfl rfl rfl rfl ?_
        refine w_goto (p' := 80) rfl rfl ?_
        exact w_iret rfl trivial ⟨rfl, _, rfl, h⟩
set_option maxRecDepth 20000 in
theorem sg_m_letters {X : Nat × (Nat → Int32)} {x1 : Int} {x2 : Int} {s : qM} {K : Int → qM → Prop} (h : L_m_letters_2 X x1 x2 x1 s K) : c_m_letters X x1 x2 s K := by
  unfold c_m_letters
  refine w_iload (p' := 1) rfl rfl rfl rfl ?_
  refine w_istore (p' := 2) (ls' := [some (.inr (.inr (.inl (some 113)))), some (.inl x1), some (.inl x2), some (.inl x1)]) rfl rfl rfl (Nat.le_of_ble_eq_true rfl) rfl ?_
  exact w_cut (q_le_s (q_le_s (q_le_s (q_le_s q_le_z)))) h
set_option maxRecDepth 20000 in
theorem sg_m_letters_2 {X : Nat × (Nat → Int32)}  {v1 v2 v3 : Int} {s : qM} {K : Int → qM → Prop} (h : (((v2 ≤ v3) → (-2147483648 ≤ (v3 - v1) ∧ (v3 - v1) < 2147483648) ∧ K (v3 - v1) s) ∧ (¬ (v2 ≤ v3) → ((0 : Int) ≤ v3) ∧ (v3 < (240 : Int)) ∧ c_m_isLetter X (s 114 v3) s (fun r2 s1 => (((r2 = 0) → (-2147483648 ≤ (v3 - v1) ∧ (v3 - v1) < 2147483648) ∧ K (v3 - v1) s1) ∧ (¬ (r2 = 0) → (-2147483648 ≤ (v3 + 1) ∧ (v3 + 1) < 2147483648) ∧ L_m_letters_2 X v1 v2 (v3 + 1) s1 K)))))) : L_m_letters_2 X v1 v2 v3 s K := by
  unfold L_m_letters_2
  refine w_iload (p' := 3) rfl rfl rfl rfl ?_
  refine w_iload (p' := 4) rfl rfl rfl rfl ?_
  refine w_icmp (t := 25) (e := 7) rfl rfl rfl (fun e => ?_) (fun e => ?_)
  · have h := h.1 e
    refine w_iload (p' := 26) rfl rfl rfl rfl ?_
    refine w_iload (p' := 27) rfl rfl rfl rfl ?_
    refine w_sub (p' := 28) rfl rfl h.1 ?_
    have h := h.2
    exact w_iret rfl trivial ⟨rfl, _, rfl, h⟩
  · have h := h.2 e
    refine w_aload (p' := 8) rfl rfl rfl rfl ?_
    refine w_getR (p' := 11) rfl rfl rfl rfl rfl ?_
    refine w_iload (p' := 12) rfl rfl rfl rfl ?_
    refine w_iald (p' := 13) (N := 240) rfl rfl rfl rfl h.1 h.2.1 ?_
    have h := h.2.2
    refine v_callI (M' := 48) (p' := 16) (rest := []) (as := [(.inl (s 114 v3))]) rfl rfl rfl rfl rfl rfl rfl rfl rfl rfl rfl trivial rfl h (fun r2 s1 h => ?_)
    refine w_if (t := 25) (e := 19) rfl rfl rfl (fun e => ?_) (fun e => ?_)
    · have h := h.1 e
      refine w_iload (p' := 26) rfl rfl rfl rfl ?_
      refine w_iload (p' := 27) rfl rfl rfl rfl ?_
      refine w_sub (p' := 28) rfl rfl h.1 ?_
      have h := h.2
      exact w_iret rfl trivial ⟨rfl, _, rfl, h⟩
    · have h := h.2 e
      refine w_iinc (p' := 22) (ls' := [some (.inr (.inr (.inl (some 113)))), some (.inl v1), some (.inl v2), some (.inl (v3 + 1))]) rfl rfl rfl (Nat.le_of_ble_eq_true rfl) h.1 rfl ?_
      have h := h.2
      refine w_goto (p' := 2) rfl rfl ?_
      exact w_cut (q_le_s (q_le_s (q_le_s (q_le_s q_le_z)))) h
set_option maxRecDepth 20000 in
theorem sg_m_isDefinition {X : Nat × (Nat → Int32)}  {s : qM} {K : Int → qM → Prop} (h : c_m_trimmed X (s 113 49) (s 113 50) s (fun r2 s1 => (((r2 ≤ (s1 113 49)) → L_m_isDefinition_50 X r2 0 s1 K) ∧ (¬ (r2 ≤ (s1 113 49)) → ((0 : Int) ≤ (s1 113 49)) ∧ ((s1 113 49) < (240 : Int)) ∧ ((((s1 114 (s1 113 49)) ≠ 91) → L_m_isDefinition_50 X r2 0 s1 K) ∧ (¬ ((s1 114 (s1 113 49)) ≠ 91) → (-2147483648 ≤ ((s1 113 49) + 1) ∧ ((s1 113 49) + 1) < 2147483648) ∧ c_m_letters X ((s1 113 49) + 1) r2 s1 (fun r4 s3 => L_m_isDefinition_50 X r2 r4 s3 K))))))) : c_m_isDefinition X  s K := by
  unfold c_m_isDefinition
  refine w_aload (p' := 1) rfl rfl rfl rfl ?_
  refine w_aload (p' := 2) rfl rfl rfl rfl ?_
  refine w_getI (p' := 5) (j := 49) rfl rfl (by decide) rfl rfl ?_
  refine w_aload (p' := 6) rfl rfl rfl rfl ?_
  refine w_getI (p' := 9) (j := 50) rfl rfl (by decide) rfl rfl ?_
  refine v_callI (M' := 65) (p' := 12) (rest := []) (as := [(.inr (.inr (.inl (some 113)))), (.inl (s 113 49)), (.inl (s 113 50))]) rfl rfl rfl rfl rfl rfl rfl rfl rfl rfl rfl rfl rfl h (fun r2 s1 h => ?_)
  refine w_istore (p' := 13) (ls' := [some (.inr (.inr (.inl (some 113)))), some (.inl r2), none, none]) rfl rfl rfl (Nat.le_of_ble_eq_true rfl) rfl ?_
  refine w_aload (p' := 14) rfl rfl rfl rfl ?_
  refine w_getI (p' := 17) (j := 49) rfl rfl (by decide) rfl rfl ?_
  refine w_iload (p' := 18) rfl rfl rfl rfl ?_
  refine w_icmp (t := 49) (e := 21) rfl rfl rfl (fun e => ?_) (fun e => ?_)
  · have h := h.1 e
    refine w_const (p' := 50) rfl rfl rfl ?_
    exact w_cut (q_le_s (q_le_s (q_le_n (q_le_n q_le_z)))) h
  · have h := h.2 e
    refine w_aload (p' := 22) rfl rfl rfl rfl ?_
    refine w_getR (p' := 25) rfl rfl rfl rfl rfl ?_
    refine w_aload (p' := 26) rfl rfl rfl rfl ?_
    refine w_getI (p' := 29) (j := 49) rfl rfl (by decide) rfl rfl ?_
    refine w_iald (p' := 30) (N := 240) rfl rfl rfl rfl h.1 h.2.1 ?_
    have h := h.2.2
    refine w_const (p' := 32) rfl rfl rfl ?_
    refine w_icmp (t := 49) (e := 35) rfl rfl rfl (fun e => ?_) (fun e => ?_)
    · have h := h.1 e
      refine w_const (p' := 50) rfl rfl rfl ?_
      exact w_cut (q_le_s (q_le_s (q_le_n (q_le_n q_le_z)))) h
    · have h := h.2 e
      refine w_aload (p' := 36) rfl rfl rfl rfl ?_
      refine w_aload (p' := 37) rfl rfl rfl rfl ?_
      refine w_getI (p' := 40) (j := 49) rfl rfl (by decide) rfl rfl ?_
      refine w_const (p' := 41) rfl rfl rfl ?_
      refine w_add (p' := 42) rfl rfl h.1 ?_
      have h := h.2
      refine w_iload (p' := 43) rfl rfl rfl rfl ?_
      refine v_callI (M' := 68) (p' := 46) (rest := []) (as := [(.inr (.inr (.inl (some 113)))), (.inl ((s1 113 49) + 1)), (.inl r2)]) rfl rfl rfl rfl rfl rfl rfl rfl rfl rfl rfl rfl rfl h (fun r4 s3 h => ?_)
      refine w_goto (p' := 50) rfl rfl ?_
      exact w_cut (q_le_s (q_le_s (q_le_n (q_le_n q_le_z)))) h
set_option maxRecDepth 20000 in
theorem sg_m_isDefinition_50 {X : Nat × (Nat → Int32)}  {v1 t0 : Int} {s : qM} {K : Int → qM → Prop} (h : (-2147483648 ≤ ((s 113 49) + 1) ∧ ((s 113 49) + 1) < 2147483648) ∧ (-2147483648 ≤ (((s 113 49) + 1) + t0) ∧ (((s 113 49) + 1) + t0) < 2147483648) ∧ c_m_isIn X t0 1 6 s (fun r2 s1 => (((r2 = 0) → K 0 s1) ∧ (¬ (r2 = 0) → (-2147483648 ≤ ((((s 113 49) + 1) + t0) + 2) ∧ ((((s 113 49) + 1) + t0) + 2) < 2147483648) ∧ (((v1 ≤ ((((s 113 49) + 1) + t0) + 2)) → K 0 s1) ∧ (¬ (v1 ≤ ((((s 113 49) + 1) + t0) + 2)) → ((0 : Int) ≤ (((s 113 49) + 1) + t0)) ∧ ((((s 113 49) + 1) + t0) < (240 : Int)) ∧ ((((s1 114 (((s 113 49) + 1) + t0)) ≠ 93) → K 0 s1) ∧ (¬ ((s1 114 (((s 113 49) + 1) + t0)) ≠ 93) → (-2147483648 ≤ ((((s 113 49) + 1) + t0) + 1) ∧ ((((s 113 49) + 1) + t0) + 1) < 2147483648) ∧ ((0 : Int) ≤ ((((s 113 49) + 1) + t0) + 1)) ∧ (((((s 113 49) + 1) + t0) + 1) < (240 : Int)) ∧ ((((s1 114 ((((s 113 49) + 1) + t0) + 1)) ≠ 58) → K 0 s1) ∧ (¬ ((s1 114 ((((s 113 49) + 1) + t0) + 1)) ≠ 58) → (-2147483648 ≤ ((((s 113 49) + 1) + t0) + 2) ∧ ((((s 113 49) + 1) + t0) + 2) < 2147483648) ∧ ((0 : Int) ≤ ((((s 113 49) + 1) + t0) + 2)) ∧ (((((s 113 49) + 1) + t0) + 2) < (240 : Int)) ∧ ((((s1 114 ((((s 113 49) + 1) + t0) + 2)) = 32) → (-2147483648 ≤ ((((s 113 49) + 1) + t0) + 2) ∧ ((((s 113 49) + 1) + t0) + 2) < 2147483648) ∧ L_m_isDefinition_119 X v1 ((((s 113 49) + 1) + t0) + 2) s1 K) ∧ (¬ ((s1 114 ((((s 113 49) + 1) + t0) + 2)) = 32) → K 0 s1)))))))))))) : L_m_isDefinition_50 X v1 t0 s K := by
  unfold L_m_isDefinition_50
  refine w_istore (p' := 51) (ls' := [some (.inr (.inr (.inl (some 113)))), some (.inl v1), some (.inl t0), none]) rfl rfl rfl (Nat.le_of_ble_eq_true rfl) rfl ?_
  refine w_aload (p' := 52) rfl rfl rfl rfl ?_
  refine w_getI (p' := 55) (j := 49) rfl rfl (by decide) rfl rfl ?_
  refine w_const (p' := 56) rfl rfl rfl ?_
  refine w_add (p' := 57) rfl rfl h.1 ?_
  have h := h.2
  refine w_iload (p' := 58) rfl rfl rfl rfl ?_
  refine w_add (p' := 59) rfl rfl h.1 ?_
  have h := h.2
  refine w_istore (p' := 60) (ls' := [some (.inr (.inr (.inl (some 113)))), some (.inl v1), some (.inl t0), some (.inl (((s 113 49) + 1) + t0))]) rfl rfl rfl (Nat.le_of_ble_eq_true rfl) rfl ?_
  refine w_iload (p' := 61) rfl rfl rfl rfl ?_
  refine w_const (p' := 62) rfl rfl rfl ?_
  refine w_const (p' := 64) rfl rfl rfl ?_
  refine v_callI (M' := 47) (p' := 67) (rest := []) (as := [(.inl t0), (.inl 1), (.inl 6)]) rfl rfl rfl rfl rfl rfl rfl rfl rfl rfl rfl trivial rfl h (fun r2 s1 h => ?_)
  refine w_if (t := 114) (e := 70) rfl rfl rfl (fun e => ?_) (fun e => ?_)
  · have h := h.1 e
    refine w_const (p' := 115) rfl rfl rfl ?_
    exact w_iret rfl ⟨by decide, by decide⟩ ⟨rfl, _, rfl, h⟩
  · have h := h.2 e
    refine w_iload (p' := 71) rfl rfl rfl rfl ?_
    refine w_const (p' := 72) rfl rfl rfl ?_
    refine w_add (p' := 73) rfl rfl h.1 ?_
    have h := h.2
    refine w_iload (p' := 74) rfl rfl rfl rfl ?_
    refine w_icmp (t := 114) (e := 77) rfl rfl rfl (fun e => ?_) (fun e => ?_)
    · have h := h.1 e
      refine w_const (p' := 115) rfl rfl rfl ?_
      exact w_iret rfl ⟨by decide, by decide⟩ ⟨rfl, _, rfl, h⟩
    · have h := h.2 e
      refine w_aload (p' := 78) rfl rfl rfl rfl ?_
      refine w_getR (p' := 81) rfl rfl rfl rfl rfl ?_
      refine w_iload (p' := 82) rfl rfl rfl rfl ?_
      refine w_iald (p' := 83) (N := 240) rfl rfl rfl rfl h.1 h.2.1 ?_
      have h := h.2.2
      refine w_const (p' := 85) rfl rfl rfl ?_
      refine w_icmp (t := 114) (e := 88) rfl rfl rfl (fun e => ?_) (fun e => ?_)
      · have h := h.1 e
        refine w_const (p' := 115) rfl rfl rfl ?_
        exact w_iret rfl ⟨by decide, by decide⟩ ⟨rfl, _, rfl, h⟩
      · have h := h.2 e
        refine w_aload (p' := 89) rfl rfl rfl rfl ?_
        refine w_getR (p' := 92) rfl rfl rfl rfl rfl ?_
        refine w_iload (p' := 93) rfl rfl rfl rfl ?_
        refine w_const (p' := 94) rfl rfl rfl ?_
        refine w_add (p' := 95) rfl rfl h.1 ?_
        have h := h.2
        refine w_iald (p' := 96) (N := 240) rfl rfl rfl rfl h.1 h.2.1 ?_
        have h := h.2.2
        refine w_const (p' := 98) rfl rfl rfl ?_
        refine w_icmp (t := 114) (e := 101) rfl rfl rfl (fun e => ?_) (fun e => ?_)
        · have h := h.1 e
          refine w_const (p' := 115) rfl rfl rfl ?_
          exact w_iret rfl ⟨by decide, by decide⟩ ⟨rfl, _, rfl, h⟩
        · have h := h.2 e
          refine w_aload (p' := 102) rfl rfl rfl rfl ?_
          refine w_getR (p' := 105) rfl rfl rfl rfl rfl ?_
          refine w_iload (p' := 106) rfl rfl rfl rfl ?_
          refine w_const (p' := 107) rfl rfl rfl ?_
          refine w_add (p' := 108) rfl rfl h.1 ?_
          have h := h.2
          refine w_iald (p' := 109) (N := 240) rfl rfl rfl rfl h.1 h.2.1 ?_
          have h := h.2.2
          refine w_const (p' := 111) rfl rfl rfl ?_
          refine w_icmp (t := 116) (e := 114) rfl rfl rfl (fun e => ?_) (fun e => ?_)
          · have h := h.1 e
            refine w_iinc (p' := 119) (ls' := [some (.inr (.inr (.inl (some 113)))), some (.inl v1), some (.inl t0), some (.inl ((((s 113 49) + 1) + t0) + 2))]) rfl rfl rfl (Nat.le_of_ble_eq_true rfl) h.1 rfl ?_
            have h := h.2
            exact w_cut (q_le_s (q_le_s (q_le_n (q_le_s q_le_z)))) h
          · have h := h.2 e
            refine w_const (p' := 115) rfl rfl rfl ?_
            exact w_iret rfl ⟨by decide, by decide⟩ ⟨rfl, _, rfl, h⟩
set_option maxRecDepth 20000 in
theorem sg_m_isDefinition_119 {X : Nat × (Nat → Int32)}  {v1 v3 : Int} {s : qM} {K : Int → qM → Prop} (h : (((v1 ≤ v3) → c_m_letters X v3 v1 s (fun r2 s1 => c_m_isIn X r2 1 8 s1 (fun r4 s3 => (((r4 = 0) → K 0 s3) ∧ (¬ (r4 = 0) → c_m_letters X v3 v1 s3 (fun r6 s5 => (-2147483648 ≤ (v3 + r6) ∧ (v3 + r6) < 2147483648) ∧ ((((v3 + r6) ≠ v1) → K 0 s5) ∧ (¬ ((v3 + r6) ≠ v1) → K 1 s5)))))))) ∧ (¬ (v1 ≤ v3) → ((0 : Int) ≤ v3) ∧ (v3 < (240 : Int)) ∧ ((((s 114 v3) ≠ 32) → c_m_letters X v3 v1 s (fun r8 s7 => c_m_isIn X r8 1 8 s7 (fun r10 s9 => (((r10 = 0) → K 0 s9) ∧ (¬ (r10 = 0) → c_m_letters X v3 v1 s9 (fun r12 s11 => (-2147483648 ≤ (v3 + r12) ∧ (v3 + r12) < 2147483648) ∧ ((((v3 + r12) ≠ v1) → K 0 s11) ∧ (¬ ((v3 + r12) ≠ v1) → K 1 s11)))))))) ∧ (¬ ((s 114 v3) ≠ 32) → (-2147483648 ≤ (v3 + 1) ∧ (v3 + 1) < 2147483648) ∧ L_m_isDefinition_119 X v1 (v3 + 1) s K))))) : L_m_isDefinition_119 X v1 v3 s K := by
  unfold L_m_isDefinition_119
  refine w_iload (p' := 120) rfl rfl rfl rfl ?_
  refine w_iload (p' := 121) rfl rfl rfl rfl ?_
  refine w_icmp (t := 141) (e := 124) rfl rfl rfl (fun e => ?_) (fun e => ?_)
  · have h := h.1 e
    refine w_aload (p' := 142) rfl rfl rfl rfl ?_
    refine w_iload (p' := 143) rfl rfl rfl rfl ?_
    refine w_iload (p' := 144) rfl rfl rfl rfl ?_
    refine v_callI (M' := 68) (p' := 147) (rest := []) (as := [(.inr (.inr (.inl (some 113)))), (.inl v3), (.inl v1)]) rfl rfl rfl rfl rfl rfl rfl rfl rfl rfl rfl rfl rfl h (fun r2 s1 h => ?_)
    refine w_const (p' := 148) rfl rfl rfl ?_
    refine w_const (p' := 150) rfl rfl rfl ?_
    refine v_callI (M' := 47) (p' := 153) (rest := []) (as := [(.inl r2), (.inl 1), (.inl 8)]) rfl rfl rfl rfl rfl rfl rfl rfl rfl rfl rfl trivial rfl h (fun r4 s3 h => ?_)
    refine w_if (t := 172) (e := 156) rfl rfl rfl (fun e => ?_) (fun e => ?_)
    · have h := h.1 e
      refine w_const (p' := 173) rfl rfl rfl ?_
      exact w_iret rfl ⟨by decide, by decide⟩ ⟨rfl, _, rfl, h⟩
    · have h := h.2 e
      refine w_iload (p' := 157) rfl rfl rfl rfl ?_
      refine w_aload (p' := 158) rfl rfl rfl rfl ?_
      refine w_iload (p' := 159) rfl rfl rfl rfl ?_
      refine w_iload (p' := 160) rfl rfl rfl rfl ?_
      refine v_callI (M' := 68) (p' := 163) (rest := [(.inl v3)]) (as := [(.inr (.inr (.inl (some 113)))), (.inl v3), (.inl v1)]) rfl rfl rfl rfl rfl rfl rfl rfl rfl rfl rfl rfl rfl h (fun r6 s5 h => ?_)
      refine w_add (p' := 164) rfl rfl h.1 ?_
      have h := h.2
      refine w_iload (p' := 165) rfl rfl rfl rfl ?_
      refine w_icmp (t := 172) (e := 168) rfl rfl rfl (fun e => ?_) (fun e => ?_)
      · have h := h.1 e
        refine w_const (p' := 173) rfl rfl rfl ?_
        exact w_iret rfl ⟨by decide, by decide⟩ ⟨rfl, _, rfl, h⟩
      · have h := h.2 e
        refine w_const (p' := 169) rfl rfl rfl ?_
        refine w_goto (p' := 173) rfl rfl ?_
        exact w_iret rfl ⟨by decide, by decide⟩ ⟨rfl, _, rfl, h⟩
  · have h := h.2 e
    refine w_aload (p' := 125) rfl rfl rfl rfl ?_
    refine w_getR (p' := 128) rfl rfl rfl rfl rfl ?_
    refine w_iload (p' := 129) rfl rfl rfl rfl ?_
    refine w_iald (p' := 130) (N := 240) rfl rfl rfl rfl h.1 h.2.1 ?_
    have h := h.2.2
    refine w_const (p' := 132) rfl rfl rfl ?_
    refine w_icmp (t := 141) (e := 135) rfl rfl rfl (fun e => ?_) (fun e => ?_)
    · have h := h.1 e
      refine w_aload (p' := 142) rfl rfl rfl rfl ?_
      refine w_iload (p' := 143) rfl rfl rfl rfl ?_
      refine w_iload (p' := 144) rfl rfl rfl rfl ?_
      refine v_callI (M' := 68) (p' := 147) (rest := []) (as := [(.inr (.inr (.inl (some 113)))), (.inl v3), (.inl v1)]) rfl rfl rfl rfl rfl rfl rfl rfl rfl rfl rfl rfl rfl h (fun r8 s7 h => ?_)
      refine w_const (p' := 148) rfl rfl rfl ?_
      refine w_const (p' := 150) rfl rfl rfl ?_
      refine v_callI (M' := 47) (p' := 153) (rest := []) (as := [(.inl r8), (.inl 1), (.inl 8)]) rfl rfl rfl rfl rfl rfl rfl rfl rfl rfl rfl trivial rfl h (fun r10 s9 h => ?_)
      refine w_if (t := 172) (e := 156) rfl rfl rfl (fun e => ?_) (fun e => ?_)
      · have h := h.1 e
        refine w_const (p' := 173) rfl rfl rfl ?_
        exact w_iret rfl ⟨by decide, by decide⟩ ⟨rfl, _, rfl, h⟩
      · have h := h.2 e
        refine w_iload (p' := 157) rfl rfl rfl rfl ?_
        refine w_aload (p' := 158) rfl rfl rfl rfl ?_
        refine w_iload (p' := 159) rfl rfl rfl rfl ?_
        refine w_iload (p' := 160) rfl rfl rfl rfl ?_
        refine v_callI (M' := 68) (p' := 163) (rest := [(.inl v3)]) (as := [(.inr (.inr (.inl (some 113)))), (.inl v3), (.inl v1)]) rfl rfl rfl rfl rfl rfl rfl rfl rfl rfl rfl rfl rfl h (fun r12 s11 h => ?_)
        refine w_add (p' := 164) rfl rfl h.1 ?_
        have h := h.2
        refine w_iload (p' := 165) rfl rfl rfl rfl ?_
        refine w_icmp (t := 172) (e := 168) rfl rfl rfl (fun e => ?_) (fun e => ?_)
        · have h := h.1 e
          refine w_const (p' := 173) rfl rfl rfl ?_
          exact w_iret rfl ⟨by decide, by decide⟩ ⟨rfl, _, rfl, h⟩
        · have h := h.2 e
          refine w_const (p' := 169) rfl rfl rfl ?_
          refine w_goto (p' := 173) rfl rfl ?_
          exact w_iret rfl ⟨by decide, by decide⟩ ⟨rfl, _, rfl, h⟩
    · have h := h.2 e
      refine w_iinc (p' := 138) (ls' := [some (.inr (.inr (.inl (some 113)))), some (.inl v1), none, some (.inl (v3 + 1))]) rfl rfl rfl (Nat.le_of_ble_eq_true rfl) h.1 rfl ?_
      have h := h.2
      refine w_goto (p' := 119) rfl rfl ?_
      exact w_cut (q_le_s (q_le_s (q_le_n (q_le_s q_le_z)))) h
set_option maxRecDepth 20000 in
theorem sg_m_names {X : Nat × (Nat → Int32)} {x1 : Int} {x2 : Int} {x3 : Int} {s : qM} {K : qM → Prop} (h : L_m_names_6 X x1 x2 x3 0 0 s K) : c_m_names X x1 x2 x3 s K := by
  unfold c_m_names
  refine w_const (p' := 1) rfl rfl rfl ?_
  refine w_istore (p' := 3) (ls' := [some (.inr (.inr (.inl (some 113)))), some (.inl x1), some (.inl x2), some (.inl x3), some (.inl 0), none]) rfl rfl rfl (Nat.le_of_ble_eq_true rfl) rfl ?_
  refine w_const (p' := 4) rfl rfl rfl ?_
  refine w_istore (p' := 6) (ls' := [some (.inr (.inr (.inl (some 113)))), some (.inl x1), some (.inl x2), some (.inl x3), some (.inl 0), some (.inl 0)]) rfl rfl rfl (Nat.le_of_ble_eq_true rfl) rfl ?_
  exact w_cut (q_le_s (q_le_s (q_le_s (q_le_s (q_le_s (q_le_s q_le_z)))))) h
set_option maxRecDepth 20000 in
theorem sg_m_names_6 {X : Nat × (Nat → Int32)}  {v1 v2 v3 v4 v5 : Int} {s : qM} {K : qM → Prop} (h : (((6 ≤ v5) → L_m_names_35 X v1 v3 v4 v2 s K) ∧ (¬ (6 ≤ v5) → (-2147483648 ≤ (6 * v1) ∧ (6 * v1) < 2147483648) ∧ (-2147483648 ≤ ((6 * v1) + v5) ∧ ((6 * v1) + v5) < 2147483648) ∧ ((0 : Int) ≤ ((6 * v1) + v5)) ∧ (((6 * v1) + v5) < (3600 : Int)) ∧ (∀ s1 : qM, s1 = q_up s 130 ((6 * v1) + v5) 0 → (-2147483648 ≤ (v5 + 1) ∧ (v5 + 1) < 2147483648) ∧ L_m_names_6 X v1 v2 v3 v4 (v5 + 1) s1 K)))) : L_m_names_6 X v1 v2 v3 v4 v5 s K := by
  unfold L_m_names_6
  refine w_iload (p' := 8) rfl rfl rfl rfl ?_
  refine w_const (p' := 10) rfl rfl rfl ?_
  refine w_icmp (t := 32) (e := 13) rfl rfl rfl (fun e => ?_) (fun e => ?_)
  · have h := h.1 e
    refine w_iload (p' := 33) rfl rfl rfl rfl ?_
    refine w_istore (p' := 35) (ls' := [some (.inr (.inr (.inl (some 113)))), some (.inl v1), some (.inl v2), some (.inl v3), some (.inl v4), some (.inl v2)]) rfl rfl rfl (Nat.le_of_ble_eq_true rfl) rfl ?_
    exact w_cut (q_le_s (q_le_s (q_le_n (q_le_s (q_le_s (q_le_s q_le_z)))))) h
  · have h := h.2 e
    refine w_aload (p' := 14) rfl rfl rfl rfl ?_
    refine w_getR (p' := 17) rfl rfl rfl rfl rfl ?_
    refine w_const (p' := 19) rfl rfl rfl ?_
    refine w_iload (p' := 20) rfl rfl rfl rfl ?_
    refine w_mul (p' := 21) rfl rfl h.1 ?_
    have h := h.2
    refine w_iload (p' := 23) rfl rfl rfl rfl ?_
    refine w_add (p' := 24) rfl rfl h.1 ?_
    have h := h.2
    refine w_const (p' := 25) rfl rfl rfl ?_
    refine v_iast (p' := 26) (N := 3600) rfl rfl rfl rfl h.1 h.2.1  ?_
    have h := h.2.2
    intro s1 es1
    have h := h s1 es1
    refine w_iinc (p' := 29) (ls' := [some (.inr (.inr (.inl (some 113)))), some (.inl v1), some (.inl v2), some (.inl v3), some (.inl v4), some (.inl (v5 + 1))]) rfl rfl rfl (Nat.le_of_ble_eq_true rfl) h.1 rfl ?_
    have h := h.2
    refine w_goto (p' := 6) rfl rfl ?_
    exact w_cut (q_le_s (q_le_s (q_le_s (q_le_s (q_le_s (q_le_s q_le_z)))))) h
set_option maxRecDepth 20000 in
theorem sg_m_names_35 {X : Nat × (Nat → Int32)}  {v1 v3 v4 v5 : Int} {s : qM} {K : qM → Prop} (h : (((v3 ≤ v5) → (-2147483648 ≤ (6 * v1) ∧ (6 * v1) < 2147483648) ∧ (((v4 ≠ 0) → (-2147483648 ≤ (6 * v1) ∧ (6 * v1) < 2147483648) ∧ ((0 : Int) ≤ (6 * v1)) ∧ ((6 * v1) < (3600 : Int)) ∧ ((0 : Int) ≤ (6 * v1)) ∧ ((6 * v1) < (3600 : Int)) ∧ (∀ s1 : qM, s1 = q_up s 130 (6 * v1) (s 130 (6 * v1)) → K s1)) ∧ (¬ (v4 ≠ 0) → ((0 : Int) ≤ (6 * v1)) ∧ ((6 * v1) < (3600 : Int)) ∧ (∀ s2 : qM, s2 = q_up s 130 (6 * v1) 120 → K s2)))) ∧ (¬ (v3 ≤ v5) → (((6 ≤ v4) → (-2147483648 ≤ (6 * v1) ∧ (6 * v1) < 2147483648) ∧ (((v4 ≠ 0) → (-2147483648 ≤ (6 * v1) ∧ (6 * v1) < 2147483648) ∧ ((0 : Int) ≤ (6 * v1)) ∧ ((6 * v1) < (3600 : Int)) ∧ ((0 : Int) ≤ (6 * v1)) ∧ ((6 * v1) < (3600 : Int)) ∧ (∀ s3 : qM, s3 = q_up s 130 (6 * v1) (s 130 (6 * v1)) → K s3)) ∧ (¬ (v4 ≠ 0) → ((0 : Int) ≤ (6 * v1)) ∧ ((6 * v1) < (3600 : Int)) ∧ (∀ s4 : qM, s4 = q_up s 130 (6 * v1) 120 → K s4)))) ∧ (¬ (6 ≤ v4) → ((0 : Int) ≤ v5) ∧ (v5 < (240 : Int)) ∧ c_m_isLetter X (s 114 v5) s (fun r6 s5 => (((r6 = 0) → (-2147483648 ≤ (v5 + 1) ∧ (v5 + 1) < 2147483648) ∧ L_m_names_35 X v1 v3 v4 (v5 + 1) s5 K) ∧ (¬ (r6 = 0) → (-2147483648 ≤ (6 * v1) ∧ (6 * v1) < 2147483648) ∧ (-2147483648 ≤ ((6 * v1) + v4) ∧ ((6 * v1) + v4) < 2147483648) ∧ ((0 : Int) ≤ v5) ∧ (v5 < (240 : Int)) ∧ ((0 : Int) ≤ ((6 * v1) + v4)) ∧ (((6 * v1) + v4) < (3600 : Int)) ∧ (∀ s7 : qM, s7 = q_up s5 130 ((6 * v1) + v4) (s5 114 v5) → (-2147483648 ≤ (v4 + 1) ∧ (v4 + 1) < 2147483648) ∧ (-2147483648 ≤ (v5 + 1) ∧ (v5 + 1) < 2147483648) ∧ L_m_names_35 X v1 v3 (v4 + 1) (v5 + 1) s7 K))))))))) : L_m_names_35 X v1 v3 v4 v5 s K := by
  unfold L_m_names_35
  refine w_iload (p' := 37) rfl rfl rfl rfl ?_
  refine w_iload (p' := 38) rfl rfl rfl rfl ?_
  refine w_icmp (t := 89) (e := 41) rfl rfl rfl (fun e => ?_) (fun e => ?_)
  · have h := h.1 e
    refine w_aload (p' := 90) rfl rfl rfl rfl ?_
    refine w_getR (p' := 93) rfl rfl rfl rfl rfl ?_
    refine w_const (p' := 95) rfl rfl rfl ?_
    refine w_iload (p' := 96) rfl rfl rfl rfl ?_
    refine w_mul (p' := 97) rfl rfl h.1 ?_
    have h := h.2
    refine w_iload (p' := 99) rfl rfl rfl rfl ?_
    refine w_if (t := 107) (e := 102) rfl rfl rfl (fun e => ?_) (fun e => ?_)
    · have h := h.1 e
      refine w_aload (p' := 108) rfl rfl rfl rfl ?_
      refine w_getR (p' := 111) rfl rfl rfl rfl rfl ?_
      refine w_const (p' := 113) rfl rfl rfl ?_
      refine w_iload (p' := 114) rfl rfl rfl rfl ?_
      refine w_mul (p' := 115) rfl rfl h.1 ?_
      have h := h.2
      refine w_iald (p' := 116) (N := 3600) rfl rfl rfl rfl h.1 h.2.1 ?_
      have h := h.2.2
      refine v_iast (p' := 117) (N := 3600) rfl rfl rfl rfl h.1 h.2.1  ?_
      have h := h.2.2
      intro s1 es1
      have h := h s1 es1
      exact w_vret rfl ⟨rfl, rfl, h⟩
    · have h := h.2 e
      refine w_const (p' := 104) rfl rfl rfl ?_
      refine w_goto (p' := 116) rfl rfl ?_
      refine v_iast (p' := 117) (N := 3600) rfl rfl rfl rfl h.1 h.2.1  ?_
      have h := h.2.2
      intro s2 es2
      have h := h s2 es2
      exact w_vret rfl ⟨rfl, rfl, h⟩
  · have h := h.2 e
    refine w_iload (p' := 43) rfl rfl rfl rfl ?_
    refine w_const (p' := 45) rfl rfl rfl ?_
    refine w_icmp (t := 89) (e := 48) rfl rfl rfl (fun e => ?_) (fun e => ?_)
    · have h := h.1 e
      refine w_aload (p' := 90) rfl rfl rfl rfl ?_
      refine w_getR (p' := 93) rfl rfl rfl rfl rfl ?_
      refine w_const (p' := 95) rfl rfl rfl ?_
      refine w_iload (p' := 96) rfl rfl rfl rfl ?_
      refine w_mul (p' := 97) rfl rfl h.1 ?_
      have h := h.2
      refine w_iload (p' := 99) rfl rfl rfl rfl ?_
      refine w_if (t := 107) (e := 102) rfl rfl rfl (fun e => ?_) (fun e => ?_)
      · have h := h.1 e
        refine w_aload (p' := 108) rfl rfl rfl rfl ?_
        refine w_getR (p' := 111) rfl rfl rfl rfl rfl ?_
        refine w_const (p' := 113) rfl rfl rfl ?_
        refine w_iload (p' := 114) rfl rfl rfl rfl ?_
        refine w_mul (p' := 115) rfl rfl h.1 ?_
        have h := h.2
        refine w_iald (p' := 116) (N := 3600) rfl rfl rfl rfl h.1 h.2.1 ?_
        have h := h.2.2
        refine v_iast (p' := 117) (N := 3600) rfl rfl rfl rfl h.1 h.2.1  ?_
        have h := h.2.2
        intro s3 es3
        have h := h s3 es3
        exact w_vret rfl ⟨rfl, rfl, h⟩
      · have h := h.2 e
        refine w_const (p' := 104) rfl rfl rfl ?_
        refine w_goto (p' := 116) rfl rfl ?_
        refine v_iast (p' := 117) (N := 3600) rfl rfl rfl rfl h.1 h.2.1  ?_
        have h := h.2.2
        intro s4 es4
        have h := h s4 es4
        exact w_vret rfl ⟨rfl, rfl, h⟩
    · have h := h.2 e
      refine w_aload (p' := 49) rfl rfl rfl rfl ?_
      refine w_getR (p' := 52) rfl rfl rfl rfl rfl ?_
      refine w_iload (p' := 54) rfl rfl rfl rfl ?_
      refine w_iald (p' := 55) (N := 240) rfl rfl rfl rfl h.1 h.2.1 ?_
      have h := h.2.2
      refine v_callI (M' := 48) (p' := 58) (rest := []) (as := [(.inl (s 114 v5))]) rfl rfl rfl rfl rfl rfl rfl rfl rfl rfl rfl trivial rfl h (fun r6 s5 h => ?_)
      refine w_if (t := 83) (e := 61) rfl rfl rfl (fun e => ?_) (fun e => ?_)
      · have h := h.1 e
        refine w_iinc (p' := 86) (ls' := [some (.inr (.inr (.inl (some 113)))), some (.inl v1), none, some (.inl v3), some (.inl v4), some (.inl (v5 + 1))]) rfl rfl rfl (Nat.le_of_ble_eq_true rfl) h.1 rfl ?_
        have h := h.2
        refine w_goto (p' := 35) rfl rfl ?_
        exact w_cut (q_le_s (q_le_s (q_le_n (q_le_s (q_le_s (q_le_s q_le_z)))))) h
      · have h := h.2 e
        refine w_aload (p' := 62) rfl rfl rfl rfl ?_
        refine w_getR (p' := 65) rfl rfl rfl rfl rfl ?_
        refine w_const (p' := 67) rfl rfl rfl ?_
        refine w_iload (p' := 68) rfl rfl rfl rfl ?_
        refine w_mul (p' := 69) rfl rfl h.1 ?_
        have h := h.2
        refine w_iload (p' := 71) rfl rfl rfl rfl ?_
        refine w_add (p' := 72) rfl rfl h.1 ?_
        have h := h.2
        refine w_aload (p' := 73) rfl rfl rfl rfl ?_
        refine w_getR (p' := 76) rfl rfl rfl rfl rfl ?_
        refine w_iload (p' := 78) rfl rfl rfl rfl ?_
        refine w_iald (p' := 79) (N := 240) rfl rfl rfl rfl h.1 h.2.1 ?_
        have h := h.2.2
        refine v_iast (p' := 80) (N := 3600) rfl rfl rfl rfl h.1 h.2.1  ?_
        have h := h.2.2
        intro s7 es7
        have h := h s7 es7
        refine w_iinc (p' := 83) (ls' := [some (.inr (.inr (.inl (some 113)))), some (.inl v1), none, some (.inl v3), some (.inl (v4 + 1)), some (.inl v5)]) rfl rfl rfl (Nat.le_of_ble_eq_true rfl) h.1 rfl ?_
        have h := h.2
        refine w_iinc (p' := 86) (ls' := [some (.inr (.inr (.inl (some 113)))), some (.inl v1), none, some (.inl v3), some (.inl (v4 + 1)), some (.inl (v5 + 1))]) rfl rfl rfl (Nat.le_of_ble_eq_true rfl) h.1 rfl ?_
        have h := h.2
        refine w_goto (p' := 35) rfl rfl ?_
        exact w_cut (q_le_s (q_le_s (q_le_n (q_le_s (q_le_s (q_le_s q_le_z)))))) h
set_option maxRecDepth 20000 in
theorem sg_m_openParagraph {X : Nat × (Nat → Int32)}  {s : qM} {K : Int → qM → Prop} (h : L_m_openParagraph_2 X 0 s K) : c_m_openParagraph X  s K := by
  unfold c_m_openParagraph
  refine w_const (p' := 1) rfl rfl rfl ?_
  refine w_istore (p' := 2) (ls' := [some (.inr (.inr (.inl (some 113)))), some (.inl 0)]) rfl rfl rfl (Nat.le_of_ble_eq_true rfl) rfl ?_
  exact w_cut (q_le_s (q_le_s q_le_z)) h
set_option maxRecDepth 20000 in
theorem sg_m_openParagraph_2 {X : Nat × (Nat → Int32)}  {v1 : Int} {s : qM} {K : Int → qM → Prop} (h : ((0 : Int) ≤ v1) ∧ (v1 < (600 : Int)) ∧ ((((s 122 v1) = (-1)) → ((0 : Int) ≤ v1) ∧ (v1 < (600 : Int)) ∧ ((((s 117 v1) = 6) → K v1 s) ∧ (¬ ((s 117 v1) = 6) → ((0 : Int) ≤ v1) ∧ (v1 < (600 : Int)) ∧ ((((s 117 v1) ≠ 5) → K (-1) s) ∧ (¬ ((s 117 v1) ≠ 5) → K v1 s))))) ∧ (¬ ((s 122 v1) = (-1)) → ((0 : Int) ≤ v1) ∧ (v1 < (600 : Int)) ∧ ((0 : Int) ≤ (s 122 v1)) ∧ ((s 122 v1) < (600 : Int)) ∧ ((((s 119 (s 122 v1)) = 0) → ((0 : Int) ≤ v1) ∧ (v1 < (600 : Int)) ∧ ((((s 117 v1) = 6) → K v1 s) ∧ (¬ ((s 117 v1) = 6) → ((0 : Int) ≤ v1) ∧ (v1 < (600 : Int)) ∧ ((((s 117 v1) ≠ 5) → K (-1) s) ∧ (¬ ((s 117 v1) ≠ 5) → K v1 s))))) ∧ (¬ ((s 119 (s 122 v1)) = 0) → ((0 : Int) ≤ v1) ∧ (v1 < (600 : Int)) ∧ L_m_openParagraph_2 X (s 122 v1) s K))))) : L_m_openParagraph_2 X v1 s K := by
  unfold L_m_openParagraph_2
  refine w_aload (p' := 3) rfl rfl rfl rfl ?_
  refine w_getR (p' := 6) rfl rfl rfl rfl rfl ?_
  refine w_iload (p' := 7) rfl rfl rfl rfl ?_
  refine w_iald (p' := 8) (N := 600) rfl rfl rfl rfl h.1 h.2.1 ?_
  have h := h.2.2
  refine w_const (p' := 9) rfl rfl rfl ?_
  refine w_icmp (t := 36) (e := 12) rfl rfl rfl (fun e => ?_) (fun e => ?_)
  · have h := h.1 e
    refine w_aload (p' := 37) rfl rfl rfl rfl ?_
    refine w_getR (p' := 40) rfl rfl rfl rfl rfl ?_
    refine w_iload (p' := 41) rfl rfl rfl rfl ?_
    refine w_iald (p' := 42) (N := 600) rfl rfl rfl rfl h.1 h.2.1 ?_
    have h := h.2.2
    refine w_const (p' := 44) rfl rfl rfl ?_
    refine w_icmp (t := 57) (e := 47) rfl rfl rfl (fun e => ?_) (fun e => ?_)
    · have h := h.1 e
      refine w_iload (p' := 58) rfl rfl rfl rfl ?_
      refine w_goto (p' := 62) rfl rfl ?_
      exact w_iret rfl trivial ⟨rfl, _, rfl, h⟩
    · have h := h.2 e
      refine w_aload (p' := 48) rfl rfl rfl rfl ?_
      refine w_getR (p' := 51) rfl rfl rfl rfl rfl ?_
      refine w_iload (p' := 52) rfl rfl rfl rfl ?_
      refine w_iald (p' := 53) (N := 600) rfl rfl rfl rfl h.1 h.2.1 ?_
      have h := h.2.2
      refine w_const (p' := 54) rfl rfl rfl ?_
      refine w_icmp (t := 61) (e := 57) rfl rfl rfl (fun e => ?_) (fun e => ?_)
      · have h := h.1 e
        refine w_const (p' := 62) rfl rfl rfl ?_
        exact w_iret rfl trivial ⟨rfl, _, rfl, h⟩
      · have h := h.2 e
        refine w_iload (p' := 58) rfl rfl rfl rfl ?_
        refine w_goto (p' := 62) rfl rfl ?_
        exact w_iret rfl trivial ⟨rfl, _, rfl, h⟩
  · have h := h.2 e
    refine w_aload (p' := 13) rfl rfl rfl rfl ?_
    refine w_getR (p' := 16) rfl rfl rfl rfl rfl ?_
    refine w_aload (p' := 17) rfl rfl rfl rfl ?_
    refine w_getR (p' := 20) rfl rfl rfl rfl rfl ?_
    refine w_iload (p' := 21) rfl rfl rfl rfl ?_
    refine w_iald (p' := 22) (N := 600) rfl rfl rfl rfl h.1 h.2.1 ?_
    have h := h.2.2
    refine w_bald (p' := 23) (N := 600) rfl rfl rfl rfl h.1 h.2.1 ?_
    have h := h.2.2
    refine w_if (t := 36) (e := 26) rfl rfl rfl (fun e => ?_) (fun e => ?_)
    · have h := h.1 e
      refine w_aload (p' := 37) rfl rfl rfl rfl ?_
      refine w_getR (p' := 40) rfl rfl rfl rfl rfl ?_
      refine w_iload (p' := 41) rfl rfl rfl rfl ?_
      refine w_iald (p' := 42) (N := 600) rfl rfl rfl rfl h.1 h.2.1 ?_
      have h := h.2.2
      refine w_const (p' := 44) rfl rfl rfl ?_
      refine w_icmp (t := 57) (e := 47) rfl rfl rfl (fun e => ?_) (fun e => ?_)
      · have h := h.1 e
        refine w_iload (p' := 58) rfl rfl rfl rfl ?_
        refine w_goto (p' := 62) rfl rfl ?_
        exact w_iret rfl trivial ⟨rfl, _, rfl, h⟩
      · have h := h.2 e
        refine w_aload (p' := 48) rfl rfl rfl rfl ?_
        refine w_getR (p' := 51) rfl rfl rfl rfl rfl ?_
        refine w_iload (p' := 52) rfl rfl rfl rfl ?_
        refine w_iald (p' := 53) (N := 600) rfl rfl rfl rfl h.1 h.2.1 ?_
        have h := h.2.2
        refine w_const (p' := 54) rfl rfl rfl ?_
        refine w_icmp (t := 61) (e := 57) rfl rfl rfl (fun e => ?_) (fun e => ?_)
        · have h := h.1 e
          refine w_const (p' := 62) rfl rfl rfl ?_
          exact w_iret rfl trivial ⟨rfl, _, rfl, h⟩
        · have h := h.2 e
          refine w_iload (p' := 58) rfl rfl rfl rfl ?_
          refine w_goto (p' := 62) rfl rfl ?_
          exact w_iret rfl trivial ⟨rfl, _, rfl, h⟩
    · have h := h.2 e
      refine w_aload (p' := 27) rfl rfl rfl rfl ?_
      refine w_getR (p' := 30) rfl rfl rfl rfl rfl ?_
      refine w_iload (p' := 31) rfl rfl rfl rfl ?_
      refine w_iald (p' := 32) (N := 600) rfl rfl rfl rfl h.1 h.2.1 ?_
      have h := h.2.2
      refine w_istore (p' := 33) (ls' := [some (.inr (.inr (.inl (some 113)))), some (.inl (s 122 v1))]) rfl rfl rfl (Nat.le_of_ble_eq_true rfl) rfl ?_
      refine w_goto (p' := 2) rfl rfl ?_
      exact w_cut (q_le_s (q_le_s q_le_z)) h
set_option maxRecDepth 20000 in
theorem sg_m_lays {X : Nat × (Nat → Int32)} {x1 : Int} {s : qM} {K : qM → Prop} (h : ((0 : Int) ≤ (s 113 17)) ∧ ((s 113 17) < (241 : Int)) ∧ (∀ s1 : qM, s1 = q_up s 124 (s 113 17) x1 → ((0 : Int) ≤ (s1 113 17)) ∧ ((s1 113 17) < (241 : Int)) ∧ (∀ s2 : qM, s2 = q_up s1 125 (s1 113 17) (s1 113 49) → ((0 : Int) ≤ (s2 113 17)) ∧ ((s2 113 17) < (241 : Int)) ∧ (∀ s3 : qM, s3 = q_up s2 126 (s2 113 17) (s2 113 50) → K s3)))) : c_m_lays X x1 s K := by
  unfold c_m_lays
  refine w_aload (p' := 1) rfl rfl rfl rfl ?_
  refine w_getR (p' := 4) rfl rfl rfl rfl rfl ?_
  refine w_aload (p' := 5) rfl rfl rfl rfl ?_
  refine w_getI (p' := 8) (j := 17) rfl rfl (by decide) rfl rfl ?_
  refine w_iload (p' := 9) rfl rfl rfl rfl ?_
  refine v_iast (p' := 10) (N := 241) rfl rfl rfl rfl h.1 h.2.1  ?_
  have h := h.2.2
  intro s1 es1
  have h := h s1 es1
  refine w_aload (p' := 11) rfl rfl rfl rfl ?_
  refine w_getR (p' := 14) rfl rfl rfl rfl rfl ?_
  refine w_aload (p' := 15) rfl rfl rfl rfl ?_
  refine w_getI (p' := 18) (j := 17) rfl rfl (by decide) rfl rfl ?_
  refine w_aload (p' := 19) rfl rfl rfl rfl ?_
  refine w_getI (p' := 22) (j := 49) rfl rfl (by decide) rfl rfl ?_
  refine v_iast (p' := 23) (N := 241) rfl rfl rfl rfl h.1 h.2.1  ?_
  have h := h.2.2
  intro s2 es2
  have h := h s2 es2
  refine w_aload (p' := 24) rfl rfl rfl rfl ?_
  refine w_getR (p' := 27) rfl rfl rfl rfl rfl ?_
  refine w_aload (p' := 28) rfl rfl rfl rfl ?_
  refine w_getI (p' := 31) (j := 17) rfl rfl (by decide) rfl rfl ?_
  refine w_aload (p' := 32) rfl rfl rfl rfl ?_
  refine w_getI (p' := 35) (j := 50) rfl rfl (by decide) rfl rfl ?_
  refine v_iast (p' := 36) (N := 241) rfl rfl rfl rfl h.1 h.2.1  ?_
  have h := h.2.2
  intro s3 es3
  have h := h s3 es3
  exact w_vret rfl ⟨rfl, rfl, h⟩
set_option maxRecDepth 20000 in
theorem sg_m_closes {X : Nat × (Nat → Int32)} {x1 : Int} {s : qM} {K : qM → Prop} (h : ((0 : Int) ≤ x1) ∧ (x1 < (600 : Int)) ∧ (∀ s1 : qM, s1 = q_up s 119 x1 0 → c_m_closesIn X x1 s1 (fun s2 => K s2))) : c_m_closes X x1 s K := by
  unfold c_m_closes
  refine w_aload (p' := 1) rfl rfl rfl rfl ?_
  refine w_getR (p' := 4) rfl rfl rfl rfl rfl ?_
  refine w_iload (p' := 5) rfl rfl rfl rfl ?_
  refine w_const (p' := 6) rfl rfl rfl ?_
  refine v_bast (p' := 7) (N := 600) rfl rfl rfl rfl h.1 h.2.1 (by decide) (by decide) ?_
  have h := h.2.2
  intro s1 es1
  have h := h s1 es1
  refine w_aload (p' := 8) rfl rfl rfl rfl ?_
  refine w_iload (p' := 9) rfl rfl rfl rfl ?_
  refine v_callV (M' := 59) (p' := 12) (rest := []) (as := [(.inr (.inr (.inl (some 113)))), (.inl x1)]) rfl rfl rfl rfl rfl rfl rfl rfl rfl rfl rfl rfl rfl h (fun s2 h => ?_)
  exact w_vret rfl ⟨rfl, rfl, h⟩
