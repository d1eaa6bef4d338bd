/-! Segments, by program (wip/tools/seg.py). -/
set_option maxRecDepth 20000 in
theorem sg_m_merge {X : Nat × (Nat → Int32)}  {s : qM} {K : Int → qM → Prop} (h : (∀ s1 : qM, s1 = q_up s 113 47 0 → L_m_merge_7 X 0 s1 K)) : c_m_merge X  s K := by
  unfold c_m_merge
  refine w_aload (p' := 1) rfl rfl rfl rfl ?_
  refine w_const (p' := 2) rfl rfl rfl ?_
  refine v_putI (p' := 5) (j := 47) rfl rfl (by decide) rfl rfl trivial ?_
  intro s1 es1
  have h := h s1 es1
  refine w_const (p' := 6) rfl rfl rfl ?_
  refine w_istore (p' := 7) (ls' := [some (.inr (.inr (.inl (some 113)))), some (.inl 0), none, none, none, none, none, none, none]) rfl rfl rfl (Nat.le_of_ble_eq_true rfl) rfl ?_
  exact w_cut (q_le_s (q_le_s (q_le_n (q_le_n (q_le_n (q_le_n (q_le_n (q_le_n (q_le_n q_le_z))))))))) h
set_option maxRecDepth 20000 in
theorem sg_m_merge_7 {X : Nat × (Nat → Int32)}  {v1 : Int} {s : qM} {K : Int → qM → Prop} (h : (((240 ≤ v1) → c_m_splits X 0 (s 116 0) s (fun s1 => c_m_splits X 1 (s1 113 0) s1 (fun s2 => c_m_splits X 2 (s2 116 1) s2 (fun s3 => c_m_takesTogether X 1 s3 (fun s4 => c_m_takesTogether X 2 s4 (fun s5 => (∀ s6 : qM, s6 = q_up s5 113 63 0 → (∀ s7 : qM, s7 = q_up s6 113 64 0 → L_m_merge_131 X 0 0 0 0 0 s7 K)))))))) ∧ (¬ (240 ≤ v1) → ((0 : Int) ≤ v1) ∧ (v1 < (480 : Int)) ∧ ((0 : Int) ≤ v1) ∧ (v1 < (720 : Int)) ∧ (∀ s8 : qM, s8 = q_up s 155 v1 (s 115 v1) → (-2147483648 ≤ (240 + v1) ∧ (240 + v1) < 2147483648) ∧ ((0 : Int) ≤ v1) ∧ (v1 < (240 : Int)) ∧ ((0 : Int) ≤ (240 + v1)) ∧ ((240 + v1) < (720 : Int)) ∧ (∀ s9 : qM, s9 = q_up s8 155 (240 + v1) (s8 114 v1) → (-2147483648 ≤ (480 + v1) ∧ (480 + v1) < 2147483648) ∧ (-2147483648 ≤ (240 + v1) ∧ (240 + v1) < 2147483648) ∧ ((0 : Int) ≤ (240 + v1)) ∧ ((240 + v1) < (480 : Int)) ∧ ((0 : Int) ≤ (480 + v1)) ∧ ((480 + v1) < (720 : Int)) ∧ (∀ s10 : qM, s10 = q_up s9 155 (480 + v1) (s9 115 (240 + v1)) → (-2147483648 ≤ (v1 + 1) ∧ (v1 + 1) < 2147483648) ∧ L_m_merge_7 X (v1 + 1) s10 K)))))) : L_m_merge_7 X v1 s K := by
  unfold L_m_merge_7
  refine w_iload (p' := 8) rfl rfl rfl rfl ?_
  refine w_const (p' := 11) rfl rfl rfl ?_
  refine w_icmp (t := 68) (e := 14) rfl rfl rfl (fun e => ?_) (fun e => ?_)
  · have h := h.1 e
    refine w_aload (p' := 69) rfl rfl rfl rfl ?_
    refine w_const (p' := 70) rfl rfl rfl ?_
    refine w_aload (p' := 71) rfl rfl rfl rfl ?_
    refine w_getR (p' := 74) rfl rfl rfl rfl rfl ?_
    refine w_const (p' := 75) rfl rfl rfl ?_
    refine w_iald (p' := 76) (N := 2) rfl rfl rfl rfl (by decide) (by decide) ?_
    refine v_callV (M' := 120) (p' := 79) (rest := []) (as := [(.inr (.inr (.inl (some 113)))), (.inl 0), (.inl (s 116 0))]) rfl rfl rfl rfl rfl rfl rfl rfl rfl rfl rfl rfl rfl h (fun s1 h => ?_)
    refine w_aload (p' := 80) rfl rfl rfl rfl ?_
    refine w_const (p' := 81) rfl rfl rfl ?_
    refine w_aload (p' := 82) rfl rfl rfl rfl ?_
    refine w_getI (p' := 85) (j := 0) rfl rfl (by decide) rfl rfl ?_
    refine v_callV (M' := 120) (p' := 88) (rest := []) (as := [(.inr (.inr (.inl (some 113)))), (.inl 1), (.inl (s1 113 0))]) rfl rfl rfl rfl rfl rfl rfl rfl rfl rfl rfl rfl rfl h (fun s2 h => ?_)
    refine w_aload (p' := 89) rfl rfl rfl rfl ?_
    refine w_const (p' := 90) rfl rfl rfl ?_
    refine w_aload (p' := 91) rfl rfl rfl rfl ?_
    refine w_getR (p' := 94) rfl rfl rfl rfl rfl ?_
    refine w_const (p' := 95) rfl rfl rfl ?_
    refine w_iald (p' := 96) (N := 2) rfl rfl rfl rfl (by decide) (by decide) ?_
    refine v_callV (M' := 120) (p' := 99) (rest := []) (as := [(.inr (.inr (.inl (some 113)))), (.inl 2), (.inl (s2 116 1))]) rfl rfl rfl rfl rfl rfl rfl rfl rfl rfl rfl rfl rfl h (fun s3 h => ?_)
    refine w_aload (p' := 100) rfl rfl rfl rfl ?_
    refine w_const (p' := 101) rfl rfl rfl ?_
    refine v_callV (M' := 122) (p' := 104) (rest := []) (as := [(.inr (.inr (.inl (some 113)))), (.inl 1)]) rfl rfl rfl rfl rfl rfl rfl rfl rfl rfl rfl rfl rfl h (fun s4 h => ?_)
    refine w_aload (p' := 105) rfl rfl rfl rfl ?_
    refine w_const (p' := 106) rfl rfl rfl ?_
    refine v_callV (M' := 122) (p' := 109) (rest := []) (as := [(.inr (.inr (.inl (some 113)))), (.inl 2)]) rfl rfl rfl rfl rfl rfl rfl rfl rfl rfl rfl rfl rfl h (fun s5 h => ?_)
    refine w_aload (p' := 110) rfl rfl rfl rfl ?_
    refine w_const (p' := 111) rfl rfl rfl ?_
    refine v_putI (p' := 114) (j := 63) rfl rfl (by decide) rfl rfl trivial ?_
    intro s6 es6
    have h := h s6 es6
    refine w_aload (p' := 115) rfl rfl rfl rfl ?_
    refine w_const (p' := 116) rfl rfl rfl ?_
    refine v_putI (p' := 119) (j := 64) rfl rfl (by decide) rfl rfl ⟨by decide, by decide⟩ ?_
    intro s7 es7
    have h := h s7 es7
    refine w_const (p' := 120) rfl rfl rfl ?_
    refine w_istore (p' := 121) (ls' := [some (.inr (.inr (.inl (some 113)))), some (.inl 0), none, none, none, none, none, none, none]) rfl rfl rfl (Nat.le_of_ble_eq_true rfl) rfl ?_
    refine w_const (p' := 122) rfl rfl rfl ?_
    refine w_istore (p' := 123) (ls' := [some (.inr (.inr (.inl (some 113)))), some (.inl 0), some (.inl 0), none, none, none, none, none, none]) rfl rfl rfl (Nat.le_of_ble_eq_true rfl) rfl ?_
    refine w_const (p' := 124) rfl rfl rfl ?_
    refine w_istore (p' := 125) (ls' := [some (.inr (.inr (.inl (some 113)))), some (.inl 0), some (.inl 0), some (.inl 0), none, none, none, none, none]) rfl rfl rfl (Nat.le_of_ble_eq_true rfl) rfl ?_
    refine w_const (p' := 126) rfl rfl rfl ?_
    refine w_istore (p' := 128) (ls' := [some (.inr (.inr (.inl (some 113)))), some (.inl 0), some (.inl 0), some (.inl 0), some (.inl 0), none, none, none, none]) rfl rfl rfl (Nat.le_of_ble_eq_true rfl) rfl ?_
    refine w_const (p' := 129) rfl rfl rfl ?_
    refine w_istore (p' := 131) (ls' := [some (.inr (.inr (.inl (some 113)))), some (.inl 0), some (.inl 0), some (.inl 0), some (.inl 0), some (.inl 0), none, none, none]) rfl rfl rfl (Nat.le_of_ble_eq_true rfl) rfl ?_
    exact w_cut (q_le_s (q_le_s (q_le_s (q_le_s (q_le_s (q_le_s (q_le_n (q_le_n (q_le_n q_le_z))))))))) h
  · have h := h.2 e
    refine w_aload (p' := 15) rfl rfl rfl rfl ?_
    refine w_getR (p' := 18) rfl rfl rfl rfl rfl ?_
    refine w_iload (p' := 19) rfl rfl rfl rfl ?_
    refine w_aload (p' := 20) rfl rfl rfl rfl ?_
    refine w_getR (p' := 23) rfl rfl rfl rfl rfl ?_
    refine w_iload (p' := 24) rfl rfl rfl rfl ?_
    refine w_iald (p' := 25) (N := 480) rfl rfl rfl rfl h.1 h.2.1 ?_
    have h := h.2.2
    refine v_iast (p' := 26) (N := 720) rfl rfl rfl rfl h.1 h.2.1  ?_
    have h := h.2.2
    intro s8 es8
    have h := h s8 es8
    refine w_aload (p' := 27) rfl rfl rfl rfl ?_
    refine w_getR (p' := 30) rfl rfl rfl rfl rfl ?_
    refine w_const (p' := 33) rfl rfl rfl ?_
    refine w_iload (p' := 34) rfl rfl rfl rfl ?_
    refine w_add (p' := 35) rfl rfl h.1 ?_
    have h := h.2
    refine w_aload (p' := 36) rfl rfl rfl rfl ?_
    refine w_getR (p' := 39) rfl rfl rfl rfl rfl ?_
    refine w_iload (p' := 40) rfl rfl rfl rfl ?_
    refine w_iald (p' := 41) (N := 240) rfl rfl rfl rfl h.1 h.2.1 ?_
    have h := h.2.2
    refine v_iast (p' := 42) (N := 720) rfl rfl rfl rfl h.1 h.2.1  ?_
    have h := h.2.2
    intro s9 es9
    have h := h s9 es9
    refine w_aload (p' := 43) rfl rfl rfl rfl ?_
    refine w_getR (p' := 46) rfl rfl rfl rfl rfl ?_
    refine w_const (p' := 49) rfl rfl rfl ?_
    refine w_iload (p' := 50) rfl rfl rfl rfl ?_
    refine w_add (p' := 51) rfl rfl h.1 ?_
    have h := h.2
    refine w_aload (p' := 52) rfl rfl rfl rfl ?_
    refine w_getR (p' := 55) rfl rfl rfl rfl rfl ?_
    refine w_const (p' := 58) rfl rfl rfl ?_
    refine w_iload (p' := 59) rfl rfl rfl rfl ?_
    refine w_add (p' := 60) rfl rfl h.1 ?_
    have h := h.2
    refine w_iald (p' := 61) (N := 480) rfl rfl rfl rfl h.1 h.2.1 ?_
    have h := h.2.2
    refine v_iast (p' := 62) (N := 720) rfl rfl rfl rfl h.1 h.2.1  ?_
    have h := h.2.2
    intro s10 es10
    have h := h s10 es10
    refine w_iinc (p' := 65) (ls' := [some (.inr (.inr (.inl (some 113)))), some (.inl (v1 + 1)), none, none, none, none, none, none, none]) rfl rfl rfl (Nat.le_of_ble_eq_true rfl) h.1 rfl ?_
    have h := h.2
    refine w_goto (p' := 7) rfl rfl ?_
    exact w_cut (q_le_s (q_le_s (q_le_n (q_le_n (q_le_n (q_le_n (q_le_n (q_le_n (q_le_n q_le_z))))))))) h
set_option maxRecDepth 20000 in
theorem sg_m_merge_131 {X : Nat × (Nat → Int32)}  {v1 v2 v3 v4 v5 : Int} {s : qM} {K : Int → qM → Prop} (h : ((((s 156 0) < v5) → (((v1 ≤ 0) → ((((s 113 63) ≤ 240) → (∀ s1 : qM, s1 = q_up s 113 0 (s 113 63) → L_m_merge_334 X 0 s1 K)) ∧ (¬ ((s 113 63) ≤ 240) → K (-2) s))) ∧ (¬ (v1 ≤ 0) → K v1 s))) ∧ (¬ ((s 156 0) < v5) → (((v5 ≠ (s 156 0)) → L_m_merge_158 X v1 v2 v3 v4 v5 0 s K) ∧ (¬ (v5 ≠ (s 156 0)) → L_m_merge_158 X v1 v2 v3 v4 v5 1 s K))))) : L_m_merge_131 X v1 v2 v3 v4 v5 s K := by
  unfold L_m_merge_131
  refine w_iload (p' := 133) rfl rfl rfl rfl ?_
  refine w_aload (p' := 134) rfl rfl rfl rfl ?_
  refine w_getR (p' := 137) rfl rfl rfl rfl rfl ?_
  refine w_const (p' := 138) rfl rfl rfl ?_
  refine w_iald (p' := 139) (N := 3) rfl rfl rfl rfl (by decide) (by decide) ?_
  refine w_icmp (t := 304) (e := 142) rfl rfl rfl (fun e => ?_) (fun e => ?_)
  · have h := h.1 e
    refine w_iload (p' := 305) rfl rfl rfl rfl ?_
    refine w_if (t := 310) (e := 308) rfl rfl rfl (fun e => ?_) (fun e => ?_)
    · have h := h.1 e
      refine w_aload (p' := 311) rfl rfl rfl rfl ?_
      refine w_getI (p' := 314) (j := 63) rfl rfl (by decide) rfl rfl ?_
      refine w_const (p' := 317) rfl rfl rfl ?_
      refine w_icmp (t := 323) (e := 320) rfl rfl rfl (fun e => ?_) (fun e => ?_)
      · have h := h.1 e
        refine w_aload (p' := 324) rfl rfl rfl rfl ?_
        refine w_aload (p' := 325) rfl rfl rfl rfl ?_
        refine w_getI (p' := 328) (j := 63) rfl rfl (by decide) rfl rfl ?_
        refine v_putI (p' := 331) (j := 0) rfl rfl (by decide) rfl rfl trivial ?_
        intro s1 es1
        have h := h s1 es1
        refine w_const (p' := 332) rfl rfl rfl ?_
        refine w_istore (p' := 334) (ls' := [some (.inr (.inr (.inl (some 113)))), some (.inl v1), some (.inl v2), some (.inl v3), some (.inl v4), some (.inl 0), none, none, none]) rfl rfl rfl (Nat.le_of_ble_eq_true rfl) rfl ?_
        exact w_cut (q_le_s (q_le_n (q_le_n (q_le_n (q_le_n (q_le_s (q_le_n (q_le_n (q_le_n q_le_z))))))))) h
      · have h := h.2 e
        refine w_const (p' := 322) rfl rfl rfl ?_
        exact w_iret rfl trivial ⟨rfl, _, rfl, h⟩
    · have h := h.2 e
      refine w_iload (p' := 309) rfl rfl rfl rfl ?_
      exact w_iret rfl trivial ⟨rfl, _, rfl, h⟩
  · have h := h.2 e
    refine w_iload (p' := 144) rfl rfl rfl rfl ?_
    refine w_aload (p' := 145) rfl rfl rfl rfl ?_
    refine w_getR (p' := 148) rfl rfl rfl rfl rfl ?_
    refine w_const (p' := 149) rfl rfl rfl ?_
    refine w_iald (p' := 150) (N := 3) rfl rfl rfl rfl (by decide) (by decide) ?_
    refine w_icmp (t := 157) (e := 153) rfl rfl rfl (fun e => ?_) (fun e => ?_)
    · have h := h.1 e
      refine w_const (p' := 158) rfl rfl rfl ?_
      exact w_cut (q_le_s (q_le_s (q_le_s (q_le_s (q_le_s (q_le_s (q_le_n (q_le_n (q_le_n q_le_z))))))))) h
    · have h := h.2 e
      refine w_const (p' := 154) rfl rfl rfl ?_
      refine w_goto (p' := 158) rfl rfl ?_
      exact w_cut (q_le_s (q_le_s (q_le_s (q_le_s (q_le_s (q_le_s (q_le_n (q_le_n (q_le_n q_le_z))))))))) h
set_option maxRecDepth 20000 in
theorem sg_m_merge_334 {X : Nat × (Nat → Int32)}  {v5 : Int} {s : qM} {K : Int → qM → Prop} (h : ((((s 113 63) ≤ v5) → K 0 s) ∧ (¬ ((s 113 63) ≤ v5) → ((0 : Int) ≤ v5) ∧ (v5 < (800 : Int)) ∧ ((0 : Int) ≤ v5) ∧ (v5 < (240 : Int)) ∧ (∀ s1 : qM, s1 = q_up s 114 v5 (s 154 v5) → (-2147483648 ≤ (v5 + 1) ∧ (v5 + 1) < 2147483648) ∧ L_m_merge_334 X (v5 + 1) s1 K)))) : L_m_merge_334 X v5 s K := by
  unfold L_m_merge_334
  refine w_iload (p' := 336) rfl rfl rfl rfl ?_
  refine w_aload (p' := 337) rfl rfl rfl rfl ?_
  refine w_getI (p' := 340) (j := 63) rfl rfl (by decide) rfl rfl ?_
  refine w_icmp (t := 363) (e := 343) rfl rfl rfl (fun e => ?_) (fun e => ?_)
  · have h := h.1 e
    refine w_const (p' := 364) rfl rfl rfl ?_
    exact w_iret rfl trivial ⟨rfl, _, rfl, h⟩
  · have h := h.2 e
    refine w_aload (p' := 344) rfl rfl rfl rfl ?_
    refine w_getR (p' := 347) rfl rfl rfl rfl rfl ?_
    refine w_iload (p' := 349) rfl rfl rfl rfl ?_
    refine w_aload (p' := 350) rfl rfl rfl rfl ?_
    refine w_getR (p' := 353) rfl rfl rfl rfl rfl ?_
    refine w_iload (p' := 355) rfl rfl rfl rfl ?_
    refine w_iald (p' := 356) (N := 800) rfl rfl rfl rfl h.1 h.2.1 ?_
    have h := h.2.2
    refine v_iast (p' := 357) (N := 240) rfl rfl rfl rfl h.1 h.2.1  ?_
    have h := h.2.2
    intro s1 es1
    have h := h s1 es1
    refine w_iinc (p' := 360) (ls' := [some (.inr (.inr (.inl (some 113)))), none, none, none, none, some (.inl (v5 + 1)), none, none, none]) rfl rfl rfl (Nat.le_of_ble_eq_true rfl) h.1 rfl ?_
    have h := h.2
    refine w_goto (p' := 334) rfl rfl ?_
    exact w_cut (q_le_s (q_le_n (q_le_n (q_le_n (q_le_n (q_le_s (q_le_n (q_le_n (q_le_n q_le_z))))))))) h
set_option maxRecDepth 20000 in
theorem sg_m_merge_158 {X : Nat × (Nat → Int32)}  {v1 v2 v3 v4 v5 t0 : Int} {s : qM} {K : Int → qM → Prop} (h : (((t0 ≠ 0) → (((t0 = 0) → ((0 : Int) ≤ v5) ∧ (v5 < (482 : Int)) ∧ L_m_merge_212 X v1 v2 v3 v4 v5 t0 (s 160 v5) s K) ∧ (¬ (t0 = 0) → L_m_merge_212 X v1 v2 v3 v4 v5 t0 (s 156 1) s K))) ∧ (¬ (t0 ≠ 0) → ((0 : Int) ≤ v5) ∧ (v5 < (482 : Int)) ∧ ((((s 160 v5) = (-1)) → (-2147483648 ≤ (v5 + 1) ∧ (v5 + 1) < 2147483648) ∧ L_m_merge_131 X v1 v2 v3 v4 (v5 + 1) s K) ∧ (¬ ((s 160 v5) = (-1)) → (-2147483648 ≤ (241 + v5) ∧ (241 + v5) < 2147483648) ∧ ((0 : Int) ≤ (241 + v5)) ∧ ((241 + v5) < (482 : Int)) ∧ ((((s 160 (241 + v5)) = (-1)) → (-2147483648 ≤ (v5 + 1) ∧ (v5 + 1) < 2147483648) ∧ L_m_merge_131 X v1 v2 v3 v4 (v5 + 1) s K) ∧ (¬ ((s 160 (241 + v5)) = (-1)) → (((t0 = 0) → ((0 : Int) ≤ v5) ∧ (v5 < (482 : Int)) ∧ L_m_merge_212 X v1 v2 v3 v4 v5 t0 (s 160 v5) s K) ∧ (¬ (t0 = 0) → L_m_merge_212 X v1 v2 v3 v4 v5 t0 (s 156 1) s K))))))))) : L_m_merge_158 X v1 v2 v3 v4 v5 t0 s K := by
  unfold L_m_merge_158
  refine w_istore (p' := 160) (ls' := [some (.inr (.inr (.inl (some 113)))), some (.inl v1), some (.inl v2), some (.inl v3), some (.inl v4), some (.inl v5), some (.inl t0), none, none]) rfl rfl rfl (Nat.le_of_ble_eq_true rfl) rfl ?_
  refine w_iload (p' := 162) rfl rfl rfl rfl ?_
  refine w_if (t := 191) (e := 165) rfl rfl rfl (fun e => ?_) (fun e => ?_)
  · have h := h.1 e
    refine w_iload (p' := 193) rfl rfl rfl rfl ?_
    refine w_if (t := 205) (e := 196) rfl rfl rfl (fun e => ?_) (fun e => ?_)
    · have h := h.1 e
      refine w_aload (p' := 206) rfl rfl rfl rfl ?_
      refine w_getR (p' := 209) rfl rfl rfl rfl rfl ?_
      refine w_iload (p' := 211) rfl rfl rfl rfl ?_
      refine w_iald (p' := 212) (N := 482) rfl rfl rfl rfl h.1 h.2.1 ?_
      have h := h.2.2
      exact w_cut (q_le_s (q_le_s (q_le_s (q_le_s (q_le_s (q_le_s (q_le_s (q_le_n (q_le_n q_le_z))))))))) h
    · have h := h.2 e
      refine w_aload (p' := 197) rfl rfl rfl rfl ?_
      refine w_getR (p' := 200) rfl rfl rfl rfl rfl ?_
      refine w_const (p' := 201) rfl rfl rfl ?_
      refine w_iald (p' := 202) (N := 3) rfl rfl rfl rfl (by decide) (by decide) ?_
      refine w_goto (p' := 212) rfl rfl ?_
      exact w_cut (q_le_s (q_le_s (q_le_s (q_le_s (q_le_s (q_le_s (q_le_s (q_le_n (q_le_n q_le_z))))))))) h
  · have h := h.2 e
    refine w_aload (p' := 166) rfl rfl rfl rfl ?_
    refine w_getR (p' := 169) rfl rfl rfl rfl rfl ?_
    refine w_iload (p' := 171) rfl rfl rfl rfl ?_
    refine w_iald (p' := 172) (N := 482) rfl rfl rfl rfl h.1 h.2.1 ?_
    have h := h.2.2
    refine w_const (p' := 173) rfl rfl rfl ?_
    refine w_icmp (t := 298) (e := 176) rfl rfl rfl (fun e => ?_) (fun e => ?_)
    · have h := h.1 e
      refine w_iinc (p' := 301) (ls' := [some (.inr (.inr (.inl (some 113)))), some (.inl v1), some (.inl v2), some (.inl v3), some (.inl v4), some (.inl (v5 + 1)), some (.inl t0), none, none]) rfl rfl rfl (Nat.le_of_ble_eq_true rfl) h.1 rfl ?_
      have h := h.2
      refine w_goto (p' := 131) rfl rfl ?_
      exact w_cut (q_le_s (q_le_s (q_le_s (q_le_s (q_le_s (q_le_s (q_le_n (q_le_n (q_le_n q_le_z))))))))) h
    · have h := h.2 e
      refine w_aload (p' := 177) rfl rfl rfl rfl ?_
      refine w_getR (p' := 180) rfl rfl rfl rfl rfl ?_
      refine w_const (p' := 183) rfl rfl rfl ?_
      refine w_iload (p' := 185) rfl rfl rfl rfl ?_
      refine w_add (p' := 186) rfl rfl h.1 ?_
      have h := h.2
      refine w_iald (p' := 187) (N := 482) rfl rfl rfl rfl h.1 h.2.1 ?_
      have h := h.2.2
      refine w_const (p' := 188) rfl rfl rfl ?_
      refine w_icmp (t := 298) (e := 191) rfl rfl rfl (fun e => ?_) (fun e => ?_)
      · have h := h.1 e
        refine w_iinc (p' := 301) (ls' := [some (.inr (.inr (.inl (some 113)))), some (.inl v1), some (.inl v2), some (.inl v3), some (.inl v4), some (.inl (v5 + 1)), some (.inl t0), none, none]) rfl rfl rfl (Nat.le_of_ble_eq_true rfl) h.1 rfl ?_
        have h := h.2
        refine w_goto (p' := 131) rfl rfl ?_
        exact w_cut (q_le_s (q_le_s (q_le_s (q_le_s (q_le_s (q_le_s (q_le_n (q_le_n (q_le_n q_le_z))))))))) h
      · have h := h.2 e
        refine w_iload (p' := 193) rfl rfl rfl rfl ?_
        refine w_if (t := 205) (e := 196) rfl rfl rfl (fun e => ?_) (fun e => ?_)
        · have h := h.1 e
          refine w_aload (p' := 206) rfl rfl rfl rfl ?_
          refine w_getR (p' := 209) rfl rfl rfl rfl rfl ?_
          refine w_iload (p' := 211) rfl rfl rfl rfl ?_
          refine w_iald (p' := 212) (N := 482) rfl rfl rfl rfl h.1 h.2.1 ?_
          have h := h.2.2
          exact w_cut (q_le_s (q_le_s (q_le_s (q_le_s (q_le_s (q_le_s (q_le_s (q_le_n (q_le_n q_le_z))))))))) h
        · have h := h.2 e
          refine w_aload (p' := 197) rfl rfl rfl rfl ?_
          refine w_getR (p' := 200) rfl rfl rfl rfl rfl ?_
          refine w_const (p' := 201) rfl rfl rfl ?_
          refine w_iald (p' := 202) (N := 3) rfl rfl rfl rfl (by decide) (by decide) ?_
          refine w_goto (p' := 212) rfl rfl ?_
          exact w_cut (q_le_s (q_le_s (q_le_s (q_le_s (q_le_s (q_le_s (q_le_s (q_le_n (q_le_n q_le_z))))))))) h
set_option maxRecDepth 20000 in
theorem sg_m_merge_212 {X : Nat × (Nat → Int32)}  {v1 v2 v3 v4 v5 v6 t0 : Int} {s : qM} {K : Int → qM → Prop} (h : (((v6 = 0) → (-2147483648 ≤ (241 + v5) ∧ (241 + v5) < 2147483648) ∧ ((0 : Int) ≤ (241 + v5)) ∧ ((241 + v5) < (482 : Int)) ∧ c_m_takesPart X v2 v5 v3 t0 v4 (s 160 (241 + v5)) s (fun r2 s1 => (((r2 = 0) → L_m_merge_264 X v5 v6 t0 (s 160 (241 + v5)) v1 0 s1 K) ∧ (¬ (r2 = 0) → L_m_merge_264 X v5 v6 t0 (s 160 (241 + v5)) v1 1 s1 K)))) ∧ (¬ (v6 = 0) → c_m_takesPart X v2 v5 v3 t0 v4 (s 156 2) s (fun r4 s3 => (((r4 = 0) → L_m_merge_264 X v5 v6 t0 (s 156 2) v1 0 s3 K) ∧ (¬ (r4 = 0) → L_m_merge_264 X v5 v6 t0 (s 156 2) v1 1 s3 K)))))) : L_m_merge_212 X v1 v2 v3 v4 v5 v6 t0 s K := by
  unfold L_m_merge_212
  refine w_istore (p' := 214) (ls' := [some (.inr (.inr (.inl (some 113)))), some (.inl v1), some (.inl v2), some (.inl v3), some (.inl v4), some (.inl v5), some (.inl v6), some (.inl t0), none]) rfl rfl rfl (Nat.le_of_ble_eq_true rfl) rfl ?_
  refine w_iload (p' := 216) rfl rfl rfl rfl ?_
  refine w_if (t := 228) (e := 219) rfl rfl rfl (fun e => ?_) (fun e => ?_)
  · have h := h.1 e
    refine w_aload (p' := 229) rfl rfl rfl rfl ?_
    refine w_getR (p' := 232) rfl rfl rfl rfl rfl ?_
    refine w_const (p' := 235) rfl rfl rfl ?_
    refine w_iload (p' := 237) rfl rfl rfl rfl ?_
    refine w_add (p' := 238) rfl rfl h.1 ?_
    have h := h.2
    refine w_iald (p' := 239) (N := 482) rfl rfl rfl rfl h.1 h.2.1 ?_
    have h := h.2.2
    refine w_istore (p' := 241) (ls' := [some (.inr (.inr (.inl (some 113)))), some (.inl v1), some (.inl v2), some (.inl v3), some (.inl v4), some (.inl v5), some (.inl v6), some (.inl t0), some (.inl (s 160 (241 + v5)))]) rfl rfl rfl (Nat.le_of_ble_eq_true rfl) rfl ?_
    refine w_iload (p' := 242) rfl rfl rfl rfl ?_
    refine w_aload (p' := 243) rfl rfl rfl rfl ?_
    refine w_iload (p' := 244) rfl rfl rfl rfl ?_
    refine w_iload (p' := 246) rfl rfl rfl rfl ?_
    refine w_iload (p' := 247) rfl rfl rfl rfl ?_
    refine w_iload (p' := 249) rfl rfl rfl rfl ?_
    refine w_iload (p' := 251) rfl rfl rfl rfl ?_
    refine w_iload (p' := 253) rfl rfl rfl rfl ?_
    refine v_callI (M' := 125) (p' := 256) (rest := [(.inl v1)]) (as := [(.inr (.inr (.inl (some 113)))), (.inl v2), (.inl v5), (.inl v3), (.inl t0), (.inl v4), (.inl (s 160 (241 + v5)))]) rfl rfl rfl rfl rfl rfl rfl rfl rfl rfl rfl rfl rfl h (fun r2 s1 h => ?_)
    refine w_if (t := 263) (e := 259) rfl rfl rfl (fun e => ?_) (fun e => ?_)
    · have h := h.1 e
      refine w_const (p' := 264) rfl rfl rfl ?_
      exact w_cut (q_le_s (q_le_n (q_le_n (q_le_n (q_le_n (q_le_s (q_le_s (q_le_s (q_le_s q_le_z))))))))) h
    · have h := h.2 e
      refine w_const (p' := 260) rfl rfl rfl ?_
      refine w_goto (p' := 264) rfl rfl ?_
      exact w_cut (q_le_s (q_le_n (q_le_n (q_le_n (q_le_n (q_le_s (q_le_s (q_le_s (q_le_s q_le_z))))))))) h
  · have h := h.2 e
    refine w_aload (p' := 220) rfl rfl rfl rfl ?_
    refine w_getR (p' := 223) rfl rfl rfl rfl rfl ?_
    refine w_const (p' := 224) rfl rfl rfl ?_
    refine w_iald (p' := 225) (N := 3) rfl rfl rfl rfl (by decide) (by decide) ?_
    refine w_goto (p' := 239) rfl rfl ?_
    refine w_istore (p' := 241) (ls' := [some (.inr (.inr (.inl (some 113)))), some (.inl v1), some (.inl v2), some (.inl v3), some (.inl v4), some (.inl v5), some (.inl v6), some (.inl t0), some (.inl (s 156 2))]) rfl rfl rfl (Nat.le_of_ble_eq_true rfl) rfl ?_
    refine w_iload (p' := 242) rfl rfl rfl rfl ?_
    refine w_aload (p' := 243) rfl rfl rfl rfl ?_
    refine w_iload (p' := 244) rfl rfl rfl rfl ?_
    refine w_iload (p' := 246) rfl rfl rfl rfl ?_
    refine w_iload (p' := 247) rfl rfl rfl rfl ?_
    refine w_iload (p' := 249) rfl rfl rfl rfl ?_
    refine w_iload (p' := 251) rfl rfl rfl rfl ?_
    refine w_iload (p' := 253) rfl rfl rfl rfl ?_
    refine v_callI (M' := 125) (p' := 256) (rest := [(.inl v1)]) (as := [(.inr (.inr (.inl (some 113)))), (.inl v2), (.inl v5), (.inl v3), (.inl t0), (.inl v4), (.inl (s 156 2))]) rfl rfl rfl rfl rfl rfl rfl rfl rfl rfl rfl rfl rfl h (fun r4 s3 h => ?_)
    refine w_if (t := 263) (e := 259) rfl rfl rfl (fun e => ?_) (fun e => ?_)
    · have h := h.1 e
      refine w_const (p' := 264) rfl rfl rfl ?_
      exact w_cut (q_le_s (q_le_n (q_le_n (q_le_n (q_le_n (q_le_s (q_le_s (q_le_s (q_le_s q_le_z))))))))) h
    · have h := h.2 e
      refine w_const (p' := 260) rfl rfl rfl ?_
      refine w_goto (p' := 264) rfl rfl ?_
      exact w_cut (q_le_s (q_le_n (q_le_n (q_le_n (q_le_n (q_le_s (q_le_s (q_le_s (q_le_s q_le_z))))))))) h
set_option maxRecDepth 20000 in
theorem sg_m_merge_264 {X : Nat × (Nat → Int32)}  {v5 v6 v7 v8 t0 t1 : Int} {s : qM} {K : Int → qM → Prop} (h : (-2147483648 ≤ (t0 + t1) ∧ (t0 + t1) < 2147483648) ∧ (((v6 ≠ 0) → (-2147483648 ≤ (v5 + 1) ∧ (v5 + 1) < 2147483648) ∧ (-2147483648 ≤ (v7 + 1) ∧ (v7 + 1) < 2147483648) ∧ (-2147483648 ≤ (v8 + 1) ∧ (v8 + 1) < 2147483648) ∧ (-2147483648 ≤ (v5 + 1) ∧ (v5 + 1) < 2147483648) ∧ L_m_merge_131 X (t0 + t1) (v5 + 1) (v7 + 1) (v8 + 1) (v5 + 1) s K) ∧ (¬ (v6 ≠ 0) → (-2147483648 ≤ (v5 + 1) ∧ (v5 + 1) < 2147483648) ∧ c_m_takesLines X 0 v5 (v5 + 1) s (fun s1 => (-2147483648 ≤ (v5 + 1) ∧ (v5 + 1) < 2147483648) ∧ (-2147483648 ≤ (v7 + 1) ∧ (v7 + 1) < 2147483648) ∧ (-2147483648 ≤ (v8 + 1) ∧ (v8 + 1) < 2147483648) ∧ (-2147483648 ≤ (v5 + 1) ∧ (v5 + 1) < 2147483648) ∧ L_m_merge_131 X (t0 + t1) (v5 + 1) (v7 + 1) (v8 + 1) (v5 + 1) s1 K)))) : L_m_merge_264 X v5 v6 v7 v8 t0 t1 s K := by
  unfold L_m_merge_264
  refine w_add (p' := 265) rfl rfl h.1 ?_
  have h := h.2
  refine w_istore (p' := 266) (ls' := [some (.inr (.inr (.inl (some 113)))), some (.inl (t0 + t1)), none, none, none, some (.inl v5), some (.inl v6), some (.inl v7), some (.inl v8)]) rfl rfl rfl (Nat.le_of_ble_eq_true rfl) rfl ?_
  refine w_iload (p' := 268) rfl rfl rfl rfl ?_
  refine w_if (t := 282) (e := 271) rfl rfl rfl (fun e => ?_) (fun e => ?_)
  · have h := h.1 e
    refine w_iload (p' := 284) rfl rfl rfl rfl ?_
    refine w_const (p' := 285) rfl rfl rfl ?_
    refine w_add (p' := 286) rfl rfl h.1 ?_
    have h := h.2
    refine w_istore (p' := 287) (ls' := [some (.inr (.inr (.inl (some 113)))), some (.inl (t0 + t1)), some (.inl (v5 + 1)), none, none, some (.inl v5), some (.inl v6), some (.inl v7), some (.inl v8)]) rfl rfl rfl (Nat.le_of_ble_eq_true rfl) rfl ?_
    refine w_iload (p' := 289) rfl rfl rfl rfl ?_
    refine w_const (p' := 290) rfl rfl rfl ?_
    refine w_add (p' := 291) rfl rfl h.1 ?_
    have h := h.2
    refine w_istore (p' := 292) (ls' := [some (.inr (.inr (.inl (some 113)))), some (.inl (t0 + t1)), some (.inl (v5 + 1)), some (.inl (v7 + 1)), none, some (.inl v5), some (.inl v6), some (.inl v7), some (.inl v8)]) rfl rfl rfl (Nat.le_of_ble_eq_true rfl) rfl ?_
    refine w_iload (p' := 294) rfl rfl rfl rfl ?_
    refine w_const (p' := 295) rfl rfl rfl ?_
    refine w_add (p' := 296) rfl rfl h.1 ?_
    have h := h.2
    refine w_istore (p' := 298) (ls' := [some (.inr (.inr (.inl (some 113)))), some (.inl (t0 + t1)), some (.inl (v5 + 1)), some (.inl (v7 + 1)), some (.inl (v8 + 1)), some (.inl v5), some (.inl v6), some (.inl v7), some (.inl v8)]) rfl rfl rfl (Nat.le_of_ble_eq_true rfl) rfl ?_
    refine w_iinc (p' := 301) (ls' := [some (.inr (.inr (.inl (some 113)))), some (.inl (t0 + t1)), some (.inl (v5 + 1)), some (.inl (v7 + 1)), some (.inl (v8 + 1)), some (.inl (v5 + 1)), some (.inl v6), some (.inl v7), some (.inl v8)]) rfl rfl rfl (Nat.le_of_ble_eq_true rfl) h.1 rfl ?_
    have h := h.2
    refine w_goto (p' := 131) rfl rfl ?_
    exact w_cut (q_le_s (q_le_s (q_le_s (q_le_s (q_le_s (q_le_s (q_le_n (q_le_n (q_le_n q_le_z))))))))) h
  · have h := h.2 e
    refine w_aload (p' := 272) rfl rfl rfl rfl ?_
    refine w_const (p' := 273) rfl rfl rfl ?_
    refine w_iload (p' := 275) rfl rfl rfl rfl ?_
    refine w_iload (p' := 277) rfl rfl rfl rfl ?_
    refine w_const (p' := 278) rfl rfl rfl ?_
    refine w_add (p' := 279) rfl rfl h.1 ?_
    have h := h.2
    refine v_callV (M' := 124) (p' := 282) (rest := []) (as := [(.inr (.inr (.inl (some 113)))), (.inl 0), (.inl v5), (.inl (v5 + 1))]) rfl rfl rfl rfl rfl rfl rfl rfl rfl rfl rfl rfl rfl h (fun s1 h => ?_)
    refine w_iload (p' := 284) rfl rfl rfl rfl ?_
    refine w_const (p' := 285) rfl rfl rfl ?_
    refine w_add (p' := 286) rfl rfl h.1 ?_
    have h := h.2
    refine w_istore (p' := 287) (ls' := [some (.inr (.inr (.inl (some 113)))), some (.inl (t0 + t1)), some (.inl (v5 + 1)), none, none, some (.inl v5), some (.inl v6), some (.inl v7), some (.inl v8)]) rfl rfl rfl (Nat.le_of_ble_eq_true rfl) rfl ?_
    refine w_iload (p' := 289) rfl rfl rfl rfl ?_
    refine w_const (p' := 290) rfl rfl rfl ?_
    refine w_add (p' := 291) rfl rfl h.1 ?_
    have h := h.2
    refine w_istore (p' := 292) (ls' := [some (.inr (.inr (.inl (some 113)))), some (.inl (t0 + t1)), some (.inl (v5 + 1)), some (.inl (v7 + 1)), none, some (.inl v5), some (.inl v6), some (.inl v7), some (.inl v8)]) rfl rfl rfl (Nat.le_of_ble_eq_true rfl) rfl ?_
    refine w_iload (p' := 294) rfl rfl rfl rfl ?_
    refine w_const (p' := 295) rfl rfl rfl ?_
    refine w_add (p' := 296) rfl rfl h.1 ?_
    have h := h.2
    refine w_istore (p' := 298) (ls' := [some (.inr (.inr (.inl (some 113)))), some (.inl (t0 + t1)), some (.inl (v5 + 1)), some (.inl (v7 + 1)), some (.inl (v8 + 1)), some (.inl v5), some (.inl v6), some (.inl v7), some (.inl v8)]) rfl rfl rfl (Nat.le_of_ble_eq_true rfl) rfl ?_
    refine w_iinc (p' := 301) (ls' := [some (.inr (.inr (.inl (some 113)))), some (.inl (t0 + t1)), some (.inl (v5 + 1)), some (.inl (v7 + 1)), some (.inl (v8 + 1)), some (.inl (v5 + 1)), some (.inl v6), some (.inl v7), some (.inl v8)]) rfl rfl rfl (Nat.le_of_ble_eq_true rfl) h.1 rfl ?_
    have h := h.2
    refine w_goto (p' := 131) rfl rfl ?_
    exact w_cut (q_le_s (q_le_s (q_le_s (q_le_s (q_le_s (q_le_s (q_le_n (q_le_n (q_le_n q_le_z))))))))) h
