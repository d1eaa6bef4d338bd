/-! Segments, by program (wip/tools/seg.py). -/
set_option maxRecDepth 20000 in
theorem sg_Tree_addBlock {X : Nat × (Nat → Int32)} {x2 : Int} {s : qM} {K : Int → qM → Prop} (h : c_Blocks_kindOf X x2 s (fun r2 s1 => c_Blocks_measureOf X x2 s1 (fun r4 s3 => (((r2 ≠ 4) → (((r2 ≠ 2) → c_Blocks_parentOf X x2 s3 (fun r6 s5 => c_Row_at X 81 r6 s5 (fun r8 s7 => c_Tree_add X r2 r8 (-1) s7 (fun r10 s9 => c_Row_set X 71 r10 r4 s9 (fun s11 => c_Row_add X 81 r10 s11 (fun s12 => K r10 s12)))))) ∧ (¬ (r2 ≠ 2) → c_Blocks_parentOf X x2 s3 (fun r14 s13 => c_Row_at X 81 r14 s13 (fun r16 s15 => c_Tree_add X r2 r16 r4 s15 (fun r18 s17 => c_Row_set X 71 r18 r4 s17 (fun s19 => c_Row_add X 81 r18 s19 (fun s20 => K r18 s20)))))))) ∧ (¬ (r2 ≠ 4) → (-2147483648 ≤ (100 + r4) ∧ (100 + r4) < 2147483648) ∧ c_Blocks_parentOf X x2 s3 (fun r22 s21 => c_Row_at X 81 r22 s21 (fun r24 s23 => c_Tree_add X r2 r24 (100 + r4) s23 (fun r26 s25 => c_Row_set X 71 r26 r4 s25 (fun s27 => c_Row_add X 81 r26 s27 (fun s28 => K r26 s28)))))))))) : c_Tree_addBlock X x2 s K := by
  unfold c_Tree_addBlock
  refine w_aload (p' := 1) rfl rfl rfl rfl ?_
  refine w_iload (p' := 2) rfl rfl rfl rfl ?_
  refine v_callI (M' := 153) (p' := 5) (rest := []) (as := [(.inr (.inr (.inl (some 12)))), (.inl x2)]) rfl rfl rfl rfl rfl rfl rfl rfl rfl rfl rfl rfl rfl h (fun r2 s1 h => ?_)
  refine w_istore (p' := 6) (ls' := [some (.inr (.inr (.inl (some 64)))), some (.inr (.inr (.inl (some 12)))), some (.inl x2), some (.inl r2), none, none, none]) rfl rfl rfl (Nat.le_of_ble_eq_true rfl) rfl ?_
  refine w_aload (p' := 7) rfl rfl rfl rfl ?_
  refine w_iload (p' := 8) rfl rfl rfl rfl ?_
  refine v_callI (M' := 156) (p' := 11) (rest := []) (as := [(.inr (.inr (.inl (some 12)))), (.inl x2)]) rfl rfl rfl rfl rfl rfl rfl rfl rfl rfl rfl rfl rfl h (fun r4 s3 h => ?_)
  refine w_istore (p' := 13) (ls' := [some (.inr (.inr (.inl (some 64)))), some (.inr (.inr (.inl (some 12)))), some (.inl x2), some (.inl r2), some (.inl r4), none, none]) rfl rfl rfl (Nat.le_of_ble_eq_true rfl) rfl ?_
  refine w_const (p' := 14) rfl rfl rfl ?_
  refine w_istore (p' := 16) (ls' := [some (.inr (.inr (.inl (some 64)))), some (.inr (.inr (.inl (some 12)))), some (.inl x2), some (.inl r2), some (.inl r4), some (.inl (-1)), none]) rfl rfl rfl (Nat.le_of_ble_eq_true rfl) rfl ?_
  refine w_iload (p' := 17) rfl rfl rfl rfl ?_
  refine w_const (p' := 18) rfl rfl rfl ?_
  refine w_icmp (t := 31) (e := 21) rfl rfl rfl (fun e => ?_) (fun e => ?_)
  · have h := h.1 e
    refine w_iload (p' := 32) rfl rfl rfl rfl ?_
    refine w_const (p' := 33) rfl rfl rfl ?_
    refine w_icmp (t := 40) (e := 36) rfl rfl rfl (fun e => ?_) (fun e => ?_)
    · have h := h.1 e
      refine w_aload (p' := 41) rfl rfl rfl rfl ?_
      refine w_iload (p' := 42) rfl rfl rfl rfl ?_
      refine w_aload (p' := 43) rfl rfl rfl rfl ?_
      refine w_getR (p' := 46) rfl rfl rfl rfl rfl ?_
      refine w_aload (p' := 47) rfl rfl rfl rfl ?_
      refine w_iload (p' := 48) rfl rfl rfl rfl ?_
      refine v_callI (M' := 154) (p' := 51) (rest := [(.inr (.inr (.inl (some 81)))), (.inl r2), (.inr (.inr (.inl (some 64))))]) (as := [(.inr (.inr (.inl (some 12)))), (.inl x2)]) rfl rfl rfl rfl rfl rfl rfl rfl rfl rfl rfl rfl rfl h (fun r6 s5 h => ?_)
      refine v_callI (M' := 224) (p' := 54) (rest := [(.inl r2), (.inr (.inr (.inl (some 64))))]) (as := [(.inr (.inr (.inl (some 81)))), (.inl r6)]) rfl rfl rfl rfl rfl rfl rfl rfl rfl rfl rfl rfl rfl h (fun r8 s7 h => ?_)
      refine w_iload (p' := 56) rfl rfl rfl rfl ?_
      refine v_callI (M' := 247) (p' := 59) (rest := []) (as := [(.inr (.inr (.inl (some 64)))), (.inl r2), (.inl r8), (.inl (-1))]) rfl rfl rfl rfl rfl rfl rfl rfl rfl rfl rfl rfl rfl h (fun r10 s9 h => ?_)
      refine w_istore (p' := 61) (ls' := [some (.inr (.inr (.inl (some 64)))), some (.inr (.inr (.inl (some 12)))), some (.inl x2), some (.inl r2), some (.inl r4), some (.inl (-1)), some (.inl r10)]) rfl rfl rfl (Nat.le_of_ble_eq_true rfl) rfl ?_
      refine w_aload (p' := 62) rfl rfl rfl rfl ?_
      refine w_getR (p' := 65) rfl rfl rfl rfl rfl ?_
      refine w_iload (p' := 67) rfl rfl rfl rfl ?_
      refine w_iload (p' := 69) rfl rfl rfl rfl ?_
      refine v_callV (M' := 225) (p' := 72) (rest := []) (as := [(.inr (.inr (.inl (some 71)))), (.inl r10), (.inl r4)]) rfl rfl rfl rfl rfl rfl rfl rfl rfl rfl rfl rfl rfl h (fun s11 h => ?_)
      refine w_aload (p' := 73) rfl rfl rfl rfl ?_
      refine w_getR (p' := 76) rfl rfl rfl rfl rfl ?_
      refine w_iload (p' := 78) rfl rfl rfl rfl ?_
      refine v_callV (M' := 226) (p' := 81) (rest := []) (as := [(.inr (.inr (.inl (some 81)))), (.inl r10)]) rfl rfl rfl rfl rfl rfl rfl rfl rfl rfl rfl rfl rfl h (fun s12 h => ?_)
      refine w_iload (p' := 83) rfl rfl rfl rfl ?_
      exact w_iret rfl trivial ⟨rfl, _, rfl, h⟩
    · have h := h.2 e
      refine w_iload (p' := 38) rfl rfl rfl rfl ?_
      refine w_istore (p' := 40) (ls' := [some (.inr (.inr (.inl (some 64)))), some (.inr (.inr (.inl (some 12)))), some (.inl x2), some (.inl r2), some (.inl r4), some (.inl r4), none]) rfl rfl rfl (Nat.le_of_ble_eq_true rfl) rfl ?_
      refine w_aload (p' := 41) rfl rfl rfl rfl ?_
      refine w_iload (p' := 42) rfl rfl rfl rfl ?_
      refine w_aload (p' := 43) rfl rfl rfl rfl ?_
      refine w_getR (p' := 46) rfl rfl rfl rfl rfl ?_
      refine w_aload (p' := 47) rfl rfl rfl rfl ?_
      refine w_iload (p' := 48) rfl rfl rfl rfl ?_
      refine v_callI (M' := 154) (p' := 51) (rest := [(.inr (.inr (.inl (some 81)))), (.inl r2), (.inr (.inr (.inl (some 64))))]) (as := [(.inr (.inr (.inl (some 12)))), (.inl x2)]) rfl rfl rfl rfl rfl rfl rfl rfl rfl rfl rfl rfl rfl h (fun r14 s13 h => ?_)
      refine v_callI (M' := 224) (p' := 54) (rest := [(.inl r2), (.inr (.inr (.inl (some 64))))]) (as := [(.inr (.inr (.inl (some 81)))), (.inl r14)]) rfl rfl rfl rfl rfl rfl rfl rfl rfl rfl rfl rfl rfl h (fun r16 s15 h => ?_)
      refine w_iload (p' := 56) rfl rfl rfl rfl ?_
      refine v_callI (M' := 247) (p' := 59) (rest := []) (as := [(.inr (.inr (.inl (some 64)))), (.inl r2), (.inl r16), (.inl r4)]) rfl rfl rfl rfl rfl rfl rfl rfl rfl rfl rfl rfl rfl h (fun r18 s17 h => ?_)
      refine w_istore (p' := 61) (ls' := [some (.inr (.inr (.inl (some 64)))), some (.inr (.inr (.inl (some 12)))), some (.inl x2), some (.inl r2), some (.inl r4), some (.inl r4), some (.inl r18)]) rfl rfl rfl (Nat.le_of_ble_eq_true rfl) rfl ?_
      refine w_aload (p' := 62) rfl rfl rfl rfl ?_
      refine w_getR (p' := 65) rfl rfl rfl rfl rfl ?_
      refine w_iload (p' := 67) rfl rfl rfl rfl ?_
      refine w_iload (p' := 69) rfl rfl rfl rfl ?_
      refine v_callV (M' := 225) (p' := 72) (rest := []) (as := [(.inr (.inr (.inl (some 71)))), (.inl r18), (.inl r4)]) rfl rfl rfl rfl rfl rfl rfl rfl rfl rfl rfl rfl rfl h (fun s19 h => ?_)
      refine w_aload (p' := 73) rfl rfl rfl rfl ?_
      refine w_getR (p' := 76) rfl rfl rfl rfl rfl ?_
      refine w_iload (p' := 78) rfl rfl rfl rfl ?_
      refine v_callV (M' := 226) (p' := 81) (rest := []) (as := [(.inr (.inr (.inl (some 81)))), (.inl r18)]) rfl rfl rfl rfl rfl rfl rfl rfl rfl rfl rfl rfl rfl h (fun s20 h => ?_)
      refine w_iload (p' := 83) rfl rfl rfl rfl ?_
      exact w_iret rfl trivial ⟨rfl, _, rfl, h⟩
  · have h := h.2 e
    refine w_const (p' := 23) rfl rfl rfl ?_
    refine w_iload (p' := 25) rfl rfl rfl rfl ?_
    refine w_add (p' := 26) rfl rfl h.1 ?_
    have h := h.2
    refine w_istore (p' := 28) (ls' := [some (.inr (.inr (.inl (some 64)))), some (.inr (.inr (.inl (some 12)))), some (.inl x2), some (.inl r2), some (.inl r4), some (.inl (100 + r4)), none]) rfl rfl rfl (Nat.le_of_ble_eq_true rfl) rfl ?_
    refine w_goto (p' := 40) rfl rfl ?_
    refine w_aload (p' := 41) rfl rfl rfl rfl ?_
    refine w_iload (p' := 42) rfl rfl rfl rfl ?_
    refine w_aload (p' := 43) rfl rfl rfl rfl ?_
    refine w_getR (p' := 46) rfl rfl rfl rfl rfl ?_
    refine w_aload (p' := 47) rfl rfl rfl rfl ?_
    refine w_iload (p' := 48) rfl rfl rfl rfl ?_
    refine v_callI (M' := 154) (p' := 51) (rest := [(.inr (.inr (.inl (some 81)))), (.inl r2), (.inr (.inr (.inl (some 64))))]) (as := [(.inr (.inr (.inl (some 12)))), (.inl x2)]) rfl rfl rfl rfl rfl rfl rfl rfl rfl rfl rfl rfl rfl h (fun r22 s21 h => ?_)
    refine v_callI (M' := 224) (p' := 54) (rest := [(.inl r2), (.inr (.inr (.inl (some 64))))]) (as := [(.inr (.inr (.inl (some 81)))), (.inl r22)]) rfl rfl rfl rfl rfl rfl rfl rfl rfl rfl rfl rfl rfl h (fun r24 s23 h => ?_)
    refine w_iload (p' := 56) rfl rfl rfl rfl ?_
    refine v_callI (M' := 247) (p' := 59) (rest := []) (as := [(.inr (.inr (.inl (some 64)))), (.inl r2), (.inl r24), (.inl (100 + r4))]) rfl rfl rfl rfl rfl rfl rfl rfl rfl rfl rfl rfl rfl h (fun r26 s25 h => ?_)
    refine w_istore (p' := 61) (ls' := [some (.inr (.inr (.inl (some 64)))), some (.inr (.inr (.inl (some 12)))), some (.inl x2), some (.inl r2), some (.inl r4), some (.inl (100 + r4)), some (.inl r26)]) rfl rfl rfl (Nat.le_of_ble_eq_true rfl) rfl ?_
    refine w_aload (p' := 62) rfl rfl rfl rfl ?_
    refine w_getR (p' := 65) rfl rfl rfl rfl rfl ?_
    refine w_iload (p' := 67) rfl rfl rfl rfl ?_
    refine w_iload (p' := 69) rfl rfl rfl rfl ?_
    refine v_callV (M' := 225) (p' := 72) (rest := []) (as := [(.inr (.inr (.inl (some 71)))), (.inl r26), (.inl r4)]) rfl rfl rfl rfl rfl rfl rfl rfl rfl rfl rfl rfl rfl h (fun s27 h => ?_)
    refine w_aload (p' := 73) rfl rfl rfl rfl ?_
    refine w_getR (p' := 76) rfl rfl rfl rfl rfl ?_
    refine w_iload (p' := 78) rfl rfl rfl rfl ?_
    refine v_callV (M' := 226) (p' := 81) (rest := []) (as := [(.inr (.inr (.inl (some 81)))), (.inl r26)]) rfl rfl rfl rfl rfl rfl rfl rfl rfl rfl rfl rfl rfl h (fun s28 h => ?_)
    refine w_iload (p' := 83) rfl rfl rfl rfl ?_
    exact w_iret rfl trivial ⟨rfl, _, rfl, h⟩
set_option maxRecDepth 20000 in
theorem sg_Tree_add {X : Nat × (Nat → Int32)} {x1 : Int} {x2 : Int} {x3 : Int} {s : qM} {K : Int → qM → Prop} (h : c_Row_size X 65 s (fun r2 s1 => c_Row_add X 65 x1 s1 (fun s3 => c_Row_add X 67 x2 s3 (fun s4 => c_Row_add X 69 0 s4 (fun s5 => c_Row_add X 71 0 s5 (fun s6 => c_Row_add X 73 x3 s6 (fun s7 => c_Row_size X 79 s7 (fun r9 s8 => c_Row_add X 75 r9 s8 (fun s10 => c_Row_add X 77 0 s10 (fun s11 => c_Row_at X 69 x2 s11 (fun r13 s12 => (-2147483648 ≤ (r13 + 1) ∧ (r13 + 1) < 2147483648) ∧ c_Row_set X 69 x2 (r13 + 1) s12 (fun s14 => K r2 s14)))))))))))) : c_Tree_add X x1 x2 x3 s K := by
  unfold c_Tree_add
  refine w_aload (p' := 1) rfl rfl rfl rfl ?_
  refine w_getR (p' := 4) rfl rfl rfl rfl rfl ?_
  refine v_callI (M' := 223) (p' := 7) (rest := []) (as := [(.inr (.inr (.inl (some 65))))]) rfl rfl rfl rfl rfl rfl rfl rfl rfl rfl rfl rfl rfl h (fun r2 s1 h => ?_)
  refine w_istore (p' := 9) (ls' := [some (.inr (.inr (.inl (some 64)))), some (.inl x1), some (.inl x2), some (.inl x3), some (.inl r2)]) rfl rfl rfl (Nat.le_of_ble_eq_true rfl) rfl ?_
  refine w_aload (p' := 10) rfl rfl rfl rfl ?_
  refine w_getR (p' := 13) rfl rfl rfl rfl rfl ?_
  refine w_iload (p' := 14) rfl rfl rfl rfl ?_
  refine v_callV (M' := 226) (p' := 17) (rest := []) (as := [(.inr (.inr (.inl (some 65)))), (.inl x1)]) rfl rfl rfl rfl rfl rfl rfl rfl rfl rfl rfl rfl rfl h (fun s3 h => ?_)
  refine w_aload (p' := 18) rfl rfl rfl rfl ?_
  refine w_getR (p' := 21) rfl rfl rfl rfl rfl ?_
  refine w_iload (p' := 22) rfl rfl rfl rfl ?_
  refine v_callV (M' := 226) (p' := 25) (rest := []) (as := [(.inr (.inr (.inl (some 67)))), (.inl x2)]) rfl rfl rfl rfl rfl rfl rfl rfl rfl rfl rfl rfl rfl h (fun s4 h => ?_)
  refine w_aload (p' := 26) rfl rfl rfl rfl ?_
  refine w_getR (p' := 29) rfl rfl rfl rfl rfl ?_
  refine w_const (p' := 30) rfl rfl rfl ?_
  refine v_callV (M' := 226) (p' := 33) (rest := []) (as := [(.inr (.inr (.inl (some 69)))), (.inl 0)]) rfl rfl rfl rfl rfl rfl rfl rfl rfl rfl rfl rfl rfl h (fun s5 h => ?_)
  refine w_aload (p' := 34) rfl rfl rfl rfl ?_
  refine w_getR (p' := 37) rfl rfl rfl rfl rfl ?_
  refine w_const (p' := 38) rfl rfl rfl ?_
  refine v_callV (M' := 226) (p' := 41) (rest := []) (as := [(.inr (.inr (.inl (some 71)))), (.inl 0)]) rfl rfl rfl rfl rfl rfl rfl rfl rfl rfl rfl rfl rfl h (fun s6 h => ?_)
  refine w_aload (p' := 42) rfl rfl rfl rfl ?_
  refine w_getR (p' := 45) rfl rfl rfl rfl rfl ?_
  refine w_iload (p' := 46) rfl rfl rfl rfl ?_
  refine v_callV (M' := 226) (p' := 49) (rest := []) (as := [(.inr (.inr (.inl (some 73)))), (.inl x3)]) rfl rfl rfl rfl rfl rfl rfl rfl rfl rfl rfl rfl rfl h (fun s7 h => ?_)
  refine w_aload (p' := 50) rfl rfl rfl rfl ?_
  refine w_getR (p' := 53) rfl rfl rfl rfl rfl ?_
  refine w_aload (p' := 54) rfl rfl rfl rfl ?_
  refine w_getR (p' := 57) rfl rfl rfl rfl rfl ?_
  refine v_callI (M' := 223) (p' := 60) (rest := [(.inr (.inr (.inl (some 75))))]) (as := [(.inr (.inr (.inl (some 79))))]) rfl rfl rfl rfl rfl rfl rfl rfl rfl rfl rfl rfl rfl h (fun r9 s8 h => ?_)
  refine v_callV (M' := 226) (p' := 63) (rest := []) (as := [(.inr (.inr (.inl (some 75)))), (.inl r9)]) rfl rfl rfl rfl rfl rfl rfl rfl rfl rfl rfl rfl rfl h (fun s10 h => ?_)
  refine w_aload (p' := 64) rfl rfl rfl rfl ?_
  refine w_getR (p' := 67) rfl rfl rfl rfl rfl ?_
  refine w_const (p' := 68) rfl rfl rfl ?_
  refine v_callV (M' := 226) (p' := 71) (rest := []) (as := [(.inr (.inr (.inl (some 77)))), (.inl 0)]) rfl rfl rfl rfl rfl rfl rfl rfl rfl rfl rfl rfl rfl h (fun s11 h => ?_)
  refine w_aload (p' := 72) rfl rfl rfl rfl ?_
  refine w_getR (p' := 75) rfl rfl rfl rfl rfl ?_
  refine w_iload (p' := 76) rfl rfl rfl rfl ?_
  refine w_aload (p' := 77) rfl rfl rfl rfl ?_
  refine w_getR (p' := 80) rfl rfl rfl rfl rfl ?_
  refine w_iload (p' := 81) rfl rfl rfl rfl ?_
  refine v_callI (M' := 224) (p' := 84) (rest := [(.inl x2), (.inr (.inr (.inl (some 69))))]) (as := [(.inr (.inr (.inl (some 69)))), (.inl x2)]) rfl rfl rfl rfl rfl rfl rfl rfl rfl rfl rfl rfl rfl h (fun r13 s12 h => ?_)
  refine w_const (p' := 85) rfl rfl rfl ?_
  refine w_add (p' := 86) rfl rfl h.1 ?_
  have h := h.2
  refine v_callV (M' := 225) (p' := 89) (rest := []) (as := [(.inr (.inr (.inl (some 69)))), (.inl x2), (.inl (r13 + 1))]) rfl rfl rfl rfl rfl rfl rfl rfl rfl rfl rfl rfl rfl h (fun s14 h => ?_)
  refine w_iload (p' := 91) rfl rfl rfl rfl ?_
  exact w_iret rfl trivial ⟨rfl, _, rfl, h⟩
set_option maxRecDepth 20000 in
theorem sg_Tree_addContent {X : Nat × (Nat → Int32)} {x1 : Int} {x2 : Int} {s : qM} {K : qM → Prop} (h : c_Row_add X 79 x2 s (fun s1 => c_Row_at X 77 x1 s1 (fun r3 s2 => (-2147483648 ≤ (r3 + 1) ∧ (r3 + 1) < 2147483648) ∧ c_Row_set X 77 x1 (r3 + 1) s2 (fun s4 => K s4)))) : c_Tree_addContent X x1 x2 s K := by
  unfold c_Tree_addContent
  refine w_aload (p' := 1) rfl rfl rfl rfl ?_
  refine w_getR (p' := 4) rfl rfl rfl rfl rfl ?_
  refine w_iload (p' := 5) rfl rfl rfl rfl ?_
  refine v_callV (M' := 226) (p' := 8) (rest := []) (as := [(.inr (.inr (.inl (some 79)))), (.inl x2)]) rfl rfl rfl rfl rfl rfl rfl rfl rfl rfl rfl rfl rfl h (fun s1 h => ?_)
  refine w_aload (p' := 9) rfl rfl rfl rfl ?_
  refine w_getR (p' := 12) rfl rfl rfl rfl rfl ?_
  refine w_iload (p' := 13) rfl rfl rfl rfl ?_
  refine w_aload (p' := 14) rfl rfl rfl rfl ?_
  refine w_getR (p' := 17) rfl rfl rfl rfl rfl ?_
  refine w_iload (p' := 18) rfl rfl rfl rfl ?_
  refine v_callI (M' := 224) (p' := 21) (rest := [(.inl x1), (.inr (.inr (.inl (some 77))))]) (as := [(.inr (.inr (.inl (some 77)))), (.inl x1)]) rfl rfl rfl rfl rfl rfl rfl rfl rfl rfl rfl rfl rfl h (fun r3 s2 h => ?_)
  refine w_const (p' := 22) rfl rfl rfl ?_
  refine w_add (p' := 23) rfl rfl h.1 ?_
  have h := h.2
  refine v_callV (M' := 225) (p' := 26) (rest := []) (as := [(.inr (.inr (.inl (some 77)))), (.inl x1), (.inl (r3 + 1))]) rfl rfl rfl rfl rfl rfl rfl rfl rfl rfl rfl rfl rfl h (fun s4 h => ?_)
  exact w_vret rfl ⟨rfl, rfl, h⟩
set_option maxRecDepth 20000 in
theorem sg_Tree_addInline {X : Nat × (Nat → Int32)} {x2 : Int} {s : qM} {K : qM → Prop} (h : L_Tree_addInline_8 X x2 (-1) 0 s K) : c_Tree_addInline X x2 s K := by
  unfold c_Tree_addInline
  refine w_iload (p' := 1) rfl rfl rfl rfl ?_
  refine w_istore (p' := 2) (ls' := [some (.inr (.inr (.inl (some 64)))), some (.inr (.inr (.inl (some 44)))), some (.inl x2), some (.inl x2), none, none, none]) rfl rfl rfl (Nat.le_of_ble_eq_true rfl) rfl ?_
  refine w_const (p' := 3) rfl rfl rfl ?_
  refine w_istore (p' := 5) (ls' := [some (.inr (.inr (.inl (some 64)))), some (.inr (.inr (.inl (some 44)))), some (.inl x2), some (.inl x2), some (.inl (-1)), none, none]) rfl rfl rfl (Nat.le_of_ble_eq_true rfl) rfl ?_
  refine w_const (p' := 6) rfl rfl rfl ?_
  refine w_istore (p' := 8) (ls' := [some (.inr (.inr (.inl (some 64)))), some (.inr (.inr (.inl (some 44)))), some (.inl x2), some (.inl x2), some (.inl (-1)), some (.inl 0), none]) rfl rfl rfl (Nat.le_of_ble_eq_true rfl) rfl ?_
  exact w_cut (q_le_s (q_le_s (q_le_n (q_le_s (q_le_s (q_le_s (q_le_n q_le_z))))))) h
set_option maxRecDepth 20000 in
theorem sg_Tree_addInline_8 {X : Nat × (Nat → Int32)}  {v3 v4 v5 : Int} {s : qM} {K : qM → Prop} (h : c_Il_size X  s (fun r2 s1 => (((r2 ≤ v5) → K s1) ∧ (¬ (r2 ≤ v5) → c_Il_roleAt X v5 s1 (fun r4 s3 => (((r4 ≠ 0) → (((r4 ≠ (-4)) → (((r4 = (-3)) → (-2147483648 ≤ (v5 + 1) ∧ (v5 + 1) < 2147483648) ∧ L_Tree_addInline_8 X v3 v4 (v5 + 1) s3 K) ∧ (¬ (r4 = (-3)) → c_Il_signAt X v5 s3 (fun r6 s5 => c_Tree_add X r4 v3 r6 s5 (fun r8 s7 => (-2147483648 ≤ (v5 + 1) ∧ (v5 + 1) < 2147483648) ∧ L_Tree_addInline_8 X r8 (-1) (v5 + 1) s7 K))))) ∧ (¬ (r4 ≠ (-4)) → c_Row_at X 67 v3 s3 (fun r10 s9 => (-2147483648 ≤ (v5 + 1) ∧ (v5 + 1) < 2147483648) ∧ L_Tree_addInline_8 X r10 (-1) (v5 + 1) s9 K)))) ∧ (¬ (r4 ≠ 0) → c_Row_at X 65 v3 s3 (fun r12 s11 => (((r12 ≠ 11) → (((v4 ≠ (-1)) → c_Il_characterAt X v5 s11 (fun r14 s13 => c_Tree_addContent X v4 r14 s13 (fun s15 => c_Row_at X 77 v4 s15 (fun r17 s16 => c_Row_set X 71 v4 r17 s16 (fun s18 => (-2147483648 ≤ (v5 + 1) ∧ (v5 + 1) < 2147483648) ∧ L_Tree_addInline_8 X v3 v4 (v5 + 1) s18 K))))) ∧ (¬ (v4 ≠ (-1)) → c_Tree_add X 8 v3 (-1) s11 (fun r20 s19 => c_Il_characterAt X v5 s19 (fun r22 s21 => c_Tree_addContent X r20 r22 s21 (fun s23 => c_Row_at X 77 r20 s23 (fun r25 s24 => c_Row_set X 71 r20 r25 s24 (fun s26 => (-2147483648 ≤ (v5 + 1) ∧ (v5 + 1) < 2147483648) ∧ L_Tree_addInline_8 X v3 r20 (v5 + 1) s26 K)))))))) ∧ (¬ (r12 ≠ 11) → c_Il_characterAt X v5 s11 (fun r28 s27 => c_Tree_addContent X v3 r28 s27 (fun s29 => c_Row_at X 77 v3 s29 (fun r31 s30 => c_Row_set X 71 v3 r31 s30 (fun s32 => (-2147483648 ≤ (v5 + 1) ∧ (v5 + 1) < 2147483648) ∧ L_Tree_addInline_8 X v3 v3 (v5 + 1) s32 K)))))))))))))) : L_Tree_addInline_8 X v3 v4 v5 s K := by
  unfold L_Tree_addInline_8
  refine w_iload (p' := 10) rfl rfl rfl rfl ?_
  refine w_aload (p' := 11) rfl rfl rfl rfl ?_
  refine v_callI (M' := 177) (p' := 14) (rest := [(.inl v5)]) (as := [(.inr (.inr (.inl (some 44))))]) rfl rfl rfl rfl rfl rfl rfl rfl rfl rfl rfl rfl rfl h (fun r2 s1 h => ?_)
  refine w_icmp (t := 150) (e := 17) rfl rfl rfl (fun e => ?_) (fun e => ?_)
  · have h := h.1 e
    exact w_vret rfl ⟨rfl, rfl, h⟩
  · have h := h.2 e
    refine w_aload (p' := 18) rfl rfl rfl rfl ?_
    refine w_iload (p' := 20) rfl rfl rfl rfl ?_
    refine v_callI (M' := 179) (p' := 23) (rest := []) (as := [(.inr (.inr (.inl (some 44)))), (.inl v5)]) rfl rfl rfl rfl rfl rfl rfl rfl rfl rfl rfl rfl rfl h (fun r4 s3 h => ?_)
    refine w_istore (p' := 25) (ls' := [some (.inr (.inr (.inl (some 64)))), some (.inr (.inr (.inl (some 44)))), none, some (.inl v3), some (.inl v4), some (.inl v5), some (.inl r4)]) rfl rfl rfl (Nat.le_of_ble_eq_true rfl) rfl ?_
    refine w_iload (p' := 27) rfl rfl rfl rfl ?_
    refine w_if (t := 98) (e := 30) rfl rfl rfl (fun e => ?_) (fun e => ?_)
    · have h := h.1 e
      refine w_iload (p' := 100) rfl rfl rfl rfl ?_
      refine w_const (p' := 102) rfl rfl rfl ?_
      refine w_icmp (t := 120) (e := 105) rfl rfl rfl (fun e => ?_) (fun e => ?_)
      · have h := h.1 e
        refine w_iload (p' := 122) rfl rfl rfl rfl ?_
        refine w_const (p' := 124) rfl rfl rfl ?_
        refine w_icmp (t := 144) (e := 127) rfl rfl rfl (fun e => ?_) (fun e => ?_)
        · have h := h.1 e
          refine w_iinc (p' := 147) (ls' := [some (.inr (.inr (.inl (some 64)))), some (.inr (.inr (.inl (some 44)))), none, some (.inl v3), some (.inl v4), some (.inl (v5 + 1)), some (.inl r4)]) rfl rfl rfl (Nat.le_of_ble_eq_true rfl) h.1 rfl ?_
          have h := h.2
          refine w_goto (p' := 8) rfl rfl ?_
          exact w_cut (q_le_s (q_le_s (q_le_n (q_le_s (q_le_s (q_le_s (q_le_n q_le_z))))))) h
        · have h := h.2 e
          refine w_aload (p' := 128) rfl rfl rfl rfl ?_
          refine w_iload (p' := 130) rfl rfl rfl rfl ?_
          refine w_iload (p' := 131) rfl rfl rfl rfl ?_
          refine w_aload (p' := 132) rfl rfl rfl rfl ?_
          refine w_iload (p' := 134) rfl rfl rfl rfl ?_
          refine v_callI (M' := 180) (p' := 137) (rest := [(.inl v3), (.inl r4), (.inr (.inr (.inl (some 64))))]) (as := [(.inr (.inr (.inl (some 44)))), (.inl v5)]) rfl rfl rfl rfl rfl rfl rfl rfl rfl rfl rfl rfl rfl h (fun r6 s5 h => ?_)
          refine v_callI (M' := 247) (p' := 140) (rest := []) (as := [(.inr (.inr (.inl (some 64)))), (.inl r4), (.inl v3), (.inl r6)]) rfl rfl rfl rfl rfl rfl rfl rfl rfl rfl rfl rfl rfl h (fun r8 s7 h => ?_)
          refine w_istore (p' := 141) (ls' := [some (.inr (.inr (.inl (some 64)))), some (.inr (.inr (.inl (some 44)))), none, some (.inl r8), some (.inl v4), some (.inl v5), some (.inl r4)]) rfl rfl rfl (Nat.le_of_ble_eq_true rfl) rfl ?_
          refine w_const (p' := 142) rfl rfl rfl ?_
          refine w_istore (p' := 144) (ls' := [some (.inr (.inr (.inl (some 64)))), some (.inr (.inr (.inl (some 44)))), none, some (.inl r8), some (.inl (-1)), some (.inl v5), some (.inl r4)]) rfl rfl rfl (Nat.le_of_ble_eq_true rfl) rfl ?_
          refine w_iinc (p' := 147) (ls' := [some (.inr (.inr (.inl (some 64)))), some (.inr (.inr (.inl (some 44)))), none, some (.inl r8), some (.inl (-1)), some (.inl (v5 + 1)), some (.inl r4)]) rfl rfl rfl (Nat.le_of_ble_eq_true rfl) h.1 rfl ?_
          have h := h.2
          refine w_goto (p' := 8) rfl rfl ?_
          exact w_cut (q_le_s (q_le_s (q_le_n (q_le_s (q_le_s (q_le_s (q_le_n q_le_z))))))) h
      · have h := h.2 e
        refine w_aload (p' := 106) rfl rfl rfl rfl ?_
        refine w_getR (p' := 109) rfl rfl rfl rfl rfl ?_
        refine w_iload (p' := 110) rfl rfl rfl rfl ?_
        refine v_callI (M' := 224) (p' := 113) (rest := []) (as := [(.inr (.inr (.inl (some 67)))), (.inl v3)]) rfl rfl rfl rfl rfl rfl rfl rfl rfl rfl rfl rfl rfl h (fun r10 s9 h => ?_)
        refine w_istore (p' := 114) (ls' := [some (.inr (.inr (.inl (some 64)))), some (.inr (.inr (.inl (some 44)))), none, some (.inl r10), some (.inl v4), some (.inl v5), some (.inl r4)]) rfl rfl rfl (Nat.le_of_ble_eq_true rfl) rfl ?_
        refine w_const (p' := 115) rfl rfl rfl ?_
        refine w_istore (p' := 117) (ls' := [some (.inr (.inr (.inl (some 64)))), some (.inr (.inr (.inl (some 44)))), none, some (.inl r10), some (.inl (-1)), some (.inl v5), some (.inl r4)]) rfl rfl rfl (Nat.le_of_ble_eq_true rfl) rfl ?_
        refine w_goto (p' := 144) rfl rfl ?_
        refine w_iinc (p' := 147) (ls' := [some (.inr (.inr (.inl (some 64)))), some (.inr (.inr (.inl (some 44)))), none, some (.inl r10), some (.inl (-1)), some (.inl (v5 + 1)), some (.inl r4)]) rfl rfl rfl (Nat.le_of_ble_eq_true rfl) h.1 rfl ?_
        have h := h.2
        refine w_goto (p' := 8) rfl rfl ?_
        exact w_cut (q_le_s (q_le_s (q_le_n (q_le_s (q_le_s (q_le_s (q_le_n q_le_z))))))) h
    · have h := h.2 e
      refine w_aload (p' := 31) rfl rfl rfl rfl ?_
      refine w_getR (p' := 34) rfl rfl rfl rfl rfl ?_
      refine w_iload (p' := 35) rfl rfl rfl rfl ?_
      refine v_callI (M' := 224) (p' := 38) (rest := []) (as := [(.inr (.inr (.inl (some 65)))), (.inl v3)]) rfl rfl rfl rfl rfl rfl rfl rfl rfl rfl rfl rfl rfl h (fun r12 s11 h => ?_)
      refine w_const (p' := 40) rfl rfl rfl ?_
      refine w_icmp (t := 49) (e := 43) rfl rfl rfl (fun e => ?_) (fun e => ?_)
      · have h := h.1 e
        refine w_iload (p' := 51) rfl rfl rfl rfl ?_
        refine w_const (p' := 52) rfl rfl rfl ?_
        refine w_icmp (t := 65) (e := 55) rfl rfl rfl (fun e => ?_) (fun e => ?_)
        · have h := h.1 e
          refine w_aload (p' := 66) rfl rfl rfl rfl ?_
          refine w_iload (p' := 68) rfl rfl rfl rfl ?_
          refine w_aload (p' := 69) rfl rfl rfl rfl ?_
          refine w_iload (p' := 71) rfl rfl rfl rfl ?_
          refine v_callI (M' := 178) (p' := 74) (rest := [(.inl v4), (.inr (.inr (.inl (some 64))))]) (as := [(.inr (.inr (.inl (some 44)))), (.inl v5)]) rfl rfl rfl rfl rfl rfl rfl rfl rfl rfl rfl rfl rfl h (fun r14 s13 h => ?_)
          refine v_callV (M' := 248) (p' := 77) (rest := []) (as := [(.inr (.inr (.inl (some 64)))), (.inl v4), (.inl r14)]) rfl rfl rfl rfl rfl rfl rfl rfl rfl rfl rfl rfl rfl h (fun s15 h => ?_)
          refine w_aload (p' := 78) rfl rfl rfl rfl ?_
          refine w_getR (p' := 81) rfl rfl rfl rfl rfl ?_
          refine w_iload (p' := 83) rfl rfl rfl rfl ?_
          refine w_aload (p' := 84) rfl rfl rfl rfl ?_
          refine w_getR (p' := 87) rfl rfl rfl rfl rfl ?_
          refine w_iload (p' := 89) rfl rfl rfl rfl ?_
          refine v_callI (M' := 224) (p' := 92) (rest := [(.inl v4), (.inr (.inr (.inl (some 71))))]) (as := [(.inr (.inr (.inl (some 77)))), (.inl v4)]) rfl rfl rfl rfl rfl rfl rfl rfl rfl rfl rfl rfl rfl h (fun r17 s16 h => ?_)
          refine v_callV (M' := 225) (p' := 95) (rest := []) (as := [(.inr (.inr (.inl (some 71)))), (.inl v4), (.inl r17)]) rfl rfl rfl rfl rfl rfl rfl rfl rfl rfl rfl rfl rfl h (fun s18 h => ?_)
          refine w_goto (p' := 144) rfl rfl ?_
          refine w_iinc (p' := 147) (ls' := [some (.inr (.inr (.inl (some 64)))), some (.inr (.inr (.inl (some 44)))), none, some (.inl v3), some (.inl v4), some (.inl (v5 + 1)), some (.inl r4)]) rfl rfl rfl (Nat.le_of_ble_eq_true rfl) h.1 rfl ?_
          have h := h.2
          refine w_goto (p' := 8) rfl rfl ?_
          exact w_cut (q_le_s (q_le_s (q_le_n (q_le_s (q_le_s (q_le_s (q_le_n q_le_z))))))) h
        · have h := h.2 e
          refine w_aload (p' := 56) rfl rfl rfl rfl ?_
          refine w_const (p' := 58) rfl rfl rfl ?_
          refine w_iload (p' := 59) rfl rfl rfl rfl ?_
          refine w_const (p' := 60) rfl rfl rfl ?_
          refine v_callI (M' := 247) (p' := 63) (rest := []) (as := [(.inr (.inr (.inl (some 64)))), (.inl 8), (.inl v3), (.inl (-1))]) rfl rfl rfl rfl rfl rfl rfl rfl rfl rfl rfl rfl rfl h (fun r20 s19 h => ?_)
          refine w_istore (p' := 65) (ls' := [some (.inr (.inr (.inl (some 64)))), some (.inr (.inr (.inl (some 44)))), none, some (.inl v3), some (.inl r20), some (.inl v5), some (.inl r4)]) rfl rfl rfl (Nat.le_of_ble_eq_true rfl) rfl ?_
          refine w_aload (p' := 66) rfl rfl rfl rfl ?_
          refine w_iload (p' := 68) rfl rfl rfl rfl ?_
          refine w_aload (p' := 69) rfl rfl rfl rfl ?_
          refine w_iload (p' := 71) rfl rfl rfl rfl ?_
          refine v_callI (M' := 178) (p' := 74) (rest := [(.inl r20), (.inr (.inr (.inl (some 64))))]) (as := [(.inr (.inr (.inl (some 44)))), (.inl v5)]) rfl rfl rfl rfl rfl rfl rfl rfl rfl rfl rfl rfl rfl h (fun r22 s21 h => ?_)
          refine v_callV (M' := 248) (p' := 77) (rest := []) (as := [(.inr (.inr (.inl (some 64)))), (.inl r20), (.inl r22)]) rfl rfl rfl rfl rfl rfl rfl rfl rfl rfl rfl rfl rfl h (fun s23 h => ?_)
          refine w_aload (p' := 78) rfl rfl rfl rfl ?_
          refine w_getR (p' := 81) rfl rfl rfl rfl rfl ?_
          refine w_iload (p' := 83) rfl rfl rfl rfl ?_
          refine w_aload (p' := 84) rfl rfl rfl rfl ?_
          refine w_getR (p' := 87) rfl rfl rfl rfl rfl ?_
          refine w_iload (p' := 89) rfl rfl rfl rfl ?_
          refine v_callI (M' := 224) (p' := 92) (rest := [(.inl r20), (.inr (.inr (.inl (some 71))))]) (as := [(.inr (.inr (.inl (some 77)))), (.inl r20)]) rfl rfl rfl rfl rfl rfl rfl rfl rfl rfl rfl rfl rfl h (fun r25 s24 h => ?_)
          refine v_callV (M' := 225) (p' := 95) (rest := []) (as := [(.inr (.inr (.inl (some 71)))), (.inl r20), (.inl r25)]) rfl rfl rfl rfl rfl rfl rfl rfl rfl rfl rfl rfl rfl h (fun s26 h => ?_)
          refine w_goto (p' := 144) rfl rfl ?_
          refine w_iinc (p' := 147) (ls' := [some (.inr (.inr (.inl (some 64)))), some (.inr (.inr (.inl (some 44)))), none, some (.inl v3), some (.inl r20), some (.inl (v5 + 1)), some (.inl r4)]) rfl rfl rfl (Nat.le_of_ble_eq_true rfl) h.1 rfl ?_
          have h := h.2
          refine w_goto (p' := 8) rfl rfl ?_
          exact w_cut (q_le_s (q_le_s (q_le_n (q_le_s (q_le_s (q_le_s (q_le_n q_le_z))))))) h
      · have h := h.2 e
        refine w_iload (p' := 44) rfl rfl rfl rfl ?_
        refine w_istore (p' := 46) (ls' := [some (.inr (.inr (.inl (some 64)))), some (.inr (.inr (.inl (some 44)))), none, some (.inl v3), some (.inl v3), some (.inl v5), some (.inl r4)]) rfl rfl rfl (Nat.le_of_ble_eq_true rfl) rfl ?_
        refine w_goto (p' := 65) rfl rfl ?_
        refine w_aload (p' := 66) rfl rfl rfl rfl ?_
        refine w_iload (p' := 68) rfl rfl rfl rfl ?_
        refine w_aload (p' := 69) rfl rfl rfl rfl ?_
        refine w_iload (p' := 71) rfl rfl rfl rfl ?_
        refine v_callI (M' := 178) (p' := 74) (rest := [(.inl v3), (.inr (.inr (.inl (some 64))))]) (as := [(.inr (.inr (.inl (some 44)))), (.inl v5)]) rfl rfl rfl rfl rfl rfl rfl rfl rfl rfl rfl rfl rfl h (fun r28 s27 h => ?_)
        refine v_callV (M' := 248) (p' := 77) (rest := []) (as := [(.inr (.inr (.inl (some 64)))), (.inl v3), (.inl r28)]) rfl rfl rfl rfl rfl rfl rfl rfl rfl rfl rfl rfl rfl h (fun s29 h => ?_)
        refine w_aload (p' := 78) rfl rfl rfl rfl ?_
        refine w_getR (p' := 81) rfl rfl rfl rfl rfl ?_
        refine w_iload (p' := 83) rfl rfl rfl rfl ?_
        refine w_aload (p' := 84) rfl rfl rfl rfl ?_
        refine w_getR (p' := 87) rfl rfl rfl rfl rfl ?_
        refine w_iload (p' := 89) rfl rfl rfl rfl ?_
        refine v_callI (M' := 224) (p' := 92) (rest := [(.inl v3), (.inr (.inr (.inl (some 71))))]) (as := [(.inr (.inr (.inl (some 77)))), (.inl v3)]) rfl rfl rfl rfl rfl rfl rfl rfl rfl rfl rfl rfl rfl h (fun r31 s30 h => ?_)
        refine v_callV (M' := 225) (p' := 95) (rest := []) (as := [(.inr (.inr (.inl (some 71)))), (.inl v3), (.inl r31)]) rfl rfl rfl rfl rfl rfl rfl rfl rfl rfl rfl rfl rfl h (fun s32 h => ?_)
        refine w_goto (p' := 144) rfl rfl ?_
        refine w_iinc (p' := 147) (ls' := [some (.inr (.inr (.inl (some 64)))), some (.inr (.inr (.inl (some 44)))), none, some (.inl v3), some (.inl v3), some (.inl (v5 + 1)), some (.inl r4)]) rfl rfl rfl (Nat.le_of_ble_eq_true rfl) h.1 rfl ?_
        have h := h.2
        refine w_goto (p' := 8) rfl rfl ?_
        exact w_cut (q_le_s (q_le_s (q_le_n (q_le_s (q_le_s (q_le_s (q_le_n q_le_z))))))) h
set_option maxRecDepth 20000 in
theorem sg_Tree_size {X : Nat × (Nat → Int32)}  {s : qM} {K : Int → qM → Prop} (h : c_Row_size X 65 s (fun r2 s1 => K r2 s1)) : c_Tree_size X  s K := by
  unfold c_Tree_size
  refine w_aload (p' := 1) rfl rfl rfl rfl ?_
  refine w_getR (p' := 4) rfl rfl rfl rfl rfl ?_
  refine v_callI (M' := 223) (p' := 7) (rest := []) (as := [(.inr (.inr (.inl (some 65))))]) rfl rfl rfl rfl rfl rfl rfl rfl rfl rfl rfl rfl rfl h (fun r2 s1 h => ?_)
  exact w_iret rfl trivial ⟨rfl, _, rfl, h⟩
set_option maxRecDepth 20000 in
theorem sg_Tree_kindOf {X : Nat × (Nat → Int32)} {x1 : Int} {s : qM} {K : Int → qM → Prop} (h : c_Row_at X 65 x1 s (fun r2 s1 => K r2 s1)) : c_Tree_kindOf X x1 s K := by
  unfold c_Tree_kindOf
  refine w_aload (p' := 1) rfl rfl rfl rfl ?_
  refine w_getR (p' := 4) rfl rfl rfl rfl rfl ?_
  refine w_iload (p' := 5) rfl rfl rfl rfl ?_
  refine v_callI (M' := 224) (p' := 8) (rest := []) (as := [(.inr (.inr (.inl (some 65)))), (.inl x1)]) rfl rfl rfl rfl rfl rfl rfl rfl rfl rfl rfl rfl rfl h (fun r2 s1 h => ?_)
  exact w_iret rfl trivial ⟨rfl, _, rfl, h⟩
set_option maxRecDepth 20000 in
theorem sg_Tree_parentOf {X : Nat × (Nat → Int32)} {x1 : Int} {s : qM} {K : Int → qM → Prop} (h : c_Row_at X 67 x1 s (fun r2 s1 => K r2 s1)) : c_Tree_parentOf X x1 s K := by
  unfold c_Tree_parentOf
  refine w_aload (p' := 1) rfl rfl rfl rfl ?_
  refine w_getR (p' := 4) rfl rfl rfl rfl rfl ?_
  refine w_iload (p' := 5) rfl rfl rfl rfl ?_
  refine v_callI (M' := 224) (p' := 8) (rest := []) (as := [(.inr (.inr (.inl (some 67)))), (.inl x1)]) rfl rfl rfl rfl rfl rfl rfl rfl rfl rfl rfl rfl rfl h (fun r2 s1 h => ?_)
  exact w_iret rfl trivial ⟨rfl, _, rfl, h⟩
set_option maxRecDepth 20000 in
theorem sg_Tree_childrenOf {X : Nat × (Nat → Int32)} {x1 : Int} {s : qM} {K : Int → qM → Prop} (h : c_Row_at X 69 x1 s (fun r2 s1 => K r2 s1)) : c_Tree_childrenOf X x1 s K := by
  unfold c_Tree_childrenOf
  refine w_aload (p' := 1) rfl rfl rfl rfl ?_
  refine w_getR (p' := 4) rfl rfl rfl rfl rfl ?_
  refine w_iload (p' := 5) rfl rfl rfl rfl ?_
  refine v_callI (M' := 224) (p' := 8) (rest := []) (as := [(.inr (.inr (.inl (some 69)))), (.inl x1)]) rfl rfl rfl rfl rfl rfl rfl rfl rfl rfl rfl rfl rfl h (fun r2 s1 h => ?_)
  exact w_iret rfl trivial ⟨rfl, _, rfl, h⟩
set_option maxRecDepth 20000 in
theorem sg_Tree_measureOf {X : Nat × (Nat → Int32)} {x1 : Int} {s : qM} {K : Int → qM → Prop} (h : c_Row_at X 71 x1 s (fun r2 s1 => K r2 s1)) : c_Tree_measureOf X x1 s K := by
  unfold c_Tree_measureOf
  refine w_aload (p' := 1) rfl rfl rfl rfl ?_
  refine w_getR (p' := 4) rfl rfl rfl rfl rfl ?_
  refine w_iload (p' := 5) rfl rfl rfl rfl ?_
  refine v_callI (M' := 224) (p' := 8) (rest := []) (as := [(.inr (.inr (.inl (some 71)))), (.inl x1)]) rfl rfl rfl rfl rfl rfl rfl rfl rfl rfl rfl rfl rfl h (fun r2 s1 h => ?_)
  exact w_iret rfl trivial ⟨rfl, _, rfl, h⟩
set_option maxRecDepth 20000 in
theorem sg_Tree_signOf {X : Nat × (Nat → Int32)} {x1 : Int} {s : qM} {K : Int → qM → Prop} (h : c_Row_at X 73 x1 s (fun r2 s1 => K r2 s1)) : c_Tree_signOf X x1 s K := by
  unfold c_Tree_signOf
  refine w_aload (p' := 1) rfl rfl rfl rfl ?_
  refine w_getR (p' := 4) rfl rfl rfl rfl rfl ?_
  refine w_iload (p' := 5) rfl rfl rfl rfl ?_
  refine v_callI (M' := 224) (p' := 8) (rest := []) (as := [(.inr (.inr (.inl (some 73)))), (.inl x1)]) rfl rfl rfl rfl rfl rfl rfl rfl rfl rfl rfl rfl rfl h (fun r2 s1 h => ?_)
  exact w_iret rfl trivial ⟨rfl, _, rfl, h⟩
set_option maxRecDepth 20000 in
theorem sg_Tree_numberOf {X : Nat × (Nat → Int32)} {x1 : Int} {s : qM} {K : Int → qM → Prop} (h : c_Row_at X 81 x1 s (fun r2 s1 => K r2 s1)) : c_Tree_numberOf X x1 s K := by
  unfold c_Tree_numberOf
  refine w_aload (p' := 1) rfl rfl rfl rfl ?_
  refine w_getR (p' := 4) rfl rfl rfl rfl rfl ?_
  refine w_iload (p' := 5) rfl rfl rfl rfl ?_
  refine v_callI (M' := 224) (p' := 8) (rest := []) (as := [(.inr (.inr (.inl (some 81)))), (.inl x1)]) rfl rfl rfl rfl rfl rfl rfl rfl rfl rfl rfl rfl rfl h (fun r2 s1 h => ?_)
  exact w_iret rfl trivial ⟨rfl, _, rfl, h⟩
set_option maxRecDepth 20000 in
theorem sg_Tree_childOf {X : Nat × (Nat → Int32)} {x1 : Int} {x2 : Int} {s : qM} {K : Int → qM → Prop} (h : (-2147483648 ≤ (x1 + 1) ∧ (x1 + 1) < 2147483648) ∧ L_Tree_childOf_7 X x1 x2 0 (x1 + 1) s K) : c_Tree_childOf X x1 x2 s K := by
  unfold c_Tree_childOf
  refine w_const (p' := 1) rfl rfl rfl ?_
  refine w_istore (p' := 2) (ls' := [some (.inr (.inr (.inl (some 64)))), some (.inl x1), some (.inl x2), some (.inl 0), none]) rfl rfl rfl (Nat.le_of_ble_eq_true rfl) rfl ?_
  refine w_iload (p' := 3) rfl rfl rfl rfl ?_
  refine w_const (p' := 4) rfl rfl rfl ?_
  refine w_add (p' := 5) rfl rfl h.1 ?_
  have h := h.2
  refine w_istore (p' := 7) (ls' := [some (.inr (.inr (.inl (some 64)))), some (.inl x1), some (.inl x2), some (.inl 0), some (.inl (x1 + 1))]) rfl rfl rfl (Nat.le_of_ble_eq_true rfl) rfl ?_
  exact w_cut (q_le_s (q_le_s (q_le_s (q_le_s (q_le_s q_le_z))))) h
set_option maxRecDepth 20000 in
theorem sg_Tree_childOf_7 {X : Nat × (Nat → Int32)}  {v1 v2 v3 v4 : Int} {s : qM} {K : Int → qM → Prop} (h : c_Row_size X 67 s (fun r2 s1 => (((r2 ≤ v4) → K (-1) s1) ∧ (¬ (r2 ≤ v4) → c_Row_at X 67 v4 s1 (fun r4 s3 => (((r4 ≠ v1) → (-2147483648 ≤ (v4 + 1) ∧ (v4 + 1) < 2147483648) ∧ L_Tree_childOf_7 X v1 v2 v3 (v4 + 1) s3 K) ∧ (¬ (r4 ≠ v1) → (((v3 ≠ v2) → (-2147483648 ≤ (v3 + 1) ∧ (v3 + 1) < 2147483648) ∧ (-2147483648 ≤ (v4 + 1) ∧ (v4 + 1) < 2147483648) ∧ L_Tree_childOf_7 X v1 v2 (v3 + 1) (v4 + 1) s3 K) ∧ (¬ (v3 ≠ v2) → K v4 s3))))))))) : L_Tree_childOf_7 X v1 v2 v3 v4 s K := by
  unfold L_Tree_childOf_7
  refine w_iload (p' := 9) rfl rfl rfl rfl ?_
  refine w_aload (p' := 10) rfl rfl rfl rfl ?_
  refine w_getR (p' := 13) rfl rfl rfl rfl rfl ?_
  refine v_callI (M' := 223) (p' := 16) (rest := [(.inl v4)]) (as := [(.inr (.inr (.inl (some 67))))]) rfl rfl rfl rfl rfl rfl rfl rfl rfl rfl rfl rfl rfl h (fun r2 s1 h => ?_)
  refine w_icmp (t := 49) (e := 19) rfl rfl rfl (fun e => ?_) (fun e => ?_)
  · have h := h.1 e
    refine w_const (p' := 50) rfl rfl rfl ?_
    exact w_iret rfl trivial ⟨rfl, _, rfl, h⟩
  · have h := h.2 e
    refine w_aload (p' := 20) rfl rfl rfl rfl ?_
    refine w_getR (p' := 23) rfl rfl rfl rfl rfl ?_
    refine w_iload (p' := 25) rfl rfl rfl rfl ?_
    refine v_callI (M' := 224) (p' := 28) (rest := []) (as := [(.inr (.inr (.inl (some 67)))), (.inl v4)]) rfl rfl rfl rfl rfl rfl rfl rfl rfl rfl rfl rfl rfl h (fun r4 s3 h => ?_)
    refine w_iload (p' := 29) rfl rfl rfl rfl ?_
    refine w_icmp (t := 43) (e := 32) rfl rfl rfl (fun e => ?_) (fun e => ?_)
    · have h := h.1 e
      refine w_iinc (p' := 46) (ls' := [some (.inr (.inr (.inl (some 64)))), some (.inl v1), some (.inl v2), some (.inl v3), some (.inl (v4 + 1))]) rfl rfl rfl (Nat.le_of_ble_eq_true rfl) h.1 rfl ?_
      have h := h.2
      refine w_goto (p' := 7) rfl rfl ?_
      exact w_cut (q_le_s (q_le_s (q_le_s (q_le_s (q_le_s q_le_z))))) h
    · have h := h.2 e
      refine w_iload (p' := 33) rfl rfl rfl rfl ?_
      refine w_iload (p' := 34) rfl rfl rfl rfl ?_
      refine w_icmp (t := 40) (e := 37) rfl rfl rfl (fun e => ?_) (fun e => ?_)
      · have h := h.1 e
        refine w_iinc (p' := 43) (ls' := [some (.inr (.inr (.inl (some 64)))), some (.inl v1), some (.inl v2), some (.inl (v3 + 1)), some (.inl v4)]) rfl rfl rfl (Nat.le_of_ble_eq_true rfl) h.1 rfl ?_
        have h := h.2
        refine w_iinc (p' := 46) (ls' := [some (.inr (.inr (.inl (some 64)))), some (.inl v1), some (.inl v2), some (.inl (v3 + 1)), some (.inl (v4 + 1))]) rfl rfl rfl (Nat.le_of_ble_eq_true rfl) h.1 rfl ?_
        have h := h.2
        refine w_goto (p' := 7) rfl rfl ?_
        exact w_cut (q_le_s (q_le_s (q_le_s (q_le_s (q_le_s q_le_z))))) h
      · have h := h.2 e
        refine w_iload (p' := 39) rfl rfl rfl rfl ?_
        exact w_iret rfl trivial ⟨rfl, _, rfl, h⟩
set_option maxRecDepth 20000 in
theorem sg_Tree_manyOf {X : Nat × (Nat → Int32)} {x1 : Int} {s : qM} {K : Int → qM → Prop} (h : L_Tree_manyOf_4 X x1 0 0 s K) : c_Tree_manyOf X x1 s K := by
  unfold c_Tree_manyOf
  refine w_const (p' := 1) rfl rfl rfl ?_
  refine w_istore (p' := 2) (ls' := [some (.inr (.inr (.inl (some 64)))), some (.inl x1), some (.inl 0), none]) rfl rfl rfl (Nat.le_of_ble_eq_true rfl) rfl ?_
  refine w_const (p' := 3) rfl rfl rfl ?_
  refine w_istore (p' := 4) (ls' := [some (.inr (.inr (.inl (some 64)))), some (.inl x1), some (.inl 0), some (.inl 0)]) rfl rfl rfl (Nat.le_of_ble_eq_true rfl) rfl ?_
  exact w_cut (q_le_s (q_le_s (q_le_s (q_le_s q_le_z)))) h
set_option maxRecDepth 20000 in
theorem sg_Tree_manyOf_4 {X : Nat × (Nat → Int32)}  {v1 v2 v3 : Int} {s : qM} {K : Int → qM → Prop} (h : c_Row_size X 65 s (fun r2 s1 => (((r2 ≤ v3) → K v2 s1) ∧ (¬ (r2 ≤ v3) → c_Row_at X 65 v3 s1 (fun r4 s3 => (((r4 ≠ v1) → (-2147483648 ≤ (v3 + 1) ∧ (v3 + 1) < 2147483648) ∧ L_Tree_manyOf_4 X v1 v2 (v3 + 1) s3 K) ∧ (¬ (r4 ≠ v1) → (-2147483648 ≤ (v2 + 1) ∧ (v2 + 1) < 2147483648) ∧ (-2147483648 ≤ (v3 + 1) ∧ (v3 + 1) < 2147483648) ∧ L_Tree_manyOf_4 X v1 (v2 + 1) (v3 + 1) s3 K))))))) : L_Tree_manyOf_4 X v1 v2 v3 s K := by
  unfold L_Tree_manyOf_4
  refine w_iload (p' := 5) rfl rfl rfl rfl ?_
  refine w_aload (p' := 6) rfl rfl rfl rfl ?_
  refine w_getR (p' := 9) rfl rfl rfl rfl rfl ?_
  refine v_callI (M' := 223) (p' := 12) (rest := [(.inl v3)]) (as := [(.inr (.inr (.inl (some 65))))]) rfl rfl rfl rfl rfl rfl rfl rfl rfl rfl rfl rfl rfl h (fun r2 s1 h => ?_)
  refine w_icmp (t := 36) (e := 15) rfl rfl rfl (fun e => ?_) (fun e => ?_)
  · have h := h.1 e
    refine w_iload (p' := 37) rfl rfl rfl rfl ?_
    exact w_iret rfl trivial ⟨rfl, _, rfl, h⟩
  · have h := h.2 e
    refine w_aload (p' := 16) rfl rfl rfl rfl ?_
    refine w_getR (p' := 19) rfl rfl rfl rfl rfl ?_
    refine w_iload (p' := 20) rfl rfl rfl rfl ?_
    refine v_callI (M' := 224) (p' := 23) (rest := []) (as := [(.inr (.inr (.inl (some 65)))), (.inl v3)]) rfl rfl rfl rfl rfl rfl rfl rfl rfl rfl rfl rfl rfl h (fun r4 s3 h => ?_)
    refine w_iload (p' := 24) rfl rfl rfl rfl ?_
    refine w_icmp (t := 30) (e := 27) rfl rfl rfl (fun e => ?_) (fun e => ?_)
    · have h := h.1 e
      refine w_iinc (p' := 33) (ls' := [some (.inr (.inr (.inl (some 64)))), some (.inl v1), some (.inl v2), some (.inl (v3 + 1))]) rfl rfl rfl (Nat.le_of_ble_eq_true rfl) h.1 rfl ?_
      have h := h.2
      refine w_goto (p' := 4) rfl rfl ?_
      exact w_cut (q_le_s (q_le_s (q_le_s (q_le_s q_le_z)))) h
    · have h := h.2 e
      refine w_iinc (p' := 30) (ls' := [some (.inr (.inr (.inl (some 64)))), some (.inl v1), some (.inl (v2 + 1)), some (.inl v3)]) rfl rfl rfl (Nat.le_of_ble_eq_true rfl) h.1 rfl ?_
      have h := h.2
      refine w_iinc (p' := 33) (ls' := [some (.inr (.inr (.inl (some 64)))), some (.inl v1), some (.inl (v2 + 1)), some (.inl (v3 + 1))]) rfl rfl rfl (Nat.le_of_ble_eq_true rfl) h.1 rfl ?_
      have h := h.2
      refine w_goto (p' := 4) rfl rfl ?_
      exact w_cut (q_le_s (q_le_s (q_le_s (q_le_s q_le_z)))) h
set_option maxRecDepth 20000 in
theorem sg_Tree_contentSizeOf {X : Nat × (Nat → Int32)} {x1 : Int} {s : qM} {K : Int → qM → Prop} (h : c_Row_at X 77 x1 s (fun r2 s1 => K r2 s1)) : c_Tree_contentSizeOf X x1 s K := by
  unfold c_Tree_contentSizeOf
  refine w_aload (p' := 1) rfl rfl rfl rfl ?_
  refine w_getR (p' := 4) rfl rfl rfl rfl rfl ?_
  refine w_iload (p' := 5) rfl rfl rfl rfl ?_
  refine v_callI (M' := 224) (p' := 8) (rest := []) (as := [(.inr (.inr (.inl (some 77)))), (.inl x1)]) rfl rfl rfl rfl rfl rfl rfl rfl rfl rfl rfl rfl rfl h (fun r2 s1 h => ?_)
  exact w_iret rfl trivial ⟨rfl, _, rfl, h⟩
set_option maxRecDepth 20000 in
theorem sg_Tree_contentOf {X : Nat × (Nat → Int32)} {x1 : Int} {x2 : Int} {s : qM} {K : Int → qM → Prop} (h : c_Row_at X 75 x1 s (fun r2 s1 => (-2147483648 ≤ (r2 + x2) ∧ (r2 + x2) < 2147483648) ∧ c_Row_at X 79 (r2 + x2) s1 (fun r4 s3 => K r4 s3))) : c_Tree_contentOf X x1 x2 s K := by
  unfold c_Tree_contentOf
  refine w_aload (p' := 1) rfl rfl rfl rfl ?_
  refine w_getR (p' := 4) rfl rfl rfl rfl rfl ?_
  refine w_aload (p' := 5) rfl rfl rfl rfl ?_
  refine w_getR (p' := 8) rfl rfl rfl rfl rfl ?_
  refine w_iload (p' := 9) rfl rfl rfl rfl ?_
  refine v_callI (M' := 224) (p' := 12) (rest := [(.inr (.inr (.inl (some 79))))]) (as := [(.inr (.inr (.inl (some 75)))), (.inl x1)]) rfl rfl rfl rfl rfl rfl rfl rfl rfl rfl rfl rfl rfl h (fun r2 s1 h => ?_)
  refine w_iload (p' := 13) rfl rfl rfl rfl ?_
  refine w_add (p' := 14) rfl rfl h.1 ?_
  have h := h.2
  refine v_callI (M' := 224) (p' := 17) (rest := []) (as := [(.inr (.inr (.inl (some 79)))), (.inl (r2 + x2))]) rfl rfl rfl rfl rfl rfl rfl rfl rfl rfl rfl rfl rfl h (fun r4 s3 h => ?_)
  exact w_iret rfl trivial ⟨rfl, _, rfl, h⟩
