/-! Segments, by program (wip/tools/seg.py). -/
set_option maxRecDepth 20000 in
theorem sg_Lines_isSame {X : Nat × (Nat → Int32)} {th : Nat} {x1 : Int} {x2 : Nat} {x3 : Int} {s : qM} {K : Int → qM → Prop} {th_t : Nat} {th_b : Nat} {th_e : Nat} (hth : q_isLines th th_t th_b th_e) {x2_t : Nat} {x2_b : Nat} {x2_e : Nat} (hx2 : q_isLines x2 x2_t x2_b x2_e) (h : c_Row_at X th_b x1 s (fun r2 s1 => c_Lines_begin X x2 x3 s1 (fun r4 s3 => c_Row_at X th_e x1 s3 (fun r6 s5 => (-2147483648 ≤ (r6 - r2) ∧ (r6 - r2) < 2147483648) ∧ c_Lines_end X x2 x3 s5 (fun r8 s7 => (-2147483648 ≤ (r8 - r4) ∧ (r8 - r4) < 2147483648) ∧ ((((r8 - r4) = (r6 - r2)) → L_Lines_isSame_48 X th x2 r2 r4 (r6 - r2) 0 s7 K) ∧ (¬ ((r8 - r4) = (r6 - r2)) → K 0 s7))))))) : c_Lines_isSame X th x1 x2 x3 s K := by
  unfold c_Lines_isSame
  refine w_aload (p' := 1) rfl rfl rfl rfl ?_
  refine w_getR (p' := 4) rfl rfl rfl hth.tag hth.ref_begins ?_
  refine w_iload (p' := 5) rfl rfl rfl rfl ?_
  refine v_callI (M' := 224) (p' := 8) (rest := []) (as := [(.inr (.inr (.inl (some th_b)))), (.inl x1)]) rfl rfl rfl rfl rfl rfl rfl rfl rfl rfl rfl hth.begins.tag rfl h (fun r2 s1 h => ?_)
  refine w_istore (p' := 10) (ls' := [some (.inr (.inr (.inl (some th)))), some (.inl x1), some (.inr (.inr (.inl (some x2)))), some (.inl x3), some (.inl r2), none, none, none]) rfl rfl rfl (Nat.le_of_ble_eq_true rfl) rfl ?_
  refine w_aload (p' := 11) rfl rfl rfl rfl ?_
  refine w_iload (p' := 12) rfl rfl rfl rfl ?_
  refine v_callI (M' := 193) (p' := 15) (rest := []) (as := [(.inr (.inr (.inl (some x2)))), (.inl x3)]) rfl rfl rfl rfl rfl rfl rfl rfl rfl rfl rfl hx2.tag rfl h (fun r4 s3 h => ?_)
  refine w_istore (p' := 17) (ls' := [some (.inr (.inr (.inl (some th)))), some (.inl x1), some (.inr (.inr (.inl (some x2)))), some (.inl x3), some (.inl r2), some (.inl r4), none, none]) rfl rfl rfl (Nat.le_of_ble_eq_true rfl) rfl ?_
  refine w_aload (p' := 18) rfl rfl rfl rfl ?_
  refine w_getR (p' := 21) rfl rfl rfl hth.tag hth.ref_ends ?_
  refine w_iload (p' := 22) rfl rfl rfl rfl ?_
  refine v_callI (M' := 224) (p' := 25) (rest := []) (as := [(.inr (.inr (.inl (some th_e)))), (.inl x1)]) rfl rfl rfl rfl rfl rfl rfl rfl rfl rfl rfl hth.ends.tag rfl h (fun r6 s5 h => ?_)
  refine w_iload (p' := 27) rfl rfl rfl rfl ?_
  refine w_sub (p' := 28) rfl rfl h.1 ?_
  have h := h.2
  refine w_istore (p' := 30) (ls' := [some (.inr (.inr (.inl (some th)))), some (.inl x1), some (.inr (.inr (.inl (some x2)))), some (.inl x3), some (.inl r2), some (.inl r4), some (.inl (r6 - r2)), none]) rfl rfl rfl (Nat.le_of_ble_eq_true rfl) rfl ?_
  refine w_aload (p' := 31) rfl rfl rfl rfl ?_
  refine w_iload (p' := 32) rfl rfl rfl rfl ?_
  refine v_callI (M' := 194) (p' := 35) (rest := []) (as := [(.inr (.inr (.inl (some x2)))), (.inl x3)]) rfl rfl rfl rfl rfl rfl rfl rfl rfl rfl rfl hx2.tag rfl h (fun r8 s7 h => ?_)
  refine w_iload (p' := 37) rfl rfl rfl rfl ?_
  refine w_sub (p' := 38) rfl rfl h.1 ?_
  have h := h.2
  refine w_iload (p' := 40) rfl rfl rfl rfl ?_
  refine w_icmp (t := 45) (e := 43) rfl rfl rfl (fun e => ?_) (fun e => ?_)
  · have h := h.1 e
    refine w_const (p' := 46) rfl rfl rfl ?_
    refine w_istore (p' := 48) (ls' := [some (.inr (.inr (.inl (some th)))), some (.inl x1), some (.inr (.inr (.inl (some x2)))), some (.inl x3), some (.inl r2), some (.inl r4), some (.inl (r6 - r2)), some (.inl 0)]) rfl rfl rfl (Nat.le_of_ble_eq_true rfl) rfl ?_
    exact w_cut (q_le_s (q_le_n (q_le_s (q_le_n (q_le_s (q_le_s (q_le_s (q_le_s q_le_z)))))))) h
  · have h := h.2 e
    refine w_const (p' := 44) rfl rfl rfl ?_
    exact w_iret rfl ⟨by decide, by decide⟩ ⟨rfl, _, rfl, h⟩
set_option maxRecDepth 20000 in
theorem sg_Lines_isSame_48 {X : Nat × (Nat → Int32)} {th : Nat} {x2 : Nat} {v4 v5 v6 v7 : Int} {s : qM} {K : Int → qM → Prop} {th_t : Nat} {th_b : Nat} {th_e : Nat} (hth : q_isLines th th_t th_b th_e) {x2_t : Nat} {x2_b : Nat} {x2_e : Nat} (hx2 : q_isLines x2 x2_t x2_b x2_e) (h : (((v6 ≤ v7) → K 1 s) ∧ (¬ (v6 ≤ v7) → (-2147483648 ≤ (v4 + v7) ∧ (v4 + v7) < 2147483648) ∧ c_Row_at X th_t (v4 + v7) s (fun r2 s1 => (-2147483648 ≤ (v5 + v7) ∧ (v5 + v7) < 2147483648) ∧ c_Lines_characterAt X x2 (v5 + v7) s1 (fun r4 s3 => (((r2 = r4) → (-2147483648 ≤ (v7 + 1) ∧ (v7 + 1) < 2147483648) ∧ L_Lines_isSame_48 X th x2 v4 v5 v6 (v7 + 1) s3 K) ∧ (¬ (r2 = r4) → K 0 s3))))))) : L_Lines_isSame_48 X th x2 v4 v5 v6 v7 s K := by
  unfold L_Lines_isSame_48
  refine w_iload (p' := 50) rfl rfl rfl rfl ?_
  refine w_iload (p' := 52) rfl rfl rfl rfl ?_
  refine w_icmp (t := 87) (e := 55) rfl rfl rfl (fun e => ?_) (fun e => ?_)
  · have h := h.1 e
    refine w_const (p' := 88) rfl rfl rfl ?_
    exact w_iret rfl ⟨by decide, by decide⟩ ⟨rfl, _, rfl, h⟩
  · have h := h.2 e
    refine w_aload (p' := 56) rfl rfl rfl rfl ?_
    refine w_getR (p' := 59) rfl rfl rfl hth.tag hth.ref_text ?_
    refine w_iload (p' := 61) rfl rfl rfl rfl ?_
    refine w_iload (p' := 63) rfl rfl rfl rfl ?_
    refine w_add (p' := 64) rfl rfl h.1 ?_
    have h := h.2
    refine v_callI (M' := 224) (p' := 67) (rest := []) (as := [(.inr (.inr (.inl (some th_t)))), (.inl (v4 + v7))]) rfl rfl rfl rfl rfl rfl rfl rfl rfl rfl rfl hth.text.tag rfl h (fun r2 s1 h => ?_)
    refine w_aload (p' := 68) rfl rfl rfl rfl ?_
    refine w_iload (p' := 70) rfl rfl rfl rfl ?_
    refine w_iload (p' := 72) rfl rfl rfl rfl ?_
    refine w_add (p' := 73) rfl rfl h.1 ?_
    have h := h.2
    refine v_callI (M' := 195) (p' := 76) (rest := [(.inl r2)]) (as := [(.inr (.inr (.inl (some x2)))), (.inl (v5 + v7))]) rfl rfl rfl rfl rfl rfl rfl rfl rfl rfl rfl hx2.tag rfl h (fun r4 s3 h => ?_)
    refine w_icmp (t := 81) (e := 79) rfl rfl rfl (fun e => ?_) (fun e => ?_)
    · have h := h.1 e
      refine w_iinc (p' := 84) (ls' := [some (.inr (.inr (.inl (some th)))), none, some (.inr (.inr (.inl (some x2)))), none, some (.inl v4), some (.inl v5), some (.inl v6), some (.inl (v7 + 1))]) rfl rfl rfl (Nat.le_of_ble_eq_true rfl) h.1 rfl ?_
      have h := h.2
      refine w_goto (p' := 48) rfl rfl ?_
      exact w_cut (q_le_s (q_le_n (q_le_s (q_le_n (q_le_s (q_le_s (q_le_s (q_le_s q_le_z)))))))) h
    · have h := h.2 e
      refine w_const (p' := 80) rfl rfl rfl ?_
      exact w_iret rfl ⟨by decide, by decide⟩ ⟨rfl, _, rfl, h⟩
set_option maxRecDepth 20000 in
theorem sg_Merger_merged {X : Nat × (Nat → Int32)}  {s : qM} {K : Nat → qM → Prop} (h : K 111 s) : c_Merger_merged X  s K := by
  unfold c_Merger_merged
  refine w_aload (p' := 1) rfl rfl rfl rfl ?_
  refine w_getR (p' := 4) rfl rfl rfl rfl rfl ?_
  exact w_aret rfl ⟨rfl, _, rfl, h⟩
set_option maxRecDepth 20000 in
theorem sg_Merger_mergedSize {X : Nat × (Nat → Int32)}  {s : qM} {K : Int → qM → Prop} (h : K (s 90 8) s) : c_Merger_mergedSize X  s K := by
  unfold c_Merger_mergedSize
  refine w_aload (p' := 1) rfl rfl rfl rfl ?_
  refine w_getI (p' := 4) (j := 8) rfl rfl (by decide) rfl rfl ?_
  exact w_iret rfl trivial ⟨rfl, _, rfl, h⟩
set_option maxRecDepth 20000 in
theorem sg_Merger_conflicts {X : Nat × (Nat → Int32)}  {s : qM} {K : Int → qM → Prop} (h : K (s 90 9) s) : c_Merger_conflicts X  s K := by
  unfold c_Merger_conflicts
  refine w_aload (p' := 1) rfl rfl rfl rfl ?_
  refine w_getI (p' := 4) (j := 9) rfl rfl (by decide) rfl rfl ?_
  exact w_iret rfl trivial ⟨rfl, _, rfl, h⟩
set_option maxRecDepth 20000 in
theorem sg_Merger_run {X : Nat × (Nat → Int32)}  {s : qM} {K : qM → Prop} (h : c_Lines_split X 91 s (fun s1 => c_Lines_split X 7 s1 (fun s2 => c_Lines_split X 96 s2 (fun s3 => c_Pairing_pair X 91 7 107 s3 (fun s4 => c_Pairing_pair X 91 96 109 s4 (fun s5 => c_Row_empty X 111 s5 (fun s6 => (∀ s7 : qM, s7 = q_up s6 90 7 0 → (∀ s8 : qM, s8 = q_up s7 90 8 0 → (∀ s9 : qM, s9 = q_up s8 90 9 0 → c_Merger_startBehind X (-1) (-1) (-1) s9 (fun s10 => L_Merger_run_90 X 0 s10 K))))))))))) : c_Merger_run X  s K := by
  unfold c_Merger_run
  refine w_aload (p' := 1) rfl rfl rfl rfl ?_
  refine w_getR (p' := 4) rfl rfl rfl rfl rfl ?_
  refine v_callV (M' := 191) (p' := 7) (rest := []) (as := [(.inr (.inr (.inl (some 91))))]) rfl rfl rfl rfl rfl rfl rfl rfl rfl rfl rfl rfl rfl h (fun s1 h => ?_)
  refine w_aload (p' := 8) rfl rfl rfl rfl ?_
  refine w_getR (p' := 11) rfl rfl rfl rfl rfl ?_
  refine v_callV (M' := 191) (p' := 14) (rest := []) (as := [(.inr (.inr (.inl (some 7))))]) rfl rfl rfl rfl rfl rfl rfl rfl rfl rfl rfl rfl rfl h (fun s2 h => ?_)
  refine w_aload (p' := 15) rfl rfl rfl rfl ?_
  refine w_getR (p' := 18) rfl rfl rfl rfl rfl ?_
  refine v_callV (M' := 191) (p' := 21) (rest := []) (as := [(.inr (.inr (.inl (some 96))))]) rfl rfl rfl rfl rfl rfl rfl rfl rfl rfl rfl rfl rfl h (fun s3 h => ?_)
  refine w_aload (p' := 22) rfl rfl rfl rfl ?_
  refine w_getR (p' := 25) rfl rfl rfl rfl rfl ?_
  refine w_aload (p' := 26) rfl rfl rfl rfl ?_
  refine w_getR (p' := 29) rfl rfl rfl rfl rfl ?_
  refine w_aload (p' := 30) rfl rfl rfl rfl ?_
  refine w_getR (p' := 33) rfl rfl rfl rfl rfl ?_
  refine w_aload (p' := 34) rfl rfl rfl rfl ?_
  refine w_getR (p' := 37) rfl rfl rfl rfl rfl ?_
  refine v_callV (M' := 212) (p' := 40) (rest := []) (as := [(.inr (.inr (.inl (some 101)))), (.inr (.inr (.inl (some 91)))), (.inr (.inr (.inl (some 7)))), (.inr (.inr (.inl (some 107))))]) rfl rfl rfl rfl rfl rfl rfl rfl rfl rfl rfl rfl rfl h (fun s4 h => ?_)
  refine w_aload (p' := 41) rfl rfl rfl rfl ?_
  refine w_getR (p' := 44) rfl rfl rfl rfl rfl ?_
  refine w_aload (p' := 45) rfl rfl rfl rfl ?_
  refine w_getR (p' := 48) rfl rfl rfl rfl rfl ?_
  refine w_aload (p' := 49) rfl rfl rfl rfl ?_
  refine w_getR (p' := 52) rfl rfl rfl rfl rfl ?_
  refine w_aload (p' := 53) rfl rfl rfl rfl ?_
  refine w_getR (p' := 56) rfl rfl rfl rfl rfl ?_
  refine v_callV (M' := 212) (p' := 59) (rest := []) (as := [(.inr (.inr (.inl (some 101)))), (.inr (.inr (.inl (some 91)))), (.inr (.inr (.inl (some 96)))), (.inr (.inr (.inl (some 109))))]) rfl rfl rfl rfl rfl rfl rfl rfl rfl rfl rfl rfl rfl h (fun s5 h => ?_)
  refine w_aload (p' := 60) rfl rfl rfl rfl ?_
  refine w_getR (p' := 63) rfl rfl rfl rfl rfl ?_
  refine v_callV (M' := 227) (p' := 66) (rest := []) (as := [(.inr (.inr (.inl (some 111))))]) rfl rfl rfl rfl rfl rfl rfl rfl rfl rfl rfl rfl rfl h (fun s6 h => ?_)
  refine w_aload (p' := 67) rfl rfl rfl rfl ?_
  refine w_const (p' := 68) rfl rfl rfl ?_
  refine v_putI (p' := 71) (j := 7) rfl rfl (by decide) rfl rfl trivial ?_
  intro s7 es7
  have h := h s7 es7
  refine w_aload (p' := 72) rfl rfl rfl rfl ?_
  refine w_const (p' := 73) rfl rfl rfl ?_
  refine v_putI (p' := 76) (j := 8) rfl rfl (by decide) rfl rfl trivial ?_
  intro s8 es8
  have h := h s8 es8
  refine w_aload (p' := 77) rfl rfl rfl rfl ?_
  refine w_const (p' := 78) rfl rfl rfl ?_
  refine v_putI (p' := 81) (j := 9) rfl rfl (by decide) rfl rfl trivial ?_
  intro s9 es9
  have h := h s9 es9
  refine w_aload (p' := 82) rfl rfl rfl rfl ?_
  refine w_const (p' := 83) rfl rfl rfl ?_
  refine w_const (p' := 84) rfl rfl rfl ?_
  refine w_const (p' := 85) rfl rfl rfl ?_
  refine v_callV (M' := 202) (p' := 88) (rest := []) (as := [(.inr (.inr (.inl (some 90)))), (.inl (-1)), (.inl (-1)), (.inl (-1))]) rfl rfl rfl rfl rfl rfl rfl rfl rfl rfl rfl rfl rfl h (fun s10 h => ?_)
  refine w_const (p' := 89) rfl rfl rfl ?_
  refine w_istore (p' := 90) (ls' := [some (.inr (.inr (.inl (some 90)))), some (.inl 0), none, none]) rfl rfl rfl (Nat.le_of_ble_eq_true rfl) rfl ?_
  exact w_cut (q_le_s (q_le_s (q_le_n (q_le_n q_le_z)))) h
set_option maxRecDepth 20000 in
theorem sg_Merger_run_90 {X : Nat × (Nat → Int32)}  {v1 : Int} {s : qM} {K : qM → Prop} (h : c_Lines_many X 91 s (fun r2 s1 => (((r2 ≤ v1) → c_Lines_many X 91 s1 (fun r4 s3 => c_Lines_many X 7 s3 (fun r6 s5 => c_Lines_many X 96 s5 (fun r8 s7 => c_Merger_settle X r4 r6 r8 s7 (fun s9 => K s9))))) ∧ (¬ (r2 ≤ v1) → c_Row_at X 107 v1 s1 (fun r11 s10 => c_Row_at X 109 v1 s10 (fun r13 s12 => (((r11 = (-1)) → (-2147483648 ≤ (v1 + 1) ∧ (v1 + 1) < 2147483648) ∧ L_Merger_run_90 X (v1 + 1) s12 K) ∧ (¬ (r11 = (-1)) → (((r13 = (-1)) → (-2147483648 ≤ (v1 + 1) ∧ (v1 + 1) < 2147483648) ∧ L_Merger_run_90 X (v1 + 1) s12 K) ∧ (¬ (r13 = (-1)) → c_Merger_settle X v1 r11 r13 s12 (fun s14 => (-2147483648 ≤ (v1 + 1) ∧ (v1 + 1) < 2147483648) ∧ c_Merger_write X 91 v1 (v1 + 1) s14 (fun s15 => c_Merger_startBehind X v1 r11 r13 s15 (fun s16 => (-2147483648 ≤ (v1 + 1) ∧ (v1 + 1) < 2147483648) ∧ L_Merger_run_90 X (v1 + 1) s16 K))))))))))))) : L_Merger_run_90 X v1 s K := by
  unfold L_Merger_run_90
  refine w_iload (p' := 91) rfl rfl rfl rfl ?_
  refine w_aload (p' := 92) rfl rfl rfl rfl ?_
  refine w_getR (p' := 95) rfl rfl rfl rfl rfl ?_
  refine v_callI (M' := 192) (p' := 98) (rest := [(.inl v1)]) (as := [(.inr (.inr (.inl (some 91))))]) rfl rfl rfl rfl rfl rfl rfl rfl rfl rfl rfl rfl rfl h (fun r2 s1 h => ?_)
  refine w_icmp (t := 161) (e := 101) rfl rfl rfl (fun e => ?_) (fun e => ?_)
  · have h := h.1 e
    refine w_aload (p' := 162) rfl rfl rfl rfl ?_
    refine w_aload (p' := 163) rfl rfl rfl rfl ?_
    refine w_getR (p' := 166) rfl rfl rfl rfl rfl ?_
    refine v_callI (M' := 192) (p' := 169) (rest := [(.inr (.inr (.inl (some 90))))]) (as := [(.inr (.inr (.inl (some 91))))]) rfl rfl rfl rfl rfl rfl rfl rfl rfl rfl rfl rfl rfl h (fun r4 s3 h => ?_)
    refine w_aload (p' := 170) rfl rfl rfl rfl ?_
    refine w_getR (p' := 173) rfl rfl rfl rfl rfl ?_
    refine v_callI (M' := 192) (p' := 176) (rest := [(.inl r4), (.inr (.inr (.inl (some 90))))]) (as := [(.inr (.inr (.inl (some 7))))]) rfl rfl rfl rfl rfl rfl rfl rfl rfl rfl rfl rfl rfl h (fun r6 s5 h => ?_)
    refine w_aload (p' := 177) rfl rfl rfl rfl ?_
    refine w_getR (p' := 180) rfl rfl rfl rfl rfl ?_
    refine v_callI (M' := 192) (p' := 183) (rest := [(.inl r6), (.inl r4), (.inr (.inr (.inl (some 90))))]) (as := [(.inr (.inr (.inl (some 96))))]) rfl rfl rfl rfl rfl rfl rfl rfl rfl rfl rfl rfl rfl h (fun r8 s7 h => ?_)
    refine v_callV (M' := 203) (p' := 186) (rest := []) (as := [(.inr (.inr (.inl (some 90)))), (.inl r4), (.inl r6), (.inl r8)]) rfl rfl rfl rfl rfl rfl rfl rfl rfl rfl rfl rfl rfl h (fun s9 h => ?_)
    exact w_vret rfl ⟨rfl, rfl, h⟩
  · have h := h.2 e
    refine w_aload (p' := 102) rfl rfl rfl rfl ?_
    refine w_getR (p' := 105) rfl rfl rfl rfl rfl ?_
    refine w_iload (p' := 106) rfl rfl rfl rfl ?_
    refine v_callI (M' := 224) (p' := 109) (rest := []) (as := [(.inr (.inr (.inl (some 107)))), (.inl v1)]) rfl rfl rfl rfl rfl rfl rfl rfl rfl rfl rfl rfl rfl h (fun r11 s10 h => ?_)
    refine w_istore (p' := 110) (ls' := [some (.inr (.inr (.inl (some 90)))), some (.inl v1), some (.inl r11), none]) rfl rfl rfl (Nat.le_of_ble_eq_true rfl) rfl ?_
    refine w_aload (p' := 111) rfl rfl rfl rfl ?_
    refine w_getR (p' := 114) rfl rfl rfl rfl rfl ?_
    refine w_iload (p' := 115) rfl rfl rfl rfl ?_
    refine v_callI (M' := 224) (p' := 118) (rest := []) (as := [(.inr (.inr (.inl (some 109)))), (.inl v1)]) rfl rfl rfl rfl rfl rfl rfl rfl rfl rfl rfl rfl rfl h (fun r13 s12 h => ?_)
    refine w_istore (p' := 119) (ls' := [some (.inr (.inr (.inl (some 90)))), some (.inl v1), some (.inl r11), some (.inl r13)]) rfl rfl rfl (Nat.le_of_ble_eq_true rfl) rfl ?_
    refine w_iload (p' := 120) rfl rfl rfl rfl ?_
    refine w_const (p' := 121) rfl rfl rfl ?_
    refine w_icmp (t := 155) (e := 124) rfl rfl rfl (fun e => ?_) (fun e => ?_)
    · have h := h.1 e
      refine w_iinc (p' := 158) (ls' := [some (.inr (.inr (.inl (some 90)))), some (.inl (v1 + 1)), some (.inl r11), some (.inl r13)]) rfl rfl rfl (Nat.le_of_ble_eq_true rfl) h.1 rfl ?_
      have h := h.2
      refine w_goto (p' := 90) rfl rfl ?_
      exact w_cut (q_le_s (q_le_s (q_le_n (q_le_n q_le_z)))) h
    · have h := h.2 e
      refine w_iload (p' := 125) rfl rfl rfl rfl ?_
      refine w_const (p' := 126) rfl rfl rfl ?_
      refine w_icmp (t := 155) (e := 129) rfl rfl rfl (fun e => ?_) (fun e => ?_)
      · have h := h.1 e
        refine w_iinc (p' := 158) (ls' := [some (.inr (.inr (.inl (some 90)))), some (.inl (v1 + 1)), some (.inl r11), some (.inl r13)]) rfl rfl rfl (Nat.le_of_ble_eq_true rfl) h.1 rfl ?_
        have h := h.2
        refine w_goto (p' := 90) rfl rfl ?_
        exact w_cut (q_le_s (q_le_s (q_le_n (q_le_n q_le_z)))) h
      · have h := h.2 e
        refine w_aload (p' := 130) rfl rfl rfl rfl ?_
        refine w_iload (p' := 131) rfl rfl rfl rfl ?_
        refine w_iload (p' := 132) rfl rfl rfl rfl ?_
        refine w_iload (p' := 133) rfl rfl rfl rfl ?_
        refine v_callV (M' := 203) (p' := 136) (rest := []) (as := [(.inr (.inr (.inl (some 90)))), (.inl v1), (.inl r11), (.inl r13)]) rfl rfl rfl rfl rfl rfl rfl rfl rfl rfl rfl rfl rfl h (fun s14 h => ?_)
        refine w_aload (p' := 137) rfl rfl rfl rfl ?_
        refine w_aload (p' := 138) rfl rfl rfl rfl ?_
        refine w_getR (p' := 141) rfl rfl rfl rfl rfl ?_
        refine w_iload (p' := 142) rfl rfl rfl rfl ?_
        refine w_iload (p' := 143) rfl rfl rfl rfl ?_
        refine w_const (p' := 144) rfl rfl rfl ?_
        refine w_add (p' := 145) rfl rfl h.1 ?_
        have h := h.2
        refine v_callV (M' := 205) (p' := 148) (rest := []) (as := [(.inr (.inr (.inl (some 90)))), (.inr (.inr (.inl (some 91)))), (.inl v1), (.inl (v1 + 1))]) rfl rfl rfl rfl rfl rfl rfl rfl rfl rfl rfl rfl rfl h (fun s15 h => ?_)
        refine w_aload (p' := 149) rfl rfl rfl rfl ?_
        refine w_iload (p' := 150) rfl rfl rfl rfl ?_
        refine w_iload (p' := 151) rfl rfl rfl rfl ?_
        refine w_iload (p' := 152) rfl rfl rfl rfl ?_
        refine v_callV (M' := 202) (p' := 155) (rest := []) (as := [(.inr (.inr (.inl (some 90)))), (.inl v1), (.inl r11), (.inl r13)]) rfl rfl rfl rfl rfl rfl rfl rfl rfl rfl rfl rfl rfl h (fun s16 h => ?_)
        refine w_iinc (p' := 158) (ls' := [some (.inr (.inr (.inl (some 90)))), some (.inl (v1 + 1)), some (.inl r11), some (.inl r13)]) rfl rfl rfl (Nat.le_of_ble_eq_true rfl) h.1 rfl ?_
        have h := h.2
        refine w_goto (p' := 90) rfl rfl ?_
        exact w_cut (q_le_s (q_le_s (q_le_n (q_le_n q_le_z)))) h
set_option maxRecDepth 20000 in
theorem sg_Merger_startBehind {X : Nat × (Nat → Int32)} {x1 : Int} {x2 : Int} {x3 : Int} {s : qM} {K : qM → Prop} (h : (-2147483648 ≤ (x1 + 1) ∧ (x1 + 1) < 2147483648) ∧ (∀ s1 : qM, s1 = q_up s 90 10 (x1 + 1) → (-2147483648 ≤ (x2 + 1) ∧ (x2 + 1) < 2147483648) ∧ (∀ s2 : qM, s2 = q_up s1 90 11 (x2 + 1) → (-2147483648 ≤ (x3 + 1) ∧ (x3 + 1) < 2147483648) ∧ (∀ s3 : qM, s3 = q_up s2 90 12 (x3 + 1) → K s3)))) : c_Merger_startBehind X x1 x2 x3 s K := by
  unfold c_Merger_startBehind
  refine w_aload (p' := 1) rfl rfl rfl rfl ?_
  refine w_iload (p' := 2) rfl rfl rfl rfl ?_
  refine w_const (p' := 3) rfl rfl rfl ?_
  refine w_add (p' := 4) rfl rfl h.1 ?_
  have h := h.2
  refine v_putI (p' := 7) (j := 10) rfl rfl (by decide) rfl rfl trivial ?_
  intro s1 es1
  have h := h s1 es1
  refine w_aload (p' := 8) rfl rfl rfl rfl ?_
  refine w_iload (p' := 9) rfl rfl rfl rfl ?_
  refine w_const (p' := 10) rfl rfl rfl ?_
  refine w_add (p' := 11) rfl rfl h.1 ?_
  have h := h.2
  refine v_putI (p' := 14) (j := 11) rfl rfl (by decide) rfl rfl trivial ?_
  intro s2 es2
  have h := h s2 es2
  refine w_aload (p' := 15) rfl rfl rfl rfl ?_
  refine w_iload (p' := 16) rfl rfl rfl rfl ?_
  refine w_const (p' := 17) rfl rfl rfl ?_
  refine w_add (p' := 18) rfl rfl h.1 ?_
  have h := h.2
  refine v_putI (p' := 21) (j := 12) rfl rfl (by decide) rfl rfl trivial ?_
  intro s3 es3
  have h := h s3 es3
  exact w_vret rfl ⟨rfl, rfl, h⟩
set_option maxRecDepth 20000 in
theorem sg_Merger_settle {X : Nat × (Nat → Int32)} {x1 : Int} {x2 : Int} {x3 : Int} {s : qM} {K : qM → Prop} (h : c_Merger_areSame X 7 (s 90 11) x2 91 (s 90 10) x1 s (fun r2 s1 => (((r2 = 0) → c_Merger_areSame X 96 (s1 90 12) x3 91 (s1 90 10) x1 s1 (fun r4 s3 => (((r4 ≠ 0) → c_Merger_write X 7 (s3 90 11) x2 s3 (fun s5 => K s5)) ∧ (¬ (r4 ≠ 0) → c_Merger_areSame X 96 (s3 90 12) x3 7 (s3 90 11) x2 s3 (fun r7 s6 => (((r7 = 0) → (-2147483648 ≤ ((s6 90 9) + 1) ∧ ((s6 90 9) + 1) < 2147483648) ∧ (∀ s8 : qM, s8 = q_up s6 90 9 ((s6 90 9) + 1) → K s8)) ∧ (¬ (r7 = 0) → c_Merger_write X 7 (s6 90 11) x2 s6 (fun s9 => K s9)))))))) ∧ (¬ (r2 = 0) → c_Merger_write X 96 (s1 90 12) x3 s1 (fun s10 => K s10))))) : c_Merger_settle X x1 x2 x3 s K := by
  unfold c_Merger_settle
  refine w_aload (p' := 1) rfl rfl rfl rfl ?_
  refine w_aload (p' := 2) rfl rfl rfl rfl ?_
  refine w_getR (p' := 5) rfl rfl rfl rfl rfl ?_
  refine w_aload (p' := 6) rfl rfl rfl rfl ?_
  refine w_getI (p' := 9) (j := 11) rfl rfl (by decide) rfl rfl ?_
  refine w_iload (p' := 10) rfl rfl rfl rfl ?_
  refine w_aload (p' := 11) rfl rfl rfl rfl ?_
  refine w_getR (p' := 14) rfl rfl rfl rfl rfl ?_
  refine w_aload (p' := 15) rfl rfl rfl rfl ?_
  refine w_getI (p' := 18) (j := 10) rfl rfl (by decide) rfl rfl ?_
  refine w_iload (p' := 19) rfl rfl rfl rfl ?_
  refine v_callI (M' := 204) (p' := 22) (rest := []) (as := [(.inr (.inr (.inl (some 90)))), (.inr (.inr (.inl (some 7)))), (.inl (s 90 11)), (.inl x2), (.inr (.inr (.inl (some 91)))), (.inl (s 90 10)), (.inl x1)]) rfl rfl rfl rfl rfl rfl rfl rfl rfl rfl rfl rfl rfl h (fun r2 s1 h => ?_)
  refine w_if (t := 41) (e := 25) rfl rfl rfl (fun e => ?_) (fun e => ?_)
  · have h := h.1 e
    refine w_aload (p' := 42) rfl rfl rfl rfl ?_
    refine w_aload (p' := 43) rfl rfl rfl rfl ?_
    refine w_getR (p' := 46) rfl rfl rfl rfl rfl ?_
    refine w_aload (p' := 47) rfl rfl rfl rfl ?_
    refine w_getI (p' := 50) (j := 12) rfl rfl (by decide) rfl rfl ?_
    refine w_iload (p' := 51) rfl rfl rfl rfl ?_
    refine w_aload (p' := 52) rfl rfl rfl rfl ?_
    refine w_getR (p' := 55) rfl rfl rfl rfl rfl ?_
    refine w_aload (p' := 56) rfl rfl rfl rfl ?_
    refine w_getI (p' := 59) (j := 10) rfl rfl (by decide) rfl rfl ?_
    refine w_iload (p' := 60) rfl rfl rfl rfl ?_
    refine v_callI (M' := 204) (p' := 63) (rest := []) (as := [(.inr (.inr (.inl (some 90)))), (.inr (.inr (.inl (some 96)))), (.inl (s1 90 12)), (.inl x3), (.inr (.inr (.inl (some 91)))), (.inl (s1 90 10)), (.inl x1)]) rfl rfl rfl rfl rfl rfl rfl rfl rfl rfl rfl rfl rfl h (fun r4 s3 h => ?_)
    refine w_if (t := 91) (e := 66) rfl rfl rfl (fun e => ?_) (fun e => ?_)
    · have h := h.1 e
      refine w_aload (p' := 92) rfl rfl rfl rfl ?_
      refine w_aload (p' := 93) rfl rfl rfl rfl ?_
      refine w_getR (p' := 96) rfl rfl rfl rfl rfl ?_
      refine w_aload (p' := 97) rfl rfl rfl rfl ?_
      refine w_getI (p' := 100) (j := 11) rfl rfl (by decide) rfl rfl ?_
      refine w_iload (p' := 101) rfl rfl rfl rfl ?_
      refine v_callV (M' := 205) (p' := 104) (rest := []) (as := [(.inr (.inr (.inl (some 90)))), (.inr (.inr (.inl (some 7)))), (.inl (s3 90 11)), (.inl x2)]) rfl rfl rfl rfl rfl rfl rfl rfl rfl rfl rfl rfl rfl h (fun s5 h => ?_)
      refine w_goto (p' := 117) rfl rfl ?_
      exact w_vret rfl ⟨rfl, rfl, h⟩
    · have h := h.2 e
      refine w_aload (p' := 67) rfl rfl rfl rfl ?_
      refine w_aload (p' := 68) rfl rfl rfl rfl ?_
      refine w_getR (p' := 71) rfl rfl rfl rfl rfl ?_
      refine w_aload (p' := 72) rfl rfl rfl rfl ?_
      refine w_getI (p' := 75) (j := 12) rfl rfl (by decide) rfl rfl ?_
      refine w_iload (p' := 76) rfl rfl rfl rfl ?_
      refine w_aload (p' := 77) rfl rfl rfl rfl ?_
      refine w_getR (p' := 80) rfl rfl rfl rfl rfl ?_
      refine w_aload (p' := 81) rfl rfl rfl rfl ?_
      refine w_getI (p' := 84) (j := 11) rfl rfl (by decide) rfl rfl ?_
      refine w_iload (p' := 85) rfl rfl rfl rfl ?_
      refine v_callI (M' := 204) (p' := 88) (rest := []) (as := [(.inr (.inr (.inl (some 90)))), (.inr (.inr (.inl (some 96)))), (.inl (s3 90 12)), (.inl x3), (.inr (.inr (.inl (some 7)))), (.inl (s3 90 11)), (.inl x2)]) rfl rfl rfl rfl rfl rfl rfl rfl rfl rfl rfl rfl rfl h (fun r7 s6 h => ?_)
      refine w_if (t := 107) (e := 91) rfl rfl rfl (fun e => ?_) (fun e => ?_)
      · have h := h.1 e
        refine w_aload (p' := 108) rfl rfl rfl rfl ?_
        refine w_dup (p' := 109) rfl rfl rfl ?_
        refine w_getI (p' := 112) (j := 9) rfl rfl (by decide) rfl rfl ?_
        refine w_const (p' := 113) rfl rfl rfl ?_
        refine w_add (p' := 114) rfl rfl h.1 ?_
        have h := h.2
        refine v_putI (p' := 117) (j := 9) rfl rfl (by decide) rfl rfl trivial ?_
        intro s8 es8
        have h := h s8 es8
        exact w_vret rfl ⟨rfl, rfl, h⟩
      · have h := h.2 e
        refine w_aload (p' := 92) rfl rfl rfl rfl ?_
        refine w_aload (p' := 93) rfl rfl rfl rfl ?_
        refine w_getR (p' := 96) rfl rfl rfl rfl rfl ?_
        refine w_aload (p' := 97) rfl rfl rfl rfl ?_
        refine w_getI (p' := 100) (j := 11) rfl rfl (by decide) rfl rfl ?_
        refine w_iload (p' := 101) rfl rfl rfl rfl ?_
        refine v_callV (M' := 205) (p' := 104) (rest := []) (as := [(.inr (.inr (.inl (some 90)))), (.inr (.inr (.inl (some 7)))), (.inl (s6 90 11)), (.inl x2)]) rfl rfl rfl rfl rfl rfl rfl rfl rfl rfl rfl rfl rfl h (fun s9 h => ?_)
        refine w_goto (p' := 117) rfl rfl ?_
        exact w_vret rfl ⟨rfl, rfl, h⟩
  · have h := h.2 e
    refine w_aload (p' := 26) rfl rfl rfl rfl ?_
    refine w_aload (p' := 27) rfl rfl rfl rfl ?_
    refine w_getR (p' := 30) rfl rfl rfl rfl rfl ?_
    refine w_aload (p' := 31) rfl rfl rfl rfl ?_
    refine w_getI (p' := 34) (j := 12) rfl rfl (by decide) rfl rfl ?_
    refine w_iload (p' := 35) rfl rfl rfl rfl ?_
    refine v_callV (M' := 205) (p' := 38) (rest := []) (as := [(.inr (.inr (.inl (some 90)))), (.inr (.inr (.inl (some 96)))), (.inl (s1 90 12)), (.inl x3)]) rfl rfl rfl rfl rfl rfl rfl rfl rfl rfl rfl rfl rfl h (fun s10 h => ?_)
    refine w_goto (p' := 117) rfl rfl ?_
    exact w_vret rfl ⟨rfl, rfl, h⟩
set_option maxRecDepth 20000 in
theorem sg_Merger_areSame {X : Nat × (Nat → Int32)} {x1 : Nat} {x2 : Int} {x3 : Int} {x4 : Nat} {x5 : Int} {x6 : Int} {s : qM} {K : Int → qM → Prop} {x1_t : Nat} {x1_b : Nat} {x1_e : Nat} (hx1 : q_isLines x1 x1_t x1_b x1_e) {x4_t : Nat} {x4_b : Nat} {x4_e : Nat} (hx4 : q_isLines x4 x4_t x4_b x4_e) (h : (-2147483648 ≤ (x3 - x2) ∧ (x3 - x2) < 2147483648) ∧ (-2147483648 ≤ (x6 - x5) ∧ (x6 - x5) < 2147483648) ∧ ((((x3 - x2) = (x6 - x5)) → L_Merger_areSame_16 X x1 x4 x2 x3 x5 0 s K) ∧ (¬ ((x3 - x2) = (x6 - x5)) → K 0 s))) : c_Merger_areSame X x1 x2 x3 x4 x5 x6 s K := by
  unfold c_Merger_areSame
  refine w_iload (p' := 1) rfl rfl rfl rfl ?_
  refine w_iload (p' := 2) rfl rfl rfl rfl ?_
  refine w_sub (p' := 3) rfl rfl h.1 ?_
  have h := h.2
  refine w_iload (p' := 5) rfl rfl rfl rfl ?_
  refine w_iload (p' := 7) rfl rfl rfl rfl ?_
  refine w_sub (p' := 8) rfl rfl h.1 ?_
  have h := h.2
  refine w_icmp (t := 13) (e := 11) rfl rfl rfl (fun e => ?_) (fun e => ?_)
  · have h := h.1 e
    refine w_const (p' := 14) rfl rfl rfl ?_
    refine w_istore (p' := 16) (ls' := [some (.inr (.inr (.inl (some 90)))), some (.inr (.inr (.inl (some x1)))), some (.inl x2), some (.inl x3), some (.inr (.inr (.inl (some x4)))), some (.inl x5), some (.inl x6), some (.inl 0)]) rfl rfl rfl (Nat.le_of_ble_eq_true rfl) rfl ?_
    exact w_cut (q_le_n (q_le_s (q_le_s (q_le_s (q_le_s (q_le_s (q_le_n (q_le_s q_le_z)))))))) h
  · have h := h.2 e
    refine w_const (p' := 12) rfl rfl rfl ?_
    exact w_iret rfl ⟨by decide, by decide⟩ ⟨rfl, _, rfl, h⟩
set_option maxRecDepth 20000 in
theorem sg_Merger_areSame_16 {X : Nat × (Nat → Int32)} {x1 : Nat} {x4 : Nat} {v2 v3 v5 v7 : Int} {s : qM} {K : Int → qM → Prop} {x1_t : Nat} {x1_b : Nat} {x1_e : Nat} (hx1 : q_isLines x1 x1_t x1_b x1_e) {x4_t : Nat} {x4_b : Nat} {x4_e : Nat} (hx4 : q_isLines x4 x4_t x4_b x4_e) (h : (-2147483648 ≤ (v3 - v2) ∧ (v3 - v2) < 2147483648) ∧ ((((v3 - v2) ≤ v7) → K 1 s) ∧ (¬ ((v3 - v2) ≤ v7) → (-2147483648 ≤ (v2 + v7) ∧ (v2 + v7) < 2147483648) ∧ (-2147483648 ≤ (v5 + v7) ∧ (v5 + v7) < 2147483648) ∧ c_Lines_isSame X x1 (v2 + v7) x4 (v5 + v7) s (fun r2 s1 => (((r2 ≠ 0) → (-2147483648 ≤ (v7 + 1) ∧ (v7 + 1) < 2147483648) ∧ L_Merger_areSame_16 X x1 x4 v2 v3 v5 (v7 + 1) s1 K) ∧ (¬ (r2 ≠ 0) → K 0 s1)))))) : L_Merger_areSame_16 X x1 x4 v2 v3 v5 v7 s K := by
  unfold L_Merger_areSame_16
  refine w_iload (p' := 18) rfl rfl rfl rfl ?_
  refine w_iload (p' := 19) rfl rfl rfl rfl ?_
  refine w_iload (p' := 20) rfl rfl rfl rfl ?_
  refine w_sub (p' := 21) rfl rfl h.1 ?_
  have h := h.2
  refine w_icmp (t := 50) (e := 24) rfl rfl rfl (fun e => ?_) (fun e => ?_)
  · have h := h.1 e
    refine w_const (p' := 51) rfl rfl rfl ?_
    exact w_iret rfl ⟨by decide, by decide⟩ ⟨rfl, _, rfl, h⟩
  · have h := h.2 e
    refine w_aload (p' := 25) rfl rfl rfl rfl ?_
    refine w_iload (p' := 26) rfl rfl rfl rfl ?_
    refine w_iload (p' := 28) rfl rfl rfl rfl ?_
    refine w_add (p' := 29) rfl rfl h.1 ?_
    have h := h.2
    refine w_aload (p' := 31) rfl rfl rfl rfl ?_
    refine w_iload (p' := 33) rfl rfl rfl rfl ?_
    refine w_iload (p' := 35) rfl rfl rfl rfl ?_
    refine w_add (p' := 36) rfl rfl h.1 ?_
    have h := h.2
    refine v_callI (M' := 196) (p' := 39) (rest := []) (as := [(.inr (.inr (.inl (some x1)))), (.inl (v2 + v7)), (.inr (.inr (.inl (some x4)))), (.inl (v5 + v7))]) rfl rfl rfl rfl rfl rfl rfl rfl rfl rfl rfl hx1.tag rfl h (fun r2 s1 h => ?_)
    refine w_if (t := 44) (e := 42) rfl rfl rfl (fun e => ?_) (fun e => ?_)
    · have h := h.1 e
      refine w_iinc (p' := 47) (ls' := [none, some (.inr (.inr (.inl (some x1)))), some (.inl v2), some (.inl v3), some (.inr (.inr (.inl (some x4)))), some (.inl v5), none, some (.inl (v7 + 1))]) rfl rfl rfl (Nat.le_of_ble_eq_true rfl) h.1 rfl ?_
      have h := h.2
      refine w_goto (p' := 16) rfl rfl ?_
      exact w_cut (q_le_n (q_le_s (q_le_s (q_le_s (q_le_s (q_le_s (q_le_n (q_le_s q_le_z)))))))) h
    · have h := h.2 e
      refine w_const (p' := 43) rfl rfl rfl ?_
      exact w_iret rfl ⟨by decide, by decide⟩ ⟨rfl, _, rfl, h⟩
set_option maxRecDepth 20000 in
theorem sg_Merger_write {X : Nat × (Nat → Int32)} {x1 : Nat} {x2 : Int} {x3 : Int} {s : qM} {K : qM → Prop} {x1_t : Nat} {x1_b : Nat} {x1_e : Nat} (hx1 : q_isLines x1 x1_t x1_b x1_e) (h : L_Merger_write_3 X x1 x3 x2 s K) : c_Merger_write X x1 x2 x3 s K := by
  unfold c_Merger_write
  refine w_iload (p' := 1) rfl rfl rfl rfl ?_
  refine w_istore (p' := 3) (ls' := [some (.inr (.inr (.inl (some 90)))), some (.inr (.inr (.inl (some x1)))), some (.inl x2), some (.inl x3), some (.inl x2), none]) rfl rfl rfl (Nat.le_of_ble_eq_true rfl) rfl ?_
  exact w_cut (q_le_s (q_le_s (q_le_n (q_le_s (q_le_s (q_le_n q_le_z)))))) h
set_option maxRecDepth 20000 in
theorem sg_Merger_write_3 {X : Nat × (Nat → Int32)} {x1 : Nat} {v3 v4 : Int} {s : qM} {K : qM → Prop} {x1_t : Nat} {x1_b : Nat} {x1_e : Nat} (hx1 : q_isLines x1 x1_t x1_b x1_e) (h : (((v3 ≤ v4) → K s) ∧ (¬ (v3 ≤ v4) → ((((s 90 7) ≤ 0) → c_Lines_begin X x1 v4 s (fun r2 s1 => L_Merger_write_43 X x1 v3 v4 r2 s1 K)) ∧ (¬ ((s 90 7) ≤ 0) → c_Row_add X 111 10 s (fun s3 => (-2147483648 ≤ ((s3 90 8) + 1) ∧ ((s3 90 8) + 1) < 2147483648) ∧ (∀ s4 : qM, s4 = q_up s3 90 8 ((s3 90 8) + 1) → c_Lines_begin X x1 v4 s4 (fun r6 s5 => L_Merger_write_43 X x1 v3 v4 r6 s5 K)))))))) : L_Merger_write_3 X x1 v3 v4 s K := by
  unfold L_Merger_write_3
  refine w_iload (p' := 5) rfl rfl rfl rfl ?_
  refine w_iload (p' := 6) rfl rfl rfl rfl ?_
  refine w_icmp (t := 99) (e := 9) rfl rfl rfl (fun e => ?_) (fun e => ?_)
  · have h := h.1 e
    exact w_vret rfl ⟨rfl, rfl, h⟩
  · have h := h.2 e
    refine w_aload (p' := 10) rfl rfl rfl rfl ?_
    refine w_getI (p' := 13) (j := 7) rfl rfl (by decide) rfl rfl ?_
    refine w_if (t := 35) (e := 16) rfl rfl rfl (fun e => ?_) (fun e => ?_)
    · have h := h.1 e
      refine w_aload (p' := 36) rfl rfl rfl rfl ?_
      refine w_iload (p' := 38) rfl rfl rfl rfl ?_
      refine v_callI (M' := 193) (p' := 41) (rest := []) (as := [(.inr (.inr (.inl (some x1)))), (.inl v4)]) rfl rfl rfl rfl rfl rfl rfl rfl rfl rfl rfl hx1.tag rfl h (fun r2 s1 h => ?_)
      refine w_istore (p' := 43) (ls' := [some (.inr (.inr (.inl (some 90)))), some (.inr (.inr (.inl (some x1)))), none, some (.inl v3), some (.inl v4), some (.inl r2)]) rfl rfl rfl (Nat.le_of_ble_eq_true rfl) rfl ?_
      exact w_cut (q_le_s (q_le_s (q_le_n (q_le_s (q_le_s (q_le_s q_le_z)))))) h
    · have h := h.2 e
      refine w_aload (p' := 17) rfl rfl rfl rfl ?_
      refine w_getR (p' := 20) rfl rfl rfl rfl rfl ?_
      refine w_const (p' := 22) rfl rfl rfl ?_
      refine v_callV (M' := 226) (p' := 25) (rest := []) (as := [(.inr (.inr (.inl (some 111)))), (.inl 10)]) rfl rfl rfl rfl rfl rfl rfl rfl rfl rfl rfl rfl rfl h (fun s3 h => ?_)
      refine w_aload (p' := 26) rfl rfl rfl rfl ?_
      refine w_dup (p' := 27) rfl rfl rfl ?_
      refine w_getI (p' := 30) (j := 8) rfl rfl (by decide) rfl rfl ?_
      refine w_const (p' := 31) rfl rfl rfl ?_
      refine w_add (p' := 32) rfl rfl h.1 ?_
      have h := h.2
      refine v_putI (p' := 35) (j := 8) rfl rfl (by decide) rfl rfl trivial ?_
      intro s4 es4
      have h := h s4 es4
      refine w_aload (p' := 36) rfl rfl rfl rfl ?_
      refine w_iload (p' := 38) rfl rfl rfl rfl ?_
      refine v_callI (M' := 193) (p' := 41) (rest := []) (as := [(.inr (.inr (.inl (some x1)))), (.inl v4)]) rfl rfl rfl rfl rfl rfl rfl rfl rfl rfl rfl hx1.tag rfl h (fun r6 s5 h => ?_)
      refine w_istore (p' := 43) (ls' := [some (.inr (.inr (.inl (some 90)))), some (.inr (.inr (.inl (some x1)))), none, some (.inl v3), some (.inl v4), some (.inl r6)]) rfl rfl rfl (Nat.le_of_ble_eq_true rfl) rfl ?_
      exact w_cut (q_le_s (q_le_s (q_le_n (q_le_s (q_le_s (q_le_s q_le_z)))))) h
set_option maxRecDepth 20000 in
theorem sg_Merger_write_43 {X : Nat × (Nat → Int32)} {x1 : Nat} {v3 v4 v5 : Int} {s : qM} {K : qM → Prop} {x1_t : Nat} {x1_b : Nat} {x1_e : Nat} (hx1 : q_isLines x1 x1_t x1_b x1_e) (h : c_Lines_end X x1 v4 s (fun r2 s1 => (((r2 ≤ v5) → (-2147483648 ≤ ((s1 90 7) + 1) ∧ ((s1 90 7) + 1) < 2147483648) ∧ (∀ s3 : qM, s3 = q_up s1 90 7 ((s1 90 7) + 1) → (-2147483648 ≤ (v4 + 1) ∧ (v4 + 1) < 2147483648) ∧ L_Merger_write_3 X x1 v3 (v4 + 1) s3 K)) ∧ (¬ (r2 ≤ v5) → c_Lines_characterAt X x1 v5 s1 (fun r5 s4 => c_Row_add X 111 r5 s4 (fun s6 => (-2147483648 ≤ ((s6 90 8) + 1) ∧ ((s6 90 8) + 1) < 2147483648) ∧ (∀ s7 : qM, s7 = q_up s6 90 8 ((s6 90 8) + 1) → (-2147483648 ≤ (v5 + 1) ∧ (v5 + 1) < 2147483648) ∧ L_Merger_write_43 X x1 v3 v4 (v5 + 1) s7 K))))))) : L_Merger_write_43 X x1 v3 v4 v5 s K := by
  unfold L_Merger_write_43
  refine w_iload (p' := 45) rfl rfl rfl rfl ?_
  refine w_aload (p' := 46) rfl rfl rfl rfl ?_
  refine w_iload (p' := 48) rfl rfl rfl rfl ?_
  refine v_callI (M' := 194) (p' := 51) (rest := [(.inl v5)]) (as := [(.inr (.inr (.inl (some x1)))), (.inl v4)]) rfl rfl rfl rfl rfl rfl rfl rfl rfl rfl rfl hx1.tag rfl h (fun r2 s1 h => ?_)
  refine w_icmp (t := 83) (e := 54) rfl rfl rfl (fun e => ?_) (fun e => ?_)
  · have h := h.1 e
    refine w_aload (p' := 84) rfl rfl rfl rfl ?_
    refine w_dup (p' := 85) rfl rfl rfl ?_
    refine w_getI (p' := 88) (j := 7) rfl rfl (by decide) rfl rfl ?_
    refine w_const (p' := 89) rfl rfl rfl ?_
    refine w_add (p' := 90) rfl rfl h.1 ?_
    have h := h.2
    refine v_putI (p' := 93) (j := 7) rfl rfl (by decide) rfl rfl trivial ?_
    intro s3 es3
    have h := h s3 es3
    refine w_iinc (p' := 96) (ls' := [some (.inr (.inr (.inl (some 90)))), some (.inr (.inr (.inl (some x1)))), none, some (.inl v3), some (.inl (v4 + 1)), some (.inl v5)]) rfl rfl rfl (Nat.le_of_ble_eq_true rfl) h.1 rfl ?_
    have h := h.2
    refine w_goto (p' := 3) rfl rfl ?_
    exact w_cut (q_le_s (q_le_s (q_le_n (q_le_s (q_le_s (q_le_n q_le_z)))))) h
  · have h := h.2 e
    refine w_aload (p' := 55) rfl rfl rfl rfl ?_
    refine w_getR (p' := 58) rfl rfl rfl rfl rfl ?_
    refine w_aload (p' := 59) rfl rfl rfl rfl ?_
    refine w_iload (p' := 61) rfl rfl rfl rfl ?_
    refine v_callI (M' := 195) (p' := 64) (rest := [(.inr (.inr (.inl (some 111))))]) (as := [(.inr (.inr (.inl (some x1)))), (.inl v5)]) rfl rfl rfl rfl rfl rfl rfl rfl rfl rfl rfl hx1.tag rfl h (fun r5 s4 h => ?_)
    refine v_callV (M' := 226) (p' := 67) (rest := []) (as := [(.inr (.inr (.inl (some 111)))), (.inl r5)]) rfl rfl rfl rfl rfl rfl rfl rfl rfl rfl rfl rfl rfl h (fun s6 h => ?_)
    refine w_aload (p' := 68) rfl rfl rfl rfl ?_
    refine w_dup (p' := 69) rfl rfl rfl ?_
    refine w_getI (p' := 72) (j := 8) rfl rfl (by decide) rfl rfl ?_
    refine w_const (p' := 73) rfl rfl rfl ?_
    refine w_add (p' := 74) rfl rfl h.1 ?_
    have h := h.2
    refine v_putI (p' := 77) (j := 8) rfl rfl (by decide) rfl rfl trivial ?_
    intro s7 es7
    have h := h s7 es7
    refine w_iinc (p' := 80) (ls' := [some (.inr (.inr (.inl (some 90)))), some (.inr (.inr (.inl (some x1)))), none, some (.inl v3), some (.inl v4), some (.inl (v5 + 1))]) rfl rfl rfl (Nat.le_of_ble_eq_true rfl) h.1 rfl ?_
    have h := h.2
    refine w_goto (p' := 43) rfl rfl ?_
    exact w_cut (q_le_s (q_le_s (q_le_n (q_le_s (q_le_s (q_le_s q_le_z)))))) h
set_option maxRecDepth 20000 in
theorem sg_Names_empty {X : Nat × (Nat → Int32)} {th : Nat} {s : qM} {K : qM → Prop} {th_c : Nat} {th_n : Nat} (hth : q_isNames th th_c th_n) (h : c_Row_empty X th_n s (fun s1 => K s1)) : c_Names_empty X th s K := by
  unfold c_Names_empty
  refine w_aload (p' := 1) rfl rfl rfl rfl ?_
  refine w_getR (p' := 4) rfl rfl rfl hth.tag hth.ref_named ?_
  refine v_callV (M' := 227) (p' := 7) (rest := []) (as := [(.inr (.inr (.inl (some th_n))))]) rfl rfl rfl rfl rfl rfl rfl rfl rfl rfl rfl hth.named.tag rfl h (fun s1 h => ?_)
  exact w_vret rfl ⟨rfl, rfl, h⟩
set_option maxRecDepth 20000 in
theorem sg_Names_add {X : Nat × (Nat → Int32)} {th : Nat} {x1 : Int} {x2 : Int} {s : qM} {K : qM → Prop} {th_c : Nat} {th_n : Nat} (hth : q_isNames th th_c th_n) (h : c_Row_size X th_n s (fun r2 s1 => (((r2 < 0) → K s1) ∧ (¬ (r2 < 0) → (((241 ≤ r2) → K s1) ∧ (¬ (241 ≤ r2) → ((0 : Int) ≤ r2) ∧ (r2 < (241 : Int)) ∧ (∀ s3 : qM, s3 = q_up s1 th_c r2 x1 → c_Row_add X th_n x2 s3 (fun s4 => K s4)))))))) : c_Names_add X th x1 x2 s K := by
  unfold c_Names_add
  refine w_aload (p' := 1) rfl rfl rfl rfl ?_
  refine w_getR (p' := 4) rfl rfl rfl hth.tag hth.ref_named ?_
  refine v_callI (M' := 223) (p' := 7) (rest := []) (as := [(.inr (.inr (.inl (some th_n))))]) rfl rfl rfl rfl rfl rfl rfl rfl rfl rfl rfl hth.named.tag rfl h (fun r2 s1 h => ?_)
  refine w_istore (p' := 9) (ls' := [some (.inr (.inr (.inl (some th)))), some (.inr (.inl x1)), none, some (.inl x2), some (.inl r2)]) rfl rfl rfl (Nat.le_of_ble_eq_true rfl) rfl ?_
  refine w_iload (p' := 11) rfl rfl rfl rfl ?_
  refine w_if (t := 40) (e := 14) rfl rfl rfl (fun e => ?_) (fun e => ?_)
  · have h := h.1 e
    exact w_vret rfl ⟨rfl, rfl, h⟩
  · have h := h.2 e
    refine w_iload (p' := 16) rfl rfl rfl rfl ?_
    refine w_aload (p' := 17) rfl rfl rfl rfl ?_
    refine w_getR (p' := 20) rfl rfl rfl hth.tag hth.ref_codes ?_
    refine w_alen (p' := 21) (t := 2) (N := 241) rfl rfl hth.ctag (by decide) hth.clen (by decide) ?_
    refine w_icmp (t := 40) (e := 24) rfl rfl rfl (fun e => ?_) (fun e => ?_)
    · have h := h.1 e
      exact w_vret rfl ⟨rfl, rfl, h⟩
    · have h := h.2 e
      refine w_aload (p' := 25) rfl rfl rfl rfl ?_
      refine w_getR (p' := 28) rfl rfl rfl hth.tag hth.ref_codes ?_
      refine w_iload (p' := 30) rfl rfl rfl rfl ?_
      refine w_lload (p' := 31) rfl rfl rfl rfl ?_
      refine v_last (p' := 32) (N := 241) rfl rfl hth.ctag hth.clen h.1 h.2.1  ?_
      have h := h.2.2
      intro s3 es3
      have h := h s3 es3
      refine w_aload (p' := 33) rfl rfl rfl rfl ?_
      refine w_getR (p' := 36) rfl rfl rfl hth.tag hth.ref_named ?_
      refine w_iload (p' := 37) rfl rfl rfl rfl ?_
      refine v_callV (M' := 226) (p' := 40) (rest := []) (as := [(.inr (.inr (.inl (some th_n)))), (.inl x2)]) rfl rfl rfl rfl rfl rfl rfl rfl rfl rfl rfl hth.named.tag rfl h (fun s4 h => ?_)
      exact w_vret rfl ⟨rfl, rfl, h⟩
set_option maxRecDepth 20000 in
theorem sg_Names_find {X : Nat × (Nat → Int32)} {th : Nat} {x1 : Int} {s : qM} {K : Int → qM → Prop} {th_c : Nat} {th_n : Nat} (hth : q_isNames th th_c th_n) (h : L_Names_find_2 X th x1 0 s K) : c_Names_find X th x1 s K := by
  unfold c_Names_find
  refine w_const (p' := 1) rfl rfl rfl ?_
  refine w_istore (p' := 2) (ls' := [some (.inr (.inr (.inl (some th)))), some (.inr (.inl x1)), none, some (.inl 0)]) rfl rfl rfl (Nat.le_of_ble_eq_true rfl) rfl ?_
  exact w_cut (q_le_s (q_le_s (q_le_n (q_le_s q_le_z)))) h
set_option maxRecDepth 20000 in
theorem sg_Names_find_2 {X : Nat × (Nat → Int32)} {th : Nat} {v1 v3 : Int} {s : qM} {K : Int → qM → Prop} {th_c : Nat} {th_n : Nat} (hth : q_isNames th th_c th_n) (h : c_Row_size X th_n s (fun r2 s1 => (((r2 ≤ v3) → K (-1) s1) ∧ (¬ (r2 ≤ v3) → (((241 ≤ v3) → K (-1) s1) ∧ (¬ (241 ≤ v3) → ((0 : Int) ≤ v3) ∧ (v3 < (241 : Int)) ∧ ((((q_lcmp (s1 th_c v3) v1) ≠ 0) → (-2147483648 ≤ (v3 + 1) ∧ (v3 + 1) < 2147483648) ∧ L_Names_find_2 X th v1 (v3 + 1) s1 K) ∧ (¬ ((q_lcmp (s1 th_c v3) v1) ≠ 0) → K v3 s1)))))))) : L_Names_find_2 X th v1 v3 s K := by
  unfold L_Names_find_2
  refine w_iload (p' := 3) rfl rfl rfl rfl ?_
  refine w_aload (p' := 4) rfl rfl rfl rfl ?_
  refine w_getR (p' := 7) rfl rfl rfl hth.tag hth.ref_named ?_
  refine v_callI (M' := 223) (p' := 10) (rest := [(.inl v3)]) (as := [(.inr (.inr (.inl (some th_n))))]) rfl rfl rfl rfl rfl rfl rfl rfl rfl rfl rfl hth.named.tag rfl h (fun r2 s1 h => ?_)
  refine w_icmp (t := 41) (e := 13) rfl rfl rfl (fun e => ?_) (fun e => ?_)
  · have h := h.1 e
    refine w_const (p' := 42) rfl rfl rfl ?_
    exact w_iret rfl trivial ⟨rfl, _, rfl, h⟩
  · have h := h.2 e
    refine w_iload (p' := 14) rfl rfl rfl rfl ?_
    refine w_aload (p' := 15) rfl rfl rfl rfl ?_
    refine w_getR (p' := 18) rfl rfl rfl hth.tag hth.ref_codes ?_
    refine w_alen (p' := 19) (t := 2) (N := 241) rfl rfl hth.ctag (by decide) hth.clen (by decide) ?_
    refine w_icmp (t := 41) (e := 22) rfl rfl rfl (fun e => ?_) (fun e => ?_)
    · have h := h.1 e
      refine w_const (p' := 42) rfl rfl rfl ?_
      exact w_iret rfl trivial ⟨rfl, _, rfl, h⟩
    · have h := h.2 e
      refine w_aload (p' := 23) rfl rfl rfl rfl ?_
      refine w_getR (p' := 26) rfl rfl rfl hth.tag hth.ref_codes ?_
      refine w_iload (p' := 27) rfl rfl rfl rfl ?_
      refine w_lald (p' := 28) (N := 241) rfl rfl hth.ctag hth.clen h.1 h.2.1 ?_
      have h := h.2.2
      refine w_lload (p' := 29) rfl rfl rfl rfl ?_
      refine w_lcmp (p' := 30) rfl rfl ?_
      refine w_if (t := 35) (e := 33) rfl rfl rfl (fun e => ?_) (fun e => ?_)
      · have h := h.1 e
        refine w_iinc (p' := 38) (ls' := [some (.inr (.inr (.inl (some th)))), some (.inr (.inl v1)), none, some (.inl (v3 + 1))]) rfl rfl rfl (Nat.le_of_ble_eq_true rfl) h.1 rfl ?_
        have h := h.2
        refine w_goto (p' := 2) rfl rfl ?_
        exact w_cut (q_le_s (q_le_s (q_le_n (q_le_s q_le_z)))) h
      · have h := h.2 e
        refine w_iload (p' := 34) rfl rfl rfl rfl ?_
        exact w_iret rfl trivial ⟨rfl, _, rfl, h⟩
set_option maxRecDepth 20000 in
theorem sg_Names_blockAt {X : Nat × (Nat → Int32)} {th : Nat} {x1 : Int} {s : qM} {K : Int → qM → Prop} {th_c : Nat} {th_n : Nat} (hth : q_isNames th th_c th_n) (h : c_Row_at X th_n x1 s (fun r2 s1 => K r2 s1)) : c_Names_blockAt X th x1 s K := by
  unfold c_Names_blockAt
  refine w_aload (p' := 1) rfl rfl rfl rfl ?_
  refine w_getR (p' := 4) rfl rfl rfl hth.tag hth.ref_named ?_
  refine w_iload (p' := 5) rfl rfl rfl rfl ?_
  refine v_callI (M' := 224) (p' := 8) (rest := []) (as := [(.inr (.inr (.inl (some th_n)))), (.inl x1)]) rfl rfl rfl rfl rfl rfl rfl rfl rfl rfl rfl hth.named.tag rfl h (fun r2 s1 h => ?_)
  exact w_iret rfl trivial ⟨rfl, _, rfl, h⟩
set_option maxRecDepth 20000 in
theorem sg_Pairing_pair {X : Nat × (Nat → Int32)} {x1 : Nat} {x2 : Nat} {x3 : Nat} {s : qM} {K : qM → Prop} {x1_t : Nat} {x1_b : Nat} {x1_e : Nat} (hx1 : q_isLines x1 x1_t x1_b x1_e) {x2_t : Nat} {x2_b : Nat} {x2_e : Nat} (hx2 : q_isLines x2 x2_t x2_b x2_e) {x3_N : Nat} (hx3 : q_isRow x3 x3_N) (h : c_Pairing_fillLeavings X x1 x2 s (fun s1 => c_Lines_many X x1 s1 (fun r3 s2 => c_Row_fill X x3 r3 (-1) s2 (fun s4 => L_Pairing_pair_24 X x1 x2 x3 0 0 0 s4 K)))) : c_Pairing_pair X x1 x2 x3 s K := by
  unfold c_Pairing_pair
  refine w_aload (p' := 1) rfl rfl rfl rfl ?_
  refine w_aload (p' := 2) rfl rfl rfl rfl ?_
  refine w_aload (p' := 3) rfl rfl rfl rfl ?_
  refine v_callV (M' := 213) (p' := 6) (rest := []) (as := [(.inr (.inr (.inl (some 101)))), (.inr (.inr (.inl (some x1)))), (.inr (.inr (.inl (some x2))))]) rfl rfl rfl rfl rfl rfl rfl rfl rfl rfl rfl rfl rfl h (fun s1 h => ?_)
  refine w_aload (p' := 7) rfl rfl rfl rfl ?_
  refine w_aload (p' := 8) rfl rfl rfl rfl ?_
  refine v_callI (M' := 192) (p' := 11) (rest := [(.inr (.inr (.inl (some x3))))]) (as := [(.inr (.inr (.inl (some x1))))]) rfl rfl rfl rfl rfl rfl rfl rfl rfl rfl rfl hx1.tag rfl h (fun r3 s2 h => ?_)
  refine w_const (p' := 12) rfl rfl rfl ?_
  refine v_callV (M' := 229) (p' := 15) (rest := []) (as := [(.inr (.inr (.inl (some x3)))), (.inl r3), (.inl (-1))]) rfl rfl rfl rfl rfl rfl rfl rfl rfl rfl rfl hx3.tag rfl h (fun s4 h => ?_)
  refine w_const (p' := 16) rfl rfl rfl ?_
  refine w_istore (p' := 18) (ls' := [some (.inr (.inr (.inl (some 101)))), some (.inr (.inr (.inl (some x1)))), some (.inr (.inr (.inl (some x2)))), some (.inr (.inr (.inl (some x3)))), some (.inl 0), none, none]) rfl rfl rfl (Nat.le_of_ble_eq_true rfl) rfl ?_
  refine w_const (p' := 19) rfl rfl rfl ?_
  refine w_istore (p' := 21) (ls' := [some (.inr (.inr (.inl (some 101)))), some (.inr (.inr (.inl (some x1)))), some (.inr (.inr (.inl (some x2)))), some (.inr (.inr (.inl (some x3)))), some (.inl 0), some (.inl 0), none]) rfl rfl rfl (Nat.le_of_ble_eq_true rfl) rfl ?_
  refine w_const (p' := 22) rfl rfl rfl ?_
  refine w_istore (p' := 24) (ls' := [some (.inr (.inr (.inl (some 101)))), some (.inr (.inr (.inl (some x1)))), some (.inr (.inr (.inl (some x2)))), some (.inr (.inr (.inl (some x3)))), some (.inl 0), some (.inl 0), some (.inl 0)]) rfl rfl rfl (Nat.le_of_ble_eq_true rfl) rfl ?_
  exact w_cut (q_le_s (q_le_s (q_le_s (q_le_s (q_le_s (q_le_s (q_le_s q_le_z))))))) h
set_option maxRecDepth 20000 in
theorem sg_Pairing_pair_24 {X : Nat × (Nat → Int32)} {x1 : Nat} {x2 : Nat} {x3 : Nat} {v4 v5 v6 : Int} {s : qM} {K : qM → Prop} {x1_t : Nat} {x1_b : Nat} {x1_e : Nat} (hx1 : q_isLines x1 x1_t x1_b x1_e) {x2_t : Nat} {x2_b : Nat} {x2_e : Nat} (hx2 : q_isLines x2 x2_t x2_b x2_e) {x3_N : Nat} (hx3 : q_isRow x3 x3_N) (h : (((482 ≤ v6) → K s) ∧ (¬ (482 ≤ v6) → c_Lines_many X x1 s (fun r2 s1 => (((r2 ≤ v4) → K s1) ∧ (¬ (r2 ≤ v4) → c_Lines_many X x2 s1 (fun r4 s3 => (((r4 ≤ v5) → K s3) ∧ (¬ (r4 ≤ v5) → c_Lines_isSame X x1 v4 x2 v5 s3 (fun r6 s5 => (((r6 = 0) → c_Pairing_isLeftOut X v4 v5 s5 (fun r8 s7 => (((r8 = 0) → (-2147483648 ≤ (v5 + 1) ∧ (v5 + 1) < 2147483648) ∧ (-2147483648 ≤ (v6 + 1) ∧ (v6 + 1) < 2147483648) ∧ L_Pairing_pair_24 X x1 x2 x3 v4 (v5 + 1) (v6 + 1) s7 K) ∧ (¬ (r8 = 0) → (-2147483648 ≤ (v4 + 1) ∧ (v4 + 1) < 2147483648) ∧ (-2147483648 ≤ (v6 + 1) ∧ (v6 + 1) < 2147483648) ∧ L_Pairing_pair_24 X x1 x2 x3 (v4 + 1) v5 (v6 + 1) s7 K)))) ∧ (¬ (r6 = 0) → c_Row_set X x3 v4 v5 s5 (fun s9 => (-2147483648 ≤ (v4 + 1) ∧ (v4 + 1) < 2147483648) ∧ (-2147483648 ≤ (v5 + 1) ∧ (v5 + 1) < 2147483648) ∧ (-2147483648 ≤ (v6 + 1) ∧ (v6 + 1) < 2147483648) ∧ L_Pairing_pair_24 X x1 x2 x3 (v4 + 1) (v5 + 1) (v6 + 1) s9 K))))))))))))) : L_Pairing_pair_24 X x1 x2 x3 v4 v5 v6 s K := by
  unfold L_Pairing_pair_24
  refine w_iload (p' := 26) rfl rfl rfl rfl ?_
  refine w_const (p' := 29) rfl rfl rfl ?_
  refine w_icmp (t := 105) (e := 32) rfl rfl rfl (fun e => ?_) (fun e => ?_)
  · have h := h.1 e
    exact w_vret rfl ⟨rfl, rfl, h⟩
  · have h := h.2 e
    refine w_iload (p' := 34) rfl rfl rfl rfl ?_
    refine w_aload (p' := 35) rfl rfl rfl rfl ?_
    refine v_callI (M' := 192) (p' := 38) (rest := [(.inl v4)]) (as := [(.inr (.inr (.inl (some x1))))]) rfl rfl rfl rfl rfl rfl rfl rfl rfl rfl rfl hx1.tag rfl h (fun r2 s1 h => ?_)
    refine w_icmp (t := 105) (e := 41) rfl rfl rfl (fun e => ?_) (fun e => ?_)
    · have h := h.1 e
      exact w_vret rfl ⟨rfl, rfl, h⟩
    · have h := h.2 e
      refine w_iload (p' := 43) rfl rfl rfl rfl ?_
      refine w_aload (p' := 44) rfl rfl rfl rfl ?_
      refine v_callI (M' := 192) (p' := 47) (rest := [(.inl v5)]) (as := [(.inr (.inr (.inl (some x2))))]) rfl rfl rfl rfl rfl rfl rfl rfl rfl rfl rfl hx2.tag rfl h (fun r4 s3 h => ?_)
      refine w_icmp (t := 105) (e := 50) rfl rfl rfl (fun e => ?_) (fun e => ?_)
      · have h := h.1 e
        exact w_vret rfl ⟨rfl, rfl, h⟩
      · have h := h.2 e
        refine w_aload (p' := 51) rfl rfl rfl rfl ?_
        refine w_iload (p' := 53) rfl rfl rfl rfl ?_
        refine w_aload (p' := 54) rfl rfl rfl rfl ?_
        refine w_iload (p' := 56) rfl rfl rfl rfl ?_
        refine v_callI (M' := 196) (p' := 59) (rest := []) (as := [(.inr (.inr (.inl (some x1)))), (.inl v4), (.inr (.inr (.inl (some x2)))), (.inl v5)]) rfl rfl rfl rfl rfl rfl rfl rfl rfl rfl rfl hx1.tag rfl h (fun r6 s5 h => ?_)
        refine w_if (t := 79) (e := 62) rfl rfl rfl (fun e => ?_) (fun e => ?_)
        · have h := h.1 e
          refine w_aload (p' := 80) rfl rfl rfl rfl ?_
          refine w_iload (p' := 82) rfl rfl rfl rfl ?_
          refine w_iload (p' := 84) rfl rfl rfl rfl ?_
          refine v_callI (M' := 214) (p' := 87) (rest := []) (as := [(.inr (.inr (.inl (some 101)))), (.inl v4), (.inl v5)]) rfl rfl rfl rfl rfl rfl rfl rfl rfl rfl rfl rfl rfl h (fun r8 s7 h => ?_)
          refine w_if (t := 96) (e := 90) rfl rfl rfl (fun e => ?_) (fun e => ?_)
          · have h := h.1 e
            refine w_iinc (p' := 99) (ls' := [some (.inr (.inr (.inl (some 101)))), some (.inr (.inr (.inl (some x1)))), some (.inr (.inr (.inl (some x2)))), some (.inr (.inr (.inl (some x3)))), some (.inl v4), some (.inl (v5 + 1)), some (.inl v6)]) rfl rfl rfl (Nat.le_of_ble_eq_true rfl) h.1 rfl ?_
            have h := h.2
            refine w_iinc (p' := 102) (ls' := [some (.inr (.inr (.inl (some 101)))), some (.inr (.inr (.inl (some x1)))), some (.inr (.inr (.inl (some x2)))), some (.inr (.inr (.inl (some x3)))), some (.inl v4), some (.inl (v5 + 1)), some (.inl (v6 + 1))]) rfl rfl rfl (Nat.le_of_ble_eq_true rfl) h.1 rfl ?_
            have h := h.2
            refine w_goto (p' := 24) rfl rfl ?_
            exact w_cut (q_le_s (q_le_s (q_le_s (q_le_s (q_le_s (q_le_s (q_le_s q_le_z))))))) h
          · have h := h.2 e
            refine w_iinc (p' := 93) (ls' := [some (.inr (.inr (.inl (some 101)))), some (.inr (.inr (.inl (some x1)))), some (.inr (.inr (.inl (some x2)))), some (.inr (.inr (.inl (some x3)))), some (.inl (v4 + 1)), some (.inl v5), some (.inl v6)]) rfl rfl rfl (Nat.le_of_ble_eq_true rfl) h.1 rfl ?_
            have h := h.2
            refine w_goto (p' := 99) rfl rfl ?_
            refine w_iinc (p' := 102) (ls' := [some (.inr (.inr (.inl (some 101)))), some (.inr (.inr (.inl (some x1)))), some (.inr (.inr (.inl (some x2)))), some (.inr (.inr (.inl (some x3)))), some (.inl (v4 + 1)), some (.inl v5), some (.inl (v6 + 1))]) rfl rfl rfl (Nat.le_of_ble_eq_true rfl) h.1 rfl ?_
            have h := h.2
            refine w_goto (p' := 24) rfl rfl ?_
            exact w_cut (q_le_s (q_le_s (q_le_s (q_le_s (q_le_s (q_le_s (q_le_s q_le_z))))))) h
        · have h := h.2 e
          refine w_aload (p' := 63) rfl rfl rfl rfl ?_
          refine w_iload (p' := 65) rfl rfl rfl rfl ?_
          refine w_iload (p' := 67) rfl rfl rfl rfl ?_
          refine v_callV (M' := 225) (p' := 70) (rest := []) (as := [(.inr (.inr (.inl (some x3)))), (.inl v4), (.inl v5)]) rfl rfl rfl rfl rfl rfl rfl rfl rfl rfl rfl hx3.tag rfl h (fun s9 h => ?_)
          refine w_iinc (p' := 73) (ls' := [some (.inr (.inr (.inl (some 101)))), some (.inr (.inr (.inl (some x1)))), some (.inr (.inr (.inl (some x2)))), some (.inr (.inr (.inl (some x3)))), some (.inl (v4 + 1)), some (.inl v5), some (.inl v6)]) rfl rfl rfl (Nat.le_of_ble_eq_true rfl) h.1 rfl ?_
          have h := h.2
          refine w_iinc (p' := 76) (ls' := [some (.inr (.inr (.inl (some 101)))), some (.inr (.inr (.inl (some x1)))), some (.inr (.inr (.inl (some x2)))), some (.inr (.inr (.inl (some x3)))), some (.inl (v4 + 1)), some (.inl (v5 + 1)), some (.inl v6)]) rfl rfl rfl (Nat.le_of_ble_eq_true rfl) h.1 rfl ?_
          have h := h.2
          refine w_goto (p' := 99) rfl rfl ?_
          refine w_iinc (p' := 102) (ls' := [some (.inr (.inr (.inl (some 101)))), some (.inr (.inr (.inl (some x1)))), some (.inr (.inr (.inl (some x2)))), some (.inr (.inr (.inl (some x3)))), some (.inl (v4 + 1)), some (.inl (v5 + 1)), some (.inl (v6 + 1))]) rfl rfl rfl (Nat.le_of_ble_eq_true rfl) h.1 rfl ?_
          have h := h.2
          refine w_goto (p' := 24) rfl rfl ?_
          exact w_cut (q_le_s (q_le_s (q_le_s (q_le_s (q_le_s (q_le_s (q_le_s q_le_z))))))) h
set_option maxRecDepth 20000 in
theorem sg_Pairing_fillLeavings {X : Nat × (Nat → Int32)} {x1 : Nat} {x2 : Nat} {s : qM} {K : qM → Prop} {x1_t : Nat} {x1_b : Nat} {x1_e : Nat} (hx1 : q_isLines x1 x1_t x1_b x1_e) {x2_t : Nat} {x2_b : Nat} {x2_e : Nat} (hx2 : q_isLines x2 x2_t x2_b x2_e) (h : c_Lines_many X x2 s (fun r2 s1 => (-2147483648 ≤ (r2 + 1) ∧ (r2 + 1) < 2147483648) ∧ c_Row_fill X 105 (r2 + 1) 0 s1 (fun s3 => c_Lines_many X x2 s3 (fun r5 s4 => (-2147483648 ≤ (r5 + 1) ∧ (r5 + 1) < 2147483648) ∧ c_Row_fill X 103 (r5 + 1) 0 s4 (fun s6 => c_Lines_many X x1 s6 (fun r8 s7 => (-2147483648 ≤ (r8 - 1) ∧ (r8 - 1) < 2147483648) ∧ L_Pairing_fillLeavings_35 X x1 x2 (r8 - 1) s7 K)))))) : c_Pairing_fillLeavings X x1 x2 s K := by
  unfold c_Pairing_fillLeavings
  refine w_aload (p' := 1) rfl rfl rfl rfl ?_
  refine w_getR (p' := 4) rfl rfl rfl rfl rfl ?_
  refine w_aload (p' := 5) rfl rfl rfl rfl ?_
  refine v_callI (M' := 192) (p' := 8) (rest := [(.inr (.inr (.inl (some 105))))]) (as := [(.inr (.inr (.inl (some x2))))]) rfl rfl rfl rfl rfl rfl rfl rfl rfl rfl rfl hx2.tag rfl h (fun r2 s1 h => ?_)
  refine w_const (p' := 9) rfl rfl rfl ?_
  refine w_add (p' := 10) rfl rfl h.1 ?_
  have h := h.2
  refine w_const (p' := 11) rfl rfl rfl ?_
  refine v_callV (M' := 229) (p' := 14) (rest := []) (as := [(.inr (.inr (.inl (some 105)))), (.inl (r2 + 1)), (.inl 0)]) rfl rfl rfl rfl rfl rfl rfl rfl rfl rfl rfl rfl rfl h (fun s3 h => ?_)
  refine w_aload (p' := 15) rfl rfl rfl rfl ?_
  refine w_getR (p' := 18) rfl rfl rfl rfl rfl ?_
  refine w_aload (p' := 19) rfl rfl rfl rfl ?_
  refine v_callI (M' := 192) (p' := 22) (rest := [(.inr (.inr (.inl (some 103))))]) (as := [(.inr (.inr (.inl (some x2))))]) rfl rfl rfl rfl rfl rfl rfl rfl rfl rfl rfl hx2.tag rfl h (fun r5 s4 h => ?_)
  refine w_const (p' := 23) rfl rfl rfl ?_
  refine w_add (p' := 24) rfl rfl h.1 ?_
  have h := h.2
  refine w_const (p' := 25) rfl rfl rfl ?_
  refine v_callV (M' := 229) (p' := 28) (rest := []) (as := [(.inr (.inr (.inl (some 103)))), (.inl (r5 + 1)), (.inl 0)]) rfl rfl rfl rfl rfl rfl rfl rfl rfl rfl rfl rfl rfl h (fun s6 h => ?_)
  refine w_aload (p' := 29) rfl rfl rfl rfl ?_
  refine v_callI (M' := 192) (p' := 32) (rest := []) (as := [(.inr (.inr (.inl (some x1))))]) rfl rfl rfl rfl rfl rfl rfl rfl rfl rfl rfl hx1.tag rfl h (fun r8 s7 h => ?_)
  refine w_const (p' := 33) rfl rfl rfl ?_
  refine w_sub (p' := 34) rfl rfl h.1 ?_
  have h := h.2
  refine w_istore (p' := 35) (ls' := [some (.inr (.inr (.inl (some 101)))), some (.inr (.inr (.inl (some x1)))), some (.inr (.inr (.inl (some x2)))), some (.inl (r8 - 1)), none, none, none, none]) rfl rfl rfl (Nat.le_of_ble_eq_true rfl) rfl ?_
  exact w_cut (q_le_s (q_le_s (q_le_s (q_le_s (q_le_n (q_le_n (q_le_n (q_le_n q_le_z)))))))) h
set_option maxRecDepth 20000 in
theorem sg_Pairing_fillLeavings_35 {X : Nat × (Nat → Int32)} {x1 : Nat} {x2 : Nat} {v3 : Int} {s : qM} {K : qM → Prop} {x1_t : Nat} {x1_b : Nat} {x1_e : Nat} (hx1 : q_isLines x1 x1_t x1_b x1_e) {x2_t : Nat} {x2_b : Nat} {x2_e : Nat} (hx2 : q_isLines x2 x2_t x2_b x2_e) (h : (((v3 < 0) → K s) ∧ (¬ (v3 < 0) → c_Lines_many X x2 s (fun r2 s1 => (-2147483648 ≤ (r2 - 1) ∧ (r2 - 1) < 2147483648) ∧ L_Pairing_fillLeavings_47 X x1 x2 v3 (r2 - 1) s1 K)))) : L_Pairing_fillLeavings_35 X x1 x2 v3 s K := by
  unfold L_Pairing_fillLeavings_35
  refine w_iload (p' := 36) rfl rfl rfl rfl ?_
  refine w_if (t := 165) (e := 39) rfl rfl rfl (fun e => ?_) (fun e => ?_)
  · have h := h.1 e
    exact w_vret rfl ⟨rfl, rfl, h⟩
  · have h := h.2 e
    refine w_aload (p' := 40) rfl rfl rfl rfl ?_
    refine v_callI (M' := 192) (p' := 43) (rest := []) (as := [(.inr (.inr (.inl (some x2))))]) rfl rfl rfl rfl rfl rfl rfl rfl rfl rfl rfl hx2.tag rfl h (fun r2 s1 h => ?_)
    refine w_const (p' := 44) rfl rfl rfl ?_
    refine w_sub (p' := 45) rfl rfl h.1 ?_
    have h := h.2
    refine w_istore (p' := 47) (ls' := [some (.inr (.inr (.inl (some 101)))), some (.inr (.inr (.inl (some x1)))), some (.inr (.inr (.inl (some x2)))), some (.inl v3), some (.inl (r2 - 1)), none, none, none]) rfl rfl rfl (Nat.le_of_ble_eq_true rfl) rfl ?_
    exact w_cut (q_le_s (q_le_s (q_le_s (q_le_s (q_le_s (q_le_n (q_le_n (q_le_n q_le_z)))))))) h
set_option maxRecDepth 20000 in
theorem sg_Pairing_fillLeavings_47 {X : Nat × (Nat → Int32)} {x1 : Nat} {x2 : Nat} {v3 v4 : Int} {s : qM} {K : qM → Prop} {x1_t : Nat} {x1_b : Nat} {x1_e : Nat} (hx1 : q_isLines x1 x1_t x1_b x1_e) {x2_t : Nat} {x2_b : Nat} {x2_e : Nat} (hx2 : q_isLines x2 x2_t x2_b x2_e) (h : (((v4 < 0) → c_Row_become X 105 103 s (fun s1 => (-2147483648 ≤ (v3 + (-1)) ∧ (v3 + (-1)) < 2147483648) ∧ L_Pairing_fillLeavings_35 X x1 x2 (v3 + (-1)) s1 K)) ∧ (¬ (v4 < 0) → c_Row_at X 105 v4 s (fun r3 s2 => (-2147483648 ≤ (v4 + 1) ∧ (v4 + 1) < 2147483648) ∧ c_Row_at X 103 (v4 + 1) s2 (fun r5 s4 => (((r3 < r5) → L_Pairing_fillLeavings_92 X x1 x2 v3 v4 r3 r5 v3 v4 0 s4 K) ∧ (¬ (r3 < r5) → L_Pairing_fillLeavings_92 X x1 x2 v3 v4 r3 r5 v3 v4 1 s4 K))))))) : L_Pairing_fillLeavings_47 X x1 x2 v3 v4 s K := by
  unfold L_Pairing_fillLeavings_47
  refine w_iload (p' := 49) rfl rfl rfl rfl ?_
  refine w_if (t := 148) (e := 52) rfl rfl rfl (fun e => ?_) (fun e => ?_)
  · have h := h.1 e
    refine w_aload (p' := 149) rfl rfl rfl rfl ?_
    refine w_getR (p' := 152) rfl rfl rfl rfl rfl ?_
    refine w_aload (p' := 153) rfl rfl rfl rfl ?_
    refine w_getR (p' := 156) rfl rfl rfl rfl rfl ?_
    refine v_callV (M' := 232) (p' := 159) (rest := []) (as := [(.inr (.inr (.inl (some 105)))), (.inr (.inr (.inl (some 103))))]) rfl rfl rfl rfl rfl rfl rfl rfl rfl rfl rfl rfl rfl h (fun s1 h => ?_)
    refine w_iinc (p' := 162) (ls' := [some (.inr (.inr (.inl (some 101)))), some (.inr (.inr (.inl (some x1)))), some (.inr (.inr (.inl (some x2)))), some (.inl (v3 + (-1))), some (.inl v4), none, none, none]) rfl rfl rfl (Nat.le_of_ble_eq_true rfl) h.1 rfl ?_
    have h := h.2
    refine w_goto (p' := 35) rfl rfl ?_
    exact w_cut (q_le_s (q_le_s (q_le_s (q_le_s (q_le_n (q_le_n (q_le_n (q_le_n q_le_z)))))))) h
  · have h := h.2 e
    refine w_aload (p' := 53) rfl rfl rfl rfl ?_
    refine w_getR (p' := 56) rfl rfl rfl rfl rfl ?_
    refine w_iload (p' := 58) rfl rfl rfl rfl ?_
    refine v_callI (M' := 224) (p' := 61) (rest := []) (as := [(.inr (.inr (.inl (some 105)))), (.inl v4)]) rfl rfl rfl rfl rfl rfl rfl rfl rfl rfl rfl rfl rfl h (fun r3 s2 h => ?_)
    refine w_istore (p' := 63) (ls' := [some (.inr (.inr (.inl (some 101)))), some (.inr (.inr (.inl (some x1)))), some (.inr (.inr (.inl (some x2)))), some (.inl v3), some (.inl v4), some (.inl r3), none, none]) rfl rfl rfl (Nat.le_of_ble_eq_true rfl) rfl ?_
    refine w_aload (p' := 64) rfl rfl rfl rfl ?_
    refine w_getR (p' := 67) rfl rfl rfl rfl rfl ?_
    refine w_iload (p' := 69) rfl rfl rfl rfl ?_
    refine w_const (p' := 70) rfl rfl rfl ?_
    refine w_add (p' := 71) rfl rfl h.1 ?_
    have h := h.2
    refine v_callI (M' := 224) (p' := 74) (rest := []) (as := [(.inr (.inr (.inl (some 103)))), (.inl (v4 + 1))]) rfl rfl rfl rfl rfl rfl rfl rfl rfl rfl rfl rfl rfl h (fun r5 s4 h => ?_)
    refine w_istore (p' := 76) (ls' := [some (.inr (.inr (.inl (some 101)))), some (.inr (.inr (.inl (some x1)))), some (.inr (.inr (.inl (some x2)))), some (.inl v3), some (.inl v4), some (.inl r3), some (.inl r5), none]) rfl rfl rfl (Nat.le_of_ble_eq_true rfl) rfl ?_
    refine w_aload (p' := 77) rfl rfl rfl rfl ?_
    refine w_iload (p' := 78) rfl rfl rfl rfl ?_
    refine w_iload (p' := 80) rfl rfl rfl rfl ?_
    refine w_iload (p' := 82) rfl rfl rfl rfl ?_
    refine w_iload (p' := 84) rfl rfl rfl rfl ?_
    refine w_icmp (t := 91) (e := 87) rfl rfl rfl (fun e => ?_) (fun e => ?_)
    · have h := h.1 e
      refine w_const (p' := 92) rfl rfl rfl ?_
      exact w_cut (q_le_s (q_le_s (q_le_s (q_le_s (q_le_s (q_le_s (q_le_s (q_le_n q_le_z)))))))) h
    · have h := h.2 e
      refine w_const (p' := 88) rfl rfl rfl ?_
      refine w_goto (p' := 92) rfl rfl ?_
      exact w_cut (q_le_s (q_le_s (q_le_s (q_le_s (q_le_s (q_le_s (q_le_s (q_le_n q_le_z)))))))) h
set_option maxRecDepth 20000 in
theorem sg_Pairing_fillLeavings_92 {X : Nat × (Nat → Int32)} {x1 : Nat} {x2 : Nat} {v3 v4 v5 v6 t1 t2 t3 : Int} {s : qM} {K : qM → Prop} {x1_t : Nat} {x1_b : Nat} {x1_e : Nat} (hx1 : q_isLines x1 x1_t x1_b x1_e) {x2_t : Nat} {x2_b : Nat} {x2_e : Nat} (hx2 : q_isLines x2 x2_t x2_b x2_e) (h : c_Pairing_leaveOut X t1 t2 t3 s (fun s1 => c_Lines_isSame X x1 v3 x2 v4 s1 (fun r3 s2 => (((r3 = 0) → c_Row_set X 103 v4 (if v5 < v6 then v6 else v5) s2 (fun s4 => (-2147483648 ≤ (v4 + (-1)) ∧ (v4 + (-1)) < 2147483648) ∧ L_Pairing_fillLeavings_47 X x1 x2 v3 (v4 + (-1)) s4 K)) ∧ (¬ (r3 = 0) → (-2147483648 ≤ (v4 + 1) ∧ (v4 + 1) < 2147483648) ∧ c_Row_at X 105 (v4 + 1) s2 (fun r6 s5 => (-2147483648 ≤ (r6 + 1) ∧ (r6 + 1) < 2147483648) ∧ c_Row_set X 103 v4 (r6 + 1) s5 (fun s7 => (-2147483648 ≤ (v4 + (-1)) ∧ (v4 + (-1)) < 2147483648) ∧ L_Pairing_fillLeavings_47 X x1 x2 v3 (v4 + (-1)) s7 K))))))) : L_Pairing_fillLeavings_92 X x1 x2 v3 v4 v5 v6 t1 t2 t3 s K := by
  unfold L_Pairing_fillLeavings_92
  refine v_callV (M' := 215) (p' := 95) (rest := []) (as := [(.inr (.inr (.inl (some 101)))), (.inl t1), (.inl t2), (.inl t3)]) rfl rfl rfl rfl rfl rfl rfl rfl rfl rfl rfl rfl rfl h (fun s1 h => ?_)
  refine w_aload (p' := 96) rfl rfl rfl rfl ?_
  refine w_iload (p' := 97) rfl rfl rfl rfl ?_
  refine w_aload (p' := 98) rfl rfl rfl rfl ?_
  refine w_iload (p' := 100) rfl rfl rfl rfl ?_
  refine v_callI (M' := 196) (p' := 103) (rest := []) (as := [(.inr (.inr (.inl (some x1)))), (.inl v3), (.inr (.inr (.inl (some x2)))), (.inl v4)]) rfl rfl rfl rfl rfl rfl rfl rfl rfl rfl rfl hx1.tag rfl h (fun r3 s2 h => ?_)
  refine w_istore (p' := 105) (ls' := [some (.inr (.inr (.inl (some 101)))), some (.inr (.inr (.inl (some x1)))), some (.inr (.inr (.inl (some x2)))), some (.inl v3), some (.inl v4), some (.inl v5), some (.inl v6), some (.inl r3)]) rfl rfl rfl (Nat.le_of_ble_eq_true rfl) rfl ?_
  refine w_aload (p' := 106) rfl rfl rfl rfl ?_
  refine w_getR (p' := 109) rfl rfl rfl rfl rfl ?_
  refine w_iload (p' := 111) rfl rfl rfl rfl ?_
  refine w_iload (p' := 113) rfl rfl rfl rfl ?_
  refine w_if (t := 132) (e := 116) rfl rfl rfl (fun e => ?_) (fun e => ?_)
  · have h := h.1 e
    refine w_iload (p' := 134) rfl rfl rfl rfl ?_
    refine w_iload (p' := 136) rfl rfl rfl rfl ?_
    refine w_max (p' := 139) rfl rfl rfl (Nat.le_of_ble_eq_true rfl) ?_
    refine v_callV (M' := 225) (p' := 142) (rest := []) (as := [(.inr (.inr (.inl (some 103)))), (.inl v4), (.inl (if v5 < v6 then v6 else v5))]) rfl rfl rfl rfl rfl rfl rfl rfl rfl rfl rfl rfl rfl h (fun s4 h => ?_)
    refine w_iinc (p' := 145) (ls' := [some (.inr (.inr (.inl (some 101)))), some (.inr (.inr (.inl (some x1)))), some (.inr (.inr (.inl (some x2)))), some (.inl v3), some (.inl (v4 + (-1))), some (.inl v5), some (.inl v6), some (.inl r3)]) rfl rfl rfl (Nat.le_of_ble_eq_true rfl) h.1 rfl ?_
    have h := h.2
    refine w_goto (p' := 47) rfl rfl ?_
    exact w_cut (q_le_s (q_le_s (q_le_s (q_le_s (q_le_s (q_le_n (q_le_n (q_le_n q_le_z)))))))) h
  · have h := h.2 e
    refine w_aload (p' := 117) rfl rfl rfl rfl ?_
    refine w_getR (p' := 120) rfl rfl rfl rfl rfl ?_
    refine w_iload (p' := 122) rfl rfl rfl rfl ?_
    refine w_const (p' := 123) rfl rfl rfl ?_
    refine w_add (p' := 124) rfl rfl h.1 ?_
    have h := h.2
    refine v_callI (M' := 224) (p' := 127) (rest := [(.inl v4), (.inr (.inr (.inl (some 103))))]) (as := [(.inr (.inr (.inl (some 105)))), (.inl (v4 + 1))]) rfl rfl rfl rfl rfl rfl rfl rfl rfl rfl rfl rfl rfl h (fun r6 s5 h => ?_)
    refine w_const (p' := 128) rfl rfl rfl ?_
    refine w_add (p' := 129) rfl rfl h.1 ?_
    have h := h.2
    refine w_goto (p' := 139) rfl rfl ?_
    refine v_callV (M' := 225) (p' := 142) (rest := []) (as := [(.inr (.inr (.inl (some 103)))), (.inl v4), (.inl (r6 + 1))]) rfl rfl rfl rfl rfl rfl rfl rfl rfl rfl rfl rfl rfl h (fun s7 h => ?_)
    refine w_iinc (p' := 145) (ls' := [some (.inr (.inr (.inl (some 101)))), some (.inr (.inr (.inl (some x1)))), some (.inr (.inr (.inl (some x2)))), some (.inl v3), some (.inl (v4 + (-1))), some (.inl v5), some (.inl v6), some (.inl r3)]) rfl rfl rfl (Nat.le_of_ble_eq_true rfl) h.1 rfl ?_
    have h := h.2
    refine w_goto (p' := 47) rfl rfl ?_
    exact w_cut (q_le_s (q_le_s (q_le_s (q_le_s (q_le_s (q_le_n (q_le_n (q_le_n q_le_z)))))))) h
set_option maxRecDepth 20000 in
theorem sg_Pairing_isLeftOut {X : Nat × (Nat → Int32)} {x1 : Int} {x2 : Int} {s : qM} {K : Int → qM → Prop} (h : (-2147483648 ≤ (x1 * 4) ∧ (x1 * 4) < 2147483648) ∧ (-2147483648 ≤ ((x1 * 4) + (Int.tdiv x2 64)) ∧ ((x1 * 4) + (Int.tdiv x2 64)) < 2147483648) ∧ (((((x1 * 4) + (Int.tdiv x2 64)) < 0) → K 0 s) ∧ (¬ (((x1 * 4) + (Int.tdiv x2 64)) < 0) → (((964 ≤ ((x1 * 4) + (Int.tdiv x2 64))) → K 0 s) ∧ (¬ (964 ≤ ((x1 * 4) + (Int.tdiv x2 64))) → ((0 : Int) ≤ ((x1 * 4) + (Int.tdiv x2 64))) ∧ (((x1 * 4) + (Int.tdiv x2 64)) < (964 : Int)) ∧ ((((q_lcmp (q_land (q_lushr (s 102 ((x1 * 4) + (Int.tdiv x2 64))) (q_and x2 63)) 1) 1) ≠ 0) → K 0 s) ∧ (¬ ((q_lcmp (q_land (q_lushr (s 102 ((x1 * 4) + (Int.tdiv x2 64))) (q_and x2 63)) 1) 1) ≠ 0) → K 1 s))))))) : c_Pairing_isLeftOut X x1 x2 s K := by
  unfold c_Pairing_isLeftOut
  refine w_iload (p' := 1) rfl rfl rfl rfl ?_
  refine w_const (p' := 2) rfl rfl rfl ?_
  refine w_mul (p' := 3) rfl rfl h.1 ?_
  have h := h.2
  refine w_iload (p' := 4) rfl rfl rfl rfl ?_
  refine w_const (p' := 6) rfl rfl rfl ?_
  refine w_div (p' := 7) rfl rfl (by decide) ?_
  refine w_add (p' := 8) rfl rfl h.1 ?_
  have h := h.2
  refine w_istore (p' := 9) (ls' := [some (.inr (.inr (.inl (some 101)))), some (.inl x1), some (.inl x2), some (.inl ((x1 * 4) + (Int.tdiv x2 64)))]) rfl rfl rfl (Nat.le_of_ble_eq_true rfl) rfl ?_
  refine w_iload (p' := 10) rfl rfl rfl rfl ?_
  refine w_if (t := 44) (e := 13) rfl rfl rfl (fun e => ?_) (fun e => ?_)
  · have h := h.1 e
    refine w_const (p' := 45) rfl rfl rfl ?_
    exact w_iret rfl ⟨by decide, by decide⟩ ⟨rfl, _, rfl, h⟩
  · have h := h.2 e
    refine w_iload (p' := 14) rfl rfl rfl rfl ?_
    refine w_aload (p' := 15) rfl rfl rfl rfl ?_
    refine w_getR (p' := 18) rfl rfl rfl rfl rfl ?_
    refine w_alen (p' := 19) (t := 2) (N := 964) rfl rfl rfl (by decide) rfl (by decide) ?_
    refine w_icmp (t := 44) (e := 22) rfl rfl rfl (fun e => ?_) (fun e => ?_)
    · have h := h.1 e
      refine w_const (p' := 45) rfl rfl rfl ?_
      exact w_iret rfl ⟨by decide, by decide⟩ ⟨rfl, _, rfl, h⟩
    · have h := h.2 e
      refine w_aload (p' := 23) rfl rfl rfl rfl ?_
      refine w_getR (p' := 26) rfl rfl rfl rfl rfl ?_
      refine w_iload (p' := 27) rfl rfl rfl rfl ?_
      refine w_lald (p' := 28) (N := 964) rfl rfl rfl rfl h.1 h.2.1 ?_
      have h := h.2.2
      refine w_iload (p' := 29) rfl rfl rfl rfl ?_
      refine w_const (p' := 31) rfl rfl rfl ?_
      refine w_and (p' := 32) rfl rfl ?_
      refine w_lushr (p' := 33) rfl rfl ?_
      refine w_lconst (p' := 34) rfl rfl rfl ?_
      refine w_land (p' := 35) rfl rfl ?_
      refine w_lconst (p' := 36) rfl rfl rfl ?_
      refine w_lcmp (p' := 37) rfl rfl ?_
      refine w_if (t := 44) (e := 40) rfl rfl rfl (fun e => ?_) (fun e => ?_)
      · have h := h.1 e
        refine w_const (p' := 45) rfl rfl rfl ?_
        exact w_iret rfl ⟨by decide, by decide⟩ ⟨rfl, _, rfl, h⟩
      · have h := h.2 e
        refine w_const (p' := 41) rfl rfl rfl ?_
        refine w_goto (p' := 45) rfl rfl ?_
        exact w_iret rfl ⟨by decide, by decide⟩ ⟨rfl, _, rfl, h⟩
set_option maxRecDepth 20000 in
theorem sg_Pairing_leaveOut {X : Nat × (Nat → Int32)} {x1 : Int} {x2 : Int} {x3 : Int} {s : qM} {K : qM → Prop} (h : (-2147483648 ≤ (x1 * 4) ∧ (x1 * 4) < 2147483648) ∧ (-2147483648 ≤ ((x1 * 4) + (Int.tdiv x2 64)) ∧ ((x1 * 4) + (Int.tdiv x2 64)) < 2147483648) ∧ (((((x1 * 4) + (Int.tdiv x2 64)) < 0) → K s) ∧ (¬ (((x1 * 4) + (Int.tdiv x2 64)) < 0) → (((964 ≤ ((x1 * 4) + (Int.tdiv x2 64))) → K s) ∧ (¬ (964 ≤ ((x1 * 4) + (Int.tdiv x2 64))) → (((x3 = 0) → ((0 : Int) ≤ ((x1 * 4) + (Int.tdiv x2 64))) ∧ (((x1 * 4) + (Int.tdiv x2 64)) < (964 : Int)) ∧ ((0 : Int) ≤ ((x1 * 4) + (Int.tdiv x2 64))) ∧ (((x1 * 4) + (Int.tdiv x2 64)) < (964 : Int)) ∧ (∀ s1 : qM, s1 = q_up s 102 ((x1 * 4) + (Int.tdiv x2 64)) (q_land (s 102 ((x1 * 4) + (Int.tdiv x2 64))) (q_lxor (q_lshl 1 (q_and x2 63)) (-1))) → K s1)) ∧ (¬ (x3 = 0) → ((0 : Int) ≤ ((x1 * 4) + (Int.tdiv x2 64))) ∧ (((x1 * 4) + (Int.tdiv x2 64)) < (964 : Int)) ∧ ((0 : Int) ≤ ((x1 * 4) + (Int.tdiv x2 64))) ∧ (((x1 * 4) + (Int.tdiv x2 64)) < (964 : Int)) ∧ (∀ s2 : qM, s2 = q_up s 102 ((x1 * 4) + (Int.tdiv x2 64)) (q_lor (s 102 ((x1 * 4) + (Int.tdiv x2 64))) (q_lshl 1 (q_and x2 63))) → K s2)))))))) : c_Pairing_leaveOut X x1 x2 x3 s K := by
  unfold c_Pairing_leaveOut
  refine w_iload (p' := 1) rfl rfl rfl rfl ?_
  refine w_const (p' := 2) rfl rfl rfl ?_
  refine w_mul (p' := 3) rfl rfl h.1 ?_
  have h := h.2
  refine w_iload (p' := 4) rfl rfl rfl rfl ?_
  refine w_const (p' := 6) rfl rfl rfl ?_
  refine w_div (p' := 7) rfl rfl (by decide) ?_
  refine w_add (p' := 8) rfl rfl h.1 ?_
  have h := h.2
  refine w_istore (p' := 10) (ls' := [some (.inr (.inr (.inl (some 101)))), some (.inl x1), some (.inl x2), some (.inl x3), some (.inl ((x1 * 4) + (Int.tdiv x2 64))), none, none]) rfl rfl rfl (Nat.le_of_ble_eq_true rfl) rfl ?_
  refine w_lconst (p' := 11) rfl rfl rfl ?_
  refine w_iload (p' := 12) rfl rfl rfl rfl ?_
  refine w_const (p' := 14) rfl rfl rfl ?_
  refine w_and (p' := 15) rfl rfl ?_
  refine w_lshl (p' := 16) rfl rfl ?_
  refine w_lstore (p' := 18) (ls' := [some (.inr (.inr (.inl (some 101)))), some (.inl x1), some (.inl x2), some (.inl x3), some (.inl ((x1 * 4) + (Int.tdiv x2 64))), some (.inr (.inl (q_lshl 1 (q_and x2 63)))), none]) rfl rfl rfl (Nat.le_of_ble_eq_true rfl) rfl ?_
  refine w_iload (p' := 20) rfl rfl rfl rfl ?_
  refine w_if (t := 71) (e := 23) rfl rfl rfl (fun e => ?_) (fun e => ?_)
  · have h := h.1 e
    exact w_vret rfl ⟨rfl, rfl, h⟩
  · have h := h.2 e
    refine w_iload (p' := 25) rfl rfl rfl rfl ?_
    refine w_aload (p' := 26) rfl rfl rfl rfl ?_
    refine w_getR (p' := 29) rfl rfl rfl rfl rfl ?_
    refine w_alen (p' := 30) (t := 2) (N := 964) rfl rfl rfl (by decide) rfl (by decide) ?_
    refine w_icmp (t := 71) (e := 33) rfl rfl rfl (fun e => ?_) (fun e => ?_)
    · have h := h.1 e
      exact w_vret rfl ⟨rfl, rfl, h⟩
    · have h := h.2 e
      refine w_aload (p' := 34) rfl rfl rfl rfl ?_
      refine w_getR (p' := 37) rfl rfl rfl rfl rfl ?_
      refine w_iload (p' := 39) rfl rfl rfl rfl ?_
      refine w_iload (p' := 40) rfl rfl rfl rfl ?_
      refine w_if (t := 56) (e := 43) rfl rfl rfl (fun e => ?_) (fun e => ?_)
      · have h := h.1 e
        refine w_aload (p' := 57) rfl rfl rfl rfl ?_
        refine w_getR (p' := 60) rfl rfl rfl rfl rfl ?_
        refine w_iload (p' := 62) rfl rfl rfl rfl ?_
        refine w_lald (p' := 63) (N := 964) rfl rfl rfl rfl h.1 h.2.1 ?_
        have h := h.2.2
        refine w_lload (p' := 65) rfl rfl rfl rfl ?_
        refine w_lconst (p' := 68) rfl rfl rfl ?_
        refine w_lxor (p' := 69) rfl rfl ?_
        refine w_land (p' := 70) rfl rfl ?_
        refine v_last (p' := 71) (N := 964) rfl rfl rfl rfl h.1 h.2.1  ?_
        have h := h.2.2
        intro s1 es1
        have h := h s1 es1
        exact w_vret rfl ⟨rfl, rfl, h⟩
      · have h := h.2 e
        refine w_aload (p' := 44) rfl rfl rfl rfl ?_
        refine w_getR (p' := 47) rfl rfl rfl rfl rfl ?_
        refine w_iload (p' := 49) rfl rfl rfl rfl ?_
        refine w_lald (p' := 50) (N := 964) rfl rfl rfl rfl h.1 h.2.1 ?_
        have h := h.2.2
        refine w_lload (p' := 52) rfl rfl rfl rfl ?_
        refine w_lor (p' := 53) rfl rfl ?_
        refine w_goto (p' := 70) rfl rfl ?_
        refine v_last (p' := 71) (N := 964) rfl rfl rfl rfl h.1 h.2.1  ?_
        have h := h.2.2
        intro s2 es2
        have h := h s2 es2
        exact w_vret rfl ⟨rfl, rfl, h⟩
set_option maxRecDepth 20000 in
theorem sg_Printer_of {X : Nat × (Nat → Int32)} {x1 : Int} {s : qM} {K : Nat → qM → Prop} (h : (((x1 ≠ 0) → K 86 s) ∧ (¬ (x1 ≠ 0) → K 84 s))) : c_Printer_of X x1 s K := by
  unfold c_Printer_of
  refine w_iload (p' := 1) rfl rfl rfl rfl ?_
  refine w_if (t := 11) (e := 4) rfl rfl rfl (fun e => ?_) (fun e => ?_)
  · have h := h.1 e
    refine w_aload (p' := 12) rfl rfl rfl rfl ?_
    refine w_getR (p' := 15) rfl rfl rfl rfl rfl ?_
    exact w_aret rfl ⟨rfl, _, rfl, h⟩
  · have h := h.2 e
    refine w_aload (p' := 5) rfl rfl rfl rfl ?_
    refine w_getR (p' := 8) rfl rfl rfl rfl rfl ?_
    refine w_goto (p' := 15) rfl rfl ?_
    exact w_aret rfl ⟨rfl, _, rfl, h⟩
set_option maxRecDepth 20000 in
theorem sg_Printer_write {X : Nat × (Nat → Int32)}  {s : qM} {K : qM → Prop} (h : c_Row_empty X 84 s (fun s1 => c_Row_empty X 86 s1 (fun s2 => L_Printer_write_18 X (-1) 0 s2 K))) : c_Printer_write X  s K := by
  unfold c_Printer_write
  refine w_aload (p' := 1) rfl rfl rfl rfl ?_
  refine w_getR (p' := 4) rfl rfl rfl rfl rfl ?_
  refine v_callV (M' := 227) (p' := 7) (rest := []) (as := [(.inr (.inr (.inl (some 84))))]) rfl rfl rfl rfl rfl rfl rfl rfl rfl rfl rfl rfl rfl h (fun s1 h => ?_)
  refine w_aload (p' := 8) rfl rfl rfl rfl ?_
  refine w_getR (p' := 11) rfl rfl rfl rfl rfl ?_
  refine v_callV (M' := 227) (p' := 14) (rest := []) (as := [(.inr (.inr (.inl (some 86))))]) rfl rfl rfl rfl rfl rfl rfl rfl rfl rfl rfl rfl rfl h (fun s2 h => ?_)
  refine w_const (p' := 15) rfl rfl rfl ?_
  refine w_istore (p' := 16) (ls' := [some (.inr (.inr (.inl (some 83)))), some (.inl (-1)), none]) rfl rfl rfl (Nat.le_of_ble_eq_true rfl) rfl ?_
  refine w_const (p' := 17) rfl rfl rfl ?_
  refine w_istore (p' := 18) (ls' := [some (.inr (.inr (.inl (some 83)))), some (.inl (-1)), some (.inl 0)]) rfl rfl rfl (Nat.le_of_ble_eq_true rfl) rfl ?_
  exact w_cut (q_le_s (q_le_s (q_le_s q_le_z))) h
set_option maxRecDepth 20000 in
theorem sg_Printer_write_18 {X : Nat × (Nat → Int32)}  {v1 v2 : Int} {s : qM} {K : qM → Prop} (h : c_Tree_size X  s (fun r2 s1 => (((r2 ≤ v2) → c_Printer_endUpTo X (-1) v1 s1 (fun s3 => K s3)) ∧ (¬ (r2 ≤ v2) → c_Tree_parentOf X v2 s1 (fun r5 s4 => c_Printer_endUpTo X r5 v1 s4 (fun s6 => c_Printer_begin X v2 s6 (fun s7 => (-2147483648 ≤ (v2 + 1) ∧ (v2 + 1) < 2147483648) ∧ L_Printer_write_18 X v2 (v2 + 1) s7 K))))))) : L_Printer_write_18 X v1 v2 s K := by
  unfold L_Printer_write_18
  refine w_iload (p' := 19) rfl rfl rfl rfl ?_
  refine w_aload (p' := 20) rfl rfl rfl rfl ?_
  refine w_getR (p' := 23) rfl rfl rfl rfl rfl ?_
  refine v_callI (M' := 250) (p' := 26) (rest := [(.inl v2)]) (as := [(.inr (.inr (.inl (some 64))))]) rfl rfl rfl rfl rfl rfl rfl rfl rfl rfl rfl rfl rfl h (fun r2 s1 h => ?_)
  refine w_icmp (t := 55) (e := 29) rfl rfl rfl (fun e => ?_) (fun e => ?_)
  · have h := h.1 e
    refine w_aload (p' := 56) rfl rfl rfl rfl ?_
    refine w_const (p' := 57) rfl rfl rfl ?_
    refine w_iload (p' := 58) rfl rfl rfl rfl ?_
    refine v_callV (M' := 220) (p' := 61) (rest := []) (as := [(.inr (.inr (.inl (some 83)))), (.inl (-1)), (.inl v1)]) rfl rfl rfl rfl rfl rfl rfl rfl rfl rfl rfl rfl rfl h (fun s3 h => ?_)
    exact w_vret rfl ⟨rfl, rfl, h⟩
  · have h := h.2 e
    refine w_aload (p' := 30) rfl rfl rfl rfl ?_
    refine w_aload (p' := 31) rfl rfl rfl rfl ?_
    refine w_getR (p' := 34) rfl rfl rfl rfl rfl ?_
    refine w_iload (p' := 35) rfl rfl rfl rfl ?_
    refine v_callI (M' := 252) (p' := 38) (rest := [(.inr (.inr (.inl (some 83))))]) (as := [(.inr (.inr (.inl (some 64)))), (.inl v2)]) rfl rfl rfl rfl rfl rfl rfl rfl rfl rfl rfl rfl rfl h (fun r5 s4 h => ?_)
    refine w_iload (p' := 39) rfl rfl rfl rfl ?_
    refine v_callV (M' := 220) (p' := 42) (rest := []) (as := [(.inr (.inr (.inl (some 83)))), (.inl r5), (.inl v1)]) rfl rfl rfl rfl rfl rfl rfl rfl rfl rfl rfl rfl rfl h (fun s6 h => ?_)
    refine w_aload (p' := 43) rfl rfl rfl rfl ?_
    refine w_iload (p' := 44) rfl rfl rfl rfl ?_
    refine v_callV (M' := 219) (p' := 47) (rest := []) (as := [(.inr (.inr (.inl (some 83)))), (.inl v2)]) rfl rfl rfl rfl rfl rfl rfl rfl rfl rfl rfl rfl rfl h (fun s7 h => ?_)
    refine w_iload (p' := 48) rfl rfl rfl rfl ?_
    refine w_istore (p' := 49) (ls' := [some (.inr (.inr (.inl (some 83)))), some (.inl v2), some (.inl v2)]) rfl rfl rfl (Nat.le_of_ble_eq_true rfl) rfl ?_
    refine w_iinc (p' := 52) (ls' := [some (.inr (.inr (.inl (some 83)))), some (.inl v2), some (.inl (v2 + 1))]) rfl rfl rfl (Nat.le_of_ble_eq_true rfl) h.1 rfl ?_
    have h := h.2
    refine w_goto (p' := 18) rfl rfl ?_
    exact w_cut (q_le_s (q_le_s (q_le_s q_le_z))) h
set_option maxRecDepth 20000 in
theorem sg_Printer_begin {X : Nat × (Nat → Int32)} {x1 : Int} {s : qM} {K : qM → Prop} (h : c_Printer_isMarked X x1 s (fun r2 s1 => (((r2 = 0) → L_Printer_begin_56 X x1 0 s1 K) ∧ (¬ (r2 = 0) → c_Tree_kindOf X x1 s1 (fun r4 s3 => (-2147483648 ≤ (1000 + r4) ∧ (1000 + r4) < 2147483648) ∧ c_Row_add X 84 (1000 + r4) s3 (fun s5 => c_Tree_signOf X x1 s5 (fun r7 s6 => (((r7 = (-1)) → L_Printer_begin_56 X x1 0 s6 K) ∧ (¬ (r7 = (-1)) → c_Tree_signOf X x1 s6 (fun r9 s8 => c_Row_add X 84 r9 s8 (fun s10 => L_Printer_begin_56 X x1 0 s10 K))))))))))) : c_Printer_begin X x1 s K := by
  unfold c_Printer_begin
  refine w_aload (p' := 1) rfl rfl rfl rfl ?_
  refine w_iload (p' := 2) rfl rfl rfl rfl ?_
  refine v_callI (M' := 221) (p' := 5) (rest := []) (as := [(.inr (.inr (.inl (some 83)))), (.inl x1)]) rfl rfl rfl rfl rfl rfl rfl rfl rfl rfl rfl rfl rfl h (fun r2 s1 h => ?_)
  refine w_if (t := 54) (e := 8) rfl rfl rfl (fun e => ?_) (fun e => ?_)
  · have h := h.1 e
    refine w_const (p' := 55) rfl rfl rfl ?_
    refine w_istore (p' := 56) (ls' := [some (.inr (.inr (.inl (some 83)))), some (.inl x1), some (.inl 0)]) rfl rfl rfl (Nat.le_of_ble_eq_true rfl) rfl ?_
    exact w_cut (q_le_s (q_le_s (q_le_s q_le_z))) h
  · have h := h.2 e
    refine w_aload (p' := 9) rfl rfl rfl rfl ?_
    refine w_getR (p' := 12) rfl rfl rfl rfl rfl ?_
    refine w_const (p' := 15) rfl rfl rfl ?_
    refine w_aload (p' := 16) rfl rfl rfl rfl ?_
    refine w_getR (p' := 19) rfl rfl rfl rfl rfl ?_
    refine w_iload (p' := 20) rfl rfl rfl rfl ?_
    refine v_callI (M' := 251) (p' := 23) (rest := [(.inl 1000), (.inr (.inr (.inl (some 84))))]) (as := [(.inr (.inr (.inl (some 64)))), (.inl x1)]) rfl rfl rfl rfl rfl rfl rfl rfl rfl rfl rfl rfl rfl h (fun r4 s3 h => ?_)
    refine w_add (p' := 24) rfl rfl h.1 ?_
    have h := h.2
    refine v_callV (M' := 226) (p' := 27) (rest := []) (as := [(.inr (.inr (.inl (some 84)))), (.inl (1000 + r4))]) rfl rfl rfl rfl rfl rfl rfl rfl rfl rfl rfl rfl rfl h (fun s5 h => ?_)
    refine w_aload (p' := 28) rfl rfl rfl rfl ?_
    refine w_getR (p' := 31) rfl rfl rfl rfl rfl ?_
    refine w_iload (p' := 32) rfl rfl rfl rfl ?_
    refine v_callI (M' := 255) (p' := 35) (rest := []) (as := [(.inr (.inr (.inl (some 64)))), (.inl x1)]) rfl rfl rfl rfl rfl rfl rfl rfl rfl rfl rfl rfl rfl h (fun r7 s6 h => ?_)
    refine w_const (p' := 36) rfl rfl rfl ?_
    refine w_icmp (t := 54) (e := 39) rfl rfl rfl (fun e => ?_) (fun e => ?_)
    · have h := h.1 e
      refine w_const (p' := 55) rfl rfl rfl ?_
      refine w_istore (p' := 56) (ls' := [some (.inr (.inr (.inl (some 83)))), some (.inl x1), some (.inl 0)]) rfl rfl rfl (Nat.le_of_ble_eq_true rfl) rfl ?_
      exact w_cut (q_le_s (q_le_s (q_le_s q_le_z))) h
    · have h := h.2 e
      refine w_aload (p' := 40) rfl rfl rfl rfl ?_
      refine w_getR (p' := 43) rfl rfl rfl rfl rfl ?_
      refine w_aload (p' := 44) rfl rfl rfl rfl ?_
      refine w_getR (p' := 47) rfl rfl rfl rfl rfl ?_
      refine w_iload (p' := 48) rfl rfl rfl rfl ?_
      refine v_callI (M' := 255) (p' := 51) (rest := [(.inr (.inr (.inl (some 84))))]) (as := [(.inr (.inr (.inl (some 64)))), (.inl x1)]) rfl rfl rfl rfl rfl rfl rfl rfl rfl rfl rfl rfl rfl h (fun r9 s8 h => ?_)
      refine v_callV (M' := 226) (p' := 54) (rest := []) (as := [(.inr (.inr (.inl (some 84)))), (.inl r9)]) rfl rfl rfl rfl rfl rfl rfl rfl rfl rfl rfl rfl rfl h (fun s10 h => ?_)
      refine w_const (p' := 55) rfl rfl rfl ?_
      refine w_istore (p' := 56) (ls' := [some (.inr (.inr (.inl (some 83)))), some (.inl x1), some (.inl 0)]) rfl rfl rfl (Nat.le_of_ble_eq_true rfl) rfl ?_
      exact w_cut (q_le_s (q_le_s (q_le_s q_le_z))) h
set_option maxRecDepth 20000 in
theorem sg_Printer_begin_56 {X : Nat × (Nat → Int32)}  {v1 v2 : Int} {s : qM} {K : qM → Prop} (h : c_Tree_contentSizeOf X v1 s (fun r2 s1 => (((r2 ≤ v2) → K s1) ∧ (¬ (r2 ≤ v2) → c_Tree_contentOf X v1 v2 s1 (fun r4 s3 => c_Row_add X 84 r4 s3 (fun s5 => c_Tree_contentOf X v1 v2 s5 (fun r7 s6 => c_Row_add X 86 r7 s6 (fun s8 => (-2147483648 ≤ (v2 + 1) ∧ (v2 + 1) < 2147483648) ∧ L_Printer_begin_56 X v1 (v2 + 1) s8 K)))))))) : L_Printer_begin_56 X v1 v2 s K := by
  unfold L_Printer_begin_56
  refine w_iload (p' := 57) rfl rfl rfl rfl ?_
  refine w_aload (p' := 58) rfl rfl rfl rfl ?_
  refine w_getR (p' := 61) rfl rfl rfl rfl rfl ?_
  refine w_iload (p' := 62) rfl rfl rfl rfl ?_
  refine v_callI (M' := 259) (p' := 65) (rest := [(.inl v2)]) (as := [(.inr (.inr (.inl (some 64)))), (.inl v1)]) rfl rfl rfl rfl rfl rfl rfl rfl rfl rfl rfl rfl rfl h (fun r2 s1 h => ?_)
  refine w_icmp (t := 106) (e := 68) rfl rfl rfl (fun e => ?_) (fun e => ?_)
  · have h := h.1 e
    exact w_vret rfl ⟨rfl, rfl, h⟩
  · have h := h.2 e
    refine w_aload (p' := 69) rfl rfl rfl rfl ?_
    refine w_getR (p' := 72) rfl rfl rfl rfl rfl ?_
    refine w_aload (p' := 73) rfl rfl rfl rfl ?_
    refine w_getR (p' := 76) rfl rfl rfl rfl rfl ?_
    refine w_iload (p' := 77) rfl rfl rfl rfl ?_
    refine w_iload (p' := 78) rfl rfl rfl rfl ?_
    refine v_callI (M' := 260) (p' := 81) (rest := [(.inr (.inr (.inl (some 84))))]) (as := [(.inr (.inr (.inl (some 64)))), (.inl v1), (.inl v2)]) rfl rfl rfl rfl rfl rfl rfl rfl rfl rfl rfl rfl rfl h (fun r4 s3 h => ?_)
    refine v_callV (M' := 226) (p' := 84) (rest := []) (as := [(.inr (.inr (.inl (some 84)))), (.inl r4)]) rfl rfl rfl rfl rfl rfl rfl rfl rfl rfl rfl rfl rfl h (fun s5 h => ?_)
    refine w_aload (p' := 85) rfl rfl rfl rfl ?_
    refine w_getR (p' := 88) rfl rfl rfl rfl rfl ?_
    refine w_aload (p' := 89) rfl rfl rfl rfl ?_
    refine w_getR (p' := 92) rfl rfl rfl rfl rfl ?_
    refine w_iload (p' := 93) rfl rfl rfl rfl ?_
    refine w_iload (p' := 94) rfl rfl rfl rfl ?_
    refine v_callI (M' := 260) (p' := 97) (rest := [(.inr (.inr (.inl (some 86))))]) (as := [(.inr (.inr (.inl (some 64)))), (.inl v1), (.inl v2)]) rfl rfl rfl rfl rfl rfl rfl rfl rfl rfl rfl rfl rfl h (fun r7 s6 h => ?_)
    refine v_callV (M' := 226) (p' := 100) (rest := []) (as := [(.inr (.inr (.inl (some 86)))), (.inl r7)]) rfl rfl rfl rfl rfl rfl rfl rfl rfl rfl rfl rfl rfl h (fun s8 h => ?_)
    refine w_iinc (p' := 103) (ls' := [some (.inr (.inr (.inl (some 83)))), some (.inl v1), some (.inl (v2 + 1))]) rfl rfl rfl (Nat.le_of_ble_eq_true rfl) h.1 rfl ?_
    have h := h.2
    refine w_goto (p' := 56) rfl rfl ?_
    exact w_cut (q_le_s (q_le_s (q_le_s q_le_z))) h
set_option maxRecDepth 20000 in
theorem sg_Printer_endUpTo {X : Nat × (Nat → Int32)} {x1 : Int} {x2 : Int} {s : qM} {K : qM → Prop} (h : L_Printer_endUpTo_5 X x1 x2 0 s K) : c_Printer_endUpTo X x1 x2 s K := by
  unfold c_Printer_endUpTo
  refine w_iload (p' := 1) rfl rfl rfl rfl ?_
  refine w_istore (p' := 2) (ls' := [some (.inr (.inr (.inl (some 83)))), some (.inl x1), some (.inl x2), some (.inl x2), none]) rfl rfl rfl (Nat.le_of_ble_eq_true rfl) rfl ?_
  refine w_const (p' := 3) rfl rfl rfl ?_
  refine w_istore (p' := 5) (ls' := [some (.inr (.inr (.inl (some 83)))), some (.inl x1), some (.inl x2), some (.inl x2), some (.inl 0)]) rfl rfl rfl (Nat.le_of_ble_eq_true rfl) rfl ?_
  exact w_cut (q_le_s (q_le_s (q_le_n (q_le_s (q_le_s q_le_z))))) h
set_option maxRecDepth 20000 in
theorem sg_Printer_endUpTo_5 {X : Nat × (Nat → Int32)}  {v1 v3 v4 : Int} {s : qM} {K : qM → Prop} (h : (((482 ≤ v4) → K s) ∧ (¬ (482 ≤ v4) → (((v3 = v1) → K s) ∧ (¬ (v3 = v1) → c_Printer_isMarked X v3 s (fun r2 s1 => (((r2 = 0) → L_Printer_endUpTo_45 X v1 v3 v4 s1 K) ∧ (¬ (r2 = 0) → c_Tree_kindOf X v3 s1 (fun r4 s3 => (-2147483648 ≤ (2000 + r4) ∧ (2000 + r4) < 2147483648) ∧ c_Row_add X 84 (2000 + r4) s3 (fun s5 => L_Printer_endUpTo_45 X v1 v3 v4 s5 K)))))))))) : L_Printer_endUpTo_5 X v1 v3 v4 s K := by
  unfold L_Printer_endUpTo_5
  refine w_iload (p' := 7) rfl rfl rfl rfl ?_
  refine w_const (p' := 10) rfl rfl rfl ?_
  refine w_icmp (t := 94) (e := 13) rfl rfl rfl (fun e => ?_) (fun e => ?_)
  · have h := h.1 e
    exact w_vret rfl ⟨rfl, rfl, h⟩
  · have h := h.2 e
    refine w_iload (p' := 14) rfl rfl rfl rfl ?_
    refine w_iload (p' := 15) rfl rfl rfl rfl ?_
    refine w_icmp (t := 94) (e := 18) rfl rfl rfl (fun e => ?_) (fun e => ?_)
    · have h := h.1 e
      exact w_vret rfl ⟨rfl, rfl, h⟩
    · have h := h.2 e
      refine w_aload (p' := 19) rfl rfl rfl rfl ?_
      refine w_iload (p' := 20) rfl rfl rfl rfl ?_
      refine v_callI (M' := 221) (p' := 23) (rest := []) (as := [(.inr (.inr (.inl (some 83)))), (.inl v3)]) rfl rfl rfl rfl rfl rfl rfl rfl rfl rfl rfl rfl rfl h (fun r2 s1 h => ?_)
      refine w_if (t := 45) (e := 26) rfl rfl rfl (fun e => ?_) (fun e => ?_)
      · have h := h.1 e
        exact w_cut (q_le_s (q_le_s (q_le_n (q_le_s (q_le_s q_le_z))))) h
      · have h := h.2 e
        refine w_aload (p' := 27) rfl rfl rfl rfl ?_
        refine w_getR (p' := 30) rfl rfl rfl rfl rfl ?_
        refine w_const (p' := 33) rfl rfl rfl ?_
        refine w_aload (p' := 34) rfl rfl rfl rfl ?_
        refine w_getR (p' := 37) rfl rfl rfl rfl rfl ?_
        refine w_iload (p' := 38) rfl rfl rfl rfl ?_
        refine v_callI (M' := 251) (p' := 41) (rest := [(.inl 2000), (.inr (.inr (.inl (some 84))))]) (as := [(.inr (.inr (.inl (some 64)))), (.inl v3)]) rfl rfl rfl rfl rfl rfl rfl rfl rfl rfl rfl rfl rfl h (fun r4 s3 h => ?_)
        refine w_add (p' := 42) rfl rfl h.1 ?_
        have h := h.2
        refine v_callV (M' := 226) (p' := 45) (rest := []) (as := [(.inr (.inr (.inl (some 84)))), (.inl (2000 + r4))]) rfl rfl rfl rfl rfl rfl rfl rfl rfl rfl rfl rfl rfl h (fun s5 h => ?_)
        exact w_cut (q_le_s (q_le_s (q_le_n (q_le_s (q_le_s q_le_z))))) h
set_option maxRecDepth 20000 in
theorem sg_Printer_endUpTo_45 {X : Nat × (Nat → Int32)}  {v1 v3 v4 : Int} {s : qM} {K : qM → Prop} (h : c_Tree_kindOf X v3 s (fun r2 s1 => (((r2 = 6) → c_Row_add X 86 10 s1 (fun s3 => c_Tree_parentOf X v3 s3 (fun r5 s4 => (-2147483648 ≤ (v4 + 1) ∧ (v4 + 1) < 2147483648) ∧ L_Printer_endUpTo_5 X v1 r5 (v4 + 1) s4 K))) ∧ (¬ (r2 = 6) → c_Tree_kindOf X v3 s1 (fun r7 s6 => (((r7 ≠ 4) → c_Tree_parentOf X v3 s6 (fun r9 s8 => (-2147483648 ≤ (v4 + 1) ∧ (v4 + 1) < 2147483648) ∧ L_Printer_endUpTo_5 X v1 r9 (v4 + 1) s8 K)) ∧ (¬ (r7 ≠ 4) → c_Row_add X 86 10 s6 (fun s10 => c_Tree_parentOf X v3 s10 (fun r12 s11 => (-2147483648 ≤ (v4 + 1) ∧ (v4 + 1) < 2147483648) ∧ L_Printer_endUpTo_5 X v1 r12 (v4 + 1) s11 K))))))))) : L_Printer_endUpTo_45 X v1 v3 v4 s K := by
  unfold L_Printer_endUpTo_45
  refine w_aload (p' := 46) rfl rfl rfl rfl ?_
  refine w_getR (p' := 49) rfl rfl rfl rfl rfl ?_
  refine w_iload (p' := 50) rfl rfl rfl rfl ?_
  refine v_callI (M' := 251) (p' := 53) (rest := []) (as := [(.inr (.inr (.inl (some 64)))), (.inl v3)]) rfl rfl rfl rfl rfl rfl rfl rfl rfl rfl rfl rfl rfl h (fun r2 s1 h => ?_)
  refine w_const (p' := 55) rfl rfl rfl ?_
  refine w_icmp (t := 70) (e := 58) rfl rfl rfl (fun e => ?_) (fun e => ?_)
  · have h := h.1 e
    refine w_aload (p' := 71) rfl rfl rfl rfl ?_
    refine w_getR (p' := 74) rfl rfl rfl rfl rfl ?_
    refine w_const (p' := 76) rfl rfl rfl ?_
    refine v_callV (M' := 226) (p' := 79) (rest := []) (as := [(.inr (.inr (.inl (some 86)))), (.inl 10)]) rfl rfl rfl rfl rfl rfl rfl rfl rfl rfl rfl rfl rfl h (fun s3 h => ?_)
    refine w_aload (p' := 80) rfl rfl rfl rfl ?_
    refine w_getR (p' := 83) rfl rfl rfl rfl rfl ?_
    refine w_iload (p' := 84) rfl rfl rfl rfl ?_
    refine v_callI (M' := 252) (p' := 87) (rest := []) (as := [(.inr (.inr (.inl (some 64)))), (.inl v3)]) rfl rfl rfl rfl rfl rfl rfl rfl rfl rfl rfl rfl rfl h (fun r5 s4 h => ?_)
    refine w_istore (p' := 88) (ls' := [some (.inr (.inr (.inl (some 83)))), some (.inl v1), none, some (.inl r5), some (.inl v4)]) rfl rfl rfl (Nat.le_of_ble_eq_true rfl) rfl ?_
    refine w_iinc (p' := 91) (ls' := [some (.inr (.inr (.inl (some 83)))), some (.inl v1), none, some (.inl r5), some (.inl (v4 + 1))]) rfl rfl rfl (Nat.le_of_ble_eq_true rfl) h.1 rfl ?_
    have h := h.2
    refine w_goto (p' := 5) rfl rfl ?_
    exact w_cut (q_le_s (q_le_s (q_le_n (q_le_s (q_le_s q_le_z))))) h
  · have h := h.2 e
    refine w_aload (p' := 59) rfl rfl rfl rfl ?_
    refine w_getR (p' := 62) rfl rfl rfl rfl rfl ?_
    refine w_iload (p' := 63) rfl rfl rfl rfl ?_
    refine v_callI (M' := 251) (p' := 66) (rest := []) (as := [(.inr (.inr (.inl (some 64)))), (.inl v3)]) rfl rfl rfl rfl rfl rfl rfl rfl rfl rfl rfl rfl rfl h (fun r7 s6 h => ?_)
    refine w_const (p' := 67) rfl rfl rfl ?_
    refine w_icmp (t := 79) (e := 70) rfl rfl rfl (fun e => ?_) (fun e => ?_)
    · have h := h.1 e
      refine w_aload (p' := 80) rfl rfl rfl rfl ?_
      refine w_getR (p' := 83) rfl rfl rfl rfl rfl ?_
      refine w_iload (p' := 84) rfl rfl rfl rfl ?_
      refine v_callI (M' := 252) (p' := 87) (rest := []) (as := [(.inr (.inr (.inl (some 64)))), (.inl v3)]) rfl rfl rfl rfl rfl rfl rfl rfl rfl rfl rfl rfl rfl h (fun r9 s8 h => ?_)
      refine w_istore (p' := 88) (ls' := [some (.inr (.inr (.inl (some 83)))), some (.inl v1), none, some (.inl r9), some (.inl v4)]) rfl rfl rfl (Nat.le_of_ble_eq_true rfl) rfl ?_
      refine w_iinc (p' := 91) (ls' := [some (.inr (.inr (.inl (some 83)))), some (.inl v1), none, some (.inl r9), some (.inl (v4 + 1))]) rfl rfl rfl (Nat.le_of_ble_eq_true rfl) h.1 rfl ?_
      have h := h.2
      refine w_goto (p' := 5) rfl rfl ?_
      exact w_cut (q_le_s (q_le_s (q_le_n (q_le_s (q_le_s q_le_z))))) h
    · have h := h.2 e
      refine w_aload (p' := 71) rfl rfl rfl rfl ?_
      refine w_getR (p' := 74) rfl rfl rfl rfl rfl ?_
      refine w_const (p' := 76) rfl rfl rfl ?_
      refine v_callV (M' := 226) (p' := 79) (rest := []) (as := [(.inr (.inr (.inl (some 86)))), (.inl 10)]) rfl rfl rfl rfl rfl rfl rfl rfl rfl rfl rfl rfl rfl h (fun s10 h => ?_)
      refine w_aload (p' := 80) rfl rfl rfl rfl ?_
      refine w_getR (p' := 83) rfl rfl rfl rfl rfl ?_
      refine w_iload (p' := 84) rfl rfl rfl rfl ?_
      refine v_callI (M' := 252) (p' := 87) (rest := []) (as := [(.inr (.inr (.inl (some 64)))), (.inl v3)]) rfl rfl rfl rfl rfl rfl rfl rfl rfl rfl rfl rfl rfl h (fun r12 s11 h => ?_)
      refine w_istore (p' := 88) (ls' := [some (.inr (.inr (.inl (some 83)))), some (.inl v1), none, some (.inl r12), some (.inl v4)]) rfl rfl rfl (Nat.le_of_ble_eq_true rfl) rfl ?_
      refine w_iinc (p' := 91) (ls' := [some (.inr (.inr (.inl (some 83)))), some (.inl v1), none, some (.inl r12), some (.inl (v4 + 1))]) rfl rfl rfl (Nat.le_of_ble_eq_true rfl) h.1 rfl ?_
      have h := h.2
      refine w_goto (p' := 5) rfl rfl ?_
      exact w_cut (q_le_s (q_le_s (q_le_n (q_le_s (q_le_s q_le_z))))) h
set_option maxRecDepth 20000 in
theorem sg_Printer_isMarked {X : Nat × (Nat → Int32)} {x1 : Int} {s : qM} {K : Int → qM → Prop} (h : c_Tree_kindOf X x1 s (fun r2 s1 => (((r2 = 8) → K 0 s1) ∧ (¬ (r2 = 8) → c_Tree_kindOf X x1 s1 (fun r4 s3 => (((r4 = 7) → K 0 s3) ∧ (¬ (r4 = 7) → K 1 s3))))))) : c_Printer_isMarked X x1 s K := by
  unfold c_Printer_isMarked
  refine w_aload (p' := 1) rfl rfl rfl rfl ?_
  refine w_getR (p' := 4) rfl rfl rfl rfl rfl ?_
  refine w_iload (p' := 5) rfl rfl rfl rfl ?_
  refine v_callI (M' := 251) (p' := 8) (rest := []) (as := [(.inr (.inr (.inl (some 64)))), (.inl x1)]) rfl rfl rfl rfl rfl rfl rfl rfl rfl rfl rfl rfl rfl h (fun r2 s1 h => ?_)
  refine w_const (p' := 10) rfl rfl rfl ?_
  refine w_icmp (t := 30) (e := 13) rfl rfl rfl (fun e => ?_) (fun e => ?_)
  · have h := h.1 e
    refine w_const (p' := 31) rfl rfl rfl ?_
    exact w_iret rfl ⟨by decide, by decide⟩ ⟨rfl, _, rfl, h⟩
  · have h := h.2 e
    refine w_aload (p' := 14) rfl rfl rfl rfl ?_
    refine w_getR (p' := 17) rfl rfl rfl rfl rfl ?_
    refine w_iload (p' := 18) rfl rfl rfl rfl ?_
    refine v_callI (M' := 251) (p' := 21) (rest := []) (as := [(.inr (.inr (.inl (some 64)))), (.inl x1)]) rfl rfl rfl rfl rfl rfl rfl rfl rfl rfl rfl rfl rfl h (fun r4 s3 h => ?_)
    refine w_const (p' := 23) rfl rfl rfl ?_
    refine w_icmp (t := 30) (e := 26) rfl rfl rfl (fun e => ?_) (fun e => ?_)
    · have h := h.1 e
      refine w_const (p' := 31) rfl rfl rfl ?_
      exact w_iret rfl ⟨by decide, by decide⟩ ⟨rfl, _, rfl, h⟩
    · have h := h.2 e
      refine w_const (p' := 27) rfl rfl rfl ?_
      refine w_goto (p' := 31) rfl rfl ?_
      exact w_iret rfl ⟨by decide, by decide⟩ ⟨rfl, _, rfl, h⟩
set_option maxRecDepth 20000 in
theorem sg_Row_size {X : Nat × (Nat → Int32)} {th : Nat} {s : qM} {K : Int → qM → Prop} {th_N : Nat} (hth : q_isRow th th_N) (h : K (s th 1) s) : c_Row_size X th s K := by
  unfold c_Row_size
  refine w_aload (p' := 1) rfl rfl rfl rfl ?_
  refine w_getI (p' := 4) (j := 1) rfl rfl (by decide) rfl hth.tag ?_
  exact w_iret rfl trivial ⟨rfl, _, rfl, h⟩
set_option maxRecDepth 20000 in
theorem sg_Row_at {X : Nat × (Nat → Int32)} {th : Nat} {x1 : Int} {s : qM} {K : Int → qM → Prop} {th_N : Nat} (hth : q_isRow th th_N) (h : (((x1 < 0) → K (-1) s) ∧ (¬ (x1 < 0) → ((((s th 1) ≤ x1) → K (-1) s) ∧ (¬ ((s th 1) ≤ x1) → ((((th_N : Int) ≤ x1) → K (-1) s) ∧ (¬ ((th_N : Int) ≤ x1) → ((0 : Int) ≤ x1) ∧ (x1 < (th_N : Int)) ∧ K (s (th + 1) x1) s))))))) : c_Row_at X th x1 s K := by
  unfold c_Row_at
  refine w_iload (p' := 1) rfl rfl rfl rfl ?_
  refine w_if (t := 30) (e := 4) rfl rfl rfl (fun e => ?_) (fun e => ?_)
  · have h := h.1 e
    refine w_const (p' := 31) rfl rfl rfl ?_
    exact w_iret rfl trivial ⟨rfl, _, rfl, h⟩
  · have h := h.2 e
    refine w_iload (p' := 5) rfl rfl rfl rfl ?_
    refine w_aload (p' := 6) rfl rfl rfl rfl ?_
    refine w_getI (p' := 9) (j := 1) rfl rfl (by decide) rfl hth.tag ?_
    refine w_icmp (t := 30) (e := 12) rfl rfl rfl (fun e => ?_) (fun e => ?_)
    · have h := h.1 e
      refine w_const (p' := 31) rfl rfl rfl ?_
      exact w_iret rfl trivial ⟨rfl, _, rfl, h⟩
    · have h := h.2 e
      refine w_iload (p' := 13) rfl rfl rfl rfl ?_
      refine w_aload (p' := 14) rfl rfl rfl rfl ?_
      refine w_getR (p' := 17) rfl rfl rfl hth.tag hth.ref ?_
      refine w_alen (p' := 18) (t := 0) (N := th_N) rfl rfl hth.atag (by decide) hth.alen hth.nlt ?_
      refine w_icmp (t := 30) (e := 21) rfl rfl rfl (fun e => ?_) (fun e => ?_)
      · have h := h.1 e
        refine w_const (p' := 31) rfl rfl rfl ?_
        exact w_iret rfl trivial ⟨rfl, _, rfl, h⟩
      · have h := h.2 e
        refine w_aload (p' := 22) rfl rfl rfl rfl ?_
        refine w_getR (p' := 25) rfl rfl rfl hth.tag hth.ref ?_
        refine w_iload (p' := 26) rfl rfl rfl rfl ?_
        refine w_iald (p' := 27) (N := th_N) rfl rfl hth.atag hth.alen h.1 h.2.1 ?_
        have h := h.2.2
        refine w_goto (p' := 31) rfl rfl ?_
        exact w_iret rfl trivial ⟨rfl, _, rfl, h⟩
set_option maxRecDepth 20000 in
theorem sg_Row_set {X : Nat × (Nat → Int32)} {th : Nat} {x1 : Int} {x2 : Int} {s : qM} {K : qM → Prop} {th_N : Nat} (hth : q_isRow th th_N) (h : (((x1 < 0) → K s) ∧ (¬ (x1 < 0) → ((((s th 1) ≤ x1) → K s) ∧ (¬ ((s th 1) ≤ x1) → ((((th_N : Int) ≤ x1) → K s) ∧ (¬ ((th_N : Int) ≤ x1) → ((0 : Int) ≤ x1) ∧ (x1 < (th_N : Int)) ∧ (∀ s1 : qM, s1 = q_up s (th + 1) x1 x2 → K s1)))))))) : c_Row_set X th x1 x2 s K := by
  unfold c_Row_set
  refine w_iload (p' := 1) rfl rfl rfl rfl ?_
  refine w_if (t := 28) (e := 4) rfl rfl rfl (fun e => ?_) (fun e => ?_)
  · have h := h.1 e
    exact w_vret rfl ⟨rfl, rfl, h⟩
  · have h := h.2 e
    refine w_iload (p' := 5) rfl rfl rfl rfl ?_
    refine w_aload (p' := 6) rfl rfl rfl rfl ?_
    refine w_getI (p' := 9) (j := 1) rfl rfl (by decide) rfl hth.tag ?_
    refine w_icmp (t := 28) (e := 12) rfl rfl rfl (fun e => ?_) (fun e => ?_)
    · have h := h.1 e
      exact w_vret rfl ⟨rfl, rfl, h⟩
    · have h := h.2 e
      refine w_iload (p' := 13) rfl rfl rfl rfl ?_
      refine w_aload (p' := 14) rfl rfl rfl rfl ?_
      refine w_getR (p' := 17) rfl rfl rfl hth.tag hth.ref ?_
      refine w_alen (p' := 18) (t := 0) (N := th_N) rfl rfl hth.atag (by decide) hth.alen hth.nlt ?_
      refine w_icmp (t := 28) (e := 21) rfl rfl rfl (fun e => ?_) (fun e => ?_)
      · have h := h.1 e
        exact w_vret rfl ⟨rfl, rfl, h⟩
      · have h := h.2 e
        refine w_aload (p' := 22) rfl rfl rfl rfl ?_
        refine w_getR (p' := 25) rfl rfl rfl hth.tag hth.ref ?_
        refine w_iload (p' := 26) rfl rfl rfl rfl ?_
        refine w_iload (p' := 27) rfl rfl rfl rfl ?_
        refine v_iast (p' := 28) (N := th_N) rfl rfl hth.atag hth.alen h.1 h.2.1  ?_
        have h := h.2.2
        intro s1 es1
        have h := h s1 es1
        exact w_vret rfl ⟨rfl, rfl, h⟩
set_option maxRecDepth 20000 in
theorem sg_Row_add {X : Nat × (Nat → Int32)} {th : Nat} {x1 : Int} {s : qM} {K : qM → Prop} {th_N : Nat} (hth : q_isRow th th_N) (h : ((((s th 1) < 0) → K s) ∧ (¬ ((s th 1) < 0) → ((((th_N : Int) ≤ (s th 1)) → K s) ∧ (¬ ((th_N : Int) ≤ (s th 1)) → ((0 : Int) ≤ (s th 1)) ∧ ((s th 1) < (th_N : Int)) ∧ (∀ s1 : qM, s1 = q_up s (th + 1) (s th 1) x1 → (-2147483648 ≤ ((s1 th 1) + 1) ∧ ((s1 th 1) + 1) < 2147483648) ∧ (∀ s2 : qM, s2 = q_up s1 th 1 ((s1 th 1) + 1) → K s2))))))) : c_Row_add X th x1 s K := by
  unfold c_Row_add
  refine w_aload (p' := 1) rfl rfl rfl rfl ?_
  refine w_getI (p' := 4) (j := 1) rfl rfl (by decide) rfl hth.tag ?_
  refine w_if (t := 39) (e := 7) rfl rfl rfl (fun e => ?_) (fun e => ?_)
  · have h := h.1 e
    exact w_vret rfl ⟨rfl, rfl, h⟩
  · have h := h.2 e
    refine w_aload (p' := 8) rfl rfl rfl rfl ?_
    refine w_getI (p' := 11) (j := 1) rfl rfl (by decide) rfl hth.tag ?_
    refine w_aload (p' := 12) rfl rfl rfl rfl ?_
    refine w_getR (p' := 15) rfl rfl rfl hth.tag hth.ref ?_
    refine w_alen (p' := 16) (t := 0) (N := th_N) rfl rfl hth.atag (by decide) hth.alen hth.nlt ?_
    refine w_icmp (t := 39) (e := 19) rfl rfl rfl (fun e => ?_) (fun e => ?_)
    · have h := h.1 e
      exact w_vret rfl ⟨rfl, rfl, h⟩
    · have h := h.2 e
      refine w_aload (p' := 20) rfl rfl rfl rfl ?_
      refine w_getR (p' := 23) rfl rfl rfl hth.tag hth.ref ?_
      refine w_aload (p' := 24) rfl rfl rfl rfl ?_
      refine w_getI (p' := 27) (j := 1) rfl rfl (by decide) rfl hth.tag ?_
      refine w_iload (p' := 28) rfl rfl rfl rfl ?_
      refine v_iast (p' := 29) (N := th_N) rfl rfl hth.atag hth.alen h.1 h.2.1  ?_
      have h := h.2.2
      intro s1 es1
      have h := h s1 es1
      refine w_aload (p' := 30) rfl rfl rfl rfl ?_
      refine w_dup (p' := 31) rfl rfl rfl ?_
      refine w_getI (p' := 34) (j := 1) rfl rfl (by decide) rfl hth.tag ?_
      refine w_const (p' := 35) rfl rfl rfl ?_
      refine w_add (p' := 36) rfl rfl h.1 ?_
      have h := h.2
      refine v_putI (p' := 39) (j := 1) rfl rfl (by decide) rfl hth.tag trivial ?_
      intro s2 es2
      have h := h s2 es2
      exact w_vret rfl ⟨rfl, rfl, h⟩
set_option maxRecDepth 20000 in
theorem sg_Row_empty {X : Nat × (Nat → Int32)} {th : Nat} {s : qM} {K : qM → Prop} {th_N : Nat} (hth : q_isRow th th_N) (h : (∀ s1 : qM, s1 = q_up s th 1 0 → K s1)) : c_Row_empty X th s K := by
  unfold c_Row_empty
  refine w_aload (p' := 1) rfl rfl rfl rfl ?_
  refine w_const (p' := 2) rfl rfl rfl ?_
  refine v_putI (p' := 5) (j := 1) rfl rfl (by decide) rfl hth.tag trivial ?_
  intro s1 es1
  have h := h s1 es1
  exact w_vret rfl ⟨rfl, rfl, h⟩
set_option maxRecDepth 20000 in
theorem sg_Row_cut {X : Nat × (Nat → Int32)} {th : Nat} {x1 : Int} {s : qM} {K : qM → Prop} {th_N : Nat} (hth : q_isRow th th_N) (h : (((x1 < 0) → K s) ∧ (¬ (x1 < 0) → ((((s th 1) ≤ x1) → K s) ∧ (¬ ((s th 1) ≤ x1) → (∀ s1 : qM, s1 = q_up s th 1 x1 → K s1)))))) : c_Row_cut X th x1 s K := by
  unfold c_Row_cut
  refine w_iload (p' := 1) rfl rfl rfl rfl ?_
  refine w_if (t := 17) (e := 4) rfl rfl rfl (fun e => ?_) (fun e => ?_)
  · have h := h.1 e
    exact w_vret rfl ⟨rfl, rfl, h⟩
  · have h := h.2 e
    refine w_iload (p' := 5) rfl rfl rfl rfl ?_
    refine w_aload (p' := 6) rfl rfl rfl rfl ?_
    refine w_getI (p' := 9) (j := 1) rfl rfl (by decide) rfl hth.tag ?_
    refine w_icmp (t := 17) (e := 12) rfl rfl rfl (fun e => ?_) (fun e => ?_)
    · have h := h.1 e
      exact w_vret rfl ⟨rfl, rfl, h⟩
    · have h := h.2 e
      refine w_aload (p' := 13) rfl rfl rfl rfl ?_
      refine w_iload (p' := 14) rfl rfl rfl rfl ?_
      refine v_putI (p' := 17) (j := 1) rfl rfl (by decide) rfl hth.tag trivial ?_
      intro s1 es1
      have h := h s1 es1
      exact w_vret rfl ⟨rfl, rfl, h⟩
set_option maxRecDepth 20000 in
theorem sg_Row_fill {X : Nat × (Nat → Int32)} {th : Nat} {x1 : Int} {x2 : Int} {s : qM} {K : qM → Prop} {th_N : Nat} (hth : q_isRow th th_N) (h : c_Row_empty X th s (fun s1 => L_Row_fill_6 X th x1 x2 0 s1 K)) : c_Row_fill X th x1 x2 s K := by
  unfold c_Row_fill
  refine w_aload (p' := 1) rfl rfl rfl rfl ?_
  refine v_callV (M' := 227) (p' := 4) (rest := []) (as := [(.inr (.inr (.inl (some th))))]) rfl rfl rfl rfl rfl rfl rfl rfl rfl rfl rfl hth.tag rfl h (fun s1 h => ?_)
  refine w_const (p' := 5) rfl rfl rfl ?_
  refine w_istore (p' := 6) (ls' := [some (.inr (.inr (.inl (some th)))), some (.inl x1), some (.inl x2), some (.inl 0)]) rfl rfl rfl (Nat.le_of_ble_eq_true rfl) rfl ?_
  exact w_cut (q_le_s (q_le_s (q_le_s (q_le_s q_le_z)))) h
set_option maxRecDepth 20000 in
theorem sg_Row_fill_6 {X : Nat × (Nat → Int32)} {th : Nat} {v1 v2 v3 : Int} {s : qM} {K : qM → Prop} {th_N : Nat} (hth : q_isRow th th_N) (h : (((v1 ≤ v3) → K s) ∧ (¬ (v1 ≤ v3) → c_Row_add X th v2 s (fun s1 => (-2147483648 ≤ (v3 + 1) ∧ (v3 + 1) < 2147483648) ∧ L_Row_fill_6 X th v1 v2 (v3 + 1) s1 K)))) : L_Row_fill_6 X th v1 v2 v3 s K := by
  unfold L_Row_fill_6
  refine w_iload (p' := 7) rfl rfl rfl rfl ?_
  refine w_iload (p' := 8) rfl rfl rfl rfl ?_
  refine w_icmp (t := 22) (e := 11) rfl rfl rfl (fun e => ?_) (fun e => ?_)
  · have h := h.1 e
    exact w_vret rfl ⟨rfl, rfl, h⟩
  · have h := h.2 e
    refine w_aload (p' := 12) rfl rfl rfl rfl ?_
    refine w_iload (p' := 13) rfl rfl rfl rfl ?_
    refine v_callV (M' := 226) (p' := 16) (rest := []) (as := [(.inr (.inr (.inl (some th)))), (.inl v2)]) rfl rfl rfl rfl rfl rfl rfl rfl rfl rfl rfl hth.tag rfl h (fun s1 h => ?_)
    refine w_iinc (p' := 19) (ls' := [some (.inr (.inr (.inl (some th)))), some (.inl v1), some (.inl v2), some (.inl (v3 + 1))]) rfl rfl rfl (Nat.le_of_ble_eq_true rfl) h.1 rfl ?_
    have h := h.2
    refine w_goto (p' := 6) rfl rfl ?_
    exact w_cut (q_le_s (q_le_s (q_le_s (q_le_s q_le_z)))) h
set_option maxRecDepth 20000 in
theorem sg_Row_insert {X : Nat × (Nat → Int32)} {th : Nat} {x1 : Int} {x2 : Int} {s : qM} {K : qM → Prop} {th_N : Nat} (hth : q_isRow th th_N) (h : c_Row_add X th x2 s (fun s1 => (-2147483648 ≤ ((s1 th 1) - 1) ∧ ((s1 th 1) - 1) < 2147483648) ∧ L_Row_insert_12 X th x1 x2 ((s1 th 1) - 1) s1 K)) : c_Row_insert X th x1 x2 s K := by
  unfold c_Row_insert
  refine w_aload (p' := 1) rfl rfl rfl rfl ?_
  refine w_iload (p' := 2) rfl rfl rfl rfl ?_
  refine v_callV (M' := 226) (p' := 5) (rest := []) (as := [(.inr (.inr (.inl (some th)))), (.inl x2)]) rfl rfl rfl rfl rfl rfl rfl rfl rfl rfl rfl hth.tag rfl h (fun s1 h => ?_)
  refine w_aload (p' := 6) rfl rfl rfl rfl ?_
  refine w_getI (p' := 9) (j := 1) rfl rfl (by decide) rfl hth.tag ?_
  refine w_const (p' := 10) rfl rfl rfl ?_
  refine w_sub (p' := 11) rfl rfl h.1 ?_
  have h := h.2
  refine w_istore (p' := 12) (ls' := [some (.inr (.inr (.inl (some th)))), some (.inl x1), some (.inl x2), some (.inl ((s1 th 1) - 1))]) rfl rfl rfl (Nat.le_of_ble_eq_true rfl) rfl ?_
  exact w_cut (q_le_s (q_le_s (q_le_s (q_le_s q_le_z)))) h
set_option maxRecDepth 20000 in
theorem sg_Row_insert_12 {X : Nat × (Nat → Int32)} {th : Nat} {v1 v2 v3 : Int} {s : qM} {K : qM → Prop} {th_N : Nat} (hth : q_isRow th th_N) (h : (((v3 ≤ v1) → c_Row_set X th v1 v2 s (fun s1 => K s1)) ∧ (¬ (v3 ≤ v1) → (-2147483648 ≤ (v3 - 1) ∧ (v3 - 1) < 2147483648) ∧ c_Row_at X th (v3 - 1) s (fun r3 s2 => c_Row_set X th v3 r3 s2 (fun s4 => (-2147483648 ≤ (v3 + (-1)) ∧ (v3 + (-1)) < 2147483648) ∧ L_Row_insert_12 X th v1 v2 (v3 + (-1)) s4 K))))) : L_Row_insert_12 X th v1 v2 v3 s K := by
  unfold L_Row_insert_12
  refine w_iload (p' := 13) rfl rfl rfl rfl ?_
  refine w_iload (p' := 14) rfl rfl rfl rfl ?_
  refine w_icmp (t := 35) (e := 17) rfl rfl rfl (fun e => ?_) (fun e => ?_)
  · have h := h.1 e
    refine w_aload (p' := 36) rfl rfl rfl rfl ?_
    refine w_iload (p' := 37) rfl rfl rfl rfl ?_
    refine w_iload (p' := 38) rfl rfl rfl rfl ?_
    refine v_callV (M' := 225) (p' := 41) (rest := []) (as := [(.inr (.inr (.inl (some th)))), (.inl v1), (.inl v2)]) rfl rfl rfl rfl rfl rfl rfl rfl rfl rfl rfl hth.tag rfl h (fun s1 h => ?_)
    exact w_vret rfl ⟨rfl, rfl, h⟩
  · have h := h.2 e
    refine w_aload (p' := 18) rfl rfl rfl rfl ?_
    refine w_iload (p' := 19) rfl rfl rfl rfl ?_
    refine w_aload (p' := 20) rfl rfl rfl rfl ?_
    refine w_iload (p' := 21) rfl rfl rfl rfl ?_
    refine w_const (p' := 22) rfl rfl rfl ?_
    refine w_sub (p' := 23) rfl rfl h.1 ?_
    have h := h.2
    refine v_callI (M' := 224) (p' := 26) (rest := [(.inl v3), (.inr (.inr (.inl (some th))))]) (as := [(.inr (.inr (.inl (some th)))), (.inl (v3 - 1))]) rfl rfl rfl rfl rfl rfl rfl rfl rfl rfl rfl hth.tag rfl h (fun r3 s2 h => ?_)
    refine v_callV (M' := 225) (p' := 29) (rest := []) (as := [(.inr (.inr (.inl (some th)))), (.inl v3), (.inl r3)]) rfl rfl rfl rfl rfl rfl rfl rfl rfl rfl rfl hth.tag rfl h (fun s4 h => ?_)
    refine w_iinc (p' := 32) (ls' := [some (.inr (.inr (.inl (some th)))), some (.inl v1), some (.inl v2), some (.inl (v3 + (-1)))]) rfl rfl rfl (Nat.le_of_ble_eq_true rfl) h.1 rfl ?_
    have h := h.2
    refine w_goto (p' := 12) rfl rfl ?_
    exact w_cut (q_le_s (q_le_s (q_le_s (q_le_s q_le_z)))) h
set_option maxRecDepth 20000 in
theorem sg_Row_remove {X : Nat × (Nat → Int32)} {th : Nat} {x1 : Int} {x2 : Int} {s : qM} {K : qM → Prop} {th_N : Nat} (hth : q_isRow th th_N) (h : (-2147483648 ≤ (x1 + x2) ∧ (x1 + x2) < 2147483648) ∧ L_Row_remove_4 X th x2 (x1 + x2) s K) : c_Row_remove X th x1 x2 s K := by
  unfold c_Row_remove
  refine w_iload (p' := 1) rfl rfl rfl rfl ?_
  refine w_iload (p' := 2) rfl rfl rfl rfl ?_
  refine w_add (p' := 3) rfl rfl h.1 ?_
  have h := h.2
  refine w_istore (p' := 4) (ls' := [some (.inr (.inr (.inl (some th)))), some (.inl x1), some (.inl x2), some (.inl (x1 + x2))]) rfl rfl rfl (Nat.le_of_ble_eq_true rfl) rfl ?_
  exact w_cut (q_le_s (q_le_n (q_le_s (q_le_s q_le_z)))) h
set_option maxRecDepth 20000 in
theorem sg_Row_remove_4 {X : Nat × (Nat → Int32)} {th : Nat} {v2 v3 : Int} {s : qM} {K : qM → Prop} {th_N : Nat} (hth : q_isRow th th_N) (h : ((((s th 1) ≤ v3) → (-2147483648 ≤ ((s th 1) - v2) ∧ ((s th 1) - v2) < 2147483648) ∧ c_Row_cut X th ((s th 1) - v2) s (fun s1 => K s1)) ∧ (¬ ((s th 1) ≤ v3) → (-2147483648 ≤ (v3 - v2) ∧ (v3 - v2) < 2147483648) ∧ c_Row_at X th v3 s (fun r3 s2 => c_Row_set X th (v3 - v2) r3 s2 (fun s4 => (-2147483648 ≤ (v3 + 1) ∧ (v3 + 1) < 2147483648) ∧ L_Row_remove_4 X th v2 (v3 + 1) s4 K))))) : L_Row_remove_4 X th v2 v3 s K := by
  unfold L_Row_remove_4
  refine w_iload (p' := 5) rfl rfl rfl rfl ?_
  refine w_aload (p' := 6) rfl rfl rfl rfl ?_
  refine w_getI (p' := 9) (j := 1) rfl rfl (by decide) rfl hth.tag ?_
  refine w_icmp (t := 30) (e := 12) rfl rfl rfl (fun e => ?_) (fun e => ?_)
  · have h := h.1 e
    refine w_aload (p' := 31) rfl rfl rfl rfl ?_
    refine w_aload (p' := 32) rfl rfl rfl rfl ?_
    refine w_getI (p' := 35) (j := 1) rfl rfl (by decide) rfl hth.tag ?_
    refine w_iload (p' := 36) rfl rfl rfl rfl ?_
    refine w_sub (p' := 37) rfl rfl h.1 ?_
    have h := h.2
    refine v_callV (M' := 228) (p' := 40) (rest := []) (as := [(.inr (.inr (.inl (some th)))), (.inl ((s th 1) - v2))]) rfl rfl rfl rfl rfl rfl rfl rfl rfl rfl rfl hth.tag rfl h (fun s1 h => ?_)
    exact w_vret rfl ⟨rfl, rfl, h⟩
  · have h := h.2 e
    refine w_aload (p' := 13) rfl rfl rfl rfl ?_
    refine w_iload (p' := 14) rfl rfl rfl rfl ?_
    refine w_iload (p' := 15) rfl rfl rfl rfl ?_
    refine w_sub (p' := 16) rfl rfl h.1 ?_
    have h := h.2
    refine w_aload (p' := 17) rfl rfl rfl rfl ?_
    refine w_iload (p' := 18) rfl rfl rfl rfl ?_
    refine v_callI (M' := 224) (p' := 21) (rest := [(.inl (v3 - v2)), (.inr (.inr (.inl (some th))))]) (as := [(.inr (.inr (.inl (some th)))), (.inl v3)]) rfl rfl rfl rfl rfl rfl rfl rfl rfl rfl rfl hth.tag rfl h (fun r3 s2 h => ?_)
    refine v_callV (M' := 225) (p' := 24) (rest := []) (as := [(.inr (.inr (.inl (some th)))), (.inl (v3 - v2)), (.inl r3)]) rfl rfl rfl rfl rfl rfl rfl rfl rfl rfl rfl hth.tag rfl h (fun s4 h => ?_)
    refine w_iinc (p' := 27) (ls' := [some (.inr (.inr (.inl (some th)))), none, some (.inl v2), some (.inl (v3 + 1))]) rfl rfl rfl (Nat.le_of_ble_eq_true rfl) h.1 rfl ?_
    have h := h.2
    refine w_goto (p' := 4) rfl rfl ?_
    exact w_cut (q_le_s (q_le_n (q_le_s (q_le_s q_le_z)))) h
set_option maxRecDepth 20000 in
theorem sg_Row_become {X : Nat × (Nat → Int32)} {th : Nat} {x1 : Nat} {s : qM} {K : qM → Prop} {th_N : Nat} (hth : q_isRow th th_N) {x1_N : Nat} (hx1 : q_isRow x1 x1_N) (h : c_Row_empty X th s (fun s1 => L_Row_become_6 X th x1 0 s1 K)) : c_Row_become X th x1 s K := by
  unfold c_Row_become
  refine w_aload (p' := 1) rfl rfl rfl rfl ?_
  refine v_callV (M' := 227) (p' := 4) (rest := []) (as := [(.inr (.inr (.inl (some th))))]) rfl rfl rfl rfl rfl rfl rfl rfl rfl rfl rfl hth.tag rfl h (fun s1 h => ?_)
  refine w_const (p' := 5) rfl rfl rfl ?_
  refine w_istore (p' := 6) (ls' := [some (.inr (.inr (.inl (some th)))), some (.inr (.inr (.inl (some x1)))), some (.inl 0)]) rfl rfl rfl (Nat.le_of_ble_eq_true rfl) rfl ?_
  exact w_cut (q_le_s (q_le_s (q_le_s q_le_z))) h
set_option maxRecDepth 20000 in
theorem sg_Row_become_6 {X : Nat × (Nat → Int32)} {th : Nat} {x1 : Nat} {v2 : Int} {s : qM} {K : qM → Prop} {th_N : Nat} (hth : q_isRow th th_N) {x1_N : Nat} (hx1 : q_isRow x1 x1_N) (h : c_Row_size X x1 s (fun r2 s1 => (((r2 ≤ v2) → K s1) ∧ (¬ (r2 ≤ v2) → c_Row_at X x1 v2 s1 (fun r4 s3 => c_Row_add X th r4 s3 (fun s5 => (-2147483648 ≤ (v2 + 1) ∧ (v2 + 1) < 2147483648) ∧ L_Row_become_6 X th x1 (v2 + 1) s5 K)))))) : L_Row_become_6 X th x1 v2 s K := by
  unfold L_Row_become_6
  refine w_iload (p' := 7) rfl rfl rfl rfl ?_
  refine w_aload (p' := 8) rfl rfl rfl rfl ?_
  refine v_callI (M' := 223) (p' := 11) (rest := [(.inl v2)]) (as := [(.inr (.inr (.inl (some x1))))]) rfl rfl rfl rfl rfl rfl rfl rfl rfl rfl rfl hx1.tag rfl h (fun r2 s1 h => ?_)
  refine w_icmp (t := 29) (e := 14) rfl rfl rfl (fun e => ?_) (fun e => ?_)
  · have h := h.1 e
    exact w_vret rfl ⟨rfl, rfl, h⟩
  · have h := h.2 e
    refine w_aload (p' := 15) rfl rfl rfl rfl ?_
    refine w_aload (p' := 16) rfl rfl rfl rfl ?_
    refine w_iload (p' := 17) rfl rfl rfl rfl ?_
    refine v_callI (M' := 224) (p' := 20) (rest := [(.inr (.inr (.inl (some th))))]) (as := [(.inr (.inr (.inl (some x1)))), (.inl v2)]) rfl rfl rfl rfl rfl rfl rfl rfl rfl rfl rfl hx1.tag rfl h (fun r4 s3 h => ?_)
    refine v_callV (M' := 226) (p' := 23) (rest := []) (as := [(.inr (.inr (.inl (some th)))), (.inl r4)]) rfl rfl rfl rfl rfl rfl rfl rfl rfl rfl rfl hth.tag rfl h (fun s5 h => ?_)
    refine w_iinc (p' := 26) (ls' := [some (.inr (.inr (.inl (some th)))), some (.inr (.inr (.inl (some x1)))), some (.inl (v2 + 1))]) rfl rfl rfl (Nat.le_of_ble_eq_true rfl) h.1 rfl ?_
    have h := h.2
    refine w_goto (p' := 6) rfl rfl ?_
    exact w_cut (q_le_s (q_le_s (q_le_s q_le_z))) h
set_option maxRecDepth 20000 in
theorem sg_Runs_empty {X : Nat × (Nat → Int32)}  {s : qM} {K : qM → Prop} (h : c_Runs_cut X 0 s (fun s1 => K s1)) : c_Runs_empty X  s K := by
  unfold c_Runs_empty
  refine w_aload (p' := 1) rfl rfl rfl rfl ?_
  refine w_const (p' := 2) rfl rfl rfl ?_
  refine v_callV (M' := 235) (p' := 5) (rest := []) (as := [(.inr (.inr (.inl (some 53)))), (.inl 0)]) rfl rfl rfl rfl rfl rfl rfl rfl rfl rfl rfl rfl rfl h (fun s1 h => ?_)
  exact w_vret rfl ⟨rfl, rfl, h⟩
set_option maxRecDepth 20000 in
theorem sg_Runs_cut {X : Nat × (Nat → Int32)} {x1 : Int} {s : qM} {K : qM → Prop} (h : c_Row_cut X 54 x1 s (fun s1 => c_Row_cut X 56 x1 s1 (fun s2 => c_Row_cut X 58 x1 s2 (fun s3 => c_Row_cut X 60 x1 s3 (fun s4 => c_Row_cut X 62 x1 s4 (fun s5 => K s5)))))) : c_Runs_cut X x1 s K := by
  unfold c_Runs_cut
  refine w_aload (p' := 1) rfl rfl rfl rfl ?_
  refine w_getR (p' := 4) rfl rfl rfl rfl rfl ?_
  refine w_iload (p' := 5) rfl rfl rfl rfl ?_
  refine v_callV (M' := 228) (p' := 8) (rest := []) (as := [(.inr (.inr (.inl (some 54)))), (.inl x1)]) rfl rfl rfl rfl rfl rfl rfl rfl rfl rfl rfl rfl rfl h (fun s1 h => ?_)
  refine w_aload (p' := 9) rfl rfl rfl rfl ?_
  refine w_getR (p' := 12) rfl rfl rfl rfl rfl ?_
  refine w_iload (p' := 13) rfl rfl rfl rfl ?_
  refine v_callV (M' := 228) (p' := 16) (rest := []) (as := [(.inr (.inr (.inl (some 56)))), (.inl x1)]) rfl rfl rfl rfl rfl rfl rfl rfl rfl rfl rfl rfl rfl h (fun s2 h => ?_)
  refine w_aload (p' := 17) rfl rfl rfl rfl ?_
  refine w_getR (p' := 20) rfl rfl rfl rfl rfl ?_
  refine w_iload (p' := 21) rfl rfl rfl rfl ?_
  refine v_callV (M' := 228) (p' := 24) (rest := []) (as := [(.inr (.inr (.inl (some 58)))), (.inl x1)]) rfl rfl rfl rfl rfl rfl rfl rfl rfl rfl rfl rfl rfl h (fun s3 h => ?_)
  refine w_aload (p' := 25) rfl rfl rfl rfl ?_
  refine w_getR (p' := 28) rfl rfl rfl rfl rfl ?_
  refine w_iload (p' := 29) rfl rfl rfl rfl ?_
  refine v_callV (M' := 228) (p' := 32) (rest := []) (as := [(.inr (.inr (.inl (some 60)))), (.inl x1)]) rfl rfl rfl rfl rfl rfl rfl rfl rfl rfl rfl rfl rfl h (fun s4 h => ?_)
  refine w_aload (p' := 33) rfl rfl rfl rfl ?_
  refine w_getR (p' := 36) rfl rfl rfl rfl rfl ?_
  refine w_iload (p' := 37) rfl rfl rfl rfl ?_
  refine v_callV (M' := 228) (p' := 40) (rest := []) (as := [(.inr (.inr (.inl (some 62)))), (.inl x1)]) rfl rfl rfl rfl rfl rfl rfl rfl rfl rfl rfl rfl rfl h (fun s5 h => ?_)
  exact w_vret rfl ⟨rfl, rfl, h⟩
set_option maxRecDepth 20000 in
theorem sg_Runs_add {X : Nat × (Nat → Int32)} {x1 : Int} {x2 : Int} {x3 : Int} {x4 : Int} {s : qM} {K : qM → Prop} (h : c_Row_add X 54 x1 s (fun s1 => c_Row_add X 56 x2 s1 (fun s2 => (-2147483648 ≤ (x2 - x1) ∧ (x2 - x1) < 2147483648) ∧ c_Row_add X 58 (x2 - x1) s2 (fun s3 => c_Runs_isFlank X x4 x3 s3 (fun r5 s4 => (((r5 = 0) → c_Row_add X 60 0 s4 (fun s6 => c_Runs_isFlank X x3 x4 s6 (fun r8 s7 => (((r8 = 0) → c_Row_add X 62 0 s7 (fun s9 => K s9)) ∧ (¬ (r8 = 0) → c_Row_add X 62 1 s7 (fun s10 => K s10)))))) ∧ (¬ (r5 = 0) → c_Row_add X 60 1 s4 (fun s11 => c_Runs_isFlank X x3 x4 s11 (fun r13 s12 => (((r13 = 0) → c_Row_add X 62 0 s12 (fun s14 => K s14)) ∧ (¬ (r13 = 0) → c_Row_add X 62 1 s12 (fun s15 => K s15)))))))))))) : c_Runs_add X x1 x2 x3 x4 s K := by
  unfold c_Runs_add
  refine w_aload (p' := 1) rfl rfl rfl rfl ?_
  refine w_getR (p' := 4) rfl rfl rfl rfl rfl ?_
  refine w_iload (p' := 5) rfl rfl rfl rfl ?_
  refine v_callV (M' := 226) (p' := 8) (rest := []) (as := [(.inr (.inr (.inl (some 54)))), (.inl x1)]) rfl rfl rfl rfl rfl rfl rfl rfl rfl rfl rfl rfl rfl h (fun s1 h => ?_)
  refine w_aload (p' := 9) rfl rfl rfl rfl ?_
  refine w_getR (p' := 12) rfl rfl rfl rfl rfl ?_
  refine w_iload (p' := 13) rfl rfl rfl rfl ?_
  refine v_callV (M' := 226) (p' := 16) (rest := []) (as := [(.inr (.inr (.inl (some 56)))), (.inl x2)]) rfl rfl rfl rfl rfl rfl rfl rfl rfl rfl rfl rfl rfl h (fun s2 h => ?_)
  refine w_aload (p' := 17) rfl rfl rfl rfl ?_
  refine w_getR (p' := 20) rfl rfl rfl rfl rfl ?_
  refine w_iload (p' := 21) rfl rfl rfl rfl ?_
  refine w_iload (p' := 22) rfl rfl rfl rfl ?_
  refine w_sub (p' := 23) rfl rfl h.1 ?_
  have h := h.2
  refine v_callV (M' := 226) (p' := 26) (rest := []) (as := [(.inr (.inr (.inl (some 58)))), (.inl (x2 - x1))]) rfl rfl rfl rfl rfl rfl rfl rfl rfl rfl rfl rfl rfl h (fun s3 h => ?_)
  refine w_aload (p' := 27) rfl rfl rfl rfl ?_
  refine w_getR (p' := 30) rfl rfl rfl rfl rfl ?_
  refine w_aload (p' := 31) rfl rfl rfl rfl ?_
  refine w_iload (p' := 33) rfl rfl rfl rfl ?_
  refine w_iload (p' := 34) rfl rfl rfl rfl ?_
  refine v_callI (M' := 237) (p' := 37) (rest := [(.inr (.inr (.inl (some 60))))]) (as := [(.inr (.inr (.inl (some 53)))), (.inl x4), (.inl x3)]) rfl rfl rfl rfl rfl rfl rfl rfl rfl rfl rfl rfl rfl h (fun r5 s4 h => ?_)
  refine w_if (t := 44) (e := 40) rfl rfl rfl (fun e => ?_) (fun e => ?_)
  · have h := h.1 e
    refine w_const (p' := 45) rfl rfl rfl ?_
    refine v_callV (M' := 226) (p' := 48) (rest := []) (as := [(.inr (.inr (.inl (some 60)))), (.inl 0)]) rfl rfl rfl rfl rfl rfl rfl rfl rfl rfl rfl rfl rfl h (fun s6 h => ?_)
    refine w_aload (p' := 49) rfl rfl rfl rfl ?_
    refine w_getR (p' := 52) rfl rfl rfl rfl rfl ?_
    refine w_aload (p' := 53) rfl rfl rfl rfl ?_
    refine w_iload (p' := 54) rfl rfl rfl rfl ?_
    refine w_iload (p' := 56) rfl rfl rfl rfl ?_
    refine v_callI (M' := 237) (p' := 59) (rest := [(.inr (.inr (.inl (some 62))))]) (as := [(.inr (.inr (.inl (some 53)))), (.inl x3), (.inl x4)]) rfl rfl rfl rfl rfl rfl rfl rfl rfl rfl rfl rfl rfl h (fun r8 s7 h => ?_)
    refine w_if (t := 66) (e := 62) rfl rfl rfl (fun e => ?_) (fun e => ?_)
    · have h := h.1 e
      refine w_const (p' := 67) rfl rfl rfl ?_
      refine v_callV (M' := 226) (p' := 70) (rest := []) (as := [(.inr (.inr (.inl (some 62)))), (.inl 0)]) rfl rfl rfl rfl rfl rfl rfl rfl rfl rfl rfl rfl rfl h (fun s9 h => ?_)
      exact w_vret rfl ⟨rfl, rfl, h⟩
    · have h := h.2 e
      refine w_const (p' := 63) rfl rfl rfl ?_
      refine w_goto (p' := 67) rfl rfl ?_
      refine v_callV (M' := 226) (p' := 70) (rest := []) (as := [(.inr (.inr (.inl (some 62)))), (.inl 1)]) rfl rfl rfl rfl rfl rfl rfl rfl rfl rfl rfl rfl rfl h (fun s10 h => ?_)
      exact w_vret rfl ⟨rfl, rfl, h⟩
  · have h := h.2 e
    refine w_const (p' := 41) rfl rfl rfl ?_
    refine w_goto (p' := 45) rfl rfl ?_
    refine v_callV (M' := 226) (p' := 48) (rest := []) (as := [(.inr (.inr (.inl (some 60)))), (.inl 1)]) rfl rfl rfl rfl rfl rfl rfl rfl rfl rfl rfl rfl rfl h (fun s11 h => ?_)
    refine w_aload (p' := 49) rfl rfl rfl rfl ?_
    refine w_getR (p' := 52) rfl rfl rfl rfl rfl ?_
    refine w_aload (p' := 53) rfl rfl rfl rfl ?_
    refine w_iload (p' := 54) rfl rfl rfl rfl ?_
    refine w_iload (p' := 56) rfl rfl rfl rfl ?_
    refine v_callI (M' := 237) (p' := 59) (rest := [(.inr (.inr (.inl (some 62))))]) (as := [(.inr (.inr (.inl (some 53)))), (.inl x3), (.inl x4)]) rfl rfl rfl rfl rfl rfl rfl rfl rfl rfl rfl rfl rfl h (fun r13 s12 h => ?_)
    refine w_if (t := 66) (e := 62) rfl rfl rfl (fun e => ?_) (fun e => ?_)
    · have h := h.1 e
      refine w_const (p' := 67) rfl rfl rfl ?_
      refine v_callV (M' := 226) (p' := 70) (rest := []) (as := [(.inr (.inr (.inl (some 62)))), (.inl 0)]) rfl rfl rfl rfl rfl rfl rfl rfl rfl rfl rfl rfl rfl h (fun s14 h => ?_)
      exact w_vret rfl ⟨rfl, rfl, h⟩
    · have h := h.2 e
      refine w_const (p' := 63) rfl rfl rfl ?_
      refine w_goto (p' := 67) rfl rfl ?_
      refine v_callV (M' := 226) (p' := 70) (rest := []) (as := [(.inr (.inr (.inl (some 62)))), (.inl 1)]) rfl rfl rfl rfl rfl rfl rfl rfl rfl rfl rfl rfl rfl h (fun s15 h => ?_)
      exact w_vret rfl ⟨rfl, rfl, h⟩
set_option maxRecDepth 20000 in
theorem sg_Runs_isFlank {X : Nat × (Nat → Int32)} {x1 : Int} {x2 : Int} {s : qM} {K : Int → qM → Prop} (h : c_T_isGap X x1 s (fun r2 s1 => (((r2 ≠ 0) → K 0 s1) ∧ (¬ (r2 ≠ 0) → c_T_isSign X x1 s1 (fun r4 s3 => (((r4 = 0) → K 1 s3) ∧ (¬ (r4 = 0) → c_T_isGap X x2 s3 (fun r6 s5 => (((r6 ≠ 0) → K 1 s5) ∧ (¬ (r6 ≠ 0) → c_T_isSign X x2 s5 (fun r8 s7 => (((r8 = 0) → K 0 s7) ∧ (¬ (r8 = 0) → K 1 s7))))))))))))) : c_Runs_isFlank X x1 x2 s K := by
  unfold c_Runs_isFlank
  refine w_iload (p' := 1) rfl rfl rfl rfl ?_
  refine v_callI (M' := 38) (p' := 4) (rest := []) (as := [(.inl x1)]) rfl rfl rfl rfl rfl rfl rfl rfl rfl rfl rfl trivial rfl h (fun r2 s1 h => ?_)
  refine w_if (t := 32) (e := 7) rfl rfl rfl (fun e => ?_) (fun e => ?_)
  · have h := h.1 e
    refine w_const (p' := 33) rfl rfl rfl ?_
    exact w_iret rfl ⟨by decide, by decide⟩ ⟨rfl, _, rfl, h⟩
  · have h := h.2 e
    refine w_iload (p' := 8) rfl rfl rfl rfl ?_
    refine v_callI (M' := 37) (p' := 11) (rest := []) (as := [(.inl x1)]) rfl rfl rfl rfl rfl rfl rfl rfl rfl rfl rfl trivial rfl h (fun r4 s3 h => ?_)
    refine w_if (t := 28) (e := 14) rfl rfl rfl (fun e => ?_) (fun e => ?_)
    · have h := h.1 e
      refine w_const (p' := 29) rfl rfl rfl ?_
      refine w_goto (p' := 33) rfl rfl ?_
      exact w_iret rfl ⟨by decide, by decide⟩ ⟨rfl, _, rfl, h⟩
    · have h := h.2 e
      refine w_iload (p' := 15) rfl rfl rfl rfl ?_
      refine v_callI (M' := 38) (p' := 18) (rest := []) (as := [(.inl x2)]) rfl rfl rfl rfl rfl rfl rfl rfl rfl rfl rfl trivial rfl h (fun r6 s5 h => ?_)
      refine w_if (t := 28) (e := 21) rfl rfl rfl (fun e => ?_) (fun e => ?_)
      · have h := h.1 e
        refine w_const (p' := 29) rfl rfl rfl ?_
        refine w_goto (p' := 33) rfl rfl ?_
        exact w_iret rfl ⟨by decide, by decide⟩ ⟨rfl, _, rfl, h⟩
      · have h := h.2 e
        refine w_iload (p' := 22) rfl rfl rfl rfl ?_
        refine v_callI (M' := 37) (p' := 25) (rest := []) (as := [(.inl x2)]) rfl rfl rfl rfl rfl rfl rfl rfl rfl rfl rfl trivial rfl h (fun r8 s7 h => ?_)
        refine w_if (t := 32) (e := 28) rfl rfl rfl (fun e => ?_) (fun e => ?_)
        · have h := h.1 e
          refine w_const (p' := 33) rfl rfl rfl ?_
          exact w_iret rfl ⟨by decide, by decide⟩ ⟨rfl, _, rfl, h⟩
        · have h := h.2 e
          refine w_const (p' := 29) rfl rfl rfl ?_
          refine w_goto (p' := 33) rfl rfl ?_
          exact w_iret rfl ⟨by decide, by decide⟩ ⟨rfl, _, rfl, h⟩
set_option maxRecDepth 20000 in
theorem sg_Runs_firstBehind {X : Nat × (Nat → Int32)} {x1 : Int} {s : qM} {K : Int → qM → Prop} (h : L_Runs_firstBehind_2 X x1 0 s K) : c_Runs_firstBehind X x1 s K := by
  unfold c_Runs_firstBehind
  refine w_const (p' := 1) rfl rfl rfl ?_
  refine w_istore (p' := 2) (ls' := [some (.inr (.inr (.inl (some 53)))), some (.inl x1), some (.inl 0)]) rfl rfl rfl (Nat.le_of_ble_eq_true rfl) rfl ?_
  exact w_cut (q_le_s (q_le_s (q_le_s q_le_z))) h
set_option maxRecDepth 20000 in
theorem sg_Runs_firstBehind_2 {X : Nat × (Nat → Int32)}  {v1 v2 : Int} {s : qM} {K : Int → qM → Prop} (h : c_Row_size X 54 s (fun r2 s1 => (((r2 ≤ v2) → c_Row_size X 54 s1 (fun r4 s3 => K r4 s3)) ∧ (¬ (r2 ≤ v2) → c_Row_at X 54 v2 s1 (fun r6 s5 => (((r6 ≤ v1) → (-2147483648 ≤ (v2 + 1) ∧ (v2 + 1) < 2147483648) ∧ L_Runs_firstBehind_2 X v1 (v2 + 1) s5 K) ∧ (¬ (r6 ≤ v1) → K v2 s5))))))) : L_Runs_firstBehind_2 X v1 v2 s K := by
  unfold L_Runs_firstBehind_2
  refine w_iload (p' := 3) rfl rfl rfl rfl ?_
  refine w_aload (p' := 4) rfl rfl rfl rfl ?_
  refine w_getR (p' := 7) rfl rfl rfl rfl rfl ?_
  refine v_callI (M' := 223) (p' := 10) (rest := [(.inl v2)]) (as := [(.inr (.inr (.inl (some 54))))]) rfl rfl rfl rfl rfl rfl rfl rfl rfl rfl rfl rfl rfl h (fun r2 s1 h => ?_)
  refine w_icmp (t := 33) (e := 13) rfl rfl rfl (fun e => ?_) (fun e => ?_)
  · have h := h.1 e
    refine w_aload (p' := 34) rfl rfl rfl rfl ?_
    refine w_getR (p' := 37) rfl rfl rfl rfl rfl ?_
    refine v_callI (M' := 223) (p' := 40) (rest := []) (as := [(.inr (.inr (.inl (some 54))))]) rfl rfl rfl rfl rfl rfl rfl rfl rfl rfl rfl rfl rfl h (fun r4 s3 h => ?_)
    exact w_iret rfl trivial ⟨rfl, _, rfl, h⟩
  · have h := h.2 e
    refine w_aload (p' := 14) rfl rfl rfl rfl ?_
    refine w_getR (p' := 17) rfl rfl rfl rfl rfl ?_
    refine w_iload (p' := 18) rfl rfl rfl rfl ?_
    refine v_callI (M' := 224) (p' := 21) (rest := []) (as := [(.inr (.inr (.inl (some 54)))), (.inl v2)]) rfl rfl rfl rfl rfl rfl rfl rfl rfl rfl rfl rfl rfl h (fun r6 s5 h => ?_)
    refine w_iload (p' := 22) rfl rfl rfl rfl ?_
    refine w_icmp (t := 27) (e := 25) rfl rfl rfl (fun e => ?_) (fun e => ?_)
    · have h := h.1 e
      refine w_iinc (p' := 30) (ls' := [some (.inr (.inr (.inl (some 53)))), some (.inl v1), some (.inl (v2 + 1))]) rfl rfl rfl (Nat.le_of_ble_eq_true rfl) h.1 rfl ?_
      have h := h.2
      refine w_goto (p' := 2) rfl rfl ?_
      exact w_cut (q_le_s (q_le_s (q_le_s q_le_z))) h
    · have h := h.2 e
      refine w_iload (p' := 26) rfl rfl rfl rfl ?_
      exact w_iret rfl trivial ⟨rfl, _, rfl, h⟩
set_option maxRecDepth 20000 in
theorem sg_Runs_resolve {X : Nat × (Nat → Int32)} {x1 : Int} {x2 : Nat} {s : qM} {K : qM → Prop} {x2_N : Nat} (hx2 : q_isRow x2 x2_N) (h : L_Runs_resolve_2 X x2 x1 x1 s K) : c_Runs_resolve X x1 x2 s K := by
  unfold c_Runs_resolve
  refine w_iload (p' := 1) rfl rfl rfl rfl ?_
  refine w_istore (p' := 2) (ls' := [some (.inr (.inr (.inl (some 53)))), some (.inl x1), some (.inr (.inr (.inl (some x2)))), some (.inl x1), none, none]) rfl rfl rfl (Nat.le_of_ble_eq_true rfl) rfl ?_
  exact w_cut (q_le_s (q_le_s (q_le_s (q_le_s (q_le_n (q_le_n q_le_z)))))) h
set_option maxRecDepth 20000 in
theorem sg_Runs_resolve_2 {X : Nat × (Nat → Int32)} {x2 : Nat} {v1 v3 : Int} {s : qM} {K : qM → Prop} {x2_N : Nat} (hx2 : q_isRow x2 x2_N) (h : c_Row_size X 54 s (fun r2 s1 => (((r2 ≤ v3) → c_Runs_cut X v1 s1 (fun s3 => K s3)) ∧ (¬ (r2 ≤ v3) → L_Runs_resolve_16 X x2 v1 v3 0 s1 K)))) : L_Runs_resolve_2 X x2 v1 v3 s K := by
  unfold L_Runs_resolve_2
  refine w_iload (p' := 3) rfl rfl rfl rfl ?_
  refine w_aload (p' := 4) rfl rfl rfl rfl ?_
  refine w_getR (p' := 7) rfl rfl rfl rfl rfl ?_
  refine v_callI (M' := 223) (p' := 10) (rest := [(.inl v3)]) (as := [(.inr (.inr (.inl (some 54))))]) rfl rfl rfl rfl rfl rfl rfl rfl rfl rfl rfl rfl rfl h (fun r2 s1 h => ?_)
  refine w_icmp (t := 81) (e := 13) rfl rfl rfl (fun e => ?_) (fun e => ?_)
  · have h := h.1 e
    refine w_aload (p' := 82) rfl rfl rfl rfl ?_
    refine w_iload (p' := 83) rfl rfl rfl rfl ?_
    refine v_callV (M' := 235) (p' := 86) (rest := []) (as := [(.inr (.inr (.inl (some 53)))), (.inl v1)]) rfl rfl rfl rfl rfl rfl rfl rfl rfl rfl rfl rfl rfl h (fun s3 h => ?_)
    exact w_vret rfl ⟨rfl, rfl, h⟩
  · have h := h.2 e
    refine w_const (p' := 14) rfl rfl rfl ?_
    refine w_istore (p' := 16) (ls' := [some (.inr (.inr (.inl (some 53)))), some (.inl v1), some (.inr (.inr (.inl (some x2)))), some (.inl v3), some (.inl 0), none]) rfl rfl rfl (Nat.le_of_ble_eq_true rfl) rfl ?_
    exact w_cut (q_le_s (q_le_s (q_le_s (q_le_s (q_le_s (q_le_n q_le_z)))))) h
set_option maxRecDepth 20000 in
theorem sg_Runs_resolve_16 {X : Nat × (Nat → Int32)} {x2 : Nat} {v1 v3 v4 : Int} {s : qM} {K : qM → Prop} {x2_N : Nat} (hx2 : q_isRow x2 x2_N) (h : (((240 ≤ v4) → (-2147483648 ≤ (v3 + 1) ∧ (v3 + 1) < 2147483648) ∧ L_Runs_resolve_2 X x2 v1 (v3 + 1) s K) ∧ (¬ (240 ≤ v4) → c_Row_at X 62 v3 s (fun r2 s1 => (((r2 ≠ 1) → (-2147483648 ≤ (v3 + 1) ∧ (v3 + 1) < 2147483648) ∧ L_Runs_resolve_2 X x2 v1 (v3 + 1) s1 K) ∧ (¬ (r2 ≠ 1) → c_Runs_left X v3 s1 (fun r4 s3 => (((r4 ≤ 0) → (-2147483648 ≤ (v3 + 1) ∧ (v3 + 1) < 2147483648) ∧ L_Runs_resolve_2 X x2 v1 (v3 + 1) s3 K) ∧ (¬ (r4 ≤ 0) → c_Runs_openerOf X v3 v1 s3 (fun r6 s5 => (((r6 ≠ (-1)) → c_Runs_pair X r6 v3 x2 s5 (fun s7 => (-2147483648 ≤ (v4 + 1) ∧ (v4 + 1) < 2147483648) ∧ L_Runs_resolve_16 X x2 v1 v3 (v4 + 1) s7 K)) ∧ (¬ (r6 ≠ (-1)) → (-2147483648 ≤ (v3 + 1) ∧ (v3 + 1) < 2147483648) ∧ L_Runs_resolve_2 X x2 v1 (v3 + 1) s5 K)))))))))))) : L_Runs_resolve_16 X x2 v1 v3 v4 s K := by
  unfold L_Runs_resolve_16
  refine w_iload (p' := 18) rfl rfl rfl rfl ?_
  refine w_const (p' := 21) rfl rfl rfl ?_
  refine w_icmp (t := 75) (e := 24) rfl rfl rfl (fun e => ?_) (fun e => ?_)
  · have h := h.1 e
    refine w_iinc (p' := 78) (ls' := [some (.inr (.inr (.inl (some 53)))), some (.inl v1), some (.inr (.inr (.inl (some x2)))), some (.inl (v3 + 1)), some (.inl v4), none]) rfl rfl rfl (Nat.le_of_ble_eq_true rfl) h.1 rfl ?_
    have h := h.2
    refine w_goto (p' := 2) rfl rfl ?_
    exact w_cut (q_le_s (q_le_s (q_le_s (q_le_s (q_le_n (q_le_n q_le_z)))))) h
  · have h := h.2 e
    refine w_aload (p' := 25) rfl rfl rfl rfl ?_
    refine w_getR (p' := 28) rfl rfl rfl rfl rfl ?_
    refine w_iload (p' := 29) rfl rfl rfl rfl ?_
    refine v_callI (M' := 224) (p' := 32) (rest := []) (as := [(.inr (.inr (.inl (some 62)))), (.inl v3)]) rfl rfl rfl rfl rfl rfl rfl rfl rfl rfl rfl rfl rfl h (fun r2 s1 h => ?_)
    refine w_const (p' := 33) rfl rfl rfl ?_
    refine w_icmp (t := 75) (e := 36) rfl rfl rfl (fun e => ?_) (fun e => ?_)
    · have h := h.1 e
      refine w_iinc (p' := 78) (ls' := [some (.inr (.inr (.inl (some 53)))), some (.inl v1), some (.inr (.inr (.inl (some x2)))), some (.inl (v3 + 1)), some (.inl v4), none]) rfl rfl rfl (Nat.le_of_ble_eq_true rfl) h.1 rfl ?_
      have h := h.2
      refine w_goto (p' := 2) rfl rfl ?_
      exact w_cut (q_le_s (q_le_s (q_le_s (q_le_s (q_le_n (q_le_n q_le_z)))))) h
    · have h := h.2 e
      refine w_aload (p' := 37) rfl rfl rfl rfl ?_
      refine w_iload (p' := 38) rfl rfl rfl rfl ?_
      refine v_callI (M' := 240) (p' := 41) (rest := []) (as := [(.inr (.inr (.inl (some 53)))), (.inl v3)]) rfl rfl rfl rfl rfl rfl rfl rfl rfl rfl rfl rfl rfl h (fun r4 s3 h => ?_)
      refine w_if (t := 75) (e := 44) rfl rfl rfl (fun e => ?_) (fun e => ?_)
      · have h := h.1 e
        refine w_iinc (p' := 78) (ls' := [some (.inr (.inr (.inl (some 53)))), some (.inl v1), some (.inr (.inr (.inl (some x2)))), some (.inl (v3 + 1)), some (.inl v4), none]) rfl rfl rfl (Nat.le_of_ble_eq_true rfl) h.1 rfl ?_
        have h := h.2
        refine w_goto (p' := 2) rfl rfl ?_
        exact w_cut (q_le_s (q_le_s (q_le_s (q_le_s (q_le_n (q_le_n q_le_z)))))) h
      · have h := h.2 e
        refine w_aload (p' := 45) rfl rfl rfl rfl ?_
        refine w_iload (p' := 46) rfl rfl rfl rfl ?_
        refine w_iload (p' := 47) rfl rfl rfl rfl ?_
        refine v_callI (M' := 241) (p' := 50) (rest := []) (as := [(.inr (.inr (.inl (some 53)))), (.inl v3), (.inl v1)]) rfl rfl rfl rfl rfl rfl rfl rfl rfl rfl rfl rfl rfl h (fun r6 s5 h => ?_)
        refine w_istore (p' := 52) (ls' := [some (.inr (.inr (.inl (some 53)))), some (.inl v1), some (.inr (.inr (.inl (some x2)))), some (.inl v3), some (.inl v4), some (.inl r6)]) rfl rfl rfl (Nat.le_of_ble_eq_true rfl) rfl ?_
        refine w_iload (p' := 54) rfl rfl rfl rfl ?_
        refine w_const (p' := 55) rfl rfl rfl ?_
        refine w_icmp (t := 61) (e := 58) rfl rfl rfl (fun e => ?_) (fun e => ?_)
        · have h := h.1 e
          refine w_aload (p' := 62) rfl rfl rfl rfl ?_
          refine w_iload (p' := 64) rfl rfl rfl rfl ?_
          refine w_iload (p' := 65) rfl rfl rfl rfl ?_
          refine w_aload (p' := 66) rfl rfl rfl rfl ?_
          refine v_callV (M' := 243) (p' := 69) (rest := []) (as := [(.inr (.inr (.inl (some 53)))), (.inl r6), (.inl v3), (.inr (.inr (.inl (some x2))))]) rfl rfl rfl rfl rfl rfl rfl rfl rfl rfl rfl rfl rfl h (fun s7 h => ?_)
          refine w_iinc (p' := 72) (ls' := [some (.inr (.inr (.inl (some 53)))), some (.inl v1), some (.inr (.inr (.inl (some x2)))), some (.inl v3), some (.inl (v4 + 1)), some (.inl r6)]) rfl rfl rfl (Nat.le_of_ble_eq_true rfl) h.1 rfl ?_
          have h := h.2
          refine w_goto (p' := 16) rfl rfl ?_
          exact w_cut (q_le_s (q_le_s (q_le_s (q_le_s (q_le_s (q_le_n q_le_z)))))) h
        · have h := h.2 e
          refine w_goto (p' := 75) rfl rfl ?_
          refine w_iinc (p' := 78) (ls' := [some (.inr (.inr (.inl (some 53)))), some (.inl v1), some (.inr (.inr (.inl (some x2)))), some (.inl (v3 + 1)), some (.inl v4), some (.inl r6)]) rfl rfl rfl (Nat.le_of_ble_eq_true rfl) h.1 rfl ?_
          have h := h.2
          refine w_goto (p' := 2) rfl rfl ?_
          exact w_cut (q_le_s (q_le_s (q_le_s (q_le_s (q_le_n (q_le_n q_le_z)))))) h
set_option maxRecDepth 20000 in
theorem sg_Runs_left {X : Nat × (Nat → Int32)} {x1 : Int} {s : qM} {K : Int → qM → Prop} (h : c_Row_at X 56 x1 s (fun r2 s1 => c_Row_at X 54 x1 s1 (fun r4 s3 => (-2147483648 ≤ (r2 - r4) ∧ (r2 - r4) < 2147483648) ∧ K (r2 - r4) s3))) : c_Runs_left X x1 s K := by
  unfold c_Runs_left
  refine w_aload (p' := 1) rfl rfl rfl rfl ?_
  refine w_getR (p' := 4) rfl rfl rfl rfl rfl ?_
  refine w_iload (p' := 5) rfl rfl rfl rfl ?_
  refine v_callI (M' := 224) (p' := 8) (rest := []) (as := [(.inr (.inr (.inl (some 56)))), (.inl x1)]) rfl rfl rfl rfl rfl rfl rfl rfl rfl rfl rfl rfl rfl h (fun r2 s1 h => ?_)
  refine w_aload (p' := 9) rfl rfl rfl rfl ?_
  refine w_getR (p' := 12) rfl rfl rfl rfl rfl ?_
  refine w_iload (p' := 13) rfl rfl rfl rfl ?_
  refine v_callI (M' := 224) (p' := 16) (rest := [(.inl r2)]) (as := [(.inr (.inr (.inl (some 54)))), (.inl x1)]) rfl rfl rfl rfl rfl rfl rfl rfl rfl rfl rfl rfl rfl h (fun r4 s3 h => ?_)
  refine w_sub (p' := 17) rfl rfl h.1 ?_
  have h := h.2
  exact w_iret rfl trivial ⟨rfl, _, rfl, h⟩
set_option maxRecDepth 20000 in
theorem sg_Runs_openerOf {X : Nat × (Nat → Int32)} {x1 : Int} {x2 : Int} {s : qM} {K : Int → qM → Prop} (h : (-2147483648 ≤ (x1 - 1) ∧ (x1 - 1) < 2147483648) ∧ L_Runs_openerOf_4 X x1 x2 (x1 - 1) s K) : c_Runs_openerOf X x1 x2 s K := by
  unfold c_Runs_openerOf
  refine w_iload (p' := 1) rfl rfl rfl rfl ?_
  refine w_const (p' := 2) rfl rfl rfl ?_
  refine w_sub (p' := 3) rfl rfl h.1 ?_
  have h := h.2
  refine w_istore (p' := 4) (ls' := [some (.inr (.inr (.inl (some 53)))), some (.inl x1), some (.inl x2), some (.inl (x1 - 1))]) rfl rfl rfl (Nat.le_of_ble_eq_true rfl) rfl ?_
  exact w_cut (q_le_s (q_le_s (q_le_s (q_le_s q_le_z)))) h
set_option maxRecDepth 20000 in
theorem sg_Runs_openerOf_4 {X : Nat × (Nat → Int32)}  {v1 v2 v3 : Int} {s : qM} {K : Int → qM → Prop} (h : (((v3 < v2) → K (-1) s) ∧ (¬ (v3 < v2) → c_Row_at X 60 v3 s (fun r2 s1 => (((r2 ≠ 1) → (-2147483648 ≤ (v3 + (-1)) ∧ (v3 + (-1)) < 2147483648) ∧ L_Runs_openerOf_4 X v1 v2 (v3 + (-1)) s1 K) ∧ (¬ (r2 ≠ 1) → c_Runs_left X v3 s1 (fun r4 s3 => (((r4 ≤ 0) → (-2147483648 ≤ (v3 + (-1)) ∧ (v3 + (-1)) < 2147483648) ∧ L_Runs_openerOf_4 X v1 v2 (v3 + (-1)) s3 K) ∧ (¬ (r4 ≤ 0) → c_Runs_breaksRule X v3 v1 s3 (fun r6 s5 => (((r6 ≠ 0) → (-2147483648 ≤ (v3 + (-1)) ∧ (v3 + (-1)) < 2147483648) ∧ L_Runs_openerOf_4 X v1 v2 (v3 + (-1)) s5 K) ∧ (¬ (r6 ≠ 0) → K v3 s5)))))))))))) : L_Runs_openerOf_4 X v1 v2 v3 s K := by
  unfold L_Runs_openerOf_4
  refine w_iload (p' := 5) rfl rfl rfl rfl ?_
  refine w_iload (p' := 6) rfl rfl rfl rfl ?_
  refine w_icmp (t := 46) (e := 9) rfl rfl rfl (fun e => ?_) (fun e => ?_)
  · have h := h.1 e
    refine w_const (p' := 47) rfl rfl rfl ?_
    exact w_iret rfl trivial ⟨rfl, _, rfl, h⟩
  · have h := h.2 e
    refine w_aload (p' := 10) rfl rfl rfl rfl ?_
    refine w_getR (p' := 13) rfl rfl rfl rfl rfl ?_
    refine w_iload (p' := 14) rfl rfl rfl rfl ?_
    refine v_callI (M' := 224) (p' := 17) (rest := []) (as := [(.inr (.inr (.inl (some 60)))), (.inl v3)]) rfl rfl rfl rfl rfl rfl rfl rfl rfl rfl rfl rfl rfl h (fun r2 s1 h => ?_)
    refine w_const (p' := 18) rfl rfl rfl ?_
    refine w_icmp (t := 40) (e := 21) rfl rfl rfl (fun e => ?_) (fun e => ?_)
    · have h := h.1 e
      refine w_iinc (p' := 43) (ls' := [some (.inr (.inr (.inl (some 53)))), some (.inl v1), some (.inl v2), some (.inl (v3 + (-1)))]) rfl rfl rfl (Nat.le_of_ble_eq_true rfl) h.1 rfl ?_
      have h := h.2
      refine w_goto (p' := 4) rfl rfl ?_
      exact w_cut (q_le_s (q_le_s (q_le_s (q_le_s q_le_z)))) h
    · have h := h.2 e
      refine w_aload (p' := 22) rfl rfl rfl rfl ?_
      refine w_iload (p' := 23) rfl rfl rfl rfl ?_
      refine v_callI (M' := 240) (p' := 26) (rest := []) (as := [(.inr (.inr (.inl (some 53)))), (.inl v3)]) rfl rfl rfl rfl rfl rfl rfl rfl rfl rfl rfl rfl rfl h (fun r4 s3 h => ?_)
      refine w_if (t := 40) (e := 29) rfl rfl rfl (fun e => ?_) (fun e => ?_)
      · have h := h.1 e
        refine w_iinc (p' := 43) (ls' := [some (.inr (.inr (.inl (some 53)))), some (.inl v1), some (.inl v2), some (.inl (v3 + (-1)))]) rfl rfl rfl (Nat.le_of_ble_eq_true rfl) h.1 rfl ?_
        have h := h.2
        refine w_goto (p' := 4) rfl rfl ?_
        exact w_cut (q_le_s (q_le_s (q_le_s (q_le_s q_le_z)))) h
      · have h := h.2 e
        refine w_aload (p' := 30) rfl rfl rfl rfl ?_
        refine w_iload (p' := 31) rfl rfl rfl rfl ?_
        refine w_iload (p' := 32) rfl rfl rfl rfl ?_
        refine v_callI (M' := 242) (p' := 35) (rest := []) (as := [(.inr (.inr (.inl (some 53)))), (.inl v3), (.inl v1)]) rfl rfl rfl rfl rfl rfl rfl rfl rfl rfl rfl rfl rfl h (fun r6 s5 h => ?_)
        refine w_if (t := 40) (e := 38) rfl rfl rfl (fun e => ?_) (fun e => ?_)
        · have h := h.1 e
          refine w_iinc (p' := 43) (ls' := [some (.inr (.inr (.inl (some 53)))), some (.inl v1), some (.inl v2), some (.inl (v3 + (-1)))]) rfl rfl rfl (Nat.le_of_ble_eq_true rfl) h.1 rfl ?_
          have h := h.2
          refine w_goto (p' := 4) rfl rfl ?_
          exact w_cut (q_le_s (q_le_s (q_le_s (q_le_s q_le_z)))) h
        · have h := h.2 e
          refine w_iload (p' := 39) rfl rfl rfl rfl ?_
          exact w_iret rfl trivial ⟨rfl, _, rfl, h⟩
set_option maxRecDepth 20000 in
theorem sg_Runs_breaksRule {X : Nat × (Nat → Int32)} {x1 : Int} {x2 : Int} {s : qM} {K : Int → qM → Prop} (h : c_Row_at X 62 x1 s (fun r2 s1 => (((r2 = 1) → L_Runs_breaksRule_29 X x1 x2 1 s1 K) ∧ (¬ (r2 = 1) → c_Row_at X 60 x2 s1 (fun r4 s3 => (((r4 ≠ 1) → L_Runs_breaksRule_29 X x1 x2 0 s3 K) ∧ (¬ (r4 ≠ 1) → L_Runs_breaksRule_29 X x1 x2 1 s3 K))))))) : c_Runs_breaksRule X x1 x2 s K := by
  unfold c_Runs_breaksRule
  refine w_aload (p' := 1) rfl rfl rfl rfl ?_
  refine w_getR (p' := 4) rfl rfl rfl rfl rfl ?_
  refine w_iload (p' := 5) rfl rfl rfl rfl ?_
  refine v_callI (M' := 224) (p' := 8) (rest := []) (as := [(.inr (.inr (.inl (some 62)))), (.inl x1)]) rfl rfl rfl rfl rfl rfl rfl rfl rfl rfl rfl rfl rfl h (fun r2 s1 h => ?_)
  refine w_const (p' := 9) rfl rfl rfl ?_
  refine w_icmp (t := 24) (e := 12) rfl rfl rfl (fun e => ?_) (fun e => ?_)
  · have h := h.1 e
    refine w_const (p' := 25) rfl rfl rfl ?_
    refine w_goto (p' := 29) rfl rfl ?_
    exact w_cut (q_le_s (q_le_s (q_le_s (q_le_n (q_le_n (q_le_n q_le_z)))))) h
  · have h := h.2 e
    refine w_aload (p' := 13) rfl rfl rfl rfl ?_
    refine w_getR (p' := 16) rfl rfl rfl rfl rfl ?_
    refine w_iload (p' := 17) rfl rfl rfl rfl ?_
    refine v_callI (M' := 224) (p' := 20) (rest := []) (as := [(.inr (.inr (.inl (some 60)))), (.inl x2)]) rfl rfl rfl rfl rfl rfl rfl rfl rfl rfl rfl rfl rfl h (fun r4 s3 h => ?_)
    refine w_const (p' := 21) rfl rfl rfl ?_
    refine w_icmp (t := 28) (e := 24) rfl rfl rfl (fun e => ?_) (fun e => ?_)
    · have h := h.1 e
      refine w_const (p' := 29) rfl rfl rfl ?_
      exact w_cut (q_le_s (q_le_s (q_le_s (q_le_n (q_le_n (q_le_n q_le_z)))))) h
    · have h := h.2 e
      refine w_const (p' := 25) rfl rfl rfl ?_
      refine w_goto (p' := 29) rfl rfl ?_
      exact w_cut (q_le_s (q_le_s (q_le_s (q_le_n (q_le_n (q_le_n q_le_z)))))) h
set_option maxRecDepth 20000 in
theorem sg_Runs_breaksRule_29 {X : Nat × (Nat → Int32)}  {v1 v2 t0 : Int} {s : qM} {K : Int → qM → Prop} (h : c_Row_at X 58 v1 s (fun r2 s1 => c_Row_at X 58 v2 s1 (fun r4 s3 => (-2147483648 ≤ (r2 + r4) ∧ (r2 + r4) < 2147483648) ∧ (((t0 = 0) → K 0 s3) ∧ (¬ (t0 = 0) → ((((Int.tmod (r2 + r4) 3) ≠ 0) → K 0 s3) ∧ (¬ ((Int.tmod (r2 + r4) 3) ≠ 0) → ((((Int.tmod r2 3) = 0) → K 0 s3) ∧ (¬ ((Int.tmod r2 3) = 0) → K 1 s3))))))))) : L_Runs_breaksRule_29 X v1 v2 t0 s K := by
  unfold L_Runs_breaksRule_29
  refine w_istore (p' := 30) (ls' := [some (.inr (.inr (.inl (some 53)))), some (.inl v1), some (.inl v2), some (.inl t0), none, none]) rfl rfl rfl (Nat.le_of_ble_eq_true rfl) rfl ?_
  refine w_aload (p' := 31) rfl rfl rfl rfl ?_
  refine w_getR (p' := 34) rfl rfl rfl rfl rfl ?_
  refine w_iload (p' := 35) rfl rfl rfl rfl ?_
  refine v_callI (M' := 224) (p' := 38) (rest := []) (as := [(.inr (.inr (.inl (some 58)))), (.inl v1)]) rfl rfl rfl rfl rfl rfl rfl rfl rfl rfl rfl rfl rfl h (fun r2 s1 h => ?_)
  refine w_istore (p' := 40) (ls' := [some (.inr (.inr (.inl (some 53)))), some (.inl v1), some (.inl v2), some (.inl t0), some (.inl r2), none]) rfl rfl rfl (Nat.le_of_ble_eq_true rfl) rfl ?_
  refine w_iload (p' := 42) rfl rfl rfl rfl ?_
  refine w_aload (p' := 43) rfl rfl rfl rfl ?_
  refine w_getR (p' := 46) rfl rfl rfl rfl rfl ?_
  refine w_iload (p' := 47) rfl rfl rfl rfl ?_
  refine v_callI (M' := 224) (p' := 50) (rest := [(.inl r2)]) (as := [(.inr (.inr (.inl (some 58)))), (.inl v2)]) rfl rfl rfl rfl rfl rfl rfl rfl rfl rfl rfl rfl rfl h (fun r4 s3 h => ?_)
  refine w_add (p' := 51) rfl rfl h.1 ?_
  have h := h.2
  refine w_istore (p' := 53) (ls' := [some (.inr (.inr (.inl (some 53)))), some (.inl v1), some (.inl v2), some (.inl t0), some (.inl r2), some (.inl (r2 + r4))]) rfl rfl rfl (Nat.le_of_ble_eq_true rfl) rfl ?_
  refine w_iload (p' := 54) rfl rfl rfl rfl ?_
  refine w_if (t := 75) (e := 57) rfl rfl rfl (fun e => ?_) (fun e => ?_)
  · have h := h.1 e
    refine w_const (p' := 76) rfl rfl rfl ?_
    exact w_iret rfl ⟨by decide, by decide⟩ ⟨rfl, _, rfl, h⟩
  · have h := h.2 e
    refine w_iload (p' := 59) rfl rfl rfl rfl ?_
    refine w_const (p' := 60) rfl rfl rfl ?_
    refine w_rem (p' := 61) rfl rfl (by decide) ?_
    refine w_if (t := 75) (e := 64) rfl rfl rfl (fun e => ?_) (fun e => ?_)
    · have h := h.1 e
      refine w_const (p' := 76) rfl rfl rfl ?_
      exact w_iret rfl ⟨by decide, by decide⟩ ⟨rfl, _, rfl, h⟩
    · have h := h.2 e
      refine w_iload (p' := 66) rfl rfl rfl rfl ?_
      refine w_const (p' := 67) rfl rfl rfl ?_
      refine w_rem (p' := 68) rfl rfl (by decide) ?_
      refine w_if (t := 75) (e := 71) rfl rfl rfl (fun e => ?_) (fun e => ?_)
      · have h := h.1 e
        refine w_const (p' := 76) rfl rfl rfl ?_
        exact w_iret rfl ⟨by decide, by decide⟩ ⟨rfl, _, rfl, h⟩
      · have h := h.2 e
        refine w_const (p' := 72) rfl rfl rfl ?_
        refine w_goto (p' := 76) rfl rfl ?_
        exact w_iret rfl ⟨by decide, by decide⟩ ⟨rfl, _, rfl, h⟩
set_option maxRecDepth 20000 in
theorem sg_Runs_pair {X : Nat × (Nat → Int32)} {x1 : Int} {x2 : Int} {x3 : Nat} {s : qM} {K : qM → Prop} {x3_N : Nat} (hx3 : q_isRow x3 x3_N) (h : c_Runs_left X x1 s (fun r2 s1 => (((r2 < 2) → L_Runs_pair_22 X x3 x1 x2 s1 K) ∧ (¬ (r2 < 2) → c_Runs_left X x2 s1 (fun r4 s3 => (((r4 < 2) → L_Runs_pair_22 X x3 x1 x2 s3 K) ∧ (¬ (r4 < 2) → c_Row_at X 56 x1 s3 (fun r6 s5 => (-2147483648 ≤ (r6 - 2) ∧ (r6 - 2) < 2147483648) ∧ c_Row_at X 54 x2 s5 (fun r8 s7 => (-2147483648 ≤ ((r6 - 2) + 1) ∧ ((r6 - 2) + 1) < 2147483648) ∧ c_Row_set X x3 ((r6 - 2) + 1) (-3) s7 (fun s9 => (-2147483648 ≤ (r8 + 1) ∧ (r8 + 1) < 2147483648) ∧ c_Row_set X x3 (r8 + 1) (-3) s9 (fun s10 => L_Runs_pair_74 X x3 x1 x2 2 (r6 - 2) r8 s10 K))))))))))) : c_Runs_pair X x1 x2 x3 s K := by
  unfold c_Runs_pair
  refine w_aload (p' := 1) rfl rfl rfl rfl ?_
  refine w_iload (p' := 2) rfl rfl rfl rfl ?_
  refine v_callI (M' := 240) (p' := 5) (rest := []) (as := [(.inr (.inr (.inl (some 53)))), (.inl x1)]) rfl rfl rfl rfl rfl rfl rfl rfl rfl rfl rfl rfl rfl h (fun r2 s1 h => ?_)
  refine w_const (p' := 6) rfl rfl rfl ?_
  refine w_icmp (t := 22) (e := 9) rfl rfl rfl (fun e => ?_) (fun e => ?_)
  · have h := h.1 e
    exact w_cut (q_le_s (q_le_s (q_le_s (q_le_s (q_le_n (q_le_n (q_le_n (q_le_n q_le_z)))))))) h
  · have h := h.2 e
    refine w_aload (p' := 10) rfl rfl rfl rfl ?_
    refine w_iload (p' := 11) rfl rfl rfl rfl ?_
    refine v_callI (M' := 240) (p' := 14) (rest := []) (as := [(.inr (.inr (.inl (some 53)))), (.inl x2)]) rfl rfl rfl rfl rfl rfl rfl rfl rfl rfl rfl rfl rfl h (fun r4 s3 h => ?_)
    refine w_const (p' := 15) rfl rfl rfl ?_
    refine w_icmp (t := 22) (e := 18) rfl rfl rfl (fun e => ?_) (fun e => ?_)
    · have h := h.1 e
      exact w_cut (q_le_s (q_le_s (q_le_s (q_le_s (q_le_n (q_le_n (q_le_n (q_le_n q_le_z)))))))) h
    · have h := h.2 e
      refine w_const (p' := 19) rfl rfl rfl ?_
      refine w_goto (p' := 23) rfl rfl ?_
      refine w_istore (p' := 25) (ls' := [some (.inr (.inr (.inl (some 53)))), some (.inl x1), some (.inl x2), some (.inr (.inr (.inl (some x3)))), some (.inl 2), none, none, none]) rfl rfl rfl (Nat.le_of_ble_eq_true rfl) rfl ?_
      refine w_aload (p' := 26) rfl rfl rfl rfl ?_
      refine w_getR (p' := 29) rfl rfl rfl rfl rfl ?_
      refine w_iload (p' := 30) rfl rfl rfl rfl ?_
      refine v_callI (M' := 224) (p' := 33) (rest := []) (as := [(.inr (.inr (.inl (some 56)))), (.inl x1)]) rfl rfl rfl rfl rfl rfl rfl rfl rfl rfl rfl rfl rfl h (fun r6 s5 h => ?_)
      refine w_iload (p' := 35) rfl rfl rfl rfl ?_
      refine w_sub (p' := 36) rfl rfl h.1 ?_
      have h := h.2
      refine w_istore (p' := 38) (ls' := [some (.inr (.inr (.inl (some 53)))), some (.inl x1), some (.inl x2), some (.inr (.inr (.inl (some x3)))), some (.inl 2), some (.inl (r6 - 2)), none, none]) rfl rfl rfl (Nat.le_of_ble_eq_true rfl) rfl ?_
      refine w_aload (p' := 39) rfl rfl rfl rfl ?_
      refine w_getR (p' := 42) rfl rfl rfl rfl rfl ?_
      refine w_iload (p' := 43) rfl rfl rfl rfl ?_
      refine v_callI (M' := 224) (p' := 46) (rest := []) (as := [(.inr (.inr (.inl (some 54)))), (.inl x2)]) rfl rfl rfl rfl rfl rfl rfl rfl rfl rfl rfl rfl rfl h (fun r8 s7 h => ?_)
      refine w_istore (p' := 48) (ls' := [some (.inr (.inr (.inl (some 53)))), some (.inl x1), some (.inl x2), some (.inr (.inr (.inl (some x3)))), some (.inl 2), some (.inl (r6 - 2)), some (.inl r8), none]) rfl rfl rfl (Nat.le_of_ble_eq_true rfl) rfl ?_
      refine w_iload (p' := 50) rfl rfl rfl rfl ?_
      refine w_const (p' := 51) rfl rfl rfl ?_
      refine w_icmp (t := 74) (e := 54) rfl rfl rfl (fun e => absurd e (show ¬ ((2 : Int) ≠ 2) by decide)) (fun e => ?_)
      refine w_aload (p' := 55) rfl rfl rfl rfl ?_
      refine w_iload (p' := 57) rfl rfl rfl rfl ?_
      refine w_const (p' := 58) rfl rfl rfl ?_
      refine w_add (p' := 59) rfl rfl h.1 ?_
      have h := h.2
      refine w_const (p' := 61) rfl rfl rfl ?_
      refine v_callV (M' := 225) (p' := 64) (rest := []) (as := [(.inr (.inr (.inl (some x3)))), (.inl ((r6 - 2) + 1)), (.inl (-3))]) rfl rfl rfl rfl rfl rfl rfl rfl rfl rfl rfl hx3.tag rfl h (fun s9 h => ?_)
      refine w_aload (p' := 65) rfl rfl rfl rfl ?_
      refine w_iload (p' := 67) rfl rfl rfl rfl ?_
      refine w_const (p' := 68) rfl rfl rfl ?_
      refine w_add (p' := 69) rfl rfl h.1 ?_
      have h := h.2
      refine w_const (p' := 71) rfl rfl rfl ?_
      refine v_callV (M' := 225) (p' := 74) (rest := []) (as := [(.inr (.inr (.inl (some x3)))), (.inl (r8 + 1)), (.inl (-3))]) rfl rfl rfl rfl rfl rfl rfl rfl rfl rfl rfl hx3.tag rfl h (fun s10 h => ?_)
      exact w_cut (q_le_s (q_le_s (q_le_s (q_le_s (q_le_s (q_le_s (q_le_s (q_le_n q_le_z)))))))) h
set_option maxRecDepth 20000 in
theorem sg_Runs_pair_22 {X : Nat × (Nat → Int32)} {x3 : Nat} {v1 v2 : Int} {s : qM} {K : qM → Prop} {x3_N : Nat} (hx3 : q_isRow x3 x3_N) (h : c_Row_at X 56 v1 s (fun r2 s1 => (-2147483648 ≤ (r2 - 1) ∧ (r2 - 1) < 2147483648) ∧ c_Row_at X 54 v2 s1 (fun r4 s3 => L_Runs_pair_74 X x3 v1 v2 1 (r2 - 1) r4 s3 K))) : L_Runs_pair_22 X x3 v1 v2 s K := by
  unfold L_Runs_pair_22
  refine w_const (p' := 23) rfl rfl rfl ?_
  refine w_istore (p' := 25) (ls' := [some (.inr (.inr (.inl (some 53)))), some (.inl v1), some (.inl v2), some (.inr (.inr (.inl (some x3)))), some (.inl 1), none, none, none]) rfl rfl rfl (Nat.le_of_ble_eq_true rfl) rfl ?_
  refine w_aload (p' := 26) rfl rfl rfl rfl ?_
  refine w_getR (p' := 29) rfl rfl rfl rfl rfl ?_
  refine w_iload (p' := 30) rfl rfl rfl rfl ?_
  refine v_callI (M' := 224) (p' := 33) (rest := []) (as := [(.inr (.inr (.inl (some 56)))), (.inl v1)]) rfl rfl rfl rfl rfl rfl rfl rfl rfl rfl rfl rfl rfl h (fun r2 s1 h => ?_)
  refine w_iload (p' := 35) rfl rfl rfl rfl ?_
  refine w_sub (p' := 36) rfl rfl h.1 ?_
  have h := h.2
  refine w_istore (p' := 38) (ls' := [some (.inr (.inr (.inl (some 53)))), some (.inl v1), some (.inl v2), some (.inr (.inr (.inl (some x3)))), some (.inl 1), some (.inl (r2 - 1)), none, none]) rfl rfl rfl (Nat.le_of_ble_eq_true rfl) rfl ?_
  refine w_aload (p' := 39) rfl rfl rfl rfl ?_
  refine w_getR (p' := 42) rfl rfl rfl rfl rfl ?_
  refine w_iload (p' := 43) rfl rfl rfl rfl ?_
  refine v_callI (M' := 224) (p' := 46) (rest := []) (as := [(.inr (.inr (.inl (some 54)))), (.inl v2)]) rfl rfl rfl rfl rfl rfl rfl rfl rfl rfl rfl rfl rfl h (fun r4 s3 h => ?_)
  refine w_istore (p' := 48) (ls' := [some (.inr (.inr (.inl (some 53)))), some (.inl v1), some (.inl v2), some (.inr (.inr (.inl (some x3)))), some (.inl 1), some (.inl (r2 - 1)), some (.inl r4), none]) rfl rfl rfl (Nat.le_of_ble_eq_true rfl) rfl ?_
  refine w_iload (p' := 50) rfl rfl rfl rfl ?_
  refine w_const (p' := 51) rfl rfl rfl ?_
  refine w_icmp (t := 74) (e := 54) rfl rfl rfl (fun e => ?_) (fun e => absurd (show (1 : Int) ≠ 2 by decide) e)
  exact w_cut (q_le_s (q_le_s (q_le_s (q_le_s (q_le_s (q_le_s (q_le_s (q_le_n q_le_z)))))))) h
set_option maxRecDepth 20000 in
theorem sg_Runs_pair_74 {X : Nat × (Nat → Int32)} {x3 : Nat} {v1 v2 v4 v5 v6 : Int} {s : qM} {K : qM → Prop} {x3_N : Nat} (hx3 : q_isRow x3 x3_N) (h : (((v4 ≠ 2) → c_Row_set X x3 v5 9 s (fun s1 => c_Row_set X x3 v6 (-4) s1 (fun s2 => c_Row_set X 56 v1 v5 s2 (fun s3 => (-2147483648 ≤ (v6 + v4) ∧ (v6 + v4) < 2147483648) ∧ c_Row_set X 54 v2 (v6 + v4) s3 (fun s4 => (-2147483648 ≤ (v1 + 1) ∧ (v1 + 1) < 2147483648) ∧ L_Runs_pair_129 X x3 v2 (v1 + 1) s4 K))))) ∧ (¬ (v4 ≠ 2) → c_Row_set X x3 v5 10 s (fun s5 => c_Row_set X x3 v6 (-4) s5 (fun s6 => c_Row_set X 56 v1 v5 s6 (fun s7 => (-2147483648 ≤ (v6 + v4) ∧ (v6 + v4) < 2147483648) ∧ c_Row_set X 54 v2 (v6 + v4) s7 (fun s8 => (-2147483648 ≤ (v1 + 1) ∧ (v1 + 1) < 2147483648) ∧ L_Runs_pair_129 X x3 v2 (v1 + 1) s8 K))))))) : L_Runs_pair_74 X x3 v1 v2 v4 v5 v6 s K := by
  unfold L_Runs_pair_74
  refine w_aload (p' := 75) rfl rfl rfl rfl ?_
  refine w_iload (p' := 77) rfl rfl rfl rfl ?_
  refine w_iload (p' := 79) rfl rfl rfl rfl ?_
  refine w_const (p' := 80) rfl rfl rfl ?_
  refine w_icmp (t := 88) (e := 83) rfl rfl rfl (fun e => ?_) (fun e => ?_)
  · have h := h.1 e
    refine w_const (p' := 90) rfl rfl rfl ?_
    refine v_callV (M' := 225) (p' := 93) (rest := []) (as := [(.inr (.inr (.inl (some x3)))), (.inl v5), (.inl 9)]) rfl rfl rfl rfl rfl rfl rfl rfl rfl rfl rfl hx3.tag rfl h (fun s1 h => ?_)
    refine w_aload (p' := 94) rfl rfl rfl rfl ?_
    refine w_iload (p' := 96) rfl rfl rfl rfl ?_
    refine w_const (p' := 98) rfl rfl rfl ?_
    refine v_callV (M' := 225) (p' := 101) (rest := []) (as := [(.inr (.inr (.inl (some x3)))), (.inl v6), (.inl (-4))]) rfl rfl rfl rfl rfl rfl rfl rfl rfl rfl rfl hx3.tag rfl h (fun s2 h => ?_)
    refine w_aload (p' := 102) rfl rfl rfl rfl ?_
    refine w_getR (p' := 105) rfl rfl rfl rfl rfl ?_
    refine w_iload (p' := 106) rfl rfl rfl rfl ?_
    refine w_iload (p' := 108) rfl rfl rfl rfl ?_
    refine v_callV (M' := 225) (p' := 111) (rest := []) (as := [(.inr (.inr (.inl (some 56)))), (.inl v1), (.inl v5)]) rfl rfl rfl rfl rfl rfl rfl rfl rfl rfl rfl rfl rfl h (fun s3 h => ?_)
    refine w_aload (p' := 112) rfl rfl rfl rfl ?_
    refine w_getR (p' := 115) rfl rfl rfl rfl rfl ?_
    refine w_iload (p' := 116) rfl rfl rfl rfl ?_
    refine w_iload (p' := 118) rfl rfl rfl rfl ?_
    refine w_iload (p' := 120) rfl rfl rfl rfl ?_
    refine w_add (p' := 121) rfl rfl h.1 ?_
    have h := h.2
    refine v_callV (M' := 225) (p' := 124) (rest := []) (as := [(.inr (.inr (.inl (some 54)))), (.inl v2), (.inl (v6 + v4))]) rfl rfl rfl rfl rfl rfl rfl rfl rfl rfl rfl rfl rfl h (fun s4 h => ?_)
    refine w_iload (p' := 125) rfl rfl rfl rfl ?_
    refine w_const (p' := 126) rfl rfl rfl ?_
    refine w_add (p' := 127) rfl rfl h.1 ?_
    have h := h.2
    refine w_istore (p' := 129) (ls' := [some (.inr (.inr (.inl (some 53)))), some (.inl v1), some (.inl v2), some (.inr (.inr (.inl (some x3)))), some (.inl v4), some (.inl v5), some (.inl v6), some (.inl (v1 + 1))]) rfl rfl rfl (Nat.le_of_ble_eq_true rfl) rfl ?_
    exact w_cut (q_le_s (q_le_n (q_le_s (q_le_n (q_le_n (q_le_n (q_le_n (q_le_s q_le_z)))))))) h
  · have h := h.2 e
    refine w_const (p' := 85) rfl rfl rfl ?_
    refine w_goto (p' := 90) rfl rfl ?_
    refine v_callV (M' := 225) (p' := 93) (rest := []) (as := [(.inr (.inr (.inl (some x3)))), (.inl v5), (.inl 10)]) rfl rfl rfl rfl rfl rfl rfl rfl rfl rfl rfl hx3.tag rfl h (fun s5 h => ?_)
    refine w_aload (p' := 94) rfl rfl rfl rfl ?_
    refine w_iload (p' := 96) rfl rfl rfl rfl ?_
    refine w_const (p' := 98) rfl rfl rfl ?_
    refine v_callV (M' := 225) (p' := 101) (rest := []) (as := [(.inr (.inr (.inl (some x3)))), (.inl v6), (.inl (-4))]) rfl rfl rfl rfl rfl rfl rfl rfl rfl rfl rfl hx3.tag rfl h (fun s6 h => ?_)
    refine w_aload (p' := 102) rfl rfl rfl rfl ?_
    refine w_getR (p' := 105) rfl rfl rfl rfl rfl ?_
    refine w_iload (p' := 106) rfl rfl rfl rfl ?_
    refine w_iload (p' := 108) rfl rfl rfl rfl ?_
    refine v_callV (M' := 225) (p' := 111) (rest := []) (as := [(.inr (.inr (.inl (some 56)))), (.inl v1), (.inl v5)]) rfl rfl rfl rfl rfl rfl rfl rfl rfl rfl rfl rfl rfl h (fun s7 h => ?_)
    refine w_aload (p' := 112) rfl rfl rfl rfl ?_
    refine w_getR (p' := 115) rfl rfl rfl rfl rfl ?_
    refine w_iload (p' := 116) rfl rfl rfl rfl ?_
    refine w_iload (p' := 118) rfl rfl rfl rfl ?_
    refine w_iload (p' := 120) rfl rfl rfl rfl ?_
    refine w_add (p' := 121) rfl rfl h.1 ?_
    have h := h.2
    refine v_callV (M' := 225) (p' := 124) (rest := []) (as := [(.inr (.inr (.inl (some 54)))), (.inl v2), (.inl (v6 + v4))]) rfl rfl rfl rfl rfl rfl rfl rfl rfl rfl rfl rfl rfl h (fun s8 h => ?_)
    refine w_iload (p' := 125) rfl rfl rfl rfl ?_
    refine w_const (p' := 126) rfl rfl rfl ?_
    refine w_add (p' := 127) rfl rfl h.1 ?_
    have h := h.2
    refine w_istore (p' := 129) (ls' := [some (.inr (.inr (.inl (some 53)))), some (.inl v1), some (.inl v2), some (.inr (.inr (.inl (some x3)))), some (.inl v4), some (.inl v5), some (.inl v6), some (.inl (v1 + 1))]) rfl rfl rfl (Nat.le_of_ble_eq_true rfl) rfl ?_
    exact w_cut (q_le_s (q_le_n (q_le_s (q_le_n (q_le_n (q_le_n (q_le_n (q_le_s q_le_z)))))))) h
set_option maxRecDepth 20000 in
theorem sg_Runs_pair_129 {X : Nat × (Nat → Int32)} {x3 : Nat} {v2 v7 : Int} {s : qM} {K : qM → Prop} {x3_N : Nat} (hx3 : q_isRow x3 x3_N) (h : (((v2 ≤ v7) → K s) ∧ (¬ (v2 ≤ v7) → c_Row_at X 54 v7 s (fun r2 s1 => c_Row_set X 56 v7 r2 s1 (fun s3 => (-2147483648 ≤ (v7 + 1) ∧ (v7 + 1) < 2147483648) ∧ L_Runs_pair_129 X x3 v2 (v7 + 1) s3 K))))) : L_Runs_pair_129 X x3 v2 v7 s K := by
  unfold L_Runs_pair_129
  refine w_iload (p' := 131) rfl rfl rfl rfl ?_
  refine w_iload (p' := 132) rfl rfl rfl rfl ?_
  refine w_icmp (t := 159) (e := 135) rfl rfl rfl (fun e => ?_) (fun e => ?_)
  · have h := h.1 e
    exact w_vret rfl ⟨rfl, rfl, h⟩
  · have h := h.2 e
    refine w_aload (p' := 136) rfl rfl rfl rfl ?_
    refine w_getR (p' := 139) rfl rfl rfl rfl rfl ?_
    refine w_iload (p' := 141) rfl rfl rfl rfl ?_
    refine w_aload (p' := 142) rfl rfl rfl rfl ?_
    refine w_getR (p' := 145) rfl rfl rfl rfl rfl ?_
    refine w_iload (p' := 147) rfl rfl rfl rfl ?_
    refine v_callI (M' := 224) (p' := 150) (rest := [(.inl v7), (.inr (.inr (.inl (some 56))))]) (as := [(.inr (.inr (.inl (some 54)))), (.inl v7)]) rfl rfl rfl rfl rfl rfl rfl rfl rfl rfl rfl rfl rfl h (fun r2 s1 h => ?_)
    refine v_callV (M' := 225) (p' := 153) (rest := []) (as := [(.inr (.inr (.inl (some 56)))), (.inl v7), (.inl r2)]) rfl rfl rfl rfl rfl rfl rfl rfl rfl rfl rfl rfl rfl h (fun s3 h => ?_)
    refine w_iinc (p' := 156) (ls' := [some (.inr (.inr (.inl (some 53)))), none, some (.inl v2), none, none, none, none, some (.inl (v7 + 1))]) rfl rfl rfl (Nat.le_of_ble_eq_true rfl) h.1 rfl ?_
    have h := h.2
    refine w_goto (p' := 129) rfl rfl ?_
    exact w_cut (q_le_s (q_le_n (q_le_s (q_le_n (q_le_n (q_le_n (q_le_n (q_le_s q_le_z)))))))) h
set_option maxRecDepth 20000 in
theorem sg_Tree_start {X : Nat × (Nat → Int32)}  {s : qM} {K : qM → Prop} (h : c_Row_empty X 65 s (fun s1 => c_Row_empty X 67 s1 (fun s2 => c_Row_empty X 69 s2 (fun s3 => c_Row_empty X 71 s3 (fun s4 => c_Row_empty X 73 s4 (fun s5 => c_Row_empty X 75 s5 (fun s6 => c_Row_empty X 77 s6 (fun s7 => c_Row_empty X 79 s7 (fun s8 => c_Row_empty X 81 s8 (fun s9 => K s9)))))))))) : c_Tree_start X  s K := by
  unfold c_Tree_start
  refine w_aload (p' := 1) rfl rfl rfl rfl ?_
  refine w_getR (p' := 4) rfl rfl rfl rfl rfl ?_
  refine v_callV (M' := 227) (p' := 7) (rest := []) (as := [(.inr (.inr (.inl (some 65))))]) rfl rfl rfl rfl rfl rfl rfl rfl rfl rfl rfl rfl rfl h (fun s1 h => ?_)
  refine w_aload (p' := 8) rfl rfl rfl rfl ?_
  refine w_getR (p' := 11) rfl rfl rfl rfl rfl ?_
  refine v_callV (M' := 227) (p' := 14) (rest := []) (as := [(.inr (.inr (.inl (some 67))))]) rfl rfl rfl rfl rfl rfl rfl rfl rfl rfl rfl rfl rfl h (fun s2 h => ?_)
  refine w_aload (p' := 15) rfl rfl rfl rfl ?_
  refine w_getR (p' := 18) rfl rfl rfl rfl rfl ?_
  refine v_callV (M' := 227) (p' := 21) (rest := []) (as := [(.inr (.inr (.inl (some 69))))]) rfl rfl rfl rfl rfl rfl rfl rfl rfl rfl rfl rfl rfl h (fun s3 h => ?_)
  refine w_aload (p' := 22) rfl rfl rfl rfl ?_
  refine w_getR (p' := 25) rfl rfl rfl rfl rfl ?_
  refine v_callV (M' := 227) (p' := 28) (rest := []) (as := [(.inr (.inr (.inl (some 71))))]) rfl rfl rfl rfl rfl rfl rfl rfl rfl rfl rfl rfl rfl h (fun s4 h => ?_)
  refine w_aload (p' := 29) rfl rfl rfl rfl ?_
  refine w_getR (p' := 32) rfl rfl rfl rfl rfl ?_
  refine v_callV (M' := 227) (p' := 35) (rest := []) (as := [(.inr (.inr (.inl (some 73))))]) rfl rfl rfl rfl rfl rfl rfl rfl rfl rfl rfl rfl rfl h (fun s5 h => ?_)
  refine w_aload (p' := 36) rfl rfl rfl rfl ?_
  refine w_getR (p' := 39) rfl rfl rfl rfl rfl ?_
  refine v_callV (M' := 227) (p' := 42) (rest := []) (as := [(.inr (.inr (.inl (some 75))))]) rfl rfl rfl rfl rfl rfl rfl rfl rfl rfl rfl rfl rfl h (fun s6 h => ?_)
  refine w_aload (p' := 43) rfl rfl rfl rfl ?_
  refine w_getR (p' := 46) rfl rfl rfl rfl rfl ?_
  refine v_callV (M' := 227) (p' := 49) (rest := []) (as := [(.inr (.inr (.inl (some 77))))]) rfl rfl rfl rfl rfl rfl rfl rfl rfl rfl rfl rfl rfl h (fun s7 h => ?_)
  refine w_aload (p' := 50) rfl rfl rfl rfl ?_
  refine w_getR (p' := 53) rfl rfl rfl rfl rfl ?_
  refine v_callV (M' := 227) (p' := 56) (rest := []) (as := [(.inr (.inr (.inl (some 79))))]) rfl rfl rfl rfl rfl rfl rfl rfl rfl rfl rfl rfl rfl h (fun s8 h => ?_)
  refine w_aload (p' := 57) rfl rfl rfl rfl ?_
  refine w_getR (p' := 60) rfl rfl rfl rfl rfl ?_
  refine v_callV (M' := 227) (p' := 63) (rest := []) (as := [(.inr (.inr (.inl (some 81))))]) rfl rfl rfl rfl rfl rfl rfl rfl rfl rfl rfl rfl rfl h (fun s9 h => ?_)
  exact w_vret rfl ⟨rfl, rfl, h⟩
