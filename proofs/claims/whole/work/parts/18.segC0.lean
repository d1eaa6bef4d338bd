/-! Segments, by program (wip/tools/seg.py). -/
set_option maxRecDepth 20000 in
theorem sg_T_put {X : Nat × (Nat → Int32)} {x1 : Int} {x2 : Int} {s : qM} {K : Int ⊕ Nat → qM → Prop} (h : (((x1 < 0) → K (.inr 0) s) ∧ (¬ (x1 < 0) → c_Row_size X 1 s (fun r2 s1 => (((x1 ≤ r2) → (((x2 = 10) → c_Row_size X 1 s1 (fun r4 s3 => (((r4 < 240) → c_Row_insert X 1 x1 x2 s3 (fun s5 => (∀ s6 : qM, s6 = q_up s5 0 11 1 → c_Row_size X 1 s6 (fun r8 s7 => K (.inl r8) s7)))) ∧ (¬ (r4 < 240) → K (.inr 2) s3)))) ∧ (¬ (x2 = 10) → (((x2 < 32) → K (.inr 1) s1) ∧ (¬ (x2 < 32) → (((x2 ≤ 126) → c_Row_size X 1 s1 (fun r10 s9 => (((r10 < 240) → c_Row_insert X 1 x1 x2 s9 (fun s11 => (∀ s12 : qM, s12 = q_up s11 0 11 1 → c_Row_size X 1 s12 (fun r14 s13 => K (.inl r14) s13)))) ∧ (¬ (r10 < 240) → K (.inr 2) s9)))) ∧ (¬ (x2 ≤ 126) → K (.inr 1) s1))))))) ∧ (¬ (x1 ≤ r2) → K (.inr 0) s1)))))) : c_T_put X x1 x2 s K := by
  unfold c_T_put
  refine w_iload (p' := 1) rfl rfl rfl rfl ?_
  refine w_if (t := 15) (e := 4) rfl rfl rfl (fun e => ?_) (fun e => ?_)
  · have h := h.1 e
    exact w_throw rfl rfl (Nat.le_of_ble_eq_true rfl) (Nat.le_of_ble_eq_true rfl) ⟨rfl, Or.inr ⟨_, rfl, h⟩⟩
  · have h := h.2 e
    refine w_iload (p' := 5) rfl rfl rfl rfl ?_
    refine w_aload (p' := 6) rfl rfl rfl rfl ?_
    refine w_getR (p' := 9) rfl rfl rfl rfl rfl ?_
    refine v_callI (M' := 223) (p' := 12) (rest := [(.inl x1)]) (as := [(.inr (.inr (.inl (some 1))))]) rfl rfl rfl rfl rfl rfl rfl rfl rfl rfl rfl rfl rfl h (fun r2 s1 h => ?_)
    refine w_icmp (t := 25) (e := 15) rfl rfl rfl (fun e => ?_) (fun e => ?_)
    · have h := h.1 e
      refine w_iload (p' := 26) rfl rfl rfl rfl ?_
      refine w_const (p' := 28) rfl rfl rfl ?_
      refine w_icmp (t := 53) (e := 31) rfl rfl rfl (fun e => ?_) (fun e => ?_)
      · have h := h.1 e
        refine w_aload (p' := 54) rfl rfl rfl rfl ?_
        refine w_getR (p' := 57) rfl rfl rfl rfl rfl ?_
        refine v_callI (M' := 223) (p' := 60) (rest := []) (as := [(.inr (.inr (.inl (some 1))))]) rfl rfl rfl rfl rfl rfl rfl rfl rfl rfl rfl rfl rfl h (fun r4 s3 h => ?_)
        refine w_const (p' := 63) rfl rfl rfl ?_
        refine w_icmp (t := 76) (e := 66) rfl rfl rfl (fun e => ?_) (fun e => ?_)
        · have h := h.1 e
          refine w_aload (p' := 77) rfl rfl rfl rfl ?_
          refine w_getR (p' := 80) rfl rfl rfl rfl rfl ?_
          refine w_iload (p' := 81) rfl rfl rfl rfl ?_
          refine w_iload (p' := 82) rfl rfl rfl rfl ?_
          refine v_callV (M' := 230) (p' := 85) (rest := []) (as := [(.inr (.inr (.inl (some 1)))), (.inl x1), (.inl x2)]) rfl rfl rfl rfl rfl rfl rfl rfl rfl rfl rfl rfl rfl h (fun s5 h => ?_)
          refine w_aload (p' := 86) rfl rfl rfl rfl ?_
          refine w_const (p' := 87) rfl rfl rfl ?_
          refine v_putI (p' := 90) (j := 11) rfl rfl (by decide) rfl rfl ⟨by decide, by decide⟩ ?_
          intro s6 es6
          have h := h s6 es6
          refine w_aload (p' := 91) rfl rfl rfl rfl ?_
          refine w_getR (p' := 94) rfl rfl rfl rfl rfl ?_
          refine v_callI (M' := 223) (p' := 97) (rest := []) (as := [(.inr (.inr (.inl (some 1))))]) rfl rfl rfl rfl rfl rfl rfl rfl rfl rfl rfl rfl rfl h (fun r8 s7 h => ?_)
          exact w_iret rfl trivial ⟨rfl, Or.inl ⟨_, rfl, h⟩⟩
        · have h := h.2 e
          exact w_throw rfl rfl (Nat.le_of_ble_eq_true rfl) (Nat.le_of_ble_eq_true rfl) ⟨rfl, Or.inr ⟨_, rfl, h⟩⟩
      · have h := h.2 e
        refine w_iload (p' := 32) rfl rfl rfl rfl ?_
        refine w_const (p' := 34) rfl rfl rfl ?_
        refine w_icmp (t := 43) (e := 37) rfl rfl rfl (fun e => ?_) (fun e => ?_)
        · have h := h.1 e
          exact w_throw rfl rfl (Nat.le_of_ble_eq_true rfl) (Nat.le_of_ble_eq_true rfl) ⟨rfl, Or.inr ⟨_, rfl, h⟩⟩
        · have h := h.2 e
          refine w_iload (p' := 38) rfl rfl rfl rfl ?_
          refine w_const (p' := 40) rfl rfl rfl ?_
          refine w_icmp (t := 53) (e := 43) rfl rfl rfl (fun e => ?_) (fun e => ?_)
          · have h := h.1 e
            refine w_aload (p' := 54) rfl rfl rfl rfl ?_
            refine w_getR (p' := 57) rfl rfl rfl rfl rfl ?_
            refine v_callI (M' := 223) (p' := 60) (rest := []) (as := [(.inr (.inr (.inl (some 1))))]) rfl rfl rfl rfl rfl rfl rfl rfl rfl rfl rfl rfl rfl h (fun r10 s9 h => ?_)
            refine w_const (p' := 63) rfl rfl rfl ?_
            refine w_icmp (t := 76) (e := 66) rfl rfl rfl (fun e => ?_) (fun e => ?_)
            · have h := h.1 e
              refine w_aload (p' := 77) rfl rfl rfl rfl ?_
              refine w_getR (p' := 80) rfl rfl rfl rfl rfl ?_
              refine w_iload (p' := 81) rfl rfl rfl rfl ?_
              refine w_iload (p' := 82) rfl rfl rfl rfl ?_
              refine v_callV (M' := 230) (p' := 85) (rest := []) (as := [(.inr (.inr (.inl (some 1)))), (.inl x1), (.inl x2)]) rfl rfl rfl rfl rfl rfl rfl rfl rfl rfl rfl rfl rfl h (fun s11 h => ?_)
              refine w_aload (p' := 86) rfl rfl rfl rfl ?_
              refine w_const (p' := 87) rfl rfl rfl ?_
              refine v_putI (p' := 90) (j := 11) rfl rfl (by decide) rfl rfl ⟨by decide, by decide⟩ ?_
              intro s12 es12
              have h := h s12 es12
              refine w_aload (p' := 91) rfl rfl rfl rfl ?_
              refine w_getR (p' := 94) rfl rfl rfl rfl rfl ?_
              refine v_callI (M' := 223) (p' := 97) (rest := []) (as := [(.inr (.inr (.inl (some 1))))]) rfl rfl rfl rfl rfl rfl rfl rfl rfl rfl rfl rfl rfl h (fun r14 s13 h => ?_)
              exact w_iret rfl trivial ⟨rfl, Or.inl ⟨_, rfl, h⟩⟩
            · have h := h.2 e
              exact w_throw rfl rfl (Nat.le_of_ble_eq_true rfl) (Nat.le_of_ble_eq_true rfl) ⟨rfl, Or.inr ⟨_, rfl, h⟩⟩
          · have h := h.2 e
            exact w_throw rfl rfl (Nat.le_of_ble_eq_true rfl) (Nat.le_of_ble_eq_true rfl) ⟨rfl, Or.inr ⟨_, rfl, h⟩⟩
    · have h := h.2 e
      exact w_throw rfl rfl (Nat.le_of_ble_eq_true rfl) (Nat.le_of_ble_eq_true rfl) ⟨rfl, Or.inr ⟨_, rfl, h⟩⟩
set_option maxRecDepth 20000 in
theorem sg_T_take {X : Nat × (Nat → Int32)} {x1 : Int} {x2 : Int} {s : qM} {K : Int ⊕ Nat → qM → Prop} (h : (((x1 < 0) → K (.inr 0) s) ∧ (¬ (x1 < 0) → c_Row_size X 1 s (fun r2 s1 => (((x1 < r2) → (((x2 < 1) → K (.inr 1) s1) ∧ (¬ (x2 < 1) → c_Row_size X 1 s1 (fun r4 s3 => (-2147483648 ≤ (r4 - x1) ∧ (r4 - x1) < 2147483648) ∧ (((x2 ≤ (r4 - x1)) → c_Row_remove X 1 x1 x2 s3 (fun s5 => (∀ s6 : qM, s6 = q_up s5 0 11 1 → c_Row_size X 1 s6 (fun r8 s7 => K (.inl r8) s7)))) ∧ (¬ (x2 ≤ (r4 - x1)) → K (.inr 1) s3)))))) ∧ (¬ (x1 < r2) → K (.inr 0) s1)))))) : c_T_take X x1 x2 s K := by
  unfold c_T_take
  refine w_iload (p' := 1) rfl rfl rfl rfl ?_
  refine w_if (t := 15) (e := 4) rfl rfl rfl (fun e => ?_) (fun e => ?_)
  · have h := h.1 e
    exact w_throw rfl rfl (Nat.le_of_ble_eq_true rfl) (Nat.le_of_ble_eq_true rfl) ⟨rfl, Or.inr ⟨_, rfl, h⟩⟩
  · have h := h.2 e
    refine w_iload (p' := 5) rfl rfl rfl rfl ?_
    refine w_aload (p' := 6) rfl rfl rfl rfl ?_
    refine w_getR (p' := 9) rfl rfl rfl rfl rfl ?_
    refine v_callI (M' := 223) (p' := 12) (rest := [(.inl x1)]) (as := [(.inr (.inr (.inl (some 1))))]) rfl rfl rfl rfl rfl rfl rfl rfl rfl rfl rfl rfl rfl h (fun r2 s1 h => ?_)
    refine w_icmp (t := 25) (e := 15) rfl rfl rfl (fun e => ?_) (fun e => ?_)
    · have h := h.1 e
      refine w_iload (p' := 26) rfl rfl rfl rfl ?_
      refine w_const (p' := 27) rfl rfl rfl ?_
      refine w_icmp (t := 43) (e := 30) rfl rfl rfl (fun e => ?_) (fun e => ?_)
      · have h := h.1 e
        exact w_throw rfl rfl (Nat.le_of_ble_eq_true rfl) (Nat.le_of_ble_eq_true rfl) ⟨rfl, Or.inr ⟨_, rfl, h⟩⟩
      · have h := h.2 e
        refine w_iload (p' := 31) rfl rfl rfl rfl ?_
        refine w_aload (p' := 32) rfl rfl rfl rfl ?_
        refine w_getR (p' := 35) rfl rfl rfl rfl rfl ?_
        refine v_callI (M' := 223) (p' := 38) (rest := [(.inl x2)]) (as := [(.inr (.inr (.inl (some 1))))]) rfl rfl rfl rfl rfl rfl rfl rfl rfl rfl rfl rfl rfl h (fun r4 s3 h => ?_)
        refine w_iload (p' := 39) rfl rfl rfl rfl ?_
        refine w_sub (p' := 40) rfl rfl h.1 ?_
        have h := h.2
        refine w_icmp (t := 53) (e := 43) rfl rfl rfl (fun e => ?_) (fun e => ?_)
        · have h := h.1 e
          refine w_aload (p' := 54) rfl rfl rfl rfl ?_
          refine w_getR (p' := 57) rfl rfl rfl rfl rfl ?_
          refine w_iload (p' := 58) rfl rfl rfl rfl ?_
          refine w_iload (p' := 59) rfl rfl rfl rfl ?_
          refine v_callV (M' := 231) (p' := 62) (rest := []) (as := [(.inr (.inr (.inl (some 1)))), (.inl x1), (.inl x2)]) rfl rfl rfl rfl rfl rfl rfl rfl rfl rfl rfl rfl rfl h (fun s5 h => ?_)
          refine w_aload (p' := 63) rfl rfl rfl rfl ?_
          refine w_const (p' := 64) rfl rfl rfl ?_
          refine v_putI (p' := 67) (j := 11) rfl rfl (by decide) rfl rfl ⟨by decide, by decide⟩ ?_
          intro s6 es6
          have h := h s6 es6
          refine w_aload (p' := 68) rfl rfl rfl rfl ?_
          refine w_getR (p' := 71) rfl rfl rfl rfl rfl ?_
          refine v_callI (M' := 223) (p' := 74) (rest := []) (as := [(.inr (.inr (.inl (some 1))))]) rfl rfl rfl rfl rfl rfl rfl rfl rfl rfl rfl rfl rfl h (fun r8 s7 h => ?_)
          exact w_iret rfl trivial ⟨rfl, Or.inl ⟨_, rfl, h⟩⟩
        · have h := h.2 e
          exact w_throw rfl rfl (Nat.le_of_ble_eq_true rfl) (Nat.le_of_ble_eq_true rfl) ⟨rfl, Or.inr ⟨_, rfl, h⟩⟩
    · have h := h.2 e
      exact w_throw rfl rfl (Nat.le_of_ble_eq_true rfl) (Nat.le_of_ble_eq_true rfl) ⟨rfl, Or.inr ⟨_, rfl, h⟩⟩
set_option maxRecDepth 20000 in
theorem sg_T_length {X : Nat × (Nat → Int32)}  {s : qM} {K : Int → qM → Prop} (h : c_Row_size X 1 s (fun r2 s1 => K r2 s1)) : c_T_length X  s K := by
  unfold c_T_length
  refine w_aload (p' := 1) rfl rfl rfl rfl ?_
  refine w_getR (p' := 4) rfl rfl rfl rfl rfl ?_
  refine v_callI (M' := 223) (p' := 7) (rest := []) (as := [(.inr (.inr (.inl (some 1))))]) rfl rfl rfl rfl rfl rfl rfl rfl rfl rfl rfl rfl rfl h (fun r2 s1 h => ?_)
  exact w_iret rfl trivial ⟨rfl, _, rfl, h⟩
set_option maxRecDepth 20000 in
theorem sg_T_character {X : Nat × (Nat → Int32)} {x1 : Int} {s : qM} {K : Int ⊕ Nat → qM → Prop} (h : (((x1 < 0) → K (.inr 0) s) ∧ (¬ (x1 < 0) → c_Row_size X 1 s (fun r2 s1 => (((x1 < r2) → c_Row_at X 1 x1 s1 (fun r4 s3 => K (.inl r4) s3)) ∧ (¬ (x1 < r2) → K (.inr 0) s1)))))) : c_T_character X x1 s K := by
  unfold c_T_character
  refine w_iload (p' := 1) rfl rfl rfl rfl ?_
  refine w_if (t := 15) (e := 4) rfl rfl rfl (fun e => ?_) (fun e => ?_)
  · have h := h.1 e
    exact w_throw rfl rfl (Nat.le_of_ble_eq_true rfl) (Nat.le_of_ble_eq_true rfl) ⟨rfl, Or.inr ⟨_, rfl, h⟩⟩
  · have h := h.2 e
    refine w_iload (p' := 5) rfl rfl rfl rfl ?_
    refine w_aload (p' := 6) rfl rfl rfl rfl ?_
    refine w_getR (p' := 9) rfl rfl rfl rfl rfl ?_
    refine v_callI (M' := 223) (p' := 12) (rest := [(.inl x1)]) (as := [(.inr (.inr (.inl (some 1))))]) rfl rfl rfl rfl rfl rfl rfl rfl rfl rfl rfl rfl rfl h (fun r2 s1 h => ?_)
    refine w_icmp (t := 25) (e := 15) rfl rfl rfl (fun e => ?_) (fun e => ?_)
    · have h := h.1 e
      refine w_aload (p' := 26) rfl rfl rfl rfl ?_
      refine w_getR (p' := 29) rfl rfl rfl rfl rfl ?_
      refine w_iload (p' := 30) rfl rfl rfl rfl ?_
      refine v_callI (M' := 224) (p' := 33) (rest := []) (as := [(.inr (.inr (.inl (some 1)))), (.inl x1)]) rfl rfl rfl rfl rfl rfl rfl rfl rfl rfl rfl rfl rfl h (fun r4 s3 h => ?_)
      exact w_iret rfl trivial ⟨rfl, Or.inl ⟨_, rfl, h⟩⟩
    · have h := h.2 e
      exact w_throw rfl rfl (Nat.le_of_ble_eq_true rfl) (Nat.le_of_ble_eq_true rfl) ⟨rfl, Or.inr ⟨_, rfl, h⟩⟩
set_option maxRecDepth 20000 in
theorem sg_T_clear {X : Nat × (Nat → Int32)}  {s : qM} {K : Int → qM → Prop} (h : c_Row_size X 1 s (fun r2 s1 => c_Row_empty X 1 s1 (fun s3 => (∀ s4 : qM, s4 = q_up s3 0 11 1 → K r2 s4)))) : c_T_clear X  s K := by
  unfold c_T_clear
  refine w_aload (p' := 1) rfl rfl rfl rfl ?_
  refine w_getR (p' := 4) rfl rfl rfl rfl rfl ?_
  refine v_callI (M' := 223) (p' := 7) (rest := []) (as := [(.inr (.inr (.inl (some 1))))]) rfl rfl rfl rfl rfl rfl rfl rfl rfl rfl rfl rfl rfl h (fun r2 s1 h => ?_)
  refine w_istore (p' := 8) (ls' := [some (.inr (.inr (.inl (some 0)))), some (.inl r2)]) rfl rfl rfl (Nat.le_of_ble_eq_true rfl) rfl ?_
  refine w_aload (p' := 9) rfl rfl rfl rfl ?_
  refine w_getR (p' := 12) rfl rfl rfl rfl rfl ?_
  refine v_callV (M' := 227) (p' := 15) (rest := []) (as := [(.inr (.inr (.inl (some 1))))]) rfl rfl rfl rfl rfl rfl rfl rfl rfl rfl rfl rfl rfl h (fun s3 h => ?_)
  refine w_aload (p' := 16) rfl rfl rfl rfl ?_
  refine w_const (p' := 17) rfl rfl rfl ?_
  refine v_putI (p' := 20) (j := 11) rfl rfl (by decide) rfl rfl ⟨by decide, by decide⟩ ?_
  intro s4 es4
  have h := h s4 es4
  refine w_iload (p' := 21) rfl rfl rfl rfl ?_
  exact w_iret rfl trivial ⟨rfl, _, rfl, h⟩
set_option maxRecDepth 20000 in
theorem sg_T_nodes {X : Nat × (Nat → Int32)}  {s : qM} {K : Int → qM → Prop} (h : c_T_growTree X  s (fun s1 => c_Tree_size X  s1 (fun r3 s2 => K r3 s2))) : c_T_nodes X  s K := by
  unfold c_T_nodes
  refine w_aload (p' := 1) rfl rfl rfl rfl ?_
  refine v_callV (M' := 31) (p' := 4) (rest := []) (as := [(.inr (.inr (.inl (some 0))))]) rfl rfl rfl rfl rfl rfl rfl rfl rfl rfl rfl rfl rfl h (fun s1 h => ?_)
  refine w_aload (p' := 5) rfl rfl rfl rfl ?_
  refine w_getR (p' := 8) rfl rfl rfl rfl rfl ?_
  refine v_callI (M' := 250) (p' := 11) (rest := []) (as := [(.inr (.inr (.inl (some 64))))]) rfl rfl rfl rfl rfl rfl rfl rfl rfl rfl rfl rfl rfl h (fun r3 s2 h => ?_)
  exact w_iret rfl trivial ⟨rfl, _, rfl, h⟩
set_option maxRecDepth 20000 in
theorem sg_T_node {X : Nat × (Nat → Int32)} {x1 : Int} {x2 : Int} {s : qM} {K : Int ⊕ Nat → qM → Prop} (h : c_T_growTree X  s (fun s1 => (((x1 < 0) → K (.inr 0) s1) ∧ (¬ (x1 < 0) → c_Tree_size X  s1 (fun r3 s2 => (((x1 < r3) → (((x2 = 0) → c_Tree_kindOf X x1 s2 (fun r5 s4 => K (.inl r5) s4)) ∧ (¬ (x2 = 0) → (((x2 = 1) → c_Tree_parentOf X x1 s2 (fun r7 s6 => K (.inl r7) s6)) ∧ (¬ (x2 = 1) → (((x2 = 2) → c_Tree_childrenOf X x1 s2 (fun r9 s8 => K (.inl r9) s8)) ∧ (¬ (x2 = 2) → (((x2 = 3) → c_Tree_measureOf X x1 s2 (fun r11 s10 => K (.inl r11) s10)) ∧ (¬ (x2 = 3) → K (.inr 1) s2))))))))) ∧ (¬ (x1 < r3) → K (.inr 0) s2))))))) : c_T_node X x1 x2 s K := by
  unfold c_T_node
  refine w_aload (p' := 1) rfl rfl rfl rfl ?_
  refine v_callV (M' := 31) (p' := 4) (rest := []) (as := [(.inr (.inr (.inl (some 0))))]) rfl rfl rfl rfl rfl rfl rfl rfl rfl rfl rfl rfl rfl h (fun s1 h => ?_)
  refine w_iload (p' := 5) rfl rfl rfl rfl ?_
  refine w_if (t := 19) (e := 8) rfl rfl rfl (fun e => ?_) (fun e => ?_)
  · have h := h.1 e
    exact w_throw rfl rfl (Nat.le_of_ble_eq_true rfl) (Nat.le_of_ble_eq_true rfl) ⟨rfl, Or.inr ⟨_, rfl, h⟩⟩
  · have h := h.2 e
    refine w_iload (p' := 9) rfl rfl rfl rfl ?_
    refine w_aload (p' := 10) rfl rfl rfl rfl ?_
    refine w_getR (p' := 13) rfl rfl rfl rfl rfl ?_
    refine v_callI (M' := 250) (p' := 16) (rest := [(.inl x1)]) (as := [(.inr (.inr (.inl (some 64))))]) rfl rfl rfl rfl rfl rfl rfl rfl rfl rfl rfl rfl rfl h (fun r3 s2 h => ?_)
    refine w_icmp (t := 29) (e := 19) rfl rfl rfl (fun e => ?_) (fun e => ?_)
    · have h := h.1 e
      refine w_iload (p' := 30) rfl rfl rfl rfl ?_
      refine w_tsw rfl ?_
      refine ⟨fun e => ?_, fun e => ?_⟩
      · have h := h.1 e
        refine w_aload (p' := 61) rfl rfl rfl rfl ?_
        refine w_getR (p' := 64) rfl rfl rfl rfl rfl ?_
        refine w_iload (p' := 65) rfl rfl rfl rfl ?_
        refine v_callI (M' := 251) (p' := 68) (rest := []) (as := [(.inr (.inr (.inl (some 64)))), (.inl x1)]) rfl rfl rfl rfl rfl rfl rfl rfl rfl rfl rfl rfl rfl h (fun r5 s4 h => ?_)
        exact w_iret rfl trivial ⟨rfl, Or.inl ⟨_, rfl, h⟩⟩
      · have h := h.2 e
        refine ⟨fun e => ?_, fun e => ?_⟩
        · have h := h.1 e
          refine w_aload (p' := 70) rfl rfl rfl rfl ?_
          refine w_getR (p' := 73) rfl rfl rfl rfl rfl ?_
          refine w_iload (p' := 74) rfl rfl rfl rfl ?_
          refine v_callI (M' := 252) (p' := 77) (rest := []) (as := [(.inr (.inr (.inl (some 64)))), (.inl x1)]) rfl rfl rfl rfl rfl rfl rfl rfl rfl rfl rfl rfl rfl h (fun r7 s6 h => ?_)
          exact w_iret rfl trivial ⟨rfl, Or.inl ⟨_, rfl, h⟩⟩
        · have h := h.2 e
          refine ⟨fun e => ?_, fun e => ?_⟩
          · have h := h.1 e
            refine w_aload (p' := 79) rfl rfl rfl rfl ?_
            refine w_getR (p' := 82) rfl rfl rfl rfl rfl ?_
            refine w_iload (p' := 83) rfl rfl rfl rfl ?_
            refine v_callI (M' := 253) (p' := 86) (rest := []) (as := [(.inr (.inr (.inl (some 64)))), (.inl x1)]) rfl rfl rfl rfl rfl rfl rfl rfl rfl rfl rfl rfl rfl h (fun r9 s8 h => ?_)
            exact w_iret rfl trivial ⟨rfl, Or.inl ⟨_, rfl, h⟩⟩
          · have h := h.2 e
            refine ⟨fun e => ?_, fun e => ?_⟩
            · have h := h.1 e
              refine w_aload (p' := 88) rfl rfl rfl rfl ?_
              refine w_getR (p' := 91) rfl rfl rfl rfl rfl ?_
              refine w_iload (p' := 92) rfl rfl rfl rfl ?_
              refine v_callI (M' := 254) (p' := 95) (rest := []) (as := [(.inr (.inr (.inl (some 64)))), (.inl x1)]) rfl rfl rfl rfl rfl rfl rfl rfl rfl rfl rfl rfl rfl h (fun r11 s10 h => ?_)
              exact w_iret rfl trivial ⟨rfl, Or.inl ⟨_, rfl, h⟩⟩
            · have h := h.2 e
              exact w_throw rfl rfl (Nat.le_of_ble_eq_true rfl) (Nat.le_of_ble_eq_true rfl) ⟨rfl, Or.inr ⟨_, rfl, h⟩⟩
    · have h := h.2 e
      exact w_throw rfl rfl (Nat.le_of_ble_eq_true rfl) (Nat.le_of_ble_eq_true rfl) ⟨rfl, Or.inr ⟨_, rfl, h⟩⟩
set_option maxRecDepth 20000 in
theorem sg_T_child {X : Nat × (Nat → Int32)} {x1 : Int} {x2 : Int} {s : qM} {K : Int ⊕ Nat → qM → Prop} (h : c_T_growTree X  s (fun s1 => (((x1 < 0) → K (.inr 0) s1) ∧ (¬ (x1 < 0) → c_Tree_size X  s1 (fun r3 s2 => (((x1 < r3) → (((x2 < 0) → K (.inr 0) s2) ∧ (¬ (x2 < 0) → c_Tree_childrenOf X x1 s2 (fun r5 s4 => (((x2 < r5) → c_Tree_childOf X x1 x2 s4 (fun r7 s6 => K (.inl r7) s6)) ∧ (¬ (x2 < r5) → K (.inr 0) s4)))))) ∧ (¬ (x1 < r3) → K (.inr 0) s2))))))) : c_T_child X x1 x2 s K := by
  unfold c_T_child
  refine w_aload (p' := 1) rfl rfl rfl rfl ?_
  refine v_callV (M' := 31) (p' := 4) (rest := []) (as := [(.inr (.inr (.inl (some 0))))]) rfl rfl rfl rfl rfl rfl rfl rfl rfl rfl rfl rfl rfl h (fun s1 h => ?_)
  refine w_iload (p' := 5) rfl rfl rfl rfl ?_
  refine w_if (t := 19) (e := 8) rfl rfl rfl (fun e => ?_) (fun e => ?_)
  · have h := h.1 e
    exact w_throw rfl rfl (Nat.le_of_ble_eq_true rfl) (Nat.le_of_ble_eq_true rfl) ⟨rfl, Or.inr ⟨_, rfl, h⟩⟩
  · have h := h.2 e
    refine w_iload (p' := 9) rfl rfl rfl rfl ?_
    refine w_aload (p' := 10) rfl rfl rfl rfl ?_
    refine w_getR (p' := 13) rfl rfl rfl rfl rfl ?_
    refine v_callI (M' := 250) (p' := 16) (rest := [(.inl x1)]) (as := [(.inr (.inr (.inl (some 64))))]) rfl rfl rfl rfl rfl rfl rfl rfl rfl rfl rfl rfl rfl h (fun r3 s2 h => ?_)
    refine w_icmp (t := 29) (e := 19) rfl rfl rfl (fun e => ?_) (fun e => ?_)
    · have h := h.1 e
      refine w_iload (p' := 30) rfl rfl rfl rfl ?_
      refine w_if (t := 45) (e := 33) rfl rfl rfl (fun e => ?_) (fun e => ?_)
      · have h := h.1 e
        exact w_throw rfl rfl (Nat.le_of_ble_eq_true rfl) (Nat.le_of_ble_eq_true rfl) ⟨rfl, Or.inr ⟨_, rfl, h⟩⟩
      · have h := h.2 e
        refine w_iload (p' := 34) rfl rfl rfl rfl ?_
        refine w_aload (p' := 35) rfl rfl rfl rfl ?_
        refine w_getR (p' := 38) rfl rfl rfl rfl rfl ?_
        refine w_iload (p' := 39) rfl rfl rfl rfl ?_
        refine v_callI (M' := 253) (p' := 42) (rest := [(.inl x2)]) (as := [(.inr (.inr (.inl (some 64)))), (.inl x1)]) rfl rfl rfl rfl rfl rfl rfl rfl rfl rfl rfl rfl rfl h (fun r5 s4 h => ?_)
        refine w_icmp (t := 55) (e := 45) rfl rfl rfl (fun e => ?_) (fun e => ?_)
        · have h := h.1 e
          refine w_aload (p' := 56) rfl rfl rfl rfl ?_
          refine w_getR (p' := 59) rfl rfl rfl rfl rfl ?_
          refine w_iload (p' := 60) rfl rfl rfl rfl ?_
          refine w_iload (p' := 61) rfl rfl rfl rfl ?_
          refine v_callI (M' := 257) (p' := 64) (rest := []) (as := [(.inr (.inr (.inl (some 64)))), (.inl x1), (.inl x2)]) rfl rfl rfl rfl rfl rfl rfl rfl rfl rfl rfl rfl rfl h (fun r7 s6 h => ?_)
          exact w_iret rfl trivial ⟨rfl, Or.inl ⟨_, rfl, h⟩⟩
        · have h := h.2 e
          exact w_throw rfl rfl (Nat.le_of_ble_eq_true rfl) (Nat.le_of_ble_eq_true rfl) ⟨rfl, Or.inr ⟨_, rfl, h⟩⟩
    · have h := h.2 e
      exact w_throw rfl rfl (Nat.le_of_ble_eq_true rfl) (Nat.le_of_ble_eq_true rfl) ⟨rfl, Or.inr ⟨_, rfl, h⟩⟩
set_option maxRecDepth 20000 in
theorem sg_T_owner {X : Nat × (Nat → Int32)} {x1 : Int} {s : qM} {K : Int ⊕ Nat → qM → Prop} (h : c_T_growTree X  s (fun s1 => (((x1 < 0) → K (.inr 0) s1) ∧ (¬ (x1 < 0) → c_Row_size X 1 s1 (fun r3 s2 => (((x1 < r3) → c_Blocks_ownerAt X x1 s2 (fun r5 s4 => c_Tree_numberOf X r5 s4 (fun r7 s6 => K (.inl r7) s6))) ∧ (¬ (x1 < r3) → K (.inr 0) s2))))))) : c_T_owner X x1 s K := by
  unfold c_T_owner
  refine w_aload (p' := 1) rfl rfl rfl rfl ?_
  refine v_callV (M' := 31) (p' := 4) (rest := []) (as := [(.inr (.inr (.inl (some 0))))]) rfl rfl rfl rfl rfl rfl rfl rfl rfl rfl rfl rfl rfl h (fun s1 h => ?_)
  refine w_iload (p' := 5) rfl rfl rfl rfl ?_
  refine w_if (t := 19) (e := 8) rfl rfl rfl (fun e => ?_) (fun e => ?_)
  · have h := h.1 e
    exact w_throw rfl rfl (Nat.le_of_ble_eq_true rfl) (Nat.le_of_ble_eq_true rfl) ⟨rfl, Or.inr ⟨_, rfl, h⟩⟩
  · have h := h.2 e
    refine w_iload (p' := 9) rfl rfl rfl rfl ?_
    refine w_aload (p' := 10) rfl rfl rfl rfl ?_
    refine w_getR (p' := 13) rfl rfl rfl rfl rfl ?_
    refine v_callI (M' := 223) (p' := 16) (rest := [(.inl x1)]) (as := [(.inr (.inr (.inl (some 1))))]) rfl rfl rfl rfl rfl rfl rfl rfl rfl rfl rfl rfl rfl h (fun r3 s2 h => ?_)
    refine w_icmp (t := 29) (e := 19) rfl rfl rfl (fun e => ?_) (fun e => ?_)
    · have h := h.1 e
      refine w_aload (p' := 30) rfl rfl rfl rfl ?_
      refine w_getR (p' := 33) rfl rfl rfl rfl rfl ?_
      refine w_aload (p' := 34) rfl rfl rfl rfl ?_
      refine w_getR (p' := 37) rfl rfl rfl rfl rfl ?_
      refine w_iload (p' := 38) rfl rfl rfl rfl ?_
      refine v_callI (M' := 168) (p' := 41) (rest := [(.inr (.inr (.inl (some 64))))]) (as := [(.inr (.inr (.inl (some 12)))), (.inl x1)]) rfl rfl rfl rfl rfl rfl rfl rfl rfl rfl rfl rfl rfl h (fun r5 s4 h => ?_)
      refine v_callI (M' := 256) (p' := 44) (rest := []) (as := [(.inr (.inr (.inl (some 64)))), (.inl r5)]) rfl rfl rfl rfl rfl rfl rfl rfl rfl rfl rfl rfl rfl h (fun r7 s6 h => ?_)
      exact w_iret rfl trivial ⟨rfl, Or.inl ⟨_, rfl, h⟩⟩
    · have h := h.2 e
      exact w_throw rfl rfl (Nat.le_of_ble_eq_true rfl) (Nat.le_of_ble_eq_true rfl) ⟨rfl, Or.inr ⟨_, rfl, h⟩⟩
set_option maxRecDepth 20000 in
theorem sg_T_leads {X : Nat × (Nat → Int32)} {x1 : Int} {s : qM} {K : Int ⊕ Nat → qM → Prop} (h : c_T_growTree X  s (fun s1 => (((x1 < 0) → K (.inr 0) s1) ∧ (¬ (x1 < 0) → c_Tree_size X  s1 (fun r3 s2 => (((x1 < r3) → c_Tree_kindOf X x1 s2 (fun r5 s4 => (((r5 = 12) → c_Tree_signOf X x1 s4 (fun r7 s6 => c_Blocks_linkedBlock X r7 s6 (fun r9 s8 => c_Tree_numberOf X r9 s8 (fun r11 s10 => K (.inl r11) s10)))) ∧ (¬ (r5 = 12) → K (.inr 2) s4)))) ∧ (¬ (x1 < r3) → K (.inr 0) s2))))))) : c_T_leads X x1 s K := by
  unfold c_T_leads
  refine w_aload (p' := 1) rfl rfl rfl rfl ?_
  refine v_callV (M' := 31) (p' := 4) (rest := []) (as := [(.inr (.inr (.inl (some 0))))]) rfl rfl rfl rfl rfl rfl rfl rfl rfl rfl rfl rfl rfl h (fun s1 h => ?_)
  refine w_iload (p' := 5) rfl rfl rfl rfl ?_
  refine w_if (t := 19) (e := 8) rfl rfl rfl (fun e => ?_) (fun e => ?_)
  · have h := h.1 e
    exact w_throw rfl rfl (Nat.le_of_ble_eq_true rfl) (Nat.le_of_ble_eq_true rfl) ⟨rfl, Or.inr ⟨_, rfl, h⟩⟩
  · have h := h.2 e
    refine w_iload (p' := 9) rfl rfl rfl rfl ?_
    refine w_aload (p' := 10) rfl rfl rfl rfl ?_
    refine w_getR (p' := 13) rfl rfl rfl rfl rfl ?_
    refine v_callI (M' := 250) (p' := 16) (rest := [(.inl x1)]) (as := [(.inr (.inr (.inl (some 64))))]) rfl rfl rfl rfl rfl rfl rfl rfl rfl rfl rfl rfl rfl h (fun r3 s2 h => ?_)
    refine w_icmp (t := 29) (e := 19) rfl rfl rfl (fun e => ?_) (fun e => ?_)
    · have h := h.1 e
      refine w_aload (p' := 30) rfl rfl rfl rfl ?_
      refine w_getR (p' := 33) rfl rfl rfl rfl rfl ?_
      refine w_iload (p' := 34) rfl rfl rfl rfl ?_
      refine v_callI (M' := 251) (p' := 37) (rest := []) (as := [(.inr (.inr (.inl (some 64)))), (.inl x1)]) rfl rfl rfl rfl rfl rfl rfl rfl rfl rfl rfl rfl rfl h (fun r5 s4 h => ?_)
      refine w_const (p' := 39) rfl rfl rfl ?_
      refine w_icmp (t := 52) (e := 42) rfl rfl rfl (fun e => ?_) (fun e => ?_)
      · have h := h.1 e
        refine w_aload (p' := 53) rfl rfl rfl rfl ?_
        refine w_getR (p' := 56) rfl rfl rfl rfl rfl ?_
        refine w_aload (p' := 57) rfl rfl rfl rfl ?_
        refine w_getR (p' := 60) rfl rfl rfl rfl rfl ?_
        refine w_aload (p' := 61) rfl rfl rfl rfl ?_
        refine w_getR (p' := 64) rfl rfl rfl rfl rfl ?_
        refine w_iload (p' := 65) rfl rfl rfl rfl ?_
        refine v_callI (M' := 255) (p' := 68) (rest := [(.inr (.inr (.inl (some 12)))), (.inr (.inr (.inl (some 64))))]) (as := [(.inr (.inr (.inl (some 64)))), (.inl x1)]) rfl rfl rfl rfl rfl rfl rfl rfl rfl rfl rfl rfl rfl h (fun r7 s6 h => ?_)
        refine v_callI (M' := 173) (p' := 71) (rest := [(.inr (.inr (.inl (some 64))))]) (as := [(.inr (.inr (.inl (some 12)))), (.inl r7)]) rfl rfl rfl rfl rfl rfl rfl rfl rfl rfl rfl rfl rfl h (fun r9 s8 h => ?_)
        refine v_callI (M' := 256) (p' := 74) (rest := []) (as := [(.inr (.inr (.inl (some 64)))), (.inl r9)]) rfl rfl rfl rfl rfl rfl rfl rfl rfl rfl rfl rfl rfl h (fun r11 s10 h => ?_)
        exact w_iret rfl trivial ⟨rfl, Or.inl ⟨_, rfl, h⟩⟩
      · have h := h.2 e
        exact w_throw rfl rfl (Nat.le_of_ble_eq_true rfl) (Nat.le_of_ble_eq_true rfl) ⟨rfl, Or.inr ⟨_, rfl, h⟩⟩
    · have h := h.2 e
      exact w_throw rfl rfl (Nat.le_of_ble_eq_true rfl) (Nat.le_of_ble_eq_true rfl) ⟨rfl, Or.inr ⟨_, rfl, h⟩⟩
set_option maxRecDepth 20000 in
theorem sg_T_count {X : Nat × (Nat → Int32)} {x1 : Int} {s : qM} {K : Int ⊕ Nat → qM → Prop} (h : (((x1 < 0) → K (.inr 1) s) ∧ (¬ (x1 < 0) → (((x1 ≤ 12) → c_T_growTree X  s (fun s1 => c_Tree_manyOf X x1 s1 (fun r3 s2 => K (.inl r3) s2))) ∧ (¬ (x1 ≤ 12) → K (.inr 1) s))))) : c_T_count X x1 s K := by
  unfold c_T_count
  refine w_iload (p' := 1) rfl rfl rfl rfl ?_
  refine w_if (t := 10) (e := 4) rfl rfl rfl (fun e => ?_) (fun e => ?_)
  · have h := h.1 e
    exact w_throw rfl rfl (Nat.le_of_ble_eq_true rfl) (Nat.le_of_ble_eq_true rfl) ⟨rfl, Or.inr ⟨_, rfl, h⟩⟩
  · have h := h.2 e
    refine w_iload (p' := 5) rfl rfl rfl rfl ?_
    refine w_const (p' := 7) rfl rfl rfl ?_
    refine w_icmp (t := 20) (e := 10) rfl rfl rfl (fun e => ?_) (fun e => ?_)
    · have h := h.1 e
      refine w_aload (p' := 21) rfl rfl rfl rfl ?_
      refine v_callV (M' := 31) (p' := 24) (rest := []) (as := [(.inr (.inr (.inl (some 0))))]) rfl rfl rfl rfl rfl rfl rfl rfl rfl rfl rfl rfl rfl h (fun s1 h => ?_)
      refine w_aload (p' := 25) rfl rfl rfl rfl ?_
      refine w_getR (p' := 28) rfl rfl rfl rfl rfl ?_
      refine w_iload (p' := 29) rfl rfl rfl rfl ?_
      refine v_callI (M' := 258) (p' := 32) (rest := []) (as := [(.inr (.inr (.inl (some 64)))), (.inl x1)]) rfl rfl rfl rfl rfl rfl rfl rfl rfl rfl rfl rfl rfl h (fun r3 s2 h => ?_)
      exact w_iret rfl trivial ⟨rfl, Or.inl ⟨_, rfl, h⟩⟩
    · have h := h.2 e
      exact w_throw rfl rfl (Nat.le_of_ble_eq_true rfl) (Nat.le_of_ble_eq_true rfl) ⟨rfl, Or.inr ⟨_, rfl, h⟩⟩
set_option maxRecDepth 20000 in
theorem sg_T_print {X : Nat × (Nat → Int32)} {x1 : Int} {s : qM} {K : Int ⊕ Nat → qM → Prop} (h : (((x1 = 0) → c_T_growTree X  s (fun s1 => c_Printer_of X x1 s1 (fun r3 s2 => (q_tag S0 r3 = some 13) ∧ c_Row_size X r3 s2 (fun r5 s4 => K (.inl r5) s4)))) ∧ (¬ (x1 = 0) → (((x1 = 1) → c_T_growTree X  s (fun s6 => c_Printer_of X x1 s6 (fun r8 s7 => (q_tag S0 r8 = some 13) ∧ c_Row_size X r8 s7 (fun r10 s9 => K (.inl r10) s9)))) ∧ (¬ (x1 = 1) → K (.inr 1) s))))) : c_T_print X x1 s K := by
  unfold c_T_print
  refine w_iload (p' := 1) rfl rfl rfl rfl ?_
  refine w_if (t := 19) (e := 4) rfl rfl rfl (fun e => ?_) (fun e => ?_)
  · have h := h.1 e
    refine w_aload (p' := 20) rfl rfl rfl rfl ?_
    refine v_callV (M' := 31) (p' := 23) (rest := []) (as := [(.inr (.inr (.inl (some 0))))]) rfl rfl rfl rfl rfl rfl rfl rfl rfl rfl rfl rfl rfl h (fun s1 h => ?_)
    refine w_aload (p' := 24) rfl rfl rfl rfl ?_
    refine w_getR (p' := 27) rfl rfl rfl rfl rfl ?_
    refine w_iload (p' := 28) rfl rfl rfl rfl ?_
    refine v_callA (M' := 217) (p' := 31) (rest := []) (as := [(.inr (.inr (.inl (some 83)))), (.inl x1)]) rfl rfl rfl rfl rfl rfl rfl rfl rfl rfl rfl rfl rfl h (fun r3 s2 h => ?_)
    refine v_callI (M' := 223) (p' := 34) (rest := []) (as := [(.inr (.inr (.inl (some r3))))]) rfl rfl rfl rfl rfl rfl rfl rfl rfl rfl rfl h.1 rfl h.2 (fun r5 s4 h => ?_)
    exact w_iret rfl trivial ⟨rfl, Or.inl ⟨_, rfl, h⟩⟩
  · have h := h.2 e
    refine w_iload (p' := 5) rfl rfl rfl rfl ?_
    refine w_const (p' := 6) rfl rfl rfl ?_
    refine w_icmp (t := 19) (e := 9) rfl rfl rfl (fun e => ?_) (fun e => ?_)
    · have h := h.1 e
      refine w_aload (p' := 20) rfl rfl rfl rfl ?_
      refine v_callV (M' := 31) (p' := 23) (rest := []) (as := [(.inr (.inr (.inl (some 0))))]) rfl rfl rfl rfl rfl rfl rfl rfl rfl rfl rfl rfl rfl h (fun s6 h => ?_)
      refine w_aload (p' := 24) rfl rfl rfl rfl ?_
      refine w_getR (p' := 27) rfl rfl rfl rfl rfl ?_
      refine w_iload (p' := 28) rfl rfl rfl rfl ?_
      refine v_callA (M' := 217) (p' := 31) (rest := []) (as := [(.inr (.inr (.inl (some 83)))), (.inl x1)]) rfl rfl rfl rfl rfl rfl rfl rfl rfl rfl rfl rfl rfl h (fun r8 s7 h => ?_)
      refine v_callI (M' := 223) (p' := 34) (rest := []) (as := [(.inr (.inr (.inl (some r8))))]) rfl rfl rfl rfl rfl rfl rfl rfl rfl rfl rfl h.1 rfl h.2 (fun r10 s9 h => ?_)
      exact w_iret rfl trivial ⟨rfl, Or.inl ⟨_, rfl, h⟩⟩
    · have h := h.2 e
      exact w_throw rfl rfl (Nat.le_of_ble_eq_true rfl) (Nat.le_of_ble_eq_true rfl) ⟨rfl, Or.inr ⟨_, rfl, h⟩⟩
set_option maxRecDepth 20000 in
theorem sg_T_printed {X : Nat × (Nat → Int32)} {x1 : Int} {x2 : Int} {s : qM} {K : Int ⊕ Nat → qM → Prop} (h : (((x1 = 0) → c_T_growTree X  s (fun s1 => c_Printer_of X x1 s1 (fun r3 s2 => (((x2 < 0) → K (.inr 0) s2) ∧ (¬ (x2 < 0) → (q_tag S0 r3 = some 13) ∧ c_Row_size X r3 s2 (fun r5 s4 => (((x2 < r5) → (q_tag S0 r3 = some 13) ∧ c_Row_at X r3 x2 s4 (fun r7 s6 => K (.inl r7) s6)) ∧ (¬ (x2 < r5) → K (.inr 0) s4)))))))) ∧ (¬ (x1 = 0) → (((x1 = 1) → c_T_growTree X  s (fun s8 => c_Printer_of X x1 s8 (fun r10 s9 => (((x2 < 0) → K (.inr 0) s9) ∧ (¬ (x2 < 0) → (q_tag S0 r10 = some 13) ∧ c_Row_size X r10 s9 (fun r12 s11 => (((x2 < r12) → (q_tag S0 r10 = some 13) ∧ c_Row_at X r10 x2 s11 (fun r14 s13 => K (.inl r14) s13)) ∧ (¬ (x2 < r12) → K (.inr 0) s11)))))))) ∧ (¬ (x1 = 1) → K (.inr 1) s))))) : c_T_printed X x1 x2 s K := by
  unfold c_T_printed
  refine w_iload (p' := 1) rfl rfl rfl rfl ?_
  refine w_if (t := 19) (e := 4) rfl rfl rfl (fun e => ?_) (fun e => ?_)
  · have h := h.1 e
    refine w_aload (p' := 20) rfl rfl rfl rfl ?_
    refine v_callV (M' := 31) (p' := 23) (rest := []) (as := [(.inr (.inr (.inl (some 0))))]) rfl rfl rfl rfl rfl rfl rfl rfl rfl rfl rfl rfl rfl h (fun s1 h => ?_)
    refine w_aload (p' := 24) rfl rfl rfl rfl ?_
    refine w_getR (p' := 27) rfl rfl rfl rfl rfl ?_
    refine w_iload (p' := 28) rfl rfl rfl rfl ?_
    refine v_callA (M' := 217) (p' := 31) (rest := []) (as := [(.inr (.inr (.inl (some 83)))), (.inl x1)]) rfl rfl rfl rfl rfl rfl rfl rfl rfl rfl rfl rfl rfl h (fun r3 s2 h => ?_)
    refine w_astore (p' := 32) (ls' := [some (.inr (.inr (.inl (some 0)))), some (.inl x1), some (.inl x2), some (.inr (.inr (.inl (some r3))))]) rfl rfl rfl (Nat.le_of_ble_eq_true rfl) rfl ?_
    refine w_iload (p' := 33) rfl rfl rfl rfl ?_
    refine w_if (t := 44) (e := 36) rfl rfl rfl (fun e => ?_) (fun e => ?_)
    · have h := h.1 e
      exact w_throw rfl rfl (Nat.le_of_ble_eq_true rfl) (Nat.le_of_ble_eq_true rfl) ⟨rfl, Or.inr ⟨_, rfl, h⟩⟩
    · have h := h.2 e
      refine w_iload (p' := 37) rfl rfl rfl rfl ?_
      refine w_aload (p' := 38) rfl rfl rfl rfl ?_
      refine v_callI (M' := 223) (p' := 41) (rest := [(.inl x2)]) (as := [(.inr (.inr (.inl (some r3))))]) rfl rfl rfl rfl rfl rfl rfl rfl rfl rfl rfl h.1 rfl h.2 (fun r5 s4 h => ?_)
      refine w_icmp (t := 54) (e := 44) rfl rfl rfl (fun e => ?_) (fun e => ?_)
      · have h := h.1 e
        refine w_aload (p' := 55) rfl rfl rfl rfl ?_
        refine w_iload (p' := 56) rfl rfl rfl rfl ?_
        refine v_callI (M' := 224) (p' := 59) (rest := []) (as := [(.inr (.inr (.inl (some r3)))), (.inl x2)]) rfl rfl rfl rfl rfl rfl rfl rfl rfl rfl rfl h.1 rfl h.2 (fun r7 s6 h => ?_)
        exact w_iret rfl trivial ⟨rfl, Or.inl ⟨_, rfl, h⟩⟩
      · have h := h.2 e
        exact w_throw rfl rfl (Nat.le_of_ble_eq_true rfl) (Nat.le_of_ble_eq_true rfl) ⟨rfl, Or.inr ⟨_, rfl, h⟩⟩
  · have h := h.2 e
    refine w_iload (p' := 5) rfl rfl rfl rfl ?_
    refine w_const (p' := 6) rfl rfl rfl ?_
    refine w_icmp (t := 19) (e := 9) rfl rfl rfl (fun e => ?_) (fun e => ?_)
    · have h := h.1 e
      refine w_aload (p' := 20) rfl rfl rfl rfl ?_
      refine v_callV (M' := 31) (p' := 23) (rest := []) (as := [(.inr (.inr (.inl (some 0))))]) rfl rfl rfl rfl rfl rfl rfl rfl rfl rfl rfl rfl rfl h (fun s8 h => ?_)
      refine w_aload (p' := 24) rfl rfl rfl rfl ?_
      refine w_getR (p' := 27) rfl rfl rfl rfl rfl ?_
      refine w_iload (p' := 28) rfl rfl rfl rfl ?_
      refine v_callA (M' := 217) (p' := 31) (rest := []) (as := [(.inr (.inr (.inl (some 83)))), (.inl x1)]) rfl rfl rfl rfl rfl rfl rfl rfl rfl rfl rfl rfl rfl h (fun r10 s9 h => ?_)
      refine w_astore (p' := 32) (ls' := [some (.inr (.inr (.inl (some 0)))), some (.inl x1), some (.inl x2), some (.inr (.inr (.inl (some r10))))]) rfl rfl rfl (Nat.le_of_ble_eq_true rfl) rfl ?_
      refine w_iload (p' := 33) rfl rfl rfl rfl ?_
      refine w_if (t := 44) (e := 36) rfl rfl rfl (fun e => ?_) (fun e => ?_)
      · have h := h.1 e
        exact w_throw rfl rfl (Nat.le_of_ble_eq_true rfl) (Nat.le_of_ble_eq_true rfl) ⟨rfl, Or.inr ⟨_, rfl, h⟩⟩
      · have h := h.2 e
        refine w_iload (p' := 37) rfl rfl rfl rfl ?_
        refine w_aload (p' := 38) rfl rfl rfl rfl ?_
        refine v_callI (M' := 223) (p' := 41) (rest := [(.inl x2)]) (as := [(.inr (.inr (.inl (some r10))))]) rfl rfl rfl rfl rfl rfl rfl rfl rfl rfl rfl h.1 rfl h.2 (fun r12 s11 h => ?_)
        refine w_icmp (t := 54) (e := 44) rfl rfl rfl (fun e => ?_) (fun e => ?_)
        · have h := h.1 e
          refine w_aload (p' := 55) rfl rfl rfl rfl ?_
          refine w_iload (p' := 56) rfl rfl rfl rfl ?_
          refine v_callI (M' := 224) (p' := 59) (rest := []) (as := [(.inr (.inr (.inl (some r10)))), (.inl x2)]) rfl rfl rfl rfl rfl rfl rfl rfl rfl rfl rfl h.1 rfl h.2 (fun r14 s13 h => ?_)
          exact w_iret rfl trivial ⟨rfl, Or.inl ⟨_, rfl, h⟩⟩
        · have h := h.2 e
          exact w_throw rfl rfl (Nat.le_of_ble_eq_true rfl) (Nat.le_of_ble_eq_true rfl) ⟨rfl, Or.inr ⟨_, rfl, h⟩⟩
    · have h := h.2 e
      exact w_throw rfl rfl (Nat.le_of_ble_eq_true rfl) (Nat.le_of_ble_eq_true rfl) ⟨rfl, Or.inr ⟨_, rfl, h⟩⟩
set_option maxRecDepth 20000 in
theorem sg_T_format {X : Nat × (Nat → Int32)}  {s : qM} {K : Int → qM → Prop} (h : c_T_growTree X  s (fun s1 => c_Row_size X 1 s1 (fun r3 s2 => c_T_writeFormatted X  s2 (fun s4 => c_Row_become X 1 88 s4 (fun s5 => (∀ s6 : qM, s6 = q_up s5 0 11 1 → c_Row_size X 1 s6 (fun r8 s7 => (-2147483648 ≤ (r3 - r8) ∧ (r3 - r8) < 2147483648) ∧ K (r3 - r8) s7))))))) : c_T_format X  s K := by
  unfold c_T_format
  refine w_aload (p' := 1) rfl rfl rfl rfl ?_
  refine v_callV (M' := 31) (p' := 4) (rest := []) (as := [(.inr (.inr (.inl (some 0))))]) rfl rfl rfl rfl rfl rfl rfl rfl rfl rfl rfl rfl rfl h (fun s1 h => ?_)
  refine w_aload (p' := 5) rfl rfl rfl rfl ?_
  refine w_getR (p' := 8) rfl rfl rfl rfl rfl ?_
  refine v_callI (M' := 223) (p' := 11) (rest := []) (as := [(.inr (.inr (.inl (some 1))))]) rfl rfl rfl rfl rfl rfl rfl rfl rfl rfl rfl rfl rfl h (fun r3 s2 h => ?_)
  refine w_istore (p' := 12) (ls' := [some (.inr (.inr (.inl (some 0)))), some (.inl r3)]) rfl rfl rfl (Nat.le_of_ble_eq_true rfl) rfl ?_
  refine w_aload (p' := 13) rfl rfl rfl rfl ?_
  refine v_callV (M' := 34) (p' := 16) (rest := []) (as := [(.inr (.inr (.inl (some 0))))]) rfl rfl rfl rfl rfl rfl rfl rfl rfl rfl rfl rfl rfl h (fun s4 h => ?_)
  refine w_aload (p' := 17) rfl rfl rfl rfl ?_
  refine w_getR (p' := 20) rfl rfl rfl rfl rfl ?_
  refine w_aload (p' := 21) rfl rfl rfl rfl ?_
  refine w_getR (p' := 24) rfl rfl rfl rfl rfl ?_
  refine v_callV (M' := 232) (p' := 27) (rest := []) (as := [(.inr (.inr (.inl (some 1)))), (.inr (.inr (.inl (some 88))))]) rfl rfl rfl rfl rfl rfl rfl rfl rfl rfl rfl rfl rfl h (fun s5 h => ?_)
  refine w_aload (p' := 28) rfl rfl rfl rfl ?_
  refine w_const (p' := 29) rfl rfl rfl ?_
  refine v_putI (p' := 32) (j := 11) rfl rfl (by decide) rfl rfl ⟨by decide, by decide⟩ ?_
  intro s6 es6
  have h := h s6 es6
  refine w_iload (p' := 33) rfl rfl rfl rfl ?_
  refine w_aload (p' := 34) rfl rfl rfl rfl ?_
  refine w_getR (p' := 37) rfl rfl rfl rfl rfl ?_
  refine v_callI (M' := 223) (p' := 40) (rest := [(.inl r3)]) (as := [(.inr (.inr (.inl (some 1))))]) rfl rfl rfl rfl rfl rfl rfl rfl rfl rfl rfl rfl rfl h (fun r8 s7 h => ?_)
  refine w_sub (p' := 41) rfl rfl h.1 ?_
  have h := h.2
  exact w_iret rfl trivial ⟨rfl, _, rfl, h⟩
set_option maxRecDepth 20000 in
theorem sg_T_keep {X : Nat × (Nat → Int32)} {x1 : Int} {s : qM} {K : Int ⊕ Nat → qM → Prop} (h : (((x1 = 0) → (((x1 ≠ 0) → c_Row_size X 5 s (fun r2 s1 => c_Row_become X 5 1 s1 (fun s3 => K (.inl r2) s3))) ∧ (¬ (x1 ≠ 0) → c_Row_size X 3 s (fun r5 s4 => c_Row_become X 3 1 s4 (fun s6 => K (.inl r5) s6))))) ∧ (¬ (x1 = 0) → (((x1 = 1) → (((x1 ≠ 0) → c_Row_size X 5 s (fun r8 s7 => c_Row_become X 5 1 s7 (fun s9 => K (.inl r8) s9))) ∧ (¬ (x1 ≠ 0) → c_Row_size X 3 s (fun r11 s10 => c_Row_become X 3 1 s10 (fun s12 => K (.inl r11) s12))))) ∧ (¬ (x1 = 1) → K (.inr 1) s))))) : c_T_keep X x1 s K := by
  unfold c_T_keep
  refine w_iload (p' := 1) rfl rfl rfl rfl ?_
  refine w_if (t := 19) (e := 4) rfl rfl rfl (fun e => ?_) (fun e => ?_)
  · have h := h.1 e
    refine w_iload (p' := 20) rfl rfl rfl rfl ?_
    refine w_if (t := 30) (e := 23) rfl rfl rfl (fun e => ?_) (fun e => ?_)
    · have h := h.1 e
      refine w_aload (p' := 31) rfl rfl rfl rfl ?_
      refine w_getR (p' := 34) rfl rfl rfl rfl rfl ?_
      refine w_astore (p' := 35) (ls' := [some (.inr (.inr (.inl (some 0)))), some (.inl x1), some (.inr (.inr (.inl (some 5)))), none]) rfl rfl rfl (Nat.le_of_ble_eq_true rfl) rfl ?_
      refine w_aload (p' := 36) rfl rfl rfl rfl ?_
      refine v_callI (M' := 223) (p' := 39) (rest := []) (as := [(.inr (.inr (.inl (some 5))))]) rfl rfl rfl rfl rfl rfl rfl rfl rfl rfl rfl rfl rfl h (fun r2 s1 h => ?_)
      refine w_istore (p' := 40) (ls' := [some (.inr (.inr (.inl (some 0)))), some (.inl x1), some (.inr (.inr (.inl (some 5)))), some (.inl r2)]) rfl rfl rfl (Nat.le_of_ble_eq_true rfl) rfl ?_
      refine w_aload (p' := 41) rfl rfl rfl rfl ?_
      refine w_aload (p' := 42) rfl rfl rfl rfl ?_
      refine w_getR (p' := 45) rfl rfl rfl rfl rfl ?_
      refine v_callV (M' := 232) (p' := 48) (rest := []) (as := [(.inr (.inr (.inl (some 5)))), (.inr (.inr (.inl (some 1))))]) rfl rfl rfl rfl rfl rfl rfl rfl rfl rfl rfl rfl rfl h (fun s3 h => ?_)
      refine w_iload (p' := 49) rfl rfl rfl rfl ?_
      exact w_iret rfl trivial ⟨rfl, Or.inl ⟨_, rfl, h⟩⟩
    · have h := h.2 e
      refine w_aload (p' := 24) rfl rfl rfl rfl ?_
      refine w_getR (p' := 27) rfl rfl rfl rfl rfl ?_
      refine w_goto (p' := 34) rfl rfl ?_
      refine w_astore (p' := 35) (ls' := [some (.inr (.inr (.inl (some 0)))), some (.inl x1), some (.inr (.inr (.inl (some 3)))), none]) rfl rfl rfl (Nat.le_of_ble_eq_true rfl) rfl ?_
      refine w_aload (p' := 36) rfl rfl rfl rfl ?_
      refine v_callI (M' := 223) (p' := 39) (rest := []) (as := [(.inr (.inr (.inl (some 3))))]) rfl rfl rfl rfl rfl rfl rfl rfl rfl rfl rfl rfl rfl h (fun r5 s4 h => ?_)
      refine w_istore (p' := 40) (ls' := [some (.inr (.inr (.inl (some 0)))), some (.inl x1), some (.inr (.inr (.inl (some 3)))), some (.inl r5)]) rfl rfl rfl (Nat.le_of_ble_eq_true rfl) rfl ?_
      refine w_aload (p' := 41) rfl rfl rfl rfl ?_
      refine w_aload (p' := 42) rfl rfl rfl rfl ?_
      refine w_getR (p' := 45) rfl rfl rfl rfl rfl ?_
      refine v_callV (M' := 232) (p' := 48) (rest := []) (as := [(.inr (.inr (.inl (some 3)))), (.inr (.inr (.inl (some 1))))]) rfl rfl rfl rfl rfl rfl rfl rfl rfl rfl rfl rfl rfl h (fun s6 h => ?_)
      refine w_iload (p' := 49) rfl rfl rfl rfl ?_
      exact w_iret rfl trivial ⟨rfl, Or.inl ⟨_, rfl, h⟩⟩
  · have h := h.2 e
    refine w_iload (p' := 5) rfl rfl rfl rfl ?_
    refine w_const (p' := 6) rfl rfl rfl ?_
    refine w_icmp (t := 19) (e := 9) rfl rfl rfl (fun e => ?_) (fun e => ?_)
    · have h := h.1 e
      refine w_iload (p' := 20) rfl rfl rfl rfl ?_
      refine w_if (t := 30) (e := 23) rfl rfl rfl (fun e => ?_) (fun e => ?_)
      · have h := h.1 e
        refine w_aload (p' := 31) rfl rfl rfl rfl ?_
        refine w_getR (p' := 34) rfl rfl rfl rfl rfl ?_
        refine w_astore (p' := 35) (ls' := [some (.inr (.inr (.inl (some 0)))), some (.inl x1), some (.inr (.inr (.inl (some 5)))), none]) rfl rfl rfl (Nat.le_of_ble_eq_true rfl) rfl ?_
        refine w_aload (p' := 36) rfl rfl rfl rfl ?_
        refine v_callI (M' := 223) (p' := 39) (rest := []) (as := [(.inr (.inr (.inl (some 5))))]) rfl rfl rfl rfl rfl rfl rfl rfl rfl rfl rfl rfl rfl h (fun r8 s7 h => ?_)
        refine w_istore (p' := 40) (ls' := [some (.inr (.inr (.inl (some 0)))), some (.inl x1), some (.inr (.inr (.inl (some 5)))), some (.inl r8)]) rfl rfl rfl (Nat.le_of_ble_eq_true rfl) rfl ?_
        refine w_aload (p' := 41) rfl rfl rfl rfl ?_
        refine w_aload (p' := 42) rfl rfl rfl rfl ?_
        refine w_getR (p' := 45) rfl rfl rfl rfl rfl ?_
        refine v_callV (M' := 232) (p' := 48) (rest := []) (as := [(.inr (.inr (.inl (some 5)))), (.inr (.inr (.inl (some 1))))]) rfl rfl rfl rfl rfl rfl rfl rfl rfl rfl rfl rfl rfl h (fun s9 h => ?_)
        refine w_iload (p' := 49) rfl rfl rfl rfl ?_
        exact w_iret rfl trivial ⟨rfl, Or.inl ⟨_, rfl, h⟩⟩
      · have h := h.2 e
        refine w_aload (p' := 24) rfl rfl rfl rfl ?_
        refine w_getR (p' := 27) rfl rfl rfl rfl rfl ?_
        refine w_goto (p' := 34) rfl rfl ?_
        refine w_astore (p' := 35) (ls' := [some (.inr (.inr (.inl (some 0)))), some (.inl x1), some (.inr (.inr (.inl (some 3)))), none]) rfl rfl rfl (Nat.le_of_ble_eq_true rfl) rfl ?_
        refine w_aload (p' := 36) rfl rfl rfl rfl ?_
        refine v_callI (M' := 223) (p' := 39) (rest := []) (as := [(.inr (.inr (.inl (some 3))))]) rfl rfl rfl rfl rfl rfl rfl rfl rfl rfl rfl rfl rfl h (fun r11 s10 h => ?_)
        refine w_istore (p' := 40) (ls' := [some (.inr (.inr (.inl (some 0)))), some (.inl x1), some (.inr (.inr (.inl (some 3)))), some (.inl r11)]) rfl rfl rfl (Nat.le_of_ble_eq_true rfl) rfl ?_
        refine w_aload (p' := 41) rfl rfl rfl rfl ?_
        refine w_aload (p' := 42) rfl rfl rfl rfl ?_
        refine w_getR (p' := 45) rfl rfl rfl rfl rfl ?_
        refine v_callV (M' := 232) (p' := 48) (rest := []) (as := [(.inr (.inr (.inl (some 3)))), (.inr (.inr (.inl (some 1))))]) rfl rfl rfl rfl rfl rfl rfl rfl rfl rfl rfl rfl rfl h (fun s12 h => ?_)
        refine w_iload (p' := 49) rfl rfl rfl rfl ?_
        exact w_iret rfl trivial ⟨rfl, Or.inl ⟨_, rfl, h⟩⟩
    · have h := h.2 e
      exact w_throw rfl rfl (Nat.le_of_ble_eq_true rfl) (Nat.le_of_ble_eq_true rfl) ⟨rfl, Or.inr ⟨_, rfl, h⟩⟩
set_option maxRecDepth 20000 in
theorem sg_T_load {X : Nat × (Nat → Int32)} {x1 : Int} {s : qM} {K : Int ⊕ Nat → qM → Prop} (h : (((x1 = 0) → (((x1 ≠ 0) → c_Row_become X 1 5 s (fun s1 => (∀ s2 : qM, s2 = q_up s1 0 11 1 → c_Row_size X 1 s2 (fun r4 s3 => K (.inl r4) s3)))) ∧ (¬ (x1 ≠ 0) → c_Row_become X 1 3 s (fun s5 => (∀ s6 : qM, s6 = q_up s5 0 11 1 → c_Row_size X 1 s6 (fun r8 s7 => K (.inl r8) s7)))))) ∧ (¬ (x1 = 0) → (((x1 = 1) → (((x1 ≠ 0) → c_Row_become X 1 5 s (fun s9 => (∀ s10 : qM, s10 = q_up s9 0 11 1 → c_Row_size X 1 s10 (fun r12 s11 => K (.inl r12) s11)))) ∧ (¬ (x1 ≠ 0) → c_Row_become X 1 3 s (fun s13 => (∀ s14 : qM, s14 = q_up s13 0 11 1 → c_Row_size X 1 s14 (fun r16 s15 => K (.inl r16) s15)))))) ∧ (¬ (x1 = 1) → K (.inr 1) s))))) : c_T_load X x1 s K := by
  unfold c_T_load
  refine w_iload (p' := 1) rfl rfl rfl rfl ?_
  refine w_if (t := 19) (e := 4) rfl rfl rfl (fun e => ?_) (fun e => ?_)
  · have h := h.1 e
    refine w_aload (p' := 20) rfl rfl rfl rfl ?_
    refine w_getR (p' := 23) rfl rfl rfl rfl rfl ?_
    refine w_iload (p' := 24) rfl rfl rfl rfl ?_
    refine w_if (t := 34) (e := 27) rfl rfl rfl (fun e => ?_) (fun e => ?_)
    · have h := h.1 e
      refine w_aload (p' := 35) rfl rfl rfl rfl ?_
      refine w_getR (p' := 38) rfl rfl rfl rfl rfl ?_
      refine v_callV (M' := 232) (p' := 41) (rest := []) (as := [(.inr (.inr (.inl (some 1)))), (.inr (.inr (.inl (some 5))))]) rfl rfl rfl rfl rfl rfl rfl rfl rfl rfl rfl rfl rfl h (fun s1 h => ?_)
      refine w_aload (p' := 42) rfl rfl rfl rfl ?_
      refine w_const (p' := 43) rfl rfl rfl ?_
      refine v_putI (p' := 46) (j := 11) rfl rfl (by decide) rfl rfl ⟨by decide, by decide⟩ ?_
      intro s2 es2
      have h := h s2 es2
      refine w_aload (p' := 47) rfl rfl rfl rfl ?_
      refine w_getR (p' := 50) rfl rfl rfl rfl rfl ?_
      refine v_callI (M' := 223) (p' := 53) (rest := []) (as := [(.inr (.inr (.inl (some 1))))]) rfl rfl rfl rfl rfl rfl rfl rfl rfl rfl rfl rfl rfl h (fun r4 s3 h => ?_)
      exact w_iret rfl trivial ⟨rfl, Or.inl ⟨_, rfl, h⟩⟩
    · have h := h.2 e
      refine w_aload (p' := 28) rfl rfl rfl rfl ?_
      refine w_getR (p' := 31) rfl rfl rfl rfl rfl ?_
      refine w_goto (p' := 38) rfl rfl ?_
      refine v_callV (M' := 232) (p' := 41) (rest := []) (as := [(.inr (.inr (.inl (some 1)))), (.inr (.inr (.inl (some 3))))]) rfl rfl rfl rfl rfl rfl rfl rfl rfl rfl rfl rfl rfl h (fun s5 h => ?_)
      refine w_aload (p' := 42) rfl rfl rfl rfl ?_
      refine w_const (p' := 43) rfl rfl rfl ?_
      refine v_putI (p' := 46) (j := 11) rfl rfl (by decide) rfl rfl ⟨by decide, by decide⟩ ?_
      intro s6 es6
      have h := h s6 es6
      refine w_aload (p' := 47) rfl rfl rfl rfl ?_
      refine w_getR (p' := 50) rfl rfl rfl rfl rfl ?_
      refine v_callI (M' := 223) (p' := 53) (rest := []) (as := [(.inr (.inr (.inl (some 1))))]) rfl rfl rfl rfl rfl rfl rfl rfl rfl rfl rfl rfl rfl h (fun r8 s7 h => ?_)
      exact w_iret rfl trivial ⟨rfl, Or.inl ⟨_, rfl, h⟩⟩
  · have h := h.2 e
    refine w_iload (p' := 5) rfl rfl rfl rfl ?_
    refine w_const (p' := 6) rfl rfl rfl ?_
    refine w_icmp (t := 19) (e := 9) rfl rfl rfl (fun e => ?_) (fun e => ?_)
    · have h := h.1 e
      refine w_aload (p' := 20) rfl rfl rfl rfl ?_
      refine w_getR (p' := 23) rfl rfl rfl rfl rfl ?_
      refine w_iload (p' := 24) rfl rfl rfl rfl ?_
      refine w_if (t := 34) (e := 27) rfl rfl rfl (fun e => ?_) (fun e => ?_)
      · have h := h.1 e
        refine w_aload (p' := 35) rfl rfl rfl rfl ?_
        refine w_getR (p' := 38) rfl rfl rfl rfl rfl ?_
        refine v_callV (M' := 232) (p' := 41) (rest := []) (as := [(.inr (.inr (.inl (some 1)))), (.inr (.inr (.inl (some 5))))]) rfl rfl rfl rfl rfl rfl rfl rfl rfl rfl rfl rfl rfl h (fun s9 h => ?_)
        refine w_aload (p' := 42) rfl rfl rfl rfl ?_
        refine w_const (p' := 43) rfl rfl rfl ?_
        refine v_putI (p' := 46) (j := 11) rfl rfl (by decide) rfl rfl ⟨by decide, by decide⟩ ?_
        intro s10 es10
        have h := h s10 es10
        refine w_aload (p' := 47) rfl rfl rfl rfl ?_
        refine w_getR (p' := 50) rfl rfl rfl rfl rfl ?_
        refine v_callI (M' := 223) (p' := 53) (rest := []) (as := [(.inr (.inr (.inl (some 1))))]) rfl rfl rfl rfl rfl rfl rfl rfl rfl rfl rfl rfl rfl h (fun r12 s11 h => ?_)
        exact w_iret rfl trivial ⟨rfl, Or.inl ⟨_, rfl, h⟩⟩
      · have h := h.2 e
        refine w_aload (p' := 28) rfl rfl rfl rfl ?_
        refine w_getR (p' := 31) rfl rfl rfl rfl rfl ?_
        refine w_goto (p' := 38) rfl rfl ?_
        refine v_callV (M' := 232) (p' := 41) (rest := []) (as := [(.inr (.inr (.inl (some 1)))), (.inr (.inr (.inl (some 3))))]) rfl rfl rfl rfl rfl rfl rfl rfl rfl rfl rfl rfl rfl h (fun s13 h => ?_)
        refine w_aload (p' := 42) rfl rfl rfl rfl ?_
        refine w_const (p' := 43) rfl rfl rfl ?_
        refine v_putI (p' := 46) (j := 11) rfl rfl (by decide) rfl rfl ⟨by decide, by decide⟩ ?_
        intro s14 es14
        have h := h s14 es14
        refine w_aload (p' := 47) rfl rfl rfl rfl ?_
        refine w_getR (p' := 50) rfl rfl rfl rfl rfl ?_
        refine v_callI (M' := 223) (p' := 53) (rest := []) (as := [(.inr (.inr (.inl (some 1))))]) rfl rfl rfl rfl rfl rfl rfl rfl rfl rfl rfl rfl rfl h (fun r16 s15 h => ?_)
        exact w_iret rfl trivial ⟨rfl, Or.inl ⟨_, rfl, h⟩⟩
    · have h := h.2 e
      exact w_throw rfl rfl (Nat.le_of_ble_eq_true rfl) (Nat.le_of_ble_eq_true rfl) ⟨rfl, Or.inr ⟨_, rfl, h⟩⟩
set_option maxRecDepth 20000 in
theorem sg_T_merge {X : Nat × (Nat → Int32)}  {s : qM} {K : Int → qM → Prop} (h : c_Merger_run X  s (fun s1 => c_Merger_conflicts X  s1 (fun r3 s2 => (((r3 ≤ 0) → c_Merger_mergedSize X  s2 (fun r5 s4 => (((r5 ≤ 240) → c_Merger_merged X  s4 (fun r7 s6 => c_Row_become X 1 r7 s6 (fun s8 => (∀ s9 : qM, s9 = q_up s8 0 11 1 → K 0 s9)))) ∧ (¬ (r5 ≤ 240) → K (-2) s4)))) ∧ (¬ (r3 ≤ 0) → c_Merger_conflicts X  s2 (fun r11 s10 => K r11 s10)))))) : c_T_merge X  s K := by
  unfold c_T_merge
  refine w_aload (p' := 1) rfl rfl rfl rfl ?_
  refine w_getR (p' := 4) rfl rfl rfl rfl rfl ?_
  refine v_callV (M' := 201) (p' := 7) (rest := []) (as := [(.inr (.inr (.inl (some 90))))]) rfl rfl rfl rfl rfl rfl rfl rfl rfl rfl rfl rfl rfl h (fun s1 h => ?_)
  refine w_aload (p' := 8) rfl rfl rfl rfl ?_
  refine w_getR (p' := 11) rfl rfl rfl rfl rfl ?_
  refine v_callI (M' := 200) (p' := 14) (rest := []) (as := [(.inr (.inr (.inl (some 90))))]) rfl rfl rfl rfl rfl rfl rfl rfl rfl rfl rfl rfl rfl h (fun r3 s2 h => ?_)
  refine w_if (t := 25) (e := 17) rfl rfl rfl (fun e => ?_) (fun e => ?_)
  · have h := h.1 e
    refine w_aload (p' := 26) rfl rfl rfl rfl ?_
    refine w_getR (p' := 29) rfl rfl rfl rfl rfl ?_
    refine v_callI (M' := 199) (p' := 32) (rest := []) (as := [(.inr (.inr (.inl (some 90))))]) rfl rfl rfl rfl rfl rfl rfl rfl rfl rfl rfl rfl rfl h (fun r5 s4 h => ?_)
    refine w_const (p' := 35) rfl rfl rfl ?_
    refine w_icmp (t := 41) (e := 38) rfl rfl rfl (fun e => ?_) (fun e => ?_)
    · have h := h.1 e
      refine w_aload (p' := 42) rfl rfl rfl rfl ?_
      refine w_getR (p' := 45) rfl rfl rfl rfl rfl ?_
      refine w_aload (p' := 46) rfl rfl rfl rfl ?_
      refine w_getR (p' := 49) rfl rfl rfl rfl rfl ?_
      refine v_callA (M' := 198) (p' := 52) (rest := [(.inr (.inr (.inl (some 1))))]) (as := [(.inr (.inr (.inl (some 90))))]) rfl rfl rfl rfl rfl rfl rfl rfl rfl rfl rfl rfl rfl h (fun r7 s6 h => ?_)
      refine v_callV (M' := 232) (p' := 55) (rest := []) (as := [(.inr (.inr (.inl (some 1)))), (.inr (.inr (.inl (some r7))))]) rfl rfl rfl rfl rfl rfl rfl rfl rfl rfl rfl rfl rfl h (fun s8 h => ?_)
      refine w_aload (p' := 56) rfl rfl rfl rfl ?_
      refine w_const (p' := 57) rfl rfl rfl ?_
      refine v_putI (p' := 60) (j := 11) rfl rfl (by decide) rfl rfl ⟨by decide, by decide⟩ ?_
      intro s9 es9
      have h := h s9 es9
      refine w_const (p' := 61) rfl rfl rfl ?_
      exact w_iret rfl trivial ⟨rfl, _, rfl, h⟩
    · have h := h.2 e
      refine w_const (p' := 40) rfl rfl rfl ?_
      exact w_iret rfl trivial ⟨rfl, _, rfl, h⟩
  · have h := h.2 e
    refine w_aload (p' := 18) rfl rfl rfl rfl ?_
    refine w_getR (p' := 21) rfl rfl rfl rfl rfl ?_
    refine v_callI (M' := 200) (p' := 24) (rest := []) (as := [(.inr (.inr (.inl (some 90))))]) rfl rfl rfl rfl rfl rfl rfl rfl rfl rfl rfl rfl rfl h (fun r11 s10 h => ?_)
    exact w_iret rfl trivial ⟨rfl, _, rfl, h⟩
set_option maxRecDepth 20000 in
theorem sg_T_growTree {X : Nat × (Nat → Int32)}  {s : qM} {K : qM → Prop} (h : ((((s 0 11) ≠ 0) → c_Lines_split X 7 s (fun s1 => c_Rd_start X  s1 (fun s2 => L_T_growTree_24 X 0 s2 K))) ∧ (¬ ((s 0 11) ≠ 0) → K s))) : c_T_growTree X  s K := by
  unfold c_T_growTree
  refine w_aload (p' := 1) rfl rfl rfl rfl ?_
  refine w_getI (p' := 4) (j := 11) rfl rfl (by decide) rfl rfl ?_
  refine w_if (t := 8) (e := 7) rfl rfl rfl (fun e => ?_) (fun e => ?_)
  · have h := h.1 e
    refine w_aload (p' := 9) rfl rfl rfl rfl ?_
    refine w_getR (p' := 12) rfl rfl rfl rfl rfl ?_
    refine v_callV (M' := 191) (p' := 15) (rest := []) (as := [(.inr (.inr (.inl (some 7))))]) rfl rfl rfl rfl rfl rfl rfl rfl rfl rfl rfl rfl rfl h (fun s1 h => ?_)
    refine w_aload (p' := 16) rfl rfl rfl rfl ?_
    refine w_getR (p' := 19) rfl rfl rfl rfl rfl ?_
    refine v_callV (M' := 128) (p' := 22) (rest := []) (as := [(.inr (.inr (.inl (some 43))))]) rfl rfl rfl rfl rfl rfl rfl rfl rfl rfl rfl rfl rfl h (fun s2 h => ?_)
    refine w_const (p' := 23) rfl rfl rfl ?_
    refine w_istore (p' := 24) (ls' := [some (.inr (.inr (.inl (some 0)))), some (.inl 0), none, none]) rfl rfl rfl (Nat.le_of_ble_eq_true rfl) rfl ?_
    exact w_cut (q_le_s (q_le_s (q_le_n (q_le_n q_le_z)))) h
  · have h := h.2 e
    exact w_vret rfl ⟨rfl, rfl, h⟩
set_option maxRecDepth 20000 in
theorem sg_T_growTree_24 {X : Nat × (Nat → Int32)}  {v1 : Int} {s : qM} {K : qM → Prop} (h : c_Lines_many X 7 s (fun r2 s1 => (((r2 ≤ v1) → c_Tree_start X  s1 (fun s3 => L_T_growTree_58 X 0 s3 K)) ∧ (¬ (r2 ≤ v1) → c_Rd_read X v1 s1 (fun s4 => (-2147483648 ≤ (v1 + 1) ∧ (v1 + 1) < 2147483648) ∧ L_T_growTree_24 X (v1 + 1) s4 K))))) : L_T_growTree_24 X v1 s K := by
  unfold L_T_growTree_24
  refine w_iload (p' := 25) rfl rfl rfl rfl ?_
  refine w_aload (p' := 26) rfl rfl rfl rfl ?_
  refine w_getR (p' := 29) rfl rfl rfl rfl rfl ?_
  refine v_callI (M' := 192) (p' := 32) (rest := [(.inl v1)]) (as := [(.inr (.inr (.inl (some 7))))]) rfl rfl rfl rfl rfl rfl rfl rfl rfl rfl rfl rfl rfl h (fun r2 s1 h => ?_)
  refine w_icmp (t := 49) (e := 35) rfl rfl rfl (fun e => ?_) (fun e => ?_)
  · have h := h.1 e
    refine w_aload (p' := 50) rfl rfl rfl rfl ?_
    refine w_getR (p' := 53) rfl rfl rfl rfl rfl ?_
    refine v_callV (M' := 245) (p' := 56) (rest := []) (as := [(.inr (.inr (.inl (some 64))))]) rfl rfl rfl rfl rfl rfl rfl rfl rfl rfl rfl rfl rfl h (fun s3 h => ?_)
    refine w_const (p' := 57) rfl rfl rfl ?_
    refine w_istore (p' := 58) (ls' := [some (.inr (.inr (.inl (some 0)))), some (.inl 0), none, none]) rfl rfl rfl (Nat.le_of_ble_eq_true rfl) rfl ?_
    exact w_cut (q_le_s (q_le_s (q_le_n (q_le_n q_le_z)))) h
  · have h := h.2 e
    refine w_aload (p' := 36) rfl rfl rfl rfl ?_
    refine w_getR (p' := 39) rfl rfl rfl rfl rfl ?_
    refine w_iload (p' := 40) rfl rfl rfl rfl ?_
    refine v_callV (M' := 129) (p' := 43) (rest := []) (as := [(.inr (.inr (.inl (some 43)))), (.inl v1)]) rfl rfl rfl rfl rfl rfl rfl rfl rfl rfl rfl rfl rfl h (fun s4 h => ?_)
    refine w_iinc (p' := 46) (ls' := [some (.inr (.inr (.inl (some 0)))), some (.inl (v1 + 1)), none, none]) rfl rfl rfl (Nat.le_of_ble_eq_true rfl) h.1 rfl ?_
    have h := h.2
    refine w_goto (p' := 24) rfl rfl ?_
    exact w_cut (q_le_s (q_le_s (q_le_n (q_le_n q_le_z)))) h
set_option maxRecDepth 20000 in
theorem sg_T_growTree_58 {X : Nat × (Nat → Int32)}  {v1 : Int} {s : qM} {K : qM → Prop} (h : c_Blocks_size X  s (fun r2 s1 => (((r2 ≤ v1) → c_Printer_write X  s1 (fun s3 => (∀ s4 : qM, s4 = q_up s3 0 11 0 → K s4))) ∧ (¬ (r2 ≤ v1) → c_Tree_addBlock X v1 s1 (fun r6 s5 => c_Blocks_kindOf X v1 s5 (fun r8 s7 => (((r8 = 6) → c_T_copyLines X v1 s7 (fun s9 => c_Il_read X  s9 (fun s10 => c_Tree_addInline X r6 s10 (fun s11 => (-2147483648 ≤ (v1 + 1) ∧ (v1 + 1) < 2147483648) ∧ L_T_growTree_58 X (v1 + 1) s11 K)))) ∧ (¬ (r8 = 6) → (((r8 ≠ 4) → (((r8 ≠ 5) → (-2147483648 ≤ (v1 + 1) ∧ (v1 + 1) < 2147483648) ∧ L_T_growTree_58 X (v1 + 1) s7 K) ∧ (¬ (r8 ≠ 5) → c_T_copyFence X v1 r6 s7 (fun s12 => (-2147483648 ≤ (v1 + 1) ∧ (v1 + 1) < 2147483648) ∧ L_T_growTree_58 X (v1 + 1) s12 K)))) ∧ (¬ (r8 ≠ 4) → c_T_copyLines X v1 s7 (fun s13 => c_Il_read X  s13 (fun s14 => c_Tree_addInline X r6 s14 (fun s15 => (-2147483648 ≤ (v1 + 1) ∧ (v1 + 1) < 2147483648) ∧ L_T_growTree_58 X (v1 + 1) s15 K))))))))))))) : L_T_growTree_58 X v1 s K := by
  unfold L_T_growTree_58
  refine w_iload (p' := 59) rfl rfl rfl rfl ?_
  refine w_aload (p' := 60) rfl rfl rfl rfl ?_
  refine w_getR (p' := 63) rfl rfl rfl rfl rfl ?_
  refine v_callI (M' := 152) (p' := 66) (rest := [(.inl v1)]) (as := [(.inr (.inr (.inl (some 12))))]) rfl rfl rfl rfl rfl rfl rfl rfl rfl rfl rfl rfl rfl h (fun r2 s1 h => ?_)
  refine w_icmp (t := 146) (e := 69) rfl rfl rfl (fun e => ?_) (fun e => ?_)
  · have h := h.1 e
    refine w_aload (p' := 147) rfl rfl rfl rfl ?_
    refine w_getR (p' := 150) rfl rfl rfl rfl rfl ?_
    refine v_callV (M' := 218) (p' := 153) (rest := []) (as := [(.inr (.inr (.inl (some 83))))]) rfl rfl rfl rfl rfl rfl rfl rfl rfl rfl rfl rfl rfl h (fun s3 h => ?_)
    refine w_aload (p' := 154) rfl rfl rfl rfl ?_
    refine w_const (p' := 155) rfl rfl rfl ?_
    refine v_putI (p' := 158) (j := 11) rfl rfl (by decide) rfl rfl ⟨by decide, by decide⟩ ?_
    intro s4 es4
    have h := h s4 es4
    exact w_vret rfl ⟨rfl, rfl, h⟩
  · have h := h.2 e
    refine w_aload (p' := 70) rfl rfl rfl rfl ?_
    refine w_getR (p' := 73) rfl rfl rfl rfl rfl ?_
    refine w_aload (p' := 74) rfl rfl rfl rfl ?_
    refine w_getR (p' := 77) rfl rfl rfl rfl rfl ?_
    refine w_iload (p' := 78) rfl rfl rfl rfl ?_
    refine v_callI (M' := 246) (p' := 81) (rest := []) (as := [(.inr (.inr (.inl (some 64)))), (.inr (.inr (.inl (some 12)))), (.inl v1)]) rfl rfl rfl rfl rfl rfl rfl rfl rfl rfl rfl rfl rfl h (fun r6 s5 h => ?_)
    refine w_istore (p' := 82) (ls' := [some (.inr (.inr (.inl (some 0)))), some (.inl v1), some (.inl r6), none]) rfl rfl rfl (Nat.le_of_ble_eq_true rfl) rfl ?_
    refine w_aload (p' := 83) rfl rfl rfl rfl ?_
    refine w_getR (p' := 86) rfl rfl rfl rfl rfl ?_
    refine w_iload (p' := 87) rfl rfl rfl rfl ?_
    refine v_callI (M' := 153) (p' := 90) (rest := []) (as := [(.inr (.inr (.inl (some 12)))), (.inl v1)]) rfl rfl rfl rfl rfl rfl rfl rfl rfl rfl rfl rfl rfl h (fun r8 s7 h => ?_)
    refine w_istore (p' := 91) (ls' := [some (.inr (.inr (.inl (some 0)))), some (.inl v1), some (.inl r6), some (.inl r8)]) rfl rfl rfl (Nat.le_of_ble_eq_true rfl) rfl ?_
    refine w_iload (p' := 92) rfl rfl rfl rfl ?_
    refine w_const (p' := 94) rfl rfl rfl ?_
    refine w_icmp (t := 102) (e := 97) rfl rfl rfl (fun e => ?_) (fun e => ?_)
    · have h := h.1 e
      refine w_aload (p' := 103) rfl rfl rfl rfl ?_
      refine w_iload (p' := 104) rfl rfl rfl rfl ?_
      refine v_callV (M' := 32) (p' := 107) (rest := []) (as := [(.inr (.inr (.inl (some 0)))), (.inl v1)]) rfl rfl rfl rfl rfl rfl rfl rfl rfl rfl rfl rfl rfl h (fun s9 h => ?_)
      refine w_aload (p' := 108) rfl rfl rfl rfl ?_
      refine w_getR (p' := 111) rfl rfl rfl rfl rfl ?_
      refine v_callV (M' := 181) (p' := 114) (rest := []) (as := [(.inr (.inr (.inl (some 44))))]) rfl rfl rfl rfl rfl rfl rfl rfl rfl rfl rfl rfl rfl h (fun s10 h => ?_)
      refine w_aload (p' := 115) rfl rfl rfl rfl ?_
      refine w_getR (p' := 118) rfl rfl rfl rfl rfl ?_
      refine w_aload (p' := 119) rfl rfl rfl rfl ?_
      refine w_getR (p' := 122) rfl rfl rfl rfl rfl ?_
      refine w_iload (p' := 123) rfl rfl rfl rfl ?_
      refine v_callV (M' := 249) (p' := 126) (rest := []) (as := [(.inr (.inr (.inl (some 64)))), (.inr (.inr (.inl (some 44)))), (.inl r6)]) rfl rfl rfl rfl rfl rfl rfl rfl rfl rfl rfl rfl rfl h (fun s11 h => ?_)
      refine w_goto (p' := 140) rfl rfl ?_
      refine w_iinc (p' := 143) (ls' := [some (.inr (.inr (.inl (some 0)))), some (.inl (v1 + 1)), some (.inl r6), some (.inl r8)]) rfl rfl rfl (Nat.le_of_ble_eq_true rfl) h.1 rfl ?_
      have h := h.2
      refine w_goto (p' := 58) rfl rfl ?_
      exact w_cut (q_le_s (q_le_s (q_le_n (q_le_n q_le_z)))) h
    · have h := h.2 e
      refine w_iload (p' := 98) rfl rfl rfl rfl ?_
      refine w_const (p' := 99) rfl rfl rfl ?_
      refine w_icmp (t := 129) (e := 102) rfl rfl rfl (fun e => ?_) (fun e => ?_)
      · have h := h.1 e
        refine w_iload (p' := 130) rfl rfl rfl rfl ?_
        refine w_const (p' := 131) rfl rfl rfl ?_
        refine w_icmp (t := 140) (e := 134) rfl rfl rfl (fun e => ?_) (fun e => ?_)
        · have h := h.1 e
          refine w_iinc (p' := 143) (ls' := [some (.inr (.inr (.inl (some 0)))), some (.inl (v1 + 1)), some (.inl r6), some (.inl r8)]) rfl rfl rfl (Nat.le_of_ble_eq_true rfl) h.1 rfl ?_
          have h := h.2
          refine w_goto (p' := 58) rfl rfl ?_
          exact w_cut (q_le_s (q_le_s (q_le_n (q_le_n q_le_z)))) h
        · have h := h.2 e
          refine w_aload (p' := 135) rfl rfl rfl rfl ?_
          refine w_iload (p' := 136) rfl rfl rfl rfl ?_
          refine w_iload (p' := 137) rfl rfl rfl rfl ?_
          refine v_callV (M' := 33) (p' := 140) (rest := []) (as := [(.inr (.inr (.inl (some 0)))), (.inl v1), (.inl r6)]) rfl rfl rfl rfl rfl rfl rfl rfl rfl rfl rfl rfl rfl h (fun s12 h => ?_)
          refine w_iinc (p' := 143) (ls' := [some (.inr (.inr (.inl (some 0)))), some (.inl (v1 + 1)), some (.inl r6), some (.inl r8)]) rfl rfl rfl (Nat.le_of_ble_eq_true rfl) h.1 rfl ?_
          have h := h.2
          refine w_goto (p' := 58) rfl rfl ?_
          exact w_cut (q_le_s (q_le_s (q_le_n (q_le_n q_le_z)))) h
      · have h := h.2 e
        refine w_aload (p' := 103) rfl rfl rfl rfl ?_
        refine w_iload (p' := 104) rfl rfl rfl rfl ?_
        refine v_callV (M' := 32) (p' := 107) (rest := []) (as := [(.inr (.inr (.inl (some 0)))), (.inl v1)]) rfl rfl rfl rfl rfl rfl rfl rfl rfl rfl rfl rfl rfl h (fun s13 h => ?_)
        refine w_aload (p' := 108) rfl rfl rfl rfl ?_
        refine w_getR (p' := 111) rfl rfl rfl rfl rfl ?_
        refine v_callV (M' := 181) (p' := 114) (rest := []) (as := [(.inr (.inr (.inl (some 44))))]) rfl rfl rfl rfl rfl rfl rfl rfl rfl rfl rfl rfl rfl h (fun s14 h => ?_)
        refine w_aload (p' := 115) rfl rfl rfl rfl ?_
        refine w_getR (p' := 118) rfl rfl rfl rfl rfl ?_
        refine w_aload (p' := 119) rfl rfl rfl rfl ?_
        refine w_getR (p' := 122) rfl rfl rfl rfl rfl ?_
        refine w_iload (p' := 123) rfl rfl rfl rfl ?_
        refine v_callV (M' := 249) (p' := 126) (rest := []) (as := [(.inr (.inr (.inl (some 64)))), (.inr (.inr (.inl (some 44)))), (.inl r6)]) rfl rfl rfl rfl rfl rfl rfl rfl rfl rfl rfl rfl rfl h (fun s15 h => ?_)
        refine w_goto (p' := 140) rfl rfl ?_
        refine w_iinc (p' := 143) (ls' := [some (.inr (.inr (.inl (some 0)))), some (.inl (v1 + 1)), some (.inl r6), some (.inl r8)]) rfl rfl rfl (Nat.le_of_ble_eq_true rfl) h.1 rfl ?_
        have h := h.2
        refine w_goto (p' := 58) rfl rfl ?_
        exact w_cut (q_le_s (q_le_s (q_le_n (q_le_n q_le_z)))) h
set_option maxRecDepth 20000 in
theorem sg_T_copyLines {X : Nat × (Nat → Int32)} {x1 : Int} {s : qM} {K : qM → Prop} (h : c_Il_start X  s (fun s1 => c_Blocks_firstLineOf X x1 s1 (fun r3 s2 => L_T_copyLines_18 X x1 r3 r3 s2 K))) : c_T_copyLines X x1 s K := by
  unfold c_T_copyLines
  refine w_aload (p' := 1) rfl rfl rfl rfl ?_
  refine w_getR (p' := 4) rfl rfl rfl rfl rfl ?_
  refine v_callV (M' := 175) (p' := 7) (rest := []) (as := [(.inr (.inr (.inl (some 44))))]) rfl rfl rfl rfl rfl rfl rfl rfl rfl rfl rfl rfl rfl h (fun s1 h => ?_)
  refine w_aload (p' := 8) rfl rfl rfl rfl ?_
  refine w_getR (p' := 11) rfl rfl rfl rfl rfl ?_
  refine w_iload (p' := 12) rfl rfl rfl rfl ?_
  refine v_callI (M' := 160) (p' := 15) (rest := []) (as := [(.inr (.inr (.inl (some 12)))), (.inl x1)]) rfl rfl rfl rfl rfl rfl rfl rfl rfl rfl rfl rfl rfl h (fun r3 s2 h => ?_)
  refine w_istore (p' := 16) (ls' := [some (.inr (.inr (.inl (some 0)))), some (.inl x1), some (.inl r3), none, none, none, none]) rfl rfl rfl (Nat.le_of_ble_eq_true rfl) rfl ?_
  refine w_iload (p' := 17) rfl rfl rfl rfl ?_
  refine w_istore (p' := 18) (ls' := [some (.inr (.inr (.inl (some 0)))), some (.inl x1), some (.inl r3), some (.inl r3), none, none, none]) rfl rfl rfl (Nat.le_of_ble_eq_true rfl) rfl ?_
  exact w_cut (q_le_s (q_le_s (q_le_s (q_le_s (q_le_n (q_le_n (q_le_n q_le_z))))))) h
set_option maxRecDepth 20000 in
theorem sg_T_copyLines_18 {X : Nat × (Nat → Int32)}  {v1 v2 v3 : Int} {s : qM} {K : qM → Prop} (h : c_Blocks_linesOf X v1 s (fun r2 s1 => (-2147483648 ≤ (v2 + r2) ∧ (v2 + r2) < 2147483648) ∧ ((((v2 + r2) ≤ v3) → K s1) ∧ (¬ ((v2 + r2) ≤ v3) → (((v3 ≤ v2) → c_Blocks_contentBegin X v3 s1 (fun r4 s3 => c_Lines_end X 7 v3 s3 (fun r6 s5 => c_T_skipBlanks X 1 r4 r6 s5 (fun r8 s7 => c_Lines_end X 7 v3 s7 (fun r10 s9 => c_T_cutBlanks X 1 r8 r10 s9 (fun r12 s11 => L_T_copyLines_94 X v1 v2 v3 r12 r8 s11 K)))))) ∧ (¬ (v3 ≤ v2) → c_Il_addCharacter X 10 s1 (fun s13 => c_Blocks_contentBegin X v3 s13 (fun r15 s14 => c_Lines_end X 7 v3 s14 (fun r17 s16 => c_T_skipBlanks X 1 r15 r17 s16 (fun r19 s18 => c_Lines_end X 7 v3 s18 (fun r21 s20 => c_T_cutBlanks X 1 r19 r21 s20 (fun r23 s22 => L_T_copyLines_94 X v1 v2 v3 r23 r19 s22 K)))))))))))) : L_T_copyLines_18 X v1 v2 v3 s K := by
  unfold L_T_copyLines_18
  refine w_iload (p' := 19) rfl rfl rfl rfl ?_
  refine w_iload (p' := 20) rfl rfl rfl rfl ?_
  refine w_aload (p' := 21) rfl rfl rfl rfl ?_
  refine w_getR (p' := 24) rfl rfl rfl rfl rfl ?_
  refine w_iload (p' := 25) rfl rfl rfl rfl ?_
  refine v_callI (M' := 161) (p' := 28) (rest := [(.inl v2), (.inl v3)]) (as := [(.inr (.inr (.inl (some 12)))), (.inl v1)]) rfl rfl rfl rfl rfl rfl rfl rfl rfl rfl rfl rfl rfl h (fun r2 s1 h => ?_)
  refine w_add (p' := 29) rfl rfl h.1 ?_
  have h := h.2
  refine w_icmp (t := 129) (e := 32) rfl rfl rfl (fun e => ?_) (fun e => ?_)
  · have h := h.1 e
    exact w_vret rfl ⟨rfl, rfl, h⟩
  · have h := h.2 e
    refine w_iload (p' := 33) rfl rfl rfl rfl ?_
    refine w_iload (p' := 34) rfl rfl rfl rfl ?_
    refine w_icmp (t := 46) (e := 37) rfl rfl rfl (fun e => ?_) (fun e => ?_)
    · have h := h.1 e
      refine w_aload (p' := 47) rfl rfl rfl rfl ?_
      refine w_getR (p' := 50) rfl rfl rfl rfl rfl ?_
      refine w_aload (p' := 51) rfl rfl rfl rfl ?_
      refine w_getR (p' := 54) rfl rfl rfl rfl rfl ?_
      refine w_iload (p' := 55) rfl rfl rfl rfl ?_
      refine v_callI (M' := 164) (p' := 58) (rest := [(.inr (.inr (.inl (some 1))))]) (as := [(.inr (.inr (.inl (some 12)))), (.inl v3)]) rfl rfl rfl rfl rfl rfl rfl rfl rfl rfl rfl rfl rfl h (fun r4 s3 h => ?_)
      refine w_aload (p' := 59) rfl rfl rfl rfl ?_
      refine w_getR (p' := 62) rfl rfl rfl rfl rfl ?_
      refine w_iload (p' := 63) rfl rfl rfl rfl ?_
      refine v_callI (M' := 194) (p' := 66) (rest := [(.inl r4), (.inr (.inr (.inl (some 1))))]) (as := [(.inr (.inr (.inl (some 7)))), (.inl v3)]) rfl rfl rfl rfl rfl rfl rfl rfl rfl rfl rfl rfl rfl h (fun r6 s5 h => ?_)
      refine v_callI (M' := 39) (p' := 69) (rest := []) (as := [(.inr (.inr (.inl (some 1)))), (.inl r4), (.inl r6)]) rfl rfl rfl rfl rfl rfl rfl rfl rfl rfl rfl trivial rfl h (fun r8 s7 h => ?_)
      refine w_istore (p' := 71) (ls' := [some (.inr (.inr (.inl (some 0)))), some (.inl v1), some (.inl v2), some (.inl v3), some (.inl r8), none, none]) rfl rfl rfl (Nat.le_of_ble_eq_true rfl) rfl ?_
      refine w_aload (p' := 72) rfl rfl rfl rfl ?_
      refine w_getR (p' := 75) rfl rfl rfl rfl rfl ?_
      refine w_iload (p' := 77) rfl rfl rfl rfl ?_
      refine w_aload (p' := 78) rfl rfl rfl rfl ?_
      refine w_getR (p' := 81) rfl rfl rfl rfl rfl ?_
      refine w_iload (p' := 82) rfl rfl rfl rfl ?_
      refine v_callI (M' := 194) (p' := 85) (rest := [(.inl r8), (.inr (.inr (.inl (some 1))))]) (as := [(.inr (.inr (.inl (some 7)))), (.inl v3)]) rfl rfl rfl rfl rfl rfl rfl rfl rfl rfl rfl rfl rfl h (fun r10 s9 h => ?_)
      refine v_callI (M' := 40) (p' := 88) (rest := []) (as := [(.inr (.inr (.inl (some 1)))), (.inl r8), (.inl r10)]) rfl rfl rfl rfl rfl rfl rfl rfl rfl rfl rfl trivial rfl h (fun r12 s11 h => ?_)
      refine w_istore (p' := 90) (ls' := [some (.inr (.inr (.inl (some 0)))), some (.inl v1), some (.inl v2), some (.inl v3), some (.inl r8), some (.inl r12), none]) rfl rfl rfl (Nat.le_of_ble_eq_true rfl) rfl ?_
      refine w_iload (p' := 92) rfl rfl rfl rfl ?_
      refine w_istore (p' := 94) (ls' := [some (.inr (.inr (.inl (some 0)))), some (.inl v1), some (.inl v2), some (.inl v3), some (.inl r8), some (.inl r12), some (.inl r8)]) rfl rfl rfl (Nat.le_of_ble_eq_true rfl) rfl ?_
      exact w_cut (q_le_s (q_le_s (q_le_s (q_le_s (q_le_n (q_le_s (q_le_s q_le_z))))))) h
    · have h := h.2 e
      refine w_aload (p' := 38) rfl rfl rfl rfl ?_
      refine w_getR (p' := 41) rfl rfl rfl rfl rfl ?_
      refine w_const (p' := 43) rfl rfl rfl ?_
      refine v_callV (M' := 176) (p' := 46) (rest := []) (as := [(.inr (.inr (.inl (some 44)))), (.inl 10)]) rfl rfl rfl rfl rfl rfl rfl rfl rfl rfl rfl rfl rfl h (fun s13 h => ?_)
      refine w_aload (p' := 47) rfl rfl rfl rfl ?_
      refine w_getR (p' := 50) rfl rfl rfl rfl rfl ?_
      refine w_aload (p' := 51) rfl rfl rfl rfl ?_
      refine w_getR (p' := 54) rfl rfl rfl rfl rfl ?_
      refine w_iload (p' := 55) rfl rfl rfl rfl ?_
      refine v_callI (M' := 164) (p' := 58) (rest := [(.inr (.inr (.inl (some 1))))]) (as := [(.inr (.inr (.inl (some 12)))), (.inl v3)]) rfl rfl rfl rfl rfl rfl rfl rfl rfl rfl rfl rfl rfl h (fun r15 s14 h => ?_)
      refine w_aload (p' := 59) rfl rfl rfl rfl ?_
      refine w_getR (p' := 62) rfl rfl rfl rfl rfl ?_
      refine w_iload (p' := 63) rfl rfl rfl rfl ?_
      refine v_callI (M' := 194) (p' := 66) (rest := [(.inl r15), (.inr (.inr (.inl (some 1))))]) (as := [(.inr (.inr (.inl (some 7)))), (.inl v3)]) rfl rfl rfl rfl rfl rfl rfl rfl rfl rfl rfl rfl rfl h (fun r17 s16 h => ?_)
      refine v_callI (M' := 39) (p' := 69) (rest := []) (as := [(.inr (.inr (.inl (some 1)))), (.inl r15), (.inl r17)]) rfl rfl rfl rfl rfl rfl rfl rfl rfl rfl rfl trivial rfl h (fun r19 s18 h => ?_)
      refine w_istore (p' := 71) (ls' := [some (.inr (.inr (.inl (some 0)))), some (.inl v1), some (.inl v2), some (.inl v3), some (.inl r19), none, none]) rfl rfl rfl (Nat.le_of_ble_eq_true rfl) rfl ?_
      refine w_aload (p' := 72) rfl rfl rfl rfl ?_
      refine w_getR (p' := 75) rfl rfl rfl rfl rfl ?_
      refine w_iload (p' := 77) rfl rfl rfl rfl ?_
      refine w_aload (p' := 78) rfl rfl rfl rfl ?_
      refine w_getR (p' := 81) rfl rfl rfl rfl rfl ?_
      refine w_iload (p' := 82) rfl rfl rfl rfl ?_
      refine v_callI (M' := 194) (p' := 85) (rest := [(.inl r19), (.inr (.inr (.inl (some 1))))]) (as := [(.inr (.inr (.inl (some 7)))), (.inl v3)]) rfl rfl rfl rfl rfl rfl rfl rfl rfl rfl rfl rfl rfl h (fun r21 s20 h => ?_)
      refine v_callI (M' := 40) (p' := 88) (rest := []) (as := [(.inr (.inr (.inl (some 1)))), (.inl r19), (.inl r21)]) rfl rfl rfl rfl rfl rfl rfl rfl rfl rfl rfl trivial rfl h (fun r23 s22 h => ?_)
      refine w_istore (p' := 90) (ls' := [some (.inr (.inr (.inl (some 0)))), some (.inl v1), some (.inl v2), some (.inl v3), some (.inl r19), some (.inl r23), none]) rfl rfl rfl (Nat.le_of_ble_eq_true rfl) rfl ?_
      refine w_iload (p' := 92) rfl rfl rfl rfl ?_
      refine w_istore (p' := 94) (ls' := [some (.inr (.inr (.inl (some 0)))), some (.inl v1), some (.inl v2), some (.inl v3), some (.inl r19), some (.inl r23), some (.inl r19)]) rfl rfl rfl (Nat.le_of_ble_eq_true rfl) rfl ?_
      exact w_cut (q_le_s (q_le_s (q_le_s (q_le_s (q_le_n (q_le_s (q_le_s q_le_z))))))) h
set_option maxRecDepth 20000 in
theorem sg_T_copyLines_94 {X : Nat × (Nat → Int32)}  {v1 v2 v3 v5 v6 : Int} {s : qM} {K : qM → Prop} (h : (((v5 ≤ v6) → (-2147483648 ≤ (v3 + 1) ∧ (v3 + 1) < 2147483648) ∧ L_T_copyLines_18 X v1 v2 (v3 + 1) s K) ∧ (¬ (v5 ≤ v6) → c_Row_at X 1 v6 s (fun r2 s1 => c_Il_addCharacter X r2 s1 (fun s3 => (-2147483648 ≤ (v6 + 1) ∧ (v6 + 1) < 2147483648) ∧ L_T_copyLines_94 X v1 v2 v3 v5 (v6 + 1) s3 K))))) : L_T_copyLines_94 X v1 v2 v3 v5 v6 s K := by
  unfold L_T_copyLines_94
  refine w_iload (p' := 96) rfl rfl rfl rfl ?_
  refine w_iload (p' := 98) rfl rfl rfl rfl ?_
  refine w_icmp (t := 123) (e := 101) rfl rfl rfl (fun e => ?_) (fun e => ?_)
  · have h := h.1 e
    refine w_iinc (p' := 126) (ls' := [some (.inr (.inr (.inl (some 0)))), some (.inl v1), some (.inl v2), some (.inl (v3 + 1)), none, some (.inl v5), some (.inl v6)]) rfl rfl rfl (Nat.le_of_ble_eq_true rfl) h.1 rfl ?_
    have h := h.2
    refine w_goto (p' := 18) rfl rfl ?_
    exact w_cut (q_le_s (q_le_s (q_le_s (q_le_s (q_le_n (q_le_n (q_le_n q_le_z))))))) h
  · have h := h.2 e
    refine w_aload (p' := 102) rfl rfl rfl rfl ?_
    refine w_getR (p' := 105) rfl rfl rfl rfl rfl ?_
    refine w_aload (p' := 106) rfl rfl rfl rfl ?_
    refine w_getR (p' := 109) rfl rfl rfl rfl rfl ?_
    refine w_iload (p' := 111) rfl rfl rfl rfl ?_
    refine v_callI (M' := 224) (p' := 114) (rest := [(.inr (.inr (.inl (some 44))))]) (as := [(.inr (.inr (.inl (some 1)))), (.inl v6)]) rfl rfl rfl rfl rfl rfl rfl rfl rfl rfl rfl rfl rfl h (fun r2 s1 h => ?_)
    refine v_callV (M' := 176) (p' := 117) (rest := []) (as := [(.inr (.inr (.inl (some 44)))), (.inl r2)]) rfl rfl rfl rfl rfl rfl rfl rfl rfl rfl rfl rfl rfl h (fun s3 h => ?_)
    refine w_iinc (p' := 120) (ls' := [some (.inr (.inr (.inl (some 0)))), some (.inl v1), some (.inl v2), some (.inl v3), none, some (.inl v5), some (.inl (v6 + 1))]) rfl rfl rfl (Nat.le_of_ble_eq_true rfl) h.1 rfl ?_
    have h := h.2
    refine w_goto (p' := 94) rfl rfl ?_
    exact w_cut (q_le_s (q_le_s (q_le_s (q_le_s (q_le_n (q_le_s (q_le_s q_le_z))))))) h
set_option maxRecDepth 20000 in
theorem sg_T_copyFence {X : Nat × (Nat → Int32)} {x1 : Int} {x2 : Int} {s : qM} {K : qM → Prop} (h : c_Blocks_firstLineOf X x1 s (fun r2 s1 => (-2147483648 ≤ (r2 + 1) ∧ (r2 + 1) < 2147483648) ∧ L_T_copyFence_14 X x1 x2 (r2 + 1) (r2 + 1) s1 K)) : c_T_copyFence X x1 x2 s K := by
  unfold c_T_copyFence
  refine w_aload (p' := 1) rfl rfl rfl rfl ?_
  refine w_getR (p' := 4) rfl rfl rfl rfl rfl ?_
  refine w_iload (p' := 5) rfl rfl rfl rfl ?_
  refine v_callI (M' := 160) (p' := 8) (rest := []) (as := [(.inr (.inr (.inl (some 12)))), (.inl x1)]) rfl rfl rfl rfl rfl rfl rfl rfl rfl rfl rfl rfl rfl h (fun r2 s1 h => ?_)
  refine w_const (p' := 9) rfl rfl rfl ?_
  refine w_add (p' := 10) rfl rfl h.1 ?_
  have h := h.2
  refine w_istore (p' := 11) (ls' := [some (.inr (.inr (.inl (some 0)))), some (.inl x1), some (.inl x2), some (.inl (r2 + 1)), none, none]) rfl rfl rfl (Nat.le_of_ble_eq_true rfl) rfl ?_
  refine w_iload (p' := 12) rfl rfl rfl rfl ?_
  refine w_istore (p' := 14) (ls' := [some (.inr (.inr (.inl (some 0)))), some (.inl x1), some (.inl x2), some (.inl (r2 + 1)), some (.inl (r2 + 1)), none]) rfl rfl rfl (Nat.le_of_ble_eq_true rfl) rfl ?_
  exact w_cut (q_le_s (q_le_s (q_le_s (q_le_s (q_le_s (q_le_n q_le_z)))))) h
set_option maxRecDepth 20000 in
theorem sg_T_copyFence_14 {X : Nat × (Nat → Int32)}  {v1 v2 v3 v4 : Int} {s : qM} {K : qM → Prop} (h : c_Blocks_linesOf X v1 s (fun r2 s1 => (-2147483648 ≤ (v3 + r2) ∧ (v3 + r2) < 2147483648) ∧ ((((v3 + r2) ≤ v4) → K s1) ∧ (¬ ((v3 + r2) ≤ v4) → c_Blocks_contentBegin X v4 s1 (fun r4 s3 => L_T_copyFence_40 X v1 v2 v3 v4 r4 s3 K))))) : L_T_copyFence_14 X v1 v2 v3 v4 s K := by
  unfold L_T_copyFence_14
  refine w_iload (p' := 16) rfl rfl rfl rfl ?_
  refine w_iload (p' := 17) rfl rfl rfl rfl ?_
  refine w_aload (p' := 18) rfl rfl rfl rfl ?_
  refine w_getR (p' := 21) rfl rfl rfl rfl rfl ?_
  refine w_iload (p' := 22) rfl rfl rfl rfl ?_
  refine v_callI (M' := 161) (p' := 25) (rest := [(.inl v3), (.inl v4)]) (as := [(.inr (.inr (.inl (some 12)))), (.inl v1)]) rfl rfl rfl rfl rfl rfl rfl rfl rfl rfl rfl rfl rfl h (fun r2 s1 h => ?_)
  refine w_add (p' := 26) rfl rfl h.1 ?_
  have h := h.2
  refine w_icmp (t := 93) (e := 29) rfl rfl rfl (fun e => ?_) (fun e => ?_)
  · have h := h.1 e
    exact w_vret rfl ⟨rfl, rfl, h⟩
  · have h := h.2 e
    refine w_aload (p' := 30) rfl rfl rfl rfl ?_
    refine w_getR (p' := 33) rfl rfl rfl rfl rfl ?_
    refine w_iload (p' := 35) rfl rfl rfl rfl ?_
    refine v_callI (M' := 164) (p' := 38) (rest := []) (as := [(.inr (.inr (.inl (some 12)))), (.inl v4)]) rfl rfl rfl rfl rfl rfl rfl rfl rfl rfl rfl rfl rfl h (fun r4 s3 h => ?_)
    refine w_istore (p' := 40) (ls' := [some (.inr (.inr (.inl (some 0)))), some (.inl v1), some (.inl v2), some (.inl v3), some (.inl v4), some (.inl r4)]) rfl rfl rfl (Nat.le_of_ble_eq_true rfl) rfl ?_
    exact w_cut (q_le_s (q_le_s (q_le_s (q_le_s (q_le_s (q_le_s q_le_z)))))) h
set_option maxRecDepth 20000 in
theorem sg_T_copyFence_40 {X : Nat × (Nat → Int32)}  {v1 v2 v3 v4 v5 : Int} {s : qM} {K : qM → Prop} (h : c_Lines_end X 7 v4 s (fun r2 s1 => (((r2 ≤ v5) → c_Tree_addContent X v2 10 s1 (fun s3 => (-2147483648 ≤ (v4 + 1) ∧ (v4 + 1) < 2147483648) ∧ L_T_copyFence_14 X v1 v2 v3 (v4 + 1) s3 K)) ∧ (¬ (r2 ≤ v5) → c_Row_at X 1 v5 s1 (fun r5 s4 => c_Tree_addContent X v2 r5 s4 (fun s6 => (-2147483648 ≤ (v5 + 1) ∧ (v5 + 1) < 2147483648) ∧ L_T_copyFence_40 X v1 v2 v3 v4 (v5 + 1) s6 K)))))) : L_T_copyFence_40 X v1 v2 v3 v4 v5 s K := by
  unfold L_T_copyFence_40
  refine w_iload (p' := 42) rfl rfl rfl rfl ?_
  refine w_aload (p' := 43) rfl rfl rfl rfl ?_
  refine w_getR (p' := 46) rfl rfl rfl rfl rfl ?_
  refine w_iload (p' := 48) rfl rfl rfl rfl ?_
  refine v_callI (M' := 194) (p' := 51) (rest := [(.inl v5)]) (as := [(.inr (.inr (.inl (some 7)))), (.inl v4)]) rfl rfl rfl rfl rfl rfl rfl rfl rfl rfl rfl rfl rfl h (fun r2 s1 h => ?_)
  refine w_icmp (t := 77) (e := 54) rfl rfl rfl (fun e => ?_) (fun e => ?_)
  · have h := h.1 e
    refine w_aload (p' := 78) rfl rfl rfl rfl ?_
    refine w_getR (p' := 81) rfl rfl rfl rfl rfl ?_
    refine w_iload (p' := 82) rfl rfl rfl rfl ?_
    refine w_const (p' := 84) rfl rfl rfl ?_
    refine v_callV (M' := 248) (p' := 87) (rest := []) (as := [(.inr (.inr (.inl (some 64)))), (.inl v2), (.inl 10)]) rfl rfl rfl rfl rfl rfl rfl rfl rfl rfl rfl rfl rfl h (fun s3 h => ?_)
    refine w_iinc (p' := 90) (ls' := [some (.inr (.inr (.inl (some 0)))), some (.inl v1), some (.inl v2), some (.inl v3), some (.inl (v4 + 1)), some (.inl v5)]) rfl rfl rfl (Nat.le_of_ble_eq_true rfl) h.1 rfl ?_
    have h := h.2
    refine w_goto (p' := 14) rfl rfl ?_
    exact w_cut (q_le_s (q_le_s (q_le_s (q_le_s (q_le_s (q_le_n q_le_z)))))) h
  · have h := h.2 e
    refine w_aload (p' := 55) rfl rfl rfl rfl ?_
    refine w_getR (p' := 58) rfl rfl rfl rfl rfl ?_
    refine w_iload (p' := 59) rfl rfl rfl rfl ?_
    refine w_aload (p' := 60) rfl rfl rfl rfl ?_
    refine w_getR (p' := 63) rfl rfl rfl rfl rfl ?_
    refine w_iload (p' := 65) rfl rfl rfl rfl ?_
    refine v_callI (M' := 224) (p' := 68) (rest := [(.inl v2), (.inr (.inr (.inl (some 64))))]) (as := [(.inr (.inr (.inl (some 1)))), (.inl v5)]) rfl rfl rfl rfl rfl rfl rfl rfl rfl rfl rfl rfl rfl h (fun r5 s4 h => ?_)
    refine v_callV (M' := 248) (p' := 71) (rest := []) (as := [(.inr (.inr (.inl (some 64)))), (.inl v2), (.inl r5)]) rfl rfl rfl rfl rfl rfl rfl rfl rfl rfl rfl rfl rfl h (fun s6 h => ?_)
    refine w_iinc (p' := 74) (ls' := [some (.inr (.inr (.inl (some 0)))), some (.inl v1), some (.inl v2), some (.inl v3), some (.inl v4), some (.inl (v5 + 1))]) rfl rfl rfl (Nat.le_of_ble_eq_true rfl) h.1 rfl ?_
    have h := h.2
    refine w_goto (p' := 40) rfl rfl ?_
    exact w_cut (q_le_s (q_le_s (q_le_s (q_le_s (q_le_s (q_le_s q_le_z)))))) h
set_option maxRecDepth 20000 in
theorem sg_T_writeFormatted {X : Nat × (Nat → Int32)}  {s : qM} {K : qM → Prop} (h : c_Row_empty X 88 s (fun s1 => L_T_writeFormatted_11 X 0 0 s1 K)) : c_T_writeFormatted X  s K := by
  unfold c_T_writeFormatted
  refine w_aload (p' := 1) rfl rfl rfl rfl ?_
  refine w_getR (p' := 4) rfl rfl rfl rfl rfl ?_
  refine v_callV (M' := 227) (p' := 7) (rest := []) (as := [(.inr (.inr (.inl (some 88))))]) rfl rfl rfl rfl rfl rfl rfl rfl rfl rfl rfl rfl rfl h (fun s1 h => ?_)
  refine w_const (p' := 8) rfl rfl rfl ?_
  refine w_istore (p' := 9) (ls' := [some (.inr (.inr (.inl (some 0)))), some (.inl 0), none, none, none, none, none]) rfl rfl rfl (Nat.le_of_ble_eq_true rfl) rfl ?_
  refine w_const (p' := 10) rfl rfl rfl ?_
  refine w_istore (p' := 11) (ls' := [some (.inr (.inr (.inl (some 0)))), some (.inl 0), some (.inl 0), none, none, none, none]) rfl rfl rfl (Nat.le_of_ble_eq_true rfl) rfl ?_
  exact w_cut (q_le_s (q_le_s (q_le_s (q_le_n (q_le_n (q_le_n (q_le_n q_le_z))))))) h
set_option maxRecDepth 20000 in
theorem sg_T_writeFormatted_11 {X : Nat × (Nat → Int32)}  {v1 v2 : Int} {s : qM} {K : qM → Prop} (h : c_Lines_many X 7 s (fun r2 s1 => (((r2 ≤ v2) → K s1) ∧ (¬ (r2 ≤ v2) → c_Lines_begin X 7 v2 s1 (fun r4 s3 => c_Blocks_ownerOfLine X v2 s3 (fun r6 s5 => c_Blocks_kindOf X r6 s5 (fun r8 s7 => (((r8 ≠ 5) → c_Lines_end X 7 v2 s7 (fun r10 s9 => c_T_cutBlanks X 1 r4 r10 s9 (fun r12 s11 => L_T_writeFormatted_89 X v1 v2 r4 0 r12 s11 K))) ∧ (¬ (r8 ≠ 5) → c_Lines_end X 7 v2 s7 (fun r14 s13 => L_T_writeFormatted_89 X v1 v2 r4 1 r14 s13 K)))))))))) : L_T_writeFormatted_11 X v1 v2 s K := by
  unfold L_T_writeFormatted_11
  refine w_iload (p' := 12) rfl rfl rfl rfl ?_
  refine w_aload (p' := 13) rfl rfl rfl rfl ?_
  refine w_getR (p' := 16) rfl rfl rfl rfl rfl ?_
  refine v_callI (M' := 192) (p' := 19) (rest := [(.inl v2)]) (as := [(.inr (.inr (.inl (some 7))))]) rfl rfl rfl rfl rfl rfl rfl rfl rfl rfl rfl rfl rfl h (fun r2 s1 h => ?_)
  refine w_icmp (t := 131) (e := 22) rfl rfl rfl (fun e => ?_) (fun e => ?_)
  · have h := h.1 e
    exact w_vret rfl ⟨rfl, rfl, h⟩
  · have h := h.2 e
    refine w_aload (p' := 23) rfl rfl rfl rfl ?_
    refine w_getR (p' := 26) rfl rfl rfl rfl rfl ?_
    refine w_iload (p' := 27) rfl rfl rfl rfl ?_
    refine v_callI (M' := 193) (p' := 30) (rest := []) (as := [(.inr (.inr (.inl (some 7)))), (.inl v2)]) rfl rfl rfl rfl rfl rfl rfl rfl rfl rfl rfl rfl rfl h (fun r4 s3 h => ?_)
    refine w_istore (p' := 31) (ls' := [some (.inr (.inr (.inl (some 0)))), some (.inl v1), some (.inl v2), some (.inl r4), none, none, none]) rfl rfl rfl (Nat.le_of_ble_eq_true rfl) rfl ?_
    refine w_aload (p' := 32) rfl rfl rfl rfl ?_
    refine w_getR (p' := 35) rfl rfl rfl rfl rfl ?_
    refine w_aload (p' := 36) rfl rfl rfl rfl ?_
    refine w_getR (p' := 39) rfl rfl rfl rfl rfl ?_
    refine w_iload (p' := 40) rfl rfl rfl rfl ?_
    refine v_callI (M' := 166) (p' := 43) (rest := [(.inr (.inr (.inl (some 12))))]) (as := [(.inr (.inr (.inl (some 12)))), (.inl v2)]) rfl rfl rfl rfl rfl rfl rfl rfl rfl rfl rfl rfl rfl h (fun r6 s5 h => ?_)
    refine v_callI (M' := 153) (p' := 46) (rest := []) (as := [(.inr (.inr (.inl (some 12)))), (.inl r6)]) rfl rfl rfl rfl rfl rfl rfl rfl rfl rfl rfl rfl rfl h (fun r8 s7 h => ?_)
    refine w_const (p' := 47) rfl rfl rfl ?_
    refine w_icmp (t := 54) (e := 50) rfl rfl rfl (fun e => ?_) (fun e => ?_)
    · have h := h.1 e
      refine w_const (p' := 55) rfl rfl rfl ?_
      refine w_istore (p' := 57) (ls' := [some (.inr (.inr (.inl (some 0)))), some (.inl v1), some (.inl v2), some (.inl r4), some (.inl 0), none, none]) rfl rfl rfl (Nat.le_of_ble_eq_true rfl) rfl ?_
      refine w_iload (p' := 59) rfl rfl rfl rfl ?_
      refine w_if (t := 73) (e := 62) rfl rfl rfl (fun e => ?_) (fun e => absurd (show (0 : Int) = 0 by decide) e)
      refine w_aload (p' := 74) rfl rfl rfl rfl ?_
      refine w_getR (p' := 77) rfl rfl rfl rfl rfl ?_
      refine w_iload (p' := 78) rfl rfl rfl rfl ?_
      refine w_aload (p' := 79) rfl rfl rfl rfl ?_
      refine w_getR (p' := 82) rfl rfl rfl rfl rfl ?_
      refine w_iload (p' := 83) rfl rfl rfl rfl ?_
      refine v_callI (M' := 194) (p' := 86) (rest := [(.inl r4), (.inr (.inr (.inl (some 1))))]) (as := [(.inr (.inr (.inl (some 7)))), (.inl v2)]) rfl rfl rfl rfl rfl rfl rfl rfl rfl rfl rfl rfl rfl h (fun r10 s9 h => ?_)
      refine v_callI (M' := 40) (p' := 89) (rest := []) (as := [(.inr (.inr (.inl (some 1)))), (.inl r4), (.inl r10)]) rfl rfl rfl rfl rfl rfl rfl rfl rfl rfl rfl trivial rfl h (fun r12 s11 h => ?_)
      exact w_cut (q_le_s (q_le_s (q_le_s (q_le_s (q_le_s (q_le_n (q_le_n q_le_z))))))) h
    · have h := h.2 e
      refine w_const (p' := 51) rfl rfl rfl ?_
      refine w_goto (p' := 55) rfl rfl ?_
      refine w_istore (p' := 57) (ls' := [some (.inr (.inr (.inl (some 0)))), some (.inl v1), some (.inl v2), some (.inl r4), some (.inl 1), none, none]) rfl rfl rfl (Nat.le_of_ble_eq_true rfl) rfl ?_
      refine w_iload (p' := 59) rfl rfl rfl rfl ?_
      refine w_if (t := 73) (e := 62) rfl rfl rfl (fun e => absurd e (show ¬ ((1 : Int) = 0) by decide)) (fun e => ?_)
      refine w_aload (p' := 63) rfl rfl rfl rfl ?_
      refine w_getR (p' := 66) rfl rfl rfl rfl rfl ?_
      refine w_iload (p' := 67) rfl rfl rfl rfl ?_
      refine v_callI (M' := 194) (p' := 70) (rest := []) (as := [(.inr (.inr (.inl (some 7)))), (.inl v2)]) rfl rfl rfl rfl rfl rfl rfl rfl rfl rfl rfl rfl rfl h (fun r14 s13 h => ?_)
      refine w_goto (p' := 89) rfl rfl ?_
      exact w_cut (q_le_s (q_le_s (q_le_s (q_le_s (q_le_s (q_le_n (q_le_n q_le_z))))))) h
set_option maxRecDepth 20000 in
theorem sg_T_writeFormatted_89 {X : Nat × (Nat → Int32)}  {v1 v2 v3 v4 t0 : Int} {s : qM} {K : qM → Prop} (h : (((t0 ≠ v3) → c_T_writeLine X v3 t0 v1 s (fun s1 => (-2147483648 ≤ (v2 + 1) ∧ (v2 + 1) < 2147483648) ∧ L_T_writeFormatted_11 X 0 (v2 + 1) s1 K)) ∧ (¬ (t0 ≠ v3) → (((v4 ≠ 0) → c_T_writeLine X v3 t0 v1 s (fun s2 => (-2147483648 ≤ (v2 + 1) ∧ (v2 + 1) < 2147483648) ∧ L_T_writeFormatted_11 X 0 (v2 + 1) s2 K)) ∧ (¬ (v4 ≠ 0) → (-2147483648 ≤ (v2 + 1) ∧ (v2 + 1) < 2147483648) ∧ L_T_writeFormatted_11 X 1 (v2 + 1) s K))))) : L_T_writeFormatted_89 X v1 v2 v3 v4 t0 s K := by
  unfold L_T_writeFormatted_89
  refine w_istore (p' := 91) (ls' := [some (.inr (.inr (.inl (some 0)))), some (.inl v1), some (.inl v2), some (.inl v3), some (.inl v4), some (.inl t0), none]) rfl rfl rfl (Nat.le_of_ble_eq_true rfl) rfl ?_
  refine w_iload (p' := 93) rfl rfl rfl rfl ?_
  refine w_iload (p' := 94) rfl rfl rfl rfl ?_
  refine w_icmp (t := 106) (e := 97) rfl rfl rfl (fun e => ?_) (fun e => ?_)
  · have h := h.1 e
    refine w_const (p' := 107) rfl rfl rfl ?_
    refine w_istore (p' := 109) (ls' := [some (.inr (.inr (.inl (some 0)))), some (.inl v1), some (.inl v2), some (.inl v3), some (.inl v4), some (.inl t0), some (.inl 0)]) rfl rfl rfl (Nat.le_of_ble_eq_true rfl) rfl ?_
    refine w_iload (p' := 111) rfl rfl rfl rfl ?_
    refine w_if (t := 122) (e := 114) rfl rfl rfl (fun e => absurd e (show ¬ ((0 : Int) ≠ 0) by decide)) (fun e => ?_)
    refine w_aload (p' := 115) rfl rfl rfl rfl ?_
    refine w_iload (p' := 116) rfl rfl rfl rfl ?_
    refine w_iload (p' := 118) rfl rfl rfl rfl ?_
    refine w_iload (p' := 119) rfl rfl rfl rfl ?_
    refine v_callV (M' := 35) (p' := 122) (rest := []) (as := [(.inr (.inr (.inl (some 0)))), (.inl v3), (.inl t0), (.inl v1)]) rfl rfl rfl rfl rfl rfl rfl rfl rfl rfl rfl rfl rfl h (fun s1 h => ?_)
    refine w_iload (p' := 124) rfl rfl rfl rfl ?_
    refine w_istore (p' := 125) (ls' := [some (.inr (.inr (.inl (some 0)))), some (.inl 0), some (.inl v2), some (.inl v3), some (.inl v4), some (.inl t0), some (.inl 0)]) rfl rfl rfl (Nat.le_of_ble_eq_true rfl) rfl ?_
    refine w_iinc (p' := 128) (ls' := [some (.inr (.inr (.inl (some 0)))), some (.inl 0), some (.inl (v2 + 1)), some (.inl v3), some (.inl v4), some (.inl t0), some (.inl 0)]) rfl rfl rfl (Nat.le_of_ble_eq_true rfl) h.1 rfl ?_
    have h := h.2
    refine w_goto (p' := 11) rfl rfl ?_
    exact w_cut (q_le_s (q_le_s (q_le_s (q_le_n (q_le_n (q_le_n (q_le_n q_le_z))))))) h
  · have h := h.2 e
    refine w_iload (p' := 99) rfl rfl rfl rfl ?_
    refine w_if (t := 106) (e := 102) rfl rfl rfl (fun e => ?_) (fun e => ?_)
    · have h := h.1 e
      refine w_const (p' := 107) rfl rfl rfl ?_
      refine w_istore (p' := 109) (ls' := [some (.inr (.inr (.inl (some 0)))), some (.inl v1), some (.inl v2), some (.inl v3), some (.inl v4), some (.inl t0), some (.inl 0)]) rfl rfl rfl (Nat.le_of_ble_eq_true rfl) rfl ?_
      refine w_iload (p' := 111) rfl rfl rfl rfl ?_
      refine w_if (t := 122) (e := 114) rfl rfl rfl (fun e => absurd e (show ¬ ((0 : Int) ≠ 0) by decide)) (fun e => ?_)
      refine w_aload (p' := 115) rfl rfl rfl rfl ?_
      refine w_iload (p' := 116) rfl rfl rfl rfl ?_
      refine w_iload (p' := 118) rfl rfl rfl rfl ?_
      refine w_iload (p' := 119) rfl rfl rfl rfl ?_
      refine v_callV (M' := 35) (p' := 122) (rest := []) (as := [(.inr (.inr (.inl (some 0)))), (.inl v3), (.inl t0), (.inl v1)]) rfl rfl rfl rfl rfl rfl rfl rfl rfl rfl rfl rfl rfl h (fun s2 h => ?_)
      refine w_iload (p' := 124) rfl rfl rfl rfl ?_
      refine w_istore (p' := 125) (ls' := [some (.inr (.inr (.inl (some 0)))), some (.inl 0), some (.inl v2), some (.inl v3), some (.inl v4), some (.inl t0), some (.inl 0)]) rfl rfl rfl (Nat.le_of_ble_eq_true rfl) rfl ?_
      refine w_iinc (p' := 128) (ls' := [some (.inr (.inr (.inl (some 0)))), some (.inl 0), some (.inl (v2 + 1)), some (.inl v3), some (.inl v4), some (.inl t0), some (.inl 0)]) rfl rfl rfl (Nat.le_of_ble_eq_true rfl) h.1 rfl ?_
      have h := h.2
      refine w_goto (p' := 11) rfl rfl ?_
      exact w_cut (q_le_s (q_le_s (q_le_s (q_le_n (q_le_n (q_le_n (q_le_n q_le_z))))))) h
    · have h := h.2 e
      refine w_const (p' := 103) rfl rfl rfl ?_
      refine w_goto (p' := 107) rfl rfl ?_
      refine w_istore (p' := 109) (ls' := [some (.inr (.inr (.inl (some 0)))), some (.inl v1), some (.inl v2), some (.inl v3), some (.inl v4), some (.inl t0), some (.inl 1)]) rfl rfl rfl (Nat.le_of_ble_eq_true rfl) rfl ?_
      refine w_iload (p' := 111) rfl rfl rfl rfl ?_
      refine w_if (t := 122) (e := 114) rfl rfl rfl (fun e => ?_) (fun e => absurd (show (1 : Int) ≠ 0 by decide) e)
      refine w_iload (p' := 124) rfl rfl rfl rfl ?_
      refine w_istore (p' := 125) (ls' := [some (.inr (.inr (.inl (some 0)))), some (.inl 1), some (.inl v2), some (.inl v3), some (.inl v4), some (.inl t0), some (.inl 1)]) rfl rfl rfl (Nat.le_of_ble_eq_true rfl) rfl ?_
      refine w_iinc (p' := 128) (ls' := [some (.inr (.inr (.inl (some 0)))), some (.inl 1), some (.inl (v2 + 1)), some (.inl v3), some (.inl v4), some (.inl t0), some (.inl 1)]) rfl rfl rfl (Nat.le_of_ble_eq_true rfl) h.1 rfl ?_
      have h := h.2
      refine w_goto (p' := 11) rfl rfl ?_
      exact w_cut (q_le_s (q_le_s (q_le_s (q_le_n (q_le_n (q_le_n (q_le_n q_le_z))))))) h
set_option maxRecDepth 20000 in
theorem sg_T_writeLine {X : Nat × (Nat → Int32)} {x1 : Int} {x2 : Int} {x3 : Int} {s : qM} {K : qM → Prop} (h : c_Row_size X 88 s (fun r2 s1 => (((r2 ≤ 0) → L_T_writeLine_35 X x2 x1 s1 K) ∧ (¬ (r2 ≤ 0) → c_Row_add X 88 10 s1 (fun s3 => (((x3 = 0) → L_T_writeLine_35 X x2 x1 s3 K) ∧ (¬ (x3 = 0) → c_Row_add X 88 10 s3 (fun s4 => L_T_writeLine_35 X x2 x1 s4 K)))))))) : c_T_writeLine X x1 x2 x3 s K := by
  unfold c_T_writeLine
  refine w_aload (p' := 1) rfl rfl rfl rfl ?_
  refine w_getR (p' := 4) rfl rfl rfl rfl rfl ?_
  refine v_callI (M' := 223) (p' := 7) (rest := []) (as := [(.inr (.inr (.inl (some 88))))]) rfl rfl rfl rfl rfl rfl rfl rfl rfl rfl rfl rfl rfl h (fun r2 s1 h => ?_)
  refine w_if (t := 32) (e := 10) rfl rfl rfl (fun e => ?_) (fun e => ?_)
  · have h := h.1 e
    refine w_iload (p' := 33) rfl rfl rfl rfl ?_
    refine w_istore (p' := 35) (ls' := [some (.inr (.inr (.inl (some 0)))), some (.inl x1), some (.inl x2), some (.inl x3), some (.inl x1)]) rfl rfl rfl (Nat.le_of_ble_eq_true rfl) rfl ?_
    exact w_cut (q_le_s (q_le_n (q_le_s (q_le_n (q_le_s q_le_z))))) h
  · have h := h.2 e
    refine w_aload (p' := 11) rfl rfl rfl rfl ?_
    refine w_getR (p' := 14) rfl rfl rfl rfl rfl ?_
    refine w_const (p' := 16) rfl rfl rfl ?_
    refine v_callV (M' := 226) (p' := 19) (rest := []) (as := [(.inr (.inr (.inl (some 88)))), (.inl 10)]) rfl rfl rfl rfl rfl rfl rfl rfl rfl rfl rfl rfl rfl h (fun s3 h => ?_)
    refine w_iload (p' := 20) rfl rfl rfl rfl ?_
    refine w_if (t := 32) (e := 23) rfl rfl rfl (fun e => ?_) (fun e => ?_)
    · have h := h.1 e
      refine w_iload (p' := 33) rfl rfl rfl rfl ?_
      refine w_istore (p' := 35) (ls' := [some (.inr (.inr (.inl (some 0)))), some (.inl x1), some (.inl x2), some (.inl x3), some (.inl x1)]) rfl rfl rfl (Nat.le_of_ble_eq_true rfl) rfl ?_
      exact w_cut (q_le_s (q_le_n (q_le_s (q_le_n (q_le_s q_le_z))))) h
    · have h := h.2 e
      refine w_aload (p' := 24) rfl rfl rfl rfl ?_
      refine w_getR (p' := 27) rfl rfl rfl rfl rfl ?_
      refine w_const (p' := 29) rfl rfl rfl ?_
      refine v_callV (M' := 226) (p' := 32) (rest := []) (as := [(.inr (.inr (.inl (some 88)))), (.inl 10)]) rfl rfl rfl rfl rfl rfl rfl rfl rfl rfl rfl rfl rfl h (fun s4 h => ?_)
      refine w_iload (p' := 33) rfl rfl rfl rfl ?_
      refine w_istore (p' := 35) (ls' := [some (.inr (.inr (.inl (some 0)))), some (.inl x1), some (.inl x2), some (.inl x3), some (.inl x1)]) rfl rfl rfl (Nat.le_of_ble_eq_true rfl) rfl ?_
      exact w_cut (q_le_s (q_le_n (q_le_s (q_le_n (q_le_s q_le_z))))) h
set_option maxRecDepth 20000 in
theorem sg_T_writeLine_35 {X : Nat × (Nat → Int32)}  {v2 v4 : Int} {s : qM} {K : qM → Prop} (h : (((v2 ≤ v4) → K s) ∧ (¬ (v2 ≤ v4) → c_Row_at X 1 v4 s (fun r2 s1 => c_Row_add X 88 r2 s1 (fun s3 => (-2147483648 ≤ (v4 + 1) ∧ (v4 + 1) < 2147483648) ∧ L_T_writeLine_35 X v2 (v4 + 1) s3 K))))) : L_T_writeLine_35 X v2 v4 s K := by
  unfold L_T_writeLine_35
  refine w_iload (p' := 37) rfl rfl rfl rfl ?_
  refine w_iload (p' := 38) rfl rfl rfl rfl ?_
  refine w_icmp (t := 63) (e := 41) rfl rfl rfl (fun e => ?_) (fun e => ?_)
  · have h := h.1 e
    exact w_vret rfl ⟨rfl, rfl, h⟩
  · have h := h.2 e
    refine w_aload (p' := 42) rfl rfl rfl rfl ?_
    refine w_getR (p' := 45) rfl rfl rfl rfl rfl ?_
    refine w_aload (p' := 46) rfl rfl rfl rfl ?_
    refine w_getR (p' := 49) rfl rfl rfl rfl rfl ?_
    refine w_iload (p' := 51) rfl rfl rfl rfl ?_
    refine v_callI (M' := 224) (p' := 54) (rest := [(.inr (.inr (.inl (some 88))))]) (as := [(.inr (.inr (.inl (some 1)))), (.inl v4)]) rfl rfl rfl rfl rfl rfl rfl rfl rfl rfl rfl rfl rfl h (fun r2 s1 h => ?_)
    refine v_callV (M' := 226) (p' := 57) (rest := []) (as := [(.inr (.inr (.inl (some 88)))), (.inl r2)]) rfl rfl rfl rfl rfl rfl rfl rfl rfl rfl rfl rfl rfl h (fun s3 h => ?_)
    refine w_iinc (p' := 60) (ls' := [some (.inr (.inr (.inl (some 0)))), none, some (.inl v2), none, some (.inl (v4 + 1))]) rfl rfl rfl (Nat.le_of_ble_eq_true rfl) h.1 rfl ?_
    have h := h.2
    refine w_goto (p' := 35) rfl rfl ?_
    exact w_cut (q_le_s (q_le_n (q_le_s (q_le_n (q_le_s q_le_z))))) h
set_option maxRecDepth 20000 in
theorem sg_T_isLetterOrDigit {X : Nat × (Nat → Int32)} {x1 : Int} {s : qM} {K : Int → qM → Prop} (h : (((x1 < 48) → L_T_isLetterOrDigit_12 X x1 s K) ∧ (¬ (x1 < 48) → (((x1 ≤ 57) → K 1 s) ∧ (¬ (x1 ≤ 57) → L_T_isLetterOrDigit_12 X x1 s K))))) : c_T_isLetterOrDigit X x1 s K := by
  unfold c_T_isLetterOrDigit
  refine w_iload (p' := 1) rfl rfl rfl rfl ?_
  refine w_const (p' := 3) rfl rfl rfl ?_
  refine w_icmp (t := 12) (e := 6) rfl rfl rfl (fun e => ?_) (fun e => ?_)
  · have h := h.1 e
    exact w_cut (q_le_s q_le_z) h
  · have h := h.2 e
    refine w_iload (p' := 7) rfl rfl rfl rfl ?_
    refine w_const (p' := 9) rfl rfl rfl ?_
    refine w_icmp (t := 36) (e := 12) rfl rfl rfl (fun e => ?_) (fun e => ?_)
    · have h := h.1 e
      refine w_const (p' := 37) rfl rfl rfl ?_
      refine w_goto (p' := 41) rfl rfl ?_
      exact w_iret rfl ⟨by decide, by decide⟩ ⟨rfl, _, rfl, h⟩
    · have h := h.2 e
      exact w_cut (q_le_s q_le_z) h
set_option maxRecDepth 20000 in
theorem sg_T_isLetterOrDigit_12 {X : Nat × (Nat → Int32)}  {v0 : Int} {s : qM} {K : Int → qM → Prop} (h : (((v0 < 97) → (((v0 < 65) → K 0 s) ∧ (¬ (v0 < 65) → (((90 < v0) → K 0 s) ∧ (¬ (90 < v0) → K 1 s))))) ∧ (¬ (v0 < 97) → (((v0 ≤ 122) → K 1 s) ∧ (¬ (v0 ≤ 122) → (((v0 < 65) → K 0 s) ∧ (¬ (v0 < 65) → (((90 < v0) → K 0 s) ∧ (¬ (90 < v0) → K 1 s))))))))) : L_T_isLetterOrDigit_12 X v0 s K := by
  unfold L_T_isLetterOrDigit_12
  refine w_iload (p' := 13) rfl rfl rfl rfl ?_
  refine w_const (p' := 15) rfl rfl rfl ?_
  refine w_icmp (t := 24) (e := 18) rfl rfl rfl (fun e => ?_) (fun e => ?_)
  · have h := h.1 e
    refine w_iload (p' := 25) rfl rfl rfl rfl ?_
    refine w_const (p' := 27) rfl rfl rfl ?_
    refine w_icmp (t := 40) (e := 30) rfl rfl rfl (fun e => ?_) (fun e => ?_)
    · have h := h.1 e
      refine w_const (p' := 41) rfl rfl rfl ?_
      exact w_iret rfl ⟨by decide, by decide⟩ ⟨rfl, _, rfl, h⟩
    · have h := h.2 e
      refine w_iload (p' := 31) rfl rfl rfl rfl ?_
      refine w_const (p' := 33) rfl rfl rfl ?_
      refine w_icmp (t := 40) (e := 36) rfl rfl rfl (fun e => ?_) (fun e => ?_)
      · have h := h.1 e
        refine w_const (p' := 41) rfl rfl rfl ?_
        exact w_iret rfl ⟨by decide, by decide⟩ ⟨rfl, _, rfl, h⟩
      · have h := h.2 e
        refine w_const (p' := 37) rfl rfl rfl ?_
        refine w_goto (p' := 41) rfl rfl ?_
        exact w_iret rfl ⟨by decide, by decide⟩ ⟨rfl, _, rfl, h⟩
  · have h := h.2 e
    refine w_iload (p' := 19) rfl rfl rfl rfl ?_
    refine w_const (p' := 21) rfl rfl rfl ?_
    refine w_icmp (t := 36) (e := 24) rfl rfl rfl (fun e => ?_) (fun e => ?_)
    · have h := h.1 e
      refine w_const (p' := 37) rfl rfl rfl ?_
      refine w_goto (p' := 41) rfl rfl ?_
      exact w_iret rfl ⟨by decide, by decide⟩ ⟨rfl, _, rfl, h⟩
    · have h := h.2 e
      refine w_iload (p' := 25) rfl rfl rfl rfl ?_
      refine w_const (p' := 27) rfl rfl rfl ?_
      refine w_icmp (t := 40) (e := 30) rfl rfl rfl (fun e => ?_) (fun e => ?_)
      · have h := h.1 e
        refine w_const (p' := 41) rfl rfl rfl ?_
        exact w_iret rfl ⟨by decide, by decide⟩ ⟨rfl, _, rfl, h⟩
      · have h := h.2 e
        refine w_iload (p' := 31) rfl rfl rfl rfl ?_
        refine w_const (p' := 33) rfl rfl rfl ?_
        refine w_icmp (t := 40) (e := 36) rfl rfl rfl (fun e => ?_) (fun e => ?_)
        · have h := h.1 e
          refine w_const (p' := 41) rfl rfl rfl ?_
          exact w_iret rfl ⟨by decide, by decide⟩ ⟨rfl, _, rfl, h⟩
        · have h := h.2 e
          refine w_const (p' := 37) rfl rfl rfl ?_
          refine w_goto (p' := 41) rfl rfl ?_
          exact w_iret rfl ⟨by decide, by decide⟩ ⟨rfl, _, rfl, h⟩
set_option maxRecDepth 20000 in
theorem sg_T_isSign {X : Nat × (Nat → Int32)} {x1 : Int} {s : qM} {K : Int → qM → Prop} (h : (((x1 ≤ 32) → K 0 s) ∧ (¬ (x1 ≤ 32) → c_T_isLetterOrDigit X x1 s (fun r2 s1 => (((r2 ≠ 0) → K 0 s1) ∧ (¬ (r2 ≠ 0) → K 1 s1)))))) : c_T_isSign X x1 s K := by
  unfold c_T_isSign
  refine w_iload (p' := 1) rfl rfl rfl rfl ?_
  refine w_const (p' := 3) rfl rfl rfl ?_
  refine w_icmp (t := 17) (e := 6) rfl rfl rfl (fun e => ?_) (fun e => ?_)
  · have h := h.1 e
    refine w_const (p' := 18) rfl rfl rfl ?_
    exact w_iret rfl ⟨by decide, by decide⟩ ⟨rfl, _, rfl, h⟩
  · have h := h.2 e
    refine w_iload (p' := 7) rfl rfl rfl rfl ?_
    refine v_callI (M' := 36) (p' := 10) (rest := []) (as := [(.inl x1)]) rfl rfl rfl rfl rfl rfl rfl rfl rfl rfl rfl trivial rfl h (fun r2 s1 h => ?_)
    refine w_if (t := 17) (e := 13) rfl rfl rfl (fun e => ?_) (fun e => ?_)
    · have h := h.1 e
      refine w_const (p' := 18) rfl rfl rfl ?_
      exact w_iret rfl ⟨by decide, by decide⟩ ⟨rfl, _, rfl, h⟩
    · have h := h.2 e
      refine w_const (p' := 14) rfl rfl rfl ?_
      refine w_goto (p' := 18) rfl rfl ?_
      exact w_iret rfl ⟨by decide, by decide⟩ ⟨rfl, _, rfl, h⟩
set_option maxRecDepth 20000 in
theorem sg_T_isGap {X : Nat × (Nat → Int32)} {x1 : Int} {s : qM} {K : Int → qM → Prop} (h : (((x1 = 32) → K 1 s) ∧ (¬ (x1 = 32) → (((x1 = 10) → K 1 s) ∧ (¬ (x1 = 10) → (((x1 ≠ (-1)) → K 0 s) ∧ (¬ (x1 ≠ (-1)) → K 1 s))))))) : c_T_isGap X x1 s K := by
  unfold c_T_isGap
  refine w_iload (p' := 1) rfl rfl rfl rfl ?_
  refine w_const (p' := 3) rfl rfl rfl ?_
  refine w_icmp (t := 17) (e := 6) rfl rfl rfl (fun e => ?_) (fun e => ?_)
  · have h := h.1 e
    refine w_const (p' := 18) rfl rfl rfl ?_
    refine w_goto (p' := 22) rfl rfl ?_
    exact w_iret rfl ⟨by decide, by decide⟩ ⟨rfl, _, rfl, h⟩
  · have h := h.2 e
    refine w_iload (p' := 7) rfl rfl rfl rfl ?_
    refine w_const (p' := 9) rfl rfl rfl ?_
    refine w_icmp (t := 17) (e := 12) rfl rfl rfl (fun e => ?_) (fun e => ?_)
    · have h := h.1 e
      refine w_const (p' := 18) rfl rfl rfl ?_
      refine w_goto (p' := 22) rfl rfl ?_
      exact w_iret rfl ⟨by decide, by decide⟩ ⟨rfl, _, rfl, h⟩
    · have h := h.2 e
      refine w_iload (p' := 13) rfl rfl rfl rfl ?_
      refine w_const (p' := 14) rfl rfl rfl ?_
      refine w_icmp (t := 21) (e := 17) rfl rfl rfl (fun e => ?_) (fun e => ?_)
      · have h := h.1 e
        refine w_const (p' := 22) rfl rfl rfl ?_
        exact w_iret rfl ⟨by decide, by decide⟩ ⟨rfl, _, rfl, h⟩
      · have h := h.2 e
        refine w_const (p' := 18) rfl rfl rfl ?_
        refine w_goto (p' := 22) rfl rfl ?_
        exact w_iret rfl ⟨by decide, by decide⟩ ⟨rfl, _, rfl, h⟩
set_option maxRecDepth 20000 in
theorem sg_T_skipBlanks {X : Nat × (Nat → Int32)} {x1 : Nat} {x2 : Int} {x3 : Int} {s : qM} {K : Int → qM → Prop} {x1_N : Nat} (hx1 : q_isRow x1 x1_N) (h : L_T_skipBlanks_2 X x1 x3 x2 s K) : c_T_skipBlanks X x1 x2 x3 s K := by
  unfold c_T_skipBlanks
  refine w_iload (p' := 1) rfl rfl rfl rfl ?_
  refine w_istore (p' := 2) (ls' := [some (.inr (.inr (.inl (some x1)))), some (.inl x2), some (.inl x3), some (.inl x2)]) rfl rfl rfl (Nat.le_of_ble_eq_true rfl) rfl ?_
  exact w_cut (q_le_s (q_le_n (q_le_s (q_le_s q_le_z)))) h
set_option maxRecDepth 20000 in
theorem sg_T_skipBlanks_2 {X : Nat × (Nat → Int32)} {x1 : Nat} {v2 v3 : Int} {s : qM} {K : Int → qM → Prop} {x1_N : Nat} (hx1 : q_isRow x1 x1_N) (h : (((v2 ≤ v3) → K v2 s) ∧ (¬ (v2 ≤ v3) → c_Row_at X x1 v3 s (fun r2 s1 => (((r2 = 32) → (-2147483648 ≤ (v3 + 1) ∧ (v3 + 1) < 2147483648) ∧ L_T_skipBlanks_2 X x1 v2 (v3 + 1) s1 K) ∧ (¬ (r2 = 32) → K v3 s1)))))) : L_T_skipBlanks_2 X x1 v2 v3 s K := by
  unfold L_T_skipBlanks_2
  refine w_iload (p' := 3) rfl rfl rfl rfl ?_
  refine w_iload (p' := 4) rfl rfl rfl rfl ?_
  refine w_icmp (t := 25) (e := 7) rfl rfl rfl (fun e => ?_) (fun e => ?_)
  · have h := h.1 e
    refine w_iload (p' := 26) rfl rfl rfl rfl ?_
    exact w_iret rfl trivial ⟨rfl, _, rfl, h⟩
  · have h := h.2 e
    refine w_aload (p' := 8) rfl rfl rfl rfl ?_
    refine w_iload (p' := 9) rfl rfl rfl rfl ?_
    refine v_callI (M' := 224) (p' := 12) (rest := []) (as := [(.inr (.inr (.inl (some x1)))), (.inl v3)]) rfl rfl rfl rfl rfl rfl rfl rfl rfl rfl rfl hx1.tag rfl h (fun r2 s1 h => ?_)
    refine w_const (p' := 14) rfl rfl rfl ?_
    refine w_icmp (t := 19) (e := 17) rfl rfl rfl (fun e => ?_) (fun e => ?_)
    · have h := h.1 e
      refine w_iinc (p' := 22) (ls' := [some (.inr (.inr (.inl (some x1)))), none, some (.inl v2), some (.inl (v3 + 1))]) rfl rfl rfl (Nat.le_of_ble_eq_true rfl) h.1 rfl ?_
      have h := h.2
      refine w_goto (p' := 2) rfl rfl ?_
      exact w_cut (q_le_s (q_le_n (q_le_s (q_le_s q_le_z)))) h
    · have h := h.2 e
      refine w_iload (p' := 18) rfl rfl rfl rfl ?_
      exact w_iret rfl trivial ⟨rfl, _, rfl, h⟩
set_option maxRecDepth 20000 in
theorem sg_T_cutBlanks {X : Nat × (Nat → Int32)} {x1 : Nat} {x2 : Int} {x3 : Int} {s : qM} {K : Int → qM → Prop} {x1_N : Nat} (hx1 : q_isRow x1 x1_N) (h : L_T_cutBlanks_2 X x1 x2 x3 s K) : c_T_cutBlanks X x1 x2 x3 s K := by
  unfold c_T_cutBlanks
  refine w_iload (p' := 1) rfl rfl rfl rfl ?_
  refine w_istore (p' := 2) (ls' := [some (.inr (.inr (.inl (some x1)))), some (.inl x2), some (.inl x3), some (.inl x3)]) rfl rfl rfl (Nat.le_of_ble_eq_true rfl) rfl ?_
  exact w_cut (q_le_s (q_le_s (q_le_n (q_le_s q_le_z)))) h
set_option maxRecDepth 20000 in
theorem sg_T_cutBlanks_2 {X : Nat × (Nat → Int32)} {x1 : Nat} {v1 v3 : Int} {s : qM} {K : Int → qM → Prop} {x1_N : Nat} (hx1 : q_isRow x1 x1_N) (h : (((v3 ≤ v1) → K v1 s) ∧ (¬ (v3 ≤ v1) → (-2147483648 ≤ (v3 - 1) ∧ (v3 - 1) < 2147483648) ∧ c_Row_at X x1 (v3 - 1) s (fun r2 s1 => (((r2 = 32) → (-2147483648 ≤ (v3 + (-1)) ∧ (v3 + (-1)) < 2147483648) ∧ L_T_cutBlanks_2 X x1 v1 (v3 + (-1)) s1 K) ∧ (¬ (r2 = 32) → K v3 s1)))))) : L_T_cutBlanks_2 X x1 v1 v3 s K := by
  unfold L_T_cutBlanks_2
  refine w_iload (p' := 3) rfl rfl rfl rfl ?_
  refine w_iload (p' := 4) rfl rfl rfl rfl ?_
  refine w_icmp (t := 27) (e := 7) rfl rfl rfl (fun e => ?_) (fun e => ?_)
  · have h := h.1 e
    refine w_iload (p' := 28) rfl rfl rfl rfl ?_
    exact w_iret rfl trivial ⟨rfl, _, rfl, h⟩
  · have h := h.2 e
    refine w_aload (p' := 8) rfl rfl rfl rfl ?_
    refine w_iload (p' := 9) rfl rfl rfl rfl ?_
    refine w_const (p' := 10) rfl rfl rfl ?_
    refine w_sub (p' := 11) rfl rfl h.1 ?_
    have h := h.2
    refine v_callI (M' := 224) (p' := 14) (rest := []) (as := [(.inr (.inr (.inl (some x1)))), (.inl (v3 - 1))]) rfl rfl rfl rfl rfl rfl rfl rfl rfl rfl rfl hx1.tag rfl h (fun r2 s1 h => ?_)
    refine w_const (p' := 16) rfl rfl rfl ?_
    refine w_icmp (t := 21) (e := 19) rfl rfl rfl (fun e => ?_) (fun e => ?_)
    · have h := h.1 e
      refine w_iinc (p' := 24) (ls' := [some (.inr (.inr (.inl (some x1)))), some (.inl v1), none, some (.inl (v3 + (-1)))]) rfl rfl rfl (Nat.le_of_ble_eq_true rfl) h.1 rfl ?_
      have h := h.2
      refine w_goto (p' := 2) rfl rfl ?_
      exact w_cut (q_le_s (q_le_s (q_le_n (q_le_s q_le_z)))) h
    · have h := h.2 e
      refine w_iload (p' := 20) rfl rfl rfl rfl ?_
      exact w_iret rfl trivial ⟨rfl, _, rfl, h⟩
set_option maxRecDepth 20000 in
theorem sg_T_skipWord {X : Nat × (Nat → Int32)} {x1 : Nat} {x2 : Int} {x3 : Int} {s : qM} {K : Int → qM → Prop} {x1_N : Nat} (hx1 : q_isRow x1 x1_N) (h : L_T_skipWord_2 X x1 x3 x2 s K) : c_T_skipWord X x1 x2 x3 s K := by
  unfold c_T_skipWord
  refine w_iload (p' := 1) rfl rfl rfl rfl ?_
  refine w_istore (p' := 2) (ls' := [some (.inr (.inr (.inl (some x1)))), some (.inl x2), some (.inl x3), some (.inl x2)]) rfl rfl rfl (Nat.le_of_ble_eq_true rfl) rfl ?_
  exact w_cut (q_le_s (q_le_n (q_le_s (q_le_s q_le_z)))) h
set_option maxRecDepth 20000 in
theorem sg_T_skipWord_2 {X : Nat × (Nat → Int32)} {x1 : Nat} {v2 v3 : Int} {s : qM} {K : Int → qM → Prop} {x1_N : Nat} (hx1 : q_isRow x1 x1_N) (h : (((v2 ≤ v3) → K v2 s) ∧ (¬ (v2 ≤ v3) → c_Row_at X x1 v3 s (fun r2 s1 => c_T_isLetterOrDigit X r2 s1 (fun r4 s3 => (((r4 ≠ 0) → (-2147483648 ≤ (v3 + 1) ∧ (v3 + 1) < 2147483648) ∧ L_T_skipWord_2 X x1 v2 (v3 + 1) s3 K) ∧ (¬ (r4 ≠ 0) → K v3 s3))))))) : L_T_skipWord_2 X x1 v2 v3 s K := by
  unfold L_T_skipWord_2
  refine w_iload (p' := 3) rfl rfl rfl rfl ?_
  refine w_iload (p' := 4) rfl rfl rfl rfl ?_
  refine w_icmp (t := 26) (e := 7) rfl rfl rfl (fun e => ?_) (fun e => ?_)
  · have h := h.1 e
    refine w_iload (p' := 27) rfl rfl rfl rfl ?_
    exact w_iret rfl trivial ⟨rfl, _, rfl, h⟩
  · have h := h.2 e
    refine w_aload (p' := 8) rfl rfl rfl rfl ?_
    refine w_iload (p' := 9) rfl rfl rfl rfl ?_
    refine v_callI (M' := 224) (p' := 12) (rest := []) (as := [(.inr (.inr (.inl (some x1)))), (.inl v3)]) rfl rfl rfl rfl rfl rfl rfl rfl rfl rfl rfl hx1.tag rfl h (fun r2 s1 h => ?_)
    refine v_callI (M' := 36) (p' := 15) (rest := []) (as := [(.inl r2)]) rfl rfl rfl rfl rfl rfl rfl rfl rfl rfl rfl trivial rfl h (fun r4 s3 h => ?_)
    refine w_if (t := 20) (e := 18) rfl rfl rfl (fun e => ?_) (fun e => ?_)
    · have h := h.1 e
      refine w_iinc (p' := 23) (ls' := [some (.inr (.inr (.inl (some x1)))), none, some (.inl v2), some (.inl (v3 + 1))]) rfl rfl rfl (Nat.le_of_ble_eq_true rfl) h.1 rfl ?_
      have h := h.2
      refine w_goto (p' := 2) rfl rfl ?_
      exact w_cut (q_le_s (q_le_n (q_le_s (q_le_s q_le_z)))) h
    · have h := h.2 e
      refine w_iload (p' := 19) rfl rfl rfl rfl ?_
      exact w_iret rfl trivial ⟨rfl, _, rfl, h⟩
set_option maxRecDepth 20000 in
theorem sg_T_nameCode {X : Nat × (Nat → Int32)} {x1 : Nat} {x2 : Int} {x3 : Int} {s : qM} {K : Int → qM → Prop} {x1_N : Nat} (hx1 : q_isRow x1 x1_N) (h : (((x3 ≤ x2) → K 0 s) ∧ (¬ (x3 ≤ x2) → (-2147483648 ≤ (x3 - x2) ∧ (x3 - x2) < 2147483648) ∧ (((6 < (x3 - x2)) → K 0 s) ∧ (¬ (6 < (x3 - x2)) → c_T_skipWord X x1 x2 x3 s (fun r2 s1 => (((x3 ≤ r2) → L_T_nameCode_30 X x1 x3 0 x2 s1 K) ∧ (¬ (x3 ≤ r2) → K 0 s1)))))))) : c_T_nameCode X x1 x2 x3 s K := by
  unfold c_T_nameCode
  refine w_iload (p' := 1) rfl rfl rfl rfl ?_
  refine w_iload (p' := 2) rfl rfl rfl rfl ?_
  refine w_icmp (t := 23) (e := 5) rfl rfl rfl (fun e => ?_) (fun e => ?_)
  · have h := h.1 e
    refine w_lconst (p' := 24) rfl rfl rfl ?_
    exact w_lret rfl ⟨rfl, _, rfl, h⟩
  · have h := h.2 e
    refine w_iload (p' := 6) rfl rfl rfl rfl ?_
    refine w_iload (p' := 7) rfl rfl rfl rfl ?_
    refine w_sub (p' := 8) rfl rfl h.1 ?_
    have h := h.2
    refine w_const (p' := 10) rfl rfl rfl ?_
    refine w_icmp (t := 23) (e := 13) rfl rfl rfl (fun e => ?_) (fun e => ?_)
    · have h := h.1 e
      refine w_lconst (p' := 24) rfl rfl rfl ?_
      exact w_lret rfl ⟨rfl, _, rfl, h⟩
    · have h := h.2 e
      refine w_aload (p' := 14) rfl rfl rfl rfl ?_
      refine w_iload (p' := 15) rfl rfl rfl rfl ?_
      refine w_iload (p' := 16) rfl rfl rfl rfl ?_
      refine v_callI (M' := 41) (p' := 19) (rest := []) (as := [(.inr (.inr (.inl (some x1)))), (.inl x2), (.inl x3)]) rfl rfl rfl rfl rfl rfl rfl rfl rfl rfl rfl trivial rfl h (fun r2 s1 h => ?_)
      refine w_iload (p' := 20) rfl rfl rfl rfl ?_
      refine w_icmp (t := 25) (e := 23) rfl rfl rfl (fun e => ?_) (fun e => ?_)
      · have h := h.1 e
        refine w_lconst (p' := 26) rfl rfl rfl ?_
        refine w_lstore (p' := 27) (ls' := [some (.inr (.inr (.inl (some x1)))), some (.inl x2), some (.inl x3), some (.inr (.inl 0)), none, none]) rfl rfl rfl (Nat.le_of_ble_eq_true rfl) rfl ?_
        refine w_iload (p' := 28) rfl rfl rfl rfl ?_
        refine w_istore (p' := 30) (ls' := [some (.inr (.inr (.inl (some x1)))), some (.inl x2), some (.inl x3), some (.inr (.inl 0)), none, some (.inl x2)]) rfl rfl rfl (Nat.le_of_ble_eq_true rfl) rfl ?_
        exact w_cut (q_le_s (q_le_n (q_le_s (q_le_s (q_le_n (q_le_s q_le_z)))))) h
      · have h := h.2 e
        refine w_lconst (p' := 24) rfl rfl rfl ?_
        exact w_lret rfl ⟨rfl, _, rfl, h⟩
set_option maxRecDepth 20000 in
theorem sg_T_nameCode_30 {X : Nat × (Nat → Int32)} {x1 : Nat} {v2 v3 v5 : Int} {s : qM} {K : Int → qM → Prop} {x1_N : Nat} (hx1 : q_isRow x1 x1_N) (h : (((v2 ≤ v5) → K v3 s) ∧ (¬ (v2 ≤ v5) → (-9223372036854775808 ≤ (v3 * 128) ∧ (v3 * 128) < 9223372036854775808) ∧ c_Row_at X x1 v5 s (fun r2 s1 => (-9223372036854775808 ≤ ((v3 * 128) + r2) ∧ ((v3 * 128) + r2) < 9223372036854775808) ∧ (-2147483648 ≤ (v5 + 1) ∧ (v5 + 1) < 2147483648) ∧ L_T_nameCode_30 X x1 v2 ((v3 * 128) + r2) (v5 + 1) s1 K)))) : L_T_nameCode_30 X x1 v2 v3 v5 s K := by
  unfold L_T_nameCode_30
  refine w_iload (p' := 32) rfl rfl rfl rfl ?_
  refine w_iload (p' := 33) rfl rfl rfl rfl ?_
  refine w_icmp (t := 56) (e := 36) rfl rfl rfl (fun e => ?_) (fun e => ?_)
  · have h := h.1 e
    refine w_lload (p' := 57) rfl rfl rfl rfl ?_
    exact w_lret rfl ⟨rfl, _, rfl, h⟩
  · have h := h.2 e
    refine w_lload (p' := 37) rfl rfl rfl rfl ?_
    refine w_lconst (p' := 40) rfl rfl rfl ?_
    refine w_lmul (p' := 41) rfl rfl h.1 ?_
    have h := h.2
    refine w_aload (p' := 42) rfl rfl rfl rfl ?_
    refine w_iload (p' := 44) rfl rfl rfl rfl ?_
    refine v_callI (M' := 224) (p' := 47) (rest := [(.inr (.inl (v3 * 128)))]) (as := [(.inr (.inr (.inl (some x1)))), (.inl v5)]) rfl rfl rfl rfl rfl rfl rfl rfl rfl rfl rfl hx1.tag rfl h (fun r2 s1 h => ?_)
    refine w_i2l (p' := 48) rfl rfl ?_
    refine w_ladd (p' := 49) rfl rfl h.1 ?_
    have h := h.2
    refine w_lstore (p' := 50) (ls' := [some (.inr (.inr (.inl (some x1)))), none, some (.inl v2), some (.inr (.inl ((v3 * 128) + r2))), none, some (.inl v5)]) rfl rfl rfl (Nat.le_of_ble_eq_true rfl) rfl ?_
    refine w_iinc (p' := 53) (ls' := [some (.inr (.inr (.inl (some x1)))), none, some (.inl v2), some (.inr (.inl ((v3 * 128) + r2))), none, some (.inl (v5 + 1))]) rfl rfl rfl (Nat.le_of_ble_eq_true rfl) h.1 rfl ?_
    have h := h.2
    refine w_goto (p' := 30) rfl rfl ?_
    exact w_cut (q_le_s (q_le_n (q_le_s (q_le_s (q_le_n (q_le_s q_le_z)))))) h
set_option maxRecDepth 20000 in
theorem sg_T_anchorCode {X : Nat × (Nat → Int32)} {x1 : Nat} {x2 : Int} {x3 : Int} {s : qM} {K : Int → qM → Prop} {x1_N : Nat} (hx1 : q_isRow x1 x1_N) (h : L_T_anchorCode_8 X x1 x3 0 0 x2 s K) : c_T_anchorCode X x1 x2 x3 s K := by
  unfold c_T_anchorCode
  refine w_lconst (p' := 1) rfl rfl rfl ?_
  refine w_lstore (p' := 2) (ls' := [some (.inr (.inr (.inl (some x1)))), some (.inl x2), some (.inl x3), some (.inr (.inl 0)), none, none, none]) rfl rfl rfl (Nat.le_of_ble_eq_true rfl) rfl ?_
  refine w_const (p' := 3) rfl rfl rfl ?_
  refine w_istore (p' := 5) (ls' := [some (.inr (.inr (.inl (some x1)))), some (.inl x2), some (.inl x3), some (.inr (.inl 0)), none, some (.inl 0), none]) rfl rfl rfl (Nat.le_of_ble_eq_true rfl) rfl ?_
  refine w_iload (p' := 6) rfl rfl rfl rfl ?_
  refine w_istore (p' := 8) (ls' := [some (.inr (.inr (.inl (some x1)))), some (.inl x2), some (.inl x3), some (.inr (.inl 0)), none, some (.inl 0), some (.inl x2)]) rfl rfl rfl (Nat.le_of_ble_eq_true rfl) rfl ?_
  exact w_cut (q_le_s (q_le_n (q_le_s (q_le_s (q_le_n (q_le_s (q_le_s q_le_z))))))) h
set_option maxRecDepth 20000 in
theorem sg_T_anchorCode_8 {X : Nat × (Nat → Int32)} {x1 : Nat} {v2 v3 v5 v6 : Int} {s : qM} {K : Int → qM → Prop} {x1_N : Nat} (hx1 : q_isRow x1 x1_N) (h : (((v2 ≤ v6) → (((v5 ≠ 0) → K v3 s) ∧ (¬ (v5 ≠ 0) → K 120 s))) ∧ (¬ (v2 ≤ v6) → (((6 ≤ v5) → (((v5 ≠ 0) → K v3 s) ∧ (¬ (v5 ≠ 0) → K 120 s))) ∧ (¬ (6 ≤ v5) → c_Row_at X x1 v6 s (fun r2 s1 => c_T_isLetterOrDigit X r2 s1 (fun r4 s3 => (((r4 = 0) → (-2147483648 ≤ (v6 + 1) ∧ (v6 + 1) < 2147483648) ∧ L_T_anchorCode_8 X x1 v2 v3 v5 (v6 + 1) s3 K) ∧ (¬ (r4 = 0) → (-9223372036854775808 ≤ (v3 * 128) ∧ (v3 * 128) < 9223372036854775808) ∧ c_Row_at X x1 v6 s3 (fun r6 s5 => (-9223372036854775808 ≤ ((v3 * 128) + r6) ∧ ((v3 * 128) + r6) < 9223372036854775808) ∧ (-2147483648 ≤ (v5 + 1) ∧ (v5 + 1) < 2147483648) ∧ (-2147483648 ≤ (v6 + 1) ∧ (v6 + 1) < 2147483648) ∧ L_T_anchorCode_8 X x1 v2 ((v3 * 128) + r6) (v5 + 1) (v6 + 1) s5 K)))))))))) : L_T_anchorCode_8 X x1 v2 v3 v5 v6 s K := by
  unfold L_T_anchorCode_8
  refine w_iload (p' := 10) rfl rfl rfl rfl ?_
  refine w_iload (p' := 11) rfl rfl rfl rfl ?_
  refine w_icmp (t := 56) (e := 14) rfl rfl rfl (fun e => ?_) (fun e => ?_)
  · have h := h.1 e
    refine w_iload (p' := 58) rfl rfl rfl rfl ?_
    refine w_if (t := 67) (e := 61) rfl rfl rfl (fun e => ?_) (fun e => ?_)
    · have h := h.1 e
      refine w_lload (p' := 68) rfl rfl rfl rfl ?_
      exact w_lret rfl ⟨rfl, _, rfl, h⟩
    · have h := h.2 e
      refine w_lconst (p' := 64) rfl rfl rfl ?_
      refine w_goto (p' := 68) rfl rfl ?_
      exact w_lret rfl ⟨rfl, _, rfl, h⟩
  · have h := h.2 e
    refine w_iload (p' := 16) rfl rfl rfl rfl ?_
    refine w_const (p' := 18) rfl rfl rfl ?_
    refine w_icmp (t := 56) (e := 21) rfl rfl rfl (fun e => ?_) (fun e => ?_)
    · have h := h.1 e
      refine w_iload (p' := 58) rfl rfl rfl rfl ?_
      refine w_if (t := 67) (e := 61) rfl rfl rfl (fun e => ?_) (fun e => ?_)
      · have h := h.1 e
        refine w_lload (p' := 68) rfl rfl rfl rfl ?_
        exact w_lret rfl ⟨rfl, _, rfl, h⟩
      · have h := h.2 e
        refine w_lconst (p' := 64) rfl rfl rfl ?_
        refine w_goto (p' := 68) rfl rfl ?_
        exact w_lret rfl ⟨rfl, _, rfl, h⟩
    · have h := h.2 e
      refine w_aload (p' := 22) rfl rfl rfl rfl ?_
      refine w_iload (p' := 24) rfl rfl rfl rfl ?_
      refine v_callI (M' := 224) (p' := 27) (rest := []) (as := [(.inr (.inr (.inl (some x1)))), (.inl v6)]) rfl rfl rfl rfl rfl rfl rfl rfl rfl rfl rfl hx1.tag rfl h (fun r2 s1 h => ?_)
      refine v_callI (M' := 36) (p' := 30) (rest := []) (as := [(.inl r2)]) rfl rfl rfl rfl rfl rfl rfl rfl rfl rfl rfl trivial rfl h (fun r4 s3 h => ?_)
      refine w_if (t := 50) (e := 33) rfl rfl rfl (fun e => ?_) (fun e => ?_)
      · have h := h.1 e
        refine w_iinc (p' := 53) (ls' := [some (.inr (.inr (.inl (some x1)))), none, some (.inl v2), some (.inr (.inl v3)), none, some (.inl v5), some (.inl (v6 + 1))]) rfl rfl rfl (Nat.le_of_ble_eq_true rfl) h.1 rfl ?_
        have h := h.2
        refine w_goto (p' := 8) rfl rfl ?_
        exact w_cut (q_le_s (q_le_n (q_le_s (q_le_s (q_le_n (q_le_s (q_le_s q_le_z))))))) h
      · have h := h.2 e
        refine w_lload (p' := 34) rfl rfl rfl rfl ?_
        refine w_lconst (p' := 37) rfl rfl rfl ?_
        refine w_lmul (p' := 38) rfl rfl h.1 ?_
        have h := h.2
        refine w_aload (p' := 39) rfl rfl rfl rfl ?_
        refine w_iload (p' := 41) rfl rfl rfl rfl ?_
        refine v_callI (M' := 224) (p' := 44) (rest := [(.inr (.inl (v3 * 128)))]) (as := [(.inr (.inr (.inl (some x1)))), (.inl v6)]) rfl rfl rfl rfl rfl rfl rfl rfl rfl rfl rfl hx1.tag rfl h (fun r6 s5 h => ?_)
        refine w_i2l (p' := 45) rfl rfl ?_
        refine w_ladd (p' := 46) rfl rfl h.1 ?_
        have h := h.2
        refine w_lstore (p' := 47) (ls' := [some (.inr (.inr (.inl (some x1)))), none, some (.inl v2), some (.inr (.inl ((v3 * 128) + r6))), none, some (.inl v5), some (.inl v6)]) rfl rfl rfl (Nat.le_of_ble_eq_true rfl) rfl ?_
        refine w_iinc (p' := 50) (ls' := [some (.inr (.inr (.inl (some x1)))), none, some (.inl v2), some (.inr (.inl ((v3 * 128) + r6))), none, some (.inl (v5 + 1)), some (.inl v6)]) rfl rfl rfl (Nat.le_of_ble_eq_true rfl) h.1 rfl ?_
        have h := h.2
        refine w_iinc (p' := 53) (ls' := [some (.inr (.inr (.inl (some x1)))), none, some (.inl v2), some (.inr (.inl ((v3 * 128) + r6))), none, some (.inl (v5 + 1)), some (.inl (v6 + 1))]) rfl rfl rfl (Nat.le_of_ble_eq_true rfl) h.1 rfl ?_
        have h := h.2
        refine w_goto (p' := 8) rfl rfl ?_
        exact w_cut (q_le_s (q_le_n (q_le_s (q_le_s (q_le_n (q_le_s (q_le_s q_le_z))))))) h
set_option maxRecDepth 20000 in
theorem sg_Rd_start {X : Nat × (Nat → Int32)}  {s : qM} {K : qM → Prop} (h : c_Row_size X 1 s (fun r2 s1 => c_Lines_many X 7 s1 (fun r4 s3 => c_Blocks_start X r2 r4 s3 (fun s5 => c_Blocks_add X 0 (-1) 0 s5 (fun r7 s6 => (∀ s8 : qM, s8 = q_up s6 43 8 0 → K s8)))))) : c_Rd_start X  s K := by
  unfold c_Rd_start
  refine w_aload (p' := 1) rfl rfl rfl rfl ?_
  refine w_getR (p' := 4) rfl rfl rfl rfl rfl ?_
  refine w_aload (p' := 5) rfl rfl rfl rfl ?_
  refine w_getR (p' := 8) rfl rfl rfl rfl rfl ?_
  refine v_callI (M' := 223) (p' := 11) (rest := [(.inr (.inr (.inl (some 12))))]) (as := [(.inr (.inr (.inl (some 1))))]) rfl rfl rfl rfl rfl rfl rfl rfl rfl rfl rfl rfl rfl h (fun r2 s1 h => ?_)
  refine w_aload (p' := 12) rfl rfl rfl rfl ?_
  refine w_getR (p' := 15) rfl rfl rfl rfl rfl ?_
  refine v_callI (M' := 192) (p' := 18) (rest := [(.inl r2), (.inr (.inr (.inl (some 12))))]) (as := [(.inr (.inr (.inl (some 7))))]) rfl rfl rfl rfl rfl rfl rfl rfl rfl rfl rfl rfl rfl h (fun r4 s3 h => ?_)
  refine v_callV (M' := 147) (p' := 21) (rest := []) (as := [(.inr (.inr (.inl (some 12)))), (.inl r2), (.inl r4)]) rfl rfl rfl rfl rfl rfl rfl rfl rfl rfl rfl rfl rfl h (fun s5 h => ?_)
  refine w_aload (p' := 22) rfl rfl rfl rfl ?_
  refine w_getR (p' := 25) rfl rfl rfl rfl rfl ?_
  refine w_const (p' := 26) rfl rfl rfl ?_
  refine w_const (p' := 27) rfl rfl rfl ?_
  refine w_const (p' := 28) rfl rfl rfl ?_
  refine v_callI (M' := 148) (p' := 31) (rest := []) (as := [(.inr (.inr (.inl (some 12)))), (.inl 0), (.inl (-1)), (.inl 0)]) rfl rfl rfl rfl rfl rfl rfl rfl rfl rfl rfl rfl rfl h (fun r7 s6 h => ?_)
  refine w_pop (p' := 32) rfl rfl rfl ?_
  refine w_aload (p' := 33) rfl rfl rfl rfl ?_
  refine w_const (p' := 34) rfl rfl rfl ?_
  refine v_putI (p' := 37) (j := 8) rfl rfl (by decide) rfl rfl ⟨by decide, by decide⟩ ?_
  intro s8 es8
  have h := h s8 es8
  exact w_vret rfl ⟨rfl, rfl, h⟩
set_option maxRecDepth 20000 in
theorem sg_Rd_read {X : Nat × (Nat → Int32)} {x1 : Int} {s : qM} {K : qM → Prop} (h : c_Lines_begin X 7 x1 s (fun r2 s1 => (∀ s3 : qM, s3 = q_up s1 43 3 r2 → c_Lines_end X 7 x1 s3 (fun r5 s4 => (∀ s6 : qM, s6 = q_up s4 43 4 r5 → (∀ s7 : qM, s7 = q_up s6 43 7 0 → c_Rd_goOn X  s7 (fun s8 => ((((s8 43 6) ≠ (-1)) → L_Rd_read_56 X x1 (-1) s8 K) ∧ (¬ ((s8 43 6) ≠ (-1)) → c_Blocks_openIn X (s8 43 5) s8 (fun r10 s9 => L_Rd_read_56 X x1 r10 s9 K)))))))))) : c_Rd_read X x1 s K := by
  unfold c_Rd_read
  refine w_aload (p' := 1) rfl rfl rfl rfl ?_
  refine w_aload (p' := 2) rfl rfl rfl rfl ?_
  refine w_getR (p' := 5) rfl rfl rfl rfl rfl ?_
  refine w_iload (p' := 6) rfl rfl rfl rfl ?_
  refine v_callI (M' := 193) (p' := 9) (rest := [(.inr (.inr (.inl (some 43))))]) (as := [(.inr (.inr (.inl (some 7)))), (.inl x1)]) rfl rfl rfl rfl rfl rfl rfl rfl rfl rfl rfl rfl rfl h (fun r2 s1 h => ?_)
  refine v_putI (p' := 12) (j := 3) rfl rfl (by decide) rfl rfl trivial ?_
  intro s3 es3
  have h := h s3 es3
  refine w_aload (p' := 13) rfl rfl rfl rfl ?_
  refine w_aload (p' := 14) rfl rfl rfl rfl ?_
  refine w_getR (p' := 17) rfl rfl rfl rfl rfl ?_
  refine w_iload (p' := 18) rfl rfl rfl rfl ?_
  refine v_callI (M' := 194) (p' := 21) (rest := [(.inr (.inr (.inl (some 43))))]) (as := [(.inr (.inr (.inl (some 7)))), (.inl x1)]) rfl rfl rfl rfl rfl rfl rfl rfl rfl rfl rfl rfl rfl h (fun r5 s4 h => ?_)
  refine v_putI (p' := 24) (j := 4) rfl rfl (by decide) rfl rfl trivial ?_
  intro s6 es6
  have h := h s6 es6
  refine w_aload (p' := 25) rfl rfl rfl rfl ?_
  refine w_const (p' := 26) rfl rfl rfl ?_
  refine v_putI (p' := 29) (j := 7) rfl rfl (by decide) rfl rfl ⟨by decide, by decide⟩ ?_
  intro s7 es7
  have h := h s7 es7
  refine w_aload (p' := 30) rfl rfl rfl rfl ?_
  refine v_callV (M' := 130) (p' := 33) (rest := []) (as := [(.inr (.inr (.inl (some 43))))]) rfl rfl rfl rfl rfl rfl rfl rfl rfl rfl rfl rfl rfl h (fun s8 h => ?_)
  refine w_aload (p' := 34) rfl rfl rfl rfl ?_
  refine w_getI (p' := 37) (j := 6) rfl rfl (by decide) rfl rfl ?_
  refine w_const (p' := 38) rfl rfl rfl ?_
  refine w_icmp (t := 55) (e := 41) rfl rfl rfl (fun e => ?_) (fun e => ?_)
  · have h := h.1 e
    refine w_const (p' := 56) rfl rfl rfl ?_
    exact w_cut (q_le_s (q_le_s (q_le_n (q_le_n (q_le_n q_le_z))))) h
  · have h := h.2 e
    refine w_aload (p' := 42) rfl rfl rfl rfl ?_
    refine w_getR (p' := 45) rfl rfl rfl rfl rfl ?_
    refine w_aload (p' := 46) rfl rfl rfl rfl ?_
    refine w_getI (p' := 49) (j := 5) rfl rfl (by decide) rfl rfl ?_
    refine v_callI (M' := 150) (p' := 52) (rest := []) (as := [(.inr (.inr (.inl (some 12)))), (.inl (s8 43 5))]) rfl rfl rfl rfl rfl rfl rfl rfl rfl rfl rfl rfl rfl h (fun r10 s9 h => ?_)
    refine w_goto (p' := 56) rfl rfl ?_
    exact w_cut (q_le_s (q_le_s (q_le_n (q_le_n (q_le_n q_le_z))))) h
set_option maxRecDepth 20000 in
theorem sg_Rd_read_56 {X : Nat × (Nat → Int32)}  {v1 t0 : Int} {s : qM} {K : qM → Prop} (h : c_Blocks_kindOf X t0 s (fun r2 s1 => (((r2 ≠ 5) → c_Rd_putContainersIn X  s1 (fun s3 => c_T_skipBlanks X 1 (s3 43 3) (s3 43 4) s3 (fun r5 s4 => (((r5 ≠ (s4 43 4)) → c_Rd_readLeaf X v1 s4 (fun r7 s6 => L_Rd_read_129 X v1 0 r7 s6 K)) ∧ (¬ (r5 ≠ (s4 43 4)) → c_Rd_readBlank X  s4 (fun r9 s8 => L_Rd_read_129 X v1 1 r9 s8 K)))))) ∧ (¬ (r2 ≠ 5) → c_Rd_readInFence X t0 s1 (fun r11 s10 => c_Blocks_kindOf X r11 s10 (fun r13 s12 => (((r13 = 4) → c_Rd_ownRest X v1 r11 s12 (fun s14 => (∀ s15 : qM, s15 = q_up s14 43 8 0 → K s15))) ∧ (¬ (r13 = 4) → c_Blocks_beginContent X v1 (s12 43 3) s12 (fun s16 => c_Rd_ownRest X v1 r11 s16 (fun s17 => (∀ s18 : qM, s18 = q_up s17 43 8 0 → K s18))))))))))) : L_Rd_read_56 X v1 t0 s K := by
  unfold L_Rd_read_56
  refine w_istore (p' := 57) (ls' := [some (.inr (.inr (.inl (some 43)))), some (.inl v1), some (.inl t0), none, none]) rfl rfl rfl (Nat.le_of_ble_eq_true rfl) rfl ?_
  refine w_const (p' := 58) rfl rfl rfl ?_
  refine w_istore (p' := 59) (ls' := [some (.inr (.inr (.inl (some 43)))), some (.inl v1), some (.inl t0), some (.inl 0), none]) rfl rfl rfl (Nat.le_of_ble_eq_true rfl) rfl ?_
  refine w_aload (p' := 60) rfl rfl rfl rfl ?_
  refine w_getR (p' := 63) rfl rfl rfl rfl rfl ?_
  refine w_iload (p' := 64) rfl rfl rfl rfl ?_
  refine v_callI (M' := 153) (p' := 67) (rest := []) (as := [(.inr (.inr (.inl (some 12)))), (.inl t0)]) rfl rfl rfl rfl rfl rfl rfl rfl rfl rfl rfl rfl rfl h (fun r2 s1 h => ?_)
  refine w_const (p' := 68) rfl rfl rfl ?_
  refine w_icmp (t := 81) (e := 71) rfl rfl rfl (fun e => ?_) (fun e => ?_)
  · have h := h.1 e
    refine w_aload (p' := 82) rfl rfl rfl rfl ?_
    refine v_callV (M' := 133) (p' := 85) (rest := []) (as := [(.inr (.inr (.inl (some 43))))]) rfl rfl rfl rfl rfl rfl rfl rfl rfl rfl rfl rfl rfl h (fun s3 h => ?_)
    refine w_aload (p' := 86) rfl rfl rfl rfl ?_
    refine w_getR (p' := 89) rfl rfl rfl rfl rfl ?_
    refine w_aload (p' := 90) rfl rfl rfl rfl ?_
    refine w_getI (p' := 93) (j := 3) rfl rfl (by decide) rfl rfl ?_
    refine w_aload (p' := 94) rfl rfl rfl rfl ?_
    refine w_getI (p' := 97) (j := 4) rfl rfl (by decide) rfl rfl ?_
    refine v_callI (M' := 39) (p' := 100) (rest := []) (as := [(.inr (.inr (.inl (some 1)))), (.inl (s3 43 3)), (.inl (s3 43 4))]) rfl rfl rfl rfl rfl rfl rfl rfl rfl rfl rfl trivial rfl h (fun r5 s4 h => ?_)
    refine w_aload (p' := 101) rfl rfl rfl rfl ?_
    refine w_getI (p' := 104) (j := 4) rfl rfl (by decide) rfl rfl ?_
    refine w_icmp (t := 111) (e := 107) rfl rfl rfl (fun e => ?_) (fun e => ?_)
    · have h := h.1 e
      refine w_const (p' := 112) rfl rfl rfl ?_
      refine w_istore (p' := 113) (ls' := [some (.inr (.inr (.inl (some 43)))), some (.inl v1), some (.inl t0), some (.inl 0), none]) rfl rfl rfl (Nat.le_of_ble_eq_true rfl) rfl ?_
      refine w_iload (p' := 114) rfl rfl rfl rfl ?_
      refine w_if (t := 124) (e := 117) rfl rfl rfl (fun e => ?_) (fun e => absurd (show (0 : Int) = 0 by decide) e)
      refine w_aload (p' := 125) rfl rfl rfl rfl ?_
      refine w_iload (p' := 126) rfl rfl rfl rfl ?_
      refine v_callI (M' := 137) (p' := 129) (rest := []) (as := [(.inr (.inr (.inl (some 43)))), (.inl v1)]) rfl rfl rfl rfl rfl rfl rfl rfl rfl rfl rfl rfl rfl h (fun r7 s6 h => ?_)
      exact w_cut (q_le_s (q_le_s (q_le_n (q_le_s (q_le_n q_le_z))))) h
    · have h := h.2 e
      refine w_const (p' := 108) rfl rfl rfl ?_
      refine w_goto (p' := 112) rfl rfl ?_
      refine w_istore (p' := 113) (ls' := [some (.inr (.inr (.inl (some 43)))), some (.inl v1), some (.inl t0), some (.inl 1), none]) rfl rfl rfl (Nat.le_of_ble_eq_true rfl) rfl ?_
      refine w_iload (p' := 114) rfl rfl rfl rfl ?_
      refine w_if (t := 124) (e := 117) rfl rfl rfl (fun e => absurd e (show ¬ ((1 : Int) = 0) by decide)) (fun e => ?_)
      refine w_aload (p' := 118) rfl rfl rfl rfl ?_
      refine v_callI (M' := 136) (p' := 121) (rest := []) (as := [(.inr (.inr (.inl (some 43))))]) rfl rfl rfl rfl rfl rfl rfl rfl rfl rfl rfl rfl rfl h (fun r9 s8 h => ?_)
      refine w_goto (p' := 129) rfl rfl ?_
      exact w_cut (q_le_s (q_le_s (q_le_n (q_le_s (q_le_n q_le_z))))) h
  · have h := h.2 e
    refine w_aload (p' := 72) rfl rfl rfl rfl ?_
    refine w_iload (p' := 73) rfl rfl rfl rfl ?_
    refine v_callI (M' := 132) (p' := 76) (rest := []) (as := [(.inr (.inr (.inl (some 43)))), (.inl t0)]) rfl rfl rfl rfl rfl rfl rfl rfl rfl rfl rfl rfl rfl h (fun r11 s10 h => ?_)
    refine w_istore (p' := 78) (ls' := [some (.inr (.inr (.inl (some 43)))), some (.inl v1), some (.inl t0), some (.inl 0), some (.inl r11)]) rfl rfl rfl (Nat.le_of_ble_eq_true rfl) rfl ?_
    refine w_goto (p' := 148) rfl rfl ?_
    refine w_aload (p' := 149) rfl rfl rfl rfl ?_
    refine w_getR (p' := 152) rfl rfl rfl rfl rfl ?_
    refine w_iload (p' := 154) rfl rfl rfl rfl ?_
    refine v_callI (M' := 153) (p' := 157) (rest := []) (as := [(.inr (.inr (.inl (some 12)))), (.inl r11)]) rfl rfl rfl rfl rfl rfl rfl rfl rfl rfl rfl rfl rfl h (fun r13 s12 h => ?_)
    refine w_const (p' := 158) rfl rfl rfl ?_
    refine w_icmp (t := 173) (e := 161) rfl rfl rfl (fun e => ?_) (fun e => ?_)
    · have h := h.1 e
      refine w_aload (p' := 174) rfl rfl rfl rfl ?_
      refine w_iload (p' := 175) rfl rfl rfl rfl ?_
      refine w_iload (p' := 177) rfl rfl rfl rfl ?_
      refine v_callV (M' := 145) (p' := 180) (rest := []) (as := [(.inr (.inr (.inl (some 43)))), (.inl v1), (.inl r11)]) rfl rfl rfl rfl rfl rfl rfl rfl rfl rfl rfl rfl rfl h (fun s14 h => ?_)
      refine w_aload (p' := 181) rfl rfl rfl rfl ?_
      refine w_iload (p' := 182) rfl rfl rfl rfl ?_
      refine v_putI (p' := 185) (j := 8) rfl rfl (by decide) rfl rfl ⟨by decide, by decide⟩ ?_
      intro s15 es15
      have h := h s15 es15
      exact w_vret rfl ⟨rfl, rfl, h⟩
    · have h := h.2 e
      refine w_aload (p' := 162) rfl rfl rfl rfl ?_
      refine w_getR (p' := 165) rfl rfl rfl rfl rfl ?_
      refine w_iload (p' := 166) rfl rfl rfl rfl ?_
      refine w_aload (p' := 167) rfl rfl rfl rfl ?_
      refine w_getI (p' := 170) (j := 3) rfl rfl (by decide) rfl rfl ?_
      refine v_callV (M' := 165) (p' := 173) (rest := []) (as := [(.inr (.inr (.inl (some 12)))), (.inl v1), (.inl (s12 43 3))]) rfl rfl rfl rfl rfl rfl rfl rfl rfl rfl rfl rfl rfl h (fun s16 h => ?_)
      refine w_aload (p' := 174) rfl rfl rfl rfl ?_
      refine w_iload (p' := 175) rfl rfl rfl rfl ?_
      refine w_iload (p' := 177) rfl rfl rfl rfl ?_
      refine v_callV (M' := 145) (p' := 180) (rest := []) (as := [(.inr (.inr (.inl (some 43)))), (.inl v1), (.inl r11)]) rfl rfl rfl rfl rfl rfl rfl rfl rfl rfl rfl rfl rfl h (fun s17 h => ?_)
      refine w_aload (p' := 181) rfl rfl rfl rfl ?_
      refine w_iload (p' := 182) rfl rfl rfl rfl ?_
      refine v_putI (p' := 185) (j := 8) rfl rfl (by decide) rfl rfl ⟨by decide, by decide⟩ ?_
      intro s18 es18
      have h := h s18 es18
      exact w_vret rfl ⟨rfl, rfl, h⟩
set_option maxRecDepth 20000 in
theorem sg_Rd_read_129 {X : Nat × (Nat → Int32)}  {v1 v3 t0 : Int} {s : qM} {K : qM → Prop} (h : (((v3 = 0) → c_Blocks_kindOf X t0 s (fun r2 s1 => (((r2 = 4) → c_Rd_ownRest X v1 t0 s1 (fun s3 => (∀ s4 : qM, s4 = q_up s3 43 8 0 → K s4))) ∧ (¬ (r2 = 4) → c_Blocks_beginContent X v1 (s1 43 3) s1 (fun s5 => c_Rd_ownRest X v1 t0 s5 (fun s6 => (∀ s7 : qM, s7 = q_up s6 43 8 0 → K s7))))))) ∧ (¬ (v3 = 0) → ((((s 43 7) ≠ 0) → c_Blocks_kindOf X t0 s (fun r9 s8 => (((r9 = 4) → c_Rd_ownRest X v1 t0 s8 (fun s10 => (∀ s11 : qM, s11 = q_up s10 43 8 0 → K s11))) ∧ (¬ (r9 = 4) → c_Blocks_beginContent X v1 (s8 43 3) s8 (fun s12 => c_Rd_ownRest X v1 t0 s12 (fun s13 => (∀ s14 : qM, s14 = q_up s13 43 8 0 → K s14))))))) ∧ (¬ ((s 43 7) ≠ 0) → c_Blocks_kindOf X t0 s (fun r16 s15 => (((r16 = 4) → c_Rd_ownRest X v1 t0 s15 (fun s17 => (∀ s18 : qM, s18 = q_up s17 43 8 1 → K s18))) ∧ (¬ (r16 = 4) → c_Blocks_beginContent X v1 (s15 43 3) s15 (fun s19 => c_Rd_ownRest X v1 t0 s19 (fun s20 => (∀ s21 : qM, s21 = q_up s20 43 8 1 → K s21))))))))))) : L_Rd_read_129 X v1 v3 t0 s K := by
  unfold L_Rd_read_129
  refine w_istore (p' := 131) (ls' := [some (.inr (.inr (.inl (some 43)))), some (.inl v1), none, some (.inl v3), some (.inl t0)]) rfl rfl rfl (Nat.le_of_ble_eq_true rfl) rfl ?_
  refine w_iload (p' := 132) rfl rfl rfl rfl ?_
  refine w_if (t := 146) (e := 135) rfl rfl rfl (fun e => ?_) (fun e => ?_)
  · have h := h.1 e
    refine w_const (p' := 147) rfl rfl rfl ?_
    refine w_istore (p' := 148) (ls' := [some (.inr (.inr (.inl (some 43)))), some (.inl v1), none, some (.inl 0), some (.inl t0)]) rfl rfl rfl (Nat.le_of_ble_eq_true rfl) rfl ?_
    refine w_aload (p' := 149) rfl rfl rfl rfl ?_
    refine w_getR (p' := 152) rfl rfl rfl rfl rfl ?_
    refine w_iload (p' := 154) rfl rfl rfl rfl ?_
    refine v_callI (M' := 153) (p' := 157) (rest := []) (as := [(.inr (.inr (.inl (some 12)))), (.inl t0)]) rfl rfl rfl rfl rfl rfl rfl rfl rfl rfl rfl rfl rfl h (fun r2 s1 h => ?_)
    refine w_const (p' := 158) rfl rfl rfl ?_
    refine w_icmp (t := 173) (e := 161) rfl rfl rfl (fun e => ?_) (fun e => ?_)
    · have h := h.1 e
      refine w_aload (p' := 174) rfl rfl rfl rfl ?_
      refine w_iload (p' := 175) rfl rfl rfl rfl ?_
      refine w_iload (p' := 177) rfl rfl rfl rfl ?_
      refine v_callV (M' := 145) (p' := 180) (rest := []) (as := [(.inr (.inr (.inl (some 43)))), (.inl v1), (.inl t0)]) rfl rfl rfl rfl rfl rfl rfl rfl rfl rfl rfl rfl rfl h (fun s3 h => ?_)
      refine w_aload (p' := 181) rfl rfl rfl rfl ?_
      refine w_iload (p' := 182) rfl rfl rfl rfl ?_
      refine v_putI (p' := 185) (j := 8) rfl rfl (by decide) rfl rfl ⟨by decide, by decide⟩ ?_
      intro s4 es4
      have h := h s4 es4
      exact w_vret rfl ⟨rfl, rfl, h⟩
    · have h := h.2 e
      refine w_aload (p' := 162) rfl rfl rfl rfl ?_
      refine w_getR (p' := 165) rfl rfl rfl rfl rfl ?_
      refine w_iload (p' := 166) rfl rfl rfl rfl ?_
      refine w_aload (p' := 167) rfl rfl rfl rfl ?_
      refine w_getI (p' := 170) (j := 3) rfl rfl (by decide) rfl rfl ?_
      refine v_callV (M' := 165) (p' := 173) (rest := []) (as := [(.inr (.inr (.inl (some 12)))), (.inl v1), (.inl (s1 43 3))]) rfl rfl rfl rfl rfl rfl rfl rfl rfl rfl rfl rfl rfl h (fun s5 h => ?_)
      refine w_aload (p' := 174) rfl rfl rfl rfl ?_
      refine w_iload (p' := 175) rfl rfl rfl rfl ?_
      refine w_iload (p' := 177) rfl rfl rfl rfl ?_
      refine v_callV (M' := 145) (p' := 180) (rest := []) (as := [(.inr (.inr (.inl (some 43)))), (.inl v1), (.inl t0)]) rfl rfl rfl rfl rfl rfl rfl rfl rfl rfl rfl rfl rfl h (fun s6 h => ?_)
      refine w_aload (p' := 181) rfl rfl rfl rfl ?_
      refine w_iload (p' := 182) rfl rfl rfl rfl ?_
      refine v_putI (p' := 185) (j := 8) rfl rfl (by decide) rfl rfl ⟨by decide, by decide⟩ ?_
      intro s7 es7
      have h := h s7 es7
      exact w_vret rfl ⟨rfl, rfl, h⟩
  · have h := h.2 e
    refine w_aload (p' := 136) rfl rfl rfl rfl ?_
    refine w_getI (p' := 139) (j := 7) rfl rfl (by decide) rfl rfl ?_
    refine w_if (t := 146) (e := 142) rfl rfl rfl (fun e => ?_) (fun e => ?_)
    · have h := h.1 e
      refine w_const (p' := 147) rfl rfl rfl ?_
      refine w_istore (p' := 148) (ls' := [some (.inr (.inr (.inl (some 43)))), some (.inl v1), none, some (.inl 0), some (.inl t0)]) rfl rfl rfl (Nat.le_of_ble_eq_true rfl) rfl ?_
      refine w_aload (p' := 149) rfl rfl rfl rfl ?_
      refine w_getR (p' := 152) rfl rfl rfl rfl rfl ?_
      refine w_iload (p' := 154) rfl rfl rfl rfl ?_
      refine v_callI (M' := 153) (p' := 157) (rest := []) (as := [(.inr (.inr (.inl (some 12)))), (.inl t0)]) rfl rfl rfl rfl rfl rfl rfl rfl rfl rfl rfl rfl rfl h (fun r9 s8 h => ?_)
      refine w_const (p' := 158) rfl rfl rfl ?_
      refine w_icmp (t := 173) (e := 161) rfl rfl rfl (fun e => ?_) (fun e => ?_)
      · have h := h.1 e
        refine w_aload (p' := 174) rfl rfl rfl rfl ?_
        refine w_iload (p' := 175) rfl rfl rfl rfl ?_
        refine w_iload (p' := 177) rfl rfl rfl rfl ?_
        refine v_callV (M' := 145) (p' := 180) (rest := []) (as := [(.inr (.inr (.inl (some 43)))), (.inl v1), (.inl t0)]) rfl rfl rfl rfl rfl rfl rfl rfl rfl rfl rfl rfl rfl h (fun s10 h => ?_)
        refine w_aload (p' := 181) rfl rfl rfl rfl ?_
        refine w_iload (p' := 182) rfl rfl rfl rfl ?_
        refine v_putI (p' := 185) (j := 8) rfl rfl (by decide) rfl rfl ⟨by decide, by decide⟩ ?_
        intro s11 es11
        have h := h s11 es11
        exact w_vret rfl ⟨rfl, rfl, h⟩
      · have h := h.2 e
        refine w_aload (p' := 162) rfl rfl rfl rfl ?_
        refine w_getR (p' := 165) rfl rfl rfl rfl rfl ?_
        refine w_iload (p' := 166) rfl rfl rfl rfl ?_
        refine w_aload (p' := 167) rfl rfl rfl rfl ?_
        refine w_getI (p' := 170) (j := 3) rfl rfl (by decide) rfl rfl ?_
        refine v_callV (M' := 165) (p' := 173) (rest := []) (as := [(.inr (.inr (.inl (some 12)))), (.inl v1), (.inl (s8 43 3))]) rfl rfl rfl rfl rfl rfl rfl rfl rfl rfl rfl rfl rfl h (fun s12 h => ?_)
        refine w_aload (p' := 174) rfl rfl rfl rfl ?_
        refine w_iload (p' := 175) rfl rfl rfl rfl ?_
        refine w_iload (p' := 177) rfl rfl rfl rfl ?_
        refine v_callV (M' := 145) (p' := 180) (rest := []) (as := [(.inr (.inr (.inl (some 43)))), (.inl v1), (.inl t0)]) rfl rfl rfl rfl rfl rfl rfl rfl rfl rfl rfl rfl rfl h (fun s13 h => ?_)
        refine w_aload (p' := 181) rfl rfl rfl rfl ?_
        refine w_iload (p' := 182) rfl rfl rfl rfl ?_
        refine v_putI (p' := 185) (j := 8) rfl rfl (by decide) rfl rfl ⟨by decide, by decide⟩ ?_
        intro s14 es14
        have h := h s14 es14
        exact w_vret rfl ⟨rfl, rfl, h⟩
    · have h := h.2 e
      refine w_const (p' := 143) rfl rfl rfl ?_
      refine w_goto (p' := 147) rfl rfl ?_
      refine w_istore (p' := 148) (ls' := [some (.inr (.inr (.inl (some 43)))), some (.inl v1), none, some (.inl 1), some (.inl t0)]) rfl rfl rfl (Nat.le_of_ble_eq_true rfl) rfl ?_
      refine w_aload (p' := 149) rfl rfl rfl rfl ?_
      refine w_getR (p' := 152) rfl rfl rfl rfl rfl ?_
      refine w_iload (p' := 154) rfl rfl rfl rfl ?_
      refine v_callI (M' := 153) (p' := 157) (rest := []) (as := [(.inr (.inr (.inl (some 12)))), (.inl t0)]) rfl rfl rfl rfl rfl rfl rfl rfl rfl rfl rfl rfl rfl h (fun r16 s15 h => ?_)
      refine w_const (p' := 158) rfl rfl rfl ?_
      refine w_icmp (t := 173) (e := 161) rfl rfl rfl (fun e => ?_) (fun e => ?_)
      · have h := h.1 e
        refine w_aload (p' := 174) rfl rfl rfl rfl ?_
        refine w_iload (p' := 175) rfl rfl rfl rfl ?_
        refine w_iload (p' := 177) rfl rfl rfl rfl ?_
        refine v_callV (M' := 145) (p' := 180) (rest := []) (as := [(.inr (.inr (.inl (some 43)))), (.inl v1), (.inl t0)]) rfl rfl rfl rfl rfl rfl rfl rfl rfl rfl rfl rfl rfl h (fun s17 h => ?_)
        refine w_aload (p' := 181) rfl rfl rfl rfl ?_
        refine w_iload (p' := 182) rfl rfl rfl rfl ?_
        refine v_putI (p' := 185) (j := 8) rfl rfl (by decide) rfl rfl ⟨by decide, by decide⟩ ?_
        intro s18 es18
        have h := h s18 es18
        exact w_vret rfl ⟨rfl, rfl, h⟩
      · have h := h.2 e
        refine w_aload (p' := 162) rfl rfl rfl rfl ?_
        refine w_getR (p' := 165) rfl rfl rfl rfl rfl ?_
        refine w_iload (p' := 166) rfl rfl rfl rfl ?_
        refine w_aload (p' := 167) rfl rfl rfl rfl ?_
        refine w_getI (p' := 170) (j := 3) rfl rfl (by decide) rfl rfl ?_
        refine v_callV (M' := 165) (p' := 173) (rest := []) (as := [(.inr (.inr (.inl (some 12)))), (.inl v1), (.inl (s15 43 3))]) rfl rfl rfl rfl rfl rfl rfl rfl rfl rfl rfl rfl rfl h (fun s19 h => ?_)
        refine w_aload (p' := 174) rfl rfl rfl rfl ?_
        refine w_iload (p' := 175) rfl rfl rfl rfl ?_
        refine w_iload (p' := 177) rfl rfl rfl rfl ?_
        refine v_callV (M' := 145) (p' := 180) (rest := []) (as := [(.inr (.inr (.inl (some 43)))), (.inl v1), (.inl t0)]) rfl rfl rfl rfl rfl rfl rfl rfl rfl rfl rfl rfl rfl h (fun s20 h => ?_)
        refine w_aload (p' := 181) rfl rfl rfl rfl ?_
        refine w_iload (p' := 182) rfl rfl rfl rfl ?_
        refine v_putI (p' := 185) (j := 8) rfl rfl (by decide) rfl rfl ⟨by decide, by decide⟩ ?_
        intro s21 es21
        have h := h s21 es21
        exact w_vret rfl ⟨rfl, rfl, h⟩
set_option maxRecDepth 20000 in
theorem sg_Rd_goOn {X : Nat × (Nat → Int32)}  {s : qM} {K : qM → Prop} (h : (∀ s1 : qM, s1 = q_up s 43 5 0 → (∀ s2 : qM, s2 = q_up s1 43 6 (-1) → c_Blocks_openIn X 0 s2 (fun r4 s3 => L_Rd_goOn_21 X r4 0 s3 K)))) : c_Rd_goOn X  s K := by
  unfold c_Rd_goOn
  refine w_aload (p' := 1) rfl rfl rfl rfl ?_
  refine w_const (p' := 2) rfl rfl rfl ?_
  refine v_putI (p' := 5) (j := 5) rfl rfl (by decide) rfl rfl trivial ?_
  intro s1 es1
  have h := h s1 es1
  refine w_aload (p' := 6) rfl rfl rfl rfl ?_
  refine w_const (p' := 7) rfl rfl rfl ?_
  refine v_putI (p' := 10) (j := 6) rfl rfl (by decide) rfl rfl trivial ?_
  intro s2 es2
  have h := h s2 es2
  refine w_aload (p' := 11) rfl rfl rfl rfl ?_
  refine w_getR (p' := 14) rfl rfl rfl rfl rfl ?_
  refine w_const (p' := 15) rfl rfl rfl ?_
  refine v_callI (M' := 150) (p' := 18) (rest := []) (as := [(.inr (.inr (.inl (some 12)))), (.inl 0)]) rfl rfl rfl rfl rfl rfl rfl rfl rfl rfl rfl rfl rfl h (fun r4 s3 h => ?_)
  refine w_istore (p' := 19) (ls' := [some (.inr (.inr (.inl (some 43)))), some (.inl r4), none]) rfl rfl rfl (Nat.le_of_ble_eq_true rfl) rfl ?_
  refine w_const (p' := 20) rfl rfl rfl ?_
  refine w_istore (p' := 21) (ls' := [some (.inr (.inr (.inl (some 43)))), some (.inl r4), some (.inl 0)]) rfl rfl rfl (Nat.le_of_ble_eq_true rfl) rfl ?_
  exact w_cut (q_le_s (q_le_s (q_le_s q_le_z))) h
set_option maxRecDepth 20000 in
theorem sg_Rd_goOn_21 {X : Nat × (Nat → Int32)}  {v1 v2 : Int} {s : qM} {K : qM → Prop} (h : (((482 ≤ v2) → K s) ∧ (¬ (482 ≤ v2) → c_Blocks_isContainer X v1 s (fun r2 s1 => (((r2 = 0) → K s1) ∧ (¬ (r2 = 0) → c_Rd_goesOn X v1 s1 (fun r4 s3 => (((r4 ≠ 0) → c_Blocks_kindOf X v1 s3 (fun r6 s5 => (((r6 = 2) → c_Blocks_openIn X v1 s5 (fun r8 s7 => (-2147483648 ≤ (v2 + 1) ∧ (v2 + 1) < 2147483648) ∧ L_Rd_goOn_21 X r8 (v2 + 1) s7 K)) ∧ (¬ (r6 = 2) → (∀ s9 : qM, s9 = q_up s5 43 5 v1 → c_Blocks_openIn X v1 s9 (fun r11 s10 => (-2147483648 ≤ (v2 + 1) ∧ (v2 + 1) < 2147483648) ∧ L_Rd_goOn_21 X r11 (v2 + 1) s10 K)))))) ∧ (¬ (r4 ≠ 0) → (∀ s12 : qM, s12 = q_up s3 43 6 v1 → K s12)))))))))) : L_Rd_goOn_21 X v1 v2 s K := by
  unfold L_Rd_goOn_21
  refine w_iload (p' := 22) rfl rfl rfl rfl ?_
  refine w_const (p' := 25) rfl rfl rfl ?_
  refine w_icmp (t := 85) (e := 28) rfl rfl rfl (fun e => ?_) (fun e => ?_)
  · have h := h.1 e
    exact w_vret rfl ⟨rfl, rfl, h⟩
  · have h := h.2 e
    refine w_aload (p' := 29) rfl rfl rfl rfl ?_
    refine w_getR (p' := 32) rfl rfl rfl rfl rfl ?_
    refine w_iload (p' := 33) rfl rfl rfl rfl ?_
    refine v_callI (M' := 155) (p' := 36) (rest := []) (as := [(.inr (.inr (.inl (some 12)))), (.inl v1)]) rfl rfl rfl rfl rfl rfl rfl rfl rfl rfl rfl rfl rfl h (fun r2 s1 h => ?_)
    refine w_if (t := 85) (e := 39) rfl rfl rfl (fun e => ?_) (fun e => ?_)
    · have h := h.1 e
      exact w_vret rfl ⟨rfl, rfl, h⟩
    · have h := h.2 e
      refine w_aload (p' := 40) rfl rfl rfl rfl ?_
      refine w_iload (p' := 41) rfl rfl rfl rfl ?_
      refine v_callI (M' := 131) (p' := 44) (rest := []) (as := [(.inr (.inr (.inl (some 43)))), (.inl v1)]) rfl rfl rfl rfl rfl rfl rfl rfl rfl rfl rfl rfl rfl h (fun r4 s3 h => ?_)
      refine w_if (t := 53) (e := 47) rfl rfl rfl (fun e => ?_) (fun e => ?_)
      · have h := h.1 e
        refine w_aload (p' := 54) rfl rfl rfl rfl ?_
        refine w_getR (p' := 57) rfl rfl rfl rfl rfl ?_
        refine w_iload (p' := 58) rfl rfl rfl rfl ?_
        refine v_callI (M' := 153) (p' := 61) (rest := []) (as := [(.inr (.inr (.inl (some 12)))), (.inl v1)]) rfl rfl rfl rfl rfl rfl rfl rfl rfl rfl rfl rfl rfl h (fun r6 s5 h => ?_)
        refine w_const (p' := 62) rfl rfl rfl ?_
        refine w_icmp (t := 70) (e := 65) rfl rfl rfl (fun e => ?_) (fun e => ?_)
        · have h := h.1 e
          refine w_aload (p' := 71) rfl rfl rfl rfl ?_
          refine w_getR (p' := 74) rfl rfl rfl rfl rfl ?_
          refine w_iload (p' := 75) rfl rfl rfl rfl ?_
          refine v_callI (M' := 150) (p' := 78) (rest := []) (as := [(.inr (.inr (.inl (some 12)))), (.inl v1)]) rfl rfl rfl rfl rfl rfl rfl rfl rfl rfl rfl rfl rfl h (fun r8 s7 h => ?_)
          refine w_istore (p' := 79) (ls' := [some (.inr (.inr (.inl (some 43)))), some (.inl r8), some (.inl v2)]) rfl rfl rfl (Nat.le_of_ble_eq_true rfl) rfl ?_
          refine w_iinc (p' := 82) (ls' := [some (.inr (.inr (.inl (some 43)))), some (.inl r8), some (.inl (v2 + 1))]) rfl rfl rfl (Nat.le_of_ble_eq_true rfl) h.1 rfl ?_
          have h := h.2
          refine w_goto (p' := 21) rfl rfl ?_
          exact w_cut (q_le_s (q_le_s (q_le_s q_le_z))) h
        · have h := h.2 e
          refine w_aload (p' := 66) rfl rfl rfl rfl ?_
          refine w_iload (p' := 67) rfl rfl rfl rfl ?_
          refine v_putI (p' := 70) (j := 5) rfl rfl (by decide) rfl rfl trivial ?_
          intro s9 es9
          have h := h s9 es9
          refine w_aload (p' := 71) rfl rfl rfl rfl ?_
          refine w_getR (p' := 74) rfl rfl rfl rfl rfl ?_
          refine w_iload (p' := 75) rfl rfl rfl rfl ?_
          refine v_callI (M' := 150) (p' := 78) (rest := []) (as := [(.inr (.inr (.inl (some 12)))), (.inl v1)]) rfl rfl rfl rfl rfl rfl rfl rfl rfl rfl rfl rfl rfl h (fun r11 s10 h => ?_)
          refine w_istore (p' := 79) (ls' := [some (.inr (.inr (.inl (some 43)))), some (.inl r11), some (.inl v2)]) rfl rfl rfl (Nat.le_of_ble_eq_true rfl) rfl ?_
          refine w_iinc (p' := 82) (ls' := [some (.inr (.inr (.inl (some 43)))), some (.inl r11), some (.inl (v2 + 1))]) rfl rfl rfl (Nat.le_of_ble_eq_true rfl) h.1 rfl ?_
          have h := h.2
          refine w_goto (p' := 21) rfl rfl ?_
          exact w_cut (q_le_s (q_le_s (q_le_s q_le_z))) h
      · have h := h.2 e
        refine w_aload (p' := 48) rfl rfl rfl rfl ?_
        refine w_iload (p' := 49) rfl rfl rfl rfl ?_
        refine v_putI (p' := 52) (j := 6) rfl rfl (by decide) rfl rfl trivial ?_
        intro s12 es12
        have h := h s12 es12
        exact w_vret rfl ⟨rfl, rfl, h⟩
set_option maxRecDepth 20000 in
theorem sg_Rd_goesOn {X : Nat × (Nat → Int32)} {x1 : Int} {s : qM} {K : Int → qM → Prop} (h : c_Blocks_kindOf X x1 s (fun r2 s1 => (((r2 ≠ 1) → (((r2 ≠ 3) → K 1 s1) ∧ (¬ (r2 ≠ 3) → c_T_skipBlanks X 1 (s1 43 3) (s1 43 4) s1 (fun r4 s3 => (-2147483648 ≤ (r4 - (s3 43 3)) ∧ (r4 - (s3 43 3)) < 2147483648) ∧ c_Blocks_measureOf X x1 s3 (fun r6 s5 => (-2147483648 ≤ ((s5 43 3) + (r4 - (s3 43 3))) ∧ ((s5 43 3) + (r4 - (s3 43 3))) < 2147483648) ∧ (((((s5 43 3) + (r4 - (s3 43 3))) ≠ (s5 43 4)) → L_Rd_goesOn_103 X x1 (r4 - (s3 43 3)) r6 0 s5 K) ∧ (¬ (((s5 43 3) + (r4 - (s3 43 3))) ≠ (s5 43 4)) → L_Rd_goesOn_103 X x1 (r4 - (s3 43 3)) r6 1 s5 K))))))) ∧ (¬ (r2 ≠ 1) → c_Rd_look X 0 s1 (fun r8 s7 => (((r8 = 62) → c_Rd_look X 1 s7 (fun r10 s9 => (((r10 ≠ 32) → c_Rd_takeOff X 1 x1 s9 (fun s11 => K 1 s11)) ∧ (¬ (r10 ≠ 32) → c_Rd_takeOff X 2 x1 s9 (fun s12 => K 1 s12))))) ∧ (¬ (r8 = 62) → K 0 s7))))))) : c_Rd_goesOn X x1 s K := by
  unfold c_Rd_goesOn
  refine w_aload (p' := 1) rfl rfl rfl rfl ?_
  refine w_getR (p' := 4) rfl rfl rfl rfl rfl ?_
  refine w_iload (p' := 5) rfl rfl rfl rfl ?_
  refine v_callI (M' := 153) (p' := 8) (rest := []) (as := [(.inr (.inr (.inl (some 12)))), (.inl x1)]) rfl rfl rfl rfl rfl rfl rfl rfl rfl rfl rfl rfl rfl h (fun r2 s1 h => ?_)
  refine w_istore (p' := 9) (ls' := [some (.inr (.inr (.inl (some 43)))), some (.inl x1), some (.inl r2), none, none, none]) rfl rfl rfl (Nat.le_of_ble_eq_true rfl) rfl ?_
  refine w_iload (p' := 10) rfl rfl rfl rfl ?_
  refine w_const (p' := 11) rfl rfl rfl ?_
  refine w_icmp (t := 49) (e := 14) rfl rfl rfl (fun e => ?_) (fun e => ?_)
  · have h := h.1 e
    refine w_iload (p' := 50) rfl rfl rfl rfl ?_
    refine w_const (p' := 51) rfl rfl rfl ?_
    refine w_icmp (t := 134) (e := 54) rfl rfl rfl (fun e => ?_) (fun e => ?_)
    · have h := h.1 e
      refine w_const (p' := 135) rfl rfl rfl ?_
      exact w_iret rfl ⟨by decide, by decide⟩ ⟨rfl, _, rfl, h⟩
    · have h := h.2 e
      refine w_aload (p' := 55) rfl rfl rfl rfl ?_
      refine w_getR (p' := 58) rfl rfl rfl rfl rfl ?_
      refine w_aload (p' := 59) rfl rfl rfl rfl ?_
      refine w_getI (p' := 62) (j := 3) rfl rfl (by decide) rfl rfl ?_
      refine w_aload (p' := 63) rfl rfl rfl rfl ?_
      refine w_getI (p' := 66) (j := 4) rfl rfl (by decide) rfl rfl ?_
      refine v_callI (M' := 39) (p' := 69) (rest := []) (as := [(.inr (.inr (.inl (some 1)))), (.inl (s1 43 3)), (.inl (s1 43 4))]) rfl rfl rfl rfl rfl rfl rfl rfl rfl rfl rfl trivial rfl h (fun r4 s3 h => ?_)
      refine w_aload (p' := 70) rfl rfl rfl rfl ?_
      refine w_getI (p' := 73) (j := 3) rfl rfl (by decide) rfl rfl ?_
      refine w_sub (p' := 74) rfl rfl h.1 ?_
      have h := h.2
      refine w_istore (p' := 75) (ls' := [some (.inr (.inr (.inl (some 43)))), some (.inl x1), some (.inl r2), some (.inl (r4 - (s3 43 3))), none, none]) rfl rfl rfl (Nat.le_of_ble_eq_true rfl) rfl ?_
      refine w_aload (p' := 76) rfl rfl rfl rfl ?_
      refine w_getR (p' := 79) rfl rfl rfl rfl rfl ?_
      refine w_iload (p' := 80) rfl rfl rfl rfl ?_
      refine v_callI (M' := 156) (p' := 83) (rest := []) (as := [(.inr (.inr (.inl (some 12)))), (.inl x1)]) rfl rfl rfl rfl rfl rfl rfl rfl rfl rfl rfl rfl rfl h (fun r6 s5 h => ?_)
      refine w_istore (p' := 85) (ls' := [some (.inr (.inr (.inl (some 43)))), some (.inl x1), some (.inl r2), some (.inl (r4 - (s3 43 3))), some (.inl r6), none]) rfl rfl rfl (Nat.le_of_ble_eq_true rfl) rfl ?_
      refine w_aload (p' := 86) rfl rfl rfl rfl ?_
      refine w_getI (p' := 89) (j := 3) rfl rfl (by decide) rfl rfl ?_
      refine w_iload (p' := 90) rfl rfl rfl rfl ?_
      refine w_add (p' := 91) rfl rfl h.1 ?_
      have h := h.2
      refine w_aload (p' := 92) rfl rfl rfl rfl ?_
      refine w_getI (p' := 95) (j := 4) rfl rfl (by decide) rfl rfl ?_
      refine w_icmp (t := 102) (e := 98) rfl rfl rfl (fun e => ?_) (fun e => ?_)
      · have h := h.1 e
        refine w_const (p' := 103) rfl rfl rfl ?_
        exact w_cut (q_le_s (q_le_s (q_le_n (q_le_s (q_le_s (q_le_n q_le_z)))))) h
      · have h := h.2 e
        refine w_const (p' := 99) rfl rfl rfl ?_
        refine w_goto (p' := 103) rfl rfl ?_
        exact w_cut (q_le_s (q_le_s (q_le_n (q_le_s (q_le_s (q_le_n q_le_z)))))) h
  · have h := h.2 e
    refine w_aload (p' := 15) rfl rfl rfl rfl ?_
    refine w_const (p' := 16) rfl rfl rfl ?_
    refine v_callI (M' := 143) (p' := 19) (rest := []) (as := [(.inr (.inr (.inl (some 43)))), (.inl 0)]) rfl rfl rfl rfl rfl rfl rfl rfl rfl rfl rfl rfl rfl h (fun r8 s7 h => ?_)
    refine w_const (p' := 21) rfl rfl rfl ?_
    refine w_icmp (t := 26) (e := 24) rfl rfl rfl (fun e => ?_) (fun e => ?_)
    · have h := h.1 e
      refine w_aload (p' := 27) rfl rfl rfl rfl ?_
      refine w_aload (p' := 28) rfl rfl rfl rfl ?_
      refine w_const (p' := 29) rfl rfl rfl ?_
      refine v_callI (M' := 143) (p' := 32) (rest := [(.inr (.inr (.inl (some 43))))]) (as := [(.inr (.inr (.inl (some 43)))), (.inl 1)]) rfl rfl rfl rfl rfl rfl rfl rfl rfl rfl rfl rfl rfl h (fun r10 s9 h => ?_)
      refine w_const (p' := 34) rfl rfl rfl ?_
      refine w_icmp (t := 41) (e := 37) rfl rfl rfl (fun e => ?_) (fun e => ?_)
      · have h := h.1 e
        refine w_const (p' := 42) rfl rfl rfl ?_
        refine w_iload (p' := 43) rfl rfl rfl rfl ?_
        refine v_callV (M' := 144) (p' := 46) (rest := []) (as := [(.inr (.inr (.inl (some 43)))), (.inl 1), (.inl x1)]) rfl rfl rfl rfl rfl rfl rfl rfl rfl rfl rfl rfl rfl h (fun s11 h => ?_)
        refine w_goto (p' := 134) rfl rfl ?_
        refine w_const (p' := 135) rfl rfl rfl ?_
        exact w_iret rfl ⟨by decide, by decide⟩ ⟨rfl, _, rfl, h⟩
      · have h := h.2 e
        refine w_const (p' := 38) rfl rfl rfl ?_
        refine w_goto (p' := 42) rfl rfl ?_
        refine w_iload (p' := 43) rfl rfl rfl rfl ?_
        refine v_callV (M' := 144) (p' := 46) (rest := []) (as := [(.inr (.inr (.inl (some 43)))), (.inl 2), (.inl x1)]) rfl rfl rfl rfl rfl rfl rfl rfl rfl rfl rfl rfl rfl h (fun s12 h => ?_)
        refine w_goto (p' := 134) rfl rfl ?_
        refine w_const (p' := 135) rfl rfl rfl ?_
        exact w_iret rfl ⟨by decide, by decide⟩ ⟨rfl, _, rfl, h⟩
    · have h := h.2 e
      refine w_const (p' := 25) rfl rfl rfl ?_
      exact w_iret rfl ⟨by decide, by decide⟩ ⟨rfl, _, rfl, h⟩
set_option maxRecDepth 20000 in
theorem sg_Rd_goesOn_103 {X : Nat × (Nat → Int32)}  {v1 v3 v4 t0 : Int} {s : qM} {K : Int → qM → Prop} (h : (((t0 ≠ 0) → (((t0 = 0) → c_Rd_takeOff X v4 v1 s (fun s1 => K 1 s1)) ∧ (¬ (t0 = 0) → c_Rd_takeOff X v3 v1 s (fun s2 => K 1 s2)))) ∧ (¬ (t0 ≠ 0) → (((v4 ≤ v3) → (((t0 = 0) → c_Rd_takeOff X v4 v1 s (fun s3 => K 1 s3)) ∧ (¬ (t0 = 0) → c_Rd_takeOff X v3 v1 s (fun s4 => K 1 s4)))) ∧ (¬ (v4 ≤ v3) → K 0 s))))) : L_Rd_goesOn_103 X v1 v3 v4 t0 s K := by
  unfold L_Rd_goesOn_103
  refine w_istore (p' := 105) (ls' := [some (.inr (.inr (.inl (some 43)))), some (.inl v1), none, some (.inl v3), some (.inl v4), some (.inl t0)]) rfl rfl rfl (Nat.le_of_ble_eq_true rfl) rfl ?_
  refine w_iload (p' := 107) rfl rfl rfl rfl ?_
  refine w_if (t := 118) (e := 110) rfl rfl rfl (fun e => ?_) (fun e => ?_)
  · have h := h.1 e
    refine w_aload (p' := 119) rfl rfl rfl rfl ?_
    refine w_iload (p' := 121) rfl rfl rfl rfl ?_
    refine w_if (t := 128) (e := 124) rfl rfl rfl (fun e => ?_) (fun e => ?_)
    · have h := h.1 e
      refine w_iload (p' := 130) rfl rfl rfl rfl ?_
      refine w_iload (p' := 131) rfl rfl rfl rfl ?_
      refine v_callV (M' := 144) (p' := 134) (rest := []) (as := [(.inr (.inr (.inl (some 43)))), (.inl v4), (.inl v1)]) rfl rfl rfl rfl rfl rfl rfl rfl rfl rfl rfl rfl rfl h (fun s1 h => ?_)
      refine w_const (p' := 135) rfl rfl rfl ?_
      exact w_iret rfl ⟨by decide, by decide⟩ ⟨rfl, _, rfl, h⟩
    · have h := h.2 e
      refine w_iload (p' := 125) rfl rfl rfl rfl ?_
      refine w_goto (p' := 130) rfl rfl ?_
      refine w_iload (p' := 131) rfl rfl rfl rfl ?_
      refine v_callV (M' := 144) (p' := 134) (rest := []) (as := [(.inr (.inr (.inl (some 43)))), (.inl v3), (.inl v1)]) rfl rfl rfl rfl rfl rfl rfl rfl rfl rfl rfl rfl rfl h (fun s2 h => ?_)
      refine w_const (p' := 135) rfl rfl rfl ?_
      exact w_iret rfl ⟨by decide, by decide⟩ ⟨rfl, _, rfl, h⟩
  · have h := h.2 e
    refine w_iload (p' := 111) rfl rfl rfl rfl ?_
    refine w_iload (p' := 113) rfl rfl rfl rfl ?_
    refine w_icmp (t := 118) (e := 116) rfl rfl rfl (fun e => ?_) (fun e => ?_)
    · have h := h.1 e
      refine w_aload (p' := 119) rfl rfl rfl rfl ?_
      refine w_iload (p' := 121) rfl rfl rfl rfl ?_
      refine w_if (t := 128) (e := 124) rfl rfl rfl (fun e => ?_) (fun e => ?_)
      · have h := h.1 e
        refine w_iload (p' := 130) rfl rfl rfl rfl ?_
        refine w_iload (p' := 131) rfl rfl rfl rfl ?_
        refine v_callV (M' := 144) (p' := 134) (rest := []) (as := [(.inr (.inr (.inl (some 43)))), (.inl v4), (.inl v1)]) rfl rfl rfl rfl rfl rfl rfl rfl rfl rfl rfl rfl rfl h (fun s3 h => ?_)
        refine w_const (p' := 135) rfl rfl rfl ?_
        exact w_iret rfl ⟨by decide, by decide⟩ ⟨rfl, _, rfl, h⟩
      · have h := h.2 e
        refine w_iload (p' := 125) rfl rfl rfl rfl ?_
        refine w_goto (p' := 130) rfl rfl ?_
        refine w_iload (p' := 131) rfl rfl rfl rfl ?_
        refine v_callV (M' := 144) (p' := 134) (rest := []) (as := [(.inr (.inr (.inl (some 43)))), (.inl v3), (.inl v1)]) rfl rfl rfl rfl rfl rfl rfl rfl rfl rfl rfl rfl rfl h (fun s4 h => ?_)
        refine w_const (p' := 135) rfl rfl rfl ?_
        exact w_iret rfl ⟨by decide, by decide⟩ ⟨rfl, _, rfl, h⟩
    · have h := h.2 e
      refine w_const (p' := 117) rfl rfl rfl ?_
      exact w_iret rfl ⟨by decide, by decide⟩ ⟨rfl, _, rfl, h⟩
set_option maxRecDepth 20000 in
theorem sg_Rd_readInFence {X : Nat × (Nat → Int32)} {x1 : Int} {s : qM} {K : Int → qM → Prop} (h : c_Rd_isFenceMark X  s (fun r2 s1 => (((r2 = 0) → c_Blocks_addLine X x1 s1 (fun s3 => K x1 s3)) ∧ (¬ (r2 = 0) → c_Blocks_close X x1 s1 (fun s4 => K x1 s4))))) : c_Rd_readInFence X x1 s K := by
  unfold c_Rd_readInFence
  refine w_aload (p' := 1) rfl rfl rfl rfl ?_
  refine v_callI (M' := 141) (p' := 4) (rest := []) (as := [(.inr (.inr (.inl (some 43))))]) rfl rfl rfl rfl rfl rfl rfl rfl rfl rfl rfl rfl rfl h (fun r2 s1 h => ?_)
  refine w_if (t := 18) (e := 7) rfl rfl rfl (fun e => ?_) (fun e => ?_)
  · have h := h.1 e
    refine w_aload (p' := 19) rfl rfl rfl rfl ?_
    refine w_getR (p' := 22) rfl rfl rfl rfl rfl ?_
    refine w_iload (p' := 23) rfl rfl rfl rfl ?_
    refine v_callV (M' := 163) (p' := 26) (rest := []) (as := [(.inr (.inr (.inl (some 12)))), (.inl x1)]) rfl rfl rfl rfl rfl rfl rfl rfl rfl rfl rfl rfl rfl h (fun s3 h => ?_)
    refine w_iload (p' := 27) rfl rfl rfl rfl ?_
    exact w_iret rfl trivial ⟨rfl, _, rfl, h⟩
  · have h := h.2 e
    refine w_aload (p' := 8) rfl rfl rfl rfl ?_
    refine w_getR (p' := 11) rfl rfl rfl rfl rfl ?_
    refine w_iload (p' := 12) rfl rfl rfl rfl ?_
    refine v_callV (M' := 149) (p' := 15) (rest := []) (as := [(.inr (.inr (.inl (some 12)))), (.inl x1)]) rfl rfl rfl rfl rfl rfl rfl rfl rfl rfl rfl rfl rfl h (fun s4 h => ?_)
    refine w_goto (p' := 26) rfl rfl ?_
    refine w_iload (p' := 27) rfl rfl rfl rfl ?_
    exact w_iret rfl trivial ⟨rfl, _, rfl, h⟩
