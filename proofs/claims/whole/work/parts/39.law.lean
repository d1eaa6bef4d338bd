/-! The operations of the law's loop, each out of what the two objects answer (wip/tools/law.py). -/
def L_law_917 (X : Nat × (Nat → Int32)) (x4 : Int) (s : qM) (kc ks : Nat) (Q : qQ) : Prop := q_W (PP X) 0 (917, [some (.inr (.inr (.inr ()))), some (.inr (.inr (.inl (some 0)))), some (.inr (.inr (.inl (some 113)))), some (.inr (.inr (.inl (some 161)))), some (.inl x4), none, none], [], S0, s, kc, ks) Q
def O_put (I : qM → Prop) (X : Nat × (Nat → Int32)) (x1 : Int) (x2 : Int) (s : qM) : Prop := c_W_put X x1 x2 s (fun c s1 => c_m_put X x1 x2 s1 (fun y s2 => c_m_thrown X s2 (fun e s3 => e = c ∧ (c = 0 → s3 161 0 = y) ∧ I s3)))
set_option maxRecDepth 100000 in
set_option maxHeartbeats 4000000 in
theorem q_law_put {I : qM → Prop} {X : Nat × (Nat → Int32)} {x4 : Int} {s : qM} {kc ks : Nat} {Q : qQ} (h0 : 0 ≤ x4) (h1 : x4 + 3 ≤ (X.1 : Int)) (hX : X.1 ≤ 1536) (hc : kc + 1 ≤ 601024) (hs : ks + 6 ≤ 7293034) (h : O_put I X ((X.2 (x4 + 1).toNat).toInt) ((X.2 (x4 + 2).toNat).toInt) s) (k : ∀ s' kc' ks', I s' → kc' ≤ kc + 1 → ks' ≤ ks + 6 → L_law_917 X x4 s' kc' ks' Q) : q_W (PP X) 0 (120, [some (.inr (.inr (.inr ()))), some (.inr (.inr (.inl (some 0)))), some (.inr (.inr (.inl (some 113)))), some (.inr (.inr (.inl (some 161)))), some (.inl x4), none, none], [], S0, s, kc, ks) Q := by
  have c1 : (PP X).2.1 1 = 1 := by show (q_rm 1).2.2.1 = _; decide +kernel
  have d1 : (PP X).2.2.1 1 = 6 := by show (q_rm 1).2.2.2 = _; decide +kernel
  have n1 : (PP X).2.2.2.1 1 = q_nL 1 := rfl
  have c50 : (PP X).2.1 50 = 0 := by show (q_rm 50).2.2.1 = _; decide +kernel
  have d50 : (PP X).2.2.1 50 = 0 := by show (q_rm 50).2.2.2 = _; decide +kernel
  have n50 : (PP X).2.2.2.1 50 = q_nL 50 := rfl
  have c45 : (PP X).2.1 45 = 0 := by show (q_rm 45).2.2.1 = _; decide +kernel
  have d45 : (PP X).2.2.1 45 = 0 := by show (q_rm 45).2.2.2 = _; decide +kernel
  have n45 : (PP X).2.2.2.1 45 = q_nL 45 := rfl
  have c0 : (PP X).2.1 0 = 601024 := by show (q_rm 0).2.2.1 = _; decide +kernel
  have d0 : (PP X).2.2.1 0 = 7293034 := by show (q_rm 0).2.2.2 = _; decide +kernel
  refine w_aload (P := PP X) (M := 0) (p' := 121) rfl rfl rfl rfl ?_
  refine w_xload (P := PP X) (M := 0) (p' := 122) rfl rfl rfl rfl ?_
  refine w_iload (P := PP X) (M := 0) (p' := 124) rfl rfl rfl rfl ?_
  refine w_const (P := PP X) (M := 0) (p' := 125) rfl rfl rfl ?_
  refine w_add (P := PP X) (M := 0) (p' := 126) rfl rfl ⟨by omega, by omega⟩ ?_
  refine w_xald (P := PP X) (M := 0) (p' := 127) rfl rfl rfl (by omega) (by show (_ : Int) < (X.1 : Int); omega) ?_
  refine w_xload (P := PP X) (M := 0) (p' := 128) rfl rfl rfl rfl ?_
  refine w_iload (P := PP X) (M := 0) (p' := 130) rfl rfl rfl rfl ?_
  refine w_const (P := PP X) (M := 0) (p' := 131) rfl rfl rfl ?_
  refine w_add (P := PP X) (M := 0) (p' := 132) rfl rfl ⟨by omega, by omega⟩ ?_
  refine w_xald (P := PP X) (M := 0) (p' := 133) rfl rfl rfl (by omega) (by show (_ : Int) < (X.1 : Int); omega) ?_
  refine w_aload (P := PP X) (M := 0) (p' := 134) rfl rfl rfl rfl ?_
  refine w_call (P := PP X) (M := 0) (p' := 137) (M' := 1) (as := [.inr (.inr (.inl (some 0))), .inl ((X.2 (x4 + 1).toNat).toInt), .inl ((X.2 (x4 + 2).toNat).toInt), .inr (.inr (.inl (some 161)))]) (rest := []) rfl rfl (by decide) rfl rfl (Nat.le_of_ble_eq_true rfl) rfl rfl (Nat.le_of_ble_eq_true rfl) (by rw [c1, c0]; omega) (by rw [d1, d0]; omega) trivial (by rw [n1]; exact Nat.le_of_ble_eq_true rfl) h (fun k S' s' hq => by obtain ⟨-, x, e, -⟩ := hq; cases e) ?_
  rintro w S' s1 ⟨rfl, c, e0, h⟩
  cases e0
  refine w_istore (P := PP X) (M := 0) (p' := 139) rfl rfl rfl (Nat.le_of_ble_eq_true rfl) rfl ?_
  refine w_aload (P := PP X) (M := 0) (p' := 140) rfl rfl rfl rfl ?_
  refine w_xload (P := PP X) (M := 0) (p' := 141) rfl rfl rfl rfl ?_
  refine w_iload (P := PP X) (M := 0) (p' := 143) rfl rfl rfl rfl ?_
  refine w_const (P := PP X) (M := 0) (p' := 144) rfl rfl rfl ?_
  refine w_add (P := PP X) (M := 0) (p' := 145) rfl rfl ⟨by omega, by omega⟩ ?_
  refine w_xald (P := PP X) (M := 0) (p' := 146) rfl rfl rfl (by omega) (by show (_ : Int) < (X.1 : Int); omega) ?_
  refine w_xload (P := PP X) (M := 0) (p' := 147) rfl rfl rfl rfl ?_
  refine w_iload (P := PP X) (M := 0) (p' := 149) rfl rfl rfl rfl ?_
  refine w_const (P := PP X) (M := 0) (p' := 150) rfl rfl rfl ?_
  refine w_add (P := PP X) (M := 0) (p' := 151) rfl rfl ⟨by omega, by omega⟩ ?_
  refine w_xald (P := PP X) (M := 0) (p' := 152) rfl rfl rfl (by omega) (by show (_ : Int) < (X.1 : Int); omega) ?_
  refine w_call (P := PP X) (M := 0) (p' := 155) (M' := 50) (as := [.inr (.inr (.inl (some 113))), .inl ((X.2 (x4 + 1).toNat).toInt), .inl ((X.2 (x4 + 2).toNat).toInt)]) (rest := []) rfl rfl (by decide) rfl rfl (Nat.le_of_ble_eq_true rfl) rfl rfl (Nat.le_of_ble_eq_true rfl) (by rw [c1, c50, c0]; omega) (by rw [d1, d50, d0]; omega) (rfl : q_tag S0 113 = some 4) (by rw [n50]; exact Nat.le_of_ble_eq_true rfl) h (fun k S' s' hq => by obtain ⟨-, x, e, -⟩ := hq; cases e) ?_
  rintro w S' s2 ⟨rfl, y, e0, h⟩
  cases e0
  refine w_istore (P := PP X) (M := 0) (p' := 157) rfl rfl rfl (Nat.le_of_ble_eq_true rfl) rfl ?_
  refine w_aload (P := PP X) (M := 0) (p' := 158) rfl rfl rfl rfl ?_
  refine w_call (P := PP X) (M := 0) (p' := 161) (M' := 45) (as := [.inr (.inr (.inl (some 113)))]) (rest := []) rfl rfl (by decide) rfl rfl (Nat.le_of_ble_eq_true rfl) rfl rfl (Nat.le_of_ble_eq_true rfl) (by rw [c1, c50, c45, c0]; omega) (by rw [d1, d50, d45, d0]; omega) (rfl : q_tag S0 113 = some 4) (by rw [n45]; exact Nat.le_of_ble_eq_true rfl) h (fun k S' s' hq => by obtain ⟨-, x, e, -⟩ := hq; cases e) ?_
  rintro w S' s3 ⟨rfl, e, e0, h⟩
  cases e0
  refine w_iload (P := PP X) (M := 0) (p' := 163) rfl rfl rfl rfl ?_
  obtain ⟨he, hy, hI⟩ := h
  refine w_icmp (P := PP X) (M := 0) (t := 168) (e := 166) rfl rfl rfl (fun _ => ?_) (fun q => absurd he q)
  refine w_iload (P := PP X) (M := 0) (p' := 170) rfl rfl rfl rfl ?_
  have last : q_W (PP X) 0 (185, [some (.inr (.inr (.inr ()))), some (.inr (.inr (.inl (some 0)))), some (.inr (.inr (.inl (some 113)))), some (.inr (.inr (.inl (some 161)))), some (.inl x4), some (.inl c), some (.inl y)], [], S0, s3, kc + (PP X).2.1 1 + (PP X).2.1 50 + (PP X).2.1 45, ks + (PP X).2.2.1 1 + (PP X).2.2.1 50 + (PP X).2.2.1 45) Q := by
    refine w_goto (P := PP X) (M := 0) (p' := 917) rfl rfl ?_
    refine w_cut (a := [some (.inr (.inr (.inr ()))), some (.inr (.inr (.inl (some 0)))), some (.inr (.inr (.inl (some 113)))), some (.inr (.inr (.inl (some 161)))), some (.inl x4), none, none]) ⟨rfl, rfl, rfl, rfl, rfl, trivial⟩ (k _ _ _ hI (by rw [c1, c50, c45]; omega) (by rw [d1, d50, d45]; omega))
  refine w_if (P := PP X) (M := 0) (t := 185) (e := 173) rfl rfl rfl (fun _ => last) (fun q => ?_)
  have hc0 : c = 0 := Classical.byContradiction fun z => q z
  have hy := hy hc0
  refine w_aload (P := PP X) (M := 0) (p' := 174) rfl rfl rfl rfl ?_
  refine w_const (P := PP X) (M := 0) (p' := 175) rfl rfl rfl ?_
  refine w_lald (P := PP X) (M := 0) (p' := 176) (N := 1) rfl rfl rfl rfl (by decide) (by decide) ?_
  refine w_iload (P := PP X) (M := 0) (p' := 178) rfl rfl rfl rfl ?_
  refine w_i2l (P := PP X) (M := 0) (p' := 179) rfl rfl ?_
  refine w_lcmp (P := PP X) (M := 0) (p' := 180) rfl rfl ?_
  refine w_if (P := PP X) (M := 0) (t := 185) (e := 183) rfl rfl rfl (fun _ => last) (fun q => absurd ?_ q)
  show q_lcmp (s3 161 0) y = 0
  rw [hy]
  simp [q_lcmp]
def O_take (I : qM → Prop) (X : Nat × (Nat → Int32)) (x1 : Int) (x2 : Int) (s : qM) : Prop := c_W_take X x1 x2 s (fun c s1 => c_m_take X x1 x2 s1 (fun y s2 => c_m_thrown X s2 (fun e s3 => e = c ∧ (c = 0 → s3 161 0 = y) ∧ I s3)))
set_option maxRecDepth 100000 in
set_option maxHeartbeats 4000000 in
theorem q_law_take {I : qM → Prop} {X : Nat × (Nat → Int32)} {x4 : Int} {s : qM} {kc ks : Nat} {Q : qQ} (h0 : 0 ≤ x4) (h1 : x4 + 3 ≤ (X.1 : Int)) (hX : X.1 ≤ 1536) (hc : kc + 1 ≤ 601024) (hs : ks + 6 ≤ 7293034) (h : O_take I X ((X.2 (x4 + 1).toNat).toInt) ((X.2 (x4 + 2).toNat).toInt) s) (k : ∀ s' kc' ks', I s' → kc' ≤ kc + 1 → ks' ≤ ks + 6 → L_law_917 X x4 s' kc' ks' Q) : q_W (PP X) 0 (188, [some (.inr (.inr (.inr ()))), some (.inr (.inr (.inl (some 0)))), some (.inr (.inr (.inl (some 113)))), some (.inr (.inr (.inl (some 161)))), some (.inl x4), none, none], [], S0, s, kc, ks) Q := by
  have c2 : (PP X).2.1 2 = 1 := by show (q_rm 2).2.2.1 = _; decide +kernel
  have d2 : (PP X).2.2.1 2 = 6 := by show (q_rm 2).2.2.2 = _; decide +kernel
  have n2 : (PP X).2.2.2.1 2 = q_nL 2 := rfl
  have c52 : (PP X).2.1 52 = 0 := by show (q_rm 52).2.2.1 = _; decide +kernel
  have d52 : (PP X).2.2.1 52 = 0 := by show (q_rm 52).2.2.2 = _; decide +kernel
  have n52 : (PP X).2.2.2.1 52 = q_nL 52 := rfl
  have c45 : (PP X).2.1 45 = 0 := by show (q_rm 45).2.2.1 = _; decide +kernel
  have d45 : (PP X).2.2.1 45 = 0 := by show (q_rm 45).2.2.2 = _; decide +kernel
  have n45 : (PP X).2.2.2.1 45 = q_nL 45 := rfl
  have c0 : (PP X).2.1 0 = 601024 := by show (q_rm 0).2.2.1 = _; decide +kernel
  have d0 : (PP X).2.2.1 0 = 7293034 := by show (q_rm 0).2.2.2 = _; decide +kernel
  refine w_aload (P := PP X) (M := 0) (p' := 189) rfl rfl rfl rfl ?_
  refine w_xload (P := PP X) (M := 0) (p' := 190) rfl rfl rfl rfl ?_
  refine w_iload (P := PP X) (M := 0) (p' := 192) rfl rfl rfl rfl ?_
  refine w_const (P := PP X) (M := 0) (p' := 193) rfl rfl rfl ?_
  refine w_add (P := PP X) (M := 0) (p' := 194) rfl rfl ⟨by omega, by omega⟩ ?_
  refine w_xald (P := PP X) (M := 0) (p' := 195) rfl rfl rfl (by omega) (by show (_ : Int) < (X.1 : Int); omega) ?_
  refine w_xload (P := PP X) (M := 0) (p' := 196) rfl rfl rfl rfl ?_
  refine w_iload (P := PP X) (M := 0) (p' := 198) rfl rfl rfl rfl ?_
  refine w_const (P := PP X) (M := 0) (p' := 199) rfl rfl rfl ?_
  refine w_add (P := PP X) (M := 0) (p' := 200) rfl rfl ⟨by omega, by omega⟩ ?_
  refine w_xald (P := PP X) (M := 0) (p' := 201) rfl rfl rfl (by omega) (by show (_ : Int) < (X.1 : Int); omega) ?_
  refine w_aload (P := PP X) (M := 0) (p' := 202) rfl rfl rfl rfl ?_
  refine w_call (P := PP X) (M := 0) (p' := 205) (M' := 2) (as := [.inr (.inr (.inl (some 0))), .inl ((X.2 (x4 + 1).toNat).toInt), .inl ((X.2 (x4 + 2).toNat).toInt), .inr (.inr (.inl (some 161)))]) (rest := []) rfl rfl (by decide) rfl rfl (Nat.le_of_ble_eq_true rfl) rfl rfl (Nat.le_of_ble_eq_true rfl) (by rw [c2, c0]; omega) (by rw [d2, d0]; omega) trivial (by rw [n2]; exact Nat.le_of_ble_eq_true rfl) h (fun k S' s' hq => by obtain ⟨-, x, e, -⟩ := hq; cases e) ?_
  rintro w S' s1 ⟨rfl, c, e0, h⟩
  cases e0
  refine w_istore (P := PP X) (M := 0) (p' := 207) rfl rfl rfl (Nat.le_of_ble_eq_true rfl) rfl ?_
  refine w_aload (P := PP X) (M := 0) (p' := 208) rfl rfl rfl rfl ?_
  refine w_xload (P := PP X) (M := 0) (p' := 209) rfl rfl rfl rfl ?_
  refine w_iload (P := PP X) (M := 0) (p' := 211) rfl rfl rfl rfl ?_
  refine w_const (P := PP X) (M := 0) (p' := 212) rfl rfl rfl ?_
  refine w_add (P := PP X) (M := 0) (p' := 213) rfl rfl ⟨by omega, by omega⟩ ?_
  refine w_xald (P := PP X) (M := 0) (p' := 214) rfl rfl rfl (by omega) (by show (_ : Int) < (X.1 : Int); omega) ?_
  refine w_xload (P := PP X) (M := 0) (p' := 215) rfl rfl rfl rfl ?_
  refine w_iload (P := PP X) (M := 0) (p' := 217) rfl rfl rfl rfl ?_
  refine w_const (P := PP X) (M := 0) (p' := 218) rfl rfl rfl ?_
  refine w_add (P := PP X) (M := 0) (p' := 219) rfl rfl ⟨by omega, by omega⟩ ?_
  refine w_xald (P := PP X) (M := 0) (p' := 220) rfl rfl rfl (by omega) (by show (_ : Int) < (X.1 : Int); omega) ?_
  refine w_call (P := PP X) (M := 0) (p' := 223) (M' := 52) (as := [.inr (.inr (.inl (some 113))), .inl ((X.2 (x4 + 1).toNat).toInt), .inl ((X.2 (x4 + 2).toNat).toInt)]) (rest := []) rfl rfl (by decide) rfl rfl (Nat.le_of_ble_eq_true rfl) rfl rfl (Nat.le_of_ble_eq_true rfl) (by rw [c2, c52, c0]; omega) (by rw [d2, d52, d0]; omega) (rfl : q_tag S0 113 = some 4) (by rw [n52]; exact Nat.le_of_ble_eq_true rfl) h (fun k S' s' hq => by obtain ⟨-, x, e, -⟩ := hq; cases e) ?_
  rintro w S' s2 ⟨rfl, y, e0, h⟩
  cases e0
  refine w_istore (P := PP X) (M := 0) (p' := 225) rfl rfl rfl (Nat.le_of_ble_eq_true rfl) rfl ?_
  refine w_aload (P := PP X) (M := 0) (p' := 226) rfl rfl rfl rfl ?_
  refine w_call (P := PP X) (M := 0) (p' := 229) (M' := 45) (as := [.inr (.inr (.inl (some 113)))]) (rest := []) rfl rfl (by decide) rfl rfl (Nat.le_of_ble_eq_true rfl) rfl rfl (Nat.le_of_ble_eq_true rfl) (by rw [c2, c52, c45, c0]; omega) (by rw [d2, d52, d45, d0]; omega) (rfl : q_tag S0 113 = some 4) (by rw [n45]; exact Nat.le_of_ble_eq_true rfl) h (fun k S' s' hq => by obtain ⟨-, x, e, -⟩ := hq; cases e) ?_
  rintro w S' s3 ⟨rfl, e, e0, h⟩
  cases e0
  refine w_iload (P := PP X) (M := 0) (p' := 231) rfl rfl rfl rfl ?_
  obtain ⟨he, hy, hI⟩ := h
  refine w_icmp (P := PP X) (M := 0) (t := 236) (e := 234) rfl rfl rfl (fun _ => ?_) (fun q => absurd he q)
  refine w_iload (P := PP X) (M := 0) (p' := 238) rfl rfl rfl rfl ?_
  have last : q_W (PP X) 0 (253, [some (.inr (.inr (.inr ()))), some (.inr (.inr (.inl (some 0)))), some (.inr (.inr (.inl (some 113)))), some (.inr (.inr (.inl (some 161)))), some (.inl x4), some (.inl c), some (.inl y)], [], S0, s3, kc + (PP X).2.1 2 + (PP X).2.1 52 + (PP X).2.1 45, ks + (PP X).2.2.1 2 + (PP X).2.2.1 52 + (PP X).2.2.1 45) Q := by
    refine w_goto (P := PP X) (M := 0) (p' := 917) rfl rfl ?_
    refine w_cut (a := [some (.inr (.inr (.inr ()))), some (.inr (.inr (.inl (some 0)))), some (.inr (.inr (.inl (some 113)))), some (.inr (.inr (.inl (some 161)))), some (.inl x4), none, none]) ⟨rfl, rfl, rfl, rfl, rfl, trivial⟩ (k _ _ _ hI (by rw [c2, c52, c45]; omega) (by rw [d2, d52, d45]; omega))
  refine w_if (P := PP X) (M := 0) (t := 253) (e := 241) rfl rfl rfl (fun _ => last) (fun q => ?_)
  have hc0 : c = 0 := Classical.byContradiction fun z => q z
  have hy := hy hc0
  refine w_aload (P := PP X) (M := 0) (p' := 242) rfl rfl rfl rfl ?_
  refine w_const (P := PP X) (M := 0) (p' := 243) rfl rfl rfl ?_
  refine w_lald (P := PP X) (M := 0) (p' := 244) (N := 1) rfl rfl rfl rfl (by decide) (by decide) ?_
  refine w_iload (P := PP X) (M := 0) (p' := 246) rfl rfl rfl rfl ?_
  refine w_i2l (P := PP X) (M := 0) (p' := 247) rfl rfl ?_
  refine w_lcmp (P := PP X) (M := 0) (p' := 248) rfl rfl ?_
  refine w_if (P := PP X) (M := 0) (t := 253) (e := 251) rfl rfl rfl (fun _ => last) (fun q => absurd ?_ q)
  show q_lcmp (s3 161 0) y = 0
  rw [hy]
  simp [q_lcmp]
def O_length (I : qM → Prop) (X : Nat × (Nat → Int32)) (s : qM) : Prop := c_T_length X s (fun c s1 => c_m_length X s1 (fun y s2 => c = y ∧ I s2))
set_option maxRecDepth 100000 in
set_option maxHeartbeats 4000000 in
theorem q_law_length {I : qM → Prop} {X : Nat × (Nat → Int32)} {x4 : Int} {s : qM} {kc ks : Nat} {Q : qQ} (h0 : 0 ≤ x4) (h1 : x4 + 3 ≤ (X.1 : Int)) (hX : X.1 ≤ 1536) (hc : kc + 1 ≤ 601024) (hs : ks + 6 ≤ 7293034) (h : O_length I X  s) (k : ∀ s' kc' ks', I s' → kc' ≤ kc + 1 → ks' ≤ ks + 6 → L_law_917 X x4 s' kc' ks' Q) : q_W (PP X) 0 (256, [some (.inr (.inr (.inr ()))), some (.inr (.inr (.inl (some 0)))), some (.inr (.inr (.inl (some 113)))), some (.inr (.inr (.inl (some 161)))), some (.inl x4), none, none], [], S0, s, kc, ks) Q := by
  have c16 : (PP X).2.1 16 = 0 := by show (q_rm 16).2.2.1 = _; decide +kernel
  have d16 : (PP X).2.2.1 16 = 0 := by show (q_rm 16).2.2.2 = _; decide +kernel
  have n16 : (PP X).2.2.2.1 16 = q_nL 16 := rfl
  have c53 : (PP X).2.1 53 = 0 := by show (q_rm 53).2.2.1 = _; decide +kernel
  have d53 : (PP X).2.2.1 53 = 0 := by show (q_rm 53).2.2.2 = _; decide +kernel
  have n53 : (PP X).2.2.2.1 53 = q_nL 53 := rfl
  have c0 : (PP X).2.1 0 = 601024 := by show (q_rm 0).2.2.1 = _; decide +kernel
  have d0 : (PP X).2.2.1 0 = 7293034 := by show (q_rm 0).2.2.2 = _; decide +kernel
  refine w_aload (P := PP X) (M := 0) (p' := 257) rfl rfl rfl rfl ?_
  refine w_call (P := PP X) (M := 0) (p' := 260) (M' := 16) (as := [.inr (.inr (.inl (some 0)))]) (rest := []) rfl rfl (by decide) rfl rfl (Nat.le_of_ble_eq_true rfl) rfl rfl (Nat.le_of_ble_eq_true rfl) (by rw [c16, c0]; omega) (by rw [d16, d0]; omega) (rfl : q_tag S0 0 = some 3) (by rw [n16]; exact Nat.le_of_ble_eq_true rfl) h (fun k S' s' hq => by obtain ⟨-, x, e, -⟩ := hq; cases e) ?_
  rintro w S' s1 ⟨rfl, c, e0, h⟩
  cases e0
  refine w_aload (P := PP X) (M := 0) (p' := 261) rfl rfl rfl rfl ?_
  refine w_call (P := PP X) (M := 0) (p' := 264) (M' := 53) (as := [.inr (.inr (.inl (some 113)))]) (rest := [.inl c]) rfl rfl (by decide) rfl rfl (Nat.le_of_ble_eq_true rfl) rfl rfl (Nat.le_of_ble_eq_true rfl) (by rw [c16, c53, c0]; omega) (by rw [d16, d53, d0]; omega) (rfl : q_tag S0 113 = some 4) (by rw [n53]; exact Nat.le_of_ble_eq_true rfl) h (fun k S' s' hq => by obtain ⟨-, x, e, -⟩ := hq; cases e) ?_
  rintro w S' s2 ⟨rfl, y, e0, h⟩
  cases e0
  obtain ⟨he, hI⟩ := h
  refine w_icmp (P := PP X) (M := 0) (t := 917) (e := 267) rfl rfl rfl (fun _ => ?_) (fun q => absurd he q)
  refine w_cut (a := [some (.inr (.inr (.inr ()))), some (.inr (.inr (.inl (some 0)))), some (.inr (.inr (.inl (some 113)))), some (.inr (.inr (.inl (some 161)))), some (.inl x4), none, none]) ⟨rfl, rfl, rfl, rfl, rfl, trivial⟩ (k _ _ _ hI (by rw [c16, c53]; omega) (by rw [d16, d53]; omega))
def O_character (I : qM → Prop) (X : Nat × (Nat → Int32)) (x1 : Int) (s : qM) : Prop := c_W_character X x1 s (fun c s1 => c_m_character X x1 s1 (fun y s2 => c_m_thrown X s2 (fun e s3 => e = c ∧ (c = 0 → s3 161 0 = y) ∧ I s3)))
set_option maxRecDepth 100000 in
set_option maxHeartbeats 4000000 in
theorem q_law_character {I : qM → Prop} {X : Nat × (Nat → Int32)} {x4 : Int} {s : qM} {kc ks : Nat} {Q : qQ} (h0 : 0 ≤ x4) (h1 : x4 + 3 ≤ (X.1 : Int)) (hX : X.1 ≤ 1536) (hc : kc + 1 ≤ 601024) (hs : ks + 6 ≤ 7293034) (h : O_character I X ((X.2 (x4 + 1).toNat).toInt) s) (k : ∀ s' kc' ks', I s' → kc' ≤ kc + 1 → ks' ≤ ks + 6 → L_law_917 X x4 s' kc' ks' Q) : q_W (PP X) 0 (269, [some (.inr (.inr (.inr ()))), some (.inr (.inr (.inl (some 0)))), some (.inr (.inr (.inl (some 113)))), some (.inr (.inr (.inl (some 161)))), some (.inl x4), none, none], [], S0, s, kc, ks) Q := by
  have c3 : (PP X).2.1 3 = 1 := by show (q_rm 3).2.2.1 = _; decide +kernel
  have d3 : (PP X).2.2.1 3 = 6 := by show (q_rm 3).2.2.2 = _; decide +kernel
  have n3 : (PP X).2.2.2.1 3 = q_nL 3 := rfl
  have c54 : (PP X).2.1 54 = 0 := by show (q_rm 54).2.2.1 = _; decide +kernel
  have d54 : (PP X).2.2.1 54 = 0 := by show (q_rm 54).2.2.2 = _; decide +kernel
  have n54 : (PP X).2.2.2.1 54 = q_nL 54 := rfl
  have c45 : (PP X).2.1 45 = 0 := by show (q_rm 45).2.2.1 = _; decide +kernel
  have d45 : (PP X).2.2.1 45 = 0 := by show (q_rm 45).2.2.2 = _; decide +kernel
  have n45 : (PP X).2.2.2.1 45 = q_nL 45 := rfl
  have c0 : (PP X).2.1 0 = 601024 := by show (q_rm 0).2.2.1 = _; decide +kernel
  have d0 : (PP X).2.2.1 0 = 7293034 := by show (q_rm 0).2.2.2 = _; decide +kernel
  refine w_aload (P := PP X) (M := 0) (p' := 270) rfl rfl rfl rfl ?_
  refine w_xload (P := PP X) (M := 0) (p' := 271) rfl rfl rfl rfl ?_
  refine w_iload (P := PP X) (M := 0) (p' := 273) rfl rfl rfl rfl ?_
  refine w_const (P := PP X) (M := 0) (p' := 274) rfl rfl rfl ?_
  refine w_add (P := PP X) (M := 0) (p' := 275) rfl rfl ⟨by omega, by omega⟩ ?_
  refine w_xald (P := PP X) (M := 0) (p' := 276) rfl rfl rfl (by omega) (by show (_ : Int) < (X.1 : Int); omega) ?_
  refine w_aload (P := PP X) (M := 0) (p' := 277) rfl rfl rfl rfl ?_
  refine w_call (P := PP X) (M := 0) (p' := 280) (M' := 3) (as := [.inr (.inr (.inl (some 0))), .inl ((X.2 (x4 + 1).toNat).toInt), .inr (.inr (.inl (some 161)))]) (rest := []) rfl rfl (by decide) rfl rfl (Nat.le_of_ble_eq_true rfl) rfl rfl (Nat.le_of_ble_eq_true rfl) (by rw [c3, c0]; omega) (by rw [d3, d0]; omega) trivial (by rw [n3]; exact Nat.le_of_ble_eq_true rfl) h (fun k S' s' hq => by obtain ⟨-, x, e, -⟩ := hq; cases e) ?_
  rintro w S' s1 ⟨rfl, c, e0, h⟩
  cases e0
  refine w_istore (P := PP X) (M := 0) (p' := 282) rfl rfl rfl (Nat.le_of_ble_eq_true rfl) rfl ?_
  refine w_aload (P := PP X) (M := 0) (p' := 283) rfl rfl rfl rfl ?_
  refine w_xload (P := PP X) (M := 0) (p' := 284) rfl rfl rfl rfl ?_
  refine w_iload (P := PP X) (M := 0) (p' := 286) rfl rfl rfl rfl ?_
  refine w_const (P := PP X) (M := 0) (p' := 287) rfl rfl rfl ?_
  refine w_add (P := PP X) (M := 0) (p' := 288) rfl rfl ⟨by omega, by omega⟩ ?_
  refine w_xald (P := PP X) (M := 0) (p' := 289) rfl rfl rfl (by omega) (by show (_ : Int) < (X.1 : Int); omega) ?_
  refine w_call (P := PP X) (M := 0) (p' := 292) (M' := 54) (as := [.inr (.inr (.inl (some 113))), .inl ((X.2 (x4 + 1).toNat).toInt)]) (rest := []) rfl rfl (by decide) rfl rfl (Nat.le_of_ble_eq_true rfl) rfl rfl (Nat.le_of_ble_eq_true rfl) (by rw [c3, c54, c0]; omega) (by rw [d3, d54, d0]; omega) (rfl : q_tag S0 113 = some 4) (by rw [n54]; exact Nat.le_of_ble_eq_true rfl) h (fun k S' s' hq => by obtain ⟨-, x, e, -⟩ := hq; cases e) ?_
  rintro w S' s2 ⟨rfl, y, e0, h⟩
  cases e0
  refine w_istore (P := PP X) (M := 0) (p' := 294) rfl rfl rfl (Nat.le_of_ble_eq_true rfl) rfl ?_
  refine w_aload (P := PP X) (M := 0) (p' := 295) rfl rfl rfl rfl ?_
  refine w_call (P := PP X) (M := 0) (p' := 298) (M' := 45) (as := [.inr (.inr (.inl (some 113)))]) (rest := []) rfl rfl (by decide) rfl rfl (Nat.le_of_ble_eq_true rfl) rfl rfl (Nat.le_of_ble_eq_true rfl) (by rw [c3, c54, c45, c0]; omega) (by rw [d3, d54, d45, d0]; omega) (rfl : q_tag S0 113 = some 4) (by rw [n45]; exact Nat.le_of_ble_eq_true rfl) h (fun k S' s' hq => by obtain ⟨-, x, e, -⟩ := hq; cases e) ?_
  rintro w S' s3 ⟨rfl, e, e0, h⟩
  cases e0
  refine w_iload (P := PP X) (M := 0) (p' := 300) rfl rfl rfl rfl ?_
  obtain ⟨he, hy, hI⟩ := h
  refine w_icmp (P := PP X) (M := 0) (t := 305) (e := 303) rfl rfl rfl (fun _ => ?_) (fun q => absurd he q)
  refine w_iload (P := PP X) (M := 0) (p' := 307) rfl rfl rfl rfl ?_
  have last : q_W (PP X) 0 (322, [some (.inr (.inr (.inr ()))), some (.inr (.inr (.inl (some 0)))), some (.inr (.inr (.inl (some 113)))), some (.inr (.inr (.inl (some 161)))), some (.inl x4), some (.inl c), some (.inl y)], [], S0, s3, kc + (PP X).2.1 3 + (PP X).2.1 54 + (PP X).2.1 45, ks + (PP X).2.2.1 3 + (PP X).2.2.1 54 + (PP X).2.2.1 45) Q := by
    refine w_goto (P := PP X) (M := 0) (p' := 917) rfl rfl ?_
    refine w_cut (a := [some (.inr (.inr (.inr ()))), some (.inr (.inr (.inl (some 0)))), some (.inr (.inr (.inl (some 113)))), some (.inr (.inr (.inl (some 161)))), some (.inl x4), none, none]) ⟨rfl, rfl, rfl, rfl, rfl, trivial⟩ (k _ _ _ hI (by rw [c3, c54, c45]; omega) (by rw [d3, d54, d45]; omega))
  refine w_if (P := PP X) (M := 0) (t := 322) (e := 310) rfl rfl rfl (fun _ => last) (fun q => ?_)
  have hc0 : c = 0 := Classical.byContradiction fun z => q z
  have hy := hy hc0
  refine w_aload (P := PP X) (M := 0) (p' := 311) rfl rfl rfl rfl ?_
  refine w_const (P := PP X) (M := 0) (p' := 312) rfl rfl rfl ?_
  refine w_lald (P := PP X) (M := 0) (p' := 313) (N := 1) rfl rfl rfl rfl (by decide) (by decide) ?_
  refine w_iload (P := PP X) (M := 0) (p' := 315) rfl rfl rfl rfl ?_
  refine w_i2l (P := PP X) (M := 0) (p' := 316) rfl rfl ?_
  refine w_lcmp (P := PP X) (M := 0) (p' := 317) rfl rfl ?_
  refine w_if (P := PP X) (M := 0) (t := 322) (e := 320) rfl rfl rfl (fun _ => last) (fun q => absurd ?_ q)
  show q_lcmp (s3 161 0) y = 0
  rw [hy]
  simp [q_lcmp]
def O_clear (I : qM → Prop) (X : Nat × (Nat → Int32)) (s : qM) : Prop := c_T_clear X s (fun c s1 => c_m_clear X s1 (fun y s2 => c = y ∧ I s2))
set_option maxRecDepth 100000 in
set_option maxHeartbeats 4000000 in
theorem q_law_clear {I : qM → Prop} {X : Nat × (Nat → Int32)} {x4 : Int} {s : qM} {kc ks : Nat} {Q : qQ} (h0 : 0 ≤ x4) (h1 : x4 + 3 ≤ (X.1 : Int)) (hX : X.1 ≤ 1536) (hc : kc + 1 ≤ 601024) (hs : ks + 6 ≤ 7293034) (h : O_clear I X  s) (k : ∀ s' kc' ks', I s' → kc' ≤ kc + 1 → ks' ≤ ks + 6 → L_law_917 X x4 s' kc' ks' Q) : q_W (PP X) 0 (325, [some (.inr (.inr (.inr ()))), some (.inr (.inr (.inl (some 0)))), some (.inr (.inr (.inl (some 113)))), some (.inr (.inr (.inl (some 161)))), some (.inl x4), none, none], [], S0, s, kc, ks) Q := by
  have c18 : (PP X).2.1 18 = 0 := by show (q_rm 18).2.2.1 = _; decide +kernel
  have d18 : (PP X).2.2.1 18 = 0 := by show (q_rm 18).2.2.2 = _; decide +kernel
  have n18 : (PP X).2.2.2.1 18 = q_nL 18 := rfl
  have c55 : (PP X).2.1 55 = 0 := by show (q_rm 55).2.2.1 = _; decide +kernel
  have d55 : (PP X).2.2.1 55 = 0 := by show (q_rm 55).2.2.2 = _; decide +kernel
  have n55 : (PP X).2.2.2.1 55 = q_nL 55 := rfl
  have c0 : (PP X).2.1 0 = 601024 := by show (q_rm 0).2.2.1 = _; decide +kernel
  have d0 : (PP X).2.2.1 0 = 7293034 := by show (q_rm 0).2.2.2 = _; decide +kernel
  refine w_aload (P := PP X) (M := 0) (p' := 326) rfl rfl rfl rfl ?_
  refine w_call (P := PP X) (M := 0) (p' := 329) (M' := 18) (as := [.inr (.inr (.inl (some 0)))]) (rest := []) rfl rfl (by decide) rfl rfl (Nat.le_of_ble_eq_true rfl) rfl rfl (Nat.le_of_ble_eq_true rfl) (by rw [c18, c0]; omega) (by rw [d18, d0]; omega) (rfl : q_tag S0 0 = some 3) (by rw [n18]; exact Nat.le_of_ble_eq_true rfl) h (fun k S' s' hq => by obtain ⟨-, x, e, -⟩ := hq; cases e) ?_
  rintro w S' s1 ⟨rfl, c, e0, h⟩
  cases e0
  refine w_aload (P := PP X) (M := 0) (p' := 330) rfl rfl rfl rfl ?_
  refine w_call (P := PP X) (M := 0) (p' := 333) (M' := 55) (as := [.inr (.inr (.inl (some 113)))]) (rest := [.inl c]) rfl rfl (by decide) rfl rfl (Nat.le_of_ble_eq_true rfl) rfl rfl (Nat.le_of_ble_eq_true rfl) (by rw [c18, c55, c0]; omega) (by rw [d18, d55, d0]; omega) (rfl : q_tag S0 113 = some 4) (by rw [n55]; exact Nat.le_of_ble_eq_true rfl) h (fun k S' s' hq => by obtain ⟨-, x, e, -⟩ := hq; cases e) ?_
  rintro w S' s2 ⟨rfl, y, e0, h⟩
  cases e0
  obtain ⟨he, hI⟩ := h
  refine w_icmp (P := PP X) (M := 0) (t := 917) (e := 336) rfl rfl rfl (fun _ => ?_) (fun q => absurd he q)
  refine w_cut (a := [some (.inr (.inr (.inr ()))), some (.inr (.inr (.inl (some 0)))), some (.inr (.inr (.inl (some 113)))), some (.inr (.inr (.inl (some 161)))), some (.inl x4), none, none]) ⟨rfl, rfl, rfl, rfl, rfl, trivial⟩ (k _ _ _ hI (by rw [c18, c55]; omega) (by rw [d18, d55]; omega))
def O_nodes (I : qM → Prop) (X : Nat × (Nat → Int32)) (s : qM) : Prop := c_T_nodes X s (fun c s1 => c_m_nodes X s1 (fun y s2 => c = y ∧ I s2))
set_option maxRecDepth 100000 in
set_option maxHeartbeats 4000000 in
theorem q_law_nodes {I : qM → Prop} {X : Nat × (Nat → Int32)} {x4 : Int} {s : qM} {kc ks : Nat} {Q : qQ} (h0 : 0 ≤ x4) (h1 : x4 + 3 ≤ (X.1 : Int)) (hX : X.1 ≤ 1536) (hc : kc + 1 ≤ 601024) (hs : ks + 6 ≤ 7293034) (h : O_nodes I X  s) (k : ∀ s' kc' ks', I s' → kc' ≤ kc + 1 → ks' ≤ ks + 6 → L_law_917 X x4 s' kc' ks' Q) : q_W (PP X) 0 (338, [some (.inr (.inr (.inr ()))), some (.inr (.inr (.inl (some 0)))), some (.inr (.inr (.inl (some 113)))), some (.inr (.inr (.inl (some 161)))), some (.inl x4), none, none], [], S0, s, kc, ks) Q := by
  have c19 : (PP X).2.1 19 = 0 := by show (q_rm 19).2.2.1 = _; decide +kernel
  have d19 : (PP X).2.2.1 19 = 0 := by show (q_rm 19).2.2.2 = _; decide +kernel
  have n19 : (PP X).2.2.2.1 19 = q_nL 19 := rfl
  have c101 : (PP X).2.1 101 = 0 := by show (q_rm 101).2.2.1 = _; decide +kernel
  have d101 : (PP X).2.2.1 101 = 0 := by show (q_rm 101).2.2.2 = _; decide +kernel
  have n101 : (PP X).2.2.2.1 101 = q_nL 101 := rfl
  have c0 : (PP X).2.1 0 = 601024 := by show (q_rm 0).2.2.1 = _; decide +kernel
  have d0 : (PP X).2.2.1 0 = 7293034 := by show (q_rm 0).2.2.2 = _; decide +kernel
  refine w_aload (P := PP X) (M := 0) (p' := 339) rfl rfl rfl rfl ?_
  refine w_call (P := PP X) (M := 0) (p' := 342) (M' := 19) (as := [.inr (.inr (.inl (some 0)))]) (rest := []) rfl rfl (by decide) rfl rfl (Nat.le_of_ble_eq_true rfl) rfl rfl (Nat.le_of_ble_eq_true rfl) (by rw [c19, c0]; omega) (by rw [d19, d0]; omega) (rfl : q_tag S0 0 = some 3) (by rw [n19]; exact Nat.le_of_ble_eq_true rfl) h (fun k S' s' hq => by obtain ⟨-, x, e, -⟩ := hq; cases e) ?_
  rintro w S' s1 ⟨rfl, c, e0, h⟩
  cases e0
  refine w_aload (P := PP X) (M := 0) (p' := 343) rfl rfl rfl rfl ?_
  refine w_call (P := PP X) (M := 0) (p' := 346) (M' := 101) (as := [.inr (.inr (.inl (some 113)))]) (rest := [.inl c]) rfl rfl (by decide) rfl rfl (Nat.le_of_ble_eq_true rfl) rfl rfl (Nat.le_of_ble_eq_true rfl) (by rw [c19, c101, c0]; omega) (by rw [d19, d101, d0]; omega) (rfl : q_tag S0 113 = some 4) (by rw [n101]; exact Nat.le_of_ble_eq_true rfl) h (fun k S' s' hq => by obtain ⟨-, x, e, -⟩ := hq; cases e) ?_
  rintro w S' s2 ⟨rfl, y, e0, h⟩
  cases e0
  obtain ⟨he, hI⟩ := h
  refine w_icmp (P := PP X) (M := 0) (t := 917) (e := 349) rfl rfl rfl (fun _ => ?_) (fun q => absurd he q)
  refine w_cut (a := [some (.inr (.inr (.inr ()))), some (.inr (.inr (.inl (some 0)))), some (.inr (.inr (.inl (some 113)))), some (.inr (.inr (.inl (some 161)))), some (.inl x4), none, none]) ⟨rfl, rfl, rfl, rfl, rfl, trivial⟩ (k _ _ _ hI (by rw [c19, c101]; omega) (by rw [d19, d101]; omega))
def O_node (I : qM → Prop) (X : Nat × (Nat → Int32)) (x1 : Int) (x2 : Int) (s : qM) : Prop := c_W_node X x1 x2 s (fun c s1 => c_m_node X x1 x2 s1 (fun y s2 => c_m_thrown X s2 (fun e s3 => e = c ∧ (c = 0 → s3 161 0 = y) ∧ I s3)))
set_option maxRecDepth 100000 in
set_option maxHeartbeats 4000000 in
theorem q_law_node {I : qM → Prop} {X : Nat × (Nat → Int32)} {x4 : Int} {s : qM} {kc ks : Nat} {Q : qQ} (h0 : 0 ≤ x4) (h1 : x4 + 3 ≤ (X.1 : Int)) (hX : X.1 ≤ 1536) (hc : kc + 1 ≤ 601024) (hs : ks + 6 ≤ 7293034) (h : O_node I X ((X.2 (x4 + 1).toNat).toInt) ((X.2 (x4 + 2).toNat).toInt) s) (k : ∀ s' kc' ks', I s' → kc' ≤ kc + 1 → ks' ≤ ks + 6 → L_law_917 X x4 s' kc' ks' Q) : q_W (PP X) 0 (351, [some (.inr (.inr (.inr ()))), some (.inr (.inr (.inl (some 0)))), some (.inr (.inr (.inl (some 113)))), some (.inr (.inr (.inl (some 161)))), some (.inl x4), none, none], [], S0, s, kc, ks) Q := by
  have c4 : (PP X).2.1 4 = 1 := by show (q_rm 4).2.2.1 = _; decide +kernel
  have d4 : (PP X).2.2.1 4 = 6 := by show (q_rm 4).2.2.2 = _; decide +kernel
  have n4 : (PP X).2.2.2.1 4 = q_nL 4 := rfl
  have c102 : (PP X).2.1 102 = 0 := by show (q_rm 102).2.2.1 = _; decide +kernel
  have d102 : (PP X).2.2.1 102 = 0 := by show (q_rm 102).2.2.2 = _; decide +kernel
  have n102 : (PP X).2.2.2.1 102 = q_nL 102 := rfl
  have c45 : (PP X).2.1 45 = 0 := by show (q_rm 45).2.2.1 = _; decide +kernel
  have d45 : (PP X).2.2.1 45 = 0 := by show (q_rm 45).2.2.2 = _; decide +kernel
  have n45 : (PP X).2.2.2.1 45 = q_nL 45 := rfl
  have c0 : (PP X).2.1 0 = 601024 := by show (q_rm 0).2.2.1 = _; decide +kernel
  have d0 : (PP X).2.2.1 0 = 7293034 := by show (q_rm 0).2.2.2 = _; decide +kernel
  refine w_aload (P := PP X) (M := 0) (p' := 352) rfl rfl rfl rfl ?_
  refine w_xload (P := PP X) (M := 0) (p' := 353) rfl rfl rfl rfl ?_
  refine w_iload (P := PP X) (M := 0) (p' := 355) rfl rfl rfl rfl ?_
  refine w_const (P := PP X) (M := 0) (p' := 356) rfl rfl rfl ?_
  refine w_add (P := PP X) (M := 0) (p' := 357) rfl rfl ⟨by omega, by omega⟩ ?_
  refine w_xald (P := PP X) (M := 0) (p' := 358) rfl rfl rfl (by omega) (by show (_ : Int) < (X.1 : Int); omega) ?_
  refine w_xload (P := PP X) (M := 0) (p' := 359) rfl rfl rfl rfl ?_
  refine w_iload (P := PP X) (M := 0) (p' := 361) rfl rfl rfl rfl ?_
  refine w_const (P := PP X) (M := 0) (p' := 362) rfl rfl rfl ?_
  refine w_add (P := PP X) (M := 0) (p' := 363) rfl rfl ⟨by omega, by omega⟩ ?_
  refine w_xald (P := PP X) (M := 0) (p' := 364) rfl rfl rfl (by omega) (by show (_ : Int) < (X.1 : Int); omega) ?_
  refine w_aload (P := PP X) (M := 0) (p' := 365) rfl rfl rfl rfl ?_
  refine w_call (P := PP X) (M := 0) (p' := 368) (M' := 4) (as := [.inr (.inr (.inl (some 0))), .inl ((X.2 (x4 + 1).toNat).toInt), .inl ((X.2 (x4 + 2).toNat).toInt), .inr (.inr (.inl (some 161)))]) (rest := []) rfl rfl (by decide) rfl rfl (Nat.le_of_ble_eq_true rfl) rfl rfl (Nat.le_of_ble_eq_true rfl) (by rw [c4, c0]; omega) (by rw [d4, d0]; omega) trivial (by rw [n4]; exact Nat.le_of_ble_eq_true rfl) h (fun k S' s' hq => by obtain ⟨-, x, e, -⟩ := hq; cases e) ?_
  rintro w S' s1 ⟨rfl, c, e0, h⟩
  cases e0
  refine w_istore (P := PP X) (M := 0) (p' := 370) rfl rfl rfl (Nat.le_of_ble_eq_true rfl) rfl ?_
  refine w_aload (P := PP X) (M := 0) (p' := 371) rfl rfl rfl rfl ?_
  refine w_xload (P := PP X) (M := 0) (p' := 372) rfl rfl rfl rfl ?_
  refine w_iload (P := PP X) (M := 0) (p' := 374) rfl rfl rfl rfl ?_
  refine w_const (P := PP X) (M := 0) (p' := 375) rfl rfl rfl ?_
  refine w_add (P := PP X) (M := 0) (p' := 376) rfl rfl ⟨by omega, by omega⟩ ?_
  refine w_xald (P := PP X) (M := 0) (p' := 377) rfl rfl rfl (by omega) (by show (_ : Int) < (X.1 : Int); omega) ?_
  refine w_xload (P := PP X) (M := 0) (p' := 378) rfl rfl rfl rfl ?_
  refine w_iload (P := PP X) (M := 0) (p' := 380) rfl rfl rfl rfl ?_
  refine w_const (P := PP X) (M := 0) (p' := 381) rfl rfl rfl ?_
  refine w_add (P := PP X) (M := 0) (p' := 382) rfl rfl ⟨by omega, by omega⟩ ?_
  refine w_xald (P := PP X) (M := 0) (p' := 383) rfl rfl rfl (by omega) (by show (_ : Int) < (X.1 : Int); omega) ?_
  refine w_call (P := PP X) (M := 0) (p' := 386) (M' := 102) (as := [.inr (.inr (.inl (some 113))), .inl ((X.2 (x4 + 1).toNat).toInt), .inl ((X.2 (x4 + 2).toNat).toInt)]) (rest := []) rfl rfl (by decide) rfl rfl (Nat.le_of_ble_eq_true rfl) rfl rfl (Nat.le_of_ble_eq_true rfl) (by rw [c4, c102, c0]; omega) (by rw [d4, d102, d0]; omega) (rfl : q_tag S0 113 = some 4) (by rw [n102]; exact Nat.le_of_ble_eq_true rfl) h (fun k S' s' hq => by obtain ⟨-, x, e, -⟩ := hq; cases e) ?_
  rintro w S' s2 ⟨rfl, y, e0, h⟩
  cases e0
  refine w_istore (P := PP X) (M := 0) (p' := 388) rfl rfl rfl (Nat.le_of_ble_eq_true rfl) rfl ?_
  refine w_aload (P := PP X) (M := 0) (p' := 389) rfl rfl rfl rfl ?_
  refine w_call (P := PP X) (M := 0) (p' := 392) (M' := 45) (as := [.inr (.inr (.inl (some 113)))]) (rest := []) rfl rfl (by decide) rfl rfl (Nat.le_of_ble_eq_true rfl) rfl rfl (Nat.le_of_ble_eq_true rfl) (by rw [c4, c102, c45, c0]; omega) (by rw [d4, d102, d45, d0]; omega) (rfl : q_tag S0 113 = some 4) (by rw [n45]; exact Nat.le_of_ble_eq_true rfl) h (fun k S' s' hq => by obtain ⟨-, x, e, -⟩ := hq; cases e) ?_
  rintro w S' s3 ⟨rfl, e, e0, h⟩
  cases e0
  refine w_iload (P := PP X) (M := 0) (p' := 394) rfl rfl rfl rfl ?_
  obtain ⟨he, hy, hI⟩ := h
  refine w_icmp (P := PP X) (M := 0) (t := 399) (e := 397) rfl rfl rfl (fun _ => ?_) (fun q => absurd he q)
  refine w_iload (P := PP X) (M := 0) (p' := 401) rfl rfl rfl rfl ?_
  have last : q_W (PP X) 0 (416, [some (.inr (.inr (.inr ()))), some (.inr (.inr (.inl (some 0)))), some (.inr (.inr (.inl (some 113)))), some (.inr (.inr (.inl (some 161)))), some (.inl x4), some (.inl c), some (.inl y)], [], S0, s3, kc + (PP X).2.1 4 + (PP X).2.1 102 + (PP X).2.1 45, ks + (PP X).2.2.1 4 + (PP X).2.2.1 102 + (PP X).2.2.1 45) Q := by
    refine w_goto (P := PP X) (M := 0) (p' := 917) rfl rfl ?_
    refine w_cut (a := [some (.inr (.inr (.inr ()))), some (.inr (.inr (.inl (some 0)))), some (.inr (.inr (.inl (some 113)))), some (.inr (.inr (.inl (some 161)))), some (.inl x4), none, none]) ⟨rfl, rfl, rfl, rfl, rfl, trivial⟩ (k _ _ _ hI (by rw [c4, c102, c45]; omega) (by rw [d4, d102, d45]; omega))
  refine w_if (P := PP X) (M := 0) (t := 416) (e := 404) rfl rfl rfl (fun _ => last) (fun q => ?_)
  have hc0 : c = 0 := Classical.byContradiction fun z => q z
  have hy := hy hc0
  refine w_aload (P := PP X) (M := 0) (p' := 405) rfl rfl rfl rfl ?_
  refine w_const (P := PP X) (M := 0) (p' := 406) rfl rfl rfl ?_
  refine w_lald (P := PP X) (M := 0) (p' := 407) (N := 1) rfl rfl rfl rfl (by decide) (by decide) ?_
  refine w_iload (P := PP X) (M := 0) (p' := 409) rfl rfl rfl rfl ?_
  refine w_i2l (P := PP X) (M := 0) (p' := 410) rfl rfl ?_
  refine w_lcmp (P := PP X) (M := 0) (p' := 411) rfl rfl ?_
  refine w_if (P := PP X) (M := 0) (t := 416) (e := 414) rfl rfl rfl (fun _ => last) (fun q => absurd ?_ q)
  show q_lcmp (s3 161 0) y = 0
  rw [hy]
  simp [q_lcmp]
def O_child (I : qM → Prop) (X : Nat × (Nat → Int32)) (x1 : Int) (x2 : Int) (s : qM) : Prop := c_W_child X x1 x2 s (fun c s1 => c_m_child X x1 x2 s1 (fun y s2 => c_m_thrown X s2 (fun e s3 => e = c ∧ (c = 0 → s3 161 0 = y) ∧ I s3)))
set_option maxRecDepth 100000 in
set_option maxHeartbeats 4000000 in
theorem q_law_child {I : qM → Prop} {X : Nat × (Nat → Int32)} {x4 : Int} {s : qM} {kc ks : Nat} {Q : qQ} (h0 : 0 ≤ x4) (h1 : x4 + 3 ≤ (X.1 : Int)) (hX : X.1 ≤ 1536) (hc : kc + 1 ≤ 601024) (hs : ks + 6 ≤ 7293034) (h : O_child I X ((X.2 (x4 + 1).toNat).toInt) ((X.2 (x4 + 2).toNat).toInt) s) (k : ∀ s' kc' ks', I s' → kc' ≤ kc + 1 → ks' ≤ ks + 6 → L_law_917 X x4 s' kc' ks' Q) : q_W (PP X) 0 (419, [some (.inr (.inr (.inr ()))), some (.inr (.inr (.inl (some 0)))), some (.inr (.inr (.inl (some 113)))), some (.inr (.inr (.inl (some 161)))), some (.inl x4), none, none], [], S0, s, kc, ks) Q := by
  have c5 : (PP X).2.1 5 = 1 := by show (q_rm 5).2.2.1 = _; decide +kernel
  have d5 : (PP X).2.2.1 5 = 6 := by show (q_rm 5).2.2.2 = _; decide +kernel
  have n5 : (PP X).2.2.2.1 5 = q_nL 5 := rfl
  have c103 : (PP X).2.1 103 = 0 := by show (q_rm 103).2.2.1 = _; decide +kernel
  have d103 : (PP X).2.2.1 103 = 0 := by show (q_rm 103).2.2.2 = _; decide +kernel
  have n103 : (PP X).2.2.2.1 103 = q_nL 103 := rfl
  have c45 : (PP X).2.1 45 = 0 := by show (q_rm 45).2.2.1 = _; decide +kernel
  have d45 : (PP X).2.2.1 45 = 0 := by show (q_rm 45).2.2.2 = _; decide +kernel
  have n45 : (PP X).2.2.2.1 45 = q_nL 45 := rfl
  have c0 : (PP X).2.1 0 = 601024 := by show (q_rm 0).2.2.1 = _; decide +kernel
  have d0 : (PP X).2.2.1 0 = 7293034 := by show (q_rm 0).2.2.2 = _; decide +kernel
  refine w_aload (P := PP X) (M := 0) (p' := 420) rfl rfl rfl rfl ?_
  refine w_xload (P := PP X) (M := 0) (p' := 421) rfl rfl rfl rfl ?_
  refine w_iload (P := PP X) (M := 0) (p' := 423) rfl rfl rfl rfl ?_
  refine w_const (P := PP X) (M := 0) (p' := 424) rfl rfl rfl ?_
  refine w_add (P := PP X) (M := 0) (p' := 425) rfl rfl ⟨by omega, by omega⟩ ?_
  refine w_xald (P := PP X) (M := 0) (p' := 426) rfl rfl rfl (by omega) (by show (_ : Int) < (X.1 : Int); omega) ?_
  refine w_xload (P := PP X) (M := 0) (p' := 427) rfl rfl rfl rfl ?_
  refine w_iload (P := PP X) (M := 0) (p' := 429) rfl rfl rfl rfl ?_
  refine w_const (P := PP X) (M := 0) (p' := 430) rfl rfl rfl ?_
  refine w_add (P := PP X) (M := 0) (p' := 431) rfl rfl ⟨by omega, by omega⟩ ?_
  refine w_xald (P := PP X) (M := 0) (p' := 432) rfl rfl rfl (by omega) (by show (_ : Int) < (X.1 : Int); omega) ?_
  refine w_aload (P := PP X) (M := 0) (p' := 433) rfl rfl rfl rfl ?_
  refine w_call (P := PP X) (M := 0) (p' := 436) (M' := 5) (as := [.inr (.inr (.inl (some 0))), .inl ((X.2 (x4 + 1).toNat).toInt), .inl ((X.2 (x4 + 2).toNat).toInt), .inr (.inr (.inl (some 161)))]) (rest := []) rfl rfl (by decide) rfl rfl (Nat.le_of_ble_eq_true rfl) rfl rfl (Nat.le_of_ble_eq_true rfl) (by rw [c5, c0]; omega) (by rw [d5, d0]; omega) trivial (by rw [n5]; exact Nat.le_of_ble_eq_true rfl) h (fun k S' s' hq => by obtain ⟨-, x, e, -⟩ := hq; cases e) ?_
  rintro w S' s1 ⟨rfl, c, e0, h⟩
  cases e0
  refine w_istore (P := PP X) (M := 0) (p' := 438) rfl rfl rfl (Nat.le_of_ble_eq_true rfl) rfl ?_
  refine w_aload (P := PP X) (M := 0) (p' := 439) rfl rfl rfl rfl ?_
  refine w_xload (P := PP X) (M := 0) (p' := 440) rfl rfl rfl rfl ?_
  refine w_iload (P := PP X) (M := 0) (p' := 442) rfl rfl rfl rfl ?_
  refine w_const (P := PP X) (M := 0) (p' := 443) rfl rfl rfl ?_
  refine w_add (P := PP X) (M := 0) (p' := 444) rfl rfl ⟨by omega, by omega⟩ ?_
  refine w_xald (P := PP X) (M := 0) (p' := 445) rfl rfl rfl (by omega) (by show (_ : Int) < (X.1 : Int); omega) ?_
  refine w_xload (P := PP X) (M := 0) (p' := 446) rfl rfl rfl rfl ?_
  refine w_iload (P := PP X) (M := 0) (p' := 448) rfl rfl rfl rfl ?_
  refine w_const (P := PP X) (M := 0) (p' := 449) rfl rfl rfl ?_
  refine w_add (P := PP X) (M := 0) (p' := 450) rfl rfl ⟨by omega, by omega⟩ ?_
  refine w_xald (P := PP X) (M := 0) (p' := 451) rfl rfl rfl (by omega) (by show (_ : Int) < (X.1 : Int); omega) ?_
  refine w_call (P := PP X) (M := 0) (p' := 454) (M' := 103) (as := [.inr (.inr (.inl (some 113))), .inl ((X.2 (x4 + 1).toNat).toInt), .inl ((X.2 (x4 + 2).toNat).toInt)]) (rest := []) rfl rfl (by decide) rfl rfl (Nat.le_of_ble_eq_true rfl) rfl rfl (Nat.le_of_ble_eq_true rfl) (by rw [c5, c103, c0]; omega) (by rw [d5, d103, d0]; omega) (rfl : q_tag S0 113 = some 4) (by rw [n103]; exact Nat.le_of_ble_eq_true rfl) h (fun k S' s' hq => by obtain ⟨-, x, e, -⟩ := hq; cases e) ?_
  rintro w S' s2 ⟨rfl, y, e0, h⟩
  cases e0
  refine w_istore (P := PP X) (M := 0) (p' := 456) rfl rfl rfl (Nat.le_of_ble_eq_true rfl) rfl ?_
  refine w_aload (P := PP X) (M := 0) (p' := 457) rfl rfl rfl rfl ?_
  refine w_call (P := PP X) (M := 0) (p' := 460) (M' := 45) (as := [.inr (.inr (.inl (some 113)))]) (rest := []) rfl rfl (by decide) rfl rfl (Nat.le_of_ble_eq_true rfl) rfl rfl (Nat.le_of_ble_eq_true rfl) (by rw [c5, c103, c45, c0]; omega) (by rw [d5, d103, d45, d0]; omega) (rfl : q_tag S0 113 = some 4) (by rw [n45]; exact Nat.le_of_ble_eq_true rfl) h (fun k S' s' hq => by obtain ⟨-, x, e, -⟩ := hq; cases e) ?_
  rintro w S' s3 ⟨rfl, e, e0, h⟩
  cases e0
  refine w_iload (P := PP X) (M := 0) (p' := 462) rfl rfl rfl rfl ?_
  obtain ⟨he, hy, hI⟩ := h
  refine w_icmp (P := PP X) (M := 0) (t := 467) (e := 465) rfl rfl rfl (fun _ => ?_) (fun q => absurd he q)
  refine w_iload (P := PP X) (M := 0) (p' := 469) rfl rfl rfl rfl ?_
  have last : q_W (PP X) 0 (484, [some (.inr (.inr (.inr ()))), some (.inr (.inr (.inl (some 0)))), some (.inr (.inr (.inl (some 113)))), some (.inr (.inr (.inl (some 161)))), some (.inl x4), some (.inl c), some (.inl y)], [], S0, s3, kc + (PP X).2.1 5 + (PP X).2.1 103 + (PP X).2.1 45, ks + (PP X).2.2.1 5 + (PP X).2.2.1 103 + (PP X).2.2.1 45) Q := by
    refine w_goto (P := PP X) (M := 0) (p' := 917) rfl rfl ?_
    refine w_cut (a := [some (.inr (.inr (.inr ()))), some (.inr (.inr (.inl (some 0)))), some (.inr (.inr (.inl (some 113)))), some (.inr (.inr (.inl (some 161)))), some (.inl x4), none, none]) ⟨rfl, rfl, rfl, rfl, rfl, trivial⟩ (k _ _ _ hI (by rw [c5, c103, c45]; omega) (by rw [d5, d103, d45]; omega))
  refine w_if (P := PP X) (M := 0) (t := 484) (e := 472) rfl rfl rfl (fun _ => last) (fun q => ?_)
  have hc0 : c = 0 := Classical.byContradiction fun z => q z
  have hy := hy hc0
  refine w_aload (P := PP X) (M := 0) (p' := 473) rfl rfl rfl rfl ?_
  refine w_const (P := PP X) (M := 0) (p' := 474) rfl rfl rfl ?_
  refine w_lald (P := PP X) (M := 0) (p' := 475) (N := 1) rfl rfl rfl rfl (by decide) (by decide) ?_
  refine w_iload (P := PP X) (M := 0) (p' := 477) rfl rfl rfl rfl ?_
  refine w_i2l (P := PP X) (M := 0) (p' := 478) rfl rfl ?_
  refine w_lcmp (P := PP X) (M := 0) (p' := 479) rfl rfl ?_
  refine w_if (P := PP X) (M := 0) (t := 484) (e := 482) rfl rfl rfl (fun _ => last) (fun q => absurd ?_ q)
  show q_lcmp (s3 161 0) y = 0
  rw [hy]
  simp [q_lcmp]
def O_owner (I : qM → Prop) (X : Nat × (Nat → Int32)) (x1 : Int) (s : qM) : Prop := c_W_owner X x1 s (fun c s1 => c_m_owner X x1 s1 (fun y s2 => c_m_thrown X s2 (fun e s3 => e = c ∧ (c = 0 → s3 161 0 = y) ∧ I s3)))
set_option maxRecDepth 100000 in
set_option maxHeartbeats 4000000 in
theorem q_law_owner {I : qM → Prop} {X : Nat × (Nat → Int32)} {x4 : Int} {s : qM} {kc ks : Nat} {Q : qQ} (h0 : 0 ≤ x4) (h1 : x4 + 3 ≤ (X.1 : Int)) (hX : X.1 ≤ 1536) (hc : kc + 1 ≤ 601024) (hs : ks + 6 ≤ 7293034) (h : O_owner I X ((X.2 (x4 + 1).toNat).toInt) s) (k : ∀ s' kc' ks', I s' → kc' ≤ kc + 1 → ks' ≤ ks + 6 → L_law_917 X x4 s' kc' ks' Q) : q_W (PP X) 0 (487, [some (.inr (.inr (.inr ()))), some (.inr (.inr (.inl (some 0)))), some (.inr (.inr (.inl (some 113)))), some (.inr (.inr (.inl (some 161)))), some (.inl x4), none, none], [], S0, s, kc, ks) Q := by
  have c6 : (PP X).2.1 6 = 1 := by show (q_rm 6).2.2.1 = _; decide +kernel
  have d6 : (PP X).2.2.1 6 = 6 := by show (q_rm 6).2.2.2 = _; decide +kernel
  have n6 : (PP X).2.2.2.1 6 = q_nL 6 := rfl
  have c104 : (PP X).2.1 104 = 0 := by show (q_rm 104).2.2.1 = _; decide +kernel
  have d104 : (PP X).2.2.1 104 = 0 := by show (q_rm 104).2.2.2 = _; decide +kernel
  have n104 : (PP X).2.2.2.1 104 = q_nL 104 := rfl
  have c45 : (PP X).2.1 45 = 0 := by show (q_rm 45).2.2.1 = _; decide +kernel
  have d45 : (PP X).2.2.1 45 = 0 := by show (q_rm 45).2.2.2 = _; decide +kernel
  have n45 : (PP X).2.2.2.1 45 = q_nL 45 := rfl
  have c0 : (PP X).2.1 0 = 601024 := by show (q_rm 0).2.2.1 = _; decide +kernel
  have d0 : (PP X).2.2.1 0 = 7293034 := by show (q_rm 0).2.2.2 = _; decide +kernel
  refine w_aload (P := PP X) (M := 0) (p' := 488) rfl rfl rfl rfl ?_
  refine w_xload (P := PP X) (M := 0) (p' := 489) rfl rfl rfl rfl ?_
  refine w_iload (P := PP X) (M := 0) (p' := 491) rfl rfl rfl rfl ?_
  refine w_const (P := PP X) (M := 0) (p' := 492) rfl rfl rfl ?_
  refine w_add (P := PP X) (M := 0) (p' := 493) rfl rfl ⟨by omega, by omega⟩ ?_
  refine w_xald (P := PP X) (M := 0) (p' := 494) rfl rfl rfl (by omega) (by show (_ : Int) < (X.1 : Int); omega) ?_
  refine w_aload (P := PP X) (M := 0) (p' := 495) rfl rfl rfl rfl ?_
  refine w_call (P := PP X) (M := 0) (p' := 498) (M' := 6) (as := [.inr (.inr (.inl (some 0))), .inl ((X.2 (x4 + 1).toNat).toInt), .inr (.inr (.inl (some 161)))]) (rest := []) rfl rfl (by decide) rfl rfl (Nat.le_of_ble_eq_true rfl) rfl rfl (Nat.le_of_ble_eq_true rfl) (by rw [c6, c0]; omega) (by rw [d6, d0]; omega) trivial (by rw [n6]; exact Nat.le_of_ble_eq_true rfl) h (fun k S' s' hq => by obtain ⟨-, x, e, -⟩ := hq; cases e) ?_
  rintro w S' s1 ⟨rfl, c, e0, h⟩
  cases e0
  refine w_istore (P := PP X) (M := 0) (p' := 500) rfl rfl rfl (Nat.le_of_ble_eq_true rfl) rfl ?_
  refine w_aload (P := PP X) (M := 0) (p' := 501) rfl rfl rfl rfl ?_
  refine w_xload (P := PP X) (M := 0) (p' := 502) rfl rfl rfl rfl ?_
  refine w_iload (P := PP X) (M := 0) (p' := 504) rfl rfl rfl rfl ?_
  refine w_const (P := PP X) (M := 0) (p' := 505) rfl rfl rfl ?_
  refine w_add (P := PP X) (M := 0) (p' := 506) rfl rfl ⟨by omega, by omega⟩ ?_
  refine w_xald (P := PP X) (M := 0) (p' := 507) rfl rfl rfl (by omega) (by show (_ : Int) < (X.1 : Int); omega) ?_
  refine w_call (P := PP X) (M := 0) (p' := 510) (M' := 104) (as := [.inr (.inr (.inl (some 113))), .inl ((X.2 (x4 + 1).toNat).toInt)]) (rest := []) rfl rfl (by decide) rfl rfl (Nat.le_of_ble_eq_true rfl) rfl rfl (Nat.le_of_ble_eq_true rfl) (by rw [c6, c104, c0]; omega) (by rw [d6, d104, d0]; omega) (rfl : q_tag S0 113 = some 4) (by rw [n104]; exact Nat.le_of_ble_eq_true rfl) h (fun k S' s' hq => by obtain ⟨-, x, e, -⟩ := hq; cases e) ?_
  rintro w S' s2 ⟨rfl, y, e0, h⟩
  cases e0
  refine w_istore (P := PP X) (M := 0) (p' := 512) rfl rfl rfl (Nat.le_of_ble_eq_true rfl) rfl ?_
  refine w_aload (P := PP X) (M := 0) (p' := 513) rfl rfl rfl rfl ?_
  refine w_call (P := PP X) (M := 0) (p' := 516) (M' := 45) (as := [.inr (.inr (.inl (some 113)))]) (rest := []) rfl rfl (by decide) rfl rfl (Nat.le_of_ble_eq_true rfl) rfl rfl (Nat.le_of_ble_eq_true rfl) (by rw [c6, c104, c45, c0]; omega) (by rw [d6, d104, d45, d0]; omega) (rfl : q_tag S0 113 = some 4) (by rw [n45]; exact Nat.le_of_ble_eq_true rfl) h (fun k S' s' hq => by obtain ⟨-, x, e, -⟩ := hq; cases e) ?_
  rintro w S' s3 ⟨rfl, e, e0, h⟩
  cases e0
  refine w_iload (P := PP X) (M := 0) (p' := 518) rfl rfl rfl rfl ?_
  obtain ⟨he, hy, hI⟩ := h
  refine w_icmp (P := PP X) (M := 0) (t := 523) (e := 521) rfl rfl rfl (fun _ => ?_) (fun q => absurd he q)
  refine w_iload (P := PP X) (M := 0) (p' := 525) rfl rfl rfl rfl ?_
  have last : q_W (PP X) 0 (540, [some (.inr (.inr (.inr ()))), some (.inr (.inr (.inl (some 0)))), some (.inr (.inr (.inl (some 113)))), some (.inr (.inr (.inl (some 161)))), some (.inl x4), some (.inl c), some (.inl y)], [], S0, s3, kc + (PP X).2.1 6 + (PP X).2.1 104 + (PP X).2.1 45, ks + (PP X).2.2.1 6 + (PP X).2.2.1 104 + (PP X).2.2.1 45) Q := by
    refine w_goto (P := PP X) (M := 0) (p' := 917) rfl rfl ?_
    refine w_cut (a := [some (.inr (.inr (.inr ()))), some (.inr (.inr (.inl (some 0)))), some (.inr (.inr (.inl (some 113)))), some (.inr (.inr (.inl (some 161)))), some (.inl x4), none, none]) ⟨rfl, rfl, rfl, rfl, rfl, trivial⟩ (k _ _ _ hI (by rw [c6, c104, c45]; omega) (by rw [d6, d104, d45]; omega))
  refine w_if (P := PP X) (M := 0) (t := 540) (e := 528) rfl rfl rfl (fun _ => last) (fun q => ?_)
  have hc0 : c = 0 := Classical.byContradiction fun z => q z
  have hy := hy hc0
  refine w_aload (P := PP X) (M := 0) (p' := 529) rfl rfl rfl rfl ?_
  refine w_const (P := PP X) (M := 0) (p' := 530) rfl rfl rfl ?_
  refine w_lald (P := PP X) (M := 0) (p' := 531) (N := 1) rfl rfl rfl rfl (by decide) (by decide) ?_
  refine w_iload (P := PP X) (M := 0) (p' := 533) rfl rfl rfl rfl ?_
  refine w_i2l (P := PP X) (M := 0) (p' := 534) rfl rfl ?_
  refine w_lcmp (P := PP X) (M := 0) (p' := 535) rfl rfl ?_
  refine w_if (P := PP X) (M := 0) (t := 540) (e := 538) rfl rfl rfl (fun _ => last) (fun q => absurd ?_ q)
  show q_lcmp (s3 161 0) y = 0
  rw [hy]
  simp [q_lcmp]
def O_leads (I : qM → Prop) (X : Nat × (Nat → Int32)) (x1 : Int) (s : qM) : Prop := c_W_leads X x1 s (fun c s1 => c_m_leads X x1 s1 (fun y s2 => c_m_thrown X s2 (fun e s3 => e = c ∧ (c = 0 → s3 161 0 = y) ∧ I s3)))
set_option maxRecDepth 100000 in
set_option maxHeartbeats 4000000 in
theorem q_law_leads {I : qM → Prop} {X : Nat × (Nat → Int32)} {x4 : Int} {s : qM} {kc ks : Nat} {Q : qQ} (h0 : 0 ≤ x4) (h1 : x4 + 3 ≤ (X.1 : Int)) (hX : X.1 ≤ 1536) (hc : kc + 1 ≤ 601024) (hs : ks + 6 ≤ 7293034) (h : O_leads I X ((X.2 (x4 + 1).toNat).toInt) s) (k : ∀ s' kc' ks', I s' → kc' ≤ kc + 1 → ks' ≤ ks + 6 → L_law_917 X x4 s' kc' ks' Q) : q_W (PP X) 0 (543, [some (.inr (.inr (.inr ()))), some (.inr (.inr (.inl (some 0)))), some (.inr (.inr (.inl (some 113)))), some (.inr (.inr (.inl (some 161)))), some (.inl x4), none, none], [], S0, s, kc, ks) Q := by
  have c7 : (PP X).2.1 7 = 1 := by show (q_rm 7).2.2.1 = _; decide +kernel
  have d7 : (PP X).2.2.1 7 = 6 := by show (q_rm 7).2.2.2 = _; decide +kernel
  have n7 : (PP X).2.2.2.1 7 = q_nL 7 := rfl
  have c105 : (PP X).2.1 105 = 0 := by show (q_rm 105).2.2.1 = _; decide +kernel
  have d105 : (PP X).2.2.1 105 = 0 := by show (q_rm 105).2.2.2 = _; decide +kernel
  have n105 : (PP X).2.2.2.1 105 = q_nL 105 := rfl
  have c45 : (PP X).2.1 45 = 0 := by show (q_rm 45).2.2.1 = _; decide +kernel
  have d45 : (PP X).2.2.1 45 = 0 := by show (q_rm 45).2.2.2 = _; decide +kernel
  have n45 : (PP X).2.2.2.1 45 = q_nL 45 := rfl
  have c0 : (PP X).2.1 0 = 601024 := by show (q_rm 0).2.2.1 = _; decide +kernel
  have d0 : (PP X).2.2.1 0 = 7293034 := by show (q_rm 0).2.2.2 = _; decide +kernel
  refine w_aload (P := PP X) (M := 0) (p' := 544) rfl rfl rfl rfl ?_
  refine w_xload (P := PP X) (M := 0) (p' := 545) rfl rfl rfl rfl ?_
  refine w_iload (P := PP X) (M := 0) (p' := 547) rfl rfl rfl rfl ?_
  refine w_const (P := PP X) (M := 0) (p' := 548) rfl rfl rfl ?_
  refine w_add (P := PP X) (M := 0) (p' := 549) rfl rfl ⟨by omega, by omega⟩ ?_
  refine w_xald (P := PP X) (M := 0) (p' := 550) rfl rfl rfl (by omega) (by show (_ : Int) < (X.1 : Int); omega) ?_
  refine w_aload (P := PP X) (M := 0) (p' := 551) rfl rfl rfl rfl ?_
  refine w_call (P := PP X) (M := 0) (p' := 554) (M' := 7) (as := [.inr (.inr (.inl (some 0))), .inl ((X.2 (x4 + 1).toNat).toInt), .inr (.inr (.inl (some 161)))]) (rest := []) rfl rfl (by decide) rfl rfl (Nat.le_of_ble_eq_true rfl) rfl rfl (Nat.le_of_ble_eq_true rfl) (by rw [c7, c0]; omega) (by rw [d7, d0]; omega) trivial (by rw [n7]; exact Nat.le_of_ble_eq_true rfl) h (fun k S' s' hq => by obtain ⟨-, x, e, -⟩ := hq; cases e) ?_
  rintro w S' s1 ⟨rfl, c, e0, h⟩
  cases e0
  refine w_istore (P := PP X) (M := 0) (p' := 556) rfl rfl rfl (Nat.le_of_ble_eq_true rfl) rfl ?_
  refine w_aload (P := PP X) (M := 0) (p' := 557) rfl rfl rfl rfl ?_
  refine w_xload (P := PP X) (M := 0) (p' := 558) rfl rfl rfl rfl ?_
  refine w_iload (P := PP X) (M := 0) (p' := 560) rfl rfl rfl rfl ?_
  refine w_const (P := PP X) (M := 0) (p' := 561) rfl rfl rfl ?_
  refine w_add (P := PP X) (M := 0) (p' := 562) rfl rfl ⟨by omega, by omega⟩ ?_
  refine w_xald (P := PP X) (M := 0) (p' := 563) rfl rfl rfl (by omega) (by show (_ : Int) < (X.1 : Int); omega) ?_
  refine w_call (P := PP X) (M := 0) (p' := 566) (M' := 105) (as := [.inr (.inr (.inl (some 113))), .inl ((X.2 (x4 + 1).toNat).toInt)]) (rest := []) rfl rfl (by decide) rfl rfl (Nat.le_of_ble_eq_true rfl) rfl rfl (Nat.le_of_ble_eq_true rfl) (by rw [c7, c105, c0]; omega) (by rw [d7, d105, d0]; omega) (rfl : q_tag S0 113 = some 4) (by rw [n105]; exact Nat.le_of_ble_eq_true rfl) h (fun k S' s' hq => by obtain ⟨-, x, e, -⟩ := hq; cases e) ?_
  rintro w S' s2 ⟨rfl, y, e0, h⟩
  cases e0
  refine w_istore (P := PP X) (M := 0) (p' := 568) rfl rfl rfl (Nat.le_of_ble_eq_true rfl) rfl ?_
  refine w_aload (P := PP X) (M := 0) (p' := 569) rfl rfl rfl rfl ?_
  refine w_call (P := PP X) (M := 0) (p' := 572) (M' := 45) (as := [.inr (.inr (.inl (some 113)))]) (rest := []) rfl rfl (by decide) rfl rfl (Nat.le_of_ble_eq_true rfl) rfl rfl (Nat.le_of_ble_eq_true rfl) (by rw [c7, c105, c45, c0]; omega) (by rw [d7, d105, d45, d0]; omega) (rfl : q_tag S0 113 = some 4) (by rw [n45]; exact Nat.le_of_ble_eq_true rfl) h (fun k S' s' hq => by obtain ⟨-, x, e, -⟩ := hq; cases e) ?_
  rintro w S' s3 ⟨rfl, e, e0, h⟩
  cases e0
  refine w_iload (P := PP X) (M := 0) (p' := 574) rfl rfl rfl rfl ?_
  obtain ⟨he, hy, hI⟩ := h
  refine w_icmp (P := PP X) (M := 0) (t := 579) (e := 577) rfl rfl rfl (fun _ => ?_) (fun q => absurd he q)
  refine w_iload (P := PP X) (M := 0) (p' := 581) rfl rfl rfl rfl ?_
  have last : q_W (PP X) 0 (596, [some (.inr (.inr (.inr ()))), some (.inr (.inr (.inl (some 0)))), some (.inr (.inr (.inl (some 113)))), some (.inr (.inr (.inl (some 161)))), some (.inl x4), some (.inl c), some (.inl y)], [], S0, s3, kc + (PP X).2.1 7 + (PP X).2.1 105 + (PP X).2.1 45, ks + (PP X).2.2.1 7 + (PP X).2.2.1 105 + (PP X).2.2.1 45) Q := by
    refine w_goto (P := PP X) (M := 0) (p' := 917) rfl rfl ?_
    refine w_cut (a := [some (.inr (.inr (.inr ()))), some (.inr (.inr (.inl (some 0)))), some (.inr (.inr (.inl (some 113)))), some (.inr (.inr (.inl (some 161)))), some (.inl x4), none, none]) ⟨rfl, rfl, rfl, rfl, rfl, trivial⟩ (k _ _ _ hI (by rw [c7, c105, c45]; omega) (by rw [d7, d105, d45]; omega))
  refine w_if (P := PP X) (M := 0) (t := 596) (e := 584) rfl rfl rfl (fun _ => last) (fun q => ?_)
  have hc0 : c = 0 := Classical.byContradiction fun z => q z
  have hy := hy hc0
  refine w_aload (P := PP X) (M := 0) (p' := 585) rfl rfl rfl rfl ?_
  refine w_const (P := PP X) (M := 0) (p' := 586) rfl rfl rfl ?_
  refine w_lald (P := PP X) (M := 0) (p' := 587) (N := 1) rfl rfl rfl rfl (by decide) (by decide) ?_
  refine w_iload (P := PP X) (M := 0) (p' := 589) rfl rfl rfl rfl ?_
  refine w_i2l (P := PP X) (M := 0) (p' := 590) rfl rfl ?_
  refine w_lcmp (P := PP X) (M := 0) (p' := 591) rfl rfl ?_
  refine w_if (P := PP X) (M := 0) (t := 596) (e := 594) rfl rfl rfl (fun _ => last) (fun q => absurd ?_ q)
  show q_lcmp (s3 161 0) y = 0
  rw [hy]
  simp [q_lcmp]
def O_count (I : qM → Prop) (X : Nat × (Nat → Int32)) (x1 : Int) (s : qM) : Prop := c_W_count X x1 s (fun c s1 => c_m_count X x1 s1 (fun y s2 => c_m_thrown X s2 (fun e s3 => e = c ∧ (c = 0 → s3 161 0 = y) ∧ I s3)))
set_option maxRecDepth 100000 in
set_option maxHeartbeats 4000000 in
theorem q_law_count {I : qM → Prop} {X : Nat × (Nat → Int32)} {x4 : Int} {s : qM} {kc ks : Nat} {Q : qQ} (h0 : 0 ≤ x4) (h1 : x4 + 3 ≤ (X.1 : Int)) (hX : X.1 ≤ 1536) (hc : kc + 1 ≤ 601024) (hs : ks + 6 ≤ 7293034) (h : O_count I X ((X.2 (x4 + 1).toNat).toInt) s) (k : ∀ s' kc' ks', I s' → kc' ≤ kc + 1 → ks' ≤ ks + 6 → L_law_917 X x4 s' kc' ks' Q) : q_W (PP X) 0 (599, [some (.inr (.inr (.inr ()))), some (.inr (.inr (.inl (some 0)))), some (.inr (.inr (.inl (some 113)))), some (.inr (.inr (.inl (some 161)))), some (.inl x4), none, none], [], S0, s, kc, ks) Q := by
  have c8 : (PP X).2.1 8 = 1 := by show (q_rm 8).2.2.1 = _; decide +kernel
  have d8 : (PP X).2.2.1 8 = 6 := by show (q_rm 8).2.2.2 = _; decide +kernel
  have n8 : (PP X).2.2.2.1 8 = q_nL 8 := rfl
  have c106 : (PP X).2.1 106 = 0 := by show (q_rm 106).2.2.1 = _; decide +kernel
  have d106 : (PP X).2.2.1 106 = 0 := by show (q_rm 106).2.2.2 = _; decide +kernel
  have n106 : (PP X).2.2.2.1 106 = q_nL 106 := rfl
  have c45 : (PP X).2.1 45 = 0 := by show (q_rm 45).2.2.1 = _; decide +kernel
  have d45 : (PP X).2.2.1 45 = 0 := by show (q_rm 45).2.2.2 = _; decide +kernel
  have n45 : (PP X).2.2.2.1 45 = q_nL 45 := rfl
  have c0 : (PP X).2.1 0 = 601024 := by show (q_rm 0).2.2.1 = _; decide +kernel
  have d0 : (PP X).2.2.1 0 = 7293034 := by show (q_rm 0).2.2.2 = _; decide +kernel
  refine w_aload (P := PP X) (M := 0) (p' := 600) rfl rfl rfl rfl ?_
  refine w_xload (P := PP X) (M := 0) (p' := 601) rfl rfl rfl rfl ?_
  refine w_iload (P := PP X) (M := 0) (p' := 603) rfl rfl rfl rfl ?_
  refine w_const (P := PP X) (M := 0) (p' := 604) rfl rfl rfl ?_
  refine w_add (P := PP X) (M := 0) (p' := 605) rfl rfl ⟨by omega, by omega⟩ ?_
  refine w_xald (P := PP X) (M := 0) (p' := 606) rfl rfl rfl (by omega) (by show (_ : Int) < (X.1 : Int); omega) ?_
  refine w_aload (P := PP X) (M := 0) (p' := 607) rfl rfl rfl rfl ?_
  refine w_call (P := PP X) (M := 0) (p' := 610) (M' := 8) (as := [.inr (.inr (.inl (some 0))), .inl ((X.2 (x4 + 1).toNat).toInt), .inr (.inr (.inl (some 161)))]) (rest := []) rfl rfl (by decide) rfl rfl (Nat.le_of_ble_eq_true rfl) rfl rfl (Nat.le_of_ble_eq_true rfl) (by rw [c8, c0]; omega) (by rw [d8, d0]; omega) trivial (by rw [n8]; exact Nat.le_of_ble_eq_true rfl) h (fun k S' s' hq => by obtain ⟨-, x, e, -⟩ := hq; cases e) ?_
  rintro w S' s1 ⟨rfl, c, e0, h⟩
  cases e0
  refine w_istore (P := PP X) (M := 0) (p' := 612) rfl rfl rfl (Nat.le_of_ble_eq_true rfl) rfl ?_
  refine w_aload (P := PP X) (M := 0) (p' := 613) rfl rfl rfl rfl ?_
  refine w_xload (P := PP X) (M := 0) (p' := 614) rfl rfl rfl rfl ?_
  refine w_iload (P := PP X) (M := 0) (p' := 616) rfl rfl rfl rfl ?_
  refine w_const (P := PP X) (M := 0) (p' := 617) rfl rfl rfl ?_
  refine w_add (P := PP X) (M := 0) (p' := 618) rfl rfl ⟨by omega, by omega⟩ ?_
  refine w_xald (P := PP X) (M := 0) (p' := 619) rfl rfl rfl (by omega) (by show (_ : Int) < (X.1 : Int); omega) ?_
  refine w_call (P := PP X) (M := 0) (p' := 622) (M' := 106) (as := [.inr (.inr (.inl (some 113))), .inl ((X.2 (x4 + 1).toNat).toInt)]) (rest := []) rfl rfl (by decide) rfl rfl (Nat.le_of_ble_eq_true rfl) rfl rfl (Nat.le_of_ble_eq_true rfl) (by rw [c8, c106, c0]; omega) (by rw [d8, d106, d0]; omega) (rfl : q_tag S0 113 = some 4) (by rw [n106]; exact Nat.le_of_ble_eq_true rfl) h (fun k S' s' hq => by obtain ⟨-, x, e, -⟩ := hq; cases e) ?_
  rintro w S' s2 ⟨rfl, y, e0, h⟩
  cases e0
  refine w_istore (P := PP X) (M := 0) (p' := 624) rfl rfl rfl (Nat.le_of_ble_eq_true rfl) rfl ?_
  refine w_aload (P := PP X) (M := 0) (p' := 625) rfl rfl rfl rfl ?_
  refine w_call (P := PP X) (M := 0) (p' := 628) (M' := 45) (as := [.inr (.inr (.inl (some 113)))]) (rest := []) rfl rfl (by decide) rfl rfl (Nat.le_of_ble_eq_true rfl) rfl rfl (Nat.le_of_ble_eq_true rfl) (by rw [c8, c106, c45, c0]; omega) (by rw [d8, d106, d45, d0]; omega) (rfl : q_tag S0 113 = some 4) (by rw [n45]; exact Nat.le_of_ble_eq_true rfl) h (fun k S' s' hq => by obtain ⟨-, x, e, -⟩ := hq; cases e) ?_
  rintro w S' s3 ⟨rfl, e, e0, h⟩
  cases e0
  refine w_iload (P := PP X) (M := 0) (p' := 630) rfl rfl rfl rfl ?_
  obtain ⟨he, hy, hI⟩ := h
  refine w_icmp (P := PP X) (M := 0) (t := 635) (e := 633) rfl rfl rfl (fun _ => ?_) (fun q => absurd he q)
  refine w_iload (P := PP X) (M := 0) (p' := 637) rfl rfl rfl rfl ?_
  have last : q_W (PP X) 0 (652, [some (.inr (.inr (.inr ()))), some (.inr (.inr (.inl (some 0)))), some (.inr (.inr (.inl (some 113)))), some (.inr (.inr (.inl (some 161)))), some (.inl x4), some (.inl c), some (.inl y)], [], S0, s3, kc + (PP X).2.1 8 + (PP X).2.1 106 + (PP X).2.1 45, ks + (PP X).2.2.1 8 + (PP X).2.2.1 106 + (PP X).2.2.1 45) Q := by
    refine w_goto (P := PP X) (M := 0) (p' := 917) rfl rfl ?_
    refine w_cut (a := [some (.inr (.inr (.inr ()))), some (.inr (.inr (.inl (some 0)))), some (.inr (.inr (.inl (some 113)))), some (.inr (.inr (.inl (some 161)))), some (.inl x4), none, none]) ⟨rfl, rfl, rfl, rfl, rfl, trivial⟩ (k _ _ _ hI (by rw [c8, c106, c45]; omega) (by rw [d8, d106, d45]; omega))
  refine w_if (P := PP X) (M := 0) (t := 652) (e := 640) rfl rfl rfl (fun _ => last) (fun q => ?_)
  have hc0 : c = 0 := Classical.byContradiction fun z => q z
  have hy := hy hc0
  refine w_aload (P := PP X) (M := 0) (p' := 641) rfl rfl rfl rfl ?_
  refine w_const (P := PP X) (M := 0) (p' := 642) rfl rfl rfl ?_
  refine w_lald (P := PP X) (M := 0) (p' := 643) (N := 1) rfl rfl rfl rfl (by decide) (by decide) ?_
  refine w_iload (P := PP X) (M := 0) (p' := 645) rfl rfl rfl rfl ?_
  refine w_i2l (P := PP X) (M := 0) (p' := 646) rfl rfl ?_
  refine w_lcmp (P := PP X) (M := 0) (p' := 647) rfl rfl ?_
  refine w_if (P := PP X) (M := 0) (t := 652) (e := 650) rfl rfl rfl (fun _ => last) (fun q => absurd ?_ q)
  show q_lcmp (s3 161 0) y = 0
  rw [hy]
  simp [q_lcmp]
def O_print (I : qM → Prop) (X : Nat × (Nat → Int32)) (x1 : Int) (s : qM) : Prop := c_W_print X x1 s (fun c s1 => c_m_print X x1 s1 (fun y s2 => c_m_thrown X s2 (fun e s3 => e = c ∧ (c = 0 → s3 161 0 = y) ∧ I s3)))
set_option maxRecDepth 100000 in
set_option maxHeartbeats 4000000 in
theorem q_law_print {I : qM → Prop} {X : Nat × (Nat → Int32)} {x4 : Int} {s : qM} {kc ks : Nat} {Q : qQ} (h0 : 0 ≤ x4) (h1 : x4 + 3 ≤ (X.1 : Int)) (hX : X.1 ≤ 1536) (hc : kc + 1 ≤ 601024) (hs : ks + 6 ≤ 7293034) (h : O_print I X ((X.2 (x4 + 1).toNat).toInt) s) (k : ∀ s' kc' ks', I s' → kc' ≤ kc + 1 → ks' ≤ ks + 6 → L_law_917 X x4 s' kc' ks' Q) : q_W (PP X) 0 (655, [some (.inr (.inr (.inr ()))), some (.inr (.inr (.inl (some 0)))), some (.inr (.inr (.inl (some 113)))), some (.inr (.inr (.inl (some 161)))), some (.inl x4), none, none], [], S0, s, kc, ks) Q := by
  have c9 : (PP X).2.1 9 = 1 := by show (q_rm 9).2.2.1 = _; decide +kernel
  have d9 : (PP X).2.2.1 9 = 6 := by show (q_rm 9).2.2.2 = _; decide +kernel
  have n9 : (PP X).2.2.2.1 9 = q_nL 9 := rfl
  have c113 : (PP X).2.1 113 = 0 := by show (q_rm 113).2.2.1 = _; decide +kernel
  have d113 : (PP X).2.2.1 113 = 0 := by show (q_rm 113).2.2.2 = _; decide +kernel
  have n113 : (PP X).2.2.2.1 113 = q_nL 113 := rfl
  have c45 : (PP X).2.1 45 = 0 := by show (q_rm 45).2.2.1 = _; decide +kernel
  have d45 : (PP X).2.2.1 45 = 0 := by show (q_rm 45).2.2.2 = _; decide +kernel
  have n45 : (PP X).2.2.2.1 45 = q_nL 45 := rfl
  have c0 : (PP X).2.1 0 = 601024 := by show (q_rm 0).2.2.1 = _; decide +kernel
  have d0 : (PP X).2.2.1 0 = 7293034 := by show (q_rm 0).2.2.2 = _; decide +kernel
  refine w_aload (P := PP X) (M := 0) (p' := 656) rfl rfl rfl rfl ?_
  refine w_xload (P := PP X) (M := 0) (p' := 657) rfl rfl rfl rfl ?_
  refine w_iload (P := PP X) (M := 0) (p' := 659) rfl rfl rfl rfl ?_
  refine w_const (P := PP X) (M := 0) (p' := 660) rfl rfl rfl ?_
  refine w_add (P := PP X) (M := 0) (p' := 661) rfl rfl ⟨by omega, by omega⟩ ?_
  refine w_xald (P := PP X) (M := 0) (p' := 662) rfl rfl rfl (by omega) (by show (_ : Int) < (X.1 : Int); omega) ?_
  refine w_aload (P := PP X) (M := 0) (p' := 663) rfl rfl rfl rfl ?_
  refine w_call (P := PP X) (M := 0) (p' := 666) (M' := 9) (as := [.inr (.inr (.inl (some 0))), .inl ((X.2 (x4 + 1).toNat).toInt), .inr (.inr (.inl (some 161)))]) (rest := []) rfl rfl (by decide) rfl rfl (Nat.le_of_ble_eq_true rfl) rfl rfl (Nat.le_of_ble_eq_true rfl) (by rw [c9, c0]; omega) (by rw [d9, d0]; omega) trivial (by rw [n9]; exact Nat.le_of_ble_eq_true rfl) h (fun k S' s' hq => by obtain ⟨-, x, e, -⟩ := hq; cases e) ?_
  rintro w S' s1 ⟨rfl, c, e0, h⟩
  cases e0
  refine w_istore (P := PP X) (M := 0) (p' := 668) rfl rfl rfl (Nat.le_of_ble_eq_true rfl) rfl ?_
  refine w_aload (P := PP X) (M := 0) (p' := 669) rfl rfl rfl rfl ?_
  refine w_xload (P := PP X) (M := 0) (p' := 670) rfl rfl rfl rfl ?_
  refine w_iload (P := PP X) (M := 0) (p' := 672) rfl rfl rfl rfl ?_
  refine w_const (P := PP X) (M := 0) (p' := 673) rfl rfl rfl ?_
  refine w_add (P := PP X) (M := 0) (p' := 674) rfl rfl ⟨by omega, by omega⟩ ?_
  refine w_xald (P := PP X) (M := 0) (p' := 675) rfl rfl rfl (by omega) (by show (_ : Int) < (X.1 : Int); omega) ?_
  refine w_call (P := PP X) (M := 0) (p' := 678) (M' := 113) (as := [.inr (.inr (.inl (some 113))), .inl ((X.2 (x4 + 1).toNat).toInt)]) (rest := []) rfl rfl (by decide) rfl rfl (Nat.le_of_ble_eq_true rfl) rfl rfl (Nat.le_of_ble_eq_true rfl) (by rw [c9, c113, c0]; omega) (by rw [d9, d113, d0]; omega) (rfl : q_tag S0 113 = some 4) (by rw [n113]; exact Nat.le_of_ble_eq_true rfl) h (fun k S' s' hq => by obtain ⟨-, x, e, -⟩ := hq; cases e) ?_
  rintro w S' s2 ⟨rfl, y, e0, h⟩
  cases e0
  refine w_istore (P := PP X) (M := 0) (p' := 680) rfl rfl rfl (Nat.le_of_ble_eq_true rfl) rfl ?_
  refine w_aload (P := PP X) (M := 0) (p' := 681) rfl rfl rfl rfl ?_
  refine w_call (P := PP X) (M := 0) (p' := 684) (M' := 45) (as := [.inr (.inr (.inl (some 113)))]) (rest := []) rfl rfl (by decide) rfl rfl (Nat.le_of_ble_eq_true rfl) rfl rfl (Nat.le_of_ble_eq_true rfl) (by rw [c9, c113, c45, c0]; omega) (by rw [d9, d113, d45, d0]; omega) (rfl : q_tag S0 113 = some 4) (by rw [n45]; exact Nat.le_of_ble_eq_true rfl) h (fun k S' s' hq => by obtain ⟨-, x, e, -⟩ := hq; cases e) ?_
  rintro w S' s3 ⟨rfl, e, e0, h⟩
  cases e0
  refine w_iload (P := PP X) (M := 0) (p' := 686) rfl rfl rfl rfl ?_
  obtain ⟨he, hy, hI⟩ := h
  refine w_icmp (P := PP X) (M := 0) (t := 691) (e := 689) rfl rfl rfl (fun _ => ?_) (fun q => absurd he q)
  refine w_iload (P := PP X) (M := 0) (p' := 693) rfl rfl rfl rfl ?_
  have last : q_W (PP X) 0 (708, [some (.inr (.inr (.inr ()))), some (.inr (.inr (.inl (some 0)))), some (.inr (.inr (.inl (some 113)))), some (.inr (.inr (.inl (some 161)))), some (.inl x4), some (.inl c), some (.inl y)], [], S0, s3, kc + (PP X).2.1 9 + (PP X).2.1 113 + (PP X).2.1 45, ks + (PP X).2.2.1 9 + (PP X).2.2.1 113 + (PP X).2.2.1 45) Q := by
    refine w_goto (P := PP X) (M := 0) (p' := 917) rfl rfl ?_
    refine w_cut (a := [some (.inr (.inr (.inr ()))), some (.inr (.inr (.inl (some 0)))), some (.inr (.inr (.inl (some 113)))), some (.inr (.inr (.inl (some 161)))), some (.inl x4), none, none]) ⟨rfl, rfl, rfl, rfl, rfl, trivial⟩ (k _ _ _ hI (by rw [c9, c113, c45]; omega) (by rw [d9, d113, d45]; omega))
  refine w_if (P := PP X) (M := 0) (t := 708) (e := 696) rfl rfl rfl (fun _ => last) (fun q => ?_)
  have hc0 : c = 0 := Classical.byContradiction fun z => q z
  have hy := hy hc0
  refine w_aload (P := PP X) (M := 0) (p' := 697) rfl rfl rfl rfl ?_
  refine w_const (P := PP X) (M := 0) (p' := 698) rfl rfl rfl ?_
  refine w_lald (P := PP X) (M := 0) (p' := 699) (N := 1) rfl rfl rfl rfl (by decide) (by decide) ?_
  refine w_iload (P := PP X) (M := 0) (p' := 701) rfl rfl rfl rfl ?_
  refine w_i2l (P := PP X) (M := 0) (p' := 702) rfl rfl ?_
  refine w_lcmp (P := PP X) (M := 0) (p' := 703) rfl rfl ?_
  refine w_if (P := PP X) (M := 0) (t := 708) (e := 706) rfl rfl rfl (fun _ => last) (fun q => absurd ?_ q)
  show q_lcmp (s3 161 0) y = 0
  rw [hy]
  simp [q_lcmp]
def O_printed (I : qM → Prop) (X : Nat × (Nat → Int32)) (x1 : Int) (x2 : Int) (s : qM) : Prop := c_W_printed X x1 x2 s (fun c s1 => c_m_printed X x1 x2 s1 (fun y s2 => c_m_thrown X s2 (fun e s3 => e = c ∧ (c = 0 → s3 161 0 = y) ∧ I s3)))
set_option maxRecDepth 100000 in
set_option maxHeartbeats 4000000 in
theorem q_law_printed {I : qM → Prop} {X : Nat × (Nat → Int32)} {x4 : Int} {s : qM} {kc ks : Nat} {Q : qQ} (h0 : 0 ≤ x4) (h1 : x4 + 3 ≤ (X.1 : Int)) (hX : X.1 ≤ 1536) (hc : kc + 1 ≤ 601024) (hs : ks + 6 ≤ 7293034) (h : O_printed I X ((X.2 (x4 + 1).toNat).toInt) ((X.2 (x4 + 2).toNat).toInt) s) (k : ∀ s' kc' ks', I s' → kc' ≤ kc + 1 → ks' ≤ ks + 6 → L_law_917 X x4 s' kc' ks' Q) : q_W (PP X) 0 (711, [some (.inr (.inr (.inr ()))), some (.inr (.inr (.inl (some 0)))), some (.inr (.inr (.inl (some 113)))), some (.inr (.inr (.inl (some 161)))), some (.inl x4), none, none], [], S0, s, kc, ks) Q := by
  have c10 : (PP X).2.1 10 = 1 := by show (q_rm 10).2.2.1 = _; decide +kernel
  have d10 : (PP X).2.2.1 10 = 6 := by show (q_rm 10).2.2.2 = _; decide +kernel
  have n10 : (PP X).2.2.2.1 10 = q_nL 10 := rfl
  have c114 : (PP X).2.1 114 = 0 := by show (q_rm 114).2.2.1 = _; decide +kernel
  have d114 : (PP X).2.2.1 114 = 0 := by show (q_rm 114).2.2.2 = _; decide +kernel
  have n114 : (PP X).2.2.2.1 114 = q_nL 114 := rfl
  have c45 : (PP X).2.1 45 = 0 := by show (q_rm 45).2.2.1 = _; decide +kernel
  have d45 : (PP X).2.2.1 45 = 0 := by show (q_rm 45).2.2.2 = _; decide +kernel
  have n45 : (PP X).2.2.2.1 45 = q_nL 45 := rfl
  have c0 : (PP X).2.1 0 = 601024 := by show (q_rm 0).2.2.1 = _; decide +kernel
  have d0 : (PP X).2.2.1 0 = 7293034 := by show (q_rm 0).2.2.2 = _; decide +kernel
  refine w_aload (P := PP X) (M := 0) (p' := 712) rfl rfl rfl rfl ?_
  refine w_xload (P := PP X) (M := 0) (p' := 713) rfl rfl rfl rfl ?_
  refine w_iload (P := PP X) (M := 0) (p' := 715) rfl rfl rfl rfl ?_
  refine w_const (P := PP X) (M := 0) (p' := 716) rfl rfl rfl ?_
  refine w_add (P := PP X) (M := 0) (p' := 717) rfl rfl ⟨by omega, by omega⟩ ?_
  refine w_xald (P := PP X) (M := 0) (p' := 718) rfl rfl rfl (by omega) (by show (_ : Int) < (X.1 : Int); omega) ?_
  refine w_xload (P := PP X) (M := 0) (p' := 719) rfl rfl rfl rfl ?_
  refine w_iload (P := PP X) (M := 0) (p' := 721) rfl rfl rfl rfl ?_
  refine w_const (P := PP X) (M := 0) (p' := 722) rfl rfl rfl ?_
  refine w_add (P := PP X) (M := 0) (p' := 723) rfl rfl ⟨by omega, by omega⟩ ?_
  refine w_xald (P := PP X) (M := 0) (p' := 724) rfl rfl rfl (by omega) (by show (_ : Int) < (X.1 : Int); omega) ?_
  refine w_aload (P := PP X) (M := 0) (p' := 725) rfl rfl rfl rfl ?_
  refine w_call (P := PP X) (M := 0) (p' := 728) (M' := 10) (as := [.inr (.inr (.inl (some 0))), .inl ((X.2 (x4 + 1).toNat).toInt), .inl ((X.2 (x4 + 2).toNat).toInt), .inr (.inr (.inl (some 161)))]) (rest := []) rfl rfl (by decide) rfl rfl (Nat.le_of_ble_eq_true rfl) rfl rfl (Nat.le_of_ble_eq_true rfl) (by rw [c10, c0]; omega) (by rw [d10, d0]; omega) trivial (by rw [n10]; exact Nat.le_of_ble_eq_true rfl) h (fun k S' s' hq => by obtain ⟨-, x, e, -⟩ := hq; cases e) ?_
  rintro w S' s1 ⟨rfl, c, e0, h⟩
  cases e0
  refine w_istore (P := PP X) (M := 0) (p' := 730) rfl rfl rfl (Nat.le_of_ble_eq_true rfl) rfl ?_
  refine w_aload (P := PP X) (M := 0) (p' := 731) rfl rfl rfl rfl ?_
  refine w_xload (P := PP X) (M := 0) (p' := 732) rfl rfl rfl rfl ?_
  refine w_iload (P := PP X) (M := 0) (p' := 734) rfl rfl rfl rfl ?_
  refine w_const (P := PP X) (M := 0) (p' := 735) rfl rfl rfl ?_
  refine w_add (P := PP X) (M := 0) (p' := 736) rfl rfl ⟨by omega, by omega⟩ ?_
  refine w_xald (P := PP X) (M := 0) (p' := 737) rfl rfl rfl (by omega) (by show (_ : Int) < (X.1 : Int); omega) ?_
  refine w_xload (P := PP X) (M := 0) (p' := 738) rfl rfl rfl rfl ?_
  refine w_iload (P := PP X) (M := 0) (p' := 740) rfl rfl rfl rfl ?_
  refine w_const (P := PP X) (M := 0) (p' := 741) rfl rfl rfl ?_
  refine w_add (P := PP X) (M := 0) (p' := 742) rfl rfl ⟨by omega, by omega⟩ ?_
  refine w_xald (P := PP X) (M := 0) (p' := 743) rfl rfl rfl (by omega) (by show (_ : Int) < (X.1 : Int); omega) ?_
  refine w_call (P := PP X) (M := 0) (p' := 746) (M' := 114) (as := [.inr (.inr (.inl (some 113))), .inl ((X.2 (x4 + 1).toNat).toInt), .inl ((X.2 (x4 + 2).toNat).toInt)]) (rest := []) rfl rfl (by decide) rfl rfl (Nat.le_of_ble_eq_true rfl) rfl rfl (Nat.le_of_ble_eq_true rfl) (by rw [c10, c114, c0]; omega) (by rw [d10, d114, d0]; omega) (rfl : q_tag S0 113 = some 4) (by rw [n114]; exact Nat.le_of_ble_eq_true rfl) h (fun k S' s' hq => by obtain ⟨-, x, e, -⟩ := hq; cases e) ?_
  rintro w S' s2 ⟨rfl, y, e0, h⟩
  cases e0
  refine w_istore (P := PP X) (M := 0) (p' := 748) rfl rfl rfl (Nat.le_of_ble_eq_true rfl) rfl ?_
  refine w_aload (P := PP X) (M := 0) (p' := 749) rfl rfl rfl rfl ?_
  refine w_call (P := PP X) (M := 0) (p' := 752) (M' := 45) (as := [.inr (.inr (.inl (some 113)))]) (rest := []) rfl rfl (by decide) rfl rfl (Nat.le_of_ble_eq_true rfl) rfl rfl (Nat.le_of_ble_eq_true rfl) (by rw [c10, c114, c45, c0]; omega) (by rw [d10, d114, d45, d0]; omega) (rfl : q_tag S0 113 = some 4) (by rw [n45]; exact Nat.le_of_ble_eq_true rfl) h (fun k S' s' hq => by obtain ⟨-, x, e, -⟩ := hq; cases e) ?_
  rintro w S' s3 ⟨rfl, e, e0, h⟩
  cases e0
  refine w_iload (P := PP X) (M := 0) (p' := 754) rfl rfl rfl rfl ?_
  obtain ⟨he, hy, hI⟩ := h
  refine w_icmp (P := PP X) (M := 0) (t := 759) (e := 757) rfl rfl rfl (fun _ => ?_) (fun q => absurd he q)
  refine w_iload (P := PP X) (M := 0) (p' := 761) rfl rfl rfl rfl ?_
  have last : q_W (PP X) 0 (776, [some (.inr (.inr (.inr ()))), some (.inr (.inr (.inl (some 0)))), some (.inr (.inr (.inl (some 113)))), some (.inr (.inr (.inl (some 161)))), some (.inl x4), some (.inl c), some (.inl y)], [], S0, s3, kc + (PP X).2.1 10 + (PP X).2.1 114 + (PP X).2.1 45, ks + (PP X).2.2.1 10 + (PP X).2.2.1 114 + (PP X).2.2.1 45) Q := by
    refine w_goto (P := PP X) (M := 0) (p' := 917) rfl rfl ?_
    refine w_cut (a := [some (.inr (.inr (.inr ()))), some (.inr (.inr (.inl (some 0)))), some (.inr (.inr (.inl (some 113)))), some (.inr (.inr (.inl (some 161)))), some (.inl x4), none, none]) ⟨rfl, rfl, rfl, rfl, rfl, trivial⟩ (k _ _ _ hI (by rw [c10, c114, c45]; omega) (by rw [d10, d114, d45]; omega))
  refine w_if (P := PP X) (M := 0) (t := 776) (e := 764) rfl rfl rfl (fun _ => last) (fun q => ?_)
  have hc0 : c = 0 := Classical.byContradiction fun z => q z
  have hy := hy hc0
  refine w_aload (P := PP X) (M := 0) (p' := 765) rfl rfl rfl rfl ?_
  refine w_const (P := PP X) (M := 0) (p' := 766) rfl rfl rfl ?_
  refine w_lald (P := PP X) (M := 0) (p' := 767) (N := 1) rfl rfl rfl rfl (by decide) (by decide) ?_
  refine w_iload (P := PP X) (M := 0) (p' := 769) rfl rfl rfl rfl ?_
  refine w_i2l (P := PP X) (M := 0) (p' := 770) rfl rfl ?_
  refine w_lcmp (P := PP X) (M := 0) (p' := 771) rfl rfl ?_
  refine w_if (P := PP X) (M := 0) (t := 776) (e := 774) rfl rfl rfl (fun _ => last) (fun q => absurd ?_ q)
  show q_lcmp (s3 161 0) y = 0
  rw [hy]
  simp [q_lcmp]
def O_format (I : qM → Prop) (X : Nat × (Nat → Int32)) (s : qM) : Prop := c_T_format X s (fun c s1 => c_m_format X s1 (fun y s2 => c = y ∧ I s2))
set_option maxRecDepth 100000 in
set_option maxHeartbeats 4000000 in
theorem q_law_format {I : qM → Prop} {X : Nat × (Nat → Int32)} {x4 : Int} {s : qM} {kc ks : Nat} {Q : qQ} (h0 : 0 ≤ x4) (h1 : x4 + 3 ≤ (X.1 : Int)) (hX : X.1 ≤ 1536) (hc : kc + 1 ≤ 601024) (hs : ks + 6 ≤ 7293034) (h : O_format I X  s) (k : ∀ s' kc' ks', I s' → kc' ≤ kc + 1 → ks' ≤ ks + 6 → L_law_917 X x4 s' kc' ks' Q) : q_W (PP X) 0 (779, [some (.inr (.inr (.inr ()))), some (.inr (.inr (.inl (some 0)))), some (.inr (.inr (.inl (some 113)))), some (.inr (.inr (.inl (some 161)))), some (.inl x4), none, none], [], S0, s, kc, ks) Q := by
  have c27 : (PP X).2.1 27 = 0 := by show (q_rm 27).2.2.1 = _; decide +kernel
  have d27 : (PP X).2.2.1 27 = 0 := by show (q_rm 27).2.2.2 = _; decide +kernel
  have n27 : (PP X).2.2.2.1 27 = q_nL 27 := rfl
  have c117 : (PP X).2.1 117 = 0 := by show (q_rm 117).2.2.1 = _; decide +kernel
  have d117 : (PP X).2.2.1 117 = 0 := by show (q_rm 117).2.2.2 = _; decide +kernel
  have n117 : (PP X).2.2.2.1 117 = q_nL 117 := rfl
  have c0 : (PP X).2.1 0 = 601024 := by show (q_rm 0).2.2.1 = _; decide +kernel
  have d0 : (PP X).2.2.1 0 = 7293034 := by show (q_rm 0).2.2.2 = _; decide +kernel
  refine w_aload (P := PP X) (M := 0) (p' := 780) rfl rfl rfl rfl ?_
  refine w_call (P := PP X) (M := 0) (p' := 783) (M' := 27) (as := [.inr (.inr (.inl (some 0)))]) (rest := []) rfl rfl (by decide) rfl rfl (Nat.le_of_ble_eq_true rfl) rfl rfl (Nat.le_of_ble_eq_true rfl) (by rw [c27, c0]; omega) (by rw [d27, d0]; omega) (rfl : q_tag S0 0 = some 3) (by rw [n27]; exact Nat.le_of_ble_eq_true rfl) h (fun k S' s' hq => by obtain ⟨-, x, e, -⟩ := hq; cases e) ?_
  rintro w S' s1 ⟨rfl, c, e0, h⟩
  cases e0
  refine w_aload (P := PP X) (M := 0) (p' := 784) rfl rfl rfl rfl ?_
  refine w_call (P := PP X) (M := 0) (p' := 787) (M' := 117) (as := [.inr (.inr (.inl (some 113)))]) (rest := [.inl c]) rfl rfl (by decide) rfl rfl (Nat.le_of_ble_eq_true rfl) rfl rfl (Nat.le_of_ble_eq_true rfl) (by rw [c27, c117, c0]; omega) (by rw [d27, d117, d0]; omega) (rfl : q_tag S0 113 = some 4) (by rw [n117]; exact Nat.le_of_ble_eq_true rfl) h (fun k S' s' hq => by obtain ⟨-, x, e, -⟩ := hq; cases e) ?_
  rintro w S' s2 ⟨rfl, y, e0, h⟩
  cases e0
  obtain ⟨he, hI⟩ := h
  refine w_icmp (P := PP X) (M := 0) (t := 917) (e := 790) rfl rfl rfl (fun _ => ?_) (fun q => absurd he q)
  refine w_cut (a := [some (.inr (.inr (.inr ()))), some (.inr (.inr (.inl (some 0)))), some (.inr (.inr (.inl (some 113)))), some (.inr (.inr (.inl (some 161)))), some (.inl x4), none, none]) ⟨rfl, rfl, rfl, rfl, rfl, trivial⟩ (k _ _ _ hI (by rw [c27, c117]; omega) (by rw [d27, d117]; omega))
def O_keep (I : qM → Prop) (X : Nat × (Nat → Int32)) (x1 : Int) (s : qM) : Prop := c_W_keep X x1 s (fun c s1 => c_m_keep X x1 s1 (fun y s2 => c_m_thrown X s2 (fun e s3 => e = c ∧ (c = 0 → s3 161 0 = y) ∧ I s3)))
set_option maxRecDepth 100000 in
set_option maxHeartbeats 4000000 in
theorem q_law_keep {I : qM → Prop} {X : Nat × (Nat → Int32)} {x4 : Int} {s : qM} {kc ks : Nat} {Q : qQ} (h0 : 0 ≤ x4) (h1 : x4 + 3 ≤ (X.1 : Int)) (hX : X.1 ≤ 1536) (hc : kc + 1 ≤ 601024) (hs : ks + 6 ≤ 7293034) (h : O_keep I X ((X.2 (x4 + 1).toNat).toInt) s) (k : ∀ s' kc' ks', I s' → kc' ≤ kc + 1 → ks' ≤ ks + 6 → L_law_917 X x4 s' kc' ks' Q) : q_W (PP X) 0 (792, [some (.inr (.inr (.inr ()))), some (.inr (.inr (.inl (some 0)))), some (.inr (.inr (.inl (some 113)))), some (.inr (.inr (.inl (some 161)))), some (.inl x4), none, none], [], S0, s, kc, ks) Q := by
  have c11 : (PP X).2.1 11 = 1 := by show (q_rm 11).2.2.1 = _; decide +kernel
  have d11 : (PP X).2.2.1 11 = 6 := by show (q_rm 11).2.2.2 = _; decide +kernel
  have n11 : (PP X).2.2.2.1 11 = q_nL 11 := rfl
  have c118 : (PP X).2.1 118 = 0 := by show (q_rm 118).2.2.1 = _; decide +kernel
  have d118 : (PP X).2.2.1 118 = 0 := by show (q_rm 118).2.2.2 = _; decide +kernel
  have n118 : (PP X).2.2.2.1 118 = q_nL 118 := rfl
  have c45 : (PP X).2.1 45 = 0 := by show (q_rm 45).2.2.1 = _; decide +kernel
  have d45 : (PP X).2.2.1 45 = 0 := by show (q_rm 45).2.2.2 = _; decide +kernel
  have n45 : (PP X).2.2.2.1 45 = q_nL 45 := rfl
  have c0 : (PP X).2.1 0 = 601024 := by show (q_rm 0).2.2.1 = _; decide +kernel
  have d0 : (PP X).2.2.1 0 = 7293034 := by show (q_rm 0).2.2.2 = _; decide +kernel
  refine w_aload (P := PP X) (M := 0) (p' := 793) rfl rfl rfl rfl ?_
  refine w_xload (P := PP X) (M := 0) (p' := 794) rfl rfl rfl rfl ?_
  refine w_iload (P := PP X) (M := 0) (p' := 796) rfl rfl rfl rfl ?_
  refine w_const (P := PP X) (M := 0) (p' := 797) rfl rfl rfl ?_
  refine w_add (P := PP X) (M := 0) (p' := 798) rfl rfl ⟨by omega, by omega⟩ ?_
  refine w_xald (P := PP X) (M := 0) (p' := 799) rfl rfl rfl (by omega) (by show (_ : Int) < (X.1 : Int); omega) ?_
  refine w_aload (P := PP X) (M := 0) (p' := 800) rfl rfl rfl rfl ?_
  refine w_call (P := PP X) (M := 0) (p' := 803) (M' := 11) (as := [.inr (.inr (.inl (some 0))), .inl ((X.2 (x4 + 1).toNat).toInt), .inr (.inr (.inl (some 161)))]) (rest := []) rfl rfl (by decide) rfl rfl (Nat.le_of_ble_eq_true rfl) rfl rfl (Nat.le_of_ble_eq_true rfl) (by rw [c11, c0]; omega) (by rw [d11, d0]; omega) trivial (by rw [n11]; exact Nat.le_of_ble_eq_true rfl) h (fun k S' s' hq => by obtain ⟨-, x, e, -⟩ := hq; cases e) ?_
  rintro w S' s1 ⟨rfl, c, e0, h⟩
  cases e0
  refine w_istore (P := PP X) (M := 0) (p' := 805) rfl rfl rfl (Nat.le_of_ble_eq_true rfl) rfl ?_
  refine w_aload (P := PP X) (M := 0) (p' := 806) rfl rfl rfl rfl ?_
  refine w_xload (P := PP X) (M := 0) (p' := 807) rfl rfl rfl rfl ?_
  refine w_iload (P := PP X) (M := 0) (p' := 809) rfl rfl rfl rfl ?_
  refine w_const (P := PP X) (M := 0) (p' := 810) rfl rfl rfl ?_
  refine w_add (P := PP X) (M := 0) (p' := 811) rfl rfl ⟨by omega, by omega⟩ ?_
  refine w_xald (P := PP X) (M := 0) (p' := 812) rfl rfl rfl (by omega) (by show (_ : Int) < (X.1 : Int); omega) ?_
  refine w_call (P := PP X) (M := 0) (p' := 815) (M' := 118) (as := [.inr (.inr (.inl (some 113))), .inl ((X.2 (x4 + 1).toNat).toInt)]) (rest := []) rfl rfl (by decide) rfl rfl (Nat.le_of_ble_eq_true rfl) rfl rfl (Nat.le_of_ble_eq_true rfl) (by rw [c11, c118, c0]; omega) (by rw [d11, d118, d0]; omega) (rfl : q_tag S0 113 = some 4) (by rw [n118]; exact Nat.le_of_ble_eq_true rfl) h (fun k S' s' hq => by obtain ⟨-, x, e, -⟩ := hq; cases e) ?_
  rintro w S' s2 ⟨rfl, y, e0, h⟩
  cases e0
  refine w_istore (P := PP X) (M := 0) (p' := 817) rfl rfl rfl (Nat.le_of_ble_eq_true rfl) rfl ?_
  refine w_aload (P := PP X) (M := 0) (p' := 818) rfl rfl rfl rfl ?_
  refine w_call (P := PP X) (M := 0) (p' := 821) (M' := 45) (as := [.inr (.inr (.inl (some 113)))]) (rest := []) rfl rfl (by decide) rfl rfl (Nat.le_of_ble_eq_true rfl) rfl rfl (Nat.le_of_ble_eq_true rfl) (by rw [c11, c118, c45, c0]; omega) (by rw [d11, d118, d45, d0]; omega) (rfl : q_tag S0 113 = some 4) (by rw [n45]; exact Nat.le_of_ble_eq_true rfl) h (fun k S' s' hq => by obtain ⟨-, x, e, -⟩ := hq; cases e) ?_
  rintro w S' s3 ⟨rfl, e, e0, h⟩
  cases e0
  refine w_iload (P := PP X) (M := 0) (p' := 823) rfl rfl rfl rfl ?_
  obtain ⟨he, hy, hI⟩ := h
  refine w_icmp (P := PP X) (M := 0) (t := 828) (e := 826) rfl rfl rfl (fun _ => ?_) (fun q => absurd he q)
  refine w_iload (P := PP X) (M := 0) (p' := 830) rfl rfl rfl rfl ?_
  have last : q_W (PP X) 0 (845, [some (.inr (.inr (.inr ()))), some (.inr (.inr (.inl (some 0)))), some (.inr (.inr (.inl (some 113)))), some (.inr (.inr (.inl (some 161)))), some (.inl x4), some (.inl c), some (.inl y)], [], S0, s3, kc + (PP X).2.1 11 + (PP X).2.1 118 + (PP X).2.1 45, ks + (PP X).2.2.1 11 + (PP X).2.2.1 118 + (PP X).2.2.1 45) Q := by
    refine w_goto (P := PP X) (M := 0) (p' := 917) rfl rfl ?_
    refine w_cut (a := [some (.inr (.inr (.inr ()))), some (.inr (.inr (.inl (some 0)))), some (.inr (.inr (.inl (some 113)))), some (.inr (.inr (.inl (some 161)))), some (.inl x4), none, none]) ⟨rfl, rfl, rfl, rfl, rfl, trivial⟩ (k _ _ _ hI (by rw [c11, c118, c45]; omega) (by rw [d11, d118, d45]; omega))
  refine w_if (P := PP X) (M := 0) (t := 845) (e := 833) rfl rfl rfl (fun _ => last) (fun q => ?_)
  have hc0 : c = 0 := Classical.byContradiction fun z => q z
  have hy := hy hc0
  refine w_aload (P := PP X) (M := 0) (p' := 834) rfl rfl rfl rfl ?_
  refine w_const (P := PP X) (M := 0) (p' := 835) rfl rfl rfl ?_
  refine w_lald (P := PP X) (M := 0) (p' := 836) (N := 1) rfl rfl rfl rfl (by decide) (by decide) ?_
  refine w_iload (P := PP X) (M := 0) (p' := 838) rfl rfl rfl rfl ?_
  refine w_i2l (P := PP X) (M := 0) (p' := 839) rfl rfl ?_
  refine w_lcmp (P := PP X) (M := 0) (p' := 840) rfl rfl ?_
  refine w_if (P := PP X) (M := 0) (t := 845) (e := 843) rfl rfl rfl (fun _ => last) (fun q => absurd ?_ q)
  show q_lcmp (s3 161 0) y = 0
  rw [hy]
  simp [q_lcmp]
def O_load (I : qM → Prop) (X : Nat × (Nat → Int32)) (x1 : Int) (s : qM) : Prop := c_W_load X x1 s (fun c s1 => c_m_load X x1 s1 (fun y s2 => c_m_thrown X s2 (fun e s3 => e = c ∧ (c = 0 → s3 161 0 = y) ∧ I s3)))
set_option maxRecDepth 100000 in
set_option maxHeartbeats 4000000 in
theorem q_law_load {I : qM → Prop} {X : Nat × (Nat → Int32)} {x4 : Int} {s : qM} {kc ks : Nat} {Q : qQ} (h0 : 0 ≤ x4) (h1 : x4 + 3 ≤ (X.1 : Int)) (hX : X.1 ≤ 1536) (hc : kc + 1 ≤ 601024) (hs : ks + 6 ≤ 7293034) (h : O_load I X ((X.2 (x4 + 1).toNat).toInt) s) (k : ∀ s' kc' ks', I s' → kc' ≤ kc + 1 → ks' ≤ ks + 6 → L_law_917 X x4 s' kc' ks' Q) : q_W (PP X) 0 (848, [some (.inr (.inr (.inr ()))), some (.inr (.inr (.inl (some 0)))), some (.inr (.inr (.inl (some 113)))), some (.inr (.inr (.inl (some 161)))), some (.inl x4), none, none], [], S0, s, kc, ks) Q := by
  have c12 : (PP X).2.1 12 = 1 := by show (q_rm 12).2.2.1 = _; decide +kernel
  have d12 : (PP X).2.2.1 12 = 6 := by show (q_rm 12).2.2.2 = _; decide +kernel
  have n12 : (PP X).2.2.2.1 12 = q_nL 12 := rfl
  have c119 : (PP X).2.1 119 = 0 := by show (q_rm 119).2.2.1 = _; decide +kernel
  have d119 : (PP X).2.2.1 119 = 0 := by show (q_rm 119).2.2.2 = _; decide +kernel
  have n119 : (PP X).2.2.2.1 119 = q_nL 119 := rfl
  have c45 : (PP X).2.1 45 = 0 := by show (q_rm 45).2.2.1 = _; decide +kernel
  have d45 : (PP X).2.2.1 45 = 0 := by show (q_rm 45).2.2.2 = _; decide +kernel
  have n45 : (PP X).2.2.2.1 45 = q_nL 45 := rfl
  have c0 : (PP X).2.1 0 = 601024 := by show (q_rm 0).2.2.1 = _; decide +kernel
  have d0 : (PP X).2.2.1 0 = 7293034 := by show (q_rm 0).2.2.2 = _; decide +kernel
  refine w_aload (P := PP X) (M := 0) (p' := 849) rfl rfl rfl rfl ?_
  refine w_xload (P := PP X) (M := 0) (p' := 850) rfl rfl rfl rfl ?_
  refine w_iload (P := PP X) (M := 0) (p' := 852) rfl rfl rfl rfl ?_
  refine w_const (P := PP X) (M := 0) (p' := 853) rfl rfl rfl ?_
  refine w_add (P := PP X) (M := 0) (p' := 854) rfl rfl ⟨by omega, by omega⟩ ?_
  refine w_xald (P := PP X) (M := 0) (p' := 855) rfl rfl rfl (by omega) (by show (_ : Int) < (X.1 : Int); omega) ?_
  refine w_aload (P := PP X) (M := 0) (p' := 856) rfl rfl rfl rfl ?_
  refine w_call (P := PP X) (M := 0) (p' := 859) (M' := 12) (as := [.inr (.inr (.inl (some 0))), .inl ((X.2 (x4 + 1).toNat).toInt), .inr (.inr (.inl (some 161)))]) (rest := []) rfl rfl (by decide) rfl rfl (Nat.le_of_ble_eq_true rfl) rfl rfl (Nat.le_of_ble_eq_true rfl) (by rw [c12, c0]; omega) (by rw [d12, d0]; omega) trivial (by rw [n12]; exact Nat.le_of_ble_eq_true rfl) h (fun k S' s' hq => by obtain ⟨-, x, e, -⟩ := hq; cases e) ?_
  rintro w S' s1 ⟨rfl, c, e0, h⟩
  cases e0
  refine w_istore (P := PP X) (M := 0) (p' := 861) rfl rfl rfl (Nat.le_of_ble_eq_true rfl) rfl ?_
  refine w_aload (P := PP X) (M := 0) (p' := 862) rfl rfl rfl rfl ?_
  refine w_xload (P := PP X) (M := 0) (p' := 863) rfl rfl rfl rfl ?_
  refine w_iload (P := PP X) (M := 0) (p' := 865) rfl rfl rfl rfl ?_
  refine w_const (P := PP X) (M := 0) (p' := 866) rfl rfl rfl ?_
  refine w_add (P := PP X) (M := 0) (p' := 867) rfl rfl ⟨by omega, by omega⟩ ?_
  refine w_xald (P := PP X) (M := 0) (p' := 868) rfl rfl rfl (by omega) (by show (_ : Int) < (X.1 : Int); omega) ?_
  refine w_call (P := PP X) (M := 0) (p' := 871) (M' := 119) (as := [.inr (.inr (.inl (some 113))), .inl ((X.2 (x4 + 1).toNat).toInt)]) (rest := []) rfl rfl (by decide) rfl rfl (Nat.le_of_ble_eq_true rfl) rfl rfl (Nat.le_of_ble_eq_true rfl) (by rw [c12, c119, c0]; omega) (by rw [d12, d119, d0]; omega) (rfl : q_tag S0 113 = some 4) (by rw [n119]; exact Nat.le_of_ble_eq_true rfl) h (fun k S' s' hq => by obtain ⟨-, x, e, -⟩ := hq; cases e) ?_
  rintro w S' s2 ⟨rfl, y, e0, h⟩
  cases e0
  refine w_istore (P := PP X) (M := 0) (p' := 873) rfl rfl rfl (Nat.le_of_ble_eq_true rfl) rfl ?_
  refine w_aload (P := PP X) (M := 0) (p' := 874) rfl rfl rfl rfl ?_
  refine w_call (P := PP X) (M := 0) (p' := 877) (M' := 45) (as := [.inr (.inr (.inl (some 113)))]) (rest := []) rfl rfl (by decide) rfl rfl (Nat.le_of_ble_eq_true rfl) rfl rfl (Nat.le_of_ble_eq_true rfl) (by rw [c12, c119, c45, c0]; omega) (by rw [d12, d119, d45, d0]; omega) (rfl : q_tag S0 113 = some 4) (by rw [n45]; exact Nat.le_of_ble_eq_true rfl) h (fun k S' s' hq => by obtain ⟨-, x, e, -⟩ := hq; cases e) ?_
  rintro w S' s3 ⟨rfl, e, e0, h⟩
  cases e0
  refine w_iload (P := PP X) (M := 0) (p' := 879) rfl rfl rfl rfl ?_
  obtain ⟨he, hy, hI⟩ := h
  refine w_icmp (P := PP X) (M := 0) (t := 884) (e := 882) rfl rfl rfl (fun _ => ?_) (fun q => absurd he q)
  refine w_iload (P := PP X) (M := 0) (p' := 886) rfl rfl rfl rfl ?_
  have last : q_W (PP X) 0 (901, [some (.inr (.inr (.inr ()))), some (.inr (.inr (.inl (some 0)))), some (.inr (.inr (.inl (some 113)))), some (.inr (.inr (.inl (some 161)))), some (.inl x4), some (.inl c), some (.inl y)], [], S0, s3, kc + (PP X).2.1 12 + (PP X).2.1 119 + (PP X).2.1 45, ks + (PP X).2.2.1 12 + (PP X).2.2.1 119 + (PP X).2.2.1 45) Q := by
    refine w_goto (P := PP X) (M := 0) (p' := 917) rfl rfl ?_
    refine w_cut (a := [some (.inr (.inr (.inr ()))), some (.inr (.inr (.inl (some 0)))), some (.inr (.inr (.inl (some 113)))), some (.inr (.inr (.inl (some 161)))), some (.inl x4), none, none]) ⟨rfl, rfl, rfl, rfl, rfl, trivial⟩ (k _ _ _ hI (by rw [c12, c119, c45]; omega) (by rw [d12, d119, d45]; omega))
  refine w_if (P := PP X) (M := 0) (t := 901) (e := 889) rfl rfl rfl (fun _ => last) (fun q => ?_)
  have hc0 : c = 0 := Classical.byContradiction fun z => q z
  have hy := hy hc0
  refine w_aload (P := PP X) (M := 0) (p' := 890) rfl rfl rfl rfl ?_
  refine w_const (P := PP X) (M := 0) (p' := 891) rfl rfl rfl ?_
  refine w_lald (P := PP X) (M := 0) (p' := 892) (N := 1) rfl rfl rfl rfl (by decide) (by decide) ?_
  refine w_iload (P := PP X) (M := 0) (p' := 894) rfl rfl rfl rfl ?_
  refine w_i2l (P := PP X) (M := 0) (p' := 895) rfl rfl ?_
  refine w_lcmp (P := PP X) (M := 0) (p' := 896) rfl rfl ?_
  refine w_if (P := PP X) (M := 0) (t := 901) (e := 899) rfl rfl rfl (fun _ => last) (fun q => absurd ?_ q)
  show q_lcmp (s3 161 0) y = 0
  rw [hy]
  simp [q_lcmp]
def O_merge (I : qM → Prop) (X : Nat × (Nat → Int32)) (s : qM) : Prop := c_T_merge X s (fun c s1 => c_m_merge X s1 (fun y s2 => c = y ∧ I s2))
set_option maxRecDepth 100000 in
set_option maxHeartbeats 4000000 in
theorem q_law_merge {I : qM → Prop} {X : Nat × (Nat → Int32)} {x4 : Int} {s : qM} {kc ks : Nat} {Q : qQ} (h0 : 0 ≤ x4) (h1 : x4 + 3 ≤ (X.1 : Int)) (hX : X.1 ≤ 1536) (hc : kc + 1 ≤ 601024) (hs : ks + 6 ≤ 7293034) (h : O_merge I X  s) (k : ∀ s' kc' ks', I s' → kc' ≤ kc + 1 → ks' ≤ ks + 6 → L_law_917 X x4 s' kc' ks' Q) : q_W (PP X) 0 (904, [some (.inr (.inr (.inr ()))), some (.inr (.inr (.inl (some 0)))), some (.inr (.inr (.inl (some 113)))), some (.inr (.inr (.inl (some 161)))), some (.inl x4), none, none], [], S0, s, kc, ks) Q := by
  have c30 : (PP X).2.1 30 = 0 := by show (q_rm 30).2.2.1 = _; decide +kernel
  have d30 : (PP X).2.2.1 30 = 0 := by show (q_rm 30).2.2.2 = _; decide +kernel
  have n30 : (PP X).2.2.2.1 30 = q_nL 30 := rfl
  have c126 : (PP X).2.1 126 = 0 := by show (q_rm 126).2.2.1 = _; decide +kernel
  have d126 : (PP X).2.2.1 126 = 0 := by show (q_rm 126).2.2.2 = _; decide +kernel
  have n126 : (PP X).2.2.2.1 126 = q_nL 126 := rfl
  have c0 : (PP X).2.1 0 = 601024 := by show (q_rm 0).2.2.1 = _; decide +kernel
  have d0 : (PP X).2.2.1 0 = 7293034 := by show (q_rm 0).2.2.2 = _; decide +kernel
  refine w_aload (P := PP X) (M := 0) (p' := 905) rfl rfl rfl rfl ?_
  refine w_call (P := PP X) (M := 0) (p' := 908) (M' := 30) (as := [.inr (.inr (.inl (some 0)))]) (rest := []) rfl rfl (by decide) rfl rfl (Nat.le_of_ble_eq_true rfl) rfl rfl (Nat.le_of_ble_eq_true rfl) (by rw [c30, c0]; omega) (by rw [d30, d0]; omega) (rfl : q_tag S0 0 = some 3) (by rw [n30]; exact Nat.le_of_ble_eq_true rfl) h (fun k S' s' hq => by obtain ⟨-, x, e, -⟩ := hq; cases e) ?_
  rintro w S' s1 ⟨rfl, c, e0, h⟩
  cases e0
  refine w_aload (P := PP X) (M := 0) (p' := 909) rfl rfl rfl rfl ?_
  refine w_call (P := PP X) (M := 0) (p' := 912) (M' := 126) (as := [.inr (.inr (.inl (some 113)))]) (rest := [.inl c]) rfl rfl (by decide) rfl rfl (Nat.le_of_ble_eq_true rfl) rfl rfl (Nat.le_of_ble_eq_true rfl) (by rw [c30, c126, c0]; omega) (by rw [d30, d126, d0]; omega) (rfl : q_tag S0 113 = some 4) (by rw [n126]; exact Nat.le_of_ble_eq_true rfl) h (fun k S' s' hq => by obtain ⟨-, x, e, -⟩ := hq; cases e) ?_
  rintro w S' s2 ⟨rfl, y, e0, h⟩
  cases e0
  obtain ⟨he, hI⟩ := h
  refine w_icmp (P := PP X) (M := 0) (t := 917) (e := 915) rfl rfl rfl (fun _ => ?_) (fun q => absurd he q)
  refine w_cut (a := [some (.inr (.inr (.inr ()))), some (.inr (.inr (.inl (some 0)))), some (.inr (.inr (.inl (some 113)))), some (.inr (.inr (.inl (some 161)))), some (.inl x4), none, none]) ⟨rfl, rfl, rfl, rfl, rfl, trivial⟩ (k _ _ _ hI (by rw [c30, c126]; omega) (by rw [d30, d126]; omega))
set_option maxRecDepth 100000 in
theorem q_law_next {X : Nat × (Nat → Int32)} {x4 : Int} {s : qM} {kc ks : Nat} {Q : qQ} (h0 : 0 ≤ x4) (h1 : x4 + 3 ≤ (X.1 : Int)) (hX : X.1 ≤ 1536) (h : L_law_23 X (x4 + 3) s kc ks Q) : L_law_917 X x4 s kc ks Q := by
  refine w_iinc (P := PP X) (M := 0) (p' := 920) (x := x4) rfl rfl rfl (Nat.le_of_ble_eq_true rfl) ⟨by omega, by omega⟩ rfl ?_
  exact w_goto (P := PP X) (M := 0) (p' := 23) rfl rfl h
set_option maxRecDepth 100000 in
theorem q_law_end {X : Nat × (Nat → Int32)} {x4 : Int} {s : qM} {kc ks : Nat} (h0 : 0 ≤ x4) (hx : x4 ≤ 1536) (hX : X.1 ≤ 1536) (h1 : (X.1 : Int) - 3 < x4) : L_law_23 X x4 s kc ks (fun k _ _ => k = .inl (some (.inl 1))) := by
  refine w_iload (P := PP X) (M := 0) (p' := 25) rfl rfl rfl rfl ?_
  refine w_xload (P := PP X) (M := 0) (p' := 26) rfl rfl rfl rfl ?_
  refine w_xlen (P := PP X) (M := 0) (p' := 27) rfl rfl rfl ?_
  refine w_const (P := PP X) (M := 0) (p' := 28) rfl rfl rfl ?_
  refine w_sub (P := PP X) (M := 0) (p' := 29) rfl rfl (by show q_r32 ((X.1 : Int) - 3); exact ⟨by omega, by omega⟩) ?_
  refine w_icmp (P := PP X) (M := 0) (t := 923) (e := 32) rfl rfl rfl (fun _ => ?_) (fun q => absurd h1 q)
  refine w_const (P := PP X) (M := 0) (p' := 924) rfl rfl rfl ?_
  exact w_iret (P := PP X) (M := 0) rfl (by show (0 : Int) ≤ 1 ∧ (1 : Int) ≤ 1; decide) rfl
set_option maxRecDepth 100000 in
theorem q_law_head {X : Nat × (Nat → Int32)} {x4 : Int} {s : qM} {kc ks : Nat} {Q : qQ} (h0 : 0 ≤ x4) (hx : x4 ≤ 1536) (hX : X.1 ≤ 1536) (h1 : x4 ≤ (X.1 : Int) - 3)
    (h : q_sw (fun t => q_W (PP X) 0 (t, [some (.inr (.inr (.inr ()))), some (.inr (.inr (.inl (some 0)))), some (.inr (.inr (.inl (some 113)))), some (.inr (.inr (.inl (some 161)))), some (.inl x4), none, none], [], S0, s, kc, ks) Q) (q_and ((X.2 x4.toNat).toInt) 31) 917 [0, 120, 1, 188, 2, 256, 3, 269, 4, 325, 5, 338, 6, 351, 7, 419, 8, 487, 9, 543, 10, 599, 11, 655, 12, 711, 13, 779, 14, 792, 15, 848, 16, 904]) : L_law_23 X x4 s kc ks Q := by
  refine w_iload (P := PP X) (M := 0) (p' := 25) rfl rfl rfl rfl ?_
  refine w_xload (P := PP X) (M := 0) (p' := 26) rfl rfl rfl rfl ?_
  refine w_xlen (P := PP X) (M := 0) (p' := 27) rfl rfl rfl ?_
  refine w_const (P := PP X) (M := 0) (p' := 28) rfl rfl rfl ?_
  refine w_sub (P := PP X) (M := 0) (p' := 29) rfl rfl (by show q_r32 ((X.1 : Int) - 3); exact ⟨by omega, by omega⟩) ?_
  refine w_icmp (P := PP X) (M := 0) (t := 923) (e := 32) rfl rfl rfl (fun q => absurd (show (X.1 : Int) - 3 < x4 from q) (by omega)) (fun _ => ?_)
  refine w_xload (P := PP X) (M := 0) (p' := 33) rfl rfl rfl rfl ?_
  refine w_iload (P := PP X) (M := 0) (p' := 35) rfl rfl rfl rfl ?_
  refine w_xald (P := PP X) (M := 0) (p' := 36) rfl rfl rfl h0 (by show x4 < (X.1 : Int); omega) ?_
  refine w_const (P := PP X) (M := 0) (p' := 38) rfl rfl rfl ?_
  refine w_and (P := PP X) (M := 0) (p' := 39) rfl rfl ?_
  exact w_tsw (P := PP X) (M := 0) rfl h
/-- what every operation owes, from I to I -/
def O_all (I : qM → Prop) (X : Nat × (Nat → Int32)) : Prop := ∀ s : qM, I s → (∀ a b : Int, q_r32 a → q_r32 b → O_put I X a b s) ∧ (∀ a b : Int, q_r32 a → q_r32 b → O_take I X a b s) ∧ O_length I X s ∧ (∀ a : Int, q_r32 a → O_character I X a s) ∧ O_clear I X s ∧ O_nodes I X s ∧ (∀ a b : Int, q_r32 a → q_r32 b → O_node I X a b s) ∧ (∀ a b : Int, q_r32 a → q_r32 b → O_child I X a b s) ∧ (∀ a : Int, q_r32 a → O_owner I X a s) ∧ (∀ a : Int, q_r32 a → O_leads I X a s) ∧ (∀ a : Int, q_r32 a → O_count I X a s) ∧ (∀ a : Int, q_r32 a → O_print I X a s) ∧ (∀ a b : Int, q_r32 a → q_r32 b → O_printed I X a b s) ∧ O_format I X s ∧ (∀ a : Int, q_r32 a → O_keep I X a s) ∧ (∀ a : Int, q_r32 a → O_load I X a s) ∧ O_merge I X s
set_option maxRecDepth 100000 in
set_option maxHeartbeats 4000000 in
theorem q_law_23 {I : qM → Prop} {X : Nat × (Nat → Int32)} (hX : X.1 ≤ 1536) (hO : O_all I X) : ∀ (n : Nat) (x4 : Int) (s : qM) (kc ks : Nat), (X.1 : Int) - x4 ≤ 3 * n → 0 ≤ x4 → x4 ≤ 1536 → kc + n ≤ 601024 → ks + 6 * n ≤ 7293034 → I s → L_law_23 X x4 s kc ks (fun k _ _ => k = .inl (some (.inl 1))) := by
  intro n
  induction n with
  | zero =>
    intro x4 s kc ks hn h0 hx hc hs hI
    have hlt : (X.1 : Int) - 3 < x4 := by omega
    exact q_law_end h0 hx hX hlt
  | succ n ih =>
    intro x4 s kc ks hn h0 hx hc hs hI
    by_cases hlt : (X.1 : Int) - 3 < x4
    · exact q_law_end h0 hx hX hlt
    · refine q_law_head h0 hx hX (by omega) ?_
      have h1 : x4 + 3 ≤ (X.1 : Int) := by omega
      have go : ∀ s' kc' ks', I s' → kc' ≤ kc + 1 → ks' ≤ ks + 6 → L_law_917 X x4 s' kc' ks' (fun k _ _ => k = .inl (some (.inl 1))) := fun s' kc' ks' hI' h2 h3 => q_law_next h0 h1 hX (ih (x4 + 3) s' kc' ks' (by omega) (by omega) (by omega) (by omega) (by omega) hI')
      have hA := hO s hI
      obtain ⟨o0, o1, o2, o3, o4, o5, o6, o7, o8, o9, o10, o11, o12, o13, o14, o15, o16⟩ := hA
      show q_sw _ _ _ [0, 120, 1, 188, 2, 256, 3, 269, 4, 325, 5, 338, 6, 351, 7, 419, 8, 487, 9, 543, 10, 599, 11, 655, 12, 711, 13, 779, 14, 792, 15, 848, 16, 904]
      refine ⟨fun _ => q_law_put h0 h1 hX (by omega) (by omega) (o0 _ _ (q_r32_of _) (q_r32_of _)) go, fun _ => ?_⟩
      refine ⟨fun _ => q_law_take h0 h1 hX (by omega) (by omega) (o1 _ _ (q_r32_of _) (q_r32_of _)) go, fun _ => ?_⟩
      refine ⟨fun _ => q_law_length h0 h1 hX (by omega) (by omega) (o2) go, fun _ => ?_⟩
      refine ⟨fun _ => q_law_character h0 h1 hX (by omega) (by omega) (o3 _ (q_r32_of _)) go, fun _ => ?_⟩
      refine ⟨fun _ => q_law_clear h0 h1 hX (by omega) (by omega) (o4) go, fun _ => ?_⟩
      refine ⟨fun _ => q_law_nodes h0 h1 hX (by omega) (by omega) (o5) go, fun _ => ?_⟩
      refine ⟨fun _ => q_law_node h0 h1 hX (by omega) (by omega) (o6 _ _ (q_r32_of _) (q_r32_of _)) go, fun _ => ?_⟩
      refine ⟨fun _ => q_law_child h0 h1 hX (by omega) (by omega) (o7 _ _ (q_r32_of _) (q_r32_of _)) go, fun _ => ?_⟩
      refine ⟨fun _ => q_law_owner h0 h1 hX (by omega) (by omega) (o8 _ (q_r32_of _)) go, fun _ => ?_⟩
      refine ⟨fun _ => q_law_leads h0 h1 hX (by omega) (by omega) (o9 _ (q_r32_of _)) go, fun _ => ?_⟩
      refine ⟨fun _ => q_law_count h0 h1 hX (by omega) (by omega) (o10 _ (q_r32_of _)) go, fun _ => ?_⟩
      refine ⟨fun _ => q_law_print h0 h1 hX (by omega) (by omega) (o11 _ (q_r32_of _)) go, fun _ => ?_⟩
      refine ⟨fun _ => q_law_printed h0 h1 hX (by omega) (by omega) (o12 _ _ (q_r32_of _) (q_r32_of _)) go, fun _ => ?_⟩
      refine ⟨fun _ => q_law_format h0 h1 hX (by omega) (by omega) (o13) go, fun _ => ?_⟩
      refine ⟨fun _ => q_law_keep h0 h1 hX (by omega) (by omega) (o14 _ (q_r32_of _)) go, fun _ => ?_⟩
      refine ⟨fun _ => q_law_load h0 h1 hX (by omega) (by omega) (o15 _ (q_r32_of _)) go, fun _ => ?_⟩
      refine ⟨fun _ => q_law_merge h0 h1 hX (by omega) (by omega) (o16) go, fun _ => ?_⟩
      exact go s kc ks hI (by omega) (by omega)
/-- all that is left: a relation of the two objects that holds at the start, and is kept by every operation -/
theorem q_whole {I : qM → Prop} (h0 : I q_z0) (hO : ∀ X : Nat × (Nat → Int32), O_all I X) {p : Program} {e : Env} {s : State} {m : MethodId} {below : List Frame} {meth : Method} {c : Code} (l : Launch) (hflags : l.flags = flags0) {b L : Nat} {xs : Nat → Int32} (hL : L ≤ 1536) (C0 : lw_At p s m meth c b L xs) :
    W p l e room_1 s m #[Value.ref b] below meth c s.heap [] 0 0 (lw_Z below #[Value.ref b] s) (entryFrame m ([Value.ref b] : List Value).toArray 7) :=
  q_entry0 l hflags hL C0 (q_law0 (X := (L, xs)) (q_law_23 hL (hO (L, xs)) 512 0 q_z0 162 181223 (by show (L : Int) - 0 ≤ 3 * 512; omega) (by decide) (by decide) (by decide) (by decide) h0))
