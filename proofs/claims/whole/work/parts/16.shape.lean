/-! The shapes of all objects, as the constructors leave them; what a method comes to. -/
def S0 : qS := [(3, 12, [some 1, some 3, some 5, some 7, some 12, some 43, some 44, some 64, some 83, some 88, some 90, none]),
  (13, 2, [some 2, none]),
  (0, 240, []),
  (13, 2, [some 4, none]),
  (0, 240, []),
  (13, 2, [some 6, none]),
  (0, 240, []),
  (8, 3, [some 1, some 8, some 10]),
  (13, 2, [some 9, none]),
  (0, 241, []),
  (13, 2, [some 11, none]),
  (0, 241, []),
  (6, 13, [some 13, some 15, some 17, some 19, some 21, some 23, some 25, some 27, some 29, some 31, some 33, some 35, some 39]),
  (13, 2, [some 14, none]),
  (0, 482, []),
  (13, 2, [some 16, none]),
  (0, 482, []),
  (13, 2, [some 18, none]),
  (0, 482, []),
  (13, 2, [some 20, none]),
  (0, 482, []),
  (13, 2, [some 22, none]),
  (0, 482, []),
  (13, 2, [some 24, none]),
  (0, 482, []),
  (13, 2, [some 26, none]),
  (0, 482, []),
  (13, 2, [some 28, none]),
  (0, 482, []),
  (13, 2, [some 30, none]),
  (0, 241, []),
  (13, 2, [some 32, none]),
  (0, 241, []),
  (13, 2, [some 34, none]),
  (0, 240, []),
  (10, 2, [some 36, some 37]),
  (2, 241, []),
  (13, 2, [some 38, none]),
  (0, 241, []),
  (10, 2, [some 40, some 41]),
  (2, 241, []),
  (13, 2, [some 42, none]),
  (0, 241, []),
  (5, 9, [some 1, some 7, some 12, none, none, none, none, none, none]),
  (7, 6, [some 12, some 45, some 47, some 49, some 51, some 53]),
  (13, 2, [some 46, none]),
  (0, 240, []),
  (13, 2, [some 48, none]),
  (0, 240, []),
  (13, 2, [some 50, none]),
  (0, 240, []),
  (13, 2, [some 52, none]),
  (0, 240, []),
  (14, 5, [some 54, some 56, some 58, some 60, some 62]),
  (13, 2, [some 55, none]),
  (0, 240, []),
  (13, 2, [some 57, none]),
  (0, 240, []),
  (13, 2, [some 59, none]),
  (0, 240, []),
  (13, 2, [some 61, none]),
  (0, 240, []),
  (13, 2, [some 63, none]),
  (0, 240, []),
  (15, 9, [some 65, some 67, some 69, some 71, some 73, some 75, some 77, some 79, some 81]),
  (13, 2, [some 66, none]),
  (0, 482, []),
  (13, 2, [some 68, none]),
  (0, 482, []),
  (13, 2, [some 70, none]),
  (0, 482, []),
  (13, 2, [some 72, none]),
  (0, 482, []),
  (13, 2, [some 74, none]),
  (0, 482, []),
  (13, 2, [some 76, none]),
  (0, 482, []),
  (13, 2, [some 78, none]),
  (0, 482, []),
  (13, 2, [some 80, none]),
  (0, 481, []),
  (13, 2, [some 82, none]),
  (0, 482, []),
  (12, 3, [some 64, some 84, some 86]),
  (13, 2, [some 85, none]),
  (0, 1927, []),
  (13, 2, [some 87, none]),
  (0, 1927, []),
  (13, 2, [some 89, none]),
  (0, 240, []),
  (9, 13, [some 91, some 7, some 96, some 101, some 107, some 109, some 111, none, none, none, none, none, none]),
  (8, 3, [some 3, some 92, some 94]),
  (13, 2, [some 93, none]),
  (0, 241, []),
  (13, 2, [some 95, none]),
  (0, 241, []),
  (8, 3, [some 5, some 97, some 99]),
  (13, 2, [some 98, none]),
  (0, 241, []),
  (13, 2, [some 100, none]),
  (0, 241, []),
  (11, 3, [some 102, some 103, some 105]),
  (2, 964, []),
  (13, 2, [some 104, none]),
  (0, 242, []),
  (13, 2, [some 106, none]),
  (0, 242, []),
  (13, 2, [some 108, none]),
  (0, 241, []),
  (13, 2, [some 110, none]),
  (0, 241, []),
  (13, 2, [some 112, none]),
  (0, 240, []),
  (4, 65, [none, some 114, some 115, some 116, none, some 117, some 118, some 119, some 120, some 121, some 122, some 123, some 124, some 125, some 126, some 127, some 128, none, some 129, some 130, none, some 131, some 132, some 133, some 134, some 135, some 136, some 137, none, some 138, none, some 139, some 140, none, some 141, some 142, some 143, some 144, some 145, some 146, some 147, none, some 148, some 149, some 150, none, some 151, none, none, none, none, none, some 152, some 153, none, none, some 154, some 155, some 156, some 157, some 158, some 159, some 160, none, none]),
  (0, 240, []),
  (0, 480, []),
  (0, 2, []),
  (0, 600, []),
  (0, 600, []),
  (1, 600, []),
  (0, 600, []),
  (1, 600, []),
  (0, 600, []),
  (0, 600, []),
  (0, 241, []),
  (0, 241, []),
  (0, 241, []),
  (0, 241, []),
  (1, 241, []),
  (0, 240, []),
  (0, 3600, []),
  (0, 900, []),
  (0, 900, []),
  (0, 900, []),
  (0, 900, []),
  (0, 900, []),
  (0, 900, []),
  (0, 600, []),
  (0, 241, []),
  (0, 1100, []),
  (0, 1100, []),
  (0, 241, []),
  (0, 241, []),
  (0, 241, []),
  (1, 241, []),
  (1, 241, []),
  (0, 241, []),
  (1, 241, []),
  (0, 241, []),
  (0, 241, []),
  (0, 241, []),
  (0, 3000, []),
  (0, 300, []),
  (0, 900, []),
  (0, 800, []),
  (0, 720, []),
  (0, 3, []),
  (0, 723, []),
  (0, 723, []),
  (0, 58564, []),
  (0, 482, []),
  (2, 1, [])]
def q_Pr (xl : Nat) (xs : Nat → Int32) : qP := (q_ft1, fun M => (q_rm M).2.2.1, fun M => (q_rm M).2.2.2, q_nL, xl, fun j => (xs j).toInt)
abbrev PP (X : Nat × (Nat → Int32)) : qP := q_Pr X.1 X.2
def q_KI (K : Int → qM → Prop) : qQ := fun r S s => S = S0 ∧ ∃ x, r = .inl (some (.inl x)) ∧ K x s
def q_KL (K : Int → qM → Prop) : qQ := fun r S s => S = S0 ∧ ∃ x, r = .inl (some (.inr (.inl x))) ∧ K x s
def q_KV (K : qM → Prop) : qQ := fun r S s => S = S0 ∧ r = .inl none ∧ K s
def q_KA (K : Nat → qM → Prop) : qQ := fun r S s => S = S0 ∧ ∃ x, r = .inl (some (.inr (.inr (.inl (some x))))) ∧ K x s
def q_KX (K : Int ⊕ Nat → qM → Prop) : qQ := fun r S s => S = S0 ∧ ((∃ x, r = .inl (some (.inl x)) ∧ K (.inl x) s) ∨ ∃ k, r = .inr k ∧ K (.inr k) s)
def q_isRow (r n : Nat) : Prop := S0[r]? = some (13, 2, [some (r + 1), none]) ∧ S0[r + 1]? = some (0, n, []) ∧ n < 2147483648
theorem q_isRow.tag {r n : Nat} (h : q_isRow r n) : q_tag S0 r = some 13 := by unfold q_tag; rw [h.1]
theorem q_isRow.ref {r n : Nat} (h : q_isRow r n) : q_ref S0 r 0 = some (r + 1) := by unfold q_ref; rw [h.1]; rfl
theorem q_isRow.atag {r n : Nat} (h : q_isRow r n) : q_tag S0 (r + 1) = some 0 := by unfold q_tag; rw [h.2.1]
theorem q_isRow.alen {r n : Nat} (h : q_isRow r n) : q_len S0 (r + 1) = n := by unfold q_len; rw [h.2.1]
theorem q_isRow.nlt {r n : Nat} (h : q_isRow r n) : n < 2147483648 := h.2.2
def q_isLines (l t b e : Nat) : Prop := S0[l]? = some (8, 3, [some t, some b, some e]) ∧ q_isRow t 240 ∧ q_isRow b 241 ∧ q_isRow e 241
theorem q_isLines.tag {l t b e : Nat} (h : q_isLines l t b e) : q_tag S0 l = some 8 := by unfold q_tag; rw [h.1]
theorem q_isLines.ref_text {l t b e : Nat} (h : q_isLines l t b e) : q_ref S0 l 0 = some t := by unfold q_ref; rw [h.1]; rfl
theorem q_isLines.ref_begins {l t b e : Nat} (h : q_isLines l t b e) : q_ref S0 l 1 = some b := by unfold q_ref; rw [h.1]; rfl
theorem q_isLines.ref_ends {l t b e : Nat} (h : q_isLines l t b e) : q_ref S0 l 2 = some e := by unfold q_ref; rw [h.1]; rfl
theorem q_isLines.text {l t b e : Nat} (h : q_isLines l t b e) : q_isRow t 240 := h.2.1
theorem q_isLines.begins {l t b e : Nat} (h : q_isLines l t b e) : q_isRow b 241 := h.2.2.1
theorem q_isLines.ends {l t b e : Nat} (h : q_isLines l t b e) : q_isRow e 241 := h.2.2.2
def q_isNames (l c n : Nat) : Prop := S0[l]? = some (10, 2, [some c, some n]) ∧ S0[c]? = some (2, 241, []) ∧ q_isRow n 241
theorem q_isNames.tag {l c n : Nat} (h : q_isNames l c n) : q_tag S0 l = some 10 := by unfold q_tag; rw [h.1]
theorem q_isNames.ref_codes {l c n : Nat} (h : q_isNames l c n) : q_ref S0 l 0 = some c := by unfold q_ref; rw [h.1]; rfl
theorem q_isNames.ref_named {l c n : Nat} (h : q_isNames l c n) : q_ref S0 l 1 = some n := by unfold q_ref; rw [h.1]; rfl
theorem q_isNames.ctag {l c n : Nat} (h : q_isNames l c n) : q_tag S0 c = some 2 := by unfold q_tag; rw [h.2.1]
theorem q_isNames.clen {l c n : Nat} (h : q_isNames l c n) : q_len S0 c = 241 := by unfold q_len; rw [h.2.1]
theorem q_isNames.named {l c n : Nat} (h : q_isNames l c n) : q_isRow n 241 := h.2.2
theorem q_row_1 : q_isRow 1 240 := ⟨rfl, rfl, by decide⟩
theorem q_row_3 : q_isRow 3 240 := ⟨rfl, rfl, by decide⟩
theorem q_row_5 : q_isRow 5 240 := ⟨rfl, rfl, by decide⟩
theorem q_row_8 : q_isRow 8 241 := ⟨rfl, rfl, by decide⟩
theorem q_row_10 : q_isRow 10 241 := ⟨rfl, rfl, by decide⟩
theorem q_row_13 : q_isRow 13 482 := ⟨rfl, rfl, by decide⟩
theorem q_row_15 : q_isRow 15 482 := ⟨rfl, rfl, by decide⟩
theorem q_row_17 : q_isRow 17 482 := ⟨rfl, rfl, by decide⟩
theorem q_row_19 : q_isRow 19 482 := ⟨rfl, rfl, by decide⟩
theorem q_row_21 : q_isRow 21 482 := ⟨rfl, rfl, by decide⟩
theorem q_row_23 : q_isRow 23 482 := ⟨rfl, rfl, by decide⟩
theorem q_row_25 : q_isRow 25 482 := ⟨rfl, rfl, by decide⟩
theorem q_row_27 : q_isRow 27 482 := ⟨rfl, rfl, by decide⟩
theorem q_row_29 : q_isRow 29 241 := ⟨rfl, rfl, by decide⟩
theorem q_row_31 : q_isRow 31 241 := ⟨rfl, rfl, by decide⟩
theorem q_row_33 : q_isRow 33 240 := ⟨rfl, rfl, by decide⟩
theorem q_row_37 : q_isRow 37 241 := ⟨rfl, rfl, by decide⟩
theorem q_row_41 : q_isRow 41 241 := ⟨rfl, rfl, by decide⟩
theorem q_row_45 : q_isRow 45 240 := ⟨rfl, rfl, by decide⟩
theorem q_row_47 : q_isRow 47 240 := ⟨rfl, rfl, by decide⟩
theorem q_row_49 : q_isRow 49 240 := ⟨rfl, rfl, by decide⟩
theorem q_row_51 : q_isRow 51 240 := ⟨rfl, rfl, by decide⟩
theorem q_row_54 : q_isRow 54 240 := ⟨rfl, rfl, by decide⟩
theorem q_row_56 : q_isRow 56 240 := ⟨rfl, rfl, by decide⟩
theorem q_row_58 : q_isRow 58 240 := ⟨rfl, rfl, by decide⟩
theorem q_row_60 : q_isRow 60 240 := ⟨rfl, rfl, by decide⟩
theorem q_row_62 : q_isRow 62 240 := ⟨rfl, rfl, by decide⟩
theorem q_row_65 : q_isRow 65 482 := ⟨rfl, rfl, by decide⟩
theorem q_row_67 : q_isRow 67 482 := ⟨rfl, rfl, by decide⟩
theorem q_row_69 : q_isRow 69 482 := ⟨rfl, rfl, by decide⟩
theorem q_row_71 : q_isRow 71 482 := ⟨rfl, rfl, by decide⟩
theorem q_row_73 : q_isRow 73 482 := ⟨rfl, rfl, by decide⟩
theorem q_row_75 : q_isRow 75 482 := ⟨rfl, rfl, by decide⟩
theorem q_row_77 : q_isRow 77 482 := ⟨rfl, rfl, by decide⟩
theorem q_row_79 : q_isRow 79 481 := ⟨rfl, rfl, by decide⟩
theorem q_row_81 : q_isRow 81 482 := ⟨rfl, rfl, by decide⟩
theorem q_row_84 : q_isRow 84 1927 := ⟨rfl, rfl, by decide⟩
theorem q_row_86 : q_isRow 86 1927 := ⟨rfl, rfl, by decide⟩
theorem q_row_88 : q_isRow 88 240 := ⟨rfl, rfl, by decide⟩
theorem q_row_92 : q_isRow 92 241 := ⟨rfl, rfl, by decide⟩
theorem q_row_94 : q_isRow 94 241 := ⟨rfl, rfl, by decide⟩
theorem q_row_97 : q_isRow 97 241 := ⟨rfl, rfl, by decide⟩
theorem q_row_99 : q_isRow 99 241 := ⟨rfl, rfl, by decide⟩
theorem q_row_103 : q_isRow 103 242 := ⟨rfl, rfl, by decide⟩
theorem q_row_105 : q_isRow 105 242 := ⟨rfl, rfl, by decide⟩
theorem q_row_107 : q_isRow 107 241 := ⟨rfl, rfl, by decide⟩
theorem q_row_109 : q_isRow 109 241 := ⟨rfl, rfl, by decide⟩
theorem q_row_111 : q_isRow 111 240 := ⟨rfl, rfl, by decide⟩
theorem q_lines_7 : q_isLines 7 1 8 10 := ⟨rfl, q_row_1, q_row_8, q_row_10⟩
theorem q_names_35 : q_isNames 35 36 37 := ⟨rfl, rfl, q_row_37⟩
theorem q_names_39 : q_isNames 39 40 41 := ⟨rfl, rfl, q_row_41⟩
theorem q_lines_91 : q_isLines 91 3 92 94 := ⟨rfl, q_row_3, q_row_92, q_row_94⟩
theorem q_lines_96 : q_isLines 96 5 97 99 := ⟨rfl, q_row_5, q_row_97, q_row_99⟩
theorem q_le_z : q_leL [] [] := trivial
section QV
variable {P : qP} {M pc p' len n : Nat} {v : Int} {a : List Nat} {ls : List (Option qV)} {st rest as : List qV} {S : qS} {s : qM} {kc ks : Nat} {Q : qQ} {i : Instr} {M' : Nat}
theorem v_putI {r : Nat} {j x : Int} (hf : P.1 M pc = some (len, .putfield n, v, a)) (hn : pc + len = p') (hκ : ¬ q_a a 2 = 1) (hj : ((q_a a 1 : Nat) : Int) = j) (ht : q_tag S r = some (3 + q_a a 0)) (hz : q_kind (q_a a 2) x) (k : ∀ s', s' = q_up s r j x → q_W P M (p', ls, st, S, s', kc, ks) Q) : q_W P M (pc, ls, .inl x :: .inr (.inr (.inl (some r))) :: st, S, s, kc, ks) Q := w_putI hf hn hκ hj ht hz (k _ rfl)
theorem v_iast {r N : Nat} {j x : Int} (hf : P.1 M pc = some (len, .iastore, v, a)) (hn : pc + len = p') (ht : q_tag S r = some 0) (hN : q_len S r = N) (h0 : 0 ≤ j) (h1 : j < N) (k : ∀ s', s' = q_up s r j x → q_W P M (p', ls, st, S, s', kc, ks) Q) : q_W P M (pc, ls, .inl x :: .inl j :: .inr (.inr (.inl (some r))) :: st, S, s, kc, ks) Q := w_iast hf hn ht hN h0 h1 (k _ rfl)
theorem v_bast {r N : Nat} {j x : Int} (hf : P.1 M pc = some (len, .bastore, v, a)) (hn : pc + len = p') (ht : q_tag S r = some 1) (hN : q_len S r = N) (h0 : 0 ≤ j) (h1 : j < N) (h2 : 0 ≤ x) (h3 : x ≤ 1) (k : ∀ s', s' = q_up s r j x → q_W P M (p', ls, st, S, s', kc, ks) Q) : q_W P M (pc, ls, .inl x :: .inl j :: .inr (.inr (.inl (some r))) :: st, S, s, kc, ks) Q := w_bast hf hn ht hN h0 h1 h2 h3 (k _ rfl)
theorem v_last {r N : Nat} {j x : Int} (hf : P.1 M pc = some (len, .lastore, v, a)) (hn : pc + len = p') (ht : q_tag S r = some 2) (hN : q_len S r = N) (h0 : 0 ≤ j) (h1 : j < N) (k : ∀ s', s' = q_up s r j x → q_W P M (p', ls, st, S, s', kc, ks) Q) : q_W P M (pc, ls, .inr (.inl x) :: .inl j :: .inr (.inr (.inl (some r))) :: st, S, s, kc, ks) Q := w_last hf hn ht hN h0 h1 (k _ rfl)
theorem v_callI {K : Int → qM → Prop} (hf : P.1 M pc = some (len, i, v, a)) (hi : q_isV i = true) (h2 : Nat.ble 2 (q_a a 2) = false) (hM : q_a a 0 = M') (hn : pc + 3 = p') (h1 : Nat.ble (q_a a 1) st.length = true) (ht : (st.take (q_a a 1)).reverse = as) (hd : st.drop (q_a a 1) = rest) (hs : Nat.ble (q_sum rest) 8 = true)
    (hc : P.2.1 M' = 0) (hk : P.2.2.1 M' = 0) (hr : q_rc S0 (q_a a 2) (q_a a 3) as) (hl : Nat.ble (q_en as).length (P.2.2.2.1 M') = true)
    (hR : q_W P M' (0, q_pad (P.2.2.2.1 M') (q_en as), [], S0, s, 0, 0) (q_KI K)) (k : ∀ x s', K x s' → q_W P M (p', ls, .inl x :: rest, S0, s', 0, 0) Q) : q_W P M (pc, ls, st, S0, s, 0, 0) Q := by
  refine w_call hf hi (Nat.lt_of_not_le (fun h => by rw [Nat.ble_eq_true_of_le h] at h2; cases h2)) hM hn (Nat.le_of_ble_eq_true h1) ht hd (Nat.le_of_ble_eq_true hs) (by rw [hc]; exact Nat.zero_le _) (by rw [hk]; exact Nat.zero_le _) hr (Nat.le_of_ble_eq_true hl) hR ?_ ?_
  · rintro k S' s' ⟨-, x, e, -⟩; cases e
  · intro w S' s' hw
    rw [hc, hk]
    obtain ⟨rfl, x, e, hK⟩ := hw
    cases e
    exact k x s' hK
theorem v_callL {K : Int → qM → Prop} (hf : P.1 M pc = some (len, i, v, a)) (hi : q_isV i = true) (h2 : Nat.ble 2 (q_a a 2) = false) (hM : q_a a 0 = M') (hn : pc + 3 = p') (h1 : Nat.ble (q_a a 1) st.length = true) (ht : (st.take (q_a a 1)).reverse = as) (hd : st.drop (q_a a 1) = rest) (hs : Nat.ble (q_sum rest) 8 = true)
    (hc : P.2.1 M' = 0) (hk : P.2.2.1 M' = 0) (hr : q_rc S0 (q_a a 2) (q_a a 3) as) (hl : Nat.ble (q_en as).length (P.2.2.2.1 M') = true)
    (hR : q_W P M' (0, q_pad (P.2.2.2.1 M') (q_en as), [], S0, s, 0, 0) (q_KL K)) (k : ∀ x s', K x s' → q_W P M (p', ls, .inr (.inl x) :: rest, S0, s', 0, 0) Q) : q_W P M (pc, ls, st, S0, s, 0, 0) Q := by
  refine w_call hf hi (Nat.lt_of_not_le (fun h => by rw [Nat.ble_eq_true_of_le h] at h2; cases h2)) hM hn (Nat.le_of_ble_eq_true h1) ht hd (Nat.le_of_ble_eq_true hs) (by rw [hc]; exact Nat.zero_le _) (by rw [hk]; exact Nat.zero_le _) hr (Nat.le_of_ble_eq_true hl) hR ?_ ?_
  · rintro k S' s' ⟨-, x, e, -⟩; cases e
  · intro w S' s' hw
    rw [hc, hk]
    obtain ⟨rfl, x, e, hK⟩ := hw
    cases e
    exact k x s' hK
theorem v_callA {K : Nat → qM → Prop} (hf : P.1 M pc = some (len, i, v, a)) (hi : q_isV i = true) (h2 : Nat.ble 2 (q_a a 2) = false) (hM : q_a a 0 = M') (hn : pc + 3 = p') (h1 : Nat.ble (q_a a 1) st.length = true) (ht : (st.take (q_a a 1)).reverse = as) (hd : st.drop (q_a a 1) = rest) (hs : Nat.ble (q_sum rest) 8 = true)
    (hc : P.2.1 M' = 0) (hk : P.2.2.1 M' = 0) (hr : q_rc S0 (q_a a 2) (q_a a 3) as) (hl : Nat.ble (q_en as).length (P.2.2.2.1 M') = true)
    (hR : q_W P M' (0, q_pad (P.2.2.2.1 M') (q_en as), [], S0, s, 0, 0) (q_KA K)) (k : ∀ x s', K x s' → q_W P M (p', ls, .inr (.inr (.inl (some x))) :: rest, S0, s', 0, 0) Q) : q_W P M (pc, ls, st, S0, s, 0, 0) Q := by
  refine w_call hf hi (Nat.lt_of_not_le (fun h => by rw [Nat.ble_eq_true_of_le h] at h2; cases h2)) hM hn (Nat.le_of_ble_eq_true h1) ht hd (Nat.le_of_ble_eq_true hs) (by rw [hc]; exact Nat.zero_le _) (by rw [hk]; exact Nat.zero_le _) hr (Nat.le_of_ble_eq_true hl) hR ?_ ?_
  · rintro k S' s' ⟨-, x, e, -⟩; cases e
  · intro w S' s' hw
    rw [hc, hk]
    obtain ⟨rfl, x, e, hK⟩ := hw
    cases e
    exact k x s' hK
theorem v_callV {K : qM → Prop} (hf : P.1 M pc = some (len, i, v, a)) (hi : q_isV i = true) (h2 : Nat.ble 2 (q_a a 2) = false) (hM : q_a a 0 = M') (hn : pc + 3 = p') (h1 : Nat.ble (q_a a 1) st.length = true) (ht : (st.take (q_a a 1)).reverse = as) (hd : st.drop (q_a a 1) = rest) (hs : Nat.ble (q_sum rest) 8 = true)
    (hc : P.2.1 M' = 0) (hk : P.2.2.1 M' = 0) (hr : q_rc S0 (q_a a 2) (q_a a 3) as) (hl : Nat.ble (q_en as).length (P.2.2.2.1 M') = true)
    (hR : q_W P M' (0, q_pad (P.2.2.2.1 M') (q_en as), [], S0, s, 0, 0) (q_KV K)) (k : ∀ s', K s' → q_W P M (p', ls, rest, S0, s', 0, 0) Q) : q_W P M (pc, ls, st, S0, s, 0, 0) Q := by
  refine w_call hf hi (Nat.lt_of_not_le (fun h => by rw [Nat.ble_eq_true_of_le h] at h2; cases h2)) hM hn (Nat.le_of_ble_eq_true h1) ht hd (Nat.le_of_ble_eq_true hs) (by rw [hc]; exact Nat.zero_le _) (by rw [hk]; exact Nat.zero_le _) hr (Nat.le_of_ble_eq_true hl) hR ?_ ?_
  · rintro k S' s' ⟨-, e, -⟩; cases e
  · intro w S' s' hw
    rw [hc, hk]
    obtain ⟨rfl, e, hK⟩ := hw
    cases e
    exact k s' hK
end QV
