/-! The law's twelve wrappers: what a method answers is put into out, its exception told by a number (wip/tools/wrap.py). -/
section QWrap
variable {P : qP} {M pc p' len : Nat} {v : Int} {a : List Nat} {ls : List (Option qV)} {st : List qV} {S : qS} {s : qM} {kc ks : Nat} {Q : qQ} {i : Instr}
theorem w_callX {M' : Nat} {as rest : List qV} {R : qQ} (hf : P.1 M pc = some (len, i, v, a)) (hi : q_isV i = true) (h2 : q_a a 2 < 2) (hM : q_a a 0 = M') (hn : pc + 3 = p') (h1 : q_a a 1 ≤ st.length) (ht : (st.take (q_a a 1)).reverse = as) (hd : st.drop (q_a a 1) = rest) (hs : q_sum rest ≤ 8)
    (hc : kc + P.2.1 M' ≤ P.2.1 M) (hk : ks + P.2.2.1 M' ≤ P.2.2.1 M) (hr : q_rc S (q_a a 2) (q_a a 3) as) (hl : (q_en as).length ≤ P.2.2.2.1 M')
    (hR : q_W P M' (0, q_pad (P.2.2.2.1 M') (q_en as), [], S, s, 0, 0) R) (h4 : q_a a 4 = 1)
    (k : ∀ (w : Option qV) (S' : qS) (s' : qM), R (.inl w) S' s' → q_W P M (p', ls, w.toList ++ rest, S', s', kc + P.2.1 M', ks + P.2.2.1 M') Q)
    (kx : ∀ (k : Nat) (S' : qS) (s' : qM), R (.inr k) S' s' → q_F.q_hd (fun t i => q_W P M (t, (q_kl ls i).set i none, [], S', s', kc + P.2.1 M', ks + P.2.2.1 M') Q) k (a.drop 5)) : q_W P M (pc, ls, st, S, s, kc, ks) Q := by
  subst hn; subst hM; subst ht; subst hd
  refine q_W_in ?_
  unfold q_F
  dsimp only
  rw [hf]
  have h : q_F.q_ca (q_W P) P M (pc, ls, st, S, s, kc, ks) Q a := ⟨h1, hs, hc, hk, hr, hl, R, hR, k, fun k S' s' h => ⟨h4, kx k S' s' h⟩⟩
  cases i <;> first | (cases hi; done) | exact h | (dsimp only; rw [if_neg (by omega)]; exact h)
end QWrap

/-- 1: the law's wrapper put -/
def c_W_put (X : Nat × (Nat → Int32)) (x1 : Int) (x2 : Int) (s : qM) (K : Int → qM → Prop) : Prop := q_W (PP X) 1 (0, [some (.inr (.inr (.inl (some 0)))), some (.inl x1), some (.inl x2), some (.inr (.inr (.inl (some 161)))), none], [], S0, s, 0, 0) (q_KI K)
set_option maxHeartbeats 1000000 in
theorem k_W_put {X : Nat × (Nat → Int32)} {x1 x2 : Int} {s : qM} {K : Int → qM → Prop} (h : c_T_put X x1 x2 s (fun r s' => match r with
    | .inl x => K 0 (q_up s' 161 0 x)
    | .inr 0 => K 1 s'
    | .inr 1 => K 2 s'
    | .inr 2 => K 3 s'
    | .inr _ => False)) : c_W_put X x1 x2 s K := by
  have p0 : ∀ M, (PP X).2.1 M = (q_rm M).2.2.1 := fun _ => rfl
  have p1 : ∀ M, (PP X).2.2.1 M = (q_rm M).2.2.2 := fun _ => rfl
  have p2 : ∀ M, (PP X).2.2.2.1 M = q_nL M := fun _ => rfl
  refine w_aload (P := PP X) (M := 1) (p' := 1) rfl rfl rfl rfl ?_
  refine w_const (P := PP X) (M := 1) (p' := 2) rfl rfl rfl ?_
  refine w_aload (P := PP X) (M := 1) (p' := 3) rfl rfl rfl rfl ?_
  refine w_iload (P := PP X) (M := 1) (p' := 4) rfl rfl rfl rfl ?_
  refine w_iload (P := PP X) (M := 1) (p' := 5) rfl rfl rfl rfl ?_
  refine w_callX (P := PP X) (M := 1) (p' := 8) (M' := 14) (as := [.inr (.inr (.inl (some 0))), .inl x1, .inl x2]) (rest := [.inl 0, .inr (.inr (.inl (some 161)))]) rfl rfl (by decide) rfl rfl (Nat.le_of_ble_eq_true rfl) rfl rfl (by decide) (by rw [p0, p0]; decide +kernel) (by rw [p1, p1]; decide +kernel) (rfl : q_tag S0 0 = some 3) (by rw [p2]; exact Nat.le_of_ble_eq_true rfl) h rfl ?_ ?_
  · rintro w S' s' ⟨rfl, ⟨x, e, hk⟩ | ⟨k, e, hk⟩⟩
    · cases e
      refine w_i2l (P := PP X) (M := 1) (p' := 9) rfl rfl ?_
      refine w_last (P := PP X) (M := 1) (p' := 10) (N := 1) rfl rfl rfl rfl (by decide) (by decide) ?_
      refine w_goto (P := PP X) (M := 1) (p' := 25) rfl rfl ?_
      refine w_const (P := PP X) (M := 1) (p' := 26) rfl rfl rfl ?_
      exact w_iret (P := PP X) (M := 1) rfl trivial ⟨rfl, _, rfl, hk⟩
    · cases e
  · rintro k S' s' ⟨rfl, ⟨x, e, hk⟩ | ⟨k', e, hk⟩⟩
    · cases e
    · cases e
      match k, hk with
      | 0, hk =>
        refine ⟨fun _ => ?_, fun q => absurd rfl q⟩
        refine w_const (P := PP X) (M := 1) (p' := 16) rfl rfl rfl ?_
        exact w_iret (P := PP X) (M := 1) rfl trivial ⟨rfl, _, rfl, hk⟩
      | 1, hk =>
        refine ⟨fun q => absurd q (by decide), fun _ => ⟨fun _ => ?_, fun q => absurd rfl q⟩⟩
        refine w_const (P := PP X) (M := 1) (p' := 20) rfl rfl rfl ?_
        exact w_iret (P := PP X) (M := 1) rfl trivial ⟨rfl, _, rfl, hk⟩
      | 2, hk =>
        refine ⟨fun q => absurd q (by decide), fun _ => ⟨fun q => absurd q (by decide), fun _ => ⟨fun _ => ?_, fun q => absurd rfl q⟩⟩⟩
        refine w_const (P := PP X) (M := 1) (p' := 24) rfl rfl rfl ?_
        exact w_iret (P := PP X) (M := 1) rfl trivial ⟨rfl, _, rfl, hk⟩
      | k + 3, hk => exact hk.elim
/-- 2: the law's wrapper take -/
def c_W_take (X : Nat × (Nat → Int32)) (x1 : Int) (x2 : Int) (s : qM) (K : Int → qM → Prop) : Prop := q_W (PP X) 2 (0, [some (.inr (.inr (.inl (some 0)))), some (.inl x1), some (.inl x2), some (.inr (.inr (.inl (some 161)))), none], [], S0, s, 0, 0) (q_KI K)
set_option maxHeartbeats 1000000 in
theorem k_W_take {X : Nat × (Nat → Int32)} {x1 x2 : Int} {s : qM} {K : Int → qM → Prop} (h : c_T_take X x1 x2 s (fun r s' => match r with
    | .inl x => K 0 (q_up s' 161 0 x)
    | .inr 0 => K 1 s'
    | .inr 1 => K 2 s'
    | .inr _ => False)) : c_W_take X x1 x2 s K := by
  have p0 : ∀ M, (PP X).2.1 M = (q_rm M).2.2.1 := fun _ => rfl
  have p1 : ∀ M, (PP X).2.2.1 M = (q_rm M).2.2.2 := fun _ => rfl
  have p2 : ∀ M, (PP X).2.2.2.1 M = q_nL M := fun _ => rfl
  refine w_aload (P := PP X) (M := 2) (p' := 1) rfl rfl rfl rfl ?_
  refine w_const (P := PP X) (M := 2) (p' := 2) rfl rfl rfl ?_
  refine w_aload (P := PP X) (M := 2) (p' := 3) rfl rfl rfl rfl ?_
  refine w_iload (P := PP X) (M := 2) (p' := 4) rfl rfl rfl rfl ?_
  refine w_iload (P := PP X) (M := 2) (p' := 5) rfl rfl rfl rfl ?_
  refine w_callX (P := PP X) (M := 2) (p' := 8) (M' := 15) (as := [.inr (.inr (.inl (some 0))), .inl x1, .inl x2]) (rest := [.inl 0, .inr (.inr (.inl (some 161)))]) rfl rfl (by decide) rfl rfl (Nat.le_of_ble_eq_true rfl) rfl rfl (by decide) (by rw [p0, p0]; decide +kernel) (by rw [p1, p1]; decide +kernel) (rfl : q_tag S0 0 = some 3) (by rw [p2]; exact Nat.le_of_ble_eq_true rfl) h rfl ?_ ?_
  · rintro w S' s' ⟨rfl, ⟨x, e, hk⟩ | ⟨k, e, hk⟩⟩
    · cases e
      refine w_i2l (P := PP X) (M := 2) (p' := 9) rfl rfl ?_
      refine w_last (P := PP X) (M := 2) (p' := 10) (N := 1) rfl rfl rfl rfl (by decide) (by decide) ?_
      refine w_goto (P := PP X) (M := 2) (p' := 21) rfl rfl ?_
      refine w_const (P := PP X) (M := 2) (p' := 22) rfl rfl rfl ?_
      exact w_iret (P := PP X) (M := 2) rfl trivial ⟨rfl, _, rfl, hk⟩
    · cases e
  · rintro k S' s' ⟨rfl, ⟨x, e, hk⟩ | ⟨k', e, hk⟩⟩
    · cases e
    · cases e
      match k, hk with
      | 0, hk =>
        refine ⟨fun _ => ?_, fun q => absurd rfl q⟩
        refine w_const (P := PP X) (M := 2) (p' := 16) rfl rfl rfl ?_
        exact w_iret (P := PP X) (M := 2) rfl trivial ⟨rfl, _, rfl, hk⟩
      | 1, hk =>
        refine ⟨fun q => absurd q (by decide), fun _ => ⟨fun _ => ?_, fun q => absurd rfl q⟩⟩
        refine w_const (P := PP X) (M := 2) (p' := 20) rfl rfl rfl ?_
        exact w_iret (P := PP X) (M := 2) rfl trivial ⟨rfl, _, rfl, hk⟩
      | 2, hk => exact hk.elim
      | k + 3, hk => exact hk.elim
/-- 3: the law's wrapper character -/
def c_W_character (X : Nat × (Nat → Int32)) (x1 : Int) (s : qM) (K : Int → qM → Prop) : Prop := q_W (PP X) 3 (0, [some (.inr (.inr (.inl (some 0)))), some (.inl x1), some (.inr (.inr (.inl (some 161)))), none], [], S0, s, 0, 0) (q_KI K)
set_option maxHeartbeats 1000000 in
theorem k_W_character {X : Nat × (Nat → Int32)} {x1 : Int} {s : qM} {K : Int → qM → Prop} (h : c_T_character X x1 s (fun r s' => match r with
    | .inl x => K 0 (q_up s' 161 0 x)
    | .inr 0 => K 1 s'
    | .inr _ => False)) : c_W_character X x1 s K := by
  have p0 : ∀ M, (PP X).2.1 M = (q_rm M).2.2.1 := fun _ => rfl
  have p1 : ∀ M, (PP X).2.2.1 M = (q_rm M).2.2.2 := fun _ => rfl
  have p2 : ∀ M, (PP X).2.2.2.1 M = q_nL M := fun _ => rfl
  refine w_aload (P := PP X) (M := 3) (p' := 1) rfl rfl rfl rfl ?_
  refine w_const (P := PP X) (M := 3) (p' := 2) rfl rfl rfl ?_
  refine w_aload (P := PP X) (M := 3) (p' := 3) rfl rfl rfl rfl ?_
  refine w_iload (P := PP X) (M := 3) (p' := 4) rfl rfl rfl rfl ?_
  refine w_callX (P := PP X) (M := 3) (p' := 7) (M' := 17) (as := [.inr (.inr (.inl (some 0))), .inl x1]) (rest := [.inl 0, .inr (.inr (.inl (some 161)))]) rfl rfl (by decide) rfl rfl (Nat.le_of_ble_eq_true rfl) rfl rfl (by decide) (by rw [p0, p0]; decide +kernel) (by rw [p1, p1]; decide +kernel) (rfl : q_tag S0 0 = some 3) (by rw [p2]; exact Nat.le_of_ble_eq_true rfl) h rfl ?_ ?_
  · rintro w S' s' ⟨rfl, ⟨x, e, hk⟩ | ⟨k, e, hk⟩⟩
    · cases e
      refine w_i2l (P := PP X) (M := 3) (p' := 8) rfl rfl ?_
      refine w_last (P := PP X) (M := 3) (p' := 9) (N := 1) rfl rfl rfl rfl (by decide) (by decide) ?_
      refine w_goto (P := PP X) (M := 3) (p' := 15) rfl rfl ?_
      refine w_const (P := PP X) (M := 3) (p' := 16) rfl rfl rfl ?_
      exact w_iret (P := PP X) (M := 3) rfl trivial ⟨rfl, _, rfl, hk⟩
    · cases e
  · rintro k S' s' ⟨rfl, ⟨x, e, hk⟩ | ⟨k', e, hk⟩⟩
    · cases e
    · cases e
      match k, hk with
      | 0, hk =>
        refine ⟨fun _ => ?_, fun q => absurd rfl q⟩
        refine w_const (P := PP X) (M := 3) (p' := 14) rfl rfl rfl ?_
        exact w_iret (P := PP X) (M := 3) rfl trivial ⟨rfl, _, rfl, hk⟩
      | 1, hk => exact hk.elim
      | 2, hk => exact hk.elim
      | k + 3, hk => exact hk.elim
/-- 4: the law's wrapper node -/
def c_W_node (X : Nat × (Nat → Int32)) (x1 : Int) (x2 : Int) (s : qM) (K : Int → qM → Prop) : Prop := q_W (PP X) 4 (0, [some (.inr (.inr (.inl (some 0)))), some (.inl x1), some (.inl x2), some (.inr (.inr (.inl (some 161)))), none], [], S0, s, 0, 0) (q_KI K)
set_option maxHeartbeats 1000000 in
theorem k_W_node {X : Nat × (Nat → Int32)} {x1 x2 : Int} {s : qM} {K : Int → qM → Prop} (h : c_T_node X x1 x2 s (fun r s' => match r with
    | .inl x => K 0 (q_up s' 161 0 x)
    | .inr 0 => K 1 s'
    | .inr 1 => K 2 s'
    | .inr _ => False)) : c_W_node X x1 x2 s K := by
  have p0 : ∀ M, (PP X).2.1 M = (q_rm M).2.2.1 := fun _ => rfl
  have p1 : ∀ M, (PP X).2.2.1 M = (q_rm M).2.2.2 := fun _ => rfl
  have p2 : ∀ M, (PP X).2.2.2.1 M = q_nL M := fun _ => rfl
  refine w_aload (P := PP X) (M := 4) (p' := 1) rfl rfl rfl rfl ?_
  refine w_const (P := PP X) (M := 4) (p' := 2) rfl rfl rfl ?_
  refine w_aload (P := PP X) (M := 4) (p' := 3) rfl rfl rfl rfl ?_
  refine w_iload (P := PP X) (M := 4) (p' := 4) rfl rfl rfl rfl ?_
  refine w_iload (P := PP X) (M := 4) (p' := 5) rfl rfl rfl rfl ?_
  refine w_callX (P := PP X) (M := 4) (p' := 8) (M' := 20) (as := [.inr (.inr (.inl (some 0))), .inl x1, .inl x2]) (rest := [.inl 0, .inr (.inr (.inl (some 161)))]) rfl rfl (by decide) rfl rfl (Nat.le_of_ble_eq_true rfl) rfl rfl (by decide) (by rw [p0, p0]; decide +kernel) (by rw [p1, p1]; decide +kernel) (rfl : q_tag S0 0 = some 3) (by rw [p2]; exact Nat.le_of_ble_eq_true rfl) h rfl ?_ ?_
  · rintro w S' s' ⟨rfl, ⟨x, e, hk⟩ | ⟨k, e, hk⟩⟩
    · cases e
      refine w_i2l (P := PP X) (M := 4) (p' := 9) rfl rfl ?_
      refine w_last (P := PP X) (M := 4) (p' := 10) (N := 1) rfl rfl rfl rfl (by decide) (by decide) ?_
      refine w_goto (P := PP X) (M := 4) (p' := 21) rfl rfl ?_
      refine w_const (P := PP X) (M := 4) (p' := 22) rfl rfl rfl ?_
      exact w_iret (P := PP X) (M := 4) rfl trivial ⟨rfl, _, rfl, hk⟩
    · cases e
  · rintro k S' s' ⟨rfl, ⟨x, e, hk⟩ | ⟨k', e, hk⟩⟩
    · cases e
    · cases e
      match k, hk with
      | 0, hk =>
        refine ⟨fun _ => ?_, fun q => absurd rfl q⟩
        refine w_const (P := PP X) (M := 4) (p' := 16) rfl rfl rfl ?_
        exact w_iret (P := PP X) (M := 4) rfl trivial ⟨rfl, _, rfl, hk⟩
      | 1, hk =>
        refine ⟨fun q => absurd q (by decide), fun _ => ⟨fun _ => ?_, fun q => absurd rfl q⟩⟩
        refine w_const (P := PP X) (M := 4) (p' := 20) rfl rfl rfl ?_
        exact w_iret (P := PP X) (M := 4) rfl trivial ⟨rfl, _, rfl, hk⟩
      | 2, hk => exact hk.elim
      | k + 3, hk => exact hk.elim
/-- 5: the law's wrapper child -/
def c_W_child (X : Nat × (Nat → Int32)) (x1 : Int) (x2 : Int) (s : qM) (K : Int → qM → Prop) : Prop := q_W (PP X) 5 (0, [some (.inr (.inr (.inl (some 0)))), some (.inl x1), some (.inl x2), some (.inr (.inr (.inl (some 161)))), none], [], S0, s, 0, 0) (q_KI K)
set_option maxHeartbeats 1000000 in
theorem k_W_child {X : Nat × (Nat → Int32)} {x1 x2 : Int} {s : qM} {K : Int → qM → Prop} (h : c_T_child X x1 x2 s (fun r s' => match r with
    | .inl x => K 0 (q_up s' 161 0 x)
    | .inr 0 => K 1 s'
    | .inr _ => False)) : c_W_child X x1 x2 s K := by
  have p0 : ∀ M, (PP X).2.1 M = (q_rm M).2.2.1 := fun _ => rfl
  have p1 : ∀ M, (PP X).2.2.1 M = (q_rm M).2.2.2 := fun _ => rfl
  have p2 : ∀ M, (PP X).2.2.2.1 M = q_nL M := fun _ => rfl
  refine w_aload (P := PP X) (M := 5) (p' := 1) rfl rfl rfl rfl ?_
  refine w_const (P := PP X) (M := 5) (p' := 2) rfl rfl rfl ?_
  refine w_aload (P := PP X) (M := 5) (p' := 3) rfl rfl rfl rfl ?_
  refine w_iload (P := PP X) (M := 5) (p' := 4) rfl rfl rfl rfl ?_
  refine w_iload (P := PP X) (M := 5) (p' := 5) rfl rfl rfl rfl ?_
  refine w_callX (P := PP X) (M := 5) (p' := 8) (M' := 21) (as := [.inr (.inr (.inl (some 0))), .inl x1, .inl x2]) (rest := [.inl 0, .inr (.inr (.inl (some 161)))]) rfl rfl (by decide) rfl rfl (Nat.le_of_ble_eq_true rfl) rfl rfl (by decide) (by rw [p0, p0]; decide +kernel) (by rw [p1, p1]; decide +kernel) (rfl : q_tag S0 0 = some 3) (by rw [p2]; exact Nat.le_of_ble_eq_true rfl) h rfl ?_ ?_
  · rintro w S' s' ⟨rfl, ⟨x, e, hk⟩ | ⟨k, e, hk⟩⟩
    · cases e
      refine w_i2l (P := PP X) (M := 5) (p' := 9) rfl rfl ?_
      refine w_last (P := PP X) (M := 5) (p' := 10) (N := 1) rfl rfl rfl rfl (by decide) (by decide) ?_
      refine w_goto (P := PP X) (M := 5) (p' := 17) rfl rfl ?_
      refine w_const (P := PP X) (M := 5) (p' := 18) rfl rfl rfl ?_
      exact w_iret (P := PP X) (M := 5) rfl trivial ⟨rfl, _, rfl, hk⟩
    · cases e
  · rintro k S' s' ⟨rfl, ⟨x, e, hk⟩ | ⟨k', e, hk⟩⟩
    · cases e
    · cases e
      match k, hk with
      | 0, hk =>
        refine ⟨fun _ => ?_, fun q => absurd rfl q⟩
        refine w_const (P := PP X) (M := 5) (p' := 16) rfl rfl rfl ?_
        exact w_iret (P := PP X) (M := 5) rfl trivial ⟨rfl, _, rfl, hk⟩
      | 1, hk => exact hk.elim
      | 2, hk => exact hk.elim
      | k + 3, hk => exact hk.elim
/-- 6: the law's wrapper owner -/
def c_W_owner (X : Nat × (Nat → Int32)) (x1 : Int) (s : qM) (K : Int → qM → Prop) : Prop := q_W (PP X) 6 (0, [some (.inr (.inr (.inl (some 0)))), some (.inl x1), some (.inr (.inr (.inl (some 161)))), none], [], S0, s, 0, 0) (q_KI K)
set_option maxHeartbeats 1000000 in
theorem k_W_owner {X : Nat × (Nat → Int32)} {x1 : Int} {s : qM} {K : Int → qM → Prop} (h : c_T_owner X x1 s (fun r s' => match r with
    | .inl x => K 0 (q_up s' 161 0 x)
    | .inr 0 => K 1 s'
    | .inr _ => False)) : c_W_owner X x1 s K := by
  have p0 : ∀ M, (PP X).2.1 M = (q_rm M).2.2.1 := fun _ => rfl
  have p1 : ∀ M, (PP X).2.2.1 M = (q_rm M).2.2.2 := fun _ => rfl
  have p2 : ∀ M, (PP X).2.2.2.1 M = q_nL M := fun _ => rfl
  refine w_aload (P := PP X) (M := 6) (p' := 1) rfl rfl rfl rfl ?_
  refine w_const (P := PP X) (M := 6) (p' := 2) rfl rfl rfl ?_
  refine w_aload (P := PP X) (M := 6) (p' := 3) rfl rfl rfl rfl ?_
  refine w_iload (P := PP X) (M := 6) (p' := 4) rfl rfl rfl rfl ?_
  refine w_callX (P := PP X) (M := 6) (p' := 7) (M' := 22) (as := [.inr (.inr (.inl (some 0))), .inl x1]) (rest := [.inl 0, .inr (.inr (.inl (some 161)))]) rfl rfl (by decide) rfl rfl (Nat.le_of_ble_eq_true rfl) rfl rfl (by decide) (by rw [p0, p0]; decide +kernel) (by rw [p1, p1]; decide +kernel) (rfl : q_tag S0 0 = some 3) (by rw [p2]; exact Nat.le_of_ble_eq_true rfl) h rfl ?_ ?_
  · rintro w S' s' ⟨rfl, ⟨x, e, hk⟩ | ⟨k, e, hk⟩⟩
    · cases e
      refine w_i2l (P := PP X) (M := 6) (p' := 8) rfl rfl ?_
      refine w_last (P := PP X) (M := 6) (p' := 9) (N := 1) rfl rfl rfl rfl (by decide) (by decide) ?_
      refine w_goto (P := PP X) (M := 6) (p' := 15) rfl rfl ?_
      refine w_const (P := PP X) (M := 6) (p' := 16) rfl rfl rfl ?_
      exact w_iret (P := PP X) (M := 6) rfl trivial ⟨rfl, _, rfl, hk⟩
    · cases e
  · rintro k S' s' ⟨rfl, ⟨x, e, hk⟩ | ⟨k', e, hk⟩⟩
    · cases e
    · cases e
      match k, hk with
      | 0, hk =>
        refine ⟨fun _ => ?_, fun q => absurd rfl q⟩
        refine w_const (P := PP X) (M := 6) (p' := 14) rfl rfl rfl ?_
        exact w_iret (P := PP X) (M := 6) rfl trivial ⟨rfl, _, rfl, hk⟩
      | 1, hk => exact hk.elim
      | 2, hk => exact hk.elim
      | k + 3, hk => exact hk.elim
/-- 7: the law's wrapper leads -/
def c_W_leads (X : Nat × (Nat → Int32)) (x1 : Int) (s : qM) (K : Int → qM → Prop) : Prop := q_W (PP X) 7 (0, [some (.inr (.inr (.inl (some 0)))), some (.inl x1), some (.inr (.inr (.inl (some 161)))), none], [], S0, s, 0, 0) (q_KI K)
set_option maxHeartbeats 1000000 in
theorem k_W_leads {X : Nat × (Nat → Int32)} {x1 : Int} {s : qM} {K : Int → qM → Prop} (h : c_T_leads X x1 s (fun r s' => match r with
    | .inl x => K 0 (q_up s' 161 0 x)
    | .inr 0 => K 1 s'
    | .inr 2 => K 2 s'
    | .inr _ => False)) : c_W_leads X x1 s K := by
  have p0 : ∀ M, (PP X).2.1 M = (q_rm M).2.2.1 := fun _ => rfl
  have p1 : ∀ M, (PP X).2.2.1 M = (q_rm M).2.2.2 := fun _ => rfl
  have p2 : ∀ M, (PP X).2.2.2.1 M = q_nL M := fun _ => rfl
  refine w_aload (P := PP X) (M := 7) (p' := 1) rfl rfl rfl rfl ?_
  refine w_const (P := PP X) (M := 7) (p' := 2) rfl rfl rfl ?_
  refine w_aload (P := PP X) (M := 7) (p' := 3) rfl rfl rfl rfl ?_
  refine w_iload (P := PP X) (M := 7) (p' := 4) rfl rfl rfl rfl ?_
  refine w_callX (P := PP X) (M := 7) (p' := 7) (M' := 23) (as := [.inr (.inr (.inl (some 0))), .inl x1]) (rest := [.inl 0, .inr (.inr (.inl (some 161)))]) rfl rfl (by decide) rfl rfl (Nat.le_of_ble_eq_true rfl) rfl rfl (by decide) (by rw [p0, p0]; decide +kernel) (by rw [p1, p1]; decide +kernel) (rfl : q_tag S0 0 = some 3) (by rw [p2]; exact Nat.le_of_ble_eq_true rfl) h rfl ?_ ?_
  · rintro w S' s' ⟨rfl, ⟨x, e, hk⟩ | ⟨k, e, hk⟩⟩
    · cases e
      refine w_i2l (P := PP X) (M := 7) (p' := 8) rfl rfl ?_
      refine w_last (P := PP X) (M := 7) (p' := 9) (N := 1) rfl rfl rfl rfl (by decide) (by decide) ?_
      refine w_goto (P := PP X) (M := 7) (p' := 18) rfl rfl ?_
      refine w_const (P := PP X) (M := 7) (p' := 19) rfl rfl rfl ?_
      exact w_iret (P := PP X) (M := 7) rfl trivial ⟨rfl, _, rfl, hk⟩
    · cases e
  · rintro k S' s' ⟨rfl, ⟨x, e, hk⟩ | ⟨k', e, hk⟩⟩
    · cases e
    · cases e
      match k, hk with
      | 0, hk =>
        refine ⟨fun _ => ?_, fun q => absurd rfl q⟩
        refine w_const (P := PP X) (M := 7) (p' := 14) rfl rfl rfl ?_
        exact w_iret (P := PP X) (M := 7) rfl trivial ⟨rfl, _, rfl, hk⟩
      | 1, hk => exact hk.elim
      | 2, hk =>
        refine ⟨fun q => absurd q (by decide), fun _ => ⟨fun _ => ?_, fun q => absurd rfl q⟩⟩
        refine w_const (P := PP X) (M := 7) (p' := 17) rfl rfl rfl ?_
        exact w_iret (P := PP X) (M := 7) rfl trivial ⟨rfl, _, rfl, hk⟩
      | k + 3, hk => exact hk.elim
/-- 8: the law's wrapper count -/
def c_W_count (X : Nat × (Nat → Int32)) (x1 : Int) (s : qM) (K : Int → qM → Prop) : Prop := q_W (PP X) 8 (0, [some (.inr (.inr (.inl (some 0)))), some (.inl x1), some (.inr (.inr (.inl (some 161)))), none], [], S0, s, 0, 0) (q_KI K)
set_option maxHeartbeats 1000000 in
theorem k_W_count {X : Nat × (Nat → Int32)} {x1 : Int} {s : qM} {K : Int → qM → Prop} (h : c_T_count X x1 s (fun r s' => match r with
    | .inl x => K 0 (q_up s' 161 0 x)
    | .inr 1 => K 1 s'
    | .inr _ => False)) : c_W_count X x1 s K := by
  have p0 : ∀ M, (PP X).2.1 M = (q_rm M).2.2.1 := fun _ => rfl
  have p1 : ∀ M, (PP X).2.2.1 M = (q_rm M).2.2.2 := fun _ => rfl
  have p2 : ∀ M, (PP X).2.2.2.1 M = q_nL M := fun _ => rfl
  refine w_aload (P := PP X) (M := 8) (p' := 1) rfl rfl rfl rfl ?_
  refine w_const (P := PP X) (M := 8) (p' := 2) rfl rfl rfl ?_
  refine w_aload (P := PP X) (M := 8) (p' := 3) rfl rfl rfl rfl ?_
  refine w_iload (P := PP X) (M := 8) (p' := 4) rfl rfl rfl rfl ?_
  refine w_callX (P := PP X) (M := 8) (p' := 7) (M' := 24) (as := [.inr (.inr (.inl (some 0))), .inl x1]) (rest := [.inl 0, .inr (.inr (.inl (some 161)))]) rfl rfl (by decide) rfl rfl (Nat.le_of_ble_eq_true rfl) rfl rfl (by decide) (by rw [p0, p0]; decide +kernel) (by rw [p1, p1]; decide +kernel) (rfl : q_tag S0 0 = some 3) (by rw [p2]; exact Nat.le_of_ble_eq_true rfl) h rfl ?_ ?_
  · rintro w S' s' ⟨rfl, ⟨x, e, hk⟩ | ⟨k, e, hk⟩⟩
    · cases e
      refine w_i2l (P := PP X) (M := 8) (p' := 8) rfl rfl ?_
      refine w_last (P := PP X) (M := 8) (p' := 9) (N := 1) rfl rfl rfl rfl (by decide) (by decide) ?_
      refine w_goto (P := PP X) (M := 8) (p' := 15) rfl rfl ?_
      refine w_const (P := PP X) (M := 8) (p' := 16) rfl rfl rfl ?_
      exact w_iret (P := PP X) (M := 8) rfl trivial ⟨rfl, _, rfl, hk⟩
    · cases e
  · rintro k S' s' ⟨rfl, ⟨x, e, hk⟩ | ⟨k', e, hk⟩⟩
    · cases e
    · cases e
      match k, hk with
      | 0, hk => exact hk.elim
      | 1, hk =>
        refine ⟨fun _ => ?_, fun q => absurd rfl q⟩
        refine w_const (P := PP X) (M := 8) (p' := 14) rfl rfl rfl ?_
        exact w_iret (P := PP X) (M := 8) rfl trivial ⟨rfl, _, rfl, hk⟩
      | 2, hk => exact hk.elim
      | k + 3, hk => exact hk.elim
/-- 9: the law's wrapper print -/
def c_W_print (X : Nat × (Nat → Int32)) (x1 : Int) (s : qM) (K : Int → qM → Prop) : Prop := q_W (PP X) 9 (0, [some (.inr (.inr (.inl (some 0)))), some (.inl x1), some (.inr (.inr (.inl (some 161)))), none], [], S0, s, 0, 0) (q_KI K)
set_option maxHeartbeats 1000000 in
theorem k_W_print {X : Nat × (Nat → Int32)} {x1 : Int} {s : qM} {K : Int → qM → Prop} (h : c_T_print X x1 s (fun r s' => match r with
    | .inl x => K 0 (q_up s' 161 0 x)
    | .inr 1 => K 1 s'
    | .inr _ => False)) : c_W_print X x1 s K := by
  have p0 : ∀ M, (PP X).2.1 M = (q_rm M).2.2.1 := fun _ => rfl
  have p1 : ∀ M, (PP X).2.2.1 M = (q_rm M).2.2.2 := fun _ => rfl
  have p2 : ∀ M, (PP X).2.2.2.1 M = q_nL M := fun _ => rfl
  refine w_aload (P := PP X) (M := 9) (p' := 1) rfl rfl rfl rfl ?_
  refine w_const (P := PP X) (M := 9) (p' := 2) rfl rfl rfl ?_
  refine w_aload (P := PP X) (M := 9) (p' := 3) rfl rfl rfl rfl ?_
  refine w_iload (P := PP X) (M := 9) (p' := 4) rfl rfl rfl rfl ?_
  refine w_callX (P := PP X) (M := 9) (p' := 7) (M' := 25) (as := [.inr (.inr (.inl (some 0))), .inl x1]) (rest := [.inl 0, .inr (.inr (.inl (some 161)))]) rfl rfl (by decide) rfl rfl (Nat.le_of_ble_eq_true rfl) rfl rfl (by decide) (by rw [p0, p0]; decide +kernel) (by rw [p1, p1]; decide +kernel) (rfl : q_tag S0 0 = some 3) (by rw [p2]; exact Nat.le_of_ble_eq_true rfl) h rfl ?_ ?_
  · rintro w S' s' ⟨rfl, ⟨x, e, hk⟩ | ⟨k, e, hk⟩⟩
    · cases e
      refine w_i2l (P := PP X) (M := 9) (p' := 8) rfl rfl ?_
      refine w_last (P := PP X) (M := 9) (p' := 9) (N := 1) rfl rfl rfl rfl (by decide) (by decide) ?_
      refine w_goto (P := PP X) (M := 9) (p' := 15) rfl rfl ?_
      refine w_const (P := PP X) (M := 9) (p' := 16) rfl rfl rfl ?_
      exact w_iret (P := PP X) (M := 9) rfl trivial ⟨rfl, _, rfl, hk⟩
    · cases e
  · rintro k S' s' ⟨rfl, ⟨x, e, hk⟩ | ⟨k', e, hk⟩⟩
    · cases e
    · cases e
      match k, hk with
      | 0, hk => exact hk.elim
      | 1, hk =>
        refine ⟨fun _ => ?_, fun q => absurd rfl q⟩
        refine w_const (P := PP X) (M := 9) (p' := 14) rfl rfl rfl ?_
        exact w_iret (P := PP X) (M := 9) rfl trivial ⟨rfl, _, rfl, hk⟩
      | 2, hk => exact hk.elim
      | k + 3, hk => exact hk.elim
/-- 10: the law's wrapper printed -/
def c_W_printed (X : Nat × (Nat → Int32)) (x1 : Int) (x2 : Int) (s : qM) (K : Int → qM → Prop) : Prop := q_W (PP X) 10 (0, [some (.inr (.inr (.inl (some 0)))), some (.inl x1), some (.inl x2), some (.inr (.inr (.inl (some 161)))), none], [], S0, s, 0, 0) (q_KI K)
set_option maxHeartbeats 1000000 in
theorem k_W_printed {X : Nat × (Nat → Int32)} {x1 x2 : Int} {s : qM} {K : Int → qM → Prop} (h : c_T_printed X x1 x2 s (fun r s' => match r with
    | .inl x => K 0 (q_up s' 161 0 x)
    | .inr 0 => K 2 s'
    | .inr 1 => K 1 s'
    | .inr _ => False)) : c_W_printed X x1 x2 s K := by
  have p0 : ∀ M, (PP X).2.1 M = (q_rm M).2.2.1 := fun _ => rfl
  have p1 : ∀ M, (PP X).2.2.1 M = (q_rm M).2.2.2 := fun _ => rfl
  have p2 : ∀ M, (PP X).2.2.2.1 M = q_nL M := fun _ => rfl
  refine w_aload (P := PP X) (M := 10) (p' := 1) rfl rfl rfl rfl ?_
  refine w_const (P := PP X) (M := 10) (p' := 2) rfl rfl rfl ?_
  refine w_aload (P := PP X) (M := 10) (p' := 3) rfl rfl rfl rfl ?_
  refine w_iload (P := PP X) (M := 10) (p' := 4) rfl rfl rfl rfl ?_
  refine w_iload (P := PP X) (M := 10) (p' := 5) rfl rfl rfl rfl ?_
  refine w_callX (P := PP X) (M := 10) (p' := 8) (M' := 26) (as := [.inr (.inr (.inl (some 0))), .inl x1, .inl x2]) (rest := [.inl 0, .inr (.inr (.inl (some 161)))]) rfl rfl (by decide) rfl rfl (Nat.le_of_ble_eq_true rfl) rfl rfl (by decide) (by rw [p0, p0]; decide +kernel) (by rw [p1, p1]; decide +kernel) (rfl : q_tag S0 0 = some 3) (by rw [p2]; exact Nat.le_of_ble_eq_true rfl) h rfl ?_ ?_
  · rintro w S' s' ⟨rfl, ⟨x, e, hk⟩ | ⟨k, e, hk⟩⟩
    · cases e
      refine w_i2l (P := PP X) (M := 10) (p' := 9) rfl rfl ?_
      refine w_last (P := PP X) (M := 10) (p' := 10) (N := 1) rfl rfl rfl rfl (by decide) (by decide) ?_
      refine w_goto (P := PP X) (M := 10) (p' := 21) rfl rfl ?_
      refine w_const (P := PP X) (M := 10) (p' := 22) rfl rfl rfl ?_
      exact w_iret (P := PP X) (M := 10) rfl trivial ⟨rfl, _, rfl, hk⟩
    · cases e
  · rintro k S' s' ⟨rfl, ⟨x, e, hk⟩ | ⟨k', e, hk⟩⟩
    · cases e
    · cases e
      match k, hk with
      | 0, hk =>
        refine ⟨fun q => absurd q (by decide), fun _ => ⟨fun _ => ?_, fun q => absurd rfl q⟩⟩
        refine w_const (P := PP X) (M := 10) (p' := 20) rfl rfl rfl ?_
        exact w_iret (P := PP X) (M := 10) rfl trivial ⟨rfl, _, rfl, hk⟩
      | 1, hk =>
        refine ⟨fun _ => ?_, fun q => absurd rfl q⟩
        refine w_const (P := PP X) (M := 10) (p' := 16) rfl rfl rfl ?_
        exact w_iret (P := PP X) (M := 10) rfl trivial ⟨rfl, _, rfl, hk⟩
      | 2, hk => exact hk.elim
      | k + 3, hk => exact hk.elim
/-- 11: the law's wrapper keep -/
def c_W_keep (X : Nat × (Nat → Int32)) (x1 : Int) (s : qM) (K : Int → qM → Prop) : Prop := q_W (PP X) 11 (0, [some (.inr (.inr (.inl (some 0)))), some (.inl x1), some (.inr (.inr (.inl (some 161)))), none], [], S0, s, 0, 0) (q_KI K)
set_option maxHeartbeats 1000000 in
theorem k_W_keep {X : Nat × (Nat → Int32)} {x1 : Int} {s : qM} {K : Int → qM → Prop} (h : c_T_keep X x1 s (fun r s' => match r with
    | .inl x => K 0 (q_up s' 161 0 x)
    | .inr 1 => K 1 s'
    | .inr _ => False)) : c_W_keep X x1 s K := by
  have p0 : ∀ M, (PP X).2.1 M = (q_rm M).2.2.1 := fun _ => rfl
  have p1 : ∀ M, (PP X).2.2.1 M = (q_rm M).2.2.2 := fun _ => rfl
  have p2 : ∀ M, (PP X).2.2.2.1 M = q_nL M := fun _ => rfl
  refine w_aload (P := PP X) (M := 11) (p' := 1) rfl rfl rfl rfl ?_
  refine w_const (P := PP X) (M := 11) (p' := 2) rfl rfl rfl ?_
  refine w_aload (P := PP X) (M := 11) (p' := 3) rfl rfl rfl rfl ?_
  refine w_iload (P := PP X) (M := 11) (p' := 4) rfl rfl rfl rfl ?_
  refine w_callX (P := PP X) (M := 11) (p' := 7) (M' := 28) (as := [.inr (.inr (.inl (some 0))), .inl x1]) (rest := [.inl 0, .inr (.inr (.inl (some 161)))]) rfl rfl (by decide) rfl rfl (Nat.le_of_ble_eq_true rfl) rfl rfl (by decide) (by rw [p0, p0]; decide +kernel) (by rw [p1, p1]; decide +kernel) (rfl : q_tag S0 0 = some 3) (by rw [p2]; exact Nat.le_of_ble_eq_true rfl) h rfl ?_ ?_
  · rintro w S' s' ⟨rfl, ⟨x, e, hk⟩ | ⟨k, e, hk⟩⟩
    · cases e
      refine w_i2l (P := PP X) (M := 11) (p' := 8) rfl rfl ?_
      refine w_last (P := PP X) (M := 11) (p' := 9) (N := 1) rfl rfl rfl rfl (by decide) (by decide) ?_
      refine w_goto (P := PP X) (M := 11) (p' := 15) rfl rfl ?_
      refine w_const (P := PP X) (M := 11) (p' := 16) rfl rfl rfl ?_
      exact w_iret (P := PP X) (M := 11) rfl trivial ⟨rfl, _, rfl, hk⟩
    · cases e
  · rintro k S' s' ⟨rfl, ⟨x, e, hk⟩ | ⟨k', e, hk⟩⟩
    · cases e
    · cases e
      match k, hk with
      | 0, hk => exact hk.elim
      | 1, hk =>
        refine ⟨fun _ => ?_, fun q => absurd rfl q⟩
        refine w_const (P := PP X) (M := 11) (p' := 14) rfl rfl rfl ?_
        exact w_iret (P := PP X) (M := 11) rfl trivial ⟨rfl, _, rfl, hk⟩
      | 2, hk => exact hk.elim
      | k + 3, hk => exact hk.elim
/-- 12: the law's wrapper load -/
def c_W_load (X : Nat × (Nat → Int32)) (x1 : Int) (s : qM) (K : Int → qM → Prop) : Prop := q_W (PP X) 12 (0, [some (.inr (.inr (.inl (some 0)))), some (.inl x1), some (.inr (.inr (.inl (some 161)))), none], [], S0, s, 0, 0) (q_KI K)
set_option maxHeartbeats 1000000 in
theorem k_W_load {X : Nat × (Nat → Int32)} {x1 : Int} {s : qM} {K : Int → qM → Prop} (h : c_T_load X x1 s (fun r s' => match r with
    | .inl x => K 0 (q_up s' 161 0 x)
    | .inr 1 => K 1 s'
    | .inr _ => False)) : c_W_load X x1 s K := by
  have p0 : ∀ M, (PP X).2.1 M = (q_rm M).2.2.1 := fun _ => rfl
  have p1 : ∀ M, (PP X).2.2.1 M = (q_rm M).2.2.2 := fun _ => rfl
  have p2 : ∀ M, (PP X).2.2.2.1 M = q_nL M := fun _ => rfl
  refine w_aload (P := PP X) (M := 12) (p' := 1) rfl rfl rfl rfl ?_
  refine w_const (P := PP X) (M := 12) (p' := 2) rfl rfl rfl ?_
  refine w_aload (P := PP X) (M := 12) (p' := 3) rfl rfl rfl rfl ?_
  refine w_iload (P := PP X) (M := 12) (p' := 4) rfl rfl rfl rfl ?_
  refine w_callX (P := PP X) (M := 12) (p' := 7) (M' := 29) (as := [.inr (.inr (.inl (some 0))), .inl x1]) (rest := [.inl 0, .inr (.inr (.inl (some 161)))]) rfl rfl (by decide) rfl rfl (Nat.le_of_ble_eq_true rfl) rfl rfl (by decide) (by rw [p0, p0]; decide +kernel) (by rw [p1, p1]; decide +kernel) (rfl : q_tag S0 0 = some 3) (by rw [p2]; exact Nat.le_of_ble_eq_true rfl) h rfl ?_ ?_
  · rintro w S' s' ⟨rfl, ⟨x, e, hk⟩ | ⟨k, e, hk⟩⟩
    · cases e
      refine w_i2l (P := PP X) (M := 12) (p' := 8) rfl rfl ?_
      refine w_last (P := PP X) (M := 12) (p' := 9) (N := 1) rfl rfl rfl rfl (by decide) (by decide) ?_
      refine w_goto (P := PP X) (M := 12) (p' := 15) rfl rfl ?_
      refine w_const (P := PP X) (M := 12) (p' := 16) rfl rfl rfl ?_
      exact w_iret (P := PP X) (M := 12) rfl trivial ⟨rfl, _, rfl, hk⟩
    · cases e
  · rintro k S' s' ⟨rfl, ⟨x, e, hk⟩ | ⟨k', e, hk⟩⟩
    · cases e
    · cases e
      match k, hk with
      | 0, hk => exact hk.elim
      | 1, hk =>
        refine ⟨fun _ => ?_, fun q => absurd rfl q⟩
        refine w_const (P := PP X) (M := 12) (p' := 14) rfl rfl rfl ?_
        exact w_iret (P := PP X) (M := 12) rfl trivial ⟨rfl, _, rfl, hk⟩
      | 2, hk => exact hk.elim
      | k + 3, hk => exact hk.elim
