/-! A run has one end: what a call comes to, it comes to at one place. -/
/-- one end of a run, at which all that holds there is come to -/
def q_One (P : qQ → Prop) (Q : qQ) : Prop := ∃ (r : (Option qV) ⊕ Nat) (S : qS) (s : qM), Q r S s ∧ ∀ Q' : qQ, Q' r S s → P Q'
theorem q_nx_one {X : qC → qQ → Prop} {n : Nat} {d : Option qD} {Q : qQ} (H : q_nx (fun c => q_One (X c) Q) n d) : q_One (fun Q => q_nx (fun c => X c Q) n d) Q := by
  match d, H with
  | some (p, ls, st, S, s, kc, ks), ⟨h, r, S', s', a, b⟩ => exact ⟨r, S', s', a, fun Q' q => ⟨h, b Q' q⟩⟩
theorem q_sw_one {X : Nat → qQ → Prop} {x : Int} {d : Nat} {Q : qQ} : ∀ (l : List Nat), q_sw (fun t => q_One (X t) Q) x d l → q_One (fun Q => q_sw (fun t => X t Q) x d l) Q
  | [], H => H
  | [_], H => H
  | k :: t :: l, H => by
    by_cases h : x = (k : Int)
    · obtain ⟨r, S, s, a, b⟩ := H.1 h
      exact ⟨r, S, s, a, fun Q' q => ⟨fun _ => b Q' q, fun n => absurd h n⟩⟩
    · obtain ⟨r, S, s, a, b⟩ := q_sw_one l (H.2 h)
      exact ⟨r, S, s, a, fun Q' q => ⟨fun n => absurd n h, fun _ => b Q' q⟩⟩
theorem q_hd_one {X : Nat → Nat → qQ → Prop} {k : Nat} {Q : qQ} : ∀ (l : List Nat), q_F.q_hd (fun t i => q_One (X t i) Q) k l → q_One (fun Q => q_F.q_hd (fun t i => X t i Q) k l) Q
  | [], H => H.elim
  | [_], H => H.elim
  | [_, _], H => H.elim
  | e :: _ :: _ :: l, H => by
    by_cases h : k = e
    · obtain ⟨r, S, s, a, b⟩ := H.1 h
      exact ⟨r, S, s, a, fun Q' q => ⟨fun _ => b Q' q, fun n => absurd h n⟩⟩
    · obtain ⟨r, S, s, a, b⟩ := q_hd_one l (H.2 h)
      exact ⟨r, S, s, a, fun Q' q => ⟨fun n => absurd n h, fun _ => b Q' q⟩⟩
theorem q_ca_one {P : qP} {M : Nat} {c : qC} {Q : qQ} {a : List Nat} (H : q_F.q_ca (fun M c => q_One (q_W P M c)) P M c Q a) : q_One (fun Q => q_F.q_ca (q_W P) P M c Q a) Q := by
  obtain ⟨pc, ls, st, S, s, kc, ks⟩ := c
  obtain ⟨h1, h2, h3, h4, h5, h9, R, ⟨r, S', s', g, w⟩, h7, h8⟩ := H
  cases r with
  | inl v =>
    obtain ⟨r2, S2, s2, a2, b2⟩ := h7 v S' s' g
    refine ⟨r2, S2, s2, a2, fun Q' q => ⟨h1, h2, h3, h4, h5, h9, fun r0 S0 s0 => r0 = .inl v ∧ S0 = S' ∧ s0 = s', w _ ⟨rfl, rfl, rfl⟩, fun v0 S0 s0 e => ?_, fun k S0 s0 e => (by cases e.1)⟩⟩
    obtain ⟨e1, e2, e3⟩ := e
    cases e1
    subst e2 e3
    exact b2 Q' q
  | inr k =>
    obtain ⟨h8a, h8b⟩ := h8 k S' s' g
    obtain ⟨r2, S2, s2, a2, b2⟩ := q_hd_one _ h8b
    refine ⟨r2, S2, s2, a2, fun Q' q => ⟨h1, h2, h3, h4, h5, h9, fun r0 S0 s0 => r0 = .inr k ∧ S0 = S' ∧ s0 = s', w _ ⟨rfl, rfl, rfl⟩, fun v0 S0 s0 e => (by cases e.1), fun k0 S0 s0 e => ?_⟩⟩
    obtain ⟨e1, e2, e3⟩ := e
    cases e1
    subst e2 e3
    exact ⟨h8a, b2 Q' q⟩
set_option maxHeartbeats 4000000 in
theorem q_F_one {P : qP} {M : Nat} {c : qC} {Q : qQ} : q_F P (fun M c => q_One (q_W P M c)) M c Q → q_One (q_F P (q_W P) M c) Q := by
  obtain ⟨pc, ls, st, S, s, kc, ks⟩ := c
  intro H
  unfold q_F at H ⊢
  dsimp only at H ⊢
  cases hf : P.1 M pc with
  | none => rw [hf] at H; exact H.elim
  | some z =>
    obtain ⟨len, i, v, a⟩ := z
    rw [hf] at H
    dsimp only at H ⊢
    cases i
    case goto => exact H
    case ifCond cn off =>
      match st, H with
      | .inl x :: r, H =>
        by_cases h : q_cmp cn x 0
        · obtain ⟨r1, S1, s1, a1, b1⟩ := H.1 h
          exact ⟨r1, S1, s1, a1, fun Q' q => ⟨fun _ => b1 Q' q, fun n => absurd h n⟩⟩
        · obtain ⟨r1, S1, s1, a1, b1⟩ := H.2 h
          exact ⟨r1, S1, s1, a1, fun Q' q => ⟨fun n => absurd n h, fun _ => b1 Q' q⟩⟩
    case if_icmp cn off =>
      match st, H with
      | .inl y :: .inl x :: r, H =>
        by_cases h : q_cmp cn x y
        · obtain ⟨r1, S1, s1, a1, b1⟩ := H.1 h
          exact ⟨r1, S1, s1, a1, fun Q' q => ⟨fun _ => b1 Q' q, fun n => absurd h n⟩⟩
        · obtain ⟨r1, S1, s1, a1, b1⟩ := H.2 h
          exact ⟨r1, S1, s1, a1, fun Q' q => ⟨fun n => absurd n h, fun _ => b1 Q' q⟩⟩
    case tableswitch =>
      match st, H with
      | .inl x :: r, H => exact q_sw_one _ H
    case lookupswitch =>
      match st, H with
      | .inl x :: r, H => exact q_sw_one _ H
    case ireturn =>
      match st, H with
      | [.inl x], H => exact ⟨_, _, _, H.2, fun Q' q => ⟨H.1, q⟩⟩
    case lreturn =>
      match st, H with
      | [.inr (.inl x)], H => exact ⟨_, _, _, H, fun Q' q => q⟩
    case areturn =>
      match st, H with
      | [.inr (.inr (.inl (some r)))], H => exact ⟨_, _, _, H, fun Q' q => q⟩
    case return_ =>
      match st, H with
      | [], H => exact ⟨_, _, _, H, fun Q' q => q⟩
    case athrow => exact H.elim
    case invokevirtual => exact q_ca_one H
    case invokestatic =>
      by_cases h2 : q_a a 2 = 3
      · simp only [if_pos h2] at H ⊢
        match st, H with
        | .inl y :: .inl x :: r, ⟨h, r1, S1, s1, a1, b1⟩ => exact ⟨r1, S1, s1, a1, fun Q' q => ⟨h, b1 Q' q⟩⟩
      · simp only [if_neg h2] at H ⊢
        exact q_ca_one H
    case invokespecial =>
      by_cases h2 : q_a a 2 = 2
      · simp only [if_pos h2] at H ⊢
        match st, H with
        | .inr (.inr (.inl (some _))) :: r, ⟨h, r1, S1, s1, a1, b1⟩ => exact ⟨r1, S1, s1, a1, fun Q' q => ⟨h, b1 Q' q⟩⟩
      · simp only [if_neg h2] at H ⊢
        exact q_ca_one H
    case new =>
      by_cases h2 : q_a a 2 = 1
      · simp only [if_pos h2] at H ⊢
        exact ⟨_, _, _, H.2, fun Q' q => ⟨H.1, q⟩⟩
      · simp only [if_neg h2] at H ⊢
        exact q_nx_one H
    all_goals exact q_nx_one H
theorem q_W_one {P : qP} {M : Nat} {c : qC} {Q : qQ} (w : q_W P M c Q) : q_One (q_W P M c) Q :=
  q_W_ind (fun M c Q => q_One (q_W P M c) Q) (fun M c Q H => by
    obtain ⟨r, S, s, a, b⟩ := q_F_one H
    exact ⟨r, S, s, a, fun Q' q => q_W_in (b Q' q)⟩) w
/-- one end for each kind of answer -/
theorem z_1I {P : qP} {M : Nat} {c : qC} {K : Int → qM → Prop} (w : q_W P M c (q_KI K)) : ∃ r s, K r s ∧ ∀ K' : Int → qM → Prop, K' r s → q_W P M c (q_KI K') := by
  obtain ⟨r, S, s, ⟨e, x, ex, h⟩, b⟩ := q_W_one w
  exact ⟨x, s, h, fun K' k => b _ ⟨e, x, ex, k⟩⟩
theorem z_1L {P : qP} {M : Nat} {c : qC} {K : Int → qM → Prop} (w : q_W P M c (q_KL K)) : ∃ r s, K r s ∧ ∀ K' : Int → qM → Prop, K' r s → q_W P M c (q_KL K') := by
  obtain ⟨r, S, s, ⟨e, x, ex, h⟩, b⟩ := q_W_one w
  exact ⟨x, s, h, fun K' k => b _ ⟨e, x, ex, k⟩⟩
theorem z_1V {P : qP} {M : Nat} {c : qC} {K : qM → Prop} (w : q_W P M c (q_KV K)) : ∃ s, K s ∧ ∀ K' : qM → Prop, K' s → q_W P M c (q_KV K') := by
  obtain ⟨r, S, s, ⟨e, ex, h⟩, b⟩ := q_W_one w
  exact ⟨s, h, fun K' k => b _ ⟨e, ex, k⟩⟩
/-- what holds at the end may be weakened -/
theorem z_mI {P : qP} {M : Nat} {c : qC} {K K' : Int → qM → Prop} (w : q_W P M c (q_KI K)) (h : ∀ r s, K r s → K' r s) : q_W P M c (q_KI K') :=
  q_W_post w (fun _ _ s ⟨e, x, ex, k⟩ => ⟨e, x, ex, h x s k⟩)
theorem z_mL {P : qP} {M : Nat} {c : qC} {K K' : Int → qM → Prop} (w : q_W P M c (q_KL K)) (h : ∀ r s, K r s → K' r s) : q_W P M c (q_KL K') :=
  q_W_post w (fun _ _ s ⟨e, x, ex, k⟩ => ⟨e, x, ex, h x s k⟩)
theorem z_mV {P : qP} {M : Nat} {c : qC} {K K' : qM → Prop} (w : q_W P M c (q_KV K)) (h : ∀ s, K s → K' s) : q_W P M c (q_KV K') :=
  q_W_post w (fun _ _ s ⟨e, ex, k⟩ => ⟨e, ex, h s k⟩)
