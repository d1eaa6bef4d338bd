/-! A run has one end, and nothing that does not hold there is come to. -/
/-- one end of a run, at which all that holds there is come to -/
def q_Two (P : qQ → Prop) (Q : qQ) : Prop := ∃ (r : (Option qV) ⊕ Nat) (S : qS) (s : qM), Q r S s ∧ (∀ Q' : qQ, Q' r S s → P Q') ∧ ∀ Q' : qQ, P Q' → Q' r S s
theorem q_nx_two {X : qC → qQ → Prop} {n : Nat} {d : Option qD} {Q : qQ} (H : q_nx (fun c => q_Two (X c) Q) n d) : q_Two (fun Q => q_nx (fun c => X c Q) n d) Q := by
  match d, H with
  | some (p, ls, st, S, s, kc, ks), ⟨h, r, S', s', a, b, t⟩ => exact ⟨r, S', s', a, fun Q' q => ⟨h, b Q' q⟩, fun Q' q => t Q' q.2⟩
theorem q_sw_two {X : Nat → qQ → Prop} {x : Int} {d : Nat} {Q : qQ} : ∀ (l : List Nat), q_sw (fun t => q_Two (X t) Q) x d l → q_Two (fun Q => q_sw (fun t => X t Q) x d l) Q
  | [], H => H
  | [_], H => H
  | k :: t :: l, H => by
    by_cases h : x = (k : Int)
    · obtain ⟨r, S, s, a, b, t⟩ := H.1 h
      exact ⟨r, S, s, a, fun Q' q => ⟨fun _ => b Q' q, fun n => absurd h n⟩, fun Q' q => t Q' (q.1 h)⟩
    · obtain ⟨r, S, s, a, b, t⟩ := q_sw_two l (H.2 h)
      exact ⟨r, S, s, a, fun Q' q => ⟨fun n => absurd n h, fun _ => b Q' q⟩, fun Q' q => t Q' (q.2 h)⟩
theorem q_hd_two {X : Nat → Nat → qQ → Prop} {k : Nat} {Q : qQ} : ∀ (l : List Nat), q_F.q_hd (fun t i => q_Two (X t i) Q) k l → q_Two (fun Q => q_F.q_hd (fun t i => X t i Q) k l) Q
  | [], H => H.elim
  | [_], H => H.elim
  | [_, _], H => H.elim
  | e :: _ :: _ :: l, H => by
    by_cases h : k = e
    · obtain ⟨r, S, s, a, b, t⟩ := H.1 h
      exact ⟨r, S, s, a, fun Q' q => ⟨fun _ => b Q' q, fun n => absurd h n⟩, fun Q' q => t Q' (q.1 h)⟩
    · obtain ⟨r, S, s, a, b, t⟩ := q_hd_two l (H.2 h)
      exact ⟨r, S, s, a, fun Q' q => ⟨fun n => absurd n h, fun _ => b Q' q⟩, fun Q' q => t Q' (q.2 h)⟩
theorem q_ca_two {P : qP} {M : Nat} {c : qC} {Q : qQ} {a : List Nat} (H : q_F.q_ca (fun M c => q_Two (q_W P M c)) P M c Q a) : q_Two (fun Q => q_F.q_ca (q_W P) P M c Q a) Q := by
  obtain ⟨pc, ls, st, S, s, kc, ks⟩ := c
  obtain ⟨h1, h2, h3, h4, h5, h9, R, ⟨r, S', s', g, w, u⟩, h7, h8⟩ := H
  cases r with
  | inl v =>
    obtain ⟨r2, S2, s2, a2, b2, t2⟩ := h7 v S' s' g
    refine ⟨r2, S2, s2, a2, fun Q' q => ⟨h1, h2, h3, h4, h5, h9, fun r0 S0 s0 => r0 = .inl v ∧ S0 = S' ∧ s0 = s', w _ ⟨rfl, rfl, rfl⟩, fun v0 S0 s0 e => ?_, fun k S0 s0 e => (by cases e.1)⟩, fun Q' q => by obtain ⟨_, _, _, _, _, _, R', w', h7', _⟩ := q; exact t2 Q' (h7' v S' s' (u _ w'))⟩
    obtain ⟨e1, e2, e3⟩ := e
    cases e1
    subst e2 e3
    exact b2 Q' q
  | inr k =>
    obtain ⟨h8a, h8b⟩ := h8 k S' s' g
    obtain ⟨r2, S2, s2, a2, b2, t2⟩ := q_hd_two _ h8b
    refine ⟨r2, S2, s2, a2, fun Q' q => ⟨h1, h2, h3, h4, h5, h9, fun r0 S0 s0 => r0 = .inr k ∧ S0 = S' ∧ s0 = s', w _ ⟨rfl, rfl, rfl⟩, fun v0 S0 s0 e => (by cases e.1), fun k0 S0 s0 e => ?_⟩, fun Q' q => by obtain ⟨_, _, _, _, _, _, R', w', _, h8'⟩ := q; exact t2 Q' (h8' k S' s' (u _ w')).2⟩
    obtain ⟨e1, e2, e3⟩ := e
    cases e1
    subst e2 e3
    exact ⟨h8a, b2 Q' q⟩
set_option maxHeartbeats 4000000 in
theorem q_F_two {P : qP} {M : Nat} {c : qC} {Q : qQ} : q_F P (fun M c => q_Two (q_W P M c)) M c Q → q_Two (q_F P (q_W P) M c) Q := by
  obtain ⟨pc, ls, st, S, s, kc, ks⟩ := c
  intro H
  unfold q_F at H ⊢
  dsimp only at H ⊢
  cases hf : P.1 M pc with
  | none => rw [hf] at H; exact H.elim
  | some z =>
    obtain ⟨len, i, v, a⟩ := z
    rw [hf] at H
    dsimp only at H ⊢
    cases i
    case goto => exact H
    case ifCond cn off =>
      match st, H with
      | .inl x :: r, H =>
        by_cases h : q_cmp cn x 0
        · obtain ⟨r1, S1, s1, a1, b1, t1⟩ := H.1 h
          exact ⟨r1, S1, s1, a1, fun Q' q => ⟨fun _ => b1 Q' q, fun n => absurd h n⟩, fun Q' q => t1 Q' (q.1 h)⟩
        · obtain ⟨r1, S1, s1, a1, b1, t1⟩ := H.2 h
          exact ⟨r1, S1, s1, a1, fun Q' q => ⟨fun n => absurd n h, fun _ => b1 Q' q⟩, fun Q' q => t1 Q' (q.2 h)⟩
    case if_icmp cn off =>
      match st, H with
      | .inl y :: .inl x :: r, H =>
        by_cases h : q_cmp cn x y
        · obtain ⟨r1, S1, s1, a1, b1, t1⟩ := H.1 h
          exact ⟨r1, S1, s1, a1, fun Q' q => ⟨fun _ => b1 Q' q, fun n => absurd h n⟩, fun Q' q => t1 Q' (q.1 h)⟩
        · obtain ⟨r1, S1, s1, a1, b1, t1⟩ := H.2 h
          exact ⟨r1, S1, s1, a1, fun Q' q => ⟨fun n => absurd n h, fun _ => b1 Q' q⟩, fun Q' q => t1 Q' (q.2 h)⟩
    case tableswitch =>
      match st, H with
      | .inl x :: r, H => exact q_sw_two _ H
    case lookupswitch =>
      match st, H with
      | .inl x :: r, H => exact q_sw_two _ H
    case ireturn =>
      match st, H with
      | [.inl x], H => exact ⟨_, _, _, H.2, fun Q' q => ⟨H.1, q⟩, fun Q' q => q.2⟩
    case lreturn =>
      match st, H with
      | [.inr (.inl x)], H => exact ⟨_, _, _, H, fun Q' q => q, fun Q' q => q⟩
    case areturn =>
      match st, H with
      | [.inr (.inr (.inl (some r)))], H => exact ⟨_, _, _, H, fun Q' q => q, fun Q' q => q⟩
    case return_ =>
      match st, H with
      | [], H => exact ⟨_, _, _, H, fun Q' q => q, fun Q' q => q⟩
    case athrow => exact H.elim
    case invokevirtual => exact q_ca_two H
    case invokestatic =>
      by_cases h2 : q_a a 2 = 3
      · simp only [if_pos h2] at H ⊢
        match st, H with
        | .inl y :: .inl x :: r, ⟨h, r1, S1, s1, a1, b1, t1⟩ => exact ⟨r1, S1, s1, a1, fun Q' q => ⟨h, b1 Q' q⟩, fun Q' q => t1 Q' q.2⟩
      · simp only [if_neg h2] at H ⊢
        exact q_ca_two H
    case invokespecial =>
      by_cases h2 : q_a a 2 = 2
      · simp only [if_pos h2] at H ⊢
        match st, H with
        | .inr (.inr (.inl (some _))) :: r, ⟨h, r1, S1, s1, a1, b1, t1⟩ => exact ⟨r1, S1, s1, a1, fun Q' q => ⟨h, b1 Q' q⟩, fun Q' q => t1 Q' q.2⟩
      · simp only [if_neg h2] at H ⊢
        exact q_ca_two H
    case new =>
      by_cases h2 : q_a a 2 = 1
      · simp only [if_pos h2] at H ⊢
        exact ⟨_, _, _, H.2, fun Q' q => ⟨H.1, q⟩, fun Q' q => q.2⟩
      · simp only [if_neg h2] at H ⊢
        exact q_nx_two H
    all_goals exact q_nx_two H
theorem q_W_un {P : qP} {M : Nat} {c : qC} {Q : qQ} (w : q_W P M c Q) : q_F P (q_W P) M c Q :=
  q_W_ind (fun M c Q => q_F P (q_W P) M c Q) (fun _ _ _ H => q_F2 (fun _ H => q_W_in H) (fun _ _ _ H => q_W_in H) (fun _ _ _ H => H) H) w
theorem q_W_two {P : qP} {M : Nat} {c : qC} {Q : qQ} (w : q_W P M c Q) : q_Two (q_W P M c) Q :=
  q_W_ind (fun M c Q => q_Two (q_W P M c) Q) (fun M c Q H => by
    obtain ⟨r, S, s, a, b, t⟩ := q_F_two H
    exact ⟨r, S, s, a, fun Q' q => q_W_in (b Q' q), fun Q' q => t Q' (q_W_un q)⟩) w
theorem z_2V {P : qP} {M : Nat} {c : qC} {K : qM → Prop} (w : q_W P M c (q_KV K)) : ∃ s, K s ∧ (∀ K' : qM → Prop, K' s → q_W P M c (q_KV K')) ∧ ∀ K' : qM → Prop, q_W P M c (q_KV K') → K' s := by
  obtain ⟨r, S, s, ⟨e, ex, h⟩, b, t⟩ := q_W_two w
  exact ⟨s, h, fun K' k => b _ ⟨e, ex, k⟩, fun K' k => by obtain ⟨_, _, h'⟩ := t _ k; exact h'⟩
