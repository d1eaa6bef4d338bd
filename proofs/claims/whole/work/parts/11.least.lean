/-! The least predicate, its induction, its rows. -/
theorem q_nx_mono {X Y : qC → Prop} {n : Nat} {d : Option qD} (h : ∀ c, X c → Y c) : q_nx X n d → q_nx Y n d := by
  intro H
  match d, H with
  | some (p, ls, st, S, s, kc, ks), H => exact ⟨H.1, h _ H.2⟩
theorem q_sw_mono {X Y : Nat → Prop} {x : Int} {d : Nat} (h : ∀ t, X t → Y t) : ∀ (l : List Nat), q_sw X x d l → q_sw Y x d l
  | [], H => h _ H
  | [_], H => h _ H
  | _ :: _ :: r, H => ⟨fun e => h _ (H.1 e), fun e => q_sw_mono h r (H.2 e)⟩
theorem q_hd_mono {X Y : Nat → Nat → Prop} {k : Nat} (h : ∀ t i, X t i → Y t i) : ∀ (l : List Nat), q_F.q_hd X k l → q_F.q_hd Y k l
  | [], H => H
  | [_], H => H
  | [_, _], H => H
  | _ :: _ :: _ :: r, H => ⟨fun e => h _ _ (H.1 e), fun e => q_hd_mono h r (H.2 e)⟩
theorem q_ca_mono {P : qP} {X Y : Nat → qC → qQ → Prop} {M : Nat} {c : qC} {Q Q' : qQ} {a : List Nat} (hx : ∀ c, X M c Q → Y M c Q') (hr : ∀ M c R, X M c R → Y M c R) : q_F.q_ca X P M c Q a → q_F.q_ca Y P M c Q' a := by
  obtain ⟨pc, ls, st, S, s, kc, ks⟩ := c
  intro H
  obtain ⟨h1, h2, h3, h4, h5, h9, R, h6, h7, h8⟩ := H
  exact ⟨h1, h2, h3, h4, h5, h9, R, hr _ _ _ h6, fun v S' s' hv => hx _ (h7 v S' s' hv), fun k S' s' hv => ⟨(h8 k S' s' hv).1, q_hd_mono (fun t i => hx _) _ (h8 k S' s' hv).2⟩⟩
set_option maxHeartbeats 4000000 in
theorem q_F2 {P : qP} {X Y : Nat → qC → qQ → Prop} {M : Nat} {c : qC} {Q Q' : qQ} (hx : ∀ c, X M c Q → Y M c Q') (hr : ∀ M c R, X M c R → Y M c R) (hq : ∀ r S s, Q r S s → Q' r S s) : q_F P X M c Q → q_F P Y M c Q' := by
  obtain ⟨pc, ls, st, S, s, kc, ks⟩ := c
  intro H
  unfold q_F at H ⊢
  dsimp only at H ⊢
  cases hf : P.1 M pc with
  | none => rw [hf] at H; exact H
  | some z =>
    obtain ⟨len, i, v, a⟩ := z
    rw [hf] at H
    dsimp only at H ⊢
    cases i
    case goto => exact hx _ H
    case ifCond cn off =>
      match st, H with
      | .inl x :: r, H => exact ⟨fun e => hx _ (H.1 e), fun e => hx _ (H.2 e)⟩
    case if_icmp cn off =>
      match st, H with
      | .inl y :: .inl x :: r, H => exact ⟨fun e => hx _ (H.1 e), fun e => hx _ (H.2 e)⟩
    case tableswitch =>
      match st, H with
      | .inl x :: r, H => exact q_sw_mono (fun t => hx _) _ H
    case lookupswitch =>
      match st, H with
      | .inl x :: r, H => exact q_sw_mono (fun t => hx _) _ H
    case ireturn =>
      match st, H with
      | [.inl x], H => exact ⟨H.1, hq _ _ _ H.2⟩
    case lreturn =>
      match st, H with
      | [.inr (.inl x)], H => exact hq _ _ _ H
    case areturn =>
      match st, H with
      | [.inr (.inr (.inl (some r)))], H => exact hq _ _ _ H
    case return_ =>
      match st, H with
      | [], H => exact hq _ _ _ H
    case athrow => exact H
    case invokevirtual => exact q_ca_mono hx hr H
    case invokestatic =>
      by_cases h2 : q_a a 2 = 3
      · rw [if_pos h2] at H ⊢
        match st, H with
        | .inl y :: .inl x :: r, H => exact ⟨H.1, hx _ H.2⟩
      · rw [if_neg h2] at H ⊢
        exact q_ca_mono hx hr H
    case invokespecial =>
      by_cases h2 : q_a a 2 = 2
      · rw [if_pos h2] at H ⊢
        match st, H with
        | .inr (.inr (.inl (some _))) :: r, H => exact ⟨H.1, hx _ H.2⟩
      · rw [if_neg h2] at H ⊢
        exact q_ca_mono hx hr H
    case new =>
      by_cases h2 : q_a a 2 = 1
      · rw [if_pos h2] at H ⊢
        exact ⟨H.1, hq _ _ _ H.2⟩
      · rw [if_neg h2] at H ⊢
        exact q_nx_mono hx H
    all_goals exact q_nx_mono hx H
def q_W (P : qP) (M : Nat) (c : qC) (Q : qQ) : Prop := ∀ X : Nat → qC → qQ → Prop, (∀ M c Q, q_F P X M c Q → X M c Q) → X M c Q
theorem q_W_in {P : qP} {M : Nat} {c : qC} {Q : qQ} (h : q_F P (q_W P) M c Q) : q_W P M c Q := fun X hX => hX _ _ _ (q_F2 (fun c H => H X hX) (fun M c R H => H X hX) (fun _ _ _ H => H) h)
theorem q_W_ind {P : qP} {M : Nat} {c : qC} {Q : qQ} (Y : Nat → qC → qQ → Prop) (h : ∀ M c Q, q_F P Y M c Q → Y M c Q) (w : q_W P M c Q) : Y M c Q := w Y h
theorem q_W_post {P : qP} {M : Nat} {c : qC} {Q Q' : qQ} (w : q_W P M c Q) (hq : ∀ r S s, Q r S s → Q' r S s) : q_W P M c Q' :=
  q_W_ind (fun M c Q => ∀ Q' : qQ, (∀ r S s, Q r S s → Q' r S s) → q_W P M c Q') (fun M c Q H Q' hq => q_W_in (q_F2 (fun c H => H Q' hq) (fun M c R H => H R (fun _ _ _ h => h)) hq H)) w Q' hq
/-- n steps in a row, ending at the places of 'cut' (a step at least) -/
def q_G (P : qP) (cut : Nat → Bool) : Nat → Nat → qC → qQ → Prop
  | 0, M, c, Q => q_W P M c Q
  | n + 1, M, c, Q => if cut c.1 = true then q_W P M c Q else q_F P (fun M' c' Q' => (M' = M → q_G P cut n M c' Q') ∧ (M' ≠ M → q_W P M' c' Q')) M c Q
