/-! What locals hold that are read no more may be forgotten. -/
def q_leL : List (Option qV) → List (Option qV) → Prop
  | [], [] => True
  | none :: a, _ :: b => q_leL a b
  | some v :: a, w :: b => w = some v ∧ q_leL a b
  | _, _ => False
def q_le (a b : List (Option qV)) : Prop := a.length = b.length ∧ ∀ (i : Nat) (v : qV), a[i]? = some (some v) → b[i]? = some (some v)
theorem q_le_of : ∀ {a b : List (Option qV)}, q_leL a b → q_le a b
  | [], [], _ => ⟨rfl, fun i v h => by simp at h⟩
  | [], _ :: _, h => h.elim
  | none :: a, [], h => h.elim
  | some v :: a, [], h => h.elim
  | none :: a, w :: b, h => by
    have h : q_leL a b := h
    obtain ⟨h1, h2⟩ := q_le_of h
    refine ⟨by simp [h1], fun i v hi => ?_⟩
    cases i with
    | zero => simp at hi
    | succ i => simpa using h2 i v (by simpa using hi)
  | some x :: a, w :: b, h => by
    obtain ⟨h0, h⟩ : w = some x ∧ q_leL a b := h
    obtain ⟨h1, h2⟩ := q_le_of h
    refine ⟨by simp [h1], fun i v hi => ?_⟩
    cases i with
    | zero => simp at hi; subst hi; simp [h0]
    | succ i => simpa using h2 i v (by simpa using hi)
theorem q_le_n {a b : List (Option qV)} {w : Option qV} (h : q_leL a b) : q_leL (none :: a) (w :: b) := h
theorem q_le_s {a b : List (Option qV)} {v : qV} (h : q_leL a b) : q_leL (some v :: a) (some v :: b) := ⟨rfl, h⟩
theorem q_le_ld {a b : List (Option qV)} (h : q_le a b) {i : Nat} {v : qV} (hv : q_ld a i = some v) : q_ld b i = some v := q_ld_iff.mpr (h.2 i v (q_ld_iff.mp hv))
theorem q_le_st {a b : List (Option qV)} (h : q_le a b) (i : Nat) (v : qV) : q_le (q_st a i v) (q_st b i v) := by
  refine ⟨by rw [q_st_length, q_st_length]; exact h.1, fun j u hu => ?_⟩
  have hj : j < (q_st a i v).length := (List.getElem?_eq_some_iff.mp hu).1
  rw [q_st_length, h.1] at hj
  rcases q_st_get hu with ⟨rfl, rfl⟩ | ⟨h1, h2, h3⟩
  · unfold q_st
    rw [List.getElem?_set_self (by rw [q_kl_length]; exact hj)]
  · exact q_st_put h1 (h.2 j u h2) h3
theorem q_le_st2 {a b : List (Option qV)} (h : q_le a b) (i : Nat) (v : qV) : q_le (q_st2 a i v) (q_st2 b i v) := by
  obtain ⟨h1, h2⟩ := q_le_st h i v
  refine ⟨by unfold q_st2; unfold q_st at h1; simp at h1 ⊢; exact h1, fun j u hu => ?_⟩
  have e1 : q_st2 a i v = (q_st a i v).set (i + 1) none := rfl
  have e2 : q_st2 b i v = (q_st b i v).set (i + 1) none := rfl
  rw [e1] at hu
  rw [e2]
  by_cases e : j = i + 1
  · subst e
    rw [List.getElem?_set_self'] at hu
    cases hl : (q_st a i v)[i + 1]? with
    | none => rw [hl] at hu; simp at hu
    | some z => rw [hl] at hu; simp at hu
  · rw [List.getElem?_set_ne (fun q => e q.symm)] at hu ⊢
    exact h2 j u hu
theorem q_le_kn {a b : List (Option qV)} (h : q_le a b) (i : Nat) : q_le ((q_kl a i).set i none) ((q_kl b i).set i none) := by
  refine ⟨by simp [q_kl_length, h.1], fun j u hu => ?_⟩
  by_cases e : j = i
  · subst e
    rw [List.getElem?_set_self'] at hu
    cases hl : (q_kl a j)[j]? with
    | none => rw [hl] at hu; simp at hu
    | some z => rw [hl] at hu; simp at hu
  · rw [List.getElem?_set_ne (fun q => e q.symm)] at hu ⊢
    obtain ⟨h2, h3⟩ := q_kl_get hu
    have := q_st_put (v := u) e (h.2 j u h2) h3
    unfold q_st at this
    rw [List.getElem?_set_ne (fun q => e q.symm)] at this
    exact this
def q_dle (d d' : Option qD) : Prop := match d with
  | none => True
  | some (p, l1, st, S, s, kc, ks) => ∃ (p' : Prop) (l2 : List (Option qV)), d' = some (p', l2, st, S, s, kc, ks) ∧ (p → p') ∧ q_le l1 l2
theorem q_nx_le {X Y : qC → Prop} {n : Nat} {d d' : Option qD} (h : q_dle d d') (k : ∀ l1 l2 st S s kc ks, q_le l1 l2 → X (n, l1, st, S, s, kc, ks) → Y (n, l2, st, S, s, kc, ks)) : q_nx X n d → q_nx Y n d' := by
  intro H
  match d, H, h with
  | some (p, l1, st, S, s, kc, ks), H, h =>
    obtain ⟨p', l2, e, hp, hl⟩ := h
    rw [e]
    exact ⟨hp H.1, k l1 l2 st S s kc ks hl H.2⟩
theorem q_dle_some {p p' : Prop} {l1 l2 : List (Option qV)} {st : List qV} {S : qS} {s : qM} {kc ks : Nat} (hp : p → p') (hl : q_le l1 l2) : q_dle (some (p, l1, st, S, s, kc, ks)) (some (p', l2, st, S, s, kc, ks)) := ⟨p', l2, rfl, hp, hl⟩
set_option maxHeartbeats 4000000 in
theorem q_sim1_le {a b : List (Option qV)} (h : q_le a b) {i : Instr} {v : Int} {as : List Nat} {st : List qV} {S : qS} {s : qM} {kc ks : Nat} : q_dle (q_sim1 i v as a st S s kc ks) (q_sim1 i v as b st S s kc ks) := by
  cases i
  case iload => 
    simp only [q_sim1]
    split
    · rename_i x hx; rw [q_le_ld h hx]; exact q_dle_some id h
    · trivial
  case iload_n => 
    simp only [q_sim1]
    split
    · rename_i x hx; rw [q_le_ld h hx]; exact q_dle_some id h
    · trivial
  case lload => 
    simp only [q_sim1]
    split
    · rename_i x hx; rw [q_le_ld h hx]; exact q_dle_some id h
    · trivial
  case lload_n => 
    simp only [q_sim1]
    split
    · rename_i x hx; rw [q_le_ld h hx]; exact q_dle_some id h
    · trivial
  case aload => 
    simp only [q_sim1]
    split
    · rename_i x hx; rw [q_le_ld h hx]; exact q_dle_some id h
    · rename_i x hx; rw [q_le_ld h hx]; exact q_dle_some id h
    · trivial
  case aload_n => 
    simp only [q_sim1]
    split
    · rename_i x hx; rw [q_le_ld h hx]; exact q_dle_some id h
    · rename_i x hx; rw [q_le_ld h hx]; exact q_dle_some id h
    · trivial
  case iinc =>
    simp only [q_sim1]
    split
    · rename_i x hx; rw [q_le_ld h hx]; exact q_dle_some (fun p => ⟨by rw [← h.1]; exact p.1, p.2⟩) (q_le_st h _ _)
    · trivial
  case istore =>
    match st with
    | .inl x :: r => exact q_dle_some (fun p => by rw [← h.1]; exact p) (q_le_st h _ _)
    | [] => trivial
    | .inr x :: r => trivial
  case istore_n =>
    match st with
    | .inl x :: r => exact q_dle_some (fun p => by rw [← h.1]; exact p) (q_le_st h _ _)
    | [] => trivial
    | .inr x :: r => trivial
  case lstore =>
    match st with
    | .inr (.inl x) :: r => exact q_dle_some (fun p => by rw [← h.1]; exact p) (q_le_st2 h _ _)
    | [] => trivial
    | .inl x :: r => trivial
    | .inr (.inr x) :: r => trivial
  case lstore_n =>
    match st with
    | .inr (.inl x) :: r => exact q_dle_some (fun p => by rw [← h.1]; exact p) (q_le_st2 h _ _)
    | [] => trivial
    | .inl x :: r => trivial
    | .inr (.inr x) :: r => trivial
  case astore =>
    match st with
    | .inr (.inr (.inl (some x))) :: r => exact q_dle_some (fun p => by rw [← h.1]; exact p) (q_le_st h _ _)
    | [] => trivial
    | .inl x :: r => trivial
    | .inr (.inl x) :: r => trivial
    | .inr (.inr (.inl none)) :: r => trivial
    | .inr (.inr (.inr x)) :: r => trivial
  case astore_n =>
    match st with
    | .inr (.inr (.inl (some x))) :: r => exact q_dle_some (fun p => by rw [← h.1]; exact p) (q_le_st h _ _)
    | [] => trivial
    | .inl x :: r => trivial
    | .inr (.inl x) :: r => trivial
    | .inr (.inr (.inl none)) :: r => trivial
    | .inr (.inr (.inr x)) :: r => trivial
  all_goals first | trivial | exact q_dle_some id h
set_option maxHeartbeats 4000000 in
theorem q_sim2_le {a b : List (Option qV)} (h : q_le a b) {i : Instr} {st : List qV} {S : qS} {s : qM} {kc ks : Nat} : q_dle (q_sim2 i a st S s kc ks) (q_sim2 i b st S s kc ks) := by
  cases i <;> first
    | trivial
    | (simp only [q_sim2]; split <;> first | trivial | exact q_dle_some id h)
set_option maxHeartbeats 4000000 in
theorem q_sim3_le {a b : List (Option qV)} (h : q_le a b) {il : Prop} {xl : Nat} {xs : Nat → Int} {mc ms : Nat} {i : Instr} {as : List Nat} {st : List qV} {S : qS} {s : qM} {kc ks : Nat} : q_dle (q_sim3 il xl xs mc ms i as a st S s kc ks) (q_sim3 il xl xs mc ms i as b st S s kc ks) := by
  cases i <;> first
    | trivial
    | exact q_dle_some id h
    | (simp only [q_sim3]; split <;> first | trivial | exact q_dle_some id h | (split <;> first | trivial | exact q_dle_some id h))
theorem q_or_le {a b : List (Option qV)} (h : q_le a b) {i : Instr} {v : Int} {as : List Nat} {il : Prop} {xl : Nat} {xs : Nat → Int} {mc ms : Nat} {st : List qV} {S : qS} {s : qM} {kc ks : Nat} :
    q_dle (((q_sim1 i v as a st S s kc ks).or (q_sim2 i a st S s kc ks)).or (q_sim3 il xl xs mc ms i as a st S s kc ks)) (((q_sim1 i v as b st S s kc ks).or (q_sim2 i b st S s kc ks)).or (q_sim3 il xl xs mc ms i as b st S s kc ks)) := by
  have h1 := q_sim1_le h (i := i) (v := v) (as := as) (st := st) (S := S) (s := s) (kc := kc) (ks := ks)
  have h2 := q_sim2_le h (i := i) (st := st) (S := S) (s := s) (kc := kc) (ks := ks)
  have h3 := q_sim3_le h (il := il) (xl := xl) (xs := xs) (mc := mc) (ms := ms) (i := i) (as := as) (st := st) (S := S) (s := s) (kc := kc) (ks := ks)
  have key : ∀ x, (q_sim1 i v as b st S s kc ks = none ∨ ((q_sim2 i x st S s kc ks = none) ∧ q_sim3 il xl xs mc ms i as x st S s kc ks = none)) := by
    intro x
    cases i <;> first | (left; rfl) | (right; exact ⟨rfl, rfl⟩)
  have key2 : ∀ x y, (q_sim2 i y st S s kc ks = none ∨ q_sim3 il xl xs mc ms i as x st S s kc ks = none) := by
    intro x y
    cases i <;> first | (left; rfl) | (right; rfl)
  cases e1 : q_sim1 i v as a st S s kc ks with
  | some d =>
    rw [e1] at h1
    obtain ⟨p, l1, st1, S1, s1, k1, k2⟩ := d
    obtain ⟨p', l2, e2, h4⟩ := h1
    rw [e2]
    exact ⟨p', l2, rfl, h4⟩
  | none =>
    rw [Option.none_or]
    rcases key a with e2 | ⟨e2, e3⟩
    · rw [e2, Option.none_or]
      cases e5 : q_sim2 i a st S s kc ks with
      | some d =>
        rw [e5] at h2
        obtain ⟨p, l1, st1, S1, s1, k1, k2⟩ := d
        obtain ⟨p', l2, e6, h4⟩ := h2
        rw [e6]
        exact ⟨p', l2, rfl, h4⟩
      | none =>
        rw [Option.none_or]
        rcases key2 a b with e6 | e6
        · rw [e6, Option.none_or]; exact h3
        · rw [e6]; trivial
    · rw [e2, e3]; trivial
set_option maxHeartbeats 4000000 in
theorem q_W_le {P : qP} {M : Nat} {pc : Nat} {a b : List (Option qV)} {st : List qV} {S : qS} {s : qM} {kc ks : Nat} {Q : qQ} (h : q_le a b) (w : q_W P M (pc, a, st, S, s, kc, ks) Q) : q_W P M (pc, b, st, S, s, kc, ks) Q := by
  refine q_W_ind (P := P) (fun M c Q => ∀ b, q_le c.2.1 b → q_W P M (c.1, b, c.2.2) Q) (fun M c Q H b hb => ?_) w b h
  obtain ⟨pc, a, st, S, s, kc, ks⟩ := c
  refine q_W_in ?_
  unfold q_F at H ⊢
  dsimp only at H hb ⊢
  have call : ∀ as, q_F.q_ca (fun M c Q => ∀ b, q_le c.2.1 b → q_W P M (c.1, b, c.2.2) Q) P M (pc, a, st, S, s, kc, ks) Q as → q_F.q_ca (q_W P) P M (pc, b, st, S, s, kc, ks) Q as := by
    intro as H
    obtain ⟨h1, h2, h3, h4, h5, h9, R, h6, h7, h8⟩ := H
    exact ⟨h1, h2, h3, h4, h5, h9, R, h6 _ ⟨rfl, fun _ _ h => h⟩, fun v S' s' hv => h7 v S' s' hv b hb, fun k S' s' hv => ⟨(h8 k S' s' hv).1, q_hd_mono (fun t i ht => ht _ (q_le_kn hb i)) _ (h8 k S' s' hv).2⟩⟩
  cases hf : P.1 M pc with
  | none => rw [hf] at H; exact H
  | some z =>
    obtain ⟨len, i, v, as⟩ := z
    rw [hf] at H
    dsimp only at H ⊢
    cases i
    case goto => exact H b hb
    case ifCond cn off =>
      match st, H with
      | .inl x :: r, H => exact ⟨fun e => H.1 e b hb, fun e => H.2 e b hb⟩
    case if_icmp cn off =>
      match st, H with
      | .inl y :: .inl x :: r, H => exact ⟨fun e => H.1 e b hb, fun e => H.2 e b hb⟩
    case tableswitch =>
      match st, H with
      | .inl x :: r, H => exact q_sw_mono (fun t ht => ht b hb) _ H
    case lookupswitch =>
      match st, H with
      | .inl x :: r, H => exact q_sw_mono (fun t ht => ht b hb) _ H
    case ireturn =>
      match st, H with
      | [.inl x], H => exact H
    case lreturn =>
      match st, H with
      | [.inr (.inl x)], H => exact H
    case areturn =>
      match st, H with
      | [.inr (.inr (.inl (some r)))], H => exact H
    case return_ =>
      match st, H with
      | [], H => exact H
    case athrow => exact H
    case invokevirtual => exact call as H
    case invokestatic =>
      by_cases h2 : q_a as 2 = 3
      · rw [if_pos h2] at H ⊢
        match st, H with
        | .inl y :: .inl x :: r, H => exact ⟨H.1, H.2 b hb⟩
      · rw [if_neg h2] at H ⊢
        exact call as H
    case invokespecial =>
      by_cases h2 : q_a as 2 = 2
      · rw [if_pos h2] at H ⊢
        match st, H with
        | .inr (.inr (.inl (some _))) :: r, H => exact ⟨H.1, H.2 b hb⟩
      · rw [if_neg h2] at H ⊢
        exact call as H
    case new =>
      by_cases h2 : q_a as 2 = 1
      · rw [if_pos h2] at H ⊢
        exact H
      · rw [if_neg h2] at H ⊢
        exact q_nx_le (q_sim3_le hb) (fun l1 l2 st S s kc ks hl hx => hx l2 hl) H
    all_goals exact q_nx_le (q_or_le hb) (fun l1 l2 st S s kc ks hl hx => hx l2 hl) H
theorem w_cut {P : qP} {M : Nat} {pc : Nat} {a b : List (Option qV)} {st : List qV} {S : qS} {s : qM} {kc ks : Nat} {Q : qQ} (h : q_leL a b) (w : q_W P M (pc, a, st, S, s, kc, ks) Q) : q_W P M (pc, b, st, S, s, kc, ks) Q := q_W_le (q_le_of h) w
