/-! The two objects under law, as their constructors make them; the law up to its loop. -/
def q_k13 : Option (qS × List (Nat × Int × Int)) := q_ex 400 13 0 (q_pad 1 [some (.inr (.inr (.inl (some 0))))]) [] [(3, 12, List.replicate 12 none)] [] 0 0
def q_ws0 : List (Nat × Int × Int) := (q_k13.getD ([], [])).2
set_option maxRecDepth 100000 in
theorem q_k13_ok : q_k13 = some (S0.take 113, q_ws0) := by
  have h1 : q_k13.isSome = true := by decide +kernel
  have h2 : (q_k13.getD ([], [])).1 = S0.take 113 := by decide +kernel
  obtain ⟨z, hz⟩ := Option.isSome_iff_exists.mp h1
  unfold q_ws0
  rw [hz] at h2 ⊢
  rw [← h2]
  rfl
set_option maxRecDepth 100000 in
theorem q_ws0_in : q_inS (S0.take 113) q_ws0 := by
  have h : q_ws0.all (fun u => decide (u.1 < (S0.take 113).length)) = true := by decide +kernel
  exact fun u hu => of_decide_eq_true (List.all_eq_true.mp h u hu)
def q_k44 : Option (qS × List (Nat × Int × Int)) := q_ex 400 44 0 (q_pad 1 [some (.inr (.inr (.inl (some 113))))]) [] (S0.take 113 ++ [(4, 65, List.replicate 65 none)]) q_ws0 0 0
set_option maxRecDepth 100000 in
theorem q_k44_ok : q_k44 = some (S0.take 161, q_ws0) := by
  have h1 : q_k44.isSome = true := by decide +kernel
  have h2 : (q_k44.getD ([], [])).1 = S0.take 161 := by decide +kernel
  have h3 : (q_k44.getD ([], [])).2 = q_ws0 := by decide +kernel
  obtain ⟨z, hz⟩ := Option.isSome_iff_exists.mp h1
  rw [hz] at h2 h3 ⊢
  rw [← h2, ← h3]
  rfl
/-- the memory after both constructors -/
def q_z0 : qM := q_wr q_ws0
theorem q_wr_get {r : Nat} {j : Int} : ∀ {ws : List (Nat × Int × Int)}, q_wr ws r j = 0 ∨ (r, j, q_wr ws r j) ∈ ws
  | [] => Or.inl rfl
  | u :: ws => by
    obtain ⟨a, b, c⟩ := u
    have e : q_wr ((a, b, c) :: ws) r j = if r = a then (if j = b then c else q_wr ws a j) else q_wr ws r j := by
      show (if r = a then q_u (q_wr ws a) b c else q_wr ws r) j = _
      split
      · rfl
      · rfl
    rw [e]
    split
    · rename_i h1
      split
      · rename_i h2
        rw [h1, h2]
        exact Or.inr List.mem_cons_self
      · rw [← h1]
        exact (q_wr_get (ws := ws)).imp id (fun h => List.mem_cons_of_mem _ h)
    · exact (q_wr_get (ws := ws)).imp id (fun h => List.mem_cons_of_mem _ h)
set_option maxRecDepth 100000 in
theorem q_z0_stale : q_z0 0 11 = 1 := by decide +kernel
set_option maxRecDepth 100000 in
theorem q_z0_stopped : q_z0 43 6 = -1 := by decide +kernel
set_option maxRecDepth 100000 in
theorem q_z0_get {r : Nat} {j : Int} (h1 : ¬ (r = 0 ∧ j = 11)) (h2 : ¬ (r = 43 ∧ j = 6)) : q_z0 r j = 0 := by
  have h : q_ws0.all (fun u => decide (u.2.2 = 0) || decide (u.1 = 0 ∧ u.2.1 = 11) || decide (u.1 = 43 ∧ u.2.1 = 6)) = true := by decide +kernel
  rcases q_wr_get (r := r) (j := j) (ws := q_ws0) with e | e
  · exact e
  · have := List.all_eq_true.mp h _ e
    simp only [Bool.or_eq_true, decide_eq_true_eq] at this
    rcases this with (e3 | e3) | e3
    · exact e3
    · exact absurd e3 h1
    · exact absurd e3 h2
/-- the law's loop: x4 the place in the script -/
def L_law_23 (X : Nat × (Nat → Int32)) (x4 : Int) (s : qM) (kc ks : Nat) (Q : qQ) : Prop :=
  q_W (PP X) 0 (23, [some (.inr (.inr (.inr ()))), some (.inr (.inr (.inl (some 0)))), some (.inr (.inr (.inl (some 113)))), some (.inr (.inr (.inl (some 161)))), some (.inl x4), none, none], [], S0, s, kc, ks) Q
set_option maxRecDepth 100000 in
set_option maxHeartbeats 4000000 in
theorem q_law0 {X : Nat × (Nat → Int32)} {Q : qQ} (h : L_law_23 X 0 q_z0 162 181223 Q) : q_W (PP X) 0 (0, q_pad 7 [some (.inr (.inr (.inr ())))], [], [], fun _ _ => 0, 0, 0) Q := by
  have z13 := (q_ex_ok (xl := X.1) (xs := X.2) _ _ _ _ _ _ _ _ _ _ _ q_k13_ok (fun u hu => by cases hu)).2
  have z44 := (q_ex_ok (xl := X.1) (xs := X.2) _ _ _ _ _ _ _ _ _ _ _ q_k44_ok (fun u hu => by have := q_ws0_in u hu; rw [List.length_append]; omega)).2
  have r0 : (q_rm 0).2.2.1 = 601024 ∧ (q_rm 0).2.2.2 = 7293034 ∧ (q_rm 13).2.2.1 = 112 ∧ (q_rm 13).2.2.2 = 94112 ∧ (q_rm 44).2.2.1 = 47 ∧ (q_rm 44).2.2.2 = 87033 ∧ q_nL 13 = 1 ∧ q_nL 44 = 1 := by decide +kernel
  obtain ⟨r1, r2, r3, r4, r5, r6, r7, r8⟩ := r0
  have p1 : ∀ M, (PP X).2.1 M = (q_rm M).2.2.1 := fun _ => rfl
  have p2 : ∀ M, (PP X).2.2.1 M = (q_rm M).2.2.2 := fun _ => rfl
  have p3 : ∀ M, (PP X).2.2.2.1 M = q_nL M := fun _ => rfl
  have a0 : q_a [0, 12, 0] 1 = 12 := rfl
  have a1 : q_a [1, 65, 0] 1 = 65 := rfl
  refine w_new (P := PP X) (M := 0) (p' := 3) (S' := [(3, 12, List.replicate 12 none)]) (r := 0) rfl rfl (by decide) (by rw [p1, r1]; decide) (by rw [p2, r2]; decide) rfl rfl ?_
  rw [show q_z (fun _ _ => 0) 0 = fun _ _ => 0 from funext fun q => by show (if q = 0 then (fun _ => 0) else (fun _ => 0)) = _; split <;> rfl]
  refine w_dup (P := PP X) (p' := 4) rfl rfl rfl ?_
  refine w_call (P := PP X) (p' := 7) (M' := 13) (as := [.inr (.inr (.inl (some 0)))]) (rest := [.inr (.inr (.inl (some 0)))]) rfl rfl (by decide) rfl rfl (by decide) rfl rfl (by decide) (by rw [p1, p1, r1, r3]; decide) (by rw [p2, p2, r2, r4]; decide) rfl (by rw [p3, r7]; decide) z13 (fun k S' s' hq => by cases hq.1) ?_
  rintro w S' s' ⟨e1, rfl, rfl⟩
  cases e1
  refine w_astore (P := PP X) (p' := 8) rfl rfl rfl (by decide) rfl ?_
  refine w_new (P := PP X) (p' := 11) (S' := S0.take 113 ++ [(4, 65, List.replicate 65 none)]) (r := 113) rfl rfl (by decide) (by rw [p1, p1, r1, r3]; decide) (by rw [p2, p2, r2, r4]; decide) (by decide +kernel) rfl ?_
  rw [show q_z (q_wr q_ws0) 113 = q_wr q_ws0 from (by have := q_z_wr q_ws0_in; rw [show (S0.take 113).length = 113 by decide +kernel] at this; exact this)]
  refine w_dup (P := PP X) (p' := 12) rfl rfl rfl ?_
  refine w_call (P := PP X) (p' := 15) (M' := 44) (as := [.inr (.inr (.inl (some 113)))]) (rest := [.inr (.inr (.inl (some 113)))]) rfl rfl (by decide) rfl rfl (by decide) rfl rfl (by decide) (by rw [p1, p1, p1, r1, r3, r5]; decide) (by rw [p2, p2, p2, r2, r4, r6]; decide) (by show q_tag _ 113 = some 4; decide +kernel) (by rw [p3, r8]; decide) z44 (fun k S' s' hq => by cases hq.1) ?_
  rintro w S' s' ⟨e1, rfl, rfl⟩
  cases e1
  refine w_astore (P := PP X) (p' := 16) rfl rfl rfl (by decide) rfl ?_
  refine w_const (P := PP X) (p' := 17) rfl rfl rfl ?_
  refine w_newa (P := PP X) (p' := 19) (N := 1) (S' := S0) (r := 161) rfl rfl (by decide) (by rw [p1, p1, p1, r1, r3, r5]; decide) (by rw [p2, p2, p2, r2, r4, r6]; decide) (by decide +kernel) (by decide +kernel) ?_
  have hin : q_inS (S0.take 161) q_ws0 := fun u hu => by
    have := q_ws0_in u hu
    rw [show (S0.take 113).length = 113 by decide +kernel] at this
    rw [show (S0.take 161).length = 161 by decide +kernel]
    omega
  rw [show q_z (q_wr q_ws0) 161 = q_wr q_ws0 from (by have := q_z_wr hin; rw [show (S0.take 161).length = 161 by decide +kernel] at this; exact this)]
  refine w_astore (P := PP X) (p' := 20) rfl rfl rfl (by decide) rfl ?_
  refine w_const (P := PP X) (p' := 21) rfl rfl rfl ?_
  refine w_istore (P := PP X) (p' := 23) rfl rfl rfl (by decide) rfl ?_
  rw [p1, p1, p2, p2, r3, r4, r5, r6]
  exact h
