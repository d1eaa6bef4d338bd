/-! The constructors, run by program. -/
def q_wr (ws : List (Nat × Int × Int)) : qM := ws.foldr (fun u s => q_up s u.1 u.2.1 u.2.2) (fun _ _ => 0)
def q_inS (S : qS) (ws : List (Nat × Int × Int)) : Prop := ∀ u ∈ ws, u.1 < S.length
theorem q_wr_z {r : Nat} : ∀ {ws : List (Nat × Int × Int)}, (∀ u ∈ ws, u.1 ≠ r) → q_wr ws r = fun _ => 0
  | [], _ => rfl
  | u :: ws, h => by
    show (if r = u.1 then q_u (q_wr ws u.1) u.2.1 u.2.2 else q_wr ws r) = _
    rw [if_neg (fun e => h u List.mem_cons_self e.symm)]
    exact q_wr_z fun w hw => h w (List.mem_cons_of_mem _ hw)
theorem q_z_wr {S : qS} {ws : List (Nat × Int × Int)} (h : q_inS S ws) : q_z (q_wr ws) S.length = q_wr ws := by
  funext q
  show (if q = S.length then (fun _ => 0) else q_wr ws q) = _
  by_cases e : q = S.length
  · rw [if_pos e, e, q_wr_z fun u hu => Nat.ne_of_lt (h u hu)]
  · rw [if_neg e]
def q_cmpb (c : Jvm.ClassFile.Cond) (x y : Int) : Bool := match c with
  | .eq => decide (x = y)
  | .ne => decide (x ≠ y)
  | .lt => decide (x < y)
  | .ge => decide (y ≤ x)
  | .gt => decide (y < x)
  | .le => decide (x ≤ y)
theorem q_cmpb_iff (c : Jvm.ClassFile.Cond) (x y : Int) : q_cmpb c x y = true ↔ q_cmp c x y := by
  cases c <;> simp [q_cmpb, q_cmp]
def q_rcb (S : qS) (k : Nat) (c : Nat) (as : List qV) : Bool := match k with
  | 0 => true
  | _ => match as with
    | .inr (.inr (.inl (some r))) :: _ => decide (q_tag S r = some (3 + c))
    | _ => false
theorem q_rcb_ok {S : qS} {k c : Nat} {as : List qV} (h : q_rcb S k c as = true) : q_rc S k c as := by
  unfold q_rcb at h
  unfold q_rc
  split at h
  · trivial
  · split at h
    · rename_i hk _ r r'
      match k, hk with
      | 0, hk => exact absurd rfl hk
      | k + 1, _ => exact (of_decide_eq_true h : q_tag S r = some (3 + c))
    · cases h
def q_ex : Nat → Nat → Nat → List (Option qV) → List qV → qS → List (Nat × Int × Int) → Nat → Nat → Option (qS × List (Nat × Int × Int))
  | 0, _, _, _, _, _, _, _, _ => none
  | n + 1, M, pc, ls, st, S, ws, kc, ks => match q_ft1 M pc with
    | none => none
    | some (len, i, v, a) => match i with
      | .iconst _ => q_ex n M (pc + len) ls (.inl v :: st) S ws kc ks
      | .sipush _ => q_ex n M (pc + len) ls (.inl v :: st) S ws kc ks
      | .ldc _ => q_ex n M (pc + len) ls (.inl v :: st) S ws kc ks
      | .aload_n _ => match q_ld ls (q_a a 0) with
        | some (.inr (.inr (.inl (some r)))) => q_ex n M (pc + len) ls (.inr (.inr (.inl (some r))) :: st) S ws kc ks
        | _ => none
      | .iload_n _ => match q_ld ls (q_a a 0) with
        | some (.inl x) => q_ex n M (pc + len) ls (.inl x :: st) S ws kc ks
        | _ => none
      | .dup => match st with
        | w :: st => if q_cat w = 1 then q_ex n M (pc + len) ls (w :: w :: st) S ws kc ks else none
        | _ => none
      | .goto _ => q_ex n M (q_a a 0) ls st S ws kc ks
      | .ifCond cn _ => match st with
        | .inl x :: st => if q_cmpb cn x 0 = true then q_ex n M (q_a a 0) ls st S ws kc ks else q_ex n M (pc + 3) ls st S ws kc ks
        | _ => none
      | .getfield _ => match st with
        | .inr (.inr (.inl (some r))) :: st => match q_ref S r (q_a a 1) with
          | some q => if q_a a 2 = 1 ∧ q_tag S r = some (3 + q_a a 0) then q_ex n M (pc + len) ls (.inr (.inr (.inl (some q))) :: st) S ws kc ks else none
          | none => none
        | _ => none
      | .putfield _ => match st with
        | .inl x :: .inr (.inr (.inl (some r))) :: st => if q_a a 2 ≠ 1 ∧ q_tag S r = some (3 + q_a a 0) ∧ (q_a a 2 = 3 → 0 ≤ x ∧ x ≤ 1) then q_ex n M (pc + len) ls st S ((r, (q_a a 1 : Nat), x) :: ws) kc ks else none
        | .inr (.inr (.inl u)) :: .inr (.inr (.inl (some r))) :: st => if q_a a 2 = 1 ∧ q_tag S r = some (3 + q_a a 0) then q_ex n M (pc + len) ls st (q_pr S r (q_a a 1) u) ws kc ks else none
        | _ => none
      | .new _ => if q_a a 2 ≠ 1 ∧ kc + 1 ≤ (q_rm M).2.2.1 ∧ ks + q_a a 1 ≤ (q_rm M).2.2.2 then q_ex n M (pc + len) ls (.inr (.inr (.inl (some S.length))) :: st) (S ++ [(3 + q_a a 0, q_a a 1, List.replicate (q_a a 1) none)]) ws (kc + 1) (ks + q_a a 1) else none
      | .newarray _ => match st with
        | .inl m :: st => if 0 ≤ m ∧ m.toNat ≤ 60000 ∧ kc + 1 ≤ (q_rm M).2.2.1 ∧ ks + m.toNat ≤ (q_rm M).2.2.2 then q_ex n M (pc + len) ls (.inr (.inr (.inl (some S.length))) :: st) (S ++ [(q_a a 0, m.toNat, [])]) ws (kc + 1) (ks + m.toNat) else none
        | _ => none
      | .invokespecial _ => if q_a a 2 = 2
        then match st with
          | .inr (.inr (.inl (some _))) :: st => if q_sum st ≤ 8 then q_ex n M (pc + 3) ls st S ws kc ks else none
          | _ => none
        else if q_a a 2 < 2 ∧ q_a a 1 ≤ st.length ∧ q_sum (st.drop (q_a a 1)) ≤ 8 ∧ kc + (q_rm (q_a a 0)).2.2.1 ≤ (q_rm M).2.2.1 ∧ ks + (q_rm (q_a a 0)).2.2.2 ≤ (q_rm M).2.2.2 ∧ q_rcb S (q_a a 2) (q_a a 3) (st.take (q_a a 1)).reverse = true ∧ (q_en (st.take (q_a a 1)).reverse).length ≤ q_nL (q_a a 0)
          then match q_ex n (q_a a 0) 0 (q_pad (q_nL (q_a a 0)) (q_en (st.take (q_a a 1)).reverse)) [] S ws 0 0 with
            | some (S', ws') => q_ex n M (pc + 3) ls (st.drop (q_a a 1)) S' ws' (kc + (q_rm (q_a a 0)).2.2.1) (ks + (q_rm (q_a a 0)).2.2.2)
            | none => none
          else none
      | .return_ => match st with
        | [] => some (S, ws)
        | _ => none
      | _ => none
theorem q_pr_len {S : qS} {r k : Nat} {u : Option Nat} : (q_pr S r k u).length = S.length := by
  unfold q_pr
  split
  · rw [List.length_set]
  · rfl
theorem q_tag_lt {S : qS} {r t : Nat} (h : q_tag S r = some t) : r < S.length := by
  obtain ⟨n, rs, h⟩ := q_tag_get h
  exact q_lt_of h
set_option maxHeartbeats 4000000 in
theorem q_ex_ok {xl : Nat} {xs : Nat → Int32} : ∀ (n M pc : Nat) (ls : List (Option qV)) (st : List qV) (S : qS) (ws : List (Nat × Int × Int)) (kc ks : Nat) (S' : qS) (ws' : List (Nat × Int × Int)), q_ex n M pc ls st S ws kc ks = some (S', ws') → q_inS S ws →
    q_inS S' ws' ∧ q_W (q_Pr xl xs) M (pc, ls, st, S, q_wr ws, kc, ks) (fun k S2 s2 => k = .inl none ∧ S2 = S' ∧ s2 = q_wr ws')
  | 0, _, _, _, _, _, _, _, _, _, _, h, _ => by simp [q_ex] at h
  | n + 1, M, pc, ls, st, S, ws, kc, ks, S', ws', h, hin => by
    have IH := @q_ex_ok xl xs n
    unfold q_ex at h
    cases hf : q_ft1 M pc with
    | none => rw [hf] at h; cases h
    | some z =>
      obtain ⟨len, i, v, a⟩ := z
      rw [hf] at h
      dsimp only at h
      cases i
      case iconst k => exact ⟨(IH _ _ _ _ _ _ _ _ _ _ h hin).1, w_const hf rfl rfl (IH _ _ _ _ _ _ _ _ _ _ h hin).2⟩
      case sipush k => exact ⟨(IH _ _ _ _ _ _ _ _ _ _ h hin).1, w_const hf rfl rfl (IH _ _ _ _ _ _ _ _ _ _ h hin).2⟩
      case ldc k => exact ⟨(IH _ _ _ _ _ _ _ _ _ _ h hin).1, w_const hf rfl rfl (IH _ _ _ _ _ _ _ _ _ _ h hin).2⟩
      case aload_n k =>
        dsimp only at h
        split at h
        · rename_i r hl
          exact ⟨(IH _ _ _ _ _ _ _ _ _ _ h hin).1, w_aload hf rfl rfl hl (IH _ _ _ _ _ _ _ _ _ _ h hin).2⟩
        · cases h
      case iload_n k =>
        dsimp only at h
        split at h
        · rename_i r hl
          exact ⟨(IH _ _ _ _ _ _ _ _ _ _ h hin).1, w_iload hf rfl rfl hl (IH _ _ _ _ _ _ _ _ _ _ h hin).2⟩
        · cases h
      case dup =>
        match st, h with
        | w :: st, h =>
          dsimp only at h
          split at h
          · rename_i hc
            exact ⟨(IH _ _ _ _ _ _ _ _ _ _ h hin).1, w_dup hf rfl hc (IH _ _ _ _ _ _ _ _ _ _ h hin).2⟩
          · cases h
      case goto off => exact ⟨(IH _ _ _ _ _ _ _ _ _ _ h hin).1, w_goto hf rfl (IH _ _ _ _ _ _ _ _ _ _ h hin).2⟩
      case ifCond cn off =>
        match st, h with
        | .inl x :: st, h =>
          dsimp only at h
          split at h
          · rename_i hc
            exact ⟨(IH _ _ _ _ _ _ _ _ _ _ h hin).1, w_if hf rfl rfl (fun _ => (IH _ _ _ _ _ _ _ _ _ _ h hin).2) (fun q => absurd ((q_cmpb_iff cn x 0).mp hc) q)⟩
          · rename_i hc
            exact ⟨(IH _ _ _ _ _ _ _ _ _ _ h hin).1, w_if hf rfl rfl (fun q => absurd ((q_cmpb_iff cn x 0).mpr q) hc) (fun _ => (IH _ _ _ _ _ _ _ _ _ _ h hin).2)⟩
      case getfield k =>
        match st, h with
        | .inr (.inr (.inl (some r))) :: st, h =>
          dsimp only at h
          split at h
          · rename_i q hq
            split at h
            · rename_i hc
              exact ⟨(IH _ _ _ _ _ _ _ _ _ _ h hin).1, w_getR hf rfl hc.1 hc.2 hq (IH _ _ _ _ _ _ _ _ _ _ h hin).2⟩
            · cases h
          · cases h
      case putfield k =>
        match st, h with
        | .inl x :: .inr (.inr (.inl (some r))) :: st, h =>
          dsimp only at h
          split at h
          · rename_i hc
            have hin' : q_inS S ((r, (q_a a 1 : Nat), x) :: ws) := fun u hu => by
              rcases List.mem_cons.mp hu with rfl | hu
              · exact q_tag_lt hc.2.1
              · exact hin u hu
            exact ⟨(IH _ _ _ _ _ _ _ _ _ _ h hin').1, w_putI hf rfl hc.1 rfl hc.2.1 (by unfold q_kind; split; exact hc.2.2 (by assumption); trivial) (IH _ _ _ _ _ _ _ _ _ _ h hin').2⟩
          · cases h
        | .inr (.inr (.inl u)) :: .inr (.inr (.inl (some r))) :: st, h =>
          dsimp only at h
          split at h
          · rename_i hc
            have hin' : q_inS (q_pr S r (q_a a 1) u) ws := fun w hw => by rw [q_pr_len]; exact hin w hw
            exact ⟨(IH _ _ _ _ _ _ _ _ _ _ h hin').1, w_putR hf rfl hc.1 hc.2 rfl (IH _ _ _ _ _ _ _ _ _ _ h hin').2⟩
          · cases h
      case new k =>
        dsimp only at h
        split at h
        · rename_i hc
          have hin' : q_inS (S ++ [(3 + q_a a 0, q_a a 1, List.replicate (q_a a 1) none)]) ws := fun w hw => by have := hin w hw; simp; omega
          refine ⟨(IH _ _ _ _ _ _ _ _ _ _ h hin').1, w_new hf rfl hc.1 hc.2.1 hc.2.2 rfl rfl ?_⟩
          rw [q_z_wr hin]
          exact (IH _ _ _ _ _ _ _ _ _ _ h hin').2
        · cases h
      case newarray t =>
        match st, h with
        | .inl m :: st, h =>
          dsimp only at h
          split at h
          · rename_i hc
            have hin' : q_inS (S ++ [(q_a a 0, m.toNat, [])]) ws := fun w hw => by have := hin w hw; simp; omega
            have K := (IH _ _ _ _ _ _ _ _ _ _ h hin').2
            rw [← q_z_wr hin] at K
            have e := w_newa (P := q_Pr xl xs) (N := m.toNat) hf rfl hc.2.1 hc.2.2.1 hc.2.2.2 rfl rfl K
            rw [Int.toNat_of_nonneg hc.1] at e
            exact ⟨(IH _ _ _ _ _ _ _ _ _ _ h hin').1, e⟩
          · cases h
      case invokespecial k =>
        dsimp only at h
        split at h
        · rename_i h2
          match st, h with
          | .inr (.inr (.inl (some r))) :: st, h =>
            dsimp only at h
            split at h
            · rename_i hc
              exact ⟨(IH _ _ _ _ _ _ _ _ _ _ h hin).1, w_obj hf rfl h2 hc (IH _ _ _ _ _ _ _ _ _ _ h hin).2⟩
            · cases h
        · split at h
          · rename_i hc
            obtain ⟨c1, c2, c3, c4, c5, c6, c7⟩ := hc
            split at h
            · rename_i S1 ws1 h1
              have K1 := IH _ _ _ _ _ _ _ _ _ _ h1 hin
              have K2 := IH _ _ _ _ _ _ _ _ _ _ h K1.1
              refine ⟨K2.1, w_call hf rfl c1 rfl rfl c2 rfl rfl c3 c4 c5 (q_rcb_ok c6) c7 K1.2 (fun k S' s' hq => by cases hq.1) ?_⟩
              rintro w S2 s2 ⟨e1, rfl, rfl⟩
              cases e1
              exact K2.2
            · cases h
          · cases h
      case return_ =>
        match st, h with
        | [], h =>
          cases h
          exact ⟨hin, w_vret hf ⟨rfl, rfl, rfl⟩⟩
      all_goals cases h
