/-! The stack and arithmetic; objects and arrays. -/
section QSim2
variable {D : va_G} {cI cZ cJ : ClassId} {M : Nat} {p : Program} {l : Launch} {e : Env} {R : Room} {s : State} {m : MethodId} {args : Array Value} {below : List Frame} {meth : Method} {c : Code} {Qm : State → Prop} {A : Nat → Prop} {H0 H : Heap} {locs : List Loc} {b xl : Nat} {xs : Nat → Int32} {ad : Nat → Nat} {ls : Array Slot} {lp lp' : List (Option qV)} {st st' : List qV} {S S' : qS} {z z' : qM} {kc ks kc' ks' pc len : Nat} {i : Instr} {v : Int} {a ws : List Nat} {P : Prop}
theorem q_div32 {x y : Int} (hx : q_r32 x) (hy : q_r32 y) (h : 0 < y) : Int32.ofInt x / Int32.ofInt y = Int32.ofInt (x.tdiv y) ∧ q_r32 (x.tdiv y) := by
  have h1 := hx.1
  have h2 := hx.2
  have hb1 : x.tdiv y ≤ x.natAbs := by
    have := Int.natAbs_tdiv_le_natAbs x y
    omega
  have hb2 : -(x.natAbs : Int) ≤ x.tdiv y := by
    have := Int.natAbs_tdiv_le_natAbs x y
    omega
  have hr : q_r32 (x.tdiv y) := by
    refine ⟨by omega, ?_⟩
    by_cases h0 : 0 ≤ x
    · omega
    · have h5 : x.tdiv y = -((-x).tdiv y) := by rw [Int.neg_tdiv, Int.neg_neg]
      have h6 : 0 ≤ (-x).tdiv y := Int.tdiv_nonneg (by omega) (by omega)
      omega
  refine ⟨?_, hr⟩
  exact (Int32.ofInt_tdiv (by rw [show Int32.minValue.toInt = -2147483648 from rfl]; omega) (by rw [show Int32.maxValue.toInt = 2147483647 from rfl]; omega) (by rw [show Int32.minValue.toInt = -2147483648 from rfl]; have := hy.1; omega) (by rw [show Int32.maxValue.toInt = 2147483647 from rfl]; have := hy.2; omega)).symm
theorem q_rem32 {x y : Int} (hx : q_r32 x) (hy : q_r32 y) (h : 0 < y) : Int32.ofInt x - Int32.ofInt x / Int32.ofInt y * Int32.ofInt y = Int32.ofInt (x.tmod y) ∧ q_r32 (x.tmod y) := by
  have h5 : (Int32.ofInt x - Int32.ofInt x / Int32.ofInt y * Int32.ofInt y).toInt = x.tmod y := by rw [rem_toInt, q_t32 hx, q_t32 hy]
  have hr : q_r32 (x.tmod y) := by rw [← h5]; exact q_r32_of _
  exact ⟨by rw [← Int32.toInt_inj, h5, q_t32 hr], hr⟩
theorem q_ne0 {y : Int} (hy : q_r32 y) (h : 0 < y) : ¬ Int32.ofInt y = 0 := by
  intro e
  have h1 := congrArg Int32.toInt e
  rw [q_t32 hy, Int32.toInt_zero] at h1
  omega
theorem q_ofi (x : Int32) : Int32.ofInt x.toInt = x := Int32.ofInt_toInt x
theorem q_ofl (x : Int64) : Int64.ofInt x.toInt = x := Int64.ofInt_toInt x
theorem q_lcmp_ok {x y : Int} (hx : q_r64 x) (hy : q_r64 y) : lg_cmp (Int64.ofInt x) (Int64.ofInt y) = Int32.ofInt (q_lcmp x y) := by
  unfold lg_cmp q_lcmp
  simp only [gt_iff_lt, q_lt64 hy hx, q_eq64 hx hy]
  split
  · rfl
  · split
    · rfl
    · rfl
theorem q_lcmp_r (x y : Int) : q_r32 (q_lcmp x y) := by
  unfold q_lcmp
  split
  · exact ⟨by decide, by decide⟩
  · split
    · exact ⟨by decide, by decide⟩
    · exact ⟨by decide, by decide⟩
theorem q_i2l_ok {x : Int} (hx : q_r32 x) : (Int32.ofInt x).toInt64 = Int64.ofInt x := by
  rw [← Int64.toInt_inj, Int32.toInt_toInt64, q_t32 hx, q_t64 (q_r32_64 hx)]
set_option maxHeartbeats 4000000 in
theorem q_sim2_ok (C0 : q_Cx D cI cZ cJ M p R s m args meth c A H0 b xl xs) (hd : decode (q_b M) pc = .ok (i, len)) (hk : q_chk2 M pc len i v a ws = true) (Wd : q_Wd D cI cZ cJ A H0 ad S z H locs) (F : q_Fr ad b M ls lp st S kc ks)
    (h : q_sim2 i lp st S z kc ks = some (P, lp', st', S', z', kc', ks')) (hp : P) (K : q_KK D cI cZ cJ M p l e R s m args below meth c Qm A H0 b ad S (pc + len) lp' st' S' z' kc' ks') :
    W p l e R s m args below meth c H locs kc ks Qm (F0 m pc ls (st.map (q_mv ad b))) := by
  obtain ⟨hx, hb, hml, hown, hts, hN, hK, hini, hR, hA, hX⟩ := C0
  cases i
  case iadd =>
    obtain rfl : len = 1 := by simpa [q_chk2] using hk
    match st, h with
    | .inl y :: .inl x :: r, h =>
      cases h
      refine lv_iadd hx hb hd ?_
      rw [← Int32.ofInt_add]
      exact q_kk0 K Wd (q_push (v := .inl (x + y)) (q_pop (q_pop F).1).1 hp)
  case isub =>
    obtain rfl : len = 1 := by simpa [q_chk2] using hk
    match st, h with
    | .inl y :: .inl x :: r, h =>
      cases h
      refine lv_isub hx hb hd ?_
      rw [← Int32.ofInt_sub]
      exact q_kk0 K Wd (q_push (v := .inl (x - y)) (q_pop (q_pop F).1).1 hp)
  case imul =>
    obtain rfl : len = 1 := by simpa [q_chk2] using hk
    match st, h with
    | .inl y :: .inl x :: r, h =>
      cases h
      refine lv_imul hx hb hd ?_
      rw [← Int32.ofInt_mul]
      exact q_kk0 K Wd (q_push (v := .inl (x * y)) (q_pop (q_pop F).1).1 hp)
  case idiv =>
    obtain rfl : len = 1 := by simpa [q_chk2] using hk
    match st, h with
    | .inl y :: .inl x :: r, h =>
      cases h
      have hy : q_r32 y := (q_pop F).2
      have hxx : q_r32 x := (q_pop (q_pop F).1).2
      refine lv_idiv hx hb hd (q_ne0 hy hp) ?_
      rw [(q_div32 hxx hy hp).1]
      exact q_kk0 K Wd (q_push (v := .inl (x.tdiv y)) (q_pop (q_pop F).1).1 (q_div32 hxx hy hp).2)
  case irem =>
    obtain rfl : len = 1 := by simpa [q_chk2] using hk
    match st, h with
    | .inl y :: .inl x :: r, h =>
      cases h
      have hy : q_r32 y := (q_pop F).2
      have hxx : q_r32 x := (q_pop (q_pop F).1).2
      refine lv_irem hx hb hd (q_ne0 hy hp) ?_
      rw [(q_rem32 hxx hy hp).1]
      exact q_kk0 K Wd (q_push (v := .inl (x.tmod y)) (q_pop (q_pop F).1).1 (q_rem32 hxx hy hp).2)
  case iand =>
    obtain rfl : len = 1 := by simpa [q_chk2] using hk
    match st, h with
    | .inl y :: .inl x :: r, h =>
      cases h
      refine lv_iand hx hb hd ?_
      have := q_kk0 K Wd (q_push (v := .inl (q_and x y)) (q_pop (q_pop F).1).1 (q_r32_of _))
      simp only [List.map_cons, q_mv, q_and, q_ofi] at this
      exact this
  case ladd =>
    obtain rfl : len = 1 := by simpa [q_chk2] using hk
    match st, h with
    | .inr (.inl y) :: .inr (.inl x) :: r, h =>
      cases h
      refine lv_ladd hx hb hd ?_
      rw [← Int64.ofInt_add]
      exact q_kk0 K Wd (q_push (v := .inr (.inl (x + y))) (q_pop (q_pop F).1).1 hp)
  case lmul =>
    obtain rfl : len = 1 := by simpa [q_chk2] using hk
    match st, h with
    | .inr (.inl y) :: .inr (.inl x) :: r, h =>
      cases h
      refine lv_lmul hx hb hd ?_
      rw [← Int64.ofInt_mul]
      exact q_kk0 K Wd (q_push (v := .inr (.inl (x * y))) (q_pop (q_pop F).1).1 hp)
  case land =>
    obtain rfl : len = 1 := by simpa [q_chk2] using hk
    match st, h with
    | .inr (.inl y) :: .inr (.inl x) :: r, h =>
      cases h
      refine lv_land hx hb hd ?_
      have := q_kk0 K Wd (q_push (v := .inr (.inl (q_land x y))) (q_pop (q_pop F).1).1 (q_r64_of _))
      simp only [List.map_cons, q_mv, q_land, q_ofl] at this
      exact this
  case lor =>
    obtain rfl : len = 1 := by simpa [q_chk2] using hk
    match st, h with
    | .inr (.inl y) :: .inr (.inl x) :: r, h =>
      cases h
      refine lv_lor hx hb hd ?_
      have := q_kk0 K Wd (q_push (v := .inr (.inl (q_lor x y))) (q_pop (q_pop F).1).1 (q_r64_of _))
      simp only [List.map_cons, q_mv, q_lor, q_ofl] at this
      exact this
  case lxor =>
    obtain rfl : len = 1 := by simpa [q_chk2] using hk
    match st, h with
    | .inr (.inl y) :: .inr (.inl x) :: r, h =>
      cases h
      refine lv_lxor hx hb hd ?_
      have := q_kk0 K Wd (q_push (v := .inr (.inl (q_lxor x y))) (q_pop (q_pop F).1).1 (q_r64_of _))
      simp only [List.map_cons, q_mv, q_lxor, q_ofl] at this
      exact this
  case lushr =>
    obtain rfl : len = 1 := by simpa [q_chk2] using hk
    match st, h with
    | .inl y :: .inr (.inl x) :: r, h =>
      cases h
      refine lv_lushr hx hb hd rfl ?_
      have := q_kk0 K Wd (q_push (v := .inr (.inl (q_lushr x y))) (q_pop (q_pop F).1).1 (q_r64_of _))
      simp only [List.map_cons, q_mv, q_lushr, q_ofl] at this
      exact this
  case lshl =>
    obtain rfl : len = 1 := by simpa [q_chk2] using hk
    match st, h with
    | .inl y :: .inr (.inl x) :: r, h =>
      cases h
      refine lv_lshl hx hb hd rfl ?_
      have := q_kk0 K Wd (q_push (v := .inr (.inl (q_lshl x y))) (q_pop (q_pop F).1).1 (q_r64_of _))
      simp only [List.map_cons, q_mv, q_lshl, q_ofl] at this
      exact this
  case lcmp =>
    obtain rfl : len = 1 := by simpa [q_chk2] using hk
    match st, h with
    | .inr (.inl y) :: .inr (.inl x) :: r, h =>
      cases h
      refine W.lcmp hx hb hd ?_
      rw [q_lcmp_ok (q_pop (q_pop F).1).2 (q_pop F).2]
      exact q_kk0 K Wd (q_push (v := .inl (q_lcmp x y)) (q_pop (q_pop F).1).1 (q_lcmp_r x y))
  case i2l =>
    obtain rfl : len = 1 := by simpa [q_chk2] using hk
    match st, h with
    | .inl x :: r, h =>
      cases h
      have hxx : q_r32 x := (q_pop F).2
      exact lv_i2l hx hb hd (q_i2l_ok hxx) (q_kk0 K Wd (q_push (v := .inr (.inl x)) (q_pop F).1 (q_r32_64 hxx)))
  case dup =>
    obtain rfl : len = 1 := by simpa [q_chk2] using hk
    match st, h with
    | w :: r, h =>
      cases h
      exact lv_dup hx hb hd (by rw [q_mv_cat]; exact hp) (q_kk0 K Wd (q_push F (q_pop F).2))
  case dup2 =>
    obtain rfl : len = 1 := by simpa [q_chk2] using hk
    match st, h with
    | w :: u :: r, h =>
      cases h
      exact lv_dup2_11 hx hb hd (by rw [q_mv_cat]; exact hp.1) (by rw [q_mv_cat]; exact hp.2) (q_kk0 K Wd (q_push (q_push F (q_pop (q_pop F).1).2) (q_pop F).2))
  case pop =>
    obtain rfl : len = 1 := by simpa [q_chk2] using hk
    match st, h with
    | w :: r, h =>
      cases h
      exact lv_pop hx hb hd (by rw [q_mv_cat]; exact hp) (q_kk0 K Wd (q_pop F).1)
  all_goals cases h
end QSim2
