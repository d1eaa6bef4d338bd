/-! Objects and arrays: the machine does as the pure machine does. -/
section QSim3
variable {D : va_G} {cI cZ cJ : ClassId} {M : Nat} {p : Program} {l : Launch} {e : Env} {R : Room} {s : State} {m : MethodId} {args : Array Value} {below : List Frame} {meth : Method} {c : Code} {Qm : State → Prop} {A : Nat → Prop} {H0 H : Heap} {locs : List Loc} {b xl : Nat} {xs : Nat → Int32} {ad : Nat → Nat} {ls : Array Slot} {lp lp' : List (Option qV)} {st st' : List qV} {S S' : qS} {z z' : qM} {kc ks kc' ks' pc len : Nat} {i : Instr} {v : Int} {a ws : List Nat} {P : Prop}
theorem q_fs_get {k : Nat} {sh : Nat × Nat × List (Option Nat)} {f : Int → Int} {j : Nat} (h : j < sh.2.1) : (q_fs ad k sh f)[j]? = some (if (q_kd.getD k []).getD j 0 = 1 then va_rf ((sh.2.2.getD j none).map ad) else .int (Int32.ofInt (f j))) := by
  unfold q_fs
  rw [List.getElem?_map, List.getElem?_range h]
  rfl
theorem q_fs_len {k : Nat} {sh : Nat × Nat × List (Option Nat)} {f : Int → Int} : (q_fs ad k sh f).length = sh.2.1 := by simp [q_fs]
theorem q_fs_set {k : Nat} {sh : Nat × Nat × List (Option Nat)} {f : Int → Int} {j : Nat} {x : Int} (hk : ¬ (q_kd.getD k []).getD j 0 = 1) : q_fs ad k sh (q_u f j x) = (q_fs ad k sh f).set j (.int (Int32.ofInt x)) := by
  apply List.ext_getElem?
  intro q
  by_cases hq : q < sh.2.1
  · rw [q_fs_get hq]
    by_cases e : q = j
    · subst e
      rw [List.getElem?_set_self (by rw [q_fs_len]; exact hq), if_neg hk]
      simp [q_u]
    · rw [List.getElem?_set_ne (fun w => e w.symm), q_fs_get hq]
      have : ¬ ((q : Int) = (j : Int)) := by omega
      simp [q_u, this]
  · rw [List.getElem?_eq_none (by rw [q_fs_len]; omega), List.getElem?_eq_none (by rw [List.length_set, q_fs_len]; omega)]
theorem q_fs_setr {k t n : Nat} {rs : List (Option Nat)} {f : Int → Int} {j : Nat} {x : Option Nat} (hk : (q_kd.getD k []).getD j 0 = 1) (hj : j < rs.length) : q_fs ad k (t, n, rs.set j x) f = (q_fs ad k (t, n, rs) f).set j (va_rf (x.map ad)) := by
  apply List.ext_getElem?
  intro q
  by_cases hq : q < n
  · rw [q_fs_get (sh := (t, n, rs.set j x)) hq]
    by_cases e : q = j
    · subst e
      rw [List.getElem?_set_self (by rw [q_fs_len]; exact hq), if_pos hk]
      simp [List.getD_eq_getElem?_getD, hj]
    · rw [List.getElem?_set_ne (fun w => e w.symm), q_fs_get (sh := (t, n, rs)) hq]
      simp [List.getD_eq_getElem?_getD, List.getElem?_set, Ne.symm e]
  · rw [List.getElem?_eq_none (by rw [q_fs_len]; exact Nat.le_of_not_lt hq), List.getElem?_eq_none (by rw [List.length_set, q_fs_len]; exact Nat.le_of_not_lt hq)]
theorem q_in {j : Int} {n : Nat} (hj : q_r32 j) (h0 : 0 ≤ j) (h : j < n) : vp_in (Int32.ofInt j) n := vp_in_iff.mpr ⟨by rw [q_t32 hj]; exact h0, by rw [q_t32 hj]; exact h⟩
theorem q_updI {f : Int → Int} {j x : Int} (h0 : 0 ≤ j) : (fun (k : Nat) => Int32.ofInt (q_u f j x k)) = upd (fun (k : Nat) => Int32.ofInt (f k)) j.toNat (Int32.ofInt x) := by
  funext k
  unfold q_u upd
  by_cases e : (k : Int) = j
  · rw [if_pos e, if_pos (by omega)]
  · rw [if_neg e, if_neg (by omega)]
theorem q_updL {f : Int → Int} {j x : Int} (h0 : 0 ≤ j) : (fun (k : Nat) => Int64.ofInt (q_u f j x k)) = vp_updL (fun (k : Nat) => Int64.ofInt (f k)) j.toNat (Int64.ofInt x) := by
  funext k
  unfold q_u vp_updL
  by_cases e : (k : Int) = j
  · rw [if_pos e, if_pos (by omega)]
  · rw [if_neg e, if_neg (by omega)]
theorem q_01 {x : Int} (h0 : 0 ≤ x) (h1 : x ≤ 1) : x = 0 ∨ x = 1 := by omega
theorem q_narZ {x : Int} (h0 : 0 ≤ x) (h1 : x ≤ 1) : narrow .boolean (.int (Int32.ofInt x)) = .int (Int32.ofInt x) ∧ fits .boolean (.int (Int32.ofInt x)) = true ∧ vp_nar .boolean (Int32.ofInt x) = Int32.ofInt x := by
  rcases q_01 h0 h1 with rfl | rfl
  · exact ⟨rfl, by decide +kernel, rfl⟩
  · exact ⟨rfl, by decide +kernel, rfl⟩
/-- a cell's contents change -/
theorem q_wd_up {r : Nat} {j x : Int} {t n : Nat} {rs : List (Option Nat)} {e : va_E} {H1 : Heap} {locs1 : List Loc} (Wd : q_Wd D cI cZ cJ A H0 ad S z H locs) (hS : S[r]? = some (t, n, rs)) (he : q_e1 cI cZ cJ ad (t, n, rs) (q_u (z r) j x) = e)
    (h2 : t = 2 → q_r64 x) (h3 : t ≠ 2 → q_r32 x) (hP : va_P D q_cl ((q_ws cI cZ cJ ad S z).set r (ad r, e)) H1) (hD : va_D A ((q_ws cI cZ cJ ad S z).set r (ad r, e))) (hS1 : va_S A H0 H1 locs1) : q_Wd D cI cZ cJ A H0 ad S (q_up z r j x) H1 locs1 := by
  have e1 : q_ws cI cZ cJ ad S (q_up z r j x) = (q_ws cI cZ cJ ad S z).set r (ad r, e) := q_ws_set rfl (q_lt_of hS) (fun q hq => ⟨rfl, q_up_other hq⟩) (fun sh' hs => by
    rw [hS] at hs
    cases hs
    rw [q_up_same]
    exact he)
  refine ⟨by rw [e1]; exact hP, by rw [e1]; exact hD, hS1, q_rg_up Wd.2.2.2.1 (fun h => h2 ?_) (fun h => h3 ?_), Wd.2.2.2.2⟩
  · rw [q_tag_of hS] at h; exact Option.some.inj h
  · intro q; exact h (by rw [q_tag_of hS]; exact congrArg some q)
theorem q_tyI (cI cZ cJ : ClassId) : (q_tys cI cZ cJ)[0]? = some (cI, .int) := rfl
theorem q_tyZ (cI cZ cJ : ClassId) : (q_tys cI cZ cJ)[1]? = some (cZ, .boolean) := rfl
theorem q_tyJ (cI cZ cJ : ClassId) : (q_tys cI cZ cJ)[2]? = some (cJ, .long) := rfl
set_option maxHeartbeats 4000000 in
theorem q_arr_ok (C0 : q_Cx D cI cZ cJ M p R s m args meth c A H0 b xl xs) (hd : decode (q_b M) pc = .ok (i, len)) (hk : q_chk2 M pc len i v a ws = true) (Wd : q_Wd D cI cZ cJ A H0 ad S z H locs) (F : q_Fr ad b M ls lp st S kc ks)
    (hi : i = .iaload ∨ i = .baload ∨ i = .laload ∨ i = .iastore ∨ i = .bastore ∨ i = .lastore ∨ i = .arraylength)
    (h : q_sim3 (M = 0) xl (fun j => (xs j).toInt) (q_rm M).2.2.1 (q_rm M).2.2.2 i a lp st S z kc ks = some (P, lp', st', S', z', kc', ks')) (hp : P) (K : q_KK D cI cZ cJ M p l e R s m args below meth c Qm A H0 b ad S (pc + len) lp' st' S' z' kc' ks') :
    W p l e R s m args below meth c H locs kc ks Qm (F0 m pc ls (st.map (q_mv ad b))) := by
  obtain ⟨hx, hb, hml, hown, hts, hN, hK, hini, hR, hA, hX⟩ := C0
  have hrg := Wd.2.2.2.1
  rcases hi with rfl | rfl | rfl | rfl | rfl | rfl | rfl
  · obtain rfl : len = 1 := by simpa [q_chk2] using hk
    match st, h with
    | .inl j :: .inr (.inr (.inl (some r))) :: w, h =>
      cases h
      obtain ⟨ht, h0, h1⟩ := hp
      obtain ⟨n, rs, hS⟩ := q_tag_get ht
      rw [q_len_of hS] at h1
      have hj : q_r32 j := (q_pop F).2
      refine va_iald hx hb hK Wd.1 r 0 ((q_ws_get hS).trans (by rw [q_e1_0])) rfl (q_in hj h0 h1) hd ?_
      have := q_kk0 K Wd (q_push (v := .inl (z r j)) (q_pop (q_pop F).1).1 ((hrg r j).2 (by rw [ht]; decide)))
      simp only [q_cn hj, Int.toNat_of_nonneg h0]
      exact this
    | .inl j :: .inr (.inr (.inr u)) :: w, h =>
      cases h
      obtain ⟨hM, h0, h1⟩ := hp
      obtain ⟨hXX, hbl, hbA, hxl⟩ := hX.1 hM
      have hj : q_r32 j := (q_pop F).2
      refine va_sld hx hb hXX hbl hbA Wd.2.2.1 (q_in hj h0 h1) hd ?_
      have := q_kk0 K Wd (q_push (v := .inl (xs j.toNat).toInt) (q_pop (q_pop F).1).1 (q_r32_of _))
      simp only [List.map_cons, q_mv, q_ofi] at this
      simp only [q_cn hj]
      exact this
  · obtain rfl : len = 1 := by simpa [q_chk2] using hk
    match st, h with
    | .inl j :: .inr (.inr (.inl (some r))) :: w, h =>
      cases h
      obtain ⟨ht, h0, h1⟩ := hp
      obtain ⟨n, rs, hS⟩ := q_tag_get ht
      rw [q_len_of hS] at h1
      have hj : q_r32 j := (q_pop F).2
      refine va_zald hx hb hK Wd.1 r 1 ((q_ws_get hS).trans (by rw [q_e1_1])) rfl (q_in hj h0 h1) hd ?_
      have := q_kk0 K Wd (q_push (v := .inl (z r j)) (q_pop (q_pop F).1).1 ((hrg r j).2 (by rw [ht]; decide)))
      simp only [q_cn hj, Int.toNat_of_nonneg h0]
      exact this
  · obtain rfl : len = 1 := by simpa [q_chk2] using hk
    match st, h with
    | .inl j :: .inr (.inr (.inl (some r))) :: w, h =>
      cases h
      obtain ⟨ht, h0, h1⟩ := hp
      obtain ⟨n, rs, hS⟩ := q_tag_get ht
      rw [q_len_of hS] at h1
      have hj : q_r32 j := (q_pop F).2
      refine va_lald hx hb hK Wd.1 r 2 ((q_ws_get hS).trans (by rw [q_e1_2])) rfl (q_in hj h0 h1) hd ?_
      have := q_kk0 K Wd (q_push (v := .inr (.inl (z r j))) (q_pop (q_pop F).1).1 ((hrg r j).1 ht))
      simp only [q_cn hj, Int.toNat_of_nonneg h0]
      exact this
  · obtain rfl : len = 1 := by simpa [q_chk2] using hk
    match st, h with
    | .inl x :: .inl j :: .inr (.inr (.inl (some r))) :: w, h =>
      cases h
      obtain ⟨ht, h0, h1⟩ := hp
      obtain ⟨n, rs, hS⟩ := q_tag_get ht
      rw [q_len_of hS] at h1
      have hxr : q_r32 x := (q_pop F).2
      have hj : q_r32 j := (q_pop (q_pop F).1).2
      refine va_iast hx hb hK Wd.1 Wd.2.1 Wd.2.2.1 r 0 ((q_ws_get hS).trans (by rw [q_e1_0])) rfl (q_in hj h0 h1) hd (fun H1 locs1 hP1 hD1 hS1 => ?_)
      exact K ad ls H1 locs1 (Nat.le_refl _) (fun _ _ => rfl) (q_wd_up Wd hS (by rw [q_e1_0, q_updI h0, q_cn hj]) (fun h => by cases h) (fun _ => hxr) hP1 hD1 hS1) (q_pop (q_pop (q_pop F).1).1).1
  · obtain rfl : len = 1 := by simpa [q_chk2] using hk
    match st, h with
    | .inl x :: .inl j :: .inr (.inr (.inl (some r))) :: w, h =>
      cases h
      obtain ⟨ht, h0, h1, hx0, hx1⟩ := hp
      obtain ⟨n, rs, hS⟩ := q_tag_get ht
      rw [q_len_of hS] at h1
      have hxr : q_r32 x := (q_pop F).2
      have hj : q_r32 j := (q_pop (q_pop F).1).2
      refine va_zast hx hb hK Wd.1 Wd.2.1 Wd.2.2.1 r 1 ((q_ws_get hS).trans (by rw [q_e1_1])) rfl (q_in hj h0 h1) hd (fun H1 locs1 hP1 hD1 hS1 => ?_)
      exact K ad ls H1 locs1 (Nat.le_refl _) (fun _ _ => rfl) (q_wd_up Wd hS (by rw [q_e1_1, q_updI h0, q_cn hj, (q_narZ hx0 hx1).2.2]) (fun h => by cases h) (fun _ => hxr) hP1 hD1 hS1) (q_pop (q_pop (q_pop F).1).1).1
  · obtain rfl : len = 1 := by simpa [q_chk2] using hk
    match st, h with
    | .inr (.inl x) :: .inl j :: .inr (.inr (.inl (some r))) :: w, h =>
      cases h
      obtain ⟨ht, h0, h1⟩ := hp
      obtain ⟨n, rs, hS⟩ := q_tag_get ht
      rw [q_len_of hS] at h1
      have hxr : q_r64 x := (q_pop F).2
      have hj : q_r32 j := (q_pop (q_pop F).1).2
      refine va_last hx hb hK Wd.1 Wd.2.1 Wd.2.2.1 r 2 ((q_ws_get hS).trans (by rw [q_e1_2])) rfl (q_in hj h0 h1) hd (fun H1 locs1 hP1 hD1 hS1 => ?_)
      exact K ad ls H1 locs1 (Nat.le_refl _) (fun _ _ => rfl) (q_wd_up Wd hS (by rw [q_e1_2, q_updL h0, q_cn hj]) (fun _ => hxr) (fun h => absurd rfl h) hP1 hD1 hS1) (q_pop (q_pop (q_pop F).1).1).1
  · obtain rfl : len = 1 := by simpa [q_chk2] using hk
    match st, h with
    | .inr (.inr (.inl (some r))) :: w, h =>
      cases h
      obtain ⟨⟨t, ht3, ht⟩, hlen⟩ := hp
      obtain ⟨n, rs, hS⟩ := q_tag_get ht
      rw [q_len_of hS] at hlen
      have kk := q_kk0 K Wd (q_push (v := .inl ((q_len S r : Nat) : Int)) (q_pop F).1 (by rw [q_len_of hS]; exact ⟨by omega, by omega⟩))
      simp only [List.map_cons, q_mv, q_len_of hS] at kk
      rcases (show t = 0 ∨ t = 1 ∨ t = 2 by omega) with rfl | rfl | rfl
      · exact va_alen hx hb hK Wd.1 r 0 ((q_ws_get hS).trans (by rw [q_e1_0])) rfl (v := Int32.ofInt (n : Int)) Int32.ofInt_eq_ofNat.symm hd kk
      · exact va_alen hx hb hK Wd.1 r 1 ((q_ws_get hS).trans (by rw [q_e1_1])) rfl (v := Int32.ofInt (n : Int)) Int32.ofInt_eq_ofNat.symm hd kk
      · exact va_alen hx hb hK Wd.1 r 2 ((q_ws_get hS).trans (by rw [q_e1_2])) rfl (v := Int32.ofInt (n : Int)) Int32.ofInt_eq_ofNat.symm hd kk
    | .inr (.inr (.inr u)) :: w, h =>
      cases h
      obtain ⟨hXX, hbl, hbA, hxl⟩ := hX.1 hp
      refine va_slen hx hb hXX hbl hbA Wd.2.2.1 hd ?_
      have := q_kk0 K Wd (q_push (v := .inl (xl : Int)) (q_pop F).1 ⟨by omega, by omega⟩)
      rw [← Int32.ofInt_eq_ofNat]
      exact this
set_option maxHeartbeats 4000000 in
theorem q_fld_ok (C0 : q_Cx D cI cZ cJ M p R s m args meth c A H0 b xl xs) (hd : decode (q_b M) pc = .ok (i, len)) (hk : q_chk2 M pc len i v a ws = true) (Wd : q_Wd D cI cZ cJ A H0 ad S z H locs) (F : q_Fr ad b M ls lp st S kc ks)
    (hi : (∃ n, i = .getfield n) ∨ ∃ n, i = .putfield n)
    (h : q_sim3 (M = 0) xl (fun j => (xs j).toInt) (q_rm M).2.2.1 (q_rm M).2.2.2 i a lp st S z kc ks = some (P, lp', st', S', z', kc', ks')) (hp : P) (K : q_KK D cI cZ cJ M p l e R s m args below meth c Qm A H0 b ad S (pc + len) lp' st' S' z' kc' ks') :
    W p l e R s m args below meth c H locs kc ks Qm (F0 m pc ls (st.map (q_mv ad b))) := by
  obtain ⟨hx, hb, hml, hown, hts, hN, hK, hini, hR, hA, hX⟩ := C0
  have hrg := Wd.2.2.2.1
  have hwf := Wd.2.2.2.2
  rcases hi with ⟨n, rfl⟩ | ⟨n, rfl⟩
  · simp only [q_chk2, Bool.and_eq_true, beq_iff_eq, decide_eq_true_eq] at hk
    obtain ⟨⟨⟨⟨⟨rfl, h1⟩, h2⟩, h3⟩, h4⟩, h5⟩ := hk
    match st, h with
    | .inr (.inr (.inl (some r))) :: w, h =>
      simp only [q_sim3] at h
      by_cases hκ : q_a a 2 = 1
      · rw [if_pos hκ] at h
        cases h
        obtain ⟨ht, hne⟩ := hp
        obtain ⟨N, rs, hS⟩ := q_tag_get ht
        obtain ⟨h6, h7, h8⟩ : _ ∧ N = q_N (q_a a 0) ∧ rs.length = N := (hwf r _ hS).1 (q_a a 0) (Nat.add_comm 3 _)
        rw [q_ref_of hS] at hne
        have hv := q_fs_get (ad := ad) (k := q_a a 0) (sh := (3 + q_a a 0, N, rs)) (f := z r) (j := q_a a 1) (by show _ < N; rw [h7]; exact h3)
        rw [if_pos (by rw [← h4]; exact hκ)] at hv
        refine va_get hx hb hts (q_cf_in h2) hown hK Wd.1 r ((q_ws_get hS).trans (by rw [q_e1_3])) (q_cl_get h2) (q_a a 1) h3 (hts _ (q_has_mem h1)) (fun x hx9 => by rw [h5] at hx9; exact hx9) hv hd ?_
        cases hq : rs.getD (q_a a 1) none with
        | none => exact absurd hq hne
        | some q =>
          have hlt : q < S.length := (hwf r _ hS).2.2 _ _ hq
          have := q_kk0 K Wd (q_push (v := .inr (.inr (.inl (q_ref S r (q_a a 1))))) (q_pop F).1 (by rw [q_ref_of hS]; show q_ok _ (.inr (.inr (.inl (rs.getD (q_a a 1) none)))); rw [hq]; exact hlt))
          rw [q_ref_of hS] at this
          simp only [hq] at this
          exact this
      · rw [if_neg hκ] at h
        cases h
        have ht := hp
        obtain ⟨N, rs, hS⟩ := q_tag_get ht
        obtain ⟨h6, h7, h8⟩ : _ ∧ N = q_N (q_a a 0) ∧ rs.length = N := (hwf r _ hS).1 (q_a a 0) (Nat.add_comm 3 _)
        have hv := q_fs_get (ad := ad) (k := q_a a 0) (sh := (3 + q_a a 0, N, rs)) (f := z r) (j := q_a a 1) (by show _ < N; rw [h7]; exact h3)
        rw [if_neg (by rw [← h4]; exact hκ)] at hv
        exact va_get hx hb hts (q_cf_in h2) hown hK Wd.1 r ((q_ws_get hS).trans (by rw [q_e1_3])) (q_cl_get h2) (q_a a 1) h3 (hts _ (q_has_mem h1)) (fun x hx9 => by rw [h5] at hx9; exact hx9) hv hd
          (q_kk0 K Wd (q_push (v := .inl (z r (q_a a 1))) (q_pop F).1 ((hrg r _).2 (by rw [ht]; intro q; have := Option.some.inj q; omega))))
  · simp only [q_chk2, Bool.and_eq_true, Bool.or_eq_true, beq_iff_eq, decide_eq_true_eq] at hk
    obtain ⟨⟨⟨⟨⟨⟨rfl, h1⟩, h2⟩, h3⟩, h4⟩, h5⟩, h9⟩ := hk
    have hcf := q_cf h2 h3
    match st, h with
    | .inl x :: .inr (.inr (.inl (some r))) :: w, h =>
      simp only [q_sim3] at h
      by_cases hκ : q_a a 2 = 1
      · rw [if_pos hκ] at h; cases h
      · rw [if_neg hκ] at h
        cases h
        obtain ⟨ht, hkd⟩ := hp
        obtain ⟨N, rs, hS⟩ := q_tag_get ht
        obtain ⟨h6, h7, h8⟩ : _ ∧ N = q_N (q_a a 0) ∧ rs.length = N := (hwf r _ hS).1 (q_a a 0) (Nat.add_comm 3 _)
        have hxr : q_r32 x := (q_pop F).2
        have hnf : narrow (q_ty (q_a a 0) (q_a a 1)) (.int (Int32.ofInt x)) = .int (Int32.ofInt x) ∧ fits (q_ty (q_a a 0) (q_a a 1)) (.int (Int32.ofInt x)) = true := by
          rcases hcf.2.2.2.1 with ⟨-, q⟩ | ⟨q0, q⟩ | ⟨q0, -⟩
          · rw [q]; exact ⟨rfl, rfl⟩
          · rw [q]
            rw [← h4] at q0
            unfold q_kind at hkd
            rw [if_pos q0] at hkd
            exact ⟨(q_narZ hkd.1 hkd.2).1, (q_narZ hkd.1 hkd.2).2.1⟩
          · rw [← h4] at q0; exact absurd q0 hκ
        have hfin : ∀ (H1 : Heap) (locs1 : List Loc), va_P D q_cl ((q_ws cI cZ cJ ad S z).set r (ad r, .inr (q_a a 0, (q_fs ad (q_a a 0) (3 + q_a a 0, N, rs) (z r)).set (q_a a 1) (.int (Int32.ofInt x))))) H1 →
            va_D A ((q_ws cI cZ cJ ad S z).set r (ad r, .inr (q_a a 0, (q_fs ad (q_a a 0) (3 + q_a a 0, N, rs) (z r)).set (q_a a 1) (.int (Int32.ofInt x))))) → va_S A H0 H1 locs1 → W p l e R s m args below meth c H1 locs1 kc ks Qm (F0 m (pc + 3) ls (st'.map (q_mv ad b))) := fun H1 locs1 hP1 hD1 hS1 =>
          K ad ls H1 locs1 (Nat.le_refl _) (fun _ _ => rfl) (q_wd_up Wd hS (by rw [q_e1_3, q_fs_set (by rw [← h4]; exact hκ)]) (fun h => by omega) (fun _ => hxr) hP1 hD1 hS1) (q_pop (q_pop F).1).1
        rcases h9 with h9 | ⟨h9, h10⟩
        · exact va_put hx hb hts (q_cf_in h2) (q_ty (q_a a 0)) (q_cf_ty h2) (q_cf_nm h2) hown hK Wd.1 Wd.2.1 Wd.2.2.1 r ((q_ws_get hS).trans (by rw [q_e1_3])) (q_cl_get h2) (q_a a 1) h3 (hts _ (q_has_mem h1)) (fun x hx9 => by rw [h5] at hx9; exact hx9) h9 hcf.2.2.1 hnf.1 hnf.2 (by rw [q_fs_len]; show _ < N; rw [h7]; exact h3) hd hfin
        · by_cases hf : (q_T (q_a a 0) (q_a a 1)).2.2.2 = false
          · exact va_put hx hb hts (q_cf_in h2) (q_ty (q_a a 0)) (q_cf_ty h2) (q_cf_nm h2) hown hK Wd.1 Wd.2.1 Wd.2.2.1 r ((q_ws_get hS).trans (by rw [q_e1_3])) (q_cl_get h2) (q_a a 1) h3 (hts _ (q_has_mem h1)) (fun x hx9 => by rw [h5] at hx9; exact hx9) hf hcf.2.2.1 hnf.1 hnf.2 (by rw [q_fs_len]; show _ < N; rw [h7]; exact h3) hd hfin
          · exact va_putF hx hb hts (q_cf_in h2) (q_ty (q_a a 0)) (q_cf_ty h2) (q_cf_nm h2) hown hK Wd.1 Wd.2.1 Wd.2.2.1 r ((q_ws_get hS).trans (by rw [q_e1_3])) (q_cl_get h2) (q_a a 1) h3 (hts _ (q_has_mem h1)) (fun x hx9 => by rw [h5] at hx9; exact hx9) (by simpa using hf) (hini h9) (by rw [h5, h10]) hcf.2.2.1 hnf.1 hnf.2 (by rw [q_fs_len]; show _ < N; rw [h7]; exact h3) hd hfin
    | .inr (.inr (.inl u)) :: .inr (.inr (.inl (some r))) :: w, h =>
      simp only [q_sim3] at h
      by_cases hκ : q_a a 2 = 1
      · rw [if_pos hκ] at h
        cases h
        have ht := hp
        obtain ⟨N, rs, hS⟩ := q_tag_get ht
        obtain ⟨h6, h7, h8⟩ : _ ∧ N = q_N (q_a a 0) ∧ rs.length = N := (hwf r _ hS).1 (q_a a 0) (Nat.add_comm 3 _)
        have hj : q_a a 1 < rs.length := by rw [h8, h7]; exact h3
        have ev : q_mv ad b (.inr (.inr (.inl u))) = va_rf (u.map ad) := by cases u <;> rfl
        have hku : (q_kd.getD (q_a a 0) []).getD (q_a a 1) 0 = 1 := by rw [← h4]; exact hκ
        have hu : ∀ q, u = some q → q < S.length := fun q hq => by subst hq; exact (q_pop F).2
        have hnf : narrow (q_ty (q_a a 0) (q_a a 1)) (va_rf (u.map ad)) = va_rf (u.map ad) ∧ fits (q_ty (q_a a 0) (q_a a 1)) (va_rf (u.map ad)) = true := by
          rcases hcf.2.2.2.1 with ⟨q, -⟩ | ⟨q, -⟩ | ⟨-, ⟨n, q⟩ | ⟨t, q⟩⟩
          · omega
          · omega
          · rw [q]; cases u <;> exact ⟨rfl, rfl⟩
          · rw [q]; cases u <;> exact ⟨rfl, rfl⟩
        have hpr : q_pr S r (q_a a 1) u = S.set r (3 + q_a a 0, N, rs.set (q_a a 1) u) := by unfold q_pr; rw [hS]
        have hrl := q_lt_of hS
        have htag : ∀ q, q_tag (q_pr S r (q_a a 1) u) q = q_tag S q := by
          intro q
          rw [hpr]
          by_cases e : q = r
          · subst e
            rw [ht]
            unfold q_tag
            rw [List.getElem?_set_self hrl]
          · unfold q_tag
            rw [List.getElem?_set_ne (fun w => e w.symm)]
        have hfin : ∀ (H1 : Heap) (locs1 : List Loc), va_P D q_cl ((q_ws cI cZ cJ ad S z).set r (ad r, .inr (q_a a 0, (q_fs ad (q_a a 0) (3 + q_a a 0, N, rs) (z r)).set (q_a a 1) (va_rf (u.map ad))))) H1 →
            va_D A ((q_ws cI cZ cJ ad S z).set r (ad r, .inr (q_a a 0, (q_fs ad (q_a a 0) (3 + q_a a 0, N, rs) (z r)).set (q_a a 1) (va_rf (u.map ad))))) → va_S A H0 H1 locs1 → W p l e R s m args below meth c H1 locs1 kc ks Qm (F0 m (pc + 3) ls (st'.map (q_mv ad b))) := by
          intro H1 locs1 hP1 hD1 hS1
          have e1 : q_ws cI cZ cJ ad (q_pr S r (q_a a 1) u) z = (q_ws cI cZ cJ ad S z).set r (ad r, .inr (q_a a 0, (q_fs ad (q_a a 0) (3 + q_a a 0, N, rs) (z r)).set (q_a a 1) (va_rf (u.map ad)))) := by
            rw [hpr]
            refine q_ws_set (by simp) hrl (fun q hq => ⟨by rw [List.getElem?_set_ne (fun w => hq w.symm)], rfl⟩) (fun sh' hs => ?_)
            rw [List.getElem?_set_self hrl] at hs
            cases hs
            rw [q_e1_3, q_fs_setr hku hj]
          have hlen : (q_pr S r (q_a a 1) u).length = S.length := by rw [hpr]; simp
          have hF' := (q_pop (q_pop F).1).1
          refine K ad ls H1 locs1 (by rw [hlen]; exact Nat.le_refl _) (fun _ _ => rfl) ⟨by rw [e1]; exact hP1, by rw [e1]; exact hD1, hS1, fun q j => by rw [htag]; exact hrg q j, fun q sh' hs => ?_⟩ ⟨hF'.1, fun i v hv => by rw [hlen]; exact hF'.2.1 i v hv, fun v hv => by rw [hlen]; exact hF'.2.2.1 v hv, hF'.2.2.2⟩
          rw [hlen]
          rw [hpr] at hs
          by_cases e : q = r
          · subst e
            rw [List.getElem?_set_self hrl] at hs
            cases hs
            refine ⟨fun k hk => ?_, (hwf q _ hS).2.1, fun k x hx => ?_⟩
            · have := (hwf q _ hS).1 k hk
              exact ⟨this.1, this.2.1, by simpa using this.2.2⟩
            · by_cases e2 : k = q_a a 1
              · subst e2
                simp [List.getD_eq_getElem?_getD, hj] at hx
                exact hu x hx
              · exact (hwf q _ hS).2.2 k x (by simpa [List.getD_eq_getElem?_getD, List.getElem?_set, Ne.symm e2] using hx)
          · rw [List.getElem?_set_ne (fun w => e w.symm)] at hs
            exact hwf q sh' hs
        show W p l e R s m args below meth c H locs kc ks Qm (F0 m pc ls (q_mv ad b (.inr (.inr (.inl u))) :: .ref (ad r) :: st'.map (q_mv ad b)))
        rw [ev]
        rcases h9 with h9 | ⟨h9, h10⟩
        · exact va_put hx hb hts (q_cf_in h2) (q_ty (q_a a 0)) (q_cf_ty h2) (q_cf_nm h2) hown hK Wd.1 Wd.2.1 Wd.2.2.1 r ((q_ws_get hS).trans (by rw [q_e1_3])) (q_cl_get h2) (q_a a 1) h3 (hts _ (q_has_mem h1)) (fun x hx9 => by rw [h5] at hx9; exact hx9) h9 hcf.2.2.1 hnf.1 hnf.2 (by rw [q_fs_len]; show _ < N; rw [h7]; exact h3) hd hfin
        · by_cases hf : (q_T (q_a a 0) (q_a a 1)).2.2.2 = false
          · exact va_put hx hb hts (q_cf_in h2) (q_ty (q_a a 0)) (q_cf_ty h2) (q_cf_nm h2) hown hK Wd.1 Wd.2.1 Wd.2.2.1 r ((q_ws_get hS).trans (by rw [q_e1_3])) (q_cl_get h2) (q_a a 1) h3 (hts _ (q_has_mem h1)) (fun x hx9 => by rw [h5] at hx9; exact hx9) hf hcf.2.2.1 hnf.1 hnf.2 (by rw [q_fs_len]; show _ < N; rw [h7]; exact h3) hd hfin
          · exact va_putF hx hb hts (q_cf_in h2) (q_ty (q_a a 0)) (q_cf_ty h2) (q_cf_nm h2) hown hK Wd.1 Wd.2.1 Wd.2.2.1 r ((q_ws_get hS).trans (by rw [q_e1_3])) (q_cl_get h2) (q_a a 1) h3 (hts _ (q_has_mem h1)) (fun x hx9 => by rw [h5] at hx9; exact hx9) (by simpa using hf) (hini h9) (by rw [h5, h10]) hcf.2.2.1 hnf.1 hnf.2 (by rw [q_fs_len]; show _ < N; rw [h7]; exact h3) hd hfin
      · rw [if_neg hκ] at h; cases h
end QSim3
