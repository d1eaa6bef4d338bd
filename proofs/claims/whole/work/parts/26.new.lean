/-! Making objects and arrays. -/
section QNew
variable {D : va_G} {cI cZ cJ : ClassId} {M : Nat} {p : Program} {l : Launch} {e : Env} {R : Room} {s : State} {m : MethodId} {args : Array Value} {below : List Frame} {meth : Method} {c : Code} {Qm : State → Prop} {A : Nat → Prop} {H0 H : Heap} {locs : List Loc} {b xl : Nat} {xs : Nat → Int32} {ad : Nat → Nat} {ls : Array Slot} {lp lp' : List (Option qV)} {st st' : List qV} {S S' : qS} {z z' : qM} {kc ks kc' ks' pc len : Nat} {i : Instr} {v : Int} {a ws : List Nat} {P : Prop}
/-- the world with a cell more -/
theorem q_grow {sh : Nat × Nat × List (Option Nat)} {q : Nat} {H1 : Heap} {kc1 ks1 : Nat} (Wd : q_Wd D cI cZ cJ A H0 ad S z H locs) (F : q_Fr ad b M ls lp st S kc ks)
    (h1 : ∀ k, sh.1 = k + 3 → k < q_ft.length ∧ sh.2.1 = q_N k ∧ sh.2.2.length = sh.2.1) (hn : sh.2.1 < 2147483648) (h2 : ∀ k x, sh.2.2.getD k none = some x → x < S.length)
    (hP : va_P D q_cl (q_ws cI cZ cJ ad S z ++ [(q, q_e1 cI cZ cJ ad sh (fun _ => 0))]) H1) (hD : va_D A (q_ws cI cZ cJ ad S z ++ [(q, q_e1 cI cZ cJ ad sh (fun _ => 0))])) (hS : va_S A H0 H1 locs)
    (hc : kc1 ≤ (q_rm M).2.2.1) (hs : ks1 ≤ (q_rm M).2.2.2)
    (K : q_KK D cI cZ cJ M p l e R s m args below meth c Qm A H0 b ad S pc lp (.inr (.inr (.inl (some S.length))) :: st) (S ++ [sh]) (q_z z S.length) kc1 ks1) :
    W p l e R s m args below meth c H1 locs kc1 ks1 Qm (F0 m pc ls (.ref q :: st.map (q_mv ad b))) := by
  have hag : ∀ r, r < S.length → (fun r => if r = S.length then q else ad r) r = ad r := fun r hr => by
    show (if r = S.length then q else ad r) = ad r
    rw [if_neg (by omega)]
  have hlen : S.length ≤ (S ++ [sh]).length := by simp
  have hw := q_ws_push (cI := cI) (cZ := cZ) (cJ := cJ) (ad := ad) (z := z) (a := q) Wd.2.2.2.2 h2
  have kk := K (fun r => if r = S.length then q else ad r) ls H1 locs hlen hag ⟨by rw [hw]; exact hP, by rw [hw]; exact hD, hS, q_rg_push Wd.2.2.2.1, q_wf_push Wd.2.2.2.2 h1 hn h2⟩
    ⟨F.1.moved hag F.2.1, fun i v hv => q_ok_mono hlen (F.2.1 i v hv), fun v hv => by
      rcases List.mem_cons.mp hv with rfl | hv
      · show S.length < (S ++ [sh]).length
        simp
      · exact q_ok_mono hlen (F.2.2.1 v hv), hc, hs⟩
  rw [List.map_cons, q_mv_list hag F.2.2.1] at kk
  simp only [q_mv, if_true] at kk
  exact kk
theorem q_rep {n k x : Nat} (h : (List.replicate n (none : Option Nat)).getD k none = some x) : False := by
  simp only [List.getD_eq_getElem?_getD, List.getElem?_replicate] at h
  split at h <;> cases h
set_option maxHeartbeats 4000000 in
theorem q_new_ok (C0 : q_Cx D cI cZ cJ M p R s m args meth c A H0 b xl xs) {n : Nat} (hd : decode (q_b M) pc = .ok (.new n, len)) (hk : q_chk2 M pc len (.new n) v a ws = true) (h1 : ¬ q_a a 2 = 1) (Wd : q_Wd D cI cZ cJ A H0 ad S z H locs) (F : q_Fr ad b M ls lp st S kc ks)
    (h : q_sim3 (M = 0) xl (fun j => (xs j).toInt) (q_rm M).2.2.1 (q_rm M).2.2.2 (.new n) a lp st S z kc ks = some (P, lp', st', S', z', kc', ks')) (hp : P) (K : q_KK D cI cZ cJ M p l e R s m args below meth c Qm A H0 b ad S (pc + len) lp' st' S' z' kc' ks') :
    W p l e R s m args below meth c H locs kc ks Qm (F0 m pc ls (st.map (q_mv ad b))) := by
  obtain ⟨hx, hb, hml, hown, hts, hN, hK, hini, hR, hA, hX⟩ := C0
  simp only [q_chk2, Bool.and_eq_true, Bool.or_eq_true, beq_iff_eq, decide_eq_true_eq] at hk
  obtain ⟨rfl, hk⟩ := hk
  rcases hk with hk | ⟨⟨⟨⟨⟨h2, h3⟩, h4⟩, h5⟩, h6⟩, h7⟩
  · exact absurd hk h1
  · cases h
    obtain ⟨hp1, hp2⟩ := hp
    have hlt : q_N (q_a a 0) < 2147483648 := by
      have hall : ((List.range q_ft.length).all fun k => decide (q_N k < 2147483648)) = true := by decide +kernel
      exact of_decide_eq_true (List.all_eq_true.mp hall (q_a a 0) (List.mem_range.mpr h2))
    rw [h3] at hp2
    refine va_new (fs := q_fs ad (q_a a 0) (3 + q_a a 0, q_N (q_a a 0), List.replicate (q_N (q_a a 0)) none) (fun _ => 0)) hx hb hts (q_cf_in h2) (q_ty (q_a a 0)) (q_cf_ty h2) hown (hts _ (q_has_mem h5)) (hts _ (q_has_mem h6)) (hts _ (q_has_mem h7)) hK Wd.1 Wd.2.1 Wd.2.2.1 hA (q_cl_get h2)
      (fun j hj => ?_) (by have := hR.2.2.1; omega) (by have := hR.2.2.2; omega) hd (fun q H1 hP1 hD1 hS1 => ?_)
    · unfold vp_V
      rw [List.getD_eq_getElem?_getD, q_fs_get (sh := (3 + q_a a 0, q_N (q_a a 0), List.replicate (q_N (q_a a 0)) none)) hj, Option.getD_some]
      rcases (q_cf h2 hj).2.2.2.1 with ⟨k0, q⟩ | ⟨k0, q⟩ | ⟨k0, ⟨n, q⟩ | ⟨t, q⟩⟩
      · rw [q, if_neg (by omega)]; rfl
      · rw [q, if_neg (by omega)]; rfl
      · rw [q, if_pos k0]
        cases hq : (List.replicate (q_N (q_a a 0)) (none : Option Nat)).getD j none with
        | none => rfl
        | some x => exact (q_rep hq).elim
      · rw [q, if_pos k0]
        cases hq : (List.replicate (q_N (q_a a 0)) (none : Option Nat)).getD j none with
        | none => rfl
        | some x => exact (q_rep hq).elim
    · rw [h3] at K
      exact q_grow (sh := (3 + q_a a 0, q_N (q_a a 0), List.replicate (q_N (q_a a 0)) none)) Wd F (fun k hk => by
          have e9 : k = q_a a 0 := by have : 3 + q_a a 0 = k + 3 := hk; omega
          subst e9
          exact ⟨h2, rfl, by simp⟩) hlt (fun k x hx => (q_rep hx).elim) (by rw [q_e1_3]; exact hP1) (by rw [q_e1_3]; exact hD1) hS1 hp1 hp2 K
theorem q_cA {cA c0 : ClassId} {ty : FieldType} {k : Nat} (hK : va_K D q_cl (q_tys cI cZ cJ ++ [(cA, ty)]) s) (hk : k < 3) (hc : (q_tys cI cZ cJ)[k]? = some (c0, ty)) (hty : ty = .int ∨ ty = .boolean ∨ ty = .long) : cA = c0 := by
  have h1 := (hK.2 3 (cA, ty) rfl).2
  have h2 := (hK.2 k (c0, ty) (by rw [List.getElem?_append_left (by exact hk)]; exact hc)).2
  rcases hty with rfl | rfl | rfl
  · exact Option.some.inj (h1.symm.trans h2)
  · exact Option.some.inj (h1.symm.trans h2)
  · exact Option.some.inj (h1.symm.trans h2)
set_option maxHeartbeats 4000000 in
theorem q_newa_ok (C0 : q_Cx D cI cZ cJ M p R s m args meth c A H0 b xl xs) {t : ArrayType} (hd : decode (q_b M) pc = .ok (.newarray t, len)) (hk : q_chk2 M pc len (.newarray t) v a ws = true) (Wd : q_Wd D cI cZ cJ A H0 ad S z H locs) (F : q_Fr ad b M ls lp st S kc ks)
    (h : q_sim3 (M = 0) xl (fun j => (xs j).toInt) (q_rm M).2.2.1 (q_rm M).2.2.2 (.newarray t) a lp st S z kc ks = some (P, lp', st', S', z', kc', ks')) (hp : P) (K : q_KK D cI cZ cJ M p l e R s m args below meth c Qm A H0 b ad S (pc + len) lp' st' S' z' kc' ks') :
    W p l e R s m args below meth c H locs kc ks Qm (F0 m pc ls (st.map (q_mv ad b))) := by
  obtain ⟨hx, hb, hml, hown, hts, hN, hK, hini, hR, hA, hX⟩ := C0
  simp only [q_chk2, Bool.and_eq_true, beq_iff_eq] at hk
  obtain ⟨rfl, hk⟩ := hk
  match st, h with
  | .inl n :: w, h =>
    cases h
    obtain ⟨hp0, hp1, hp2, hp3⟩ := hp
    have hn : q_r32 n := (q_pop F).2
    have hcn := q_cn hn
    have hneg : ¬ Int32.ofInt n < 0 := by
      rw [Int32.lt_iff_toInt_lt, q_t32 hn, Int32.toInt_zero]
      omega
    have hb60 : n.toNat ≤ 60000 := by omega
    cases t with
    | int =>
      simp only [Bool.and_eq_true, decide_eq_true_eq] at hk
      rw [hk.1] at K
      refine va_newa (a0 := (n.toNat, .inl (fun _ => Int32.ofInt 0))) (N' := n.toNat) (ty := .int) hx hb (hts _ (q_has_mem hk.2)) rfl hK Wd.1 Wd.2.1 Wd.2.2.1 hA (fun _ => rfl) hneg hcn (by show n.toNat * 4 ≤ _; omega) (by have := hR.2.2.1; omega) (by have := hR.2.2.2; omega) hd (fun q cA H1 hK1 hP1 hD1 hS1 => ?_)
      obtain rfl := q_cA hK1 (by decide) (q_tyI _ cZ cJ) (Or.inl rfl)
      exact q_grow (sh := (0, n.toNat, [])) Wd (q_pop F).1 (fun k hk => by cases hk) (by show n.toNat < _; omega) (fun k x hx => by cases hx) hP1 hD1 hS1 hp2 hp3 K
    | boolean =>
      simp only [Bool.and_eq_true, decide_eq_true_eq] at hk
      rw [hk.1] at K
      refine va_newa (a0 := (n.toNat, .inl (fun _ => Int32.ofInt 0))) (N' := n.toNat) (ty := .boolean) hx hb (hts _ (q_has_mem hk.2)) rfl hK Wd.1 Wd.2.1 Wd.2.2.1 hA (fun _ => rfl) hneg hcn (by show n.toNat * 1 ≤ _; omega) (by have := hR.2.2.1; omega) (by have := hR.2.2.2; omega) hd (fun q cA H1 hK1 hP1 hD1 hS1 => ?_)
      obtain rfl := q_cA hK1 (by decide) (q_tyZ cI _ cJ) (Or.inr (Or.inl rfl))
      exact q_grow (sh := (1, n.toNat, [])) Wd (q_pop F).1 (fun k hk => by cases hk) (by show n.toNat < _; omega) (fun k x hx => by cases hx) hP1 hD1 hS1 hp2 hp3 K
    | long =>
      simp only [Bool.and_eq_true, decide_eq_true_eq] at hk
      rw [hk.1] at K
      refine va_newa (a0 := (n.toNat, .inr (.inl (fun _ => Int64.ofInt 0)))) (N' := n.toNat) (ty := .long) hx hb (hts _ (q_has_mem hk.2)) rfl hK Wd.1 Wd.2.1 Wd.2.2.1 hA (fun _ => rfl) hneg hcn (by show n.toNat * 8 ≤ _; omega) (by have := hR.2.2.1; omega) (by have := hR.2.2.2; omega) hd (fun q cA H1 hK1 hP1 hD1 hS1 => ?_)
      obtain rfl := q_cA hK1 (by decide) (q_tyJ cI cZ _) (Or.inr (Or.inr rfl))
      exact q_grow (sh := (2, n.toNat, [])) Wd (q_pop F).1 (fun k hk => by cases hk) (by show n.toNat < _; omega) (fun k x hx => by cases hx) hP1 hD1 hS1 hp2 hp3 K
    | _ => cases hk
end QNew
