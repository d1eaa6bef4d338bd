/-! Calls whose exceptions are caught; calls of methods with handlers. -/
def q_hc (M pc : Nat) : List (Nat × Nat × Nat × Nat) → List Nat → Bool
  | [], [] => true
  | x :: r, E :: t :: i :: tr => decide (x.1 ≤ pc) && decide (pc < x.2.1) && decide (x.2.2.2 ≠ 0) && decide (E < 3) && decide (i < q_nL M) &&
      q_hw.any (fun w => decide (w.1 = x.2.2.2) && q_has w.2 (.classLink (q_own M) x.2.2.2 (q_exn E))) &&
      (match decode (q_b M) x.2.2.1 with
        | .ok (.astore k, n) => decide (k = i) && decide (n = 2) && decide (t = x.2.2.1 + 2)
        | .ok (.astore_n k, n) => decide ((k : Nat) = i) && decide (n = 1) && decide (t = x.2.2.1 + 1)
        | _ => false) && q_hc M pc r tr
  | _, _ => false
def q_cx (M : Nat) (e : Nat × qI) : Bool := match e.2.2.1 with
  | .invokevirtual _ => decide (q_mk (q_a e.2.2.2.2 0) = 0) && (decide (q_a e.2.2.2.2 4 ≠ 1) || (decide (q_own M = "MarktongueLaw") && q_hc M e.1 (q_hh M) (e.2.2.2.2.drop 5)))
  | .invokestatic _ => decide (2 ≤ q_a e.2.2.2.2 2) || decide (q_a e.2.2.2.2 4 ≠ 1)
  | .invokespecial _ => decide (2 ≤ q_a e.2.2.2.2 2) || (decide (q_a e.2.2.2.2 4 ≠ 1) && decide (q_mk (q_a e.2.2.2.2 0) = 0))
  | _ => true
set_option maxRecDepth 100000 in
theorem q_cx_all : ((List.range q_codes.length).all fun M => (q_codes.getD M []).all (q_cx M)) = true := by decide +kernel
theorem q_cx_of {M pc len : Nat} {i : Instr} {v : Int} {a : List Nat} (h : q_ft1 M pc = some (len, i, v, a)) : q_cx M (pc, len, i, v, a) = true := by
  unfold q_ft1 at h
  obtain ⟨l1, l2, e, -⟩ := List.lookup_eq_some_iff.mp h
  have hM : M < q_codes.length := by
    refine Nat.lt_of_not_le fun hle => ?_
    rw [List.getD_eq_getElem?_getD, List.getElem?_eq_none hle] at h
    cases h
  exact List.all_eq_true.mp (List.all_eq_true.mp q_cx_all M (List.mem_range.mpr hM)) _ (by rw [e]; simp)
def q_noN : Jvm.Cond → Bool
  | .methodLinkNest o _ _ _ => decide (o ≠ "MarktongueLaw")
  | _ => true
set_option maxRecDepth 100000 in
theorem q_noN_all : lw_tbl.all q_noN = true := by decide +kernel
theorem q_noN_of {o h : String} {i : Nat} {y : MethodName} (hm : Jvm.Cond.methodLinkNest o i y h ∈ lw_tbl) : o ≠ "MarktongueLaw" := of_decide_eq_true (List.all_eq_true.mp q_noN_all _ hm)
theorem q_own0 : q_own 0 = "MarktongueLaw" := by decide +kernel
/-- the words of the methods with handlers -/
def q_cw (M : Nat) : Bool := decide (M = 0) || decide (q_mk M = 0) || (decide (q_mk M = 1) && q_has (q_ci M) (.codeWith (q_y M) (q_b M) (q_nL M) (q_rt M) (q_hh M)))
set_option maxRecDepth 100000 in
theorem q_cw_all : (List.range q_codes.length).all q_cw = true := by decide +kernel
theorem q_cw_of {M : Nat} (h : M < q_codes.length) (h0 : M ≠ 0) (h1 : q_mk M ≠ 0) : q_mk M = 1 ∧ Jvm.Cond.codeWith (q_y M) (q_b M) (q_nL M) (q_rt M) (q_hh M) ∈ q_tb := by
  have := List.all_eq_true.mp q_cw_all M (List.mem_range.mpr h)
  simp only [q_cw, Bool.or_eq_true, Bool.and_eq_true, decide_eq_true_eq] at this
  rcases this with (h2 | h2) | h2
  · exact absurd h2 h0
  · exact absurd h2 h1
  · exact ⟨h2.1, q_has_mem h2.2⟩
theorem q_hc_use {X : Nat → Nat → Prop} {M pc k : Nat} : ∀ (hh : List (Nat × Nat × Nat × Nat)) (tr : List Nat), q_hc M pc hh tr = true → q_F.q_hd X k tr → ∃ pre x suf t i, hh = pre ++ x :: suf ∧
    (∀ y ∈ pre, y.2.2.2 ≠ 0 ∧ ∃ E, E < 3 ∧ k ≠ E ∧ Jvm.Cond.classLink (q_own M) y.2.2.2 (q_exn E) ∈ q_tb) ∧
    (x.1 ≤ pc ∧ pc < x.2.1 ∧ x.2.2.2 ≠ 0 ∧ Jvm.Cond.classLink (q_own M) x.2.2.2 (q_exn k) ∈ q_tb ∧ i < q_nL M) ∧
    ((decode (q_b M) x.2.2.1 = .ok (.astore i, 2) ∧ t = x.2.2.1 + 2) ∨ ∃ j : Fin 4, (j : Nat) = i ∧ decode (q_b M) x.2.2.1 = .ok (.astore_n j, 1) ∧ t = x.2.2.1 + 1) ∧ X t i
  | [], [], _, hd => hd.elim
  | [], _ :: _, h, _ => by cases h
  | _ :: _, [], h, _ => by cases h
  | _ :: _, [_], h, _ => by cases h
  | _ :: _, [_, _], h, _ => by cases h
  | x :: r, E :: t :: i :: tr, h, hd => by
    simp only [q_hc, Bool.and_eq_true, decide_eq_true_eq, List.any_eq_true] at h
    obtain ⟨⟨⟨⟨⟨⟨⟨h1, h2⟩, h3⟩, h4⟩, h5⟩, w, hw, h6, h7⟩, h8⟩, h9⟩ := h
    have hd : (k = E → X t i) ∧ (k ≠ E → q_F.q_hd X k tr) := hd
    by_cases e : k = E
    · subst e
      refine ⟨[], x, r, t, i, rfl, fun y hy => (by cases hy), ⟨h1, h2, h3, q_has_mem h7, h5⟩, ?_, hd.1 rfl⟩
      split at h8
      · rename_i k' n hdec
        simp only [Bool.and_eq_true, decide_eq_true_eq] at h8
        obtain ⟨⟨rfl, rfl⟩, rfl⟩ := h8
        exact Or.inl ⟨hdec, rfl⟩
      · rename_i k' n hdec
        simp only [Bool.and_eq_true, decide_eq_true_eq] at h8
        obtain ⟨⟨h10, rfl⟩, rfl⟩ := h8
        exact Or.inr ⟨k', h10, hdec, rfl⟩
      · cases h8
    · obtain ⟨pre, x', suf, t', i', e1, e2, e3, e4, e5⟩ := q_hc_use r tr h9 (hd.2 e)
      refine ⟨x :: pre, x', suf, t', i', by rw [e1]; rfl, fun y hy => ?_, e3, e4, e5⟩
      rcases List.mem_cons.mp hy with rfl | hy
      · exact ⟨h3, E, h4, e, q_has_mem h7⟩
      · exact e2 y hy
theorem q_LR.kn {ad : Nat → Nat} {b nL : Nat} {ls ls' : Array Slot} {lp : List (Option qV)} {i x : Nat} (H : q_LR ad b nL ls lp)
    (h : lv_has ls' nL ((i, Value.ref x) :: (q_lv ad b 0 lp).filter (fun q => !(q.1 == i) && !(q.1 + 1 == i && q.2.category == 2)))) : q_LR ad b nL ls' ((q_kl lp i).set i none) := by
  refine ⟨⟨h.1, h.2.1, fun q hq => h.2.2 q ?_⟩, by rw [List.length_set, q_kl_length]; exact H.2⟩
  obtain ⟨j, u, hu, rfl⟩ := (q_lv_mem _ 0 q).mp hq
  by_cases e : j = i
  · subst e
    rw [List.getElem?_set_self'] at hu
    cases hl : (q_kl lp j)[j]? with
    | none => rw [hl] at hu; simp at hu
    | some z => rw [hl] at hu; simp at hu
  · rw [List.getElem?_set_ne (fun w => e w.symm)] at hu
    obtain ⟨h2, h3⟩ := q_kl_get hu
    refine List.mem_cons_of_mem _ (List.mem_filter.mpr ⟨(q_lv_mem lp 0 _).mpr ⟨j, u, h2, rfl⟩, ?_⟩)
    rw [Nat.zero_add, q_mv_cat]
    simp only [Bool.and_eq_true, Bool.not_eq_true', beq_eq_false_iff_ne, ne_eq, Bool.and_eq_false_imp, beq_iff_eq]
    exact ⟨e, fun e1 c => h3 ⟨e1, c⟩⟩
theorem q_kn_ok {lp : List (Option qV)} {i j n : Nat} {u : qV} (h : ((q_kl lp i).set i none)[j]? = some (some u)) (ho : ∀ (j : Nat) (v : qV), lp[j]? = some (some v) → q_ok n v) : q_ok n u := by
  by_cases e : j = i
  · subst e
    rw [List.getElem?_set_self'] at h
    cases hl : (q_kl lp j)[j]? with
    | none => rw [hl] at h; simp at h
    | some z => rw [hl] at h; simp at h
  · rw [List.getElem?_set_ne (fun w => e w.symm)] at h
    exact ho j u (q_kl_get h).1
section QCatch
variable {D : va_G} {cI cZ cJ : ClassId} {M : Nat} {p : Program} {l : Launch} {e : Env} {R : Room} {s : State} {m : MethodId} {args : Array Value} {below : List Frame} {meth : Method} {c : Code} {Qm : State → Prop} {A : Nat → Prop} {H0 H : Heap} {locs : List Loc} {b xl : Nat} {xs : Nat → Int32} {ad : Nat → Nat} {ls : Array Slot} {lp lp' : List (Option qV)} {st st' : List qV} {S S' : qS} {z z' : qM} {kc ks kc' ks' pc len : Nat} {i : Instr} {v : Int} {a ws : List Nat} {P : Prop} {Q : qQ}
theorem q_caught {k q : Nat} {tr : List Nat} {ce : Cell} {rest : List Value} (C0 : q_Cx D cI cZ cJ M p R s m args meth c A H0 b xl xs) (hM1 : q_mk M = 1) (hc : q_hc M pc (q_hh M) tr = true) (hk : k < 3) (Wd : q_Wd D cI cZ cJ A H0 ad S z H locs)
    (hL : q_LR ad b (q_nL M) ls lp) (hlo : ∀ (i : Nat) (v : qV), lp[i]? = some (some v) → q_ok S.length v) (hkc : kc ≤ (q_rm M).2.2.1) (hks : ks ≤ (q_rm M).2.2.2)
    (HR : q_HR D cI cZ cJ M p l e R s m args below meth c Qm A H0 b Q S.length ad) (HT : q_HT D cI cZ cJ M p l e R s m args below meth c Qm A H0 Q S.length ad)
    (hcell : H[q]? = some ce) (hv : ce.vm = .none) (hcl : s.vm.findClass (q_exn k) = some ce.cls)
    (hd : q_F.q_hd (fun t i => q_Y l D cI cZ cJ xl xs M (t, (q_kl lp i).set i none, [], S, z, kc, ks) Q) k tr) :
    vx_W p l e R s m args below meth c H locs kc ks Qm (F0 m pc ls rest) q := by
  obtain ⟨pre, x, suf, t, i, e1, e2, ⟨g1, g2, g3, g4, g5⟩, g6, g7⟩ := q_hc_use _ _ hc hd
  have hts := C0.2.2.2.2.1
  have hE := C0.2.2.2.2.2.2.2.2.2.2.2.1
  have hT := C0.2.2.2.2.2.2.2.2.2.2.2.2 hM1
  rw [e1] at hT
  have kk : W p l e R s m args below meth c H locs kc ks Qm (F0 m x.2.2.1 ls [.ref q]) := by
    rcases g6 with ⟨hdec, rfl⟩ | ⟨j, hj, hdec, rfl⟩
    · exact lv_astore C0.1 C0.2.1 hdec hL.1 g5 rfl (fun ls' h' => g7 p e R s m args below meth c Qm A H0 H locs b ad ls' C0 Wd ⟨hL.kn h', fun j u hu => q_kn_ok hu hlo, fun v hv => (by cases hv), hkc, hks⟩ HR HT)
    · exact lv_astore_n C0.1 C0.2.1 hdec hj hL.1 g5 rfl (fun ls' h' => g7 p e R s m args below meth c Qm A H0 H locs b ad ls' C0 Wd ⟨hL.kn h', fun j u hu => q_kn_ok hu hlo, fun v hv => (by cases hv), hkc, hks⟩ HR HT)
  refine vx_catch (E := q_exn k) (name := q_exn k) C0.2.2.2.1 (pre.map fun q => ⟨q.1, q.2.1, q.2.2.1, q.2.2.2⟩) ⟨x.1, x.2.1, x.2.2.1, x.2.2.2⟩ (suf.map fun q => ⟨q.1, q.2.1, q.2.2.1, q.2.2.2⟩) (by rw [hT]; simp [tableOf]) ?_ (by show (decide (x.1 ≤ pc) && decide (pc < x.2.1)) = true; rw [decide_eq_true g1, decide_eq_true g2]; rfl) g3 (hts _ g4)
    (va_Nw.use rfl (hE.2.2.2.1 _ (of_decide_eq_true (q_cst3 k hk)) rfl)) hcell hv hcl kk
  intro y hy
  obtain ⟨y0, hy0, rfl⟩ := List.mem_map.mp hy
  obtain ⟨f1, E, f2, f3, f4⟩ := e2 y0 hy0
  exact Or.inr ⟨f1, q_exn E, hts _ f4, hE.2.2.2.2 k E hk f2 f3⟩
theorem q_afterX {Rq : qQ} {mc ms : Nat} {st0 rest : List Value} {av : Array Value} (Wd : q_Wd D cI cZ cJ A H0 ad S z H locs) (hA : ∀ q, H0.size ≤ q → A q)
    (hr : vx_Run p l e R s m args below meth c H locs kc ks mc ms (F0 m pc ls st0) rest (q_Qc D cI cZ cJ Rq ad b S (va_A (q_ws cI cZ cJ ad S z) H.size) av) (q_XC D cI cZ cJ Rq ad b S (va_A (q_ws cI cZ cJ ad S z) H.size)) (va_A (q_ws cI cZ cJ ad S z) H.size))
    (kk : ∀ (w : Option qV) (ad' : Nat → Nat) (S' : qS) (z' : qM) (H' : Heap) (locs' : List Loc), Rq (.inl w) S' z' → S.length ≤ S'.length → (∀ r, r < S.length → ad' r = ad r) → q_Wd D cI cZ cJ A H0 ad' S' z' H' locs' → (∀ u, w = some u → q_ok S'.length u) →
      W p l e R s m args below meth c H' locs' (kc + mc) (ks + ms) Qm (F0 m (pc + 3) ls ((w.map (q_mv ad' b)).toList ++ rest)))
    (kx : ∀ (k : Nat) (ad' : Nat → Nat) (S' : qS) (z' : qM) (H' : Heap) (locs' : List Loc) (q : Addr) (ce : Cell), k < 3 → Rq (.inr k) S' z' → S.length ≤ S'.length → (∀ r, r < S.length → ad' r = ad r) → q_Wd D cI cZ cJ A H0 ad' S' z' H' locs' → H'[q]? = some ce → ce.vm = .none → s.vm.findClass (q_exn k) = some ce.cls →
      vx_W p l e R s m args below meth c H' locs' (kc + mc) (ks + ms) Qm (F0 m pc ls rest) q) : W p l e R s m args below meth c H locs kc ks Qm (F0 m pc ls st0) := by
  have hA1 := q_A1 Wd hA
  have hS := Wd.2.2.1
  intro T hT X
  rcases hr T hT X with ⟨v, st₀, t, T', L, h0, X', hL, e1, e2, ⟨⟨w, ad', S', z', hv, ⟨hq, hn, hag, hP1, hD1, hrg1, hwf1⟩, hok⟩, hz, hk⟩, st⟩ | ⟨q, st₀, t, T', L, E, ce, h0, X', hL, e1, e2, ⟨⟨k, ad', S', z', hk3, hE, hq, hn, hag, hP1, hD1, hrg1, hwf1⟩, hz, hk⟩, hce, hcv, hcl, st⟩
  · cases hv
    rw [h0] at hz hk
    obtain ⟨t2, a1, b1⟩ := kk w ad' S' z' T'.heap (locs ++ L) hq hn hag ⟨by rw [e1]; exact hP1, hD1.weaken (fun k q _ h => hA1 q.1 h),
      ⟨Nat.le_trans hS.1 (by rw [e1]; exact hz), fun q h1 h2 => by rw [e1, hk q (Nat.lt_of_lt_of_le h1 hS.1) (fun z => h2 (hA1 q z))]; exact hS.2.1 q h1 h2, fun q hq => by
        rcases List.mem_append.mp hq with h | h
        · exact hS.2.2 q h
        · exact hA1 _ (hL q h)⟩, hrg1, hwf1⟩ hok T' rfl X'
    exact ⟨t2, st t2 a1, b1⟩
  · subst hE
    rw [h0] at hz hk
    obtain ⟨t2, a1, b1⟩ := kx k ad' S' z' T'.heap (locs ++ L) q ce hk3 hq hn hag ⟨by rw [e1]; exact hP1, hD1.weaken (fun k q _ h => hA1 q.1 h),
      ⟨Nat.le_trans hS.1 (by rw [e1]; exact hz), fun q h1 h2 => by rw [e1, hk q (Nat.lt_of_lt_of_le h1 hS.1) (fun z => h2 (hA1 q z))]; exact hS.2.1 q h1 h2, fun q hq => by
        rcases List.mem_append.mp hq with h | h
        · exact hS.2.2 q h
        · exact hA1 _ (hL q h)⟩, hrg1, hwf1⟩ (by rw [e1]; exact hce) hcv hcl T' rfl X'
    exact ⟨t2, st.trans a1, b1⟩
set_option maxHeartbeats 4000000 in
/-- a call in a method with handlers -/
theorem q_callX_ok (hl : l.stackTraces = false) (hf : q_ft1 M pc = some (len, i, v, a)) (C0 : q_Cx D cI cZ cJ M p R s m args meth c A H0 b xl xs) (hd : decode (q_b M) pc = .ok (i, len)) (hk : q_chk2 M pc len i v a ws = true) (Wd : q_Wd D cI cZ cJ A H0 ad S z H locs) (F : q_Fr ad b M ls lp st S kc ks)
    (HR : q_HR D cI cZ cJ M p l e R s m args below meth c Qm A H0 b Q S.length ad) (HT : q_HT D cI cZ cJ M p l e R s m args below meth c Qm A H0 Q S.length ad)
    (hi : ((∃ n, i = .invokestatic n) ∧ q_a a 2 ≠ 3) ∨ (∃ n, i = .invokevirtual n) ∨ ((∃ n, i = .invokespecial n) ∧ q_a a 2 ≠ 2)) (h29 : ¬ 2 ≤ q_a a 2)
    (hM1 : q_mk M = 1) (hm : q_chkM (q_a a 0) = true) (h0 : q_mk (q_a a 0) = 0) (hM0 : q_a a 0 ≠ 0) (h4 : q_a a 4 = 1)
    (h : q_F.q_ca (q_Y l D cI cZ cJ xl xs) (q_Pr xl xs) M (pc, lp, st, S, z, kc, ks) Q a) :
    W p l e R s m args below meth c H locs kc ks Qm (F0 m pc ls (st.map (q_mv ad b))) := by
  have hcx := q_cx_of hf
  rcases hi with ⟨⟨n, rfl⟩, -⟩ | ⟨n, rfl⟩ | ⟨⟨n, rfl⟩, -⟩
  · simp only [q_cx, Bool.or_eq_true, decide_eq_true_eq] at hcx
    rcases hcx with hcx | hcx
    · exact absurd hcx h29
    · exact absurd h4 hcx
  · simp only [q_cx, Bool.or_eq_true, Bool.and_eq_true, decide_eq_true_eq] at hcx
    obtain ⟨-, hcx⟩ := hcx
    obtain ⟨hown9, hhc⟩ := hcx.resolve_left (fun q => q h4)
    obtain ⟨h1, h2, h3, h5, h6, h7, Rq, h8, h9, h10⟩ := h
    have hts := C0.2.2.2.2.1
    have hR := C0.2.2.2.2.2.2.2.2.1
    have hA := C0.2.2.2.2.2.2.2.2.2.1
    have hok : ∀ w ∈ (st.take (q_a a 1)).reverse, q_ok S.length w := fun w hw => F.2.2.1 w (List.mem_of_mem_take (List.mem_reverse.mp hw))
    have hM := q_vmet (b := b) hl hm h0 hM0 h7 Wd.1 Wd.2.1 Wd.2.2.2.1 Wd.2.2.2.2 hok h8
    have hsize : ls.size = q_nL M := F.1.1.1
    have hW8 : (((st.drop (q_a a 1)).map (q_mv ad b)).map fun v => v.category).sum ≤ 8 := by rw [q_mv_sum]; exact h2
    have hcf : CallFix p m c (q_b M) (q_nL M) s args q_tb (q_own M) := ⟨C0.1, C0.2.1, C0.2.2.1, C0.2.2.2.1, hts⟩
    have hf9 : kc + (q_rm (q_a a 0)).2.2.1 ≤ R.cells ∧ ks + (q_rm (q_a a 0)).2.2.2 ≤ R.slots := ⟨Nat.le_trans h3 hR.2.2.1, Nat.le_trans h5 hR.2.2.2⟩
    have fin : ∀ (w : Option qV) (ad' : Nat → Nat) (S' : qS) (z' : qM) (H' : Heap) (locs' : List Loc), Rq (.inl w) S' z' → S.length ≤ S'.length → (∀ r, r < S.length → ad' r = ad r) → q_Wd D cI cZ cJ A H0 ad' S' z' H' locs' → (∀ u, w = some u → q_ok S'.length u) →
        W p l e R s m args below meth c H' locs' (kc + (q_rm (q_a a 0)).2.2.1) (ks + (q_rm (q_a a 0)).2.2.2) Qm (F0 m (pc + 3) ls ((w.map (q_mv ad' b)).toList ++ (st.drop (q_a a 1)).map (q_mv ad b))) := by
      intro w ad' S' z' H' locs' hq hn hag Wd' hu
      have hdr : ∀ v ∈ st.drop (q_a a 1), q_ok S.length v := fun v hv => F.2.2.1 v (List.mem_of_mem_drop hv)
      have K := q_Y_KK C0 HR HT (h9 w S' z' hq) ad' ls H' locs' hn hag Wd' ⟨F.1.moved hag F.2.1, fun i v hv => q_ok_mono hn (F.2.1 i v hv), fun v hv => by
        rcases List.mem_append.mp hv with hv | hv
        · exact hu v (by cases w with
            | none => cases hv
            | some u => simp at hv; rw [hv])
        · exact q_ok_mono hn (hdr v hv), h3, h5⟩
      rw [List.map_append, q_mv_list hag hdr, ← q_mw] at K
      exact K
    have finx : ∀ (k : Nat) (ad' : Nat → Nat) (S' : qS) (z' : qM) (H' : Heap) (locs' : List Loc) (q : Addr) (ce : Cell), k < 3 → Rq (.inr k) S' z' → S.length ≤ S'.length → (∀ r, r < S.length → ad' r = ad r) → q_Wd D cI cZ cJ A H0 ad' S' z' H' locs' → H'[q]? = some ce → ce.vm = .none → s.vm.findClass (q_exn k) = some ce.cls →
        vx_W p l e R s m args below meth c H' locs' (kc + (q_rm (q_a a 0)).2.2.1) (ks + (q_rm (q_a a 0)).2.2.2) Qm (F0 m pc ls ((st.drop (q_a a 1)).map (q_mv ad b))) q := fun k ad' S' z' H' locs' q ce hk3 hq hn hag Wd' hce hcv hcl =>
      q_caught C0 hM1 hhc hk3 Wd' (F.1.moved hag F.2.1) (fun i v hv => q_ok_mono hn (F.2.1 i v hv)) h3 h5 (HR.moved hn hag) (HT.moved hn hag) hce hcv hcl (h10 k S' z' hq).2
    simp only [q_chk2, Bool.and_eq_true, beq_iff_eq, decide_eq_true_eq] at hk
    obtain ⟨⟨⟨⟨⟨rfl, hk0⟩, hkc⟩, hks⟩, hsel⟩, hc3⟩ := hk
    obtain ⟨hlk, hin, hpar, -, hle, hfr, hlo⟩ := q_chkC_ok hkc
    rw [hk0] at hpar h6 hle
    have hst := q_take (ad := ad) (b := b) h1
    rw [hst]
    match hrv : (st.take (q_a a 1)).reverse, h6 with
    | .inr (.inr (.inl (some r))) :: as, h6 =>
      have hl2 : (st.take (q_a a 1)).reverse.length = q_a a 1 := by simp; omega
      rw [hrv] at hM hl2
      obtain ⟨N, rs, hS⟩ := q_tag_get (show q_tag S r = some (3 + q_a a 3) from h6)
      have hpre : PreV s H (q_C (q_a a 3)) (ad r) (q_Pc D cI cZ cJ (((.inr (.inr (.inl (some r)))) :: as).map (q_mv ad b)) H (va_A (q_ws cI cZ cJ ad S z) H.size)) (as.map (q_mv ad b)) :=
        ⟨q_blind, va_recv C0.2.2.2.2.2.2.1 Wd.1 (q_cl_get hc3) ((q_ws_get hS).trans (by rw [q_e1_3])), (q_preS C0 Wd (((.inr (.inr (.inl (some r)))) :: as).map (q_mv ad b))).2⟩
      have hlen : (as.map (q_mv ad b)).length = q_a a 1 - 1 := by simp at hl2 ⊢; omega
      have hstk : ((((.inr (.inr (.inl (some r)))) :: as : List qV).map (q_mv ad b)).reverse ++ (st.drop (q_a a 1)).map (q_mv ad b)) = (as.map (q_mv ad b)).reverse ++ .ref (ad r) :: (st.drop (q_a a 1)).map (q_mv ad b) := by simp [q_mv]
      rw [hstk]
      rcases hlk with ⟨-, hlk⟩ | ⟨-, hlk⟩
      · exact absurd hown9 (q_noN_of hlk)
      · exact q_afterX Wd hA (vx_runV hcf hM ⟨callB_of (q_a a 1 - 1) hts (q_good _ hm h0) rfl rfl rfl (hts _ hin) (hts _ hlk) ⟨(q_chkM_of hm).1, (q_chkM_of hm).2.1, q_par_ok hpar⟩ ⟨Nat.le_trans hfr hR.1, Nat.le_trans hlo hR.2.1⟩, hts _ (q_has_mem hks), hts _ (q_has_mem hsel)⟩ hpre rfl hlen hsize rfl (lv_room hW8) hd hf9) fin finx
  · simp only [q_cx, Bool.or_eq_true, Bool.and_eq_true, decide_eq_true_eq] at hcx
    rcases hcx with hcx | hcx
    · exact absurd hcx h29
    · exact absurd h4 hcx.1
/-- a body with handlers -/
theorem q_ofH {y : MethodName} {ws ws' : List Jvm.Cond} {rm : Room} {Pc : Array Value → State → Prop} {Qc : Array Value → State → Outcome → State → Prop} {mc ms : Nat} {free : Addr → Prop} {cc : ByteArray} {maxL : Nat} {ret : Option FieldType} {hh : List (Nat × Nat × Nat × Nat)}
    (hy : plainName y.cls = true) (hw : ws = Jvm.Cond.codeWith y cc maxL ret hh :: ws')
    (body : ∀ p e s m args below meth c s₁, BodyLoose p l y (headSpec ws rm) cc maxL ret e s m args below meth c s₁ → c.maxLocals = maxL → Pc args s →
      W p l e (headSpec ws rm).room s m args below meth c s.heap [] 0 0 (MQ below Qc args s mc ms free) (entryFrame m args maxL)) : Met l y ws rm Pc Qc mc ms free := by
  refine MetFree.of_bodyS (code := cc) (maxLocals := maxL) (ret := ret) hy ?_ ?_
  · intro args s m h hn
    obtain ⟨m9, meth, c, hn9, h1, h2, h3, h4, -, h5, h6, -⟩ := Cond.codeWith_spec (atoms_spec (ws := ws) h _ (by rw [hw]; exact List.mem_cons_self))
    cases hn.symm.trans hn9
    exact ⟨meth, c, h1, h2, h3, h4, h5, h6⟩
  · intro p e s m args below meth c s₁ B hml hP _
    have hh0 : s₁.heap = s.heap := by rw [B.state]; rfl
    obtain ⟨t, a1, o, b1, b2, b3⟩ := body p e s m args below meth c s₁ B hml hP s₁ hh0 (Stand.of_body B)
    exact ⟨t, o, a1, b1, b2, ⟨b3.1, b3.2⟩⟩
def q_wsW (M : Nat) : List Jvm.Cond := .codeWith (q_y M) (q_b M) (q_nL M) (q_rt M) (q_hh M) :: q_tb
set_option maxHeartbeats 4000000 in
theorem q_metW {as : List qV} {Rq : qQ} (hm : q_chkM M = true) (hM0 : M ≠ 0) (hlen : (q_en as).length ≤ q_nL M) (hP : va_P D q_cl (q_ws cI cZ cJ ad S z) H) (hD : va_D A (q_ws cI cZ cJ ad S z)) (hrg : q_rg S z) (hwf : q_wf S) (hok : ∀ v ∈ as, q_ok S.length v)
    (hY : q_Y l D cI cZ cJ xl xs M (0, q_pad (q_nL M) (q_en as), [], S, z, 0, 0) Rq) (hno : ∀ k S' z', ¬ Rq (.inr k) S' z') :
    Met l (q_y M) (q_wsW M) (q_rmM M) (q_Pc D cI cZ cJ (as.map (q_mv ad b)) H (va_A (q_ws cI cZ cJ ad S z) H.size)) (q_Qc D cI cZ cJ Rq ad b S (va_A (q_ws cI cZ cJ ad S z) H.size)) (q_rm M).2.2.1 (q_rm M).2.2.2 (va_A (q_ws cI cZ cJ ad S z) H.size) := by
  refine q_ofH (cc := q_b M) (maxL := q_nL M) (ret := q_rt M) (hh := q_hh M) (q_chkM_of hm).2.2.1 rfl ?_
  intro p e s m args below meth c s₁ B hml hv
  obtain ⟨rfl, hsz, hK, hN, hE⟩ := hv
  have hx := B.exec
  have hb := B.bytes
  have hr := B.returns
  have hts := atoms_spec (ws := q_wsW M) B.pre
  have hlocks := B.notSynchronized
  rw [hsz, lg_entry_eq]
  refine hY p e _ s m _ below meth c _ (va_A (q_ws cI cZ cJ ad S z) H.size) H H [] b ad _ ⟨hx, hb, hml, findClass_of_methodNamed B.named, fun w hw => hts w (List.mem_cons_of_mem _ hw), hN, hK, fun h => ((name_of_methodNamed B.named B.method).1).trans h, ⟨Nat.le_refl _, Nat.le_refl _, Nat.le_refl _, Nat.le_refl _⟩, fun q h => Or.inr h, fun h => absurd h hM0, hE, fun h => vx_table (x := q_y M) B (hts _ List.mem_cons_self)⟩
    ⟨hP, hD.self, va_S.rf, hrg, hwf⟩ ⟨q_start hlen, fun i v hv => hok v (q_pad_mem hv), fun v hv => (by cases hv), Nat.zero_le _, Nat.zero_le _⟩ ?_ ?_
  · intro pc' ls' v S' z' ad' H' locs' kc' ks' hq hrok hn hag Wd' hvok hkc hks
    refine W.widen hkc hks ?_
    have post : ∀ t : State, t.heap = H' → q_Qc D cI cZ cJ Rq ad b S (va_A (q_ws cI cZ cJ ad S z) H.size) (as.map (q_mv ad b)).toArray s (.returned (v.map (q_mv ad' b))) t := fun t ht =>
      ⟨⟨v, ad', S', z', rfl, ⟨hq, hn, hag, by rw [ht]; exact Wd'.1, Wd'.2.1, Wd'.2.2.2.1, Wd'.2.2.2.2⟩, hvok⟩, ⟨by rw [ht, hsz]; exact Wd'.2.2.1.1, fun q h1 h2 => by rw [ht, hsz]; rw [hsz] at h1; exact Wd'.2.2.1.2.1 q h1 h2⟩⟩
    match v, hrok, hvok with
    | none, hrok, hvok => exact W.vret hx hb (hr.trans hrok.2) (fun t ht hW => post t ht) Wd'.2.2.1.2.2 hrok.1
    | some (.inl x), hrok, hvok =>
      rcases hrok.2 with h2 | ⟨h2, h3, h4⟩
      · exact W.iret hx hb (hr.trans h2) (fun t ht hW => post t ht) Wd'.2.2.1.2.2 hrok.1
      · exact W.zret hx hb (hr.trans h2) (q_narZ h3 h4).1 (fun t ht hW => post t ht) Wd'.2.2.1.2.2 hrok.1
    | some (.inr (.inl x)), hrok, hvok => exact W.lret hx hb (hr.trans hrok.2) (fun t ht hW => post t ht) Wd'.2.2.1.2.2 hrok.1
    | some (.inr (.inr (.inl (some r)))), hrok, hvok =>
      obtain ⟨h1, n, h2⟩ := hrok
      exact W.aret hx hb (hr.trans h2) (Or.inl ⟨n, rfl⟩) (Or.inr ⟨_, rfl⟩) (fun t ht hW => post t ht) Wd'.2.2.1.2.2 h1
    | some (.inr (.inr (.inl none))), hrok, hvok => exact hrok.elim
    | some (.inr (.inr (.inr u))), hrok, hvok => exact hrok.elim
  · intro pc' ls' k S' z' ad' H' locs' kc' ks' hq
    exact absurd hq (hno k S' z')
set_option maxHeartbeats 4000000 in
/-- the law calls a method with handlers -/
theorem q_callW_ok (hf : q_ft1 M pc = some (len, i, v, a)) (C0 : q_Cx D cI cZ cJ M p R s m args meth c A H0 b xl xs) (hd : decode (q_b M) pc = .ok (i, len)) (hk : q_chk2 M pc len i v a ws = true) (Wd : q_Wd D cI cZ cJ A H0 ad S z H locs) (F : q_Fr ad b M ls lp st S kc ks)
    (HR : q_HR D cI cZ cJ M p l e R s m args below meth c Qm A H0 b Q S.length ad) (HT : q_HT D cI cZ cJ M p l e R s m args below meth c Qm A H0 Q S.length ad)
    (hi : ((∃ n, i = .invokestatic n) ∧ q_a a 2 ≠ 3) ∨ (∃ n, i = .invokevirtual n) ∨ ((∃ n, i = .invokespecial n) ∧ q_a a 2 ≠ 2)) (h29 : ¬ 2 ≤ q_a a 2)
    (hM : M = 0) (hm : q_chkM (q_a a 0) = true) (h0 : q_mk (q_a a 0) ≠ 0) (hM0 : q_a a 0 ≠ 0) (hML : q_a a 0 < q_codes.length) (h4 : q_a a 4 ≠ 1)
    (h : q_F.q_ca (q_Y l D cI cZ cJ xl xs) (q_Pr xl xs) M (pc, lp, st, S, z, kc, ks) Q a) :
    W p l e R s m args below meth c H locs kc ks Qm (F0 m pc ls (st.map (q_mv ad b))) := by
  have hcx := q_cx_of hf
  rcases hi with ⟨⟨n, rfl⟩, hne⟩ | ⟨n, rfl⟩ | ⟨⟨n, rfl⟩, -⟩
  · obtain ⟨h1, h2, h3, h5, h6, h7, Rq, h8, h9, h10⟩ := h
    have hno : ∀ k S' z', ¬ Rq (.inr k) S' z' := fun k S' z' hq => h4 (h10 k S' z' hq).1
    obtain ⟨-, hcw⟩ := q_cw_of hML hM0 h0
    have hts := C0.2.2.2.2.1
    have hR := C0.2.2.2.2.2.2.2.2.1
    have hA := C0.2.2.2.2.2.2.2.2.2.1
    have hok : ∀ w ∈ (st.take (q_a a 1)).reverse, q_ok S.length w := fun w hw => F.2.2.1 w (List.mem_of_mem_take (List.mem_reverse.mp hw))
    have hMt := q_metW (b := b) hm hM0 h7 Wd.1 Wd.2.1 Wd.2.2.2.1 Wd.2.2.2.2 hok h8 hno
    have hsize : ls.size = q_nL M := F.1.1.1
    have hW8 : (((st.drop (q_a a 1)).map (q_mv ad b)).map fun v => v.category).sum ≤ 8 := by rw [q_mv_sum]; exact h2
    have hcf : CallFix p m c (q_b M) (q_nL M) s args q_tb (q_own M) := ⟨C0.1, C0.2.1, C0.2.2.1, C0.2.2.2.1, hts⟩
    have hf9 : kc + (q_rm (q_a a 0)).2.2.1 ≤ R.cells ∧ ks + (q_rm (q_a a 0)).2.2.2 ≤ R.slots := ⟨Nat.le_trans h3 hR.2.2.1, Nat.le_trans h5 hR.2.2.2⟩
    have fin : ∀ (w : Option qV) (ad' : Nat → Nat) (S' : qS) (z' : qM) (H' : Heap) (locs' : List Loc), Rq (.inl w) S' z' → S.length ≤ S'.length → (∀ r, r < S.length → ad' r = ad r) → q_Wd D cI cZ cJ A H0 ad' S' z' H' locs' → (∀ u, w = some u → q_ok S'.length u) →
        W p l e R s m args below meth c H' locs' (kc + (q_rm (q_a a 0)).2.2.1) (ks + (q_rm (q_a a 0)).2.2.2) Qm (F0 m (pc + 3) ls ((w.map (q_mv ad' b)).toList ++ (st.drop (q_a a 1)).map (q_mv ad b))) := by
      intro w ad' S' z' H' locs' hq hn hag Wd' hu
      have hdr : ∀ v ∈ st.drop (q_a a 1), q_ok S.length v := fun v hv => F.2.2.1 v (List.mem_of_mem_drop hv)
      have K := q_Y_KK C0 HR HT (h9 w S' z' hq) ad' ls H' locs' hn hag Wd' ⟨F.1.moved hag F.2.1, fun i v hv => q_ok_mono hn (F.2.1 i v hv), fun v hv => by
        rcases List.mem_append.mp hv with hv | hv
        · exact hu v (by cases w with
            | none => cases hv
            | some u => simp at hv; rw [hv])
        · exact q_ok_mono hn (hdr v hv), h3, h5⟩
      rw [List.map_append, q_mv_list hag hdr, ← q_mw] at K
      exact K
    simp only [q_chk2, Bool.and_eq_true, beq_iff_eq, if_neg hne, decide_eq_true_eq] at hk
    obtain ⟨rfl, ⟨hk0, hkc⟩, hks⟩ := hk
    obtain ⟨hlk, hin, hpar, -, hle, hfr, hlo⟩ := q_chkC_ok hkc
    rw [hk0] at hpar
    have hst := q_take (ad := ad) (b := b) h1
    have hlen : ((st.take (q_a a 1)).reverse.map (q_mv ad b)).length = q_a a 1 - 0 := by simp; omega
    rw [hst]
    rcases hlk with ⟨-, hlk⟩ | ⟨-, hlk⟩
    · exact absurd (by rw [hM]; exact q_own0) (q_noN_of hlk)
    · have hG : GoodIn q_tb (va_wsS (q_own M) n (q_y (q_a a 0)) (q_wsW (q_a a 0))) := by
        intro w hw
        have hwt : w ∈ q_tb := by
          unfold va_wsS at hw
          rcases List.mem_append.mp hw with hw | hw
          · simp only [List.mem_cons, List.not_mem_nil, or_false] at hw
            rcases hw with rfl | rfl | rfl
            · exact hlk
            · exact q_has_mem hks
            · exact hin
          · rcases List.mem_cons.mp hw with rfl | hw
            · exact hcw
            · exact hw
        exact ⟨hwt, good_of_word (q_tb_good hwt)⟩
      exact q_after Wd hA (vx_runSW hcf hMt (vx_cwSW (q_a a 1 - 0) hts hG rfl rfl rfl ⟨(q_chkM_of hm).1, (q_chkM_of hm).2.1, q_par_ok hpar⟩ ⟨Nat.le_trans hfr hR.1, Nat.le_trans hlo hR.2.1⟩) (q_preS C0 Wd _) rfl hlen hsize rfl (lv_room hW8) hd hf9) fin
  · simp only [q_cx, Bool.and_eq_true, decide_eq_true_eq] at hcx
    exact absurd hcx.1 h0
  · simp only [q_cx, Bool.or_eq_true, Bool.and_eq_true, decide_eq_true_eq] at hcx
    rcases hcx with hcx | hcx
    · exact absurd hcx h29
    · exact absurd hcx.2 h0
end QCatch
