/-! Methods that throw, methods that catch. -/
def q_nm : List String := ["java/lang/RuntimeException", "java/lang/Exception"]
def q_chkT (z : Nat × Nat × Nat × Nat × Nat × Nat × String × Nat × Nat) : Bool :=
  decide (q_own z.1 = "Marktongue") && decide (z.2.2.1 < 3) && q_has z.2.2.2.2.2.2.2.1 (.classLink "Marktongue" z.2.2.2.1 (q_exn z.2.2.1)) && decide (lw_tbl[z.2.2.2.2.2.2.2.2]? = some (.stringRef "Marktongue" z.2.2.2.2.1 z.2.2.2.2.2.2.1)) &&
  decide (decode (q_b z.1) z.2.1 = .ok (.new z.2.2.2.1, 3)) && decide (decode (q_b z.1) (z.2.1 + 3) = .ok (.dup, 1)) && decide (decode (q_b z.1) (z.2.1 + 4) = .ok (.ldc z.2.2.2.2.1, 2)) && decide (decode (q_b z.1) (z.2.1 + 6) = .ok (.invokespecial z.2.2.2.2.2.1, 3)) && decide (decode (q_b z.1) (z.2.1 + 9) = .ok (.athrow, 1)) &&
  decide (8 ≤ (q_rm z.1).1) && decide (130 ≤ (q_rm z.1).2.1)
set_option maxRecDepth 100000 in
theorem q_ths_ok : q_ths.all q_chkT = true := by decide +kernel
def q_ctk : List (Nat × Nat) := (q_ths.map (fun z => (z.2.2.2.2.2.1, z.2.2.1))).eraseDups
def q_okw (w : Jvm.Cond) : Bool := decide (w ∈ lw_tbl) && (goodWord w || q_cd w) && vx_ot w
set_option maxRecDepth 100000 in
theorem q_ctk_ok : q_ctk.all (fun c => (vx_atS "Marktongue" c.1 (q_exn c.2) q_nm).all q_okw) = true := by decide +kernel
set_option maxRecDepth 100000 in
theorem q_ctk_in : q_ths.all (fun z => decide ((z.2.2.2.2.2.1, z.2.2.1) ∈ q_ctk)) = true := by decide +kernel
def q_ct (M : Nat) (e : Nat × qI) : Bool := match e.2.2.1 with
  | .new _ => decide (q_a e.2.2.2.2 2 ≠ 1) || q_ths.any (fun z => decide (z.1 = M ∧ z.2.1 = e.1 ∧ z.2.2.1 = q_a e.2.2.2.2 0))
  | _ => true
set_option maxRecDepth 100000 in
theorem q_ct_all : ((List.range q_codes.length).all fun M => (q_codes.getD M []).all (q_ct M)) = true := by decide +kernel
theorem q_thr_of {M pc k : Nat} (h : q_thr M pc k) : ∃ z ∈ q_ths, z.1 = M ∧ z.2.1 = pc ∧ z.2.2.1 = k := by
  obtain ⟨idx, v, a, h1, h2, h3⟩ := h
  unfold q_ft1 at h1
  obtain ⟨l1, l2, e, -⟩ := List.lookup_eq_some_iff.mp h1
  have hM : M < q_codes.length := by
    refine Nat.lt_of_not_le fun hle => ?_
    rw [List.getD_eq_getElem?_getD, List.getElem?_eq_none hle] at h1
    cases h1
  have hc := List.all_eq_true.mp (List.all_eq_true.mp q_ct_all M (List.mem_range.mpr hM)) (pc, 3, .new idx, v, a) (by rw [e]; simp)
  simp only [q_ct, Bool.or_eq_true, decide_eq_true_eq, List.any_eq_true] at hc
  rcases hc with hc | ⟨z, hz, h4, h5, h6⟩
  · exact absurd h2 hc
  · exact ⟨z, hz, h4, h5, h6.trans h3⟩
theorem q_fit : ∀ k, k < 3 → Bundle.fit (q_exn k) = true := by decide +kernel
theorem q_fitn : ∀ n ∈ q_nm, Bundle.fit n = true := by decide +kernel
theorem q_ini3 : ∀ k, k < 3 → (decide (Jvm.Cond.initialized (q_exn k) ∈ lw_tbl) && goodWord (.initialized (q_exn k))) = true := by decide +kernel
theorem q_cst3 : ∀ k, k < 3 → decide (Jvm.Cond.castable (q_exn k) (q_exn k) ∈ lw_tbl) = true := by decide +kernel
theorem q_cd_tab {w : Jvm.Cond} (h : q_cd w = true) : w.onTables = true := by
  cases w <;> first | (cases h; done) | rfl
section QThrow
variable {D : va_G} {cI cZ cJ : ClassId} {M : Nat} {p : Program} {l : Launch} {e : Env} {R : Room} {s : State} {m : MethodId} {args : Array Value} {below : List Frame} {meth : Method} {c : Code} {Qm : State → Prop} {A : Nat → Prop} {H0 H : Heap} {locs : List Loc} {b xl : Nat} {xs : Nat → Int32} {ad : Nat → Nat} {ls : Array Slot} {lp lp' : List (Option qV)} {st st' : List qV} {S S' : qS} {z z' : qM} {kc ks kc' ks' pc len : Nat} {i : Instr} {v : Int} {a ws : List Nat} {P : Prop} {Q : qQ}
theorem q_throw_ok {k mc ms : Nat} {Qc : Array Value → State → Outcome → State → Prop} {XC : String → State → State → Prop} {free : Addr → Prop} (hl : l.stackTraces = false) (C0 : q_Cx D cI cZ cJ M p R s m args meth c A s.heap b xl xs) (hT : q_thr M pc k) (hS : va_S A s.heap H locs) (hsize : ls.size = q_nL M)
    (hRc : kc + 1 ≤ R.cells) (hRs : ks + 6 ≤ R.slots) (hc : kc + 1 ≤ mc) (hs : ks + 6 ≤ ms) (hout : ∀ x ∈ c.exceptionTable.toList, covers x (pc + 9) = false) (hlocks : meth.locks = false)
    (hx : k < 3 → ∀ t : State, s.vm.Alike t.vm → H.size ≤ t.heap.size → (∀ q : Nat, q < H.size → t.heap[q]? = H[q]?) → XC (q_exn k) s t) (hf : ∀ z ∈ locs, free z.base) :
    W p l e R s m args below meth c H locs kc ks (vx_MQ below Qc XC args s mc ms free) (F0 m pc ls []) := by
  obtain ⟨w, hw, rfl, rfl, rfl⟩ := q_thr_of hT
  have hck := List.all_eq_true.mp q_ths_ok w hw
  have hin := of_decide_eq_true (List.all_eq_true.mp q_ctk_in w hw)
  have hat := List.all_eq_true.mp q_ctk_ok _ hin
  unfold q_chkT at hck
  simp only [Bool.and_eq_true, decide_eq_true_eq] at hck
  obtain ⟨⟨⟨⟨⟨⟨⟨⟨⟨⟨g1, g2⟩, g3⟩, g4⟩, d0⟩, d3⟩, d4⟩, d6⟩, d9⟩, g5⟩, g6⟩ := hck
  have hE := C0.2.2.2.2.2.2.2.2.2.2.2.1
  have hR := C0.2.2.2.2.2.2.2.2.1
  have hts := C0.2.2.2.2.1
  obtain ⟨sa, hsa⟩ := hE.2.2.1 _ _ _ (List.mem_of_getElem? g4)
  have hini := q_ini3 _ g2
  simp only [Bool.and_eq_true, decide_eq_true_eq] at hini
  have hown := C0.2.2.2.1
  rw [g1] at hown
  refine vx_throwS C0.1 C0.2.1 hl (names := q_nm) hown (q_fit _ g2) q_fitn (hts _ (q_has_mem g3)) (hts _ (List.mem_filter.mpr hini)) hsa (fun w' hw' => ?_) (fun w' hw' => ?_) hE.1 hE.2.1 hS (hsize.trans C0.2.2.1.symm) d0 d3 d4 d6 d9 hout
    (by show 2 + 3 < R.frames; have := hR.1; omega) (by show 0 + (13 * (2 + 1) + 43) ≤ R.locals; have := hR.2.1; omega) hRc hRs hlocks (hx g2) hf hc hs
  · have := List.all_eq_true.mp hat w' hw'
    simp only [q_okw, Bool.and_eq_true, Bool.or_eq_true, decide_eq_true_eq] at this
    rcases this.1.2 with h | h
    · exact hts _ (List.mem_filter.mpr ⟨this.1.1, h⟩)
    · exact va_Nw.use (q_cd_tab h) (hE.2.2.2.1 _ this.1.1 h)
  · rcases List.mem_cons.mp hw' with rfl | hw'
    · rfl
    · rcases List.mem_cons.mp hw' with rfl | hw'
      · rfl
      · have := List.all_eq_true.mp hat w' hw'
        simp only [q_okw, Bool.and_eq_true] at this
        exact this.2
def q_XC (D : va_G) (cI cZ cJ : ClassId) (R : qQ) (ad : Nat → Nat) (b : Nat) (S : qS) (A1 : Nat → Prop) : String → State → State → Prop := fun E st t =>
  (∃ (k : Nat) (ad' : Nat → Nat) (S' : qS) (z' : qM), k < 3 ∧ E = q_exn k ∧ q_Qb D cI cZ cJ R ad b S A1 (.inr k) ad' S' z' t) ∧ va_F A1 st t
set_option maxHeartbeats 4000000 in
/-- the contract of a method that may throw -/
theorem q_vmet {as : List qV} {Rq : qQ} (hl : l.stackTraces = false) (hm : q_chkM M = true) (hmk : q_mk M = 0) (hM0 : M ≠ 0) (hlen : (q_en as).length ≤ q_nL M) (hP : va_P D q_cl (q_ws cI cZ cJ ad S z) H) (hD : va_D A (q_ws cI cZ cJ ad S z)) (hrg : q_rg S z) (hwf : q_wf S) (hok : ∀ v ∈ as, q_ok S.length v)
    (hY : q_Y l D cI cZ cJ xl xs M (0, q_pad (q_nL M) (q_en as), [], S, z, 0, 0) Rq) :
    vx_Met l (q_y M) (q_wsM M) (q_rmM M) (q_Pc D cI cZ cJ (as.map (q_mv ad b)) H (va_A (q_ws cI cZ cJ ad S z) H.size)) (q_Qc D cI cZ cJ Rq ad b S (va_A (q_ws cI cZ cJ ad S z) H.size)) (q_XC D cI cZ cJ Rq ad b S (va_A (q_ws cI cZ cJ ad S z) H.size)) (q_rm M).2.2.1 (q_rm M).2.2.2 (va_A (q_ws cI cZ cJ ad S z) H.size) := by
  refine vx_ofW (cc := q_b M) (maxL := q_nL M) (ret := q_rt M) (q_chkM_of hm).2.2.1 rfl ?_
  intro p e s m args below meth c s₁ B hml hnox hv
  obtain ⟨rfl, hsz, hK, hN, hE⟩ := hv
  subst hsz
  have hx := B.exec
  have hb := B.bytes
  have hr := B.returns
  have hts := atoms_spec (ws := q_wsM M) B.pre
  have hlocks := B.notSynchronized
  have C1 : q_Cx D cI cZ cJ M p (headSpec (q_wsM M) (q_rmM M)).room s m (as.map (q_mv ad b)).toArray meth c (va_A (q_ws cI cZ cJ ad S z) s.heap.size) s.heap b xl xs := ⟨hx, hb, hml, findClass_of_methodNamed B.named, fun w hw => hts w (List.mem_cons_of_mem _ hw), hN, hK, fun h => ((name_of_methodNamed B.named B.method).1).trans h, ⟨Nat.le_refl _, Nat.le_refl _, Nat.le_refl _, Nat.le_refl _⟩, fun q h => Or.inr h, fun h => absurd h hM0, hE, fun h => by rw [hmk] at h; cases h⟩
  rw [lg_entry_eq]
  refine hY p e _ s m _ below meth c _ (va_A (q_ws cI cZ cJ ad S z) s.heap.size) s.heap s.heap [] b ad _ C1
    ⟨hP, hD.self, va_S.rf, hrg, hwf⟩ ⟨q_start hlen, fun i v hv => hok v (q_pad_mem hv), fun v hv => (by cases hv), Nat.zero_le _, Nat.zero_le _⟩ ?_ ?_
  · intro pc' ls' v S' z' ad' H' locs' kc' ks' hq hrok hn hag Wd' hvok hkc hks
    refine vx_ret (W.widen hkc hks ?_)
    have post : ∀ t : State, t.heap = H' → q_Qc D cI cZ cJ Rq ad b S (va_A (q_ws cI cZ cJ ad S z) s.heap.size) (as.map (q_mv ad b)).toArray s (.returned (v.map (q_mv ad' b))) t := fun t ht =>
      ⟨⟨v, ad', S', z', rfl, ⟨hq, hn, hag, by rw [ht]; exact Wd'.1, Wd'.2.1, Wd'.2.2.2.1, Wd'.2.2.2.2⟩, hvok⟩, ⟨by rw [ht]; exact Wd'.2.2.1.1, fun q h1 h2 => by rw [ht]; exact Wd'.2.2.1.2.1 q h1 h2⟩⟩
    match v, hrok, hvok with
    | none, hrok, hvok => exact W.vret hx hb (hr.trans hrok.2) (fun t ht hW => post t ht) Wd'.2.2.1.2.2 hrok.1
    | some (.inl x), hrok, hvok =>
      rcases hrok.2 with h2 | ⟨h2, h3, h4⟩
      · exact W.iret hx hb (hr.trans h2) (fun t ht hW => post t ht) Wd'.2.2.1.2.2 hrok.1
      · exact W.zret hx hb (hr.trans h2) (q_narZ h3 h4).1 (fun t ht hW => post t ht) Wd'.2.2.1.2.2 hrok.1
    | some (.inr (.inl x)), hrok, hvok => exact W.lret hx hb (hr.trans hrok.2) (fun t ht hW => post t ht) Wd'.2.2.1.2.2 hrok.1
    | some (.inr (.inr (.inl (some r)))), hrok, hvok =>
      obtain ⟨h1, n, h2⟩ := hrok
      exact W.aret hx hb (hr.trans h2) (Or.inl ⟨n, rfl⟩) (Or.inr ⟨_, rfl⟩) (fun t ht hW => post t ht) Wd'.2.2.1.2.2 h1
    | some (.inr (.inr (.inl none))), hrok, hvok => exact hrok.elim
    | some (.inr (.inr (.inr u))), hrok, hvok => exact hrok.elim
  · intro pc' ls' k S' z' ad' H' locs' kc' ks' hq hthr hn hag Wd' hsize hkc hks
    refine q_throw_ok hl C1 hthr Wd'.2.2.1 hsize hkc hks hkc hks (fun x hx => (hnox x hx).elim) hlocks (fun hk t hal hsz2 hkeep => ?_) Wd'.2.2.1.2.2
    refine ⟨⟨k, ad', S', z', hk, rfl, hq, hn, hag, Wd'.1.kept (fun j q hj => hkeep q.1 (Wd'.1 j q hj).lt), Wd'.2.1, Wd'.2.2.2.1, Wd'.2.2.2.2⟩, Nat.le_trans Wd'.2.2.1.1 hsz2, fun q h1 h2 => ?_⟩
    rw [hkeep q (Nat.lt_of_lt_of_le h1 Wd'.2.2.1.1)]
    exact Wd'.2.2.1.2.1 q h1 h2
end QThrow
