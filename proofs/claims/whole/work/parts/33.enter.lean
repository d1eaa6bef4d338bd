/-! The law's entry: out of one run of the pure machine, from an empty heap, the law's walk. -/
def q_okC (k : Nat) : Bool := lw_tbl.any fun w => decide (w = .instantiable (q_C k) (q_N k)) && goodWord w
set_option maxRecDepth 100000 in
theorem q_okC_all : (List.range q_ft.length).all q_okC = true := by decide +kernel
set_option maxRecDepth 100000 in
theorem q_arrw : Jvm.Cond.arrayClass .int ∈ q_tb ∧ Jvm.Cond.arrayClass .boolean ∈ q_tb ∧ Jvm.Cond.arrayClass .long ∈ q_tb := by
  refine ⟨List.mem_filter.mpr ⟨?_, rfl⟩, List.mem_filter.mpr ⟨?_, rfl⟩, List.mem_filter.mpr ⟨?_, rfl⟩⟩ <;> decide +kernel
def q_okS : Jvm.Cond → Bool
  | .stringRef o k _ => decide (Jvm.Cond.exactly (.string o k) "java/lang/String" ∈ flatC (Jvm.Cond.and given_1 narrow_1))
  | _ => true
set_option maxRecDepth 100000 in
theorem q_okS_all : lw_tbl.all q_okS = true := by decide +kernel
def q_okN : Bool := (List.range 3).all fun i => (List.range 3).all fun j => decide (i = j) || decide (Jvm.Cond.not (.castable (q_exn i) (q_exn j)) ∈ flatC (Jvm.Cond.and given_1 narrow_1))
set_option maxRecDepth 100000 in
theorem q_okN_ok : q_okN = true := by decide +kernel
def q_okT : Bool := decide (Jvm.Cond.laysStatic Bundle.tN "UNASSIGNED_STACK" Bundle.steD ∈ lw_tbl) && decide (Jvm.Cond.laysStatic Bundle.tN "SUPPRESSED_SENTINEL" Bundle.listD ∈ lw_tbl) && decide (Jvm.Cond.initialized Bundle.tN ∈ lw_tbl) &&
  decide (Jvm.Cond.isRef (.static Bundle.tN "UNASSIGNED_STACK" Bundle.steD) ∈ flatC (Jvm.Cond.and given_1 narrow_1)) && decide (Jvm.Cond.isRef (.static Bundle.tN "SUPPRESSED_SENTINEL" Bundle.listD) ∈ flatC (Jvm.Cond.and given_1 narrow_1))
set_option maxRecDepth 100000 in
theorem q_okT_ok : q_okT = true := by decide +kernel
theorem q_arrOf {args : Array Value} {s : State} {ty : FieldType} (h : (Jvm.Cond.arrayClass ty).before args s = true) : ∃ cA : ClassId, ArrOfT s cA ty ∧ s.vm.findClass ("[" ++ ty.toString) = some cA := by
  obtain ⟨cA, kA, comp, h1, h2, h3⟩ := Cond.arrayClass_spec h
  exact ⟨cA, fun n z => ⟨fun k h => (by cases h), kA, h2, comp, h3⟩, h1⟩
theorem q_known {args : Array Value} {s : State} (hts : ∀ w ∈ q_tb, w.before args s = true) : ∃ (D : va_G) (cI cZ cJ : ClassId), va_K D q_cl (q_tys cI cZ cJ) s := by
  have h : ∀ k, ∃ z : ClassId × (Nat → Nat), k < q_ft.length → u_Kn s (q_C k) (q_T k) (q_N k) z.1 z.2 := by
    intro k
    by_cases hk : k < q_ft.length
    · have h1 := List.all_eq_true.mp q_okC_all k (List.mem_range.mpr hk)
      simp only [q_okC, List.any_eq_true, Bool.and_eq_true, decide_eq_true_eq] at h1
      obtain ⟨w, hw, rfl, hg⟩ := h1
      obtain ⟨cC, iS, h2⟩ := u_known (C := q_C k) (T := q_T k) (N := q_N k) hts (q_cf_in hk) (hts _ (List.mem_filter.mpr ⟨hw, hg⟩))
      exact ⟨(cC, iS), fun _ => h2⟩
    · exact ⟨(default, fun _ => 0), fun h => absurd h hk⟩
  obtain ⟨cI, a1, a2⟩ := q_arrOf (hts _ q_arrw.1)
  obtain ⟨cZ, b1, b2⟩ := q_arrOf (hts _ q_arrw.2.1)
  obtain ⟨cJ, c1, c2⟩ := q_arrOf (hts _ q_arrw.2.2)
  refine ⟨(fun k => (Classical.choose (h k)).1, fun k => (Classical.choose (h k)).2), cI, cZ, cJ, fun k q hq => ?_, fun k q hq => ?_⟩
  · have hk : k < q_ft.length := by
      have := (List.getElem?_eq_some_iff.mp hq).1
      simpa [q_cl] using this
    cases Option.some.inj (hq.symm.trans (q_cl_get hk))
    exact Classical.choose_spec (h k) hk
  · match k, hq with
    | 0, hq => cases hq; exact ⟨a1, a2⟩
    | 1, hq => cases hq; exact ⟨b1, b2⟩
    | 2, hq => cases hq; exact ⟨c1, c2⟩
    | k + 3, hq => simp [q_tys] at hq
theorem q_Ex_start {args : Array Value} {s : State} {A : Nat → Prop} (hts : ∀ w ∈ lw_tbl, w.before args s = true) (hnw : (Jvm.Cond.and given_1 narrow_1).before args s = true) (hA : ∀ a : Nat, a < s.heap.size → ¬ A a) : q_Ex A s s.heap := by
  have hf := flat_of_before _ hnw
  have hT := q_okT_ok
  simp only [q_okT, Bool.and_eq_true, decide_eq_true_eq] at hT
  obtain ⟨⟨⟨⟨t1, t2⟩, t3⟩, t4⟩, t5⟩ := hT
  refine ⟨vx_Zqof (hts _ t1) (hts _ t3) (hf _ t4) hA, vx_Zqof (hts _ t2) (hts _ t3) (hf _ t5) hA, fun o k t hm => ?_, fun w hw hc => va_Nw.of (q_cd_tab hc) (hts w hw), fun i j hi hj hn => ?_⟩
  · have h1 := List.all_eq_true.mp q_okS_all _ hm
    have h2 := hf _ (of_decide_eq_true h1)
    obtain ⟨a, c, cell, k', e1, -⟩ := Cond.exactly_spec h2
    exact ⟨a, vk_R.of (hts _ hm) e1⟩
  · have h1 := List.all_eq_true.mp (List.all_eq_true.mp q_okN_ok i (List.mem_range.mpr hi)) j (List.mem_range.mpr hj)
    simp only [Bool.or_eq_true, decide_eq_true_eq] at h1
    exact va_Nc.of (hf _ (h1.resolve_left hn))
