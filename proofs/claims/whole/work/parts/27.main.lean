/-! What a frame owes; calls; the whole step. -/
def q_rok (M pc : Nat) (v : Option qV) : Prop := match v with
  | none => decode (q_b M) pc = .ok (.return_, 1) ∧ q_rt M = none
  | some (.inl x) => decode (q_b M) pc = .ok (.ireturn, 1) ∧ (q_rt M = some .int ∨ (q_rt M = some .boolean ∧ 0 ≤ x ∧ x ≤ 1))
  | some (.inr (.inl _)) => decode (q_b M) pc = .ok (.lreturn, 1) ∧ q_rt M = some .long
  | some (.inr (.inr (.inl (some _)))) => decode (q_b M) pc = .ok (.areturn, 1) ∧ ∃ n, q_rt M = some (.object n)
  | _ => False
def q_thr (M pc k : Nat) : Prop := ∃ (idx : Nat) (v : Int) (a : List Nat), q_ft1 M pc = some (3, .new idx, v, a) ∧ q_a a 2 = 1 ∧ q_a a 0 = k
section QMain
variable (D : va_G) (cI cZ cJ : ClassId) (M : Nat) (p : Program) (l : Launch) (e : Env) (R : Room) (s : State) (m : MethodId) (args : Array Value) (below : List Frame) (meth : Method) (c : Code) (Qm : State → Prop) (A : Nat → Prop) (H0 : Heap) (b : Nat)
/-- what a frame's end gives, where it returns -/
def q_HR (Q : qQ) (n : Nat) (ad : Nat → Nat) : Prop := ∀ (pc' : Nat) (ls' : Array Slot) (v : Option qV) (S' : qS) (z' : qM) (ad' : Nat → Nat) (H' : Heap) (locs' : List Loc) (kc' ks' : Nat),
  Q (.inl v) S' z' → q_rok M pc' v → n ≤ S'.length → (∀ r, r < n → ad' r = ad r) → q_Wd D cI cZ cJ A H0 ad' S' z' H' locs' → (∀ w, v = some w → q_ok S'.length w) → kc' ≤ (q_rm M).2.2.1 → ks' ≤ (q_rm M).2.2.2 →
  W p l e R s m args below meth c H' locs' kc' ks' Qm (F0 m pc' ls' (v.toList.map (q_mv ad' b)))
/-- .. where it throws -/
def q_HT (Q : qQ) (n : Nat) (ad : Nat → Nat) : Prop := ∀ (pc' : Nat) (ls' : Array Slot) (k : Nat) (S' : qS) (z' : qM) (ad' : Nat → Nat) (H' : Heap) (locs' : List Loc) (kc' ks' : Nat),
  Q (.inr k) S' z' → q_thr M pc' k → n ≤ S'.length → (∀ r, r < n → ad' r = ad r) → q_Wd D cI cZ cJ A H0 ad' S' z' H' locs' → ls'.size = q_nL M → kc' + 1 ≤ (q_rm M).2.2.1 → ks' + 6 ≤ (q_rm M).2.2.2 →
  W p l e R s m args below meth c H' locs' kc' ks' Qm (F0 m pc' ls' [])
end QMain
theorem q_HR.moved {D : va_G} {cI cZ cJ : ClassId} {M : Nat} {p : Program} {l : Launch} {e : Env} {R : Room} {s : State} {m : MethodId} {args : Array Value} {below : List Frame} {meth : Method} {c : Code} {Qm : State → Prop} {A : Nat → Prop} {H0 : Heap} {b n n' : Nat} {Q : qQ} {ad ad' : Nat → Nat}
    (h : q_HR D cI cZ cJ M p l e R s m args below meth c Qm A H0 b Q n ad) (hn : n ≤ n') (ha : ∀ r, r < n → ad' r = ad r) : q_HR D cI cZ cJ M p l e R s m args below meth c Qm A H0 b Q n' ad' :=
  fun pc' ls' v S' z' ad2 H' locs' kc' ks' h1 h2 h3 h4 => h pc' ls' v S' z' ad2 H' locs' kc' ks' h1 h2 (Nat.le_trans hn h3) (fun r hr => (h4 r (Nat.lt_of_lt_of_le hr hn)).trans (ha r hr))
theorem q_HT.moved {D : va_G} {cI cZ cJ : ClassId} {M : Nat} {p : Program} {l : Launch} {e : Env} {R : Room} {s : State} {m : MethodId} {args : Array Value} {below : List Frame} {meth : Method} {c : Code} {Qm : State → Prop} {A : Nat → Prop} {H0 : Heap} {n n' : Nat} {Q : qQ} {ad ad' : Nat → Nat}
    (h : q_HT D cI cZ cJ M p l e R s m args below meth c Qm A H0 Q n ad) (hn : n ≤ n') (ha : ∀ r, r < n → ad' r = ad r) : q_HT D cI cZ cJ M p l e R s m args below meth c Qm A H0 Q n' ad' :=
  fun pc' ls' v S' z' ad2 H' locs' kc' ks' h1 h2 h3 h4 => h pc' ls' v S' z' ad2 H' locs' kc' ks' h1 h2 (Nat.le_trans hn h3) (fun r hr => (h4 r (Nat.lt_of_lt_of_le hr hn)).trans (ha r hr))
def q_Y (l : Launch) (D : va_G) (cI cZ cJ : ClassId) (xl : Nat) (xs : Nat → Int32) (M : Nat) (q : qC) (Q : qQ) : Prop := match q with
  | (pc, lp, st, S, z, kc, ks) => ∀ (p : Program) (e : Env) (R : Room) (s : State) (m : MethodId) (args : Array Value) (below : List Frame) (meth : Method) (c : Code) (Qm : State → Prop) (A : Nat → Prop) (H0 H : Heap) (locs : List Loc) (b : Nat) (ad : Nat → Nat) (ls : Array Slot),
    q_Cx D cI cZ cJ M p R s m args meth c A H0 b xl xs → q_Wd D cI cZ cJ A H0 ad S z H locs → q_Fr ad b M ls lp st S kc ks → q_HR D cI cZ cJ M p l e R s m args below meth c Qm A H0 b Q S.length ad → q_HT D cI cZ cJ M p l e R s m args below meth c Qm A H0 Q S.length ad →
    W p l e R s m args below meth c H locs kc ks Qm (F0 m pc ls (st.map (q_mv ad b)))
section QStep
variable {D : va_G} {cI cZ cJ : ClassId} {M : Nat} {p : Program} {l : Launch} {e : Env} {R : Room} {s : State} {m : MethodId} {args : Array Value} {below : List Frame} {meth : Method} {c : Code} {Qm : State → Prop} {A : Nat → Prop} {H0 H : Heap} {locs : List Loc} {b xl : Nat} {xs : Nat → Int32} {ad : Nat → Nat} {ls : Array Slot} {lp lp' : List (Option qV)} {st st' : List qV} {S S' : qS} {z z' : qM} {kc ks kc' ks' pc len : Nat} {i : Instr} {v : Int} {a ws : List Nat} {P : Prop} {Q : qQ}
theorem q_Y_KK (C0 : q_Cx D cI cZ cJ M p R s m args meth c A H0 b xl xs) (HR : q_HR D cI cZ cJ M p l e R s m args below meth c Qm A H0 b Q S.length ad) (HT : q_HT D cI cZ cJ M p l e R s m args below meth c Qm A H0 Q S.length ad)
    (h : q_Y l D cI cZ cJ xl xs M (pc, lp', st', S', z', kc', ks') Q) : q_KK D cI cZ cJ M p l e R s m args below meth c Qm A H0 b ad S pc lp' st' S' z' kc' ks' :=
  fun ad' ls' H' locs' hl hag Wd' F' => h p e R s m args below meth c Qm A H0 H' locs' b ad' ls' C0 Wd' F' (HR.moved hl hag) (HT.moved hl hag)
/-- the contract of a plain method, out of one run of the pure machine -/
def q_wsM (M : Nat) : List Jvm.Cond := .code (q_y M) (q_b M) (q_nL M) (q_rt M) :: q_tb
def q_rmM (M : Nat) : Room := { frames := (q_rm M).1, cells := (q_rm M).2.2.1, slots := (q_rm M).2.2.2, locals := (q_rm M).2.1 }
def q_Pc (D : va_G) (cI cZ cJ : ClassId) (av : List Value) (Hc : Heap) (A1 : Nat → Prop) : Array Value → State → Prop := fun v U => v = av.toArray ∧ U.heap = Hc ∧ va_K D q_cl (q_tys cI cZ cJ) U ∧ (∀ o i y h, Jvm.Cond.methodLinkNest o i y h ∈ lw_tbl → va_Nw (.methodLinkNest o i y h) U) ∧ q_Ex A1 U Hc
def q_Qb (D : va_G) (cI cZ cJ : ClassId) (R : qQ) (ad : Nat → Nat) (b : Nat) (S : qS) (A1 : Nat → Prop) (k : qR) (ad' : Nat → Nat) (S' : qS) (z' : qM) (t : State) : Prop :=
  R k S' z' ∧ S.length ≤ S'.length ∧ (∀ r, r < S.length → ad' r = ad r) ∧ va_P D q_cl (q_ws cI cZ cJ ad' S' z') t.heap ∧ va_D A1 (q_ws cI cZ cJ ad' S' z') ∧ q_rg S' z' ∧ q_wf S'
def q_Qc (D : va_G) (cI cZ cJ : ClassId) (R : qQ) (ad : Nat → Nat) (b : Nat) (S : qS) (A1 : Nat → Prop) : Array Value → State → Outcome → State → Prop := fun _ st oc t =>
  (∃ (v : Option qV) (ad' : Nat → Nat) (S' : qS) (z' : qM), oc = .returned (v.map (q_mv ad' b)) ∧ q_Qb D cI cZ cJ R ad b S A1 (.inl v) ad' S' z' t ∧ ∀ w, v = some w → q_ok S'.length w) ∧ va_F A1 st t
theorem q_chkM_of {M : Nat} (h : q_chkM M = true) : (q_y M).cls ≠ "java/lang/invoke/MethodHandle" ∧ (q_y M).cls ≠ "java/lang/invoke/VarHandle" ∧ plainName (q_y M).cls = true ∧ (q_mk M = 0 → Jvm.Cond.code (q_y M) (q_b M) (q_nL M) (q_rt M) ∈ q_tb) := by
  unfold q_chkM at h
  simp only [Bool.and_eq_true, decide_eq_true_eq] at h
  obtain ⟨⟨⟨h1, h2⟩, h3⟩, h4⟩ := h
  refine ⟨h1, h2, h3, fun h0 => ?_⟩
  rw [if_pos h0] at h4
  exact q_has_mem h4
theorem q_lv_pad : ∀ (as : List qV) (k n : Nat), q_lv ad b k (q_en as ++ List.replicate n none) = lv_args k (as.map (q_mv ad b))
  | [], k, n => by
    show q_lv ad b k (List.replicate n none) = []
    induction n generalizing k with
    | zero => rfl
    | succ n ih => exact ih (k + 1)
  | v :: r, k, n => by
    show q_lv ad b k ((if q_cat v = 2 then some v :: none :: q_en r else some v :: q_en r) ++ List.replicate n none) = (k, q_mv ad b v) :: lv_args (if (q_mv ad b v).category = 2 then k + 2 else k + 1) (r.map (q_mv ad b))
    rw [q_mv_cat]
    by_cases h : q_cat v = 2
    · rw [if_pos h, if_pos h]
      show (k, q_mv ad b v) :: q_lv ad b (k + 1 + 1) (q_en r ++ _) = _
      rw [q_lv_pad r]
    · rw [if_neg h, if_neg h]
      show (k, q_mv ad b v) :: q_lv ad b (k + 1) (q_en r ++ _) = _
      rw [q_lv_pad r]
theorem q_sl_len : ∀ (as : List qV), (lg_sl (as.map (q_mv ad b))).length = (q_en as).length
  | [] => rfl
  | v :: r => by
    have ih := q_sl_len r
    unfold lg_sl at ih ⊢
    rw [List.map_cons, List.flatMap_cons, List.length_append, ih, q_mv_cat]
    show _ = (if q_cat v = 2 then some v :: none :: q_en r else some v :: q_en r).length
    by_cases h : q_cat v = 2
    · rw [if_pos h, if_pos h]; simp; omega
    · rw [if_neg h, if_neg h]; simp; omega
theorem q_en_mem : ∀ (as : List qV) {j : Nat} {u : qV}, (q_en as)[j]? = some (some u) → u ∈ as
  | [], j, u, h => by simp [q_en] at h
  | v :: r, j, u, h => by
    have h : (if q_cat v = 2 then some v :: none :: q_en r else some v :: q_en r)[j]? = some (some u) := h
    by_cases hc : q_cat v = 2
    · rw [if_pos hc] at h
      match j, h with
      | 0, h => simp at h; subst h; exact List.mem_cons_self
      | 1, h => simp at h
      | j + 2, h => exact List.mem_cons_of_mem _ (q_en_mem r (j := j) (by simpa using h))
    · rw [if_neg hc] at h
      match j, h with
      | 0, h => simp at h; subst h; exact List.mem_cons_self
      | j + 1, h => exact List.mem_cons_of_mem _ (q_en_mem r (j := j) (by simpa using h))
theorem q_pad_mem {as : List qV} {n j : Nat} {u : qV} (h : (q_pad n (q_en as))[j]? = some (some u)) : u ∈ as := by
  unfold q_pad at h
  by_cases hj : j < (q_en as).length
  · rw [List.getElem?_append_left hj] at h
    exact q_en_mem as h
  · rw [List.getElem?_append_right (by omega), List.getElem?_replicate] at h
    split at h <;> simp at h
/-- the locals at a method's start -/
theorem q_start {as : List qV} (h : (q_en as).length ≤ q_nL M) : q_LR ad b (q_nL M) ((lg_sl (as.map (q_mv ad b)) ++ List.replicate (q_nL M - (lg_sl (as.map (q_mv ad b))).length) Slot.unset).toArray) (q_pad (q_nL M) (q_en as)) := by
  refine ⟨?_, by unfold q_pad; simp; omega⟩
  unfold q_pad
  rw [q_lv_pad]
  exact lv_entry _ (by rw [q_sl_len]; exact h)
set_option maxHeartbeats 4000000 in
theorem q_met {as : List qV} {Rq : qQ} (hm : q_chkM M = true) (hmk : q_mk M = 0) (hM0 : M ≠ 0) (hlen : (q_en as).length ≤ q_nL M) (hP : va_P D q_cl (q_ws cI cZ cJ ad S z) H) (hD : va_D A (q_ws cI cZ cJ ad S z)) (hrg : q_rg S z) (hwf : q_wf S) (hok : ∀ v ∈ as, q_ok S.length v)
    (hY : q_Y l D cI cZ cJ xl xs M (0, q_pad (q_nL M) (q_en as), [], S, z, 0, 0) Rq) (hno : ∀ k S' z', ¬ Rq (.inr k) S' z') :
    Met l (q_y M) (q_wsM M) (q_rmM M) (q_Pc D cI cZ cJ (as.map (q_mv ad b)) H (va_A (q_ws cI cZ cJ ad S z) H.size)) (q_Qc D cI cZ cJ Rq ad b S (va_A (q_ws cI cZ cJ ad S z) H.size)) (q_rm M).2.2.1 (q_rm M).2.2.2 (va_A (q_ws cI cZ cJ ad S z) H.size) := by
  refine Met.ofW (cc := q_b M) (maxL := q_nL M) (ret := q_rt M) (q_chkM_of hm).2.2.1 rfl ?_
  intro p e s m args below meth c s₁ B hml hv
  obtain ⟨rfl, hsz, hK, hN, hE⟩ := hv
  have hx := B.exec
  have hb := B.bytes
  have hr := B.returns
  have hts := atoms_spec (ws := q_wsM M) B.pre
  have hlocks := B.notSynchronized
  rw [hsz, lg_entry_eq]
  refine hY p e _ s m _ below meth c _ (va_A (q_ws cI cZ cJ ad S z) H.size) H H [] b ad _ ⟨hx, hb, hml, findClass_of_methodNamed B.named, fun w hw => hts w (List.mem_cons_of_mem _ hw), hN, hK, fun h => ((name_of_methodNamed B.named B.method).1).trans h, ⟨Nat.le_refl _, Nat.le_refl _, Nat.le_refl _, Nat.le_refl _⟩, fun q h => Or.inr h, fun h => absurd h hM0, hE, fun h => by rw [hmk] at h; cases h⟩
    ⟨hP, hD.self, va_S.rf, hrg, hwf⟩ ⟨q_start hlen, fun i v hv => hok v (q_pad_mem hv), fun v hv => (by cases hv), Nat.zero_le _, Nat.zero_le _⟩ ?_ ?_
  · intro pc' ls' v S' z' ad' H' locs' kc' ks' hq hrok hn hag Wd' hvok hkc hks
    refine W.widen hkc hks ?_
    have post : ∀ t : State, t.heap = H' → q_Qc D cI cZ cJ Rq ad b S (va_A (q_ws cI cZ cJ ad S z) H.size) (as.map (q_mv ad b)).toArray s (.returned (v.map (q_mv ad' b))) t := fun t ht =>
      ⟨⟨v, ad', S', z', rfl, ⟨hq, hn, hag, by rw [ht]; exact Wd'.1, Wd'.2.1, Wd'.2.2.2.1, Wd'.2.2.2.2⟩, hvok⟩, ⟨by rw [ht, hsz]; exact Wd'.2.2.1.1, fun q h1 h2 => by rw [ht, hsz]; rw [hsz] at h1; exact Wd'.2.2.1.2.1 q h1 h2⟩⟩
    match v, hrok, hvok with
    | none, hrok, hvok => exact W.vret hx hb (hr.trans hrok.2) (fun t ht hW => post t ht) Wd'.2.2.1.2.2 hrok.1
    | some (.inl x), hrok, hvok =>
      rcases hrok.2 with h2 | ⟨h2, h3, h4⟩
      · exact W.iret hx hb (hr.trans h2) (fun t ht hW => post t ht) Wd'.2.2.1.2.2 hrok.1
      · exact W.zret hx hb (hr.trans h2) (q_narZ h3 h4).1 (fun t ht hW => post t ht) Wd'.2.2.1.2.2 hrok.1
    | some (.inr (.inl x)), hrok, hvok => exact W.lret hx hb (hr.trans hrok.2) (fun t ht hW => post t ht) Wd'.2.2.1.2.2 hrok.1
    | some (.inr (.inr (.inl (some r)))), hrok, hvok =>
      obtain ⟨h1, n, h2⟩ := hrok
      exact W.aret hx hb (hr.trans h2) (Or.inl ⟨n, rfl⟩) (Or.inr ⟨_, rfl⟩) (fun t ht hW => post t ht) Wd'.2.2.1.2.2 h1
    | some (.inr (.inr (.inl none))), hrok, hvok => exact hrok.elim
    | some (.inr (.inr (.inr u))), hrok, hvok => exact hrok.elim
  · intro pc' ls' k S' z' ad' H' locs' kc' ks' hq
    exact absurd hq (hno k S' z')
end QStep
