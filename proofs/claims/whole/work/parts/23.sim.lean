/-! The simple instructions: the machine does as the pure machine does. -/
def q_exn (k : Nat) : String := match k with
  | 0 => "java/lang/IndexOutOfBoundsException"
  | 1 => "java/lang/IllegalArgumentException"
  | _ => "java/lang/IllegalStateException"
def q_cd : Jvm.Cond → Bool
  | .castable _ _ => true
  | .declares _ => true
  | _ => false
/-- what a throw wants of the tables and of Throwable's statics -/
def q_Ex (A : Nat → Prop) (U : State) (H : Heap) : Prop := vx_Zq Bundle.tN "UNASSIGNED_STACK" Bundle.steD A U H ∧ vx_Zq Bundle.tN "SUPPRESSED_SENTINEL" Bundle.listD A U H ∧
  (∀ o k t, Jvm.Cond.stringRef o k t ∈ lw_tbl → ∃ sa, vk_R o k t sa U) ∧ (∀ w ∈ lw_tbl, q_cd w = true → va_Nw w U) ∧ ∀ i j, i < 3 → j < 3 → i ≠ j → va_Nc (q_exn i) (q_exn j) U
theorem q_cd_moved {s U : State} (hvm : s.vm.Alike U.vm) {w : Jvm.Cond} (hw : q_cd w = true) (h : va_Nw w s) : va_Nw w U := by
  cases w <;> first | (cases hw; done) | skip
  · exact va_tabs rfl (rfl : (s.setVm U.vm).vm = U.vm) ((Cond.declares_setVm hvm _).trans h)
  · exact va_tabs rfl (rfl : (s.setVm U.vm).vm = U.vm) ((Cond.castable_setVm hvm _ _).trans h)
theorem q_Ex.warm {A : Nat → Prop} {s U : State} {H : Heap} (hW : s.WarmedH U.vm) (h : q_Ex A s H) : q_Ex A U H := by
  obtain ⟨h1, h2, h3, h4, h5⟩ := h
  refine ⟨h1.moved hW.alike, h2.moved hW.alike, fun o k t hm => ?_, fun w hw hc => q_cd_moved hW.alike hc (h4 w hw hc), fun i j hi hj hn => (h5 i j hi hj hn).moved hW.alike⟩
  obtain ⟨sa, hs⟩ := h3 o k t hm
  exact ⟨sa, hs.warm hW⟩
theorem q_Ex.same {A : Nat → Prop} {s U : State} {H : Heap} (hv : U.vm = s.vm) (h : q_Ex A s H) : q_Ex A U H := by
  have ha : s.vm.Alike U.vm := by rw [hv]; exact Vm.Alike.refl _
  obtain ⟨h1, h2, h3, h4, h5⟩ := h
  refine ⟨h1.moved ha, h2.moved ha, fun o k t hm => ?_, fun w hw hc => q_cd_moved ha hc (h4 w hw hc), fun i j hi hj hn => (h5 i j hi hj hn).moved ha⟩
  obtain ⟨sa, hs⟩ := h3 o k t hm
  exact ⟨sa, hs.same hv⟩
theorem q_Ex.narrow {A B : Nat → Prop} {s : State} {H H1 : Heap} (h : q_Ex A s H) (hAB : ∀ q, B q → A q) (hq : ∀ a : Nat, a < H.size → ¬ A a → H1[a]? = H[a]?) : q_Ex B s H1 :=
  ⟨(h.1.kept hq).narrow hAB, (h.2.1.kept hq).narrow hAB, h.2.2⟩
def q_Cx (D : va_G) (cI cZ cJ : ClassId) (M : Nat) (p : Program) (R : Room) (s : State) (m : MethodId) (args : Array Value) (meth : Method) (c : Code) (A : Nat → Prop) (H0 : Heap) (b xl : Nat) (xs : Nat → Int32) : Prop :=
  p.tables.exec = Jvm.exec ∧ c.code = q_b M ∧ c.maxLocals = q_nL M ∧ s.vm.findClass (q_own M) = some m.cls ∧ (∀ w ∈ q_tb, w.before args s = true) ∧ (∀ o i y h, Jvm.Cond.methodLinkNest o i y h ∈ lw_tbl → va_Nw (.methodLinkNest o i y h) s) ∧
  va_K D q_cl (q_tys cI cZ cJ) s ∧ ((q_y M).name = "<init>" → meth.name = "<init>") ∧ ((q_rm M).1 ≤ R.frames ∧ (q_rm M).2.1 ≤ R.locals ∧ (q_rm M).2.2.1 ≤ R.cells ∧ (q_rm M).2.2.2 ≤ R.slots) ∧ (∀ q, H0.size ≤ q → A q) ∧
  (M = 0 → va_X b xl xs s H0 ∧ b < H0.size ∧ ¬ A b ∧ xl < 2147483648) ∧ q_Ex A s H0 ∧ (q_mk M = 1 → c.exceptionTable.toList = tableOf (q_hh M))
def q_Fr (ad : Nat → Nat) (b M : Nat) (ls : Array Slot) (lp : List (Option qV)) (st : List qV) (S : qS) (kc ks : Nat) : Prop :=
  q_LR ad b (q_nL M) ls lp ∧ (∀ (i : Nat) (v : qV), lp[i]? = some (some v) → q_ok S.length v) ∧ (∀ v ∈ st, q_ok S.length v) ∧ kc ≤ (q_rm M).2.2.1 ∧ ks ≤ (q_rm M).2.2.2
section QSim
variable {D : va_G} {cI cZ cJ : ClassId} {M : Nat} {p : Program} {l : Launch} {e : Env} {R : Room} {s : State} {m : MethodId} {args : Array Value} {below : List Frame} {meth : Method} {c : Code} {Qm : State → Prop} {A : Nat → Prop} {H0 H : Heap} {locs : List Loc} {b xl : Nat} {xs : Nat → Int32} {ad : Nat → Nat} {ls : Array Slot} {lp lp' : List (Option qV)} {st st' : List qV} {S S' : qS} {z z' : qM} {kc ks kc' ks' pc len : Nat} {i : Instr} {v : Int} {a ws : List Nat} {P : Prop}
/-- what may be used of the next state -/
def q_KK (D : va_G) (cI cZ cJ : ClassId) (M : Nat) (p : Program) (l : Launch) (e : Env) (R : Room) (s : State) (m : MethodId) (args : Array Value) (below : List Frame) (meth : Method) (c : Code) (Qm : State → Prop) (A : Nat → Prop) (H0 : Heap) (b : Nat) (ad : Nat → Nat) (S : qS) (pc' : Nat) (lp' : List (Option qV)) (st' : List qV) (S' : qS) (z' : qM) (kc' ks' : Nat) : Prop :=
  ∀ (ad' : Nat → Nat) (ls' : Array Slot) (H' : Heap) (locs' : List Loc), S.length ≤ S'.length → (∀ r, r < S.length → ad' r = ad r) → q_Wd D cI cZ cJ A H0 ad' S' z' H' locs' → q_Fr ad' b M ls' lp' st' S' kc' ks' →
    W p l e R s m args below meth c H' locs' kc' ks' Qm (F0 m pc' ls' (st'.map (q_mv ad' b)))
theorem q_push {v : qV} (F : q_Fr ad b M ls lp st S kc ks) (hv : q_ok S.length v) : q_Fr ad b M ls lp (v :: st) S kc ks := ⟨F.1, F.2.1, fun w hw => by
  rcases List.mem_cons.mp hw with rfl | h
  · exact hv
  · exact F.2.2.1 w h, F.2.2.2⟩
theorem q_pop {v : qV} (F : q_Fr ad b M ls lp (v :: st) S kc ks) : q_Fr ad b M ls lp st S kc ks ∧ q_ok S.length v := ⟨⟨F.1, F.2.1, fun w hw => F.2.2.1 w (List.mem_cons_of_mem _ hw), F.2.2.2⟩, F.2.2.1 v List.mem_cons_self⟩
theorem q_ld_ok {v : qV} {k : Nat} (F : q_Fr ad b M ls lp st S kc ks) (h : q_ld lp k = some v) : q_ok S.length v := F.2.1 k v (q_ld_iff.mp h)
theorem q_fr_st {v : qV} {k : Nat} {ls' : Array Slot} (F : q_Fr ad b M ls lp st S kc ks) (hv : q_ok S.length v) (h : q_LR ad b (q_nL M) ls' (q_st lp k v)) : q_Fr ad b M ls' (q_st lp k v) st S kc ks := ⟨h, fun i w hw => by
  rcases q_st_get hw with ⟨-, rfl⟩ | ⟨-, h2, -⟩
  · exact hv
  · exact F.2.1 i w h2, F.2.2⟩
theorem q_fr_st2 {v : qV} {k : Nat} {ls' : Array Slot} (F : q_Fr ad b M ls lp st S kc ks) (hv : q_ok S.length v) (h : q_LR ad b (q_nL M) ls' (q_st2 lp k v)) : q_Fr ad b M ls' (q_st2 lp k v) st S kc ks := ⟨h, fun i w hw => by
  rcases q_st2_get hw with ⟨-, rfl⟩ | ⟨-, -, h2, -⟩
  · exact hv
  · exact F.2.1 i w h2, F.2.2⟩
theorem q_kk0 (K : q_KK D cI cZ cJ M p l e R s m args below meth c Qm A H0 b ad S pc lp' st' S z kc' ks') (Wd : q_Wd D cI cZ cJ A H0 ad S z H locs) {ls' : Array Slot} (F : q_Fr ad b M ls' lp' st' S kc' ks') : W p l e R s m args below meth c H locs kc' ks' Qm (F0 m pc ls' (st'.map (q_mv ad b))) :=
  K ad ls' H locs (Nat.le_refl _) (fun _ _ => rfl) Wd F
set_option maxHeartbeats 4000000 in
theorem q_sim1_ok (C0 : q_Cx D cI cZ cJ M p R s m args meth c A H0 b xl xs) (hd : decode (q_b M) pc = .ok (i, len)) (hk : q_chk2 M pc len i v a ws = true) (Wd : q_Wd D cI cZ cJ A H0 ad S z H locs) (F : q_Fr ad b M ls lp st S kc ks)
    (h : q_sim1 i v a lp st S z kc ks = some (P, lp', st', S', z', kc', ks')) (hp : P) (K : q_KK D cI cZ cJ M p l e R s m args below meth c Qm A H0 b ad S (pc + len) lp' st' S' z' kc' ks') :
    W p l e R s m args below meth c H locs kc ks Qm (F0 m pc ls (st.map (q_mv ad b))) := by
  obtain ⟨hx, hb, hml, hown, hts, hN, hK, hini, hR, hA, hX⟩ := C0
  cases i
  case iconst n =>
    simp only [q_chk2, Bool.and_eq_true, beq_iff_eq, decide_eq_true_eq] at hk
    obtain ⟨⟨rfl, h1⟩, h2⟩ := hk
    cases h
    exact lv_iconst hx hb hd h1 (q_kk0 K Wd (q_push F (q_i32_ok h2)))
  case bipush n =>
    simp only [q_chk2, Bool.and_eq_true, beq_iff_eq, decide_eq_true_eq] at hk
    obtain ⟨⟨rfl, h1⟩, h2⟩ := hk
    cases h
    exact lv_bipush hx hb hd h1 (q_kk0 K Wd (q_push F (q_i32_ok h2)))
  case sipush n =>
    simp only [q_chk2, Bool.and_eq_true, beq_iff_eq, decide_eq_true_eq] at hk
    obtain ⟨⟨rfl, h1⟩, h2⟩ := hk
    cases h
    exact lv_sipush hx hb hd h1 (q_kk0 K Wd (q_push F (q_i32_ok h2)))
  case ldc n =>
    simp only [q_chk2, Bool.and_eq_true, beq_iff_eq] at hk
    obtain ⟨⟨rfl, h1⟩, h2⟩ := hk
    cases h
    exact lv_ldc hx hb hown (hts _ (q_has_mem h1)) hd (q_kk0 K Wd (q_push F (q_i32_ok h2)))
  case lconst n =>
    simp only [q_chk2, Bool.and_eq_true, beq_iff_eq, decide_eq_true_eq] at hk
    obtain ⟨⟨rfl, h1⟩, h2⟩ := hk
    cases h
    exact lv_lconst hx hb hd h1 (q_kk0 K Wd (q_push F (q_r32_64 (q_i32_ok h2))))
  case ldc2_w n =>
    simp only [q_chk2, Bool.and_eq_true, beq_iff_eq] at hk
    obtain ⟨⟨rfl, h1⟩, h2⟩ := hk
    cases h
    exact lv_ldc2 hx hb hown (hts _ (q_has_mem h1)) hd (q_kk0 K Wd (q_push F (q_r32_64 (q_i32_ok h2))))
  case iload n =>
    simp only [q_chk2, Bool.and_eq_true, beq_iff_eq, decide_eq_true_eq] at hk
    obtain ⟨rfl, h1⟩ := hk
    simp only [q_sim1] at h
    split at h
    · rename_i x hl
      cases h
      exact lv_iload hx hb hd (by rw [← h1]; exact F.1.at hl) (q_kk0 K Wd (q_push F (q_ld_ok F hl)))
    · cases h
  case iload_n n =>
    simp only [q_chk2, Bool.and_eq_true, beq_iff_eq, decide_eq_true_eq] at hk
    obtain ⟨rfl, h1⟩ := hk
    simp only [q_sim1] at h
    split at h
    · rename_i x hl
      cases h
      exact lv_iload_n hx hb hd h1.symm (F.1.at hl) (q_kk0 K Wd (q_push F (q_ld_ok F hl)))
    · cases h
  case lload n =>
    simp only [q_chk2, Bool.and_eq_true, beq_iff_eq, decide_eq_true_eq] at hk
    obtain ⟨rfl, h1⟩ := hk
    simp only [q_sim1] at h
    split at h
    · rename_i x hl
      cases h
      exact lv_lload hx hb hd (by rw [← h1]; exact F.1.at hl) (q_kk0 K Wd (q_push F (q_ld_ok F hl)))
    · cases h
  case lload_n n =>
    simp only [q_chk2, Bool.and_eq_true, beq_iff_eq, decide_eq_true_eq] at hk
    obtain ⟨rfl, h1⟩ := hk
    simp only [q_sim1] at h
    split at h
    · rename_i x hl
      cases h
      exact lv_lload_n hx hb hd h1.symm (F.1.at hl) (q_kk0 K Wd (q_push F (q_ld_ok F hl)))
    · cases h
  case aload n =>
    simp only [q_chk2, Bool.and_eq_true, beq_iff_eq, decide_eq_true_eq] at hk
    obtain ⟨rfl, h1⟩ := hk
    simp only [q_sim1] at h
    split at h
    · rename_i x hl
      cases h
      exact lv_aload hx hb hd (by rw [← h1]; exact F.1.at hl) (q_kk0 K Wd (q_push F (q_ld_ok F hl)))
    · rename_i x hl
      cases h
      exact lv_aload hx hb hd (by rw [← h1]; exact F.1.at hl) (q_kk0 K Wd (q_push F (q_ld_ok F hl)))
    · cases h
  case aload_n n =>
    simp only [q_chk2, Bool.and_eq_true, beq_iff_eq, decide_eq_true_eq] at hk
    obtain ⟨rfl, h1⟩ := hk
    simp only [q_sim1] at h
    split at h
    · rename_i x hl
      cases h
      exact lv_aload_n hx hb hd h1.symm (F.1.at hl) (q_kk0 K Wd (q_push F (q_ld_ok F hl)))
    · rename_i x hl
      cases h
      exact lv_aload_n hx hb hd h1.symm (F.1.at hl) (q_kk0 K Wd (q_push F (q_ld_ok F hl)))
    · cases h
  case istore n =>
    simp only [q_chk2, Bool.and_eq_true, beq_iff_eq, decide_eq_true_eq] at hk
    obtain ⟨rfl, h1⟩ := hk
    match st, h with
    | .inl x :: r, h =>
      cases h
      exact lv_istore hx hb (by rw [← h1] at hd; exact hd) F.1.1 (by rw [← F.1.2]; exact hp) rfl (fun ls' h' => q_kk0 K Wd (q_fr_st (q_pop F).1 (q_pop F).2 (F.1.st1 h')))
  case istore_n n =>
    simp only [q_chk2, Bool.and_eq_true, beq_iff_eq, decide_eq_true_eq] at hk
    obtain ⟨rfl, h1⟩ := hk
    match st, h with
    | .inl x :: r, h =>
      cases h
      exact lv_istore_n hx hb hd h1.symm F.1.1 (by rw [← F.1.2]; exact hp) rfl (fun ls' h' => q_kk0 K Wd (q_fr_st (q_pop F).1 (q_pop F).2 (F.1.st1 h')))
  case lstore n =>
    simp only [q_chk2, Bool.and_eq_true, beq_iff_eq, decide_eq_true_eq] at hk
    obtain ⟨rfl, h1⟩ := hk
    match st, h with
    | .inr (.inl x) :: r, h =>
      cases h
      exact lv_lstore hx hb (by rw [← h1] at hd; exact hd) F.1.1 (by rw [← F.1.2]; exact hp) rfl (fun ls' h' => q_kk0 K Wd (q_fr_st2 (q_pop F).1 (q_pop F).2 (F.1.st2 h')))
  case lstore_n n =>
    simp only [q_chk2, Bool.and_eq_true, beq_iff_eq, decide_eq_true_eq] at hk
    obtain ⟨rfl, h1⟩ := hk
    match st, h with
    | .inr (.inl x) :: r, h =>
      cases h
      exact lv_lstore_n hx hb hd h1.symm F.1.1 (by rw [← F.1.2]; exact hp) rfl (fun ls' h' => q_kk0 K Wd (q_fr_st2 (q_pop F).1 (q_pop F).2 (F.1.st2 h')))
  case astore n =>
    simp only [q_chk2, Bool.and_eq_true, beq_iff_eq, decide_eq_true_eq] at hk
    obtain ⟨rfl, h1⟩ := hk
    match st, h with
    | .inr (.inr (.inl (some x))) :: r, h =>
      cases h
      exact lv_astore hx hb (by rw [← h1] at hd; exact hd) F.1.1 (by rw [← F.1.2]; exact hp) rfl (fun ls' h' => q_kk0 K Wd (q_fr_st (q_pop F).1 (q_pop F).2 (F.1.st1 h')))
  case astore_n n =>
    simp only [q_chk2, Bool.and_eq_true, beq_iff_eq, decide_eq_true_eq] at hk
    obtain ⟨rfl, h1⟩ := hk
    match st, h with
    | .inr (.inr (.inl (some x))) :: r, h =>
      cases h
      exact lv_astore_n hx hb hd h1.symm F.1.1 (by rw [← F.1.2]; exact hp) rfl (fun ls' h' => q_kk0 K Wd (q_fr_st (q_pop F).1 (q_pop F).2 (F.1.st1 h')))
  case iinc n k =>
    simp only [q_chk2, Bool.and_eq_true, beq_iff_eq, decide_eq_true_eq] at hk
    obtain ⟨⟨⟨rfl, h1⟩, rfl⟩, h2⟩ := hk
    simp only [q_sim1] at h
    split at h
    · rename_i x hl
      cases h
      subst h1
      obtain ⟨j, hj⟩ := List.getElem?_of_mem (q_LR.mem (ad := ad) (b := b) (nL := q_nL M) (ls := ls) hl)
      exact lv_iinc (v := Int32.ofInt (x + k)) hx hb hd F.1.1 hj (by rw [Int32.ofInt_add]) (by rw [← F.1.2]; exact hp.1) rfl (fun ls' h' => q_kk0 K Wd (q_fr_st (v := .inl (x + k)) F hp.2 (F.1.st1 h')))
    · cases h
  all_goals cases h
end QSim
