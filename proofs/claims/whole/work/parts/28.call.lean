/-! Calls of plain methods. -/
section QCall
variable {D : va_G} {cI cZ cJ : ClassId} {M : Nat} {p : Program} {l : Launch} {e : Env} {R : Room} {s : State} {m : MethodId} {args : Array Value} {below : List Frame} {meth : Method} {c : Code} {Qm : State → Prop} {A : Nat → Prop} {H0 H : Heap} {locs : List Loc} {b xl : Nat} {xs : Nat → Int32} {ad : Nat → Nat} {ls : Array Slot} {lp lp' : List (Option qV)} {st st' : List qV} {S S' : qS} {z z' : qM} {kc ks kc' ks' pc len : Nat} {i : Instr} {v : Int} {a ws : List Nat} {P : Prop} {Q : qQ}
theorem q_A1 (Wd : q_Wd D cI cZ cJ A H0 ad S z H locs) (hA : ∀ q, H0.size ≤ q → A q) : ∀ q, va_A (q_ws cI cZ cJ ad S z) H.size q → A q := by
  intro q h
  rcases h with ⟨k, x, h⟩ | h
  · exact Wd.2.1.2 k (q, x) h
  · exact hA q (Nat.le_trans Wd.2.2.1.1 h)
theorem q_after {Rq : qQ} {mc ms : Nat} {st0 rest : List Value} {av : Array Value} (Wd : q_Wd D cI cZ cJ A H0 ad S z H locs) (hA : ∀ q, H0.size ≤ q → A q)
    (hr : va_Run p l e R s m args below meth c H locs kc ks mc ms (F0 m pc ls st0) rest (q_Qc D cI cZ cJ Rq ad b S (va_A (q_ws cI cZ cJ ad S z) H.size) av) (va_A (q_ws cI cZ cJ ad S z) H.size))
    (kk : ∀ (w : Option qV) (ad' : Nat → Nat) (S' : qS) (z' : qM) (H' : Heap) (locs' : List Loc), Rq (.inl w) S' z' → S.length ≤ S'.length → (∀ r, r < S.length → ad' r = ad r) → q_Wd D cI cZ cJ A H0 ad' S' z' H' locs' → (∀ u, w = some u → q_ok S'.length u) →
      W p l e R s m args below meth c H' locs' (kc + mc) (ks + ms) Qm (F0 m (pc + 3) ls ((w.map (q_mv ad' b)).toList ++ rest))) : W p l e R s m args below meth c H locs kc ks Qm (F0 m pc ls st0) := by
  have hA1 := q_A1 Wd hA
  have hS := Wd.2.2.1
  intro T hT X
  obtain ⟨v, st₀, t, T', L, h0, X', hL, e1, e2, ⟨⟨w, ad', S', z', hv, ⟨hq, hn, hag, hP1, hD1, hrg1, hwf1⟩, hok⟩, hz, hk⟩, st⟩ := hr T hT X
  cases hv
  rw [h0] at hz hk
  obtain ⟨t2, a1, b1⟩ := kk w ad' S' z' T'.heap (locs ++ L) hq hn hag ⟨by rw [e1]; exact hP1, hD1.weaken (fun k q _ h => hA1 q.1 h),
    ⟨Nat.le_trans hS.1 (by rw [e1]; exact hz), fun q h1 h2 => by rw [e1, hk q (Nat.lt_of_lt_of_le h1 hS.1) (fun z => h2 (hA1 q z))]; exact hS.2.1 q h1 h2, fun q hq => by
      rcases List.mem_append.mp hq with h | h
      · exact hS.2.2 q h
      · exact hA1 _ (hL q h)⟩, hrg1, hwf1⟩ hok T' rfl X'
  exact ⟨t2, st t2 a1, b1⟩
theorem q_blind {av : List Value} {A1 : Nat → Prop} : FrameBlind (q_Pc D cI cZ cJ av H A1) := fun a U g mk q => by
  obtain ⟨q0, q1, q2, q3, q4⟩ := q
  exact ⟨q0, q1, va_K.moved (u := U) (U := U.calling g mk a) (Vm.Alike.refl U.vm) q2, fun o i y h hm => va_Nw.same rfl rfl (q3 o i y h hm), q_Ex.same (s := U) (U := U.calling g mk a) rfl q4⟩
theorem q_preS (C0 : q_Cx D cI cZ cJ M p R s m args meth c A H0 b xl xs) (Wd : q_Wd D cI cZ cJ A H0 ad S z H locs) (av : List Value) : PreS s H (q_Pc D cI cZ cJ av H (va_A (q_ws cI cZ cJ ad S z) H.size)) av :=
  ⟨q_blind, fun U hU hW => ⟨rfl, hU, va_K.moved hW.alike C0.2.2.2.2.2.2.1, fun o i y h hm => va_Nw.warmM hW (C0.2.2.2.2.2.1 o i y h hm), (C0.2.2.2.2.2.2.2.2.2.2.2.1.narrow (q_A1 Wd C0.2.2.2.2.2.2.2.2.2.1) Wd.2.2.1.2.1).warm hW⟩⟩
theorem q_take {n : Nat} (h : n ≤ st.length) : st.map (q_mv ad b) = ((st.take n).reverse.map (q_mv ad b)).reverse ++ (st.drop n).map (q_mv ad b) := by
  rw [← List.map_reverse, List.reverse_reverse, ← List.map_append, List.take_append_drop]
theorem q_mw {w : Option qV} {ad' : Nat → Nat} : (w.map (q_mv ad' b)).toList = w.toList.map (q_mv ad' b) := by cases w <;> rfl
theorem q_par_ok {d : String} {n : Nat} (h : q_par d = some n) : (parseMethodDescriptor d).map (fun d => d.parameters.length) = some n := h
theorem q_chkC_ok {idx : Nat} (h : q_chkC M idx a ws = true) : ((q_a ws 1 = 1 ∧ Jvm.Cond.methodLinkNest (q_own M) idx (q_y (q_a a 0)) "Marktongue" ∈ lw_tbl) ∨ (q_a ws 1 ≠ 1 ∧ Jvm.Cond.methodLink (q_own M) idx (q_y (q_a a 0)) ∈ q_tb)) ∧
    Jvm.Cond.initialized (q_own (q_a a 0)) ∈ q_tb ∧ q_par (q_y (q_a a 0)).desc = some (q_a a 1 - q_a a 2) ∧ q_a a 2 ≤ 1 ∧ q_a a 2 ≤ q_a a 1 ∧ (q_rm (q_a a 0)).1 + 1 ≤ (q_rm M).1 ∧ 8 + (q_nL (q_a a 0) + 11) + (q_rm (q_a a 0)).2.1 ≤ (q_rm M).2.1 := by
  unfold q_chkC at h
  simp only [Bool.and_eq_true, decide_eq_true_eq] at h
  obtain ⟨⟨⟨⟨⟨⟨⟨h1, h2⟩, h3⟩, h4⟩, h5⟩, h6⟩, h7⟩, h8⟩ := h
  refine ⟨?_, q_has_mem h2, h4, h5, h6, h7, h8⟩
  split at h1
  · rename_i e1; exact Or.inl ⟨e1, q_hasN_mem h1⟩
  · rename_i e1; exact Or.inr ⟨e1, q_has_mem h1⟩
theorem q_good (M' : Nat) (hm : q_chkM M' = true) (h0 : q_mk M' = 0) : GoodIn q_tb (q_wsM M') := by
  intro w hw
  rcases List.mem_cons.mp hw with rfl | hw
  · exact ⟨(q_chkM_of hm).2.2.2 h0, good_of_word (q_tb_good ((q_chkM_of hm).2.2.2 h0))⟩
  · exact ⟨hw, good_of_word (q_tb_good hw)⟩
set_option maxHeartbeats 4000000 in
theorem q_call_ok (C0 : q_Cx D cI cZ cJ M p R s m args meth c A H0 b xl xs) (hd : decode (q_b M) pc = .ok (i, len)) (hk : q_chk2 M pc len i v a ws = true) (Wd : q_Wd D cI cZ cJ A H0 ad S z H locs) (F : q_Fr ad b M ls lp st S kc ks)
    (HR : q_HR D cI cZ cJ M p l e R s m args below meth c Qm A H0 b Q S.length ad) (HT : q_HT D cI cZ cJ M p l e R s m args below meth c Qm A H0 Q S.length ad)
    (hi : ((∃ n, i = .invokestatic n) ∧ q_a a 2 ≠ 3) ∨ (∃ n, i = .invokevirtual n) ∨ ((∃ n, i = .invokespecial n) ∧ q_a a 2 ≠ 2))
    (hm : q_chkM (q_a a 0) = true) (h0 : q_mk (q_a a 0) = 0) (hM0 : q_a a 0 ≠ 0) (h4 : q_a a 4 ≠ 1)
    (h : q_F.q_ca (q_Y l D cI cZ cJ xl xs) (q_Pr xl xs) M (pc, lp, st, S, z, kc, ks) Q a) :
    W p l e R s m args below meth c H locs kc ks Qm (F0 m pc ls (st.map (q_mv ad b))) := by
  obtain ⟨h1, h2, h3, h5, h6, h7, Rq, h8, h9, h10⟩ := h
  have hno : ∀ k S' z', ¬ Rq (.inr k) S' z' := fun k S' z' hq => h4 (h10 k S' z' hq).1
  have hx := C0.1
  have hts := C0.2.2.2.2.1
  have hR := C0.2.2.2.2.2.2.2.2.1
  have hA := C0.2.2.2.2.2.2.2.2.2.1
  have hok : ∀ w ∈ (st.take (q_a a 1)).reverse, q_ok S.length w := fun w hw => F.2.2.1 w (List.mem_of_mem_take (List.mem_reverse.mp hw))
  have hM := q_met (b := b) hm h0 hM0 h7 Wd.1 Wd.2.1 Wd.2.2.2.1 Wd.2.2.2.2 hok h8 hno
  have hsize : ls.size = q_nL M := F.1.1.1
  have hW8 : (((st.drop (q_a a 1)).map (q_mv ad b)).map fun v => v.category).sum ≤ 8 := by rw [q_mv_sum]; exact h2
  have hcf : CallFix p m c (q_b M) (q_nL M) s args q_tb (q_own M) := ⟨C0.1, C0.2.1, C0.2.2.1, C0.2.2.2.1, hts⟩
  have hf : kc + (q_rm (q_a a 0)).2.2.1 ≤ R.cells ∧ ks + (q_rm (q_a a 0)).2.2.2 ≤ R.slots := ⟨Nat.le_trans h3 hR.2.2.1, Nat.le_trans h5 hR.2.2.2⟩
  -- behind the call
  have fin : ∀ (w : Option qV) (ad' : Nat → Nat) (S' : qS) (z' : qM) (H' : Heap) (locs' : List Loc), Rq (.inl w) S' z' → S.length ≤ S'.length → (∀ r, r < S.length → ad' r = ad r) → q_Wd D cI cZ cJ A H0 ad' S' z' H' locs' → (∀ u, w = some u → q_ok S'.length u) →
      W p l e R s m args below meth c H' locs' (kc + (q_rm (q_a a 0)).2.2.1) (ks + (q_rm (q_a a 0)).2.2.2) Qm (F0 m (pc + 3) ls ((w.map (q_mv ad' b)).toList ++ (st.drop (q_a a 1)).map (q_mv ad b))) := by
    intro w ad' S' z' H' locs' hq hn hag Wd' hu
    have hdr : ∀ v ∈ st.drop (q_a a 1), q_ok S.length v := fun v hv => F.2.2.1 v (List.mem_of_mem_drop hv)
    have K := q_Y_KK C0 HR HT (h9 w S' z' hq) ad' ls H' locs' hn hag Wd' ⟨F.1.moved hag F.2.1, fun i v hv => q_ok_mono hn (F.2.1 i v hv), fun v hv => by
      rcases List.mem_append.mp hv with hv | hv
      · exact hu v (by cases w with
          | none => cases hv
          | some u => simp at hv; rw [hv])
      · exact q_ok_mono hn (hdr v hv), h3, h5⟩
    rw [List.map_append, q_mv_list hag hdr, ← q_mw] at K
    exact K
  rcases hi with ⟨⟨n, rfl⟩, hne⟩ | ⟨n, rfl⟩ | ⟨⟨n, rfl⟩, hne⟩
  · simp only [q_chk2, Bool.and_eq_true, beq_iff_eq, if_neg hne, decide_eq_true_eq] at hk
    obtain ⟨rfl, ⟨hk0, hkc⟩, hks⟩ := hk
    obtain ⟨hlk, hin, hpar, -, hle, hfr, hlo⟩ := q_chkC_ok hkc
    rw [hk0] at hpar
    have hst := q_take (ad := ad) (b := b) h1
    have hlen : ((st.take (q_a a 1)).reverse.map (q_mv ad b)).length = q_a a 1 - 0 := by simp; omega
    rw [hst]
    rcases hlk with ⟨-, hlk⟩ | ⟨-, hlk⟩
    · exact q_after Wd hA (va_runSN hcf hM ⟨va_cnB (q_a a 1 - 0) hts (q_good _ hm h0) rfl rfl rfl (C0.2.2.2.2.2.1 _ _ _ _ hlk) (hts _ hin) ⟨(q_chkM_of hm).1, (q_chkM_of hm).2.1, q_par_ok hpar⟩ ⟨Nat.le_trans hfr hR.1, Nat.le_trans hlo hR.2.1⟩, hts _ (q_has_mem hks), trivial⟩ (q_preS C0 Wd _) rfl hlen hsize rfl (lv_room hW8) hd hf) fin
    · exact q_after Wd hA (va_runS hcf hM ⟨callB_of (q_a a 1 - 0) hts (q_good _ hm h0) rfl rfl rfl (hts _ hin) (hts _ hlk) ⟨(q_chkM_of hm).1, (q_chkM_of hm).2.1, q_par_ok hpar⟩ ⟨Nat.le_trans hfr hR.1, Nat.le_trans hlo hR.2.1⟩, hts _ (q_has_mem hks)⟩ (q_preS C0 Wd _) rfl hlen hsize rfl (lv_room hW8) hd hf) fin
  · simp only [q_chk2, Bool.and_eq_true, beq_iff_eq, decide_eq_true_eq] at hk
    obtain ⟨⟨⟨⟨⟨rfl, hk0⟩, hkc⟩, hks⟩, hsel⟩, hc3⟩ := hk
    obtain ⟨hlk, hin, hpar, -, hle, hfr, hlo⟩ := q_chkC_ok hkc
    rw [hk0] at hpar h6 hle
    have hst := q_take (ad := ad) (b := b) h1
    rw [hst]
    match hrv : (st.take (q_a a 1)).reverse, h6 with
    | .inr (.inr (.inl (some r))) :: as, h6 =>
      have hl2 : (st.take (q_a a 1)).reverse.length = q_a a 1 := by simp; omega
      rw [hrv] at hM hl2
      obtain ⟨N, rs, hS⟩ := q_tag_get (show q_tag S r = some (3 + q_a a 3) from h6)
      have hpre : PreV s H (q_C (q_a a 3)) (ad r) (q_Pc D cI cZ cJ (((.inr (.inr (.inl (some r)))) :: as).map (q_mv ad b)) H (va_A (q_ws cI cZ cJ ad S z) H.size)) (as.map (q_mv ad b)) :=
        ⟨q_blind, va_recv C0.2.2.2.2.2.2.1 Wd.1 (q_cl_get hc3) ((q_ws_get hS).trans (by rw [q_e1_3])), (q_preS C0 Wd (((.inr (.inr (.inl (some r)))) :: as).map (q_mv ad b))).2⟩
      have hlen : (as.map (q_mv ad b)).length = q_a a 1 - 1 := by simp at hl2 ⊢; omega
      have hstk : ((((.inr (.inr (.inl (some r)))) :: as : List qV).map (q_mv ad b)).reverse ++ (st.drop (q_a a 1)).map (q_mv ad b)) = (as.map (q_mv ad b)).reverse ++ .ref (ad r) :: (st.drop (q_a a 1)).map (q_mv ad b) := by simp [q_mv]
      rw [hstk]
      rcases hlk with ⟨-, hlk⟩ | ⟨-, hlk⟩
      · exact q_after Wd hA (va_runVN hcf hM ⟨va_cnB (q_a a 1 - 1) hts (q_good _ hm h0) rfl rfl rfl (C0.2.2.2.2.2.1 _ _ _ _ hlk) (hts _ hin) ⟨(q_chkM_of hm).1, (q_chkM_of hm).2.1, q_par_ok hpar⟩ ⟨Nat.le_trans hfr hR.1, Nat.le_trans hlo hR.2.1⟩, hts _ (q_has_mem hks), hts _ (q_has_mem hsel)⟩ hpre rfl hlen hsize rfl (lv_room hW8) hd hf) fin
      · exact q_after Wd hA (va_runV hcf hM ⟨callB_of (q_a a 1 - 1) hts (q_good _ hm h0) rfl rfl rfl (hts _ hin) (hts _ hlk) ⟨(q_chkM_of hm).1, (q_chkM_of hm).2.1, q_par_ok hpar⟩ ⟨Nat.le_trans hfr hR.1, Nat.le_trans hlo hR.2.1⟩, hts _ (q_has_mem hks), hts _ (q_has_mem hsel)⟩ hpre rfl hlen hsize rfl (lv_room hW8) hd hf) fin
  · simp only [q_chk2, Bool.and_eq_true, beq_iff_eq, if_neg hne, decide_eq_true_eq] at hk
    obtain ⟨rfl, ⟨⟨⟨⟨hk0, hkc⟩, hks⟩, hnm⟩, hrt⟩, hc3⟩ := hk
    obtain ⟨hlk, hin, hpar, -, hle, hfr, hlo⟩ := q_chkC_ok hkc
    rw [hk0] at hpar h6 hle
    have hst := q_take (ad := ad) (b := b) h1
    rw [hst]
    match hrv : (st.take (q_a a 1)).reverse, h6 with
    | .inr (.inr (.inl (some r))) :: as, h6 =>
      have hl2 : (st.take (q_a a 1)).reverse.length = q_a a 1 := by simp; omega
      rw [hrv] at hM hl2
      have hlen : (as.map (q_mv ad b)).length = q_a a 1 - 1 := by simp at hl2 ⊢; omega
      have hstk : ((((.inr (.inr (.inl (some r)))) :: as : List qV).map (q_mv ad b)).reverse ++ (st.drop (q_a a 1)).map (q_mv ad b)) = (as.map (q_mv ad b)).reverse ++ .ref (ad r) :: (st.drop (q_a a 1)).map (q_mv ad b) := by simp [q_mv]
      rw [hstk]
      have hg := q_good _ hm h0
      unfold q_wsM at hM hg
      rw [hrt] at hM hg
      rcases hlk with ⟨-, hlk⟩ | ⟨-, hlk⟩
      · exact q_after Wd hA (va_runIN hcf hM ⟨va_cnB (q_a a 1 - 1) hts hg rfl rfl rfl (C0.2.2.2.2.2.1 _ _ _ _ hlk) (hts _ hin) ⟨(q_chkM_of hm).1, (q_chkM_of hm).2.1, q_par_ok hpar⟩ ⟨Nat.le_trans hfr hR.1, Nat.le_trans hlo hR.2.1⟩, hnm, hts _ (q_has_mem hks)⟩ (q_preS C0 Wd _) rfl hlen hsize rfl (lv_room hW8) hd hf) fin
      · exact q_after Wd hA (va_runI hcf hM ⟨callB_of (q_a a 1 - 1) hts hg rfl rfl rfl (hts _ hin) (hts _ hlk) ⟨(q_chkM_of hm).1, (q_chkM_of hm).2.1, q_par_ok hpar⟩ ⟨Nat.le_trans hfr hR.1, Nat.le_trans hlo hR.2.1⟩, hnm, hts _ (q_has_mem hks)⟩ (q_preS C0 Wd _) rfl hlen hsize rfl (lv_room hW8) hd hf) fin
end QCall
