/-! The whole step. -/
section QWhole
variable {D : va_G} {cI cZ cJ : ClassId} {M : Nat} {p : Program} {l : Launch} {e : Env} {R : Room} {s : State} {m : MethodId} {args : Array Value} {below : List Frame} {meth : Method} {c : Code} {Qm : State → Prop} {A : Nat → Prop} {H0 H : Heap} {locs : List Loc} {b xl : Nat} {xs : Nat → Int32} {ad : Nat → Nat} {ls : Array Slot} {lp lp' : List (Option qV)} {st st' : List qV} {S S' : qS} {z z' : qM} {kc ks kc' ks' pc len : Nat} {i : Instr} {v : Int} {a ws : List Nat} {P : Prop} {Q : qQ}
theorem q_cmp_eq {x y : Int} (hx : q_r32 x) (hy : q_r32 y) (cn : Jvm.ClassFile.Cond) {off : Int} {tgt : Nat} {rest : List Value} (C0 : q_Cx D cI cZ cJ M p R s m args meth c A H0 b xl xs) (hd : decode (q_b M) pc = .ok (.if_icmp cn off, 3)) (ht : (pc : Int) + off = (tgt : Int))
    (k1 : q_cmp cn x y → W p l e R s m args below meth c H locs kc ks Qm (F0 m tgt ls rest)) (k2 : ¬ q_cmp cn x y → W p l e R s m args below meth c H locs kc ks Qm (F0 m (pc + 3) ls rest)) :
    W p l e R s m args below meth c H locs kc ks Qm (F0 m pc ls (.int (Int32.ofInt y) :: .int (Int32.ofInt x) :: rest)) := by
  have hx1 := C0.1
  have hb := C0.2.1
  cases cn with
  | eq => exact lv_icmp_eq hx1 hb hd ht (fun h => k1 ((q_eq32 hx hy).mp h)) (fun h => k2 (fun q => h ((q_eq32 hx hy).mpr q)))
  | ne => exact lv_icmp_ne hx1 hb hd ht (fun h => k1 (fun q => h ((q_eq32 hx hy).mpr q))) (fun h => k2 (fun q => q ((q_eq32 hx hy).mp h)))
  | lt => exact lv_icmp_lt hx1 hb hd ht (fun h => k1 ((q_lt32 hx hy).mp h)) (fun h => k2 (fun q => h ((q_lt32 hx hy).mpr q)))
  | ge => exact lv_icmp_ge hx1 hb hd ht (fun h => k1 ((q_le32 hy hx).mp h)) (fun h => k2 (fun q => h ((q_le32 hy hx).mpr q)))
  | gt => exact lv_icmp_gt hx1 hb hd ht (fun h => k1 ((q_lt32 hy hx).mp h)) (fun h => k2 (fun q => h ((q_lt32 hy hx).mpr q)))
  | le => exact lv_icmp_le hx1 hb hd ht (fun h => k1 ((q_le32 hx hy).mp h)) (fun h => k2 (fun q => h ((q_le32 hx hy).mpr q)))
theorem q_cmp_0 {x : Int} (hx : q_r32 x) (cn : Jvm.ClassFile.Cond) {off : Int} {tgt : Nat} {rest : List Value} (C0 : q_Cx D cI cZ cJ M p R s m args meth c A H0 b xl xs) (hd : decode (q_b M) pc = .ok (.ifCond cn off, 3)) (ht : (pc : Int) + off = (tgt : Int))
    (k1 : q_cmp cn x 0 → W p l e R s m args below meth c H locs kc ks Qm (F0 m tgt ls rest)) (k2 : ¬ q_cmp cn x 0 → W p l e R s m args below meth c H locs kc ks Qm (F0 m (pc + 3) ls rest)) :
    W p l e R s m args below meth c H locs kc ks Qm (F0 m pc ls (.int (Int32.ofInt x) :: rest)) := by
  have hx1 := C0.1
  have hb := C0.2.1
  have hy := q_r32_0
  have e0 : Int32.ofInt 0 = 0 := rfl
  cases cn with
  | eq => exact lv_if_eq hx1 hb hd ht (fun h => k1 ((q_eq32 hx hy).mp (by rw [e0]; exact h))) (fun h => k2 (fun q => h (by rw [← e0]; exact (q_eq32 hx hy).mpr q)))
  | ne => exact lv_if_ne hx1 hb hd ht (fun h => k1 (fun q => h (by rw [← e0]; exact (q_eq32 hx hy).mpr q))) (fun h => k2 (fun q => q ((q_eq32 hx hy).mp (by rw [e0]; exact h))))
  | lt => exact lv_if_lt hx1 hb hd ht (fun h => k1 ((q_lt32 hx hy).mp (by rw [e0]; exact h))) (fun h => k2 (fun q => h (by rw [← e0]; exact (q_lt32 hx hy).mpr q)))
  | ge => exact lv_if_ge hx1 hb hd ht (fun h => k1 ((q_le32 hy hx).mp (by rw [e0]; exact h))) (fun h => k2 (fun q => h (by rw [← e0]; exact (q_le32 hy hx).mpr q)))
  | gt => exact lv_if_gt hx1 hb hd ht (fun h => k1 ((q_lt32 hy hx).mp (by rw [e0]; exact h))) (fun h => k2 (fun q => h (by rw [← e0]; exact (q_lt32 hy hx).mpr q)))
  | le => exact lv_if_le hx1 hb hd ht (fun h => k1 ((q_le32 hx hy).mp (by rw [e0]; exact h))) (fun h => k2 (fun q => h (by rw [← e0]; exact (q_le32 hx hy).mpr q)))
/-- where a table switch goes -/
theorem q_tsw {X : Nat → Prop} {x : Int} {d : Nat} : ∀ (os : List Int) (as : List Nat) (lo : Int), q_tsc pc lo os as = true → q_sw X x d as →
    (∀ (k : Nat) (o : Int), os[k]? = some o → x = lo + k → ∃ t : Nat, (pc : Int) + o = t ∧ X t) ∧ ((x < lo ∨ lo + os.length ≤ x) → X d)
  | [], [], lo, _, h => ⟨fun k o hk => by simp at hk, fun _ => h⟩
  | o :: os, k :: t :: r, lo, hc, h => by
    unfold q_tsc at hc
    simp only [Bool.and_eq_true, decide_eq_true_eq] at hc
    obtain ⟨⟨h1, h2⟩, h3⟩ := hc
    unfold q_sw at h
    refine ⟨fun j o' hj hx => ?_, fun hx => ?_⟩
    · cases j with
      | zero =>
        simp at hj
        subst hj
        exact ⟨t, h2, h.1 (by omega)⟩
      | succ j => exact (q_tsw os r (lo + 1) h3 (h.2 (by omega))).1 j o' (by simpa using hj) (by omega)
    · simp at hx
      exact (q_tsw os r (lo + 1) h3 (h.2 (by omega))).2 (by omega)
  | [], _ :: _, _, hc, _ => by simp [q_tsc] at hc
  | _ :: _, [], _, hc, _ => by simp [q_tsc] at hc
  | _ :: _, [_], _, hc, _ => by simp [q_tsc] at hc
theorem q_lsw {X : Nat → Prop} {x : Int} {d : Nat} {dd : Int} (hdd : (pc : Int) + dd = (d : Int)) : ∀ (os : List (Int × Int)) (as : List Nat), q_lsc pc os as = true → q_sw X x d as →
    ∃ t : Nat, (pc : Int) + Op.lookupswitch.offset os dd x = t ∧ X t
  | [], [], _, h => ⟨d, hdd, h⟩
  | o :: os, k :: t :: r, hc, h => by
    unfold q_lsc at hc
    simp only [Bool.and_eq_true, decide_eq_true_eq] at hc
    obtain ⟨⟨h1, h2⟩, h3⟩ := hc
    unfold q_sw at h
    obtain ⟨o1, o2⟩ := o
    by_cases hx : x = (k : Int)
    · refine ⟨t, ?_, h.1 hx⟩
      unfold Op.lookupswitch.offset
      rw [if_pos (by rw [hx]; exact h1.symm)]
      exact h2
    · obtain ⟨t', h5, h6⟩ := q_lsw hdd os r h3 (h.2 hx)
      refine ⟨t', ?_, h6⟩
      unfold Op.lookupswitch.offset
      rw [if_neg (fun q => hx (q.symm.trans h1.symm))]
      exact h5
  | [], _ :: _, hc, _ => by simp [q_lsc] at hc
  | _ :: _, [], hc, _ => by simp [q_lsc] at hc
  | _ :: _, [_], hc, _ => by simp [q_lsc] at hc
def q_cc (M : Nat) (e : Nat × qI) : Bool := match e.2.2.1 with
  | .invokestatic _ | .invokevirtual _ | .invokespecial _ => decide (2 ≤ q_a e.2.2.2.2 2) || (decide (q_a e.2.2.2.2 0 ≠ 0) && (decide (M = 0) || decide (q_mk (q_a e.2.2.2.2 0) = 0)) && (decide (q_a e.2.2.2.2 4 ≠ 1) || decide (q_mk M = 1)) && decide (q_a e.2.2.2.2 0 < q_codes.length))
  | _ => true
set_option maxRecDepth 100000 in
theorem q_cc_all : ((List.range q_codes.length).all fun M => (q_codes.getD M []).all (q_cc M)) = true := by decide +kernel
theorem q_cc_of {M pc len : Nat} {i : Instr} {v : Int} {a : List Nat} (h : q_ft1 M pc = some (len, i, v, a)) : q_cc M (pc, len, i, v, a) = true := by
  unfold q_ft1 at h
  obtain ⟨l1, l2, e, -⟩ := List.lookup_eq_some_iff.mp h
  have hM : M < q_codes.length := by
    refine Nat.lt_of_not_le fun hle => ?_
    rw [List.getD_eq_getElem?_getD, List.getElem?_eq_none hle] at h
    cases h
  exact List.all_eq_true.mp (List.all_eq_true.mp q_cc_all M (List.mem_range.mpr hM)) _ (by rw [e]; simp)
theorem q_chkM_lt {M : Nat} (h : M < q_codes.length) : q_chkM M = true := by
  have := q_GL_get q_codes 0 q_gl M q_codes[M] (List.getElem?_eq_getElem h)
  rw [Nat.zero_add] at this
  exact this.1
set_option maxHeartbeats 4000000 in
theorem q_step (hl : l.stackTraces = false) {q : qC} : q_F (q_Pr xl xs) (q_Y l D cI cZ cJ xl xs) M q Q → q_Y l D cI cZ cJ xl xs M q Q := by
  obtain ⟨pc, lp, st, S, z, kc, ks⟩ := q
  intro h p e R s m args below meth c Qm A H0 H locs b ad ls C0 Wd F HR HT
  unfold q_F at h
  dsimp only at h
  cases hf : (q_Pr xl xs).1 M pc with
  | none => rw [hf] at h; exact h.elim
  | some z1 =>
    obtain ⟨len, i, v, a⟩ := z1
    rw [hf] at h
    obtain ⟨hcm, ws, hd, hk⟩ := q_entry hf
    have hcc := q_cc_of hf
    have hx := C0.1
    have hb := C0.2.1
    dsimp only at h
    -- a call
    have call : ((∃ n, i = .invokestatic n) ∧ q_a a 2 ≠ 3) ∨ (∃ n, i = .invokevirtual n) ∨ ((∃ n, i = .invokespecial n) ∧ q_a a 2 ≠ 2) → ¬ 2 ≤ q_a a 2 → q_F.q_ca (q_Y l D cI cZ cJ xl xs) (q_Pr xl xs) M (pc, lp, st, S, z, kc, ks) Q a →
        W p l e R s m args below meth c H locs kc ks Qm (F0 m pc ls (st.map (q_mv ad b))) := by
      intro hi h2 hca
      have hcc2 : q_a a 0 ≠ 0 ∧ (M = 0 ∨ q_mk (q_a a 0) = 0) ∧ (q_a a 4 ≠ 1 ∨ q_mk M = 1) ∧ q_a a 0 < q_codes.length := by
        rcases hi with ⟨⟨n, rfl⟩, -⟩ | ⟨n, rfl⟩ | ⟨⟨n, rfl⟩, -⟩ <;>
        · simp only [q_cc, Bool.or_eq_true, Bool.and_eq_true, decide_eq_true_eq] at hcc
          rcases hcc with hcc | ⟨⟨⟨c1, c2⟩, c3⟩, c4⟩
          · exact absurd hcc h2
          · exact ⟨c1, c2, c3, c4⟩
      obtain ⟨c1, c2, c3, c4⟩ := hcc2
      have hm := q_chkM_lt c4
      by_cases h4 : q_a a 4 = 1
      · have hM1 : q_mk M = 1 := c3.resolve_left (fun q => q h4)
        have h0 : q_mk (q_a a 0) = 0 := c2.resolve_left (fun q => by rw [q] at hM1; revert hM1; decide +kernel)
        exact q_callX_ok hl hf C0 hd hk Wd F HR HT hi h2 hM1 hm h0 c1 h4 hca
      · by_cases h0 : q_mk (q_a a 0) = 0
        · exact q_call_ok C0 hd hk Wd F HR HT hi hm h0 c1 h4 hca
        · exact q_callW_ok hf C0 hd hk Wd F HR HT hi h2 (c2.resolve_right h0) hm h0 c1 c4 h4 hca
    -- a simple one
    have sim : ∀ d : Option qD, q_nx (fun c' => q_Y l D cI cZ cJ xl xs M c' Q) (pc + len) d →
        (∀ (P : Prop) lp' st' S' z' kc' ks', d = some (P, lp', st', S', z', kc', ks') → P → q_KK D cI cZ cJ M p l e R s m args below meth c Qm A H0 b ad S (pc + len) lp' st' S' z' kc' ks' → W p l e R s m args below meth c H locs kc ks Qm (F0 m pc ls (st.map (q_mv ad b)))) →
        W p l e R s m args below meth c H locs kc ks Qm (F0 m pc ls (st.map (q_mv ad b))) := by
      intro d hn hh
      match d, hn with
      | some (P, lp', st', S', z', kc', ks'), hn => exact hh P lp' st' S' z' kc' ks' rfl hn.1 (q_Y_KK C0 HR HT hn.2)
    have KK0 : ∀ {pc' : Nat} {st' : List qV}, q_Y l D cI cZ cJ xl xs M (pc', lp, st', S, z, kc, ks) Q → q_Fr ad b M ls lp st' S kc ks → W p l e R s m args below meth c H locs kc ks Qm (F0 m pc' ls (st'.map (q_mv ad b))) := fun hy F' => q_kk0 (q_Y_KK C0 HR HT hy) Wd F'
    have ret : ∀ (w : Option qV), Q (.inl w) S z → q_rok M pc w → (∀ u, w = some u → q_ok S.length u) → W p l e R s m args below meth c H locs kc ks Qm (F0 m pc ls (w.toList.map (q_mv ad b))) := fun w hq hr hu =>
      HR pc ls w S z ad H locs kc ks hq hr (Nat.le_refl _) (fun _ _ => rfl) Wd hu F.2.2.2.1 F.2.2.2.2
    cases i
    case goto off =>
      simp only [q_chk2, Bool.and_eq_true, beq_iff_eq, decide_eq_true_eq] at hk
      obtain ⟨rfl, h1⟩ := hk
      exact lv_goto hx hb hd h1 (KK0 h F)
    case ifCond cn off =>
      simp only [q_chk2, Bool.and_eq_true, beq_iff_eq, decide_eq_true_eq] at hk
      obtain ⟨rfl, h1⟩ := hk
      match st, h with
      | .inl x :: r, h => exact q_cmp_0 (q_pop F).2 cn C0 hd h1 (fun q => KK0 (h.1 q) (q_pop F).1) (fun q => KK0 (h.2 q) (q_pop F).1)
    case if_icmp cn off =>
      simp only [q_chk2, Bool.and_eq_true, beq_iff_eq, decide_eq_true_eq] at hk
      obtain ⟨rfl, h1⟩ := hk
      match st, h with
      | .inl y :: .inl x :: r, h => exact q_cmp_eq (q_pop (q_pop F).1).2 (q_pop F).2 cn C0 hd h1 (fun q => KK0 (h.1 q) (q_pop (q_pop F).1).1) (fun q => KK0 (h.2 q) (q_pop (q_pop F).1).1)
    case tableswitch dd lo hi offs =>
      simp only [q_chk2, Bool.and_eq_true, decide_eq_true_eq] at hk
      obtain ⟨⟨⟨h1, h2⟩, h3⟩, h4⟩ := hk
      match st, h with
      | .inl x :: r, h =>
        obtain ⟨g1, g2⟩ := q_tsw _ _ _ h2 h
        have hxr : q_r32 x := (q_pop F).2
        by_cases hx1 : x < lo ∨ hi < x
        · exact lv_tableOut (x := Int32.ofInt x) hx hb hd (by rw [q_t32 hxr]; exact hx1) h1 (KK0 (g2 (by omega)) (q_pop F).1)
        · have hlt : (x - lo).toNat < offs.toList.length := by omega
          obtain ⟨t, h5, h6⟩ := g1 (x - lo).toNat offs.toList[(x - lo).toNat] (List.getElem?_eq_getElem hlt) (by omega)
          exact lv_tableIn (x := Int32.ofInt x) hx hb hd (by rw [q_t32 hxr]; omega) (by rw [q_t32 hxr]; omega) (by rw [q_t32 hxr, ← Array.getElem?_toList]; exact List.getElem?_eq_getElem hlt) h5 (KK0 h6 (q_pop F).1)
    case lookupswitch dd ps =>
      simp only [q_chk2, Bool.and_eq_true, decide_eq_true_eq] at hk
      obtain ⟨⟨⟨h1, h2⟩, h3⟩, h4⟩ := hk
      match st, h with
      | .inl x :: r, h =>
        have hxr : q_r32 x := (q_pop F).2
        obtain ⟨t, h5, h6⟩ := q_lsw h1 _ _ h2 h
        exact lv_lookup (x := Int32.ofInt x) hx hb hd h3 (by rw [q_t32 hxr]) h5 (KK0 h6 (q_pop F).1)
    case ireturn =>
      simp only [q_chk2, Bool.and_eq_true, beq_iff_eq] at hk
      obtain ⟨rfl, h1⟩ := hk
      match st, h with
      | [.inl x], h =>
        refine ret (some (.inl x)) h.2 ⟨hd, ?_⟩ (fun u hu => by cases hu; exact (q_pop F).2)
        by_cases h3 : q_a a 0 = 3
        · rw [if_pos h3] at h1
          have h2 := h.1
          unfold q_kind at h2
          rw [if_pos h3] at h2
          exact Or.inr ⟨of_decide_eq_true h1, h2⟩
        · rw [if_neg h3] at h1
          exact Or.inl (of_decide_eq_true h1)
    case lreturn =>
      simp only [q_chk2, Bool.and_eq_true, beq_iff_eq, decide_eq_true_eq] at hk
      obtain ⟨rfl, h1⟩ := hk
      match st, h with
      | [.inr (.inl x)], h => exact ret (some (.inr (.inl x))) h ⟨hd, h1⟩ (fun u hu => by cases hu; exact (q_pop F).2)
    case areturn =>
      simp only [q_chk2, Bool.and_eq_true, beq_iff_eq] at hk
      obtain ⟨rfl, h1⟩ := hk
      match st, h with
      | [.inr (.inr (.inl (some r)))], h =>
        refine ret (some (.inr (.inr (.inl (some r))))) h ⟨hd, ?_⟩ (fun u hu => by cases hu; exact (q_pop F).2)
        split at h1
        · rename_i n hn; exact ⟨n, hn⟩
        · cases h1
    case return_ =>
      simp only [q_chk2, Bool.and_eq_true, beq_iff_eq, decide_eq_true_eq] at hk
      obtain ⟨rfl, h1⟩ := hk
      match st, h with
      | [], h => exact ret none h ⟨hd, h1⟩ (fun u hu => by cases hu)
    case athrow => exact h.elim
    case invokevirtual n =>
      refine call (Or.inr (Or.inl ⟨n, rfl⟩)) ?_ h
      simp only [q_chk2, Bool.and_eq_true, decide_eq_true_eq] at hk
      have := hk.1.1.1.1.2
      omega
    case invokestatic n =>
      by_cases h3 : q_a a 2 = 3
      · rw [if_pos h3] at h
        simp only [q_chk2, Bool.and_eq_true, beq_iff_eq, if_pos h3, decide_eq_true_eq] at hk
        obtain ⟨rfl, ⟨⟨⟨⟨k1, k2⟩, k3⟩, k4⟩, k5⟩, k6⟩ := hk
        have hts := C0.2.2.2.2.1
        have hR := C0.2.2.2.2.2.2.2.2.1
        match st, h with
        | .inl y :: .inl x :: r, h =>
          have hy : q_r32 y := (q_pop F).2
          have hxr : q_r32 x := (q_pop (q_pop F).1).2
          refine va_mmax hx hb (by rw [C0.2.2.1]; exact F.1.1.1.symm) C0.2.2.2.1 (hts _ (q_has_mem k1)) (hts _ (q_has_mem k2)) (hts _ (q_has_mem k3)) (hts _ (q_has_mem k4)) (Nat.le_trans k5 hR.1) (by rw [q_mv_sum]; have := h.1; have := hR.2.1; omega) (Nat.le_trans F.2.2.2.1 hR.2.2.1) (Nat.le_trans F.2.2.2.2 hR.2.2.2) hd ?_
          have kk := KK0 h.2 (q_push (v := .inl (if x < y then y else x)) (q_pop (q_pop F).1).1 (by split; exact hy; exact hxr))
          have e9 : (if Int32.ofInt x < Int32.ofInt y then Int32.ofInt y else Int32.ofInt x) = Int32.ofInt (if x < y then y else x) := by
            by_cases hl : x < y
            · rw [if_pos hl, if_pos ((q_lt32 hxr hy).mpr hl)]
            · rw [if_neg hl, if_neg (fun q => hl ((q_lt32 hxr hy).mp q))]
          rw [e9]
          exact kk
      · rw [if_neg h3] at h
        refine call (Or.inl ⟨⟨n, rfl⟩, h3⟩) ?_ h
        simp only [q_chk2, Bool.and_eq_true, if_neg h3, decide_eq_true_eq] at hk
        have := hk.2.1.1
        omega
    case invokespecial n =>
      by_cases h2 : q_a a 2 = 2
      · rw [if_pos h2] at h
        simp only [q_chk2, Bool.and_eq_true, beq_iff_eq, if_pos h2, decide_eq_true_eq] at hk
        obtain ⟨rfl, ⟨⟨⟨k1, k2⟩, k3⟩, k4⟩, k5⟩ := hk
        have hts := C0.2.2.2.2.1
        have hR := C0.2.2.2.2.2.2.2.2.1
        match st, h with
        | .inr (.inr (.inl (some r0))) :: r, h =>
          refine W.objInit hx hb C0.2.2.2.1 (hts _ (q_has_mem k1)) (hts _ (q_has_mem k2)) (hts _ (q_has_mem k3)) rfl (by rw [C0.2.2.1]; exact F.1.1.1) rfl hd (Nat.le_trans k4 hR.1) (by have h9 := h.1; have := hR.2.1; show 2 * 0 + _ + 12 ≤ _; rw [q_mv_sum]; omega) ?_
          exact KK0 h.2 (q_pop F).1
      · rw [if_neg h2] at h
        refine call (Or.inr (Or.inr ⟨⟨n, rfl⟩, h2⟩)) ?_ h
        simp only [q_chk2, Bool.and_eq_true, if_neg h2, decide_eq_true_eq] at hk
        have := hk.2.1.1.1.1.1
        omega
    case new n =>
      by_cases h2 : q_a a 2 = 1
      · rw [if_pos h2] at h
        obtain ⟨⟨rfl, g1, g2⟩, h3⟩ := h
        have hl3 : len = 3 := by simp only [q_chk2, Bool.and_eq_true, beq_iff_eq] at hk; exact hk.1
        subst hl3
        exact HT pc ls (q_a a 0) S z ad H locs kc ks h3 ⟨n, v, a, hf, h2, rfl⟩ (Nat.le_refl _) (fun _ _ => rfl) Wd F.1.1.1 g1 g2
      · rw [if_neg h2] at h
        exact sim _ h (fun P lp' st' S' z' kc' ks' hs hp K => q_new_ok C0 hd hk h2 Wd F hs hp K)
    case newarray t => exact sim _ h (fun P lp' st' S' z' kc' ks' hs hp K => q_newa_ok C0 hd hk Wd F (by have h9 := hs; simp only [q_sim1, q_sim2, Option.none_or, Option.or_none] at h9; exact h9) hp K)
    case getfield n => exact sim _ h (fun P lp' st' S' z' kc' ks' hs hp K => q_fld_ok C0 hd hk Wd F (Or.inl ⟨n, rfl⟩) (by have h9 := hs; simp only [q_sim1, q_sim2, Option.none_or, Option.or_none] at h9; exact h9) hp K)
    case putfield n => exact sim _ h (fun P lp' st' S' z' kc' ks' hs hp K => q_fld_ok C0 hd hk Wd F (Or.inr ⟨n, rfl⟩) (by have h9 := hs; simp only [q_sim1, q_sim2, Option.none_or, Option.or_none] at h9; exact h9) hp K)
    case iaload => exact sim _ h (fun P lp' st' S' z' kc' ks' hs hp K => q_arr_ok C0 hd hk Wd F (Or.inl rfl) (by have h9 := hs; simp only [q_sim1, q_sim2, Option.none_or, Option.or_none] at h9; exact h9) hp K)
    case baload => exact sim _ h (fun P lp' st' S' z' kc' ks' hs hp K => q_arr_ok C0 hd hk Wd F (Or.inr (Or.inl rfl)) (by have h9 := hs; simp only [q_sim1, q_sim2, Option.none_or, Option.or_none] at h9; exact h9) hp K)
    case laload => exact sim _ h (fun P lp' st' S' z' kc' ks' hs hp K => q_arr_ok C0 hd hk Wd F (Or.inr (Or.inr (Or.inl rfl))) (by have h9 := hs; simp only [q_sim1, q_sim2, Option.none_or, Option.or_none] at h9; exact h9) hp K)
    case iastore => exact sim _ h (fun P lp' st' S' z' kc' ks' hs hp K => q_arr_ok C0 hd hk Wd F (Or.inr (Or.inr (Or.inr (Or.inl rfl)))) (by have h9 := hs; simp only [q_sim1, q_sim2, Option.none_or, Option.or_none] at h9; exact h9) hp K)
    case bastore => exact sim _ h (fun P lp' st' S' z' kc' ks' hs hp K => q_arr_ok C0 hd hk Wd F (Or.inr (Or.inr (Or.inr (Or.inr (Or.inl rfl))))) (by have h9 := hs; simp only [q_sim1, q_sim2, Option.none_or, Option.or_none] at h9; exact h9) hp K)
    case lastore => exact sim _ h (fun P lp' st' S' z' kc' ks' hs hp K => q_arr_ok C0 hd hk Wd F (Or.inr (Or.inr (Or.inr (Or.inr (Or.inr (Or.inl rfl)))))) (by have h9 := hs; simp only [q_sim1, q_sim2, Option.none_or, Option.or_none] at h9; exact h9) hp K)
    case arraylength => exact sim _ h (fun P lp' st' S' z' kc' ks' hs hp K => q_arr_ok C0 hd hk Wd F (Or.inr (Or.inr (Or.inr (Or.inr (Or.inr (Or.inr rfl)))))) (by have h9 := hs; simp only [q_sim1, q_sim2, Option.none_or, Option.or_none] at h9; exact h9) hp K)
    all_goals first
      | exact sim _ h (fun P lp' st' S' z' kc' ks' hs hp K => q_sim1_ok C0 hd hk Wd F (by have h9 := hs; simp only [q_sim2, q_sim3, Option.none_or, Option.or_none] at h9; exact h9) hp K)
      | exact sim _ h (fun P lp' st' S' z' kc' ks' hs hp K => q_sim2_ok C0 hd hk Wd F (by have h9 := hs; simp only [q_sim1, q_sim3, Option.none_or, Option.or_none] at h9; exact h9) hp K)
      | exact sim _ h (fun P lp' st' S' z' kc' ks' hs hp K => by simp [q_sim1, q_sim2, q_sim3] at hs)
end QWhole
