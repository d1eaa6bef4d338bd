theorem q_wd0 {D : va_G} {cI cZ cJ : ClassId} {A : Nat → Prop} {H : Heap} {ad : Nat → Nat} : q_Wd D cI cZ cJ A H ad [] (fun _ _ => 0) H [] := by
  refine ⟨fun k q h => ?_, ⟨fun i j x y h => ?_, fun k q h => ?_⟩, va_S.rf, fun r j => ⟨fun h => ?_, fun _ => q_r32_0⟩, fun r sh h => ?_⟩
  · simp [q_ws] at h
  · simp [q_ws] at h
  · simp [q_ws] at h
  · simp [q_tag] at h
  · simp at h
theorem q_c0 : q_b 0 = code ∧ q_nL 0 = 7 ∧ q_rt 0 = ret ∧ q_mk 0 = 2 ∧ (q_y 0).name ≠ "<init>" ∧ q_rm 0 = (12, 464, 601024, 7293034) := by
  refine ⟨rfl, by decide +kernel, rfl, by decide +kernel, by decide +kernel, by decide +kernel⟩
set_option maxHeartbeats 4000000 in
theorem q_entry0 {p : Program} {e : Env} {s : State} {m : MethodId} {below : List Frame} {meth : Method} {c : Code} (l : Launch) (hflags : l.flags = flags0) {b L : Nat} {xs : Nat → Int32} (hL : L ≤ 1536) (C0 : lw_At p s m meth c b L xs)
    (h : q_W (q_Pr L xs) 0 (0, q_pad 7 [some (.inr (.inr (.inr ())))], [], [], fun _ _ => 0, 0, 0) (fun k _ _ => k = .inl (some (.inl 1)))) :
    W p l e room_1 s m #[Value.ref b] below meth c s.heap [] 0 0 (lw_Z below #[Value.ref b] s) (entryFrame m ([Value.ref b] : List Value).toArray 7) := by
  obtain ⟨hx, hb, hr, hml, hown, hts, hX, hbl, hlocks, hnw⟩ := C0
  have hl : l.stackTraces = false := by
    unfold Launch.stackTraces
    rw [hflags]
    decide +kernel
  have hb0 : q_b 0 = code := q_c0.1
  obtain ⟨D, cI, cZ, cJ, hK⟩ := q_known (args := #[Value.ref b]) (fun w hw => hts w (List.mem_filter.mp hw).1)
  have hY : q_Y l D cI cZ cJ L xs 0 (0, q_pad 7 [some (.inr (.inr (.inr ())))], [], [], fun _ _ => 0, 0, 0) (fun k _ _ => k = .inl (some (.inl 1))) := q_W_ind (q_Y l D cI cZ cJ L xs) (fun M q Q => q_step hl) h
  have hC : q_Cx D cI cZ cJ 0 p room_1 s m #[Value.ref b] meth c (fun q => s.heap.size ≤ q) s.heap b L xs := ⟨hx, hb.trans hb0.symm, hml.trans q_c0.2.1.symm, by rw [q_own0]; exact hown, fun w hw => hts w (List.mem_filter.mp hw).1,
    fun o i y h hm => va_Nw.of rfl (hts _ hm), hK, fun h => absurd h q_c0.2.2.2.2.1, ⟨by decide +kernel, by decide +kernel, by decide +kernel, by decide +kernel⟩, fun q h => h, fun _ => ⟨hX, hbl, Nat.not_le.mpr hbl, by omega⟩,
    q_Ex_start hts hnw (fun a ha => Nat.not_le.mpr ha), fun h => by rw [q_c0.2.2.2.1] at h; cases h⟩
  have hs := q_start (ad := fun _ => 0) (b := b) (M := 0) (as := [.inr (.inr (.inr ()))]) (by rw [q_c0.2.1]; decide)
  rw [q_c0.2.1] at hs
  rw [lg_entry_eq]
  refine hY p e room_1 s m _ below meth c _ (fun q => s.heap.size ≤ q) s.heap s.heap [] b (fun _ => 0) _ hC q_wd0 ⟨by rw [q_c0.2.1]; exact hs, fun i v hv => ?_, fun v hv => (by cases hv), Nat.zero_le _, Nat.zero_le _⟩ ?_ ?_
  · have hv : (q_pad 7 (q_en [.inr (.inr (.inr ()))]))[i]? = some (some v) := hv
    have := q_pad_mem hv
    simp only [List.mem_cons, List.not_mem_nil, or_false] at this
    subst this
    trivial
  · intro pc' ls' v S' z' ad' H' locs' kc' ks' hq hrok hn hag Wd' hvok hkc hks
    cases hq
    rw [q_c0.2.2.2.2.2] at hkc hks
    have e1 : Int32.ofInt 1 = 1 := by decide
    have K : W p l e room_1 s m #[Value.ref b] below meth c H' [] 601024 7293034 (lw_Z below #[Value.ref b] s) (F0 m pc' ls' [.int 1]) := lw_ret hx hb hr hlocks (by rw [← hb0]; exact hrok.1)
    rw [← e1] at K
    exact va_forget (fun q hq => Wd'.2.2.1.2.2 q hq) (W.widen hkc hks K)
  · intro pc' ls' k S' z' ad' H' locs' kc' ks' hq
    cases hq
