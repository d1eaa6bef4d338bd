/-! The heap: one world for all objects and arrays. -/
def q_tys (cI cZ cJ : ClassId) : List (ClassId × FieldType) := [(cI, .int), (cZ, .boolean), (cJ, .long)]
def q_fs (ad : Nat → Nat) (k : Nat) (sh : Nat × Nat × List (Option Nat)) (f : Int → Int) : List Value :=
  (List.range sh.2.1).map fun (j : Nat) => if (q_kd.getD k []).getD j 0 = 1 then va_rf ((sh.2.2.getD j none).map ad) else .int (Int32.ofInt (f j))
def q_e1 (cI cZ cJ : ClassId) (ad : Nat → Nat) (sh : Nat × Nat × List (Option Nat)) (f : Int → Int) : va_E := match sh.1 with
  | 0 => .inl (cI, sh.2.1, .inl (fun (j : Nat) => Int32.ofInt (f j)))
  | 1 => .inl (cZ, sh.2.1, .inl (fun (j : Nat) => Int32.ofInt (f j)))
  | 2 => .inl (cJ, sh.2.1, .inr (.inl (fun (j : Nat) => Int64.ofInt (f j))))
  | k + 3 => .inr (k, q_fs ad k sh f)
def q_ws (cI cZ cJ : ClassId) (ad : Nat → Nat) (S : qS) (z : qM) : va_W := (List.range S.length).map fun r => (ad r, q_e1 cI cZ cJ ad (S.getD r (0, 0, [])) (z r))
def q_rg (S : qS) (z : qM) : Prop := ∀ (r : Nat) (j : Int), (q_tag S r = some 2 → q_r64 (z r j)) ∧ (q_tag S r ≠ some 2 → q_r32 (z r j))
def q_wf (S : qS) : Prop := ∀ (r : Nat) (sh : Nat × Nat × List (Option Nat)), S[r]? = some sh → (∀ k, sh.1 = k + 3 → k < q_ft.length ∧ sh.2.1 = q_N k ∧ sh.2.2.length = sh.2.1) ∧ sh.2.1 < 2147483648 ∧ ∀ k q, sh.2.2.getD k none = some q → q < S.length
def q_Wd (D : va_G) (cI cZ cJ : ClassId) (A : Nat → Prop) (H0 : Heap) (ad : Nat → Nat) (S : qS) (z : qM) (H : Heap) (locs : List Loc) : Prop :=
  va_P D q_cl (q_ws cI cZ cJ ad S z) H ∧ va_D A (q_ws cI cZ cJ ad S z) ∧ va_S A H0 H locs ∧ q_rg S z ∧ q_wf S
section QW
variable {cI cZ cJ : ClassId} {ad : Nat → Nat} {S : qS} {z : qM} {r : Nat} {sh : Nat × Nat × List (Option Nat)}
theorem q_lt_of (h : S[r]? = some sh) : r < S.length := (List.getElem?_eq_some_iff.mp h).1
theorem q_ws_len : (q_ws cI cZ cJ ad S z).length = S.length := by simp [q_ws]
theorem q_ws_get (h : S[r]? = some sh) : (q_ws cI cZ cJ ad S z)[r]? = some (ad r, q_e1 cI cZ cJ ad sh (z r)) := by
  have hr := q_lt_of h
  unfold q_ws
  rw [List.getElem?_map, List.getElem?_range hr, Option.map_some, List.getD_eq_getElem?_getD, h, Option.getD_some]
theorem q_ws_none (h : S.length ≤ r) : (q_ws cI cZ cJ ad S z)[r]? = none := by
  simp [q_ws, h]
theorem q_tag_of (h : S[r]? = some sh) : q_tag S r = some sh.1 := by unfold q_tag; rw [h]
theorem q_len_of (h : S[r]? = some sh) : q_len S r = sh.2.1 := by unfold q_len; rw [h]
theorem q_ref_of (h : S[r]? = some sh) (k : Nat) : q_ref S r k = sh.2.2.getD k none := by unfold q_ref; rw [h]
theorem q_tag_get {t : Nat} (h : q_tag S r = some t) : ∃ n rs, S[r]? = some (t, n, rs) := by
  unfold q_tag at h
  split at h
  · rename_i w hw
    obtain ⟨t', n, rs⟩ := w
    cases h
    exact ⟨n, rs, hw⟩
  · cases h
theorem q_e1_0 {n : Nat} {rs : List (Option Nat)} {f : Int → Int} : q_e1 cI cZ cJ ad (0, n, rs) f = .inl (cI, n, .inl (fun (j : Nat) => Int32.ofInt (f j))) := rfl
theorem q_e1_1 {n : Nat} {rs : List (Option Nat)} {f : Int → Int} : q_e1 cI cZ cJ ad (1, n, rs) f = .inl (cZ, n, .inl (fun (j : Nat) => Int32.ofInt (f j))) := rfl
theorem q_e1_2 {n : Nat} {rs : List (Option Nat)} {f : Int → Int} : q_e1 cI cZ cJ ad (2, n, rs) f = .inl (cJ, n, .inr (.inl (fun (j : Nat) => Int64.ofInt (f j)))) := rfl
theorem q_e1_3 {k n : Nat} {rs : List (Option Nat)} {f : Int → Int} : q_e1 cI cZ cJ ad (3 + k, n, rs) f = .inr (k, q_fs ad k (3 + k, n, rs) f) := by
  rw [Nat.add_comm 3 k]
  rfl
theorem q_up_other {q : Nat} {j v : Int} (h : q ≠ r) : q_up z r j v q = z q := by simp [q_up, h]
theorem q_up_same {j v : Int} : q_up z r j v r = q_u (z r) j v := by simp [q_up]
/-- one cell changed -/
theorem q_ws_set {z' : qM} {S' : qS} {e : va_E} (hl : S'.length = S.length) (hr : r < S.length) (ho : ∀ q, q ≠ r → S'[q]? = S[q]? ∧ z' q = z q) (he : ∀ sh', S'[r]? = some sh' → q_e1 cI cZ cJ ad sh' (z' r) = e) :
    q_ws cI cZ cJ ad S' z' = (q_ws cI cZ cJ ad S z).set r (ad r, e) := by
  apply List.ext_getElem?
  intro q
  by_cases hq : q < S.length
  · have h1 : S'[q]? = some S'[q] := List.getElem?_eq_getElem (by omega)
    rw [q_ws_get h1]
    by_cases e1 : q = r
    · subst e1
      rw [List.getElem?_set_self (by rw [q_ws_len]; exact hr), he _ h1]
    · obtain ⟨a, b⟩ := ho q e1
      rw [List.getElem?_set_ne (fun w => e1 w.symm), q_ws_get (sh := S'[q]) (by rw [← a]; exact h1), b]
  · rw [q_ws_none (by omega)]
    have : ((q_ws cI cZ cJ ad S z).set r (ad r, e)).length ≤ q := by rw [List.length_set, q_ws_len]; omega
    exact (List.getElem?_eq_none this).symm
/-- a new cell at the end -/
theorem q_ws_push {a : Nat} (hw : q_wf S) (hs : ∀ k q, sh.2.2.getD k none = some q → q < S.length) : q_ws cI cZ cJ (fun q => if q = S.length then a else ad q) (S ++ [sh]) (q_z z S.length) = q_ws cI cZ cJ ad S z ++ [(a, q_e1 cI cZ cJ ad sh (fun _ => 0))] := by
  have hcg : ∀ (sh' : Nat × Nat × List (Option Nat)) (f : Int → Int), (∀ k q, sh'.2.2.getD k none = some q → q < S.length) → q_e1 cI cZ cJ (fun q => if q = S.length then a else ad q) sh' f = q_e1 cI cZ cJ ad sh' f := by
    intro sh' f hh
    obtain ⟨t, n, rs⟩ := sh'
    match t with
    | 0 => rfl
    | 1 => rfl
    | 2 => rfl
    | k + 3 =>
      show Sum.inr (k, _) = Sum.inr (k, _)
      congr 2
      unfold q_fs
      apply List.map_congr_left
      intro j _
      split
      · cases hq : rs.getD j none with
        | none => rfl
        | some q =>
          have := hh j q hq
          simp [Nat.ne_of_lt this]
      · rfl
  apply List.ext_getElem?
  intro q
  by_cases hq : q < S.length
  · have h1 : S[q]? = some S[q] := List.getElem?_eq_getElem hq
    rw [List.getElem?_append_left (by rw [q_ws_len]; exact hq), q_ws_get h1, q_ws_get (sh := S[q]) (by rw [List.getElem?_append_left hq]; exact h1), hcg _ _ (hw q _ h1).2.2]
    simp [q_z, Nat.ne_of_lt hq]
  · by_cases e : q = S.length
    · subst e
      rw [List.getElem?_append_right (by rw [q_ws_len]; exact Nat.le_refl _), q_ws_len, q_ws_get (sh := sh) (by simp), hcg _ _ hs]
      simp [q_z]
    · rw [q_ws_none (by simp; omega), List.getElem?_append_right (by rw [q_ws_len]; omega)]
      have : ([(a, q_e1 cI cZ cJ ad sh (fun _ => 0))] : va_W).length ≤ q - (q_ws cI cZ cJ ad S z).length := by rw [q_ws_len]; simp; omega
      exact (List.getElem?_eq_none this).symm
theorem q_wf_push (hw : q_wf S) (h1 : ∀ k, sh.1 = k + 3 → k < q_ft.length ∧ sh.2.1 = q_N k ∧ sh.2.2.length = sh.2.1) (hn : sh.2.1 < 2147483648) (h2 : ∀ k q, sh.2.2.getD k none = some q → q < S.length) : q_wf (S ++ [sh]) := by
  intro q sh' hq
  by_cases hl : q < S.length
  · rw [List.getElem?_append_left hl] at hq
    exact ⟨(hw q sh' hq).1, (hw q sh' hq).2.1, fun k x hx => by have := (hw q sh' hq).2.2 k x hx; simp; omega⟩
  · by_cases e : q = S.length
    · subst e
      simp at hq
      subst hq
      exact ⟨h1, hn, fun k x hx => by have := h2 k x hx; simp; omega⟩
    · rw [List.getElem?_eq_none (by simp; omega)] at hq
      cases hq
theorem q_rg_push (hg : q_rg S z) : q_rg (S ++ [sh]) (q_z z S.length) := by
  intro q j
  by_cases e : q = S.length
  · subst e
    refine ⟨fun _ => ?_, fun _ => ?_⟩
    · simp only [q_z, if_true]; exact q_r64_0
    · simp only [q_z, if_true]; exact q_r32_0
  · have ht : q_tag (S ++ [sh]) q = q_tag S q := by
      unfold q_tag
      by_cases hl : q < S.length
      · rw [List.getElem?_append_left hl]
      · rw [List.getElem?_eq_none (by simp; omega), List.getElem?_eq_none (by omega)]
    simp only [q_z, if_neg e, ht]
    exact hg q j
theorem q_rg_up {j v : Int} (hg : q_rg S z) (h2 : q_tag S r = some 2 → q_r64 v) (h3 : q_tag S r ≠ some 2 → q_r32 v) : q_rg S (q_up z r j v) := by
  intro q i
  by_cases e : q = r
  · subst e
    rw [q_up_same]
    unfold q_u
    split
    · exact ⟨h2, h3⟩
    · exact hg q i
  · rw [q_up_other e]
    exact hg q i
end QW
theorem q_cl_get {k : Nat} (h : k < q_ft.length) : q_cl[k]? = some (q_C k, q_T k, q_N k) := by
  have h1 : q_ft[k]? = some q_ft[k] := List.getElem?_eq_getElem h
  unfold q_cl
  rw [List.getElem?_map, h1]
  have e : q_T k = fun j => q_ft[k].2.getD j ("", "", "", false) := by
    funext j
    simp only [q_T, List.getD_eq_getElem?_getD, h1, Option.getD_some]
  rw [e]
  simp only [q_C, q_N, List.getD_eq_getElem?_getD, h1, Option.map_some, Option.getD_some]
