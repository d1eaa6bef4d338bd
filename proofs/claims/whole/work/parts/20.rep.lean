/-! How the machine's heap and frame stand for the pure machine's. -/
theorem q_t32 {x : Int} (h : q_r32 x) : (Int32.ofInt x).toInt = x := Int32.toInt_ofInt_of_le (by have := h.1; omega) (by have := h.2; omega)
theorem q_t64 {x : Int} (h : q_r64 x) : (Int64.ofInt x).toInt = x := Int64.toInt_ofInt_of_le (by have := h.1; omega) (by have := h.2; omega)
theorem q_r32_of (x : Int32) : q_r32 x.toInt := ⟨by have := Int32.le_toInt x; omega, by have := Int32.toInt_lt x; omega⟩
theorem q_r64_of (x : Int64) : q_r64 x.toInt := ⟨by have := Int64.le_toInt x; omega, by have := Int64.toInt_lt x; omega⟩
theorem q_cn {x : Int} (h : q_r32 x) : (Int32.ofInt x).toNatClampNeg = x.toNat := by
  show (Int32.ofInt x).toInt.toNat = _
  rw [q_t32 h]
theorem q_lt32 {x y : Int} (hx : q_r32 x) (hy : q_r32 y) : Int32.ofInt x < Int32.ofInt y ↔ x < y := by rw [Int32.lt_iff_toInt_lt, q_t32 hx, q_t32 hy]
theorem q_le32 {x y : Int} (hx : q_r32 x) (hy : q_r32 y) : Int32.ofInt x ≤ Int32.ofInt y ↔ x ≤ y := by rw [Int32.le_iff_toInt_le, q_t32 hx, q_t32 hy]
theorem q_eq32 {x y : Int} (hx : q_r32 x) (hy : q_r32 y) : Int32.ofInt x = Int32.ofInt y ↔ x = y := by rw [← Int32.toInt_inj, q_t32 hx, q_t32 hy]
theorem q_lt64 {x y : Int} (hx : q_r64 x) (hy : q_r64 y) : Int64.ofInt x < Int64.ofInt y ↔ x < y := by rw [Int64.lt_iff_toInt_lt, q_t64 hx, q_t64 hy]
theorem q_eq64 {x y : Int} (hx : q_r64 x) (hy : q_r64 y) : Int64.ofInt x = Int64.ofInt y ↔ x = y := by rw [← Int64.toInt_inj, q_t64 hx, q_t64 hy]
theorem q_r32_64 {x : Int} (h : q_r32 x) : q_r64 x := ⟨by have := h.1; omega, by have := h.2; omega⟩
theorem q_r32_0 : q_r32 0 := ⟨by decide, by decide⟩
theorem q_r64_0 : q_r64 0 := ⟨by decide, by decide⟩
theorem q_i32_ok {v : Int} (h : q_i32 v = true) : q_r32 v := by
  simp only [q_i32, Bool.and_eq_true, decide_eq_true_eq] at h
  exact h
/-- a value of the machine for one of the pure machine -/
def q_mv (ad : Nat → Nat) (b : Nat) : qV → Value
  | .inl x => .int (Int32.ofInt x)
  | .inr (.inl x) => .long (Int64.ofInt x)
  | .inr (.inr (.inl none)) => .null
  | .inr (.inr (.inl (some r))) => .ref (ad r)
  | .inr (.inr (.inr _)) => .ref b
def q_ok (n : Nat) : qV → Prop
  | .inl x => q_r32 x
  | .inr (.inl x) => q_r64 x
  | .inr (.inr (.inl (some r))) => r < n
  | _ => True
theorem q_ok_mono {n k : Nat} {v : qV} (h : n ≤ k) (hv : q_ok n v) : q_ok k v := by
  rcases v with x | x | (_ | r) | u
  · exact hv
  · exact hv
  · trivial
  · exact Nat.lt_of_lt_of_le hv h
  · trivial
theorem q_mv_cat (ad : Nat → Nat) (b : Nat) (v : qV) : (q_mv ad b v).category = q_cat v := by
  rcases v with x | x | (_ | r) | u <;> rfl
theorem q_mv_sum (ad : Nat → Nat) (b : Nat) : ∀ st : List qV, ((st.map (q_mv ad b)).map fun v => v.category).sum = q_sum st
  | [] => rfl
  | v :: r => by
    simp only [List.map_cons, List.sum_cons, q_mv_cat, q_sum]
    rw [q_mv_sum ad b r]
theorem q_mv_congr {ad ad' : Nat → Nat} {b n : Nat} {v : qV} (h : ∀ r, r < n → ad' r = ad r) (hv : q_ok n v) : q_mv ad' b v = q_mv ad b v := by
  rcases v with x | x | (_ | r) | u
  · rfl
  · rfl
  · rfl
  · exact congrArg Value.ref (h r hv)
  · rfl
theorem q_mv_list {ad ad' : Nat → Nat} {b n : Nat} (h : ∀ r, r < n → ad' r = ad r) : ∀ {st : List qV}, (∀ v ∈ st, q_ok n v) → st.map (q_mv ad' b) = st.map (q_mv ad b)
  | [], _ => rfl
  | v :: r, hs => by
    rw [List.map_cons, List.map_cons, q_mv_congr h (hs v List.mem_cons_self), q_mv_list h (fun w hw => hs w (List.mem_cons_of_mem _ hw))]
/-- the locals as a list -/
def q_lv (ad : Nat → Nat) (b : Nat) : Nat → List (Option qV) → List (Nat × Value)
  | _, [] => []
  | k, none :: r => q_lv ad b (k + 1) r
  | k, some v :: r => (k, q_mv ad b v) :: q_lv ad b (k + 1) r
theorem q_lv_mem {ad : Nat → Nat} {b : Nat} : ∀ (ls : List (Option qV)) (k : Nat) (q : Nat × Value), q ∈ q_lv ad b k ls ↔ ∃ j v, ls[j]? = some (some v) ∧ q = (k + j, q_mv ad b v)
  | [], k, q => ⟨fun h => (by cases h), fun ⟨j, v, h, _⟩ => (by simp at h)⟩
  | none :: r, k, q => by
    show q ∈ q_lv ad b (k + 1) r ↔ _
    rw [q_lv_mem r (k + 1) q]
    constructor
    · rintro ⟨j, v, h, e⟩
      exact ⟨j + 1, v, by simpa using h, by rw [e]; congr 1; omega⟩
    · rintro ⟨j, v, h, e⟩
      cases j with
      | zero => simp at h
      | succ j => exact ⟨j, v, by simpa using h, by rw [e]; congr 1; omega⟩
  | some w :: r, k, q => by
    show q ∈ (k, q_mv ad b w) :: q_lv ad b (k + 1) r ↔ _
    rw [List.mem_cons, q_lv_mem r (k + 1) q]
    constructor
    · rintro (e | ⟨j, v, h, e⟩)
      · exact ⟨0, w, rfl, e⟩
      · exact ⟨j + 1, v, by simpa using h, by rw [e]; congr 1; omega⟩
    · rintro ⟨j, v, h, e⟩
      cases j with
      | zero =>
        simp at h
        subst h
        exact Or.inl e
      | succ j => exact Or.inr ⟨j, v, by simpa using h, by rw [e]; congr 1; omega⟩
def q_LR (ad : Nat → Nat) (b nL : Nat) (ls : Array Slot) (lp : List (Option qV)) : Prop := lv_has ls nL (q_lv ad b 0 lp) ∧ lp.length = nL
theorem q_LR.mem {ad : Nat → Nat} {b nL : Nat} {ls : Array Slot} {lp : List (Option qV)} {i : Nat} {v : qV} (h : q_ld lp i = some v) : (i, q_mv ad b v) ∈ q_lv ad b 0 lp := (q_lv_mem lp 0 _).mpr ⟨i, v, q_ld_iff.mp h, by rw [Nat.zero_add]⟩
theorem q_LR.at {ad : Nat → Nat} {b nL : Nat} {ls : Array Slot} {lp : List (Option qV)} {i : Nat} {v : qV} (H : q_LR ad b nL ls lp) (h : q_ld lp i = some v) : ls[i]? = some (.val (q_mv ad b v)) := H.1.2.2 _ (q_LR.mem (nL := nL) (ls := ls) h)
theorem q_LR.st1 {ad : Nat → Nat} {b nL : Nat} {ls ls' : Array Slot} {lp : List (Option qV)} {i : Nat} {v : qV} (H : q_LR ad b nL ls lp)
    (h : lv_has ls' nL ((i, q_mv ad b v) :: (q_lv ad b 0 lp).filter (fun q => !(q.1 == i) && !(q.1 + 1 == i && q.2.category == 2)))) : q_LR ad b nL ls' (q_st lp i v) := by
  refine ⟨⟨h.1, h.2.1, fun q hq => h.2.2 q ?_⟩, by rw [q_st_length]; exact H.2⟩
  obtain ⟨j, u, hu, rfl⟩ := (q_lv_mem _ 0 q).mp hq
  rcases q_st_get hu with ⟨rfl, rfl⟩ | ⟨h1, h2, h3⟩
  · rw [Nat.zero_add]; exact List.mem_cons_self
  · refine List.mem_cons_of_mem _ (List.mem_filter.mpr ⟨(q_lv_mem lp 0 _).mpr ⟨j, u, h2, rfl⟩, ?_⟩)
    rw [Nat.zero_add, q_mv_cat]
    simp only [Bool.and_eq_true, Bool.not_eq_true', beq_eq_false_iff_ne, ne_eq, Bool.and_eq_false_imp, beq_iff_eq]
    exact ⟨h1, fun e c => h3 ⟨e, c⟩⟩
theorem q_LR.st2 {ad : Nat → Nat} {b nL : Nat} {ls ls' : Array Slot} {lp : List (Option qV)} {i : Nat} {v : qV} (H : q_LR ad b nL ls lp)
    (h : lv_has ls' nL ((i, q_mv ad b v) :: (q_lv ad b 0 lp).filter (fun q => !(q.1 == i) && (!(q.1 == i + 1) && !(q.1 + 1 == i && q.2.category == 2))))) : q_LR ad b nL ls' (q_st2 lp i v) := by
  refine ⟨⟨h.1, h.2.1, fun q hq => h.2.2 q ?_⟩, by rw [q_st2_length]; exact H.2⟩
  obtain ⟨j, u, hu, rfl⟩ := (q_lv_mem _ 0 q).mp hq
  rcases q_st2_get hu with ⟨rfl, rfl⟩ | ⟨h1, h4, h2, h3⟩
  · rw [Nat.zero_add]; exact List.mem_cons_self
  · refine List.mem_cons_of_mem _ (List.mem_filter.mpr ⟨(q_lv_mem lp 0 _).mpr ⟨j, u, h2, rfl⟩, ?_⟩)
    rw [Nat.zero_add, q_mv_cat]
    simp only [Bool.and_eq_true, Bool.not_eq_true', beq_eq_false_iff_ne, ne_eq, Bool.and_eq_false_imp, beq_iff_eq]
    exact ⟨h1, h4, fun e c => h3 ⟨e, c⟩⟩
theorem q_LR.moved {ad ad' : Nat → Nat} {b nL n : Nat} {ls : Array Slot} {lp : List (Option qV)} (H : q_LR ad b nL ls lp) (h : ∀ r, r < n → ad' r = ad r) (hv : ∀ (i : Nat) (v : qV), lp[i]? = some (some v) → q_ok n v) : q_LR ad' b nL ls lp := by
  refine ⟨⟨H.1.1, H.1.2.1, fun q hq => ?_⟩, H.2⟩
  obtain ⟨j, u, hu, rfl⟩ := (q_lv_mem _ 0 q).mp hq
  rw [q_mv_congr h (hv j u hu)]
  exact H.1.2.2 _ ((q_lv_mem lp 0 _).mpr ⟨j, u, hu, rfl⟩)
