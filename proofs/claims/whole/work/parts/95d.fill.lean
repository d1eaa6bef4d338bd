/-! Merges: the class's bits and the model's table. -/
/-- the class's bit of lines i and j -/
def zLv (a : qM) (i j : Int) : Prop := zBit (a 102 (i * 4 + j / 64)) j
/-- row i of the table is filled down to column j + 1 -/
def zPf (a0 b0 a b : qM) (S : Int → Int → Prop) (n m i j : Int) : Prop := (∀ r, r < 102 ∨ 106 < r → a r = a0 r) ∧ (∀ r, r ≠ 159 → b r = b0 r) ∧ (a 103 1 = m + 1 ∧ a 105 1 = m + 1) ∧ (a 104 m = 0) ∧ (∀ q, 0 ≤ q → q ≤ m → a 106 q = b 159 (242 * (i + 1) + q) ∧ 0 ≤ b 159 (242 * (i + 1) + q) ∧ b 159 (242 * (i + 1) + q) ≤ n - (i + 1)) ∧ (∀ q, j < q → q ≤ m → a 104 q = b 159 (242 * i + q) ∧ 0 ≤ b 159 (242 * i + q) ∧ b 159 (242 * i + q) ≤ n - i) ∧ (∀ i' j', (i < i' ∧ i' < n ∧ 0 ≤ j' ∧ j' < m) ∨ (i' = i ∧ j < j' ∧ j' < m) → (zLv a i' j' ↔ b 159 (242 * i' + (j' + 1)) ≤ b 159 (242 * (i' + 1) + j')) ∧ (¬ S i' j' → b 159 (242 * i' + j') = if b 159 (242 * (i' + 1) + j') ≤ b 159 (242 * i' + (j' + 1)) then b 159 (242 * i' + (j' + 1)) else b 159 (242 * (i' + 1) + j')))
theorem zPf.mk {a0 b0 a b : qM} {S : Int → Int → Prop} {n m i j : Int} (fa : ∀ r, r < 102 ∨ 106 < r → a r = a0 r) (fb : ∀ r, r ≠ 159 → b r = b0 r) (sz : a 103 1 = m + 1 ∧ a 105 1 = m + 1) (z : a 104 m = 0) (up : ∀ q, 0 ≤ q → q ≤ m → a 106 q = b 159 (242 * (i + 1) + q) ∧ 0 ≤ b 159 (242 * (i + 1) + q) ∧ b 159 (242 * (i + 1) + q) ≤ n - (i + 1)) (lo : ∀ q, j < q → q ≤ m → a 104 q = b 159 (242 * i + q) ∧ 0 ≤ b 159 (242 * i + q) ∧ b 159 (242 * i + q) ≤ n - i) (tb : ∀ i' j', (i < i' ∧ i' < n ∧ 0 ≤ j' ∧ j' < m) ∨ (i' = i ∧ j < j' ∧ j' < m) → (zLv a i' j' ↔ b 159 (242 * i' + (j' + 1)) ≤ b 159 (242 * (i' + 1) + j')) ∧ (¬ S i' j' → b 159 (242 * i' + j') = if b 159 (242 * (i' + 1) + j') ≤ b 159 (242 * i' + (j' + 1)) then b 159 (242 * i' + (j' + 1)) else b 159 (242 * (i' + 1) + j'))) : zPf a0 b0 a b S n m i j := ⟨fa, fb, sz, z, up, lo, tb⟩
theorem zPf.fa {a0 b0 a b : qM} {S : Int → Int → Prop} {n m i j : Int} (h : zPf a0 b0 a b S n m i j) : ∀ r, r < 102 ∨ 106 < r → a r = a0 r := h.1
theorem zPf.fb {a0 b0 a b : qM} {S : Int → Int → Prop} {n m i j : Int} (h : zPf a0 b0 a b S n m i j) : ∀ r, r ≠ 159 → b r = b0 r := h.2.1
theorem zPf.sz {a0 b0 a b : qM} {S : Int → Int → Prop} {n m i j : Int} (h : zPf a0 b0 a b S n m i j) : a 103 1 = m + 1 ∧ a 105 1 = m + 1 := h.2.2.1
theorem zPf.z {a0 b0 a b : qM} {S : Int → Int → Prop} {n m i j : Int} (h : zPf a0 b0 a b S n m i j) : a 104 m = 0 := h.2.2.2.1
theorem zPf.up {a0 b0 a b : qM} {S : Int → Int → Prop} {n m i j : Int} (h : zPf a0 b0 a b S n m i j) : ∀ q, 0 ≤ q → q ≤ m → a 106 q = b 159 (242 * (i + 1) + q) ∧ 0 ≤ b 159 (242 * (i + 1) + q) ∧ b 159 (242 * (i + 1) + q) ≤ n - (i + 1) := h.2.2.2.2.1
theorem zPf.lo {a0 b0 a b : qM} {S : Int → Int → Prop} {n m i j : Int} (h : zPf a0 b0 a b S n m i j) : ∀ q, j < q → q ≤ m → a 104 q = b 159 (242 * i + q) ∧ 0 ≤ b 159 (242 * i + q) ∧ b 159 (242 * i + q) ≤ n - i := h.2.2.2.2.2.1
theorem zPf.tb {a0 b0 a b : qM} {S : Int → Int → Prop} {n m i j : Int} (h : zPf a0 b0 a b S n m i j) : ∀ i' j', (i < i' ∧ i' < n ∧ 0 ≤ j' ∧ j' < m) ∨ (i' = i ∧ j < j' ∧ j' < m) → (zLv a i' j' ↔ b 159 (242 * i' + (j' + 1)) ≤ b 159 (242 * (i' + 1) + j')) ∧ (¬ S i' j' → b 159 (242 * i' + j') = if b 159 (242 * (i' + 1) + j') ≤ b 159 (242 * i' + (j' + 1)) then b 159 (242 * i' + (j' + 1)) else b 159 (242 * (i' + 1) + j')) := h.2.2.2.2.2.2
section Fill
variable {X : Nat × (Nat → Int32)} {a b a0 b0 a' b' s : qM} {K : qM → Prop} {KI : Int → qM → Prop} {i j n m M0 M1 w v : Int} {r2 t2 : Nat} {S : Int → Int → Prop}
theorem k_isLeftOut (i0 : 0 ≤ i) (i2 : i ≤ 240) (j0 : 0 ≤ j) (j2 : j ≤ 240) (h1 : zLv a i j → KI 1 a) (h0 : ¬ zLv a i j → KI 0 a) : c_Pairing_isLeftOut X i j a KI := by
  have e : Int.tdiv j 64 = j / 64 := Int.tdiv_eq_ediv_of_nonneg j0
  refine sg_Pairing_isLeftOut ?_
  rw [e]
  refine ⟨by omega, by omega, z_f (by omega) (z_f (by omega) ⟨by omega, by omega, z_c (fun ne => h0 ne) (fun eq => by have y := Decidable.not_not.mp eq; exact h1 y)⟩)⟩
theorem k_leaveOut (i0 : 0 ≤ i) (i2 : i ≤ 240) (j0 : 0 ≤ j) (j2 : j ≤ 240) (h : ∀ a', (∀ r, r ≠ 102 → a' r = a r) → (zLv a' i j ↔ v ≠ 0) → (∀ i' j', 0 ≤ i' → 0 ≤ j' → j' ≤ 240 → ¬ (i' = i ∧ j' = j) → (zLv a' i' j' ↔ zLv a i' j')) → K a') : c_Pairing_leaveOut X i j v a K := by
  have e : Int.tdiv j 64 = j / 64 := Int.tdiv_eq_ediv_of_nonneg j0
  refine sg_Pairing_leaveOut ?_
  rw [e]
  refine ⟨by omega, by omega, z_f (by omega) (z_f (by omega) (z_c (fun v0 => ⟨by omega, by omega, by omega, by omega, fun s1 e1 => ?_⟩) (fun v1 => ⟨by omega, by omega, by omega, by omega, fun s1 e1 => ?_⟩)))⟩
  · refine h s1 (fun r hr => by rw [e1, q_up_ne hr]) ?_ (fun i' j' u w x ne => ?_)
    · unfold zLv
      rw [e1, q_up_at, zBit_cut _ j0 (by omega) j0 (by omega)]
      exact ⟨fun z => absurd rfl z.2, fun z => absurd v0 z⟩
    · unfold zLv
      by_cases z : i' * 4 + j' / 64 = i * 4 + j / 64
      · rw [z, e1, q_up_at, zBit_cut _ j0 (by omega) w (by omega)]
        exact ⟨fun y => y.1, fun y => ⟨y, fun q => ne ⟨by omega, by omega⟩⟩⟩
      · rw [e1, q_up_nj z]
  · refine h s1 (fun r hr => by rw [e1, q_up_ne hr]) ?_ (fun i' j' u w x ne => ?_)
    · unfold zLv
      rw [e1, q_up_at, zBit_set _ j0 (by omega) j0 (by omega)]
      exact ⟨fun _ => v1, fun _ => Or.inr rfl⟩
    · unfold zLv
      by_cases z : i' * 4 + j' / 64 = i * 4 + j / 64
      · rw [z, e1, q_up_at, zBit_set _ j0 (by omega) w (by omega)]
        refine ⟨fun y => ?_, fun y => Or.inl y⟩
        rcases y with y | y
        · exact y
        · exact absurd ⟨by omega, by omega⟩ ne
      · rw [e1, q_up_nj z]
/-- the lines of one text against those of slot 0, with stores that have the same lines -/
theorem zEq.fr (hr : (r2 = 7 ∧ t2 = 1) ∨ (r2 = 96 ∧ t2 = 5)) (fa : ∀ r, r < 102 ∨ 106 < r → a r = a0 r) : zEq a 91 3 i r2 t2 j ↔ zEq a0 91 3 i r2 t2 j := by
  unfold zEq
  rw [fa (91 + 4) (by omega), fa (91 + 2) (by omega), fa (r2 + 4) (by omega), fa (r2 + 2) (by omega), fa (3 + 1) (by omega), fa (t2 + 1) (by omega)]
theorem zLm.fr2 {th rt : Nat} {w' M LL : Int} (A : zLm a0 b0 th rt w' M LL) (ht : th < 97 ∧ rt < 20) (fa : ∀ r, r < 102 ∨ 106 < r → a r = a0 r) (fb : ∀ r, r ≠ 159 → b r = b0 r) : zLm a b th rt w' M LL :=
  A.fr ⟨fa rt (by omega), fa (rt + 1) (by omega)⟩ ⟨fa (th + 1) (by omega), fa (th + 2) (by omega), fa (th + 3) (by omega), fa (th + 4) (by omega)⟩ ⟨fb 155 (by decide), fb 156 (by decide), fb 157 (by decide), fb 158 (by decide)⟩
theorem zPf.step (P : zPf a0 b0 a b S n m i j) (i0 : 0 ≤ i) (iN : i < n) (j0 : 0 ≤ j) (jm : j < m) (m2 : m ≤ 241) {x : Int} (f2 : ∀ r, r ≠ 102 → r ≠ 104 → a' r = a r) (g104 : a' 104 = q_u (a 104) j x) (gb : ∀ r, r ≠ 159 → b' r = b r) (g159 : b' 159 = q_u (b 159) (242 * i + j) x) (x0 : 0 ≤ x) (xn : x ≤ n - i) (l1 : zLv a' i j ↔ b 159 (242 * i + (j + 1)) ≤ b 159 (242 * (i + 1) + j)) (l2 : ∀ i' j', 0 ≤ i' → 0 ≤ j' → j' ≤ 240 → ¬ (i' = i ∧ j' = j) → (zLv a' i' j' ↔ zLv a i' j')) (hx : ¬ S i j → x = if b 159 (242 * (i + 1) + j) ≤ b 159 (242 * i + (j + 1)) then b 159 (242 * i + (j + 1)) else b 159 (242 * (i + 1) + j)) : zPf a0 b0 a' b' S n m i (j - 1) := by
  have o : ∀ p q, (i < p ∧ 0 ≤ q ∧ q ≤ 241) ∨ (p = i ∧ j < q) → b' 159 (242 * p + q) = b 159 (242 * p + q) := fun p q h => by rw [g159, q_u_ne (by omega)]
  refine zPf.mk (fun r hr => (f2 r (by omega) (by omega)).trans (P.fa r hr)) (fun r hr => (gb r hr).trans (P.fb r hr)) (by rw [f2 103 (by decide) (by decide), f2 105 (by decide) (by decide)]; exact P.sz) (by rw [g104, q_u_ne (by omega)]; exact P.z) (fun q q0 qm => ?_) (fun q q0 qm => ?_) (fun i' j' h => ?_)
  · rw [f2 106 (by decide) (by decide), o (i + 1) q (Or.inl ⟨by omega, q0, by omega⟩)]; exact P.up q q0 qm
  · by_cases e : q = j
    · rw [e, g104, g159, q_u_at, q_u_at]; exact ⟨rfl, x0, xn⟩
    · rw [g104, q_u_ne e, o i q (Or.inr ⟨rfl, by omega⟩)]; exact P.lo q (by omega) qm
  · by_cases e : i' = i ∧ j' = j
    · rw [e.1, e.2, o i (j + 1) (Or.inr ⟨rfl, by omega⟩), o (i + 1) j (Or.inl ⟨by omega, j0, by omega⟩), g159, q_u_at]
      exact ⟨l1, hx⟩
    · have h' : (i < i' ∧ i' < n ∧ 0 ≤ j' ∧ j' < m) ∨ (i' = i ∧ j < j' ∧ j' < m) := by
        rcases h with h | h
        · exact Or.inl h
        · have : j' ≠ j := fun z => e ⟨h.1, z⟩
          exact Or.inr ⟨h.1, by omega, h.2.2⟩
      have hj : 0 ≤ j' ∧ j' < m := by rcases h' with z | z; · { exact z.2.2 }; · { exact ⟨by omega, z.2.2⟩ }
      have hi : i ≤ i' ∧ (i' = i → j < j') := by rcases h' with z | z; · { exact ⟨by omega, fun y => by omega⟩ }; · { exact ⟨by omega, fun _ => z.2.1⟩ }
      have t := P.tb i' j' h'
      have e1 : b' 159 (242 * i' + (j' + 1)) = b 159 (242 * i' + (j' + 1)) := by
        by_cases y : i' = i
        · exact o i' (j' + 1) (Or.inr ⟨y, by have := hi.2 y; omega⟩)
        · exact o i' (j' + 1) (Or.inl ⟨by omega, by omega, by omega⟩)
      have e2 : b' 159 (242 * (i' + 1) + j') = b 159 (242 * (i' + 1) + j') := o (i' + 1) j' (Or.inl ⟨by omega, by omega, by omega⟩)
      have e3 : b' 159 (242 * i' + j') = b 159 (242 * i' + j') := by
        by_cases y : i' = i
        · exact o i' j' (Or.inr ⟨y, hi.2 y⟩)
        · exact o i' j' (Or.inl ⟨by omega, by omega, by omega⟩)
      rw [e1, e2, e3, l2 i' j' (by omega) hj.1 (by omega) e]
      exact t
end Fill
