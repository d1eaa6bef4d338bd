/-! Merges: the bits of the pairing. -/
/-- the bit x of the word w -/
def zBit (w x : Int) : Prop := q_lcmp (q_land (q_lushr w (q_and x 63)) 1) 1 = 0
section Bits
theorem zB_and : ∀ n : Fin 1024, q_and ((n : Nat) : Int) 63 = ((n : Nat) : Int) % 64 := by decide +kernel
theorem zB_shr : ∀ n : Fin 64, (UInt64.mod ((Int32.ofInt ((n : Nat) : Int)).toInt64.toUInt64 &&& Int64.toUInt64 63) 64).toBitVec.toNat = n := by decide +kernel
theorem zB_shl : ∀ n : Fin 64, BitVec.ofInt 64 (q_lshl 1 ((n : Nat) : Int)) = BitVec.twoPow 64 n := by decide +kernel
theorem zB_not : ∀ n : Fin 64, BitVec.ofInt 64 (q_lxor (q_lshl 1 ((n : Nat) : Int)) (-1)) = ~~~ BitVec.twoPow 64 n := by decide +kernel
theorem zB_land (a b : Int) : q_land a b = (BitVec.ofInt 64 a &&& BitVec.ofInt 64 b).toInt := rfl
theorem zB_lor (a b : Int) : q_lor a b = (BitVec.ofInt 64 a ||| BitVec.ofInt 64 b).toInt := rfl
theorem zB_ushr (w k : Int) : q_lushr w k = (BitVec.ofInt 64 w >>> (UInt64.mod ((Int32.ofInt k).toInt64.toUInt64 &&& Int64.toUInt64 63) 64).toBitVec.toNat).toInt := rfl
theorem zB_one (A : BitVec 64) : (A &&& BitVec.ofInt 64 1).toInt = 1 ↔ A.getLsbD 0 = true := by
  have e : A &&& BitVec.ofInt 64 1 = if A.getLsbD 0 = true then 1#64 else 0#64 := by
    apply BitVec.eq_of_getLsbD_eq
    intro i hi
    rw [BitVec.getLsbD_and, show BitVec.ofInt 64 1 = 1#64 from rfl, BitVec.getLsbD_one]
    by_cases z : i = 0
    · rw [z]
      by_cases y : A.getLsbD 0 = true
      · rw [if_pos y, y]; rfl
      · rw [if_neg y, Bool.not_eq_true _ |>.mp y]; rfl
    · by_cases y : A.getLsbD 0 = true
      · rw [if_pos y, BitVec.getLsbD_one]; simp [z]
      · rw [if_neg y]; simp [z]
  rw [e]
  by_cases y : A.getLsbD 0 = true
  · rw [if_pos y]; exact ⟨fun _ => y, fun _ => rfl⟩
  · rw [if_neg y]; exact ⟨fun z => absurd z (by decide), fun z => absurd z y⟩
theorem zBit_is (w : Int) {x : Int} (x0 : 0 ≤ x) (x2 : x ≤ 1000) : zBit w x ↔ (BitVec.ofInt 64 w).getLsbD (x % 64).toNat = true := by
  have e1 := zB_and ⟨x.toNat, by omega⟩
  have e2 : (((x.toNat : Nat)) : Int) = x := by omega
  rw [show (((⟨x.toNat, by omega⟩ : Fin 1024) : Nat) : Int) = x from e2] at e1
  have e3 := zB_shr ⟨(x % 64).toNat, by omega⟩
  rw [show (((⟨(x % 64).toNat, by omega⟩ : Fin 64) : Nat) : Int) = x % 64 by show (((x % 64).toNat : Nat) : Int) = x % 64; omega] at e3
  unfold zBit
  rw [e1, zB_ushr, e3, zB_land, BitVec.ofInt_toInt]
  have e4 : ∀ y : Int, q_lcmp y 1 = 0 ↔ y = 1 := by
    intro y
    unfold q_lcmp
    by_cases a : y > 1
    · rw [if_pos a]; omega
    · rw [if_neg a]
      by_cases b : y = 1
      · rw [if_pos b]; omega
      · rw [if_neg b]; omega
  rw [e4, zB_one, BitVec.getLsbD_ushiftRight, Nat.add_zero]
theorem zBit_set (w : Int) {x y : Int} (x0 : 0 ≤ x) (x2 : x ≤ 1000) (y0 : 0 ≤ y) (y2 : y ≤ 1000) : zBit (q_lor w (q_lshl 1 (q_and x 63))) y ↔ (zBit w y ∨ x % 64 = y % 64) := by
  have e1 := zB_and ⟨x.toNat, by omega⟩
  rw [show (((⟨x.toNat, by omega⟩ : Fin 1024) : Nat) : Int) = x by show ((x.toNat : Nat) : Int) = x; omega] at e1
  have e3 := zB_shl ⟨(x % 64).toNat, by omega⟩
  rw [show (((⟨(x % 64).toNat, by omega⟩ : Fin 64) : Nat) : Int) = x % 64 by show (((x % 64).toNat : Nat) : Int) = x % 64; omega] at e3
  rw [zBit_is _ y0 y2, zBit_is _ y0 y2, e1, zB_lor, BitVec.ofInt_toInt, e3, BitVec.getLsbD_or, BitVec.getLsbD_twoPow]
  simp only [Bool.or_eq_true, Bool.and_eq_true, decide_eq_true_eq]
  constructor
  · rintro (h | h)
    · exact Or.inl h
    · have := h.2; exact Or.inr (by omega)
  · rintro (h | h)
    · exact Or.inl h
    · exact Or.inr ⟨by omega, by show (x % 64).toNat = (y % 64).toNat; omega⟩
theorem zBit_cut (w : Int) {x y : Int} (x0 : 0 ≤ x) (x2 : x ≤ 1000) (y0 : 0 ≤ y) (y2 : y ≤ 1000) : zBit (q_land w (q_lxor (q_lshl 1 (q_and x 63)) (-1))) y ↔ (zBit w y ∧ x % 64 ≠ y % 64) := by
  have e1 := zB_and ⟨x.toNat, by omega⟩
  rw [show (((⟨x.toNat, by omega⟩ : Fin 1024) : Nat) : Int) = x by show ((x.toNat : Nat) : Int) = x; omega] at e1
  have e3 := zB_not ⟨(x % 64).toNat, by omega⟩
  rw [show (((⟨(x % 64).toNat, by omega⟩ : Fin 64) : Nat) : Int) = x % 64 by show (((x % 64).toNat : Nat) : Int) = x % 64; omega] at e3
  rw [zBit_is _ y0 y2, zBit_is _ y0 y2, e1, zB_land, BitVec.ofInt_toInt, e3, BitVec.getLsbD_and, BitVec.getLsbD_not, BitVec.getLsbD_twoPow]
  simp only [Bool.and_eq_true, Bool.not_eq_true', decide_eq_true_eq]
  constructor
  · rintro ⟨h1, h2, h3⟩
    refine ⟨h1, fun e => ?_⟩
    simp at h3
    exact h3 (by omega) (by omega)
  · rintro ⟨h1, h2⟩
    refine ⟨h1, by omega, ?_⟩
    simp
    intro _ e
    exact h2 (by omega)
end Bits
