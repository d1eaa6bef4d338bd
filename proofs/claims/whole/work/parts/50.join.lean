/-! A block is put into both. -/
/-- what the class's add does, in a container p -/
def zAdd (s s' : qM) (n p κ ib : Int) : Prop := (∀ q, q < 13 ∨ 28 < q → s' q = s q) ∧ (s' 13 1 = n + 1 ∧ s' 15 1 = n + 1 ∧ s' 17 1 = n + 1 ∧ s' 19 1 = n + 1 ∧ s' 21 1 = n + 1 ∧ s' 23 1 = n + 1 ∧ s' 25 1 = n + 1 ∧ s' 27 1 = n + 1) ∧ (s' 14 = q_u (s 14) n κ) ∧ (s' 16 = q_u (s 16) n p) ∧ (s' 18 = q_u (q_u (s 18) n (-1)) p n) ∧ (s' 20 = q_u (q_u (s 20) n 0) p 1) ∧ (∃ y, s' 22 = q_u y n 0 ∧ ((0 ≤ p ∧ ib ≠ 0 ∧ s 20 p = 1 ∧ s 14 (if s 14 p = 3 then s 16 p else p) = 2 ∧ y = q_u (s 22) (if s 14 p = 3 then s 16 p else p) 1) ∨ (¬ (0 ≤ p ∧ ib ≠ 0 ∧ s 20 p = 1 ∧ s 14 (if s 14 p = 3 then s 16 p else p) = 2) ∧ y = s 22))) ∧ (s' 24 = q_u (s 24) n (-1)) ∧ (s' 26 = q_u (s 26) n (-1)) ∧ (s' 28 = q_u (s 28) n 0)
theorem zAdd.mk {s s' : qM} {n p κ ib : Int} (fr : ∀ q, q < 13 ∨ 28 < q → s' q = s q) (rows : s' 13 1 = n + 1 ∧ s' 15 1 = n + 1 ∧ s' 17 1 = n + 1 ∧ s' 19 1 = n + 1 ∧ s' 21 1 = n + 1 ∧ s' 23 1 = n + 1 ∧ s' 25 1 = n + 1 ∧ s' 27 1 = n + 1) (f14 : s' 14 = q_u (s 14) n κ) (f16 : s' 16 = q_u (s 16) n p) (f18 : s' 18 = q_u (q_u (s 18) n (-1)) p n) (f20 : s' 20 = q_u (q_u (s 20) n 0) p 1) (f22 : ∃ y, s' 22 = q_u y n 0 ∧ ((0 ≤ p ∧ ib ≠ 0 ∧ s 20 p = 1 ∧ s 14 (if s 14 p = 3 then s 16 p else p) = 2 ∧ y = q_u (s 22) (if s 14 p = 3 then s 16 p else p) 1) ∨ (¬ (0 ≤ p ∧ ib ≠ 0 ∧ s 20 p = 1 ∧ s 14 (if s 14 p = 3 then s 16 p else p) = 2) ∧ y = s 22))) (f24 : s' 24 = q_u (s 24) n (-1)) (f26 : s' 26 = q_u (s 26) n (-1)) (f28 : s' 28 = q_u (s 28) n 0) : zAdd s s' n p κ ib := ⟨fr, rows, f14, f16, f18, f20, f22, f24, f26, f28⟩
theorem zAdd.fr {s s' : qM} {n p κ ib : Int} (h : zAdd s s' n p κ ib) : ∀ q, q < 13 ∨ 28 < q → s' q = s q := h.1
theorem zAdd.rows {s s' : qM} {n p κ ib : Int} (h : zAdd s s' n p κ ib) : s' 13 1 = n + 1 ∧ s' 15 1 = n + 1 ∧ s' 17 1 = n + 1 ∧ s' 19 1 = n + 1 ∧ s' 21 1 = n + 1 ∧ s' 23 1 = n + 1 ∧ s' 25 1 = n + 1 ∧ s' 27 1 = n + 1 := h.2.1
theorem zAdd.f14 {s s' : qM} {n p κ ib : Int} (h : zAdd s s' n p κ ib) : s' 14 = q_u (s 14) n κ := h.2.2.1
theorem zAdd.f16 {s s' : qM} {n p κ ib : Int} (h : zAdd s s' n p κ ib) : s' 16 = q_u (s 16) n p := h.2.2.2.1
theorem zAdd.f18 {s s' : qM} {n p κ ib : Int} (h : zAdd s s' n p κ ib) : s' 18 = q_u (q_u (s 18) n (-1)) p n := h.2.2.2.2.1
theorem zAdd.f20 {s s' : qM} {n p κ ib : Int} (h : zAdd s s' n p κ ib) : s' 20 = q_u (q_u (s 20) n 0) p 1 := h.2.2.2.2.2.1
theorem zAdd.f22 {s s' : qM} {n p κ ib : Int} (h : zAdd s s' n p κ ib) : ∃ y, s' 22 = q_u y n 0 ∧ ((0 ≤ p ∧ ib ≠ 0 ∧ s 20 p = 1 ∧ s 14 (if s 14 p = 3 then s 16 p else p) = 2 ∧ y = q_u (s 22) (if s 14 p = 3 then s 16 p else p) 1) ∨ (¬ (0 ≤ p ∧ ib ≠ 0 ∧ s 20 p = 1 ∧ s 14 (if s 14 p = 3 then s 16 p else p) = 2) ∧ y = s 22)) := h.2.2.2.2.2.2.1
theorem zAdd.f24 {s s' : qM} {n p κ ib : Int} (h : zAdd s s' n p κ ib) : s' 24 = q_u (s 24) n (-1) := h.2.2.2.2.2.2.2.1
theorem zAdd.f26 {s s' : qM} {n p κ ib : Int} (h : zAdd s s' n p κ ib) : s' 26 = q_u (s 26) n (-1) := h.2.2.2.2.2.2.2.2.1
theorem zAdd.f28 {s s' : qM} {n p κ ib : Int} (h : zAdd s s' n p κ ib) : s' 28 = q_u (s 28) n 0 := h.2.2.2.2.2.2.2.2.2
/-- what the model's puts does -/
def zPut (s s' : qM) (n p κ τ : Int) : Prop := (∀ q, q ≠ 113 → (q < 117 ∨ 123 < q) → s' q = s q) ∧ (∀ j, j ≠ 4 → s' 113 j = s 113 j) ∧ (s' 113 4 = n + 1) ∧ (s' 117 = q_u (s 117) n κ) ∧ (s' 118 = q_u (s 118) n p) ∧ (∃ x, s' 119 = q_u x n (if κ = 4 ∨ κ = 7 then 0 else 1) ∧ (s 122 p = -1 ∨ x (s 122 p) = 0) ∧ (∀ k, x k = s 119 k ∨ x k = 0) ∧ (∀ k, k ≤ p → x k = s 119 k) ∧ (∀ k, s 119 k = 1 → x k = 0 → s 122 k = -1 ∨ x (s 122 k) = 0)) ∧ (s' 120 = q_u (s 120) n τ) ∧ (∃ y, s' 121 = q_u y n 0 ∧ ((zLst s p ≠ -1 ∧ s 113 48 ≠ 0 ∧ 0 < s 123 p ∧ y = q_u (s 121) (zLst s p) 1) ∨ (¬ (zLst s p ≠ -1 ∧ s 113 48 ≠ 0 ∧ 0 < s 123 p) ∧ y = s 121))) ∧ (s' 122 = q_u (q_u (s 122) n (-1)) p n) ∧ (s' 123 = q_u (q_u (s 123) n 0) p (s 123 p + 1))
theorem zPut.mk {s s' : qM} {n p κ τ : Int} (fr : ∀ q, q ≠ 113 → (q < 117 ∨ 123 < q) → s' q = s q) (f113 : ∀ j, j ≠ 4 → s' 113 j = s 113 j) (nn : s' 113 4 = n + 1) (f117 : s' 117 = q_u (s 117) n κ) (f118 : s' 118 = q_u (s 118) n p) (f119 : ∃ x, s' 119 = q_u x n (if κ = 4 ∨ κ = 7 then 0 else 1) ∧ (s 122 p = -1 ∨ x (s 122 p) = 0) ∧ (∀ k, x k = s 119 k ∨ x k = 0) ∧ (∀ k, k ≤ p → x k = s 119 k) ∧ (∀ k, s 119 k = 1 → x k = 0 → s 122 k = -1 ∨ x (s 122 k) = 0)) (f120 : s' 120 = q_u (s 120) n τ) (f121 : ∃ y, s' 121 = q_u y n 0 ∧ ((zLst s p ≠ -1 ∧ s 113 48 ≠ 0 ∧ 0 < s 123 p ∧ y = q_u (s 121) (zLst s p) 1) ∨ (¬ (zLst s p ≠ -1 ∧ s 113 48 ≠ 0 ∧ 0 < s 123 p) ∧ y = s 121))) (f122 : s' 122 = q_u (q_u (s 122) n (-1)) p n) (f123 : s' 123 = q_u (q_u (s 123) n 0) p (s 123 p + 1)) : zPut s s' n p κ τ := ⟨fr, f113, nn, f117, f118, f119, f120, f121, f122, f123⟩
theorem zPut.fr {s s' : qM} {n p κ τ : Int} (h : zPut s s' n p κ τ) : ∀ q, q ≠ 113 → (q < 117 ∨ 123 < q) → s' q = s q := h.1
theorem zPut.f113 {s s' : qM} {n p κ τ : Int} (h : zPut s s' n p κ τ) : ∀ j, j ≠ 4 → s' 113 j = s 113 j := h.2.1
theorem zPut.nn {s s' : qM} {n p κ τ : Int} (h : zPut s s' n p κ τ) : s' 113 4 = n + 1 := h.2.2.1
theorem zPut.f117 {s s' : qM} {n p κ τ : Int} (h : zPut s s' n p κ τ) : s' 117 = q_u (s 117) n κ := h.2.2.2.1
theorem zPut.f118 {s s' : qM} {n p κ τ : Int} (h : zPut s s' n p κ τ) : s' 118 = q_u (s 118) n p := h.2.2.2.2.1
theorem zPut.f119 {s s' : qM} {n p κ τ : Int} (h : zPut s s' n p κ τ) : ∃ x, s' 119 = q_u x n (if κ = 4 ∨ κ = 7 then 0 else 1) ∧ (s 122 p = -1 ∨ x (s 122 p) = 0) ∧ (∀ k, x k = s 119 k ∨ x k = 0) ∧ (∀ k, k ≤ p → x k = s 119 k) ∧ (∀ k, s 119 k = 1 → x k = 0 → s 122 k = -1 ∨ x (s 122 k) = 0) := h.2.2.2.2.2.1
theorem zPut.f120 {s s' : qM} {n p κ τ : Int} (h : zPut s s' n p κ τ) : s' 120 = q_u (s 120) n τ := h.2.2.2.2.2.2.1
theorem zPut.f121 {s s' : qM} {n p κ τ : Int} (h : zPut s s' n p κ τ) : ∃ y, s' 121 = q_u y n 0 ∧ ((zLst s p ≠ -1 ∧ s 113 48 ≠ 0 ∧ 0 < s 123 p ∧ y = q_u (s 121) (zLst s p) 1) ∨ (¬ (zLst s p ≠ -1 ∧ s 113 48 ≠ 0 ∧ 0 < s 123 p) ∧ y = s 121)) := h.2.2.2.2.2.2.2.1
theorem zPut.f122 {s s' : qM} {n p κ τ : Int} (h : zPut s s' n p κ τ) : s' 122 = q_u (q_u (s 122) n (-1)) p n := h.2.2.2.2.2.2.2.2.1
theorem zPut.f123 {s s' : qM} {n p κ τ : Int} (h : zPut s s' n p κ τ) : s' 123 = q_u (q_u (s 123) n 0) p (s 123 p + 1) := h.2.2.2.2.2.2.2.2.2
/-- a1, but for what is told of the new block, and whether it is open -/
def zMod (a1 a' : qM) (n p κ τ : Int) : Prop := (∀ q, 13 ≤ q → q ≤ 28 → q ≠ 18 → q ≠ 22 → q ≠ 24 → q ≠ 26 → q ≠ 28 → a' q = a1 q) ∧ (∀ k, k ≠ n → a' 22 k = a1 22 k ∧ a' 24 k = a1 24 k ∧ a' 26 k = a1 26 k ∧ a' 28 k = a1 28 k) ∧ (a' 22 n = if κ = 3 ∨ κ = 4 then τ else 0) ∧ (κ = 2 → a' 24 n = τ) ∧ (κ = 5 → a' 28 n = 0) ∧ (a' 18 = if κ = 4 ∨ κ = 7 then q_u (a1 18) p (-1) else a1 18)
theorem zMod.mk {a1 a' : qM} {n p κ τ : Int} (fr : ∀ q, 13 ≤ q → q ≤ 28 → q ≠ 18 → q ≠ 22 → q ≠ 24 → q ≠ 26 → q ≠ 28 → a' q = a1 q) (pt : ∀ k, k ≠ n → a' 22 k = a1 22 k ∧ a' 24 k = a1 24 k ∧ a' 26 k = a1 26 k ∧ a' 28 k = a1 28 k) (f22 : a' 22 n = if κ = 3 ∨ κ = 4 then τ else 0) (f24 : κ = 2 → a' 24 n = τ) (f28 : κ = 5 → a' 28 n = 0) (f18 : a' 18 = if κ = 4 ∨ κ = 7 then q_u (a1 18) p (-1) else a1 18) : zMod a1 a' n p κ τ := ⟨fr, pt, f22, f24, f28, f18⟩
theorem zMod.fr {a1 a' : qM} {n p κ τ : Int} (h : zMod a1 a' n p κ τ) : ∀ q, 13 ≤ q → q ≤ 28 → q ≠ 18 → q ≠ 22 → q ≠ 24 → q ≠ 26 → q ≠ 28 → a' q = a1 q := h.1
theorem zMod.pt {a1 a' : qM} {n p κ τ : Int} (h : zMod a1 a' n p κ τ) : ∀ k, k ≠ n → a' 22 k = a1 22 k ∧ a' 24 k = a1 24 k ∧ a' 26 k = a1 26 k ∧ a' 28 k = a1 28 k := h.2.1
theorem zMod.f22 {a1 a' : qM} {n p κ τ : Int} (h : zMod a1 a' n p κ τ) : a' 22 n = if κ = 3 ∨ κ = 4 then τ else 0 := h.2.2.1
theorem zMod.f24 {a1 a' : qM} {n p κ τ : Int} (h : zMod a1 a' n p κ τ) : κ = 2 → a' 24 n = τ := h.2.2.2.1
theorem zMod.f28 {a1 a' : qM} {n p κ τ : Int} (h : zMod a1 a' n p κ τ) : κ = 5 → a' 28 n = 0 := h.2.2.2.2.1
theorem zMod.f18 {a1 a' : qM} {n p κ τ : Int} (h : zMod a1 a' n p κ τ) : a' 18 = if κ = 4 ∨ κ = 7 then q_u (a1 18) p (-1) else a1 18 := h.2.2.2.2.2
set_option maxHeartbeats 4000000 in
theorem zB.join {a a1 a' b b' : qM} {n : Int} {d : Nat} {c : Nat → Int} {i : Nat} {κ τ ib : Int} (B : zB a b n) (C : zCh a b n d c) (hi : i ≤ d) (hib : ib = b 113 48) (hp : b 117 (c i) ≤ 3) (k1 : 1 ≤ κ) (k7 : κ ≤ 7) (hk : b 117 (c i) = 2 ↔ κ = 3) (w3 : κ = 3 → 2 ≤ τ ∧ τ ≤ 3) (w4 : κ = 4 → 1 ≤ τ ∧ τ ≤ 3) (A : zAdd a a1 n (c i) κ ib) (M : zMod a1 a' n (c i) κ τ) (P : zPut b b' n (c i) κ τ) :
    zB a' b' (n + 1) ∧ (¬ (κ = 4 ∨ κ = 7) → zCh a' b' (n + 1) (i + 1) (fun j => if j ≤ i then c j else n)) ∧ (κ = 4 ∨ κ = 7 → zCh a' b' (n + 1) i c) := by
  have r := C.rng hi
  have r0 : 0 ≤ c i := by omega
  have B1 := B.n1
  have nz : ∀ k, k < c i → k ≠ n := fun k h => by omega
  have cn : c i ≠ n := by omega
  obtain ⟨r1, r2, r3, r4, r5, r6, r7, r8⟩ := A.rows
  obtain ⟨x, x0, x1, x2, x3, x4⟩ := P.f119
  have hn120 : b' 120 n = τ := by rw [P.f120]; exact q_u_at
  have lo : (∀ k, k ≠ n → a' 22 k = a 22 k ∧ b' 121 k = b 121 k) ∨ ∃ l, 0 ≤ l ∧ l < n ∧ b 117 l = 2 ∧ a' 22 l = 1 ∧ b' 121 l = 1 ∧ ∀ k, k ≠ n → k ≠ l → a' 22 k = a 22 k ∧ b' 121 k = b 121 k := by
    obtain ⟨ya, ea, ha⟩ := A.f22
    obtain ⟨yb, eb, hb⟩ := P.f121
    have kp := B.kd (c i) (by omega) r.2
    have fp := (B.fl (c i) (by omega) r.2).2.2 hp
    have key : (0 ≤ c i ∧ ib ≠ 0 ∧ a 20 (c i) = 1 ∧ a 14 (if a 14 (c i) = 3 then a 16 (c i) else c i) = 2) ↔ (zLst b (c i) ≠ -1 ∧ b 113 48 ≠ 0 ∧ 0 < b 123 (c i)) := by
      rw [kp.1, kp.2.2.2, fp, hib]
      unfold zLst
      by_cases e3 : b 117 (c i) = 3
      · have i0 : c i ≠ 0 := fun z => by rw [z, B.root.1] at e3; omega
        have h := B.par (c i) (by omega) r.2
        have hpar := B.kd (b 118 (c i)) h.1 (by omega)
        rw [if_pos e3, if_neg (by omega), if_pos e3, hpar.1]
        have h2 : b 117 (b 118 (c i)) = 2 := h.2.2.2.mpr e3
        constructor
        · intro z; exact ⟨by omega, z.2.1, z.2.2.1⟩
        · intro z; exact ⟨by omega, z.2.1, z.2.2, h2⟩
      · rw [if_neg e3, kp.1]
        by_cases e2 : b 117 (c i) = 2
        · rw [if_pos e2]
          constructor
          · intro z; exact ⟨by omega, z.2.1, z.2.2.1⟩
          · intro z; exact ⟨by omega, z.2.1, z.2.2, e2⟩
        · rw [if_neg e2, if_neg e3]
          constructor
          · intro z; exact absurd z.2.2.2 e2
          · intro z; exact absurd rfl z.1
    have same : ∀ k, k ≠ n → a' 22 k = ya k ∧ b' 121 k = yb k := fun k hk => by
      rw [(M.pt k hk).1, ea, eb, q_u_ne hk, q_u_ne hk]; exact ⟨rfl, rfl⟩
    rcases ha with ⟨a1', a2, a3, a4, a5⟩ | ⟨a1', a2⟩
    · rcases hb with ⟨b1', b2, b3, b4⟩ | ⟨b1', b2⟩
      · right
        have hl : (if a 14 (c i) = 3 then a 16 (c i) else c i) = zLst b (c i) := by
          rw [kp.1, kp.2.2.2]
          unfold zLst
          by_cases e3 : b 117 (c i) = 3
          · rw [if_pos e3, if_neg (by omega), if_pos e3]
          · rw [if_neg e3]
            rw [kp.1, if_neg e3, kp.1] at a4
            rw [if_pos a4]
        rw [hl] at a4 a5
        have hlr : 0 ≤ zLst b (c i) ∧ zLst b (c i) < n := by
          unfold zLst at b1' ⊢
          by_cases e2 : b 117 (c i) = 2
          · rw [if_pos e2]; omega
          · rw [if_neg e2] at b1' ⊢
            by_cases e3 : b 117 (c i) = 3
            · have i0 : c i ≠ 0 := fun z => by rw [z, B.root.1] at e3; omega
              have h := B.par (c i) (by omega) r.2
              rw [if_pos e3]; omega
            · rw [if_neg e3] at b1'; exact absurd rfl b1'
        have hl2 := B.kd _ hlr.1 hlr.2
        rw [hl2.1] at a4
        refine ⟨zLst b (c i), hlr.1, hlr.2, a4, ?_, ?_, fun k hk hl => ?_⟩
        · rw [(same _ (by omega)).1, a5, q_u_at]
        · rw [(same _ (by omega)).2, b4, q_u_at]
        · rw [(same k hk).1, (same k hk).2, a5, b4, q_u_ne hl, q_u_ne hl]; exact ⟨rfl, rfl⟩
      · exact absurd (key.mp ⟨a1', a2, a3, a4⟩) b1'
    · rcases hb with ⟨b1', b2, b3, b4⟩ | ⟨b1', b2⟩
      · exact absurd (key.mpr ⟨b1', b2, b3⟩) a1'
      · left
        intro k hk
        rw [(same k hk).1, (same k hk).2, a2, b2]; exact ⟨rfl, rfl⟩
  have rr : a' 13 1 = n + 1 ∧ a' 15 1 = n + 1 ∧ a' 17 1 = n + 1 ∧ a' 19 1 = n + 1 ∧ a' 21 1 = n + 1 ∧ a' 23 1 = n + 1 ∧ a' 25 1 = n + 1 ∧ a' 27 1 = n + 1 ∧ b' 113 4 = n + 1 := by
    rw [M.fr 13 (by decide) (by decide) (by decide) (by decide) (by decide) (by decide) (by decide), M.fr 15 (by decide) (by decide) (by decide) (by decide) (by decide) (by decide) (by decide), M.fr 17 (by decide) (by decide) (by decide) (by decide) (by decide) (by decide) (by decide), M.fr 19 (by decide) (by decide) (by decide) (by decide) (by decide) (by decide) (by decide), M.fr 21 (by decide) (by decide) (by decide) (by decide) (by decide) (by decide) (by decide), M.fr 23 (by decide) (by decide) (by decide) (by decide) (by decide) (by decide) (by decide), M.fr 25 (by decide) (by decide) (by decide) (by decide) (by decide) (by decide) (by decide), M.fr 27 (by decide) (by decide) (by decide) (by decide) (by decide) (by decide) (by decide)]
    exact ⟨r1, r2, r3, r4, r5, r6, r7, r8, P.nn⟩
  have h14 : a' 14 = q_u (a 14) n κ := by rw [M.fr 14 (by decide) (by decide) (by decide) (by decide) (by decide) (by decide) (by decide)]; exact A.f14
  have h16 : a' 16 = q_u (a 16) n (c i) := by rw [M.fr 16 (by decide) (by decide) (by decide) (by decide) (by decide) (by decide) (by decide)]; exact A.f16
  have h20 : a' 20 = q_u (q_u (a 20) n 0) (c i) 1 := by rw [M.fr 20 (by decide) (by decide) (by decide) (by decide) (by decide) (by decide) (by decide)]; exact A.f20
  obtain ⟨yb, eb, _⟩ := P.f121
  have g22 : a' 22 n = if κ = 3 ∨ κ = 4 then b' 120 n else 0 := by rw [hn120]; exact M.f22
  have g3 : κ = 3 → 2 ≤ b' 120 n ∧ b' 120 n ≤ 3 := by rw [hn120]; exact w3
  have g4 : κ = 4 → 1 ≤ b' 120 n ∧ b' 120 n ≤ 3 := by rw [hn120]; exact w4
  have g24 : ∀ k, k ≠ n → a' 24 k = a 24 k := fun k e => ((M.pt k e).2.1).trans ((congrFun A.f24 k).trans (q_u_ne e))
  have g24n : κ = 2 → a' 24 n = b' 120 n := by rw [hn120]; exact M.f24
  have g28 : ∀ k, k ≠ n → a' 28 k = a 28 k := fun k e => ((M.pt k e).2.2.2).trans ((congrFun A.f28 k).trans (q_u_ne e))
  have g120 : ∀ k, k ≠ n → b' 120 k = b 120 k := fun k e => (congrFun P.f120 k).trans (q_u_ne e)
  have g121 : b' 121 n = 0 := (congrFun eb n).trans q_u_at
  have BB : zB a' b' (n + 1) := B.put r0 r.2 (C.ins i hi) hp k1 k7 hk rr (P.f113 17 (by decide)) h14 h16 h20 lo g22 g3 g4 g24 g24n g28 M.f28 P.f117 P.f118 g120 g121 P.f122 P.f123
  refine ⟨BB, ?_, ?_⟩
  · intro hne
    have f18 : a' 18 = q_u (q_u (a 18) n (-1)) (c i) n := by rw [M.f18, if_neg hne]; exact A.f18
    have b119 : b' 119 = q_u x n 1 := by rw [x0, if_neg hne]
    have cl := C.closed (b' := fun q => if q = 119 then x else b q) hi x1 x2 x3 x4
    exact C.put hi (fun k k0 kn => by rw [b119, q_u_ne (Int.ne_of_lt kn)]; exact cl k k0 kn) (by rw [b119]; exact q_u_at) (by rw [f18]; exact q_u_at) (by rw [f18, q_u_ne (Ne.symm cn), q_u_at]) (fun k hk => by rw [f18, q_u_ne (Int.ne_of_lt hk), q_u_ne (nz k hk)]) (fun k hk => by rw [P.f122, q_u_ne (Int.ne_of_lt hk), q_u_ne (nz k hk)]) (by rw [P.f122]; exact q_u_at) (fun k hk => by rw [P.f118, q_u_ne (Int.ne_of_lt hk)]) (by rw [P.f118]; exact q_u_at)
  · intro hne
    have f18 : a' 18 = q_u (q_u (q_u (a 18) n (-1)) (c i) n) (c i) (-1) := by rw [M.f18, if_pos hne, A.f18]
    have b119 : b' 119 = q_u x n 0 := by rw [x0, if_pos hne]
    have cl := C.closed (b' := fun q => if q = 119 then x else b q) hi x1 x2 x3 x4
    exact C.pass hi (fun k k0 kn => by rw [b119, q_u_ne (Int.ne_of_lt kn)]; exact cl k k0 kn) (by rw [b119]; exact q_u_at) (by rw [f18]; exact q_u_at) (fun k hk => by rw [f18, q_u_ne (Int.ne_of_lt hk), q_u_ne (Int.ne_of_lt hk), q_u_ne (nz k hk)]) (fun k hk => by rw [P.f122, q_u_ne (Int.ne_of_lt hk), q_u_ne (nz k hk)]) (fun k hk => by rw [P.f118, q_u_ne (Int.ne_of_lt hk)]) (by rw [P.f118]; exact q_u_at)
