/-! Level 2: the words of the pure mathematics. -/
theorem z_t {c A B : Prop} (h : c) (a : A) : (c → A) ∧ (¬ c → B) := ⟨fun _ => a, fun n => absurd h n⟩
theorem z_f {c A B : Prop} (h : ¬ c) (b : B) : (c → A) ∧ (¬ c → B) := ⟨fun n => absurd n h, fun _ => b⟩
theorem z_c {c A B : Prop} (a : c → A) (b : ¬ c → B) : (c → A) ∧ (¬ c → B) := ⟨a, b⟩
abbrev zLet (c : Int) : Prop := (97 ≤ c ∧ c ≤ 122) ∨ (65 ≤ c ∧ c ≤ 90) ∨ (48 ≤ c ∧ c ≤ 57)
abbrev zSign (c : Int) : Prop := 33 ≤ c ∧ c ≤ 126 ∧ ¬ zLet c
/-- the first place from b - n on, ahead of b, where p fails; b without one -/
def zUp (p : Int → Bool) (b : Int) : Nat → Int
  | 0 => b
  | n + 1 => if p (b - (n + 1)) = true then zUp p b n else b - (n + 1)
/-- the least r of a .. a + n with p from r on -/
def zDn (p : Int → Bool) (a : Int) : Nat → Int
  | 0 => a
  | n + 1 => if p (a + n) = true then zDn p a n else a + n + 1
theorem zUp_is (p : Int → Bool) (b : Int) : ∀ n : Nat, b - n ≤ zUp p b n ∧ zUp p b n ≤ b ∧ (∀ i, b - n ≤ i → i < zUp p b n → p i = true) ∧ (zUp p b n = b ∨ p (zUp p b n) = false)
  | 0 => by
    refine ⟨by simp [zUp], by simp [zUp], fun i h1 h2 => ?_, Or.inl rfl⟩
    simp [zUp] at h1 h2
    omega
  | n + 1 => by
    obtain ⟨h1, h2, h3, h4⟩ := zUp_is p b n
    unfold zUp
    by_cases h : p (b - (n + 1)) = true
    · rw [if_pos h]
      refine ⟨by omega, h2, fun i g1 g2 => ?_, h4⟩
      by_cases e : i = b - (n + 1)
      · rw [e]; exact h
      · exact h3 i (by omega) g2
    · rw [if_neg h]
      refine ⟨by omega, by omega, fun i g1 g2 => by omega, Or.inr (by simpa using h)⟩
theorem zDn_is (p : Int → Bool) (a : Int) : ∀ n : Nat, a ≤ zDn p a n ∧ zDn p a n ≤ a + n ∧ (∀ i, zDn p a n ≤ i → i < a + n → p i = true) ∧ (zDn p a n = a ∨ p (zDn p a n - 1) = false)
  | 0 => by
    refine ⟨by simp [zDn], by simp [zDn], fun i h1 h2 => ?_, Or.inl rfl⟩
    simp [zDn] at h1 h2
    omega
  | n + 1 => by
    obtain ⟨h1, h2, h3, h4⟩ := zDn_is p a n
    unfold zDn
    by_cases h : p (a + n) = true
    · rw [if_pos h]
      refine ⟨h1, by omega, fun i g1 g2 => ?_, h4⟩
      by_cases e : i = a + n
      · rw [e]; exact h
      · exact h3 i g1 (by omega)
    · rw [if_neg h]
      refine ⟨by omega, by omega, fun i g1 g2 => by omega, Or.inr ?_⟩
      rw [show a + (n : Int) + 1 - 1 = a + n by omega]
      simpa using h
def zU (p : Int → Bool) (a b : Int) : Int := zUp p b (b - a).toNat
def zD (p : Int → Bool) (a b : Int) : Int := zDn p a (b - a).toNat
theorem zU_is {p : Int → Bool} {a b : Int} (h : a ≤ b) : a ≤ zU p a b ∧ zU p a b ≤ b ∧ (∀ i, a ≤ i → i < zU p a b → p i = true) ∧ (zU p a b = b ∨ p (zU p a b) = false) := by
  have := zUp_is p b (b - a).toNat
  rw [show b - (((b - a).toNat : Nat) : Int) = a by omega] at this
  exact this
theorem zD_is {p : Int → Bool} {a b : Int} (h : a ≤ b) : a ≤ zD p a b ∧ zD p a b ≤ b ∧ (∀ i, zD p a b ≤ i → i < b → p i = true) ∧ (zD p a b = a ∨ p (zD p a b - 1) = false) := by
  have := zDn_is p a (b - a).toNat
  rw [show a + (((b - a).toNat : Nat) : Int) = b by omega] at this
  exact this
theorem zU_eq {p : Int → Bool} {a b r : Int} (h1 : a ≤ r) (h2 : r ≤ b) (h3 : ∀ i, a ≤ i → i < r → p i = true) (h4 : r = b ∨ p r = false) : zU p a b = r := by
  obtain ⟨g1, g2, g3, g4⟩ := zU_is (p := p) (show a ≤ b by omega)
  rcases Int.lt_trichotomy (zU p a b) r with h | h | h
  · rcases g4 with g4 | g4
    · omega
    · have := h3 _ g1 h; rw [g4] at this; cases this
  · exact h
  · rcases h4 with h4 | h4
    · omega
    · have := g3 _ h1 h; rw [h4] at this; cases this
theorem zD_eq {p : Int → Bool} {a b r : Int} (h1 : a ≤ r) (h2 : r ≤ b) (h3 : ∀ i, r ≤ i → i < b → p i = true) (h4 : r = a ∨ p (r - 1) = false) : zD p a b = r := by
  obtain ⟨g1, g2, g3, g4⟩ := zD_is (p := p) (show a ≤ b by omega)
  rcases Int.lt_trichotomy (zD p a b) r with h | h | h
  · rcases h4 with h4 | h4
    · omega
    · have := g3 (r - 1) (by omega) (by omega); rw [h4] at this; cases this
  · exact h
  · rcases g4 with g4 | g4
    · omega
    · have := h3 (zD p a b - 1) (by omega) (by omega); rw [g4] at this; cases this
theorem zU_congr {p q : Int → Bool} {a b : Int} (h : a ≤ b) (e : ∀ i, a ≤ i → i < b → p i = q i) : zU p a b = zU q a b := by
  obtain ⟨g1, g2, g3, g4⟩ := zU_is (p := q) h
  refine zU_eq g1 g2 (fun i h1 h2 => (e i h1 (by omega)).trans (g3 i h1 h2)) ?_
  by_cases hb : zU q a b = b
  · exact Or.inl hb
  · exact Or.inr ((e _ g1 (by omega)).trans (g4.resolve_left hb))
theorem zD_congr {p q : Int → Bool} {a b : Int} (h : a ≤ b) (e : ∀ i, a ≤ i → i < b → p i = q i) : zD p a b = zD q a b := by
  obtain ⟨g1, g2, g3, g4⟩ := zD_is (p := q) h
  refine zD_eq g1 g2 (fun i h1 h2 => (e i (by omega) h2).trans (g3 i h1 h2)) ?_
  by_cases hb : zD q a b = a
  · exact Or.inl hb
  · exact Or.inr ((e _ (by omega) (by omega)).trans (g4.resolve_left hb))
/-- blanks, letters and digits, no line ends -/
def zIsB (t : Int → Int) (i : Int) : Bool := decide (t i = 32)
def zIsW (t : Int → Int) (i : Int) : Bool := decide (zLet (t i))
def zIsN (t : Int → Int) (i : Int) : Bool := decide (t i ≠ 10)
/-- the first place without a blank; the end without blanks; the end of letters and digits; the end of the line -/
def zSkip (t : Int → Int) (a b : Int) : Int := zU (zIsB t) a b
def zTrim (t : Int → Int) (a b : Int) : Int := zD (zIsB t) a b
def zWord (t : Int → Int) (a b : Int) : Int := zU (zIsW t) a b
def zEnd (t : Int → Int) (a n : Int) : Int := zU (zIsN t) a n
theorem q_up_get {s : qM} {r r' : Nat} {j v j' : Int} : q_up s r j v r' j' = if r' = r ∧ j' = j then v else s r' j' := by
  unfold q_up q_u
  by_cases h : r' = r
  · subst h
    by_cases h2 : j' = j
    · simp [h2]
    · simp [h2]
  · simp [h]
theorem q_up_ne {s : qM} {r r' : Nat} {j v : Int} (h : r' ≠ r) : q_up s r j v r' = s r' := by
  unfold q_up
  rw [if_neg h]
theorem q_up_at {s : qM} {r : Nat} {j v : Int} : q_up s r j v r j = v := by simp [q_up_get]
theorem q_up_nj {s : qM} {r r' : Nat} {j v j' : Int} (h : j' ≠ j) : q_up s r j v r' j' = s r' j' := by simp [q_up_get, h]
