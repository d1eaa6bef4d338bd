/-! What is still owed: a relation of the two objects that every operation keeps. -/
theorem q_owed : ∃ I : qM → Prop, I q_z0 ∧ ∀ X : Nat × (Nat → Int32), O_all I X := by
  sorry
