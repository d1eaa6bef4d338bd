/-! A relation of the two objects that every operation keeps. -/
theorem q_owed (X : Nat × (Nat → Int32)) : ∃ I : qM → Prop, I q_z0 ∧ O_all I X := by
  have z : ∀ r j, ¬ (r = 0 ∧ j = (11 : Int)) → ¬ (r = 43 ∧ j = (6 : Int)) → q_z0 r j = 0 := fun r j h1 h2 => q_z0_get h1 h2
  have r : ∀ r, r ≠ 0 → r ≠ 43 → ∀ j, q_z0 r j = 0 := fun r h1 h2 j => z r j (fun q => h1 q.1) (fun q => h2 q.1)
  have e11 : q_z0 0 11 ≠ 0 := by decide +kernel
  refine ⟨zIv X, zIv.mk ?_ ?_ ?_ ?_ (fun y => absurd y e11), fun s H => ⟨fun _ _ _ _ => O_put' H, fun _ _ _ h2 => O_take' h2 H, O_length' H, fun _ _ => O_character' H, O_clear' H, o_nodes H, fun _ _ _ _ => o_node H, fun _ _ _ _ => o_child H, fun _ _ => o_owner H, fun _ _ => o_leads H, fun _ _ => o_count H, fun _ _ => o_print H, fun _ _ _ _ => o_printed H, o_format H, fun _ _ => o_keep H, fun _ _ => o_load H, o_merge H⟩⟩
  · unfold zTx
    rw [r 1 (by decide) (by decide), r 113 (by decide) (by decide)]
    exact ⟨Int.le_refl 0, by decide, rfl, fun i u w => by omega⟩
  · unfold zSl
    rw [r 3 (by decide) (by decide), r 116 (by decide) (by decide)]
    exact ⟨Int.le_refl 0, by decide, rfl, fun i u w => by omega⟩
  · unfold zSl
    rw [r 5 (by decide) (by decide), r 116 (by decide) (by decide)]
    exact ⟨Int.le_refl 0, by decide, rfl, fun i u w => by omega⟩
  · exact ⟨r 54 (by decide) (by decide) 1, r 56 (by decide) (by decide) 1, r 58 (by decide) (by decide) 1, r 60 (by decide) (by decide) 1, r 62 (by decide) (by decide) 1⟩
