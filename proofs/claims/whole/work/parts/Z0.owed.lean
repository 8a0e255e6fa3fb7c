/-! owed still -/
theorem eq_lowland : Eq_lowland Rel := by
  sorry
theorem eq_moves : Eq_moves Rel := by
  sorry
