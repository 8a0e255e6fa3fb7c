/-! owed still -/
theorem eq_lowland : Eq_lowland Rel := by
  sorry
