/-! nothing is owed -/
theorem z0_none : True := trivial
