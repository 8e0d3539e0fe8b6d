/-- a name of the rest of the library -/
theorem aa_wide : True := by
  have h := @Stand.outThrough
  exact trivial
