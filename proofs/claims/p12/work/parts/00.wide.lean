/-! the whole library is wanted -/
theorem zz_wide : True := by
  have _ := @Bundle.ownAtomsX
  trivial
