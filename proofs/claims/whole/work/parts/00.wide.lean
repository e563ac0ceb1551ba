/-! a law of doubles that only the whole library has: named first, so that a round turns to the whole library at its first part -/
theorem wide_0 : True := by
  have := @FP.Core.ddiv_out
  exact True.intro
