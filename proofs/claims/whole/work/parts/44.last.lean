/-! the last part -/
theorem uk_last : True := trivial
