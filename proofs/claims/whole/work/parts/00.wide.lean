/-! a name of the library's last part, so that the first round reads the library whole at once -/
theorem zz_wide : True := by
  have _ := @Stand.multianewarray2F
  trivial
