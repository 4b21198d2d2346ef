/-- int[4][400] at one blow stands on the library's last shelf: named here, ahead of all, so that a round takes the whole library at once -/
theorem z_wide : True := by
  have _h := @Jvm.Stand.multianewarray2F
  trivial
