/-! names a row of the whole library, so that the claim is read over all of it from its first part on (71b.mna needs that row) -/
theorem w0_wide : True := by
  have _h := @Jvm.Stand.multianewarray2F
  trivial
