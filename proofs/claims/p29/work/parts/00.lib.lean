/-- a name of the library's last part, so that the claim is read over the whole of it from its first part on -/
theorem lib_whole : True := by
  have h := @Jvm.Stand.thenCaughtThrough
  trivial
