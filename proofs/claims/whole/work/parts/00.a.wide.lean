/-! names of the library's rest: the rows are read over the whole of it -/
theorem wd_caught : True := by
  have _h := @Jvm.Stand.thenCaughtThrough
  trivial
