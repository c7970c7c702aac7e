/-! a name of the library's rest, by itself: so that every round is read over the whole library -/
theorem wi_de : True := by
  have := @Jvm.Stand.thenCaughtThrough
  trivial
