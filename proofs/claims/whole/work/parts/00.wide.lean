/-! ===== named at once: a row of the library's rest, so that a first round on a new machine is read over all of it from here on ===== -/
theorem wide_now : True := by
  have _h := @Jvm.Free.Multi.fill_facts
  trivial
