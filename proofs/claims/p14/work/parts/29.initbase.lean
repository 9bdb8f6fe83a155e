theorem ar_I {D : va_G} {s : State} {cI cJ cA : ClassId} (h : va_K D vwCl ([(cI, .int), (cJ, .long)] ++ [(cA, .int)]) s) : cI = cA :=
  Option.some.inj (((h.2 0 (cI, .int) rfl).2 : s.vm.findClass _ = some cI).symm.trans ((h.2 2 (cA, .int) rfl).2 : s.vm.findClass _ = some cA))
theorem ar_J {D : va_G} {s : State} {cI cJ cA : ClassId} (h : va_K D vwCl ([(cI, .int), (cJ, .long)] ++ [(cA, .long)]) s) : cJ = cA :=
  Option.some.inj (((h.2 1 (cJ, .long) rfl).2 : s.vm.findClass _ = some cJ).symm.trans ((h.2 2 (cA, .long) rfl).2 : s.vm.findClass _ = some cA))
