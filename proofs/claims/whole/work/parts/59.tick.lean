/-! part 59: ticks and faults -/
theorem pad59 : True := trivial
