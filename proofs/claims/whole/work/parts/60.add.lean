/-! part 60: faults, new stations and cars -/
theorem pad60 : True := trivial
