/-! part 61: new stations and cars -/
theorem pad61 : True := trivial
