/-! part 63: new cars -/
theorem pad63 : True := trivial
