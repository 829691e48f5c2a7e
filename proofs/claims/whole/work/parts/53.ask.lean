/-! part 53: more asking -/
theorem pad53 : True := trivial
