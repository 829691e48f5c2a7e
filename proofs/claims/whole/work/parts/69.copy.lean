/-! part 69: pad -/
theorem pad69 : True := trivial
