/-! part 58: the calls that change -/
theorem pad58 : True := trivial
