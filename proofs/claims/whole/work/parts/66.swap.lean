/-! part 66: the call swap -/
theorem pad66 : True := trivial
