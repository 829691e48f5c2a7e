/-! part 65: the swap -/
theorem pad65 : True := trivial
