/-! part 54: the traces and the counts -/
theorem pad54 : True := trivial
