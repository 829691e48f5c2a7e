/-! part 55: sums and real numbers -/
theorem pad55 : True := trivial
