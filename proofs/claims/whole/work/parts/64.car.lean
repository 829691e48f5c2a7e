/-! part 64: new cars: the call; the swap -/
theorem pad64 : True := trivial
