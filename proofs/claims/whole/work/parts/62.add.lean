/-! part 62: new stations: the call -/
theorem pad62 : True := trivial
