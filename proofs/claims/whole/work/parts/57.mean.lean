/-! part 57: shares and means -/
theorem pad57 : True := trivial
