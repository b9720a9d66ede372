/-! laysFar: by hand -/
theorem rx04_hand : True := trivial
