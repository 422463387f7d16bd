/-! The loop. -/
theorem zz_look : True := trivial
