/-! the last part, while others are written -/
theorem zz_t : True := trivial
