/-! end of the first calls -/
theorem z_end1 : True := trivial
