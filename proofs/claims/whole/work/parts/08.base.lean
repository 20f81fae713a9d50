theorem zz_start : True := trivial
