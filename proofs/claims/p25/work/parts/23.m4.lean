theorem zz_23 : True := trivial
