theorem zz_63 : True := trivial
