theorem zz97 : True := trivial
