theorem eg_zz : True := trivial
