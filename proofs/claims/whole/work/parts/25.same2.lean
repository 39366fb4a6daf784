theorem p25_0 : True := trivial
