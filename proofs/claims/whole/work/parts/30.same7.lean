theorem p30_0 : True := trivial
