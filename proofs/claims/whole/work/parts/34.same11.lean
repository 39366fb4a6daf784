theorem p34_0 : True := trivial
