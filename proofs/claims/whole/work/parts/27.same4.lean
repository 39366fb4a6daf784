theorem p27_0 : True := trivial
