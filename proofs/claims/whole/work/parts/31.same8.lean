theorem p31_0 : True := trivial
