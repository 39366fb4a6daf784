theorem p29_0 : True := trivial
