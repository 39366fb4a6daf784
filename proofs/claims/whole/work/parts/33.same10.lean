theorem p33_0 : True := trivial
