theorem p28_0 : True := trivial
