theorem p35_0 : True := trivial
