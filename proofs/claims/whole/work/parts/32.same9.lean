theorem p32_0 : True := trivial
