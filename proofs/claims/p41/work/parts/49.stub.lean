theorem stub_ : True := trivial
