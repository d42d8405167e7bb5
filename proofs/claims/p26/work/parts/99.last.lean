theorem z99_end : True := trivial
