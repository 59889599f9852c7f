theorem z_end_small : True := trivial
