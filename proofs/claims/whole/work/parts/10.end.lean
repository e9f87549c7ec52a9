theorem aa_end : True := trivial
