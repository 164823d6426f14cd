theorem oo_nop : True := trivial
