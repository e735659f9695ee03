theorem bk_end : True := trivial
