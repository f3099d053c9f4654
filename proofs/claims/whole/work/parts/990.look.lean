theorem lk_true : True := trivial
