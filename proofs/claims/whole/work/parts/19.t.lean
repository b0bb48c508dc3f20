theorem t_nothing : True := trivial
