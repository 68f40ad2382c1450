theorem g_last : True := trivial
