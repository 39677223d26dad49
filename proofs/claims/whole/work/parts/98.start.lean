theorem dummy98 : True := trivial
