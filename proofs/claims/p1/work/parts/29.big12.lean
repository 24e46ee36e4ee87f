theorem yk20_1 : yck 20 nX10_seating nX11_seating ([(0, 3)], 0) 1 = true := by decide +kernel
