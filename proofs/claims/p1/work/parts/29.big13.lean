theorem yk20_2 : yck 20 nX10_seating nX11_seating ([(4, 4)], 0) 1 = true := by decide +kernel
