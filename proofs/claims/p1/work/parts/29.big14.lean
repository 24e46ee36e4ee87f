theorem yk20_3 : yck 20 nX10_seating nX11_seating ([(5, 2147483647)], 0) 1 = true := by decide +kernel
