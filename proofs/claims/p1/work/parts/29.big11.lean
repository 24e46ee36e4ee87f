theorem yk20_0 : yck 20 nX10_seating nX11_seating ([(-2147483648, -1)], 0) 1 = true := by decide +kernel
