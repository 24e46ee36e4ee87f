theorem yk14 : yck 20 nX10_go nX11_go ([(-2147483648, 2147483647)], 0) 1 = true := by decide +kernel
