theorem yk15_6 : yck 20 nX10_ahead nX11_ahead ([(-2147483648, 2147483647), (5, 2147483647)], 0) 2 = true := by decide +kernel
