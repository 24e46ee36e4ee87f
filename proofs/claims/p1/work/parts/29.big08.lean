theorem yk15_5 : yck 20 nX10_ahead nX11_ahead ([(-2147483648, 2147483647), (4, 4)], 0) 2 = true := by decide +kernel
