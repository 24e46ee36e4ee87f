theorem yk15_0 : yck 20 nX10_ahead nX11_ahead ([(-2147483648, 2147483647), (-2147483648, -1)], 0) 2 = true := by decide +kernel
