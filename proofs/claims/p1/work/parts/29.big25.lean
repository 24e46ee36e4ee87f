theorem yk36 : yck 20 nX10_count nX11_count ([(-2147483648, 2147483647)], 0) 1 = true := by decide +kernel
