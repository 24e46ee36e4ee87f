theorem yk1 : yck 20 nX10_text nX11_text ([(-2147483648, 2147483647)], 0) 1 = true := by decide +kernel
