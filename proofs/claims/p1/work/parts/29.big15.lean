theorem yk25 : yck 20 nX10_solemn nX11_solemn ([], 0) 0 = true := by decide +kernel
