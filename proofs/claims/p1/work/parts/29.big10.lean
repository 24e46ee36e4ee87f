theorem yk17 : yck 20 nX10_nextHalt nX11_nextHalt ([], 0) 0 = true := by decide +kernel
