theorem yk34 : yck 20 nX10_keep nX11_keep ([], 0) 0 = true := by decide +kernel
