theorem yk32_5 : yck 20 nX10_tried nX11_tried ([(4, 4), (-2147483648, 2147483647), (-2147483648, 2147483647)], 0) 3 = true := by decide +kernel
