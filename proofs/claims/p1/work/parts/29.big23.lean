theorem yk32_7 : yck 20 nX10_tried nX11_tried ([(6, 2147483647), (-2147483648, 2147483647), (-2147483648, 2147483647)], 0) 3 = true := by decide +kernel
