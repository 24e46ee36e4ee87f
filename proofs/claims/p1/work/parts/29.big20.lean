theorem yk32_4 : yck 20 nX10_tried nX11_tried ([(3, 3), (-2147483648, 2147483647), (-2147483648, 2147483647)], 0) 3 = true := by decide +kernel
