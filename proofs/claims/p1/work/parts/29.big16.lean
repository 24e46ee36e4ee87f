theorem yk32_0 : yck 20 nX10_tried nX11_tried ([(-2147483648, -1), (-2147483648, 2147483647), (-2147483648, 2147483647)], 0) 3 = true := by decide +kernel
