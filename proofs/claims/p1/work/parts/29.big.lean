theorem yk0 : yck 20 nX10_feed nX11_feed ([(-2147483648, 2147483647), (-2147483648, 2147483647), (-2147483648, 2147483647), (-2147483648, 2147483647), (-2147483648, 2147483647)], 0) 5 = true := by sorry
theorem yk1 : yck 20 nX10_text nX11_text ([(-2147483648, 2147483647)], 0) 1 = true := by sorry
theorem yk14 : yck 20 nX10_go nX11_go ([(-2147483648, 2147483647)], 0) 1 = true := by sorry
theorem yk15_0 : yck 20 nX10_ahead nX11_ahead ([(-2147483648, 2147483647), (-2147483648, -1)], 0) 2 = true := by sorry
theorem yk15_1 : yck 20 nX10_ahead nX11_ahead ([(-2147483648, 2147483647), (0, 0)], 0) 2 = true := by sorry
theorem yk15_2 : yck 20 nX10_ahead nX11_ahead ([(-2147483648, 2147483647), (1, 1)], 0) 2 = true := by sorry
theorem yk15_3 : yck 20 nX10_ahead nX11_ahead ([(-2147483648, 2147483647), (2, 2)], 0) 2 = true := by sorry
theorem yk15_4 : yck 20 nX10_ahead nX11_ahead ([(-2147483648, 2147483647), (3, 3)], 0) 2 = true := by sorry
theorem yk15_5 : yck 20 nX10_ahead nX11_ahead ([(-2147483648, 2147483647), (4, 4)], 0) 2 = true := by sorry
theorem yk15_6 : yck 20 nX10_ahead nX11_ahead ([(-2147483648, 2147483647), (5, 2147483647)], 0) 2 = true := by sorry
theorem yk17 : yck 20 nX10_nextHalt nX11_nextHalt ([], 0) 0 = true := by sorry
theorem yk20_0 : yck 20 nX10_seating nX11_seating ([(-2147483648, -1)], 0) 1 = true := by sorry
theorem yk20_1 : yck 20 nX10_seating nX11_seating ([(0, 3)], 0) 1 = true := by sorry
theorem yk20_2 : yck 20 nX10_seating nX11_seating ([(4, 4)], 0) 1 = true := by sorry
theorem yk20_3 : yck 20 nX10_seating nX11_seating ([(5, 2147483647)], 0) 1 = true := by sorry
theorem yk25 : yck 20 nX10_solemn nX11_solemn ([], 0) 0 = true := by sorry
theorem yk32_0 : yck 20 nX10_tried nX11_tried ([(-2147483648, -1), (-2147483648, 2147483647), (-2147483648, 2147483647)], 0) 3 = true := by sorry
theorem yk32_1 : yck 20 nX10_tried nX11_tried ([(0, 0), (-2147483648, 2147483647), (-2147483648, 2147483647)], 0) 3 = true := by sorry
theorem yk32_2 : yck 20 nX10_tried nX11_tried ([(1, 1), (-2147483648, 2147483647), (-2147483648, 2147483647)], 0) 3 = true := by sorry
theorem yk32_3 : yck 20 nX10_tried nX11_tried ([(2, 2), (-2147483648, 2147483647), (-2147483648, 2147483647)], 0) 3 = true := by sorry
theorem yk32_4 : yck 20 nX10_tried nX11_tried ([(3, 3), (-2147483648, 2147483647), (-2147483648, 2147483647)], 0) 3 = true := by sorry
theorem yk32_5 : yck 20 nX10_tried nX11_tried ([(4, 4), (-2147483648, 2147483647), (-2147483648, 2147483647)], 0) 3 = true := by sorry
theorem yk32_6 : yck 20 nX10_tried nX11_tried ([(5, 5), (-2147483648, 2147483647), (-2147483648, 2147483647)], 0) 3 = true := by sorry
theorem yk32_7 : yck 20 nX10_tried nX11_tried ([(6, 2147483647), (-2147483648, 2147483647), (-2147483648, 2147483647)], 0) 3 = true := by sorry
theorem yk34 : yck 20 nX10_keep nX11_keep ([], 0) 0 = true := by sorry
theorem yk36 : yck 20 nX10_count nX11_count ([(-2147483648, 2147483647)], 0) 1 = true := by sorry
