/-! The small calls. -/
theorem yk2 : yck 20 nX10_fault nX11_fault ([(-2147483648, 2147483647)], 0) 1 = true := by decide +kernel
theorem yk3 : yck 20 nX10_named nX11_named ([(-2147483648, 2147483647), (-2147483648, 2147483647)], 0) 2 = true := by decide +kernel
theorem yk5 : yck 20 nX10_has nX11_has ([(-2147483648, 2147483647), (-2147483648, 2147483647)], 0) 2 = true := by decide +kernel
theorem yk6 : yck 20 nX10_joke nX11_joke ([(-2147483648, 2147483647), (-2147483648, 2147483647)], 0) 2 = true := by decide +kernel
theorem yk7 : yck 20 nX10_heard nX11_heard ([(-2147483648, 2147483647), (-2147483648, 2147483647)], 0) 2 = true := by decide +kernel
theorem yk8 : yck 20 nX10_told nX11_told ([(-2147483648, 2147483647), (-2147483648, 2147483647)], 0) 2 = true := by decide +kernel
theorem yk9 : yck 20 nX10_seen nX11_seen ([(-2147483648, 2147483647)], 0) 1 = true := by decide +kernel
theorem yk10 : yck 20 nX10_law nX11_law ([(-2147483648, 2147483647), (-2147483648, 2147483647), (-2147483648, 2147483647)], 0) 3 = true := by decide +kernel
theorem yk11 : yck 20 nX10_ears nX11_ears ([(-2147483648, 2147483647), (0, 1)], 0) 2 = true := by decide +kernel
theorem yk12 : yck 20 nX10_seat nX11_seat ([(-2147483648, 2147483647), (-2147483648, 2147483647)], 0) 2 = true := by decide +kernel
theorem yk13 : yck 20 nX10_tell nX11_tell ([(-2147483648, 2147483647), (-2147483648, 2147483647), (0, 1)], 0) 3 = true := by decide +kernel
theorem yk16 : yck 20 nX10_getsOut nX11_getsOut ([(-2147483648, 2147483647)], 0) 1 = true := by decide +kernel
theorem yk18 : yck 20 nX10_when nX11_when ([(-2147483648, 2147483647), (-2147483648, 2147483647)], 0) 2 = true := by decide +kernel
theorem yk19 : yck 20 nX10_both nX11_both ([(-2147483648, 2147483647), (-2147483648, 2147483647), (-2147483648, 2147483647)], 0) 3 = true := by decide +kernel
theorem yk21 : yck 20 nX10_stopped nX11_stopped ([(-2147483648, 2147483647)], 0) 1 = true := by decide +kernel
theorem yk22 : yck 20 nX10_rests nX11_rests ([(-2147483648, 2147483647), (-2147483648, 2147483647)], 0) 2 = true := by decide +kernel
theorem yk23 : yck 20 nX10_rest nX11_rest ([(-2147483648, 2147483647), (-2147483648, 2147483647), (-2147483648, 2147483647)], 0) 3 = true := by decide +kernel
theorem yk24 : yck 20 nX10_likely nX11_likely ([(-2147483648, 2147483647), (-2147483648, 2147483647)], 0) 2 = true := by decide +kernel
theorem yk26 : yck 20 nX10_late nX11_late ([(-2147483648, 2147483647)], 0) 1 = true := by decide +kernel
theorem yk27 : yck 20 nX10_note nX11_note ([(-2147483648, 2147483647), (-2147483648, 2147483647), (0, 1)], 0) 3 = true := by decide +kernel
theorem yk28 : yck 20 nX10_out nX11_out ([(-2147483648, 2147483647)], 0) 1 = true := by decide +kernel
theorem yk29 : yck 20 nX10_known nX11_known ([(-2147483648, 2147483647)], 0) 1 = true := by decide +kernel
theorem yk30 : yck 20 nX10_dulls nX11_dulls ([(-2147483648, 2147483647)], 0) 1 = true := by decide +kernel
theorem yk31 : yck 20 nX10_chance nX11_chance ([(-2147483648, 2147483647), (-2147483648, 2147483647), (-2147483648, 2147483647), (-2147483648, 2147483647)], 0) 4 = true := by decide +kernel
theorem yk33 : yck 20 nX10_undo nX11_undo ([], 0) 0 = true := by decide +kernel
theorem yk35 : yck 20 nX10_back nX11_back ([], 0) 0 = true := by decide +kernel
