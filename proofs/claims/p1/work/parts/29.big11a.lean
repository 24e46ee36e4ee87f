def yA20_0 : yK := [([(-2147483648, -1)], .int (-1))]
def yB20_0 : yK := [([(-2147483648, -1)], .int (-1))]
theorem yka20_0 : yq1 20 nX10_seating ([(-2147483648, -1)], 0) 1 yA20_0 = true := by decide +kernel
