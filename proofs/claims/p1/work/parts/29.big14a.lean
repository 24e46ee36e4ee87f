def yA20_3 : yK := [([(5, 2147483647)], .int (-1))]
def yB20_3 : yK := [([(5, 2147483647)], .int (-1))]
theorem yka20_3 : yq1 20 nX10_seating ([(5, 2147483647)], 0) 1 yA20_3 = true := by decide +kernel
