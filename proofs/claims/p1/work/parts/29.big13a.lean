def yA20_2 : yK := [([(4, 4)], .int 0)]
def yB20_2 : yK := [([(4, 4)], .int 0)]
theorem yka20_2 : yq1 20 nX10_seating ([(4, 4)], 0) 1 yA20_2 = true := by decide +kernel
