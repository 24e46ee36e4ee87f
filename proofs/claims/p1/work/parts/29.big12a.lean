def yA20_1 : yK := [([(0, 3)], .int (-2))]
def yB20_1 : yK := [([(0, 3)], .int (-2))]
theorem yka20_1 : yq1 20 nX10_seating ([(0, 3)], 0) 1 yA20_1 = true := by decide +kernel
