def yA17 : yK := [([], .int (-2))]
def yB17 : yK := [([], .int (-2))]
theorem yka17 : yq1 20 nX10_nextHalt ([], 0) 0 yA17 = true := by decide +kernel
