def yA34 : yK := [([], .int 0)]
def yB34 : yK := [([], .int 0)]
theorem yka34 : yq1 20 nX10_keep ([], 0) 0 yA34 = true := by decide +kernel
