def yA25 : yK := [([], .int 0)]
def yB25 : yK := [([], .int 0)]
theorem yka25 : yq1 20 nX10_solemn ([], 0) 0 yA25 = true := by decide +kernel
