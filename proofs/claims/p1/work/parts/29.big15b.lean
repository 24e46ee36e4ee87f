theorem ykb25 : yq2 20 nX11_solemn ([], 0) 0 yB25 = true := by decide +kernel
theorem ykc25 : yq3 yA25 yB25 = true := by decide +kernel
theorem ykd25 : yA25.all (fun q => Nat.ble q.1.length 0) = true := by decide +kernel
