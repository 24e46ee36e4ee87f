theorem ykb34 : yq2 20 nX11_keep ([], 0) 0 yB34 = true := by decide +kernel
theorem ykc34 : yq3 yA34 yB34 = true := by decide +kernel
theorem ykd34 : yA34.all (fun q => Nat.ble q.1.length 0) = true := by decide +kernel
