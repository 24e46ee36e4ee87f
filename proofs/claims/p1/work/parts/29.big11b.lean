theorem ykb20_0 : yq2 20 nX11_seating ([(-2147483648, -1)], 0) 1 yB20_0 = true := by decide +kernel
theorem ykc20_0 : yq3 yA20_0 yB20_0 = true := by decide +kernel
theorem ykd20_0 : yA20_0.all (fun q => Nat.ble q.1.length 1) = true := by decide +kernel
