theorem ykb20_1 : yq2 20 nX11_seating ([(0, 3)], 0) 1 yB20_1 = true := by decide +kernel
theorem ykc20_1 : yq3 yA20_1 yB20_1 = true := by decide +kernel
theorem ykd20_1 : yA20_1.all (fun q => Nat.ble q.1.length 1) = true := by decide +kernel
