theorem ykb20_3 : yq2 20 nX11_seating ([(5, 2147483647)], 0) 1 yB20_3 = true := by decide +kernel
theorem ykc20_3 : yq3 yA20_3 yB20_3 = true := by decide +kernel
theorem ykd20_3 : yA20_3.all (fun q => Nat.ble q.1.length 1) = true := by decide +kernel
