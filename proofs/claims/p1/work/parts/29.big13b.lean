theorem ykb20_2 : yq2 20 nX11_seating ([(4, 4)], 0) 1 yB20_2 = true := by decide +kernel
theorem ykc20_2 : yq3 yA20_2 yB20_2 = true := by decide +kernel
theorem ykd20_2 : yA20_2.all (fun q => Nat.ble q.1.length 1) = true := by decide +kernel
