theorem ykb14 : yq2 20 nX11_go ([(-2147483648, 2147483647)], 0) 1 yB14 = true := by decide +kernel
theorem ykc14 : yq3 yA14 yB14 = true := by decide +kernel
theorem ykd14 : yA14.all (fun q => Nat.ble q.1.length 1) = true := by decide +kernel
