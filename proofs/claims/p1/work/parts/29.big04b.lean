theorem ykb15_1 : yq2 20 nX11_ahead ([(-2147483648, 2147483647), (0, 0)], 0) 2 yB15_1 = true := by decide +kernel
theorem ykc15_1 : yq3 yA15_1 yB15_1 = true := by decide +kernel
theorem ykd15_1 : yA15_1.all (fun q => Nat.ble q.1.length 2) = true := by decide +kernel
