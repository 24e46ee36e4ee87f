theorem ykb15_6 : yq2 20 nX11_ahead ([(-2147483648, 2147483647), (5, 2147483647)], 0) 2 yB15_6 = true := by decide +kernel
theorem ykc15_6 : yq3 yA15_6 yB15_6 = true := by decide +kernel
theorem ykd15_6 : yA15_6.all (fun q => Nat.ble q.1.length 2) = true := by decide +kernel
