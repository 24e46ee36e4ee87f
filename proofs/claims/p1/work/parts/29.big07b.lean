theorem ykb15_4 : yq2 20 nX11_ahead ([(-2147483648, 2147483647), (3, 3)], 0) 2 yB15_4 = true := by decide +kernel
theorem ykc15_4 : yq3 yA15_4 yB15_4 = true := by decide +kernel
theorem ykd15_4 : yA15_4.all (fun q => Nat.ble q.1.length 2) = true := by decide +kernel
