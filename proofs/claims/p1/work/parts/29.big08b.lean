theorem ykb15_5 : yq2 20 nX11_ahead ([(-2147483648, 2147483647), (4, 4)], 0) 2 yB15_5 = true := by decide +kernel
theorem ykc15_5 : yq3 yA15_5 yB15_5 = true := by decide +kernel
theorem ykd15_5 : yA15_5.all (fun q => Nat.ble q.1.length 2) = true := by decide +kernel
