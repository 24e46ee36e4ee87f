theorem ykb15_2 : yq2 20 nX11_ahead ([(-2147483648, 2147483647), (1, 1)], 0) 2 yB15_2 = true := by decide +kernel
theorem ykc15_2 : yq3 yA15_2 yB15_2 = true := by decide +kernel
theorem ykd15_2 : yA15_2.all (fun q => Nat.ble q.1.length 2) = true := by decide +kernel
