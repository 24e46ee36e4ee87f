theorem ykb15_3 : yq2 20 nX11_ahead ([(-2147483648, 2147483647), (2, 2)], 0) 2 yB15_3 = true := by decide +kernel
theorem ykc15_3 : yq3 yA15_3 yB15_3 = true := by decide +kernel
theorem ykd15_3 : yA15_3.all (fun q => Nat.ble q.1.length 2) = true := by decide +kernel
