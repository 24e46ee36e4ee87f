theorem ykb15_0 : yq2 20 nX11_ahead ([(-2147483648, 2147483647), (-2147483648, -1)], 0) 2 yB15_0 = true := by decide +kernel
theorem ykc15_0 : yq3 yA15_0 yB15_0 = true := by decide +kernel
theorem ykd15_0 : yA15_0.all (fun q => Nat.ble q.1.length 2) = true := by decide +kernel
