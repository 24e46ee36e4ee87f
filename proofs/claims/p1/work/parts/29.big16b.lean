theorem ykb32_0 : yq2 20 nX11_tried ([(-2147483648, -1), (-2147483648, 2147483647), (-2147483648, 2147483647)], 0) 3 yB32_0 = true := by decide +kernel
theorem ykc32_0 : yq3 yA32_0 yB32_0 = true := by decide +kernel
theorem ykd32_0 : yA32_0.all (fun q => Nat.ble q.1.length 3) = true := by decide +kernel
