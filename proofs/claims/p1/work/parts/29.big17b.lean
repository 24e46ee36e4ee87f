theorem ykb32_1 : yq2 20 nX11_tried ([(0, 0), (-2147483648, 2147483647), (-2147483648, 2147483647)], 0) 3 yB32_1 = true := by decide +kernel
theorem ykc32_1 : yq3 yA32_1 yB32_1 = true := by decide +kernel
theorem ykd32_1 : yA32_1.all (fun q => Nat.ble q.1.length 3) = true := by decide +kernel
