theorem ykb32_4 : yq2 20 nX11_tried ([(3, 3), (-2147483648, 2147483647), (-2147483648, 2147483647)], 0) 3 yB32_4 = true := by decide +kernel
theorem ykc32_4 : yq3 yA32_4 yB32_4 = true := by decide +kernel
theorem ykd32_4 : yA32_4.all (fun q => Nat.ble q.1.length 3) = true := by decide +kernel
