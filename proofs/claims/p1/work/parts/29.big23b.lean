theorem ykb32_7 : yq2 20 nX11_tried ([(6, 2147483647), (-2147483648, 2147483647), (-2147483648, 2147483647)], 0) 3 yB32_7 = true := by decide +kernel
theorem ykc32_7 : yq3 yA32_7 yB32_7 = true := by decide +kernel
theorem ykd32_7 : yA32_7.all (fun q => Nat.ble q.1.length 3) = true := by decide +kernel
