theorem ykb32_5 : yq2 20 nX11_tried ([(4, 4), (-2147483648, 2147483647), (-2147483648, 2147483647)], 0) 3 yB32_5 = true := by decide +kernel
theorem ykc32_5 : yq3 yA32_5 yB32_5 = true := by decide +kernel
theorem ykd32_5 : yA32_5.all (fun q => Nat.ble q.1.length 3) = true := by decide +kernel
