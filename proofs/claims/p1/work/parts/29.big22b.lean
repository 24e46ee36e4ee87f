theorem ykb32_6 : yq2 20 nX11_tried ([(5, 5), (-2147483648, 2147483647), (-2147483648, 2147483647)], 0) 3 yB32_6 = true := by decide +kernel
theorem ykc32_6 : yq3 yA32_6 yB32_6 = true := by decide +kernel
theorem ykd32_6 : yA32_6.all (fun q => Nat.ble q.1.length 3) = true := by decide +kernel
