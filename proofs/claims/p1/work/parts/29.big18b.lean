theorem ykb32_2 : yq2 20 nX11_tried ([(1, 1), (-2147483648, 2147483647), (-2147483648, 2147483647)], 0) 3 yB32_2 = true := by decide +kernel
theorem ykc32_2 : yq3 yA32_2 yB32_2 = true := by decide +kernel
theorem ykd32_2 : yA32_2.all (fun q => Nat.ble q.1.length 3) = true := by decide +kernel
