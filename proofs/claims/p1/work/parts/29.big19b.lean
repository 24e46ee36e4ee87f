theorem ykb32_3 : yq2 20 nX11_tried ([(2, 2), (-2147483648, 2147483647), (-2147483648, 2147483647)], 0) 3 yB32_3 = true := by decide +kernel
theorem ykc32_3 : yq3 yA32_3 yB32_3 = true := by decide +kernel
theorem ykd32_3 : yA32_3.all (fun q => Nat.ble q.1.length 3) = true := by decide +kernel
