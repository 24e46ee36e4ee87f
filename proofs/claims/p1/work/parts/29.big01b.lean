theorem ykb1 : yq2 20 nX11_text ([(-2147483648, 2147483647)], 0) 1 yB1 = true := by decide +kernel
theorem ykc1 : yq3 yA1 yB1 = true := by decide +kernel
theorem ykd1 : yA1.all (fun q => Nat.ble q.1.length 1) = true := by decide +kernel
