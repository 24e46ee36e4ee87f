theorem ykb0 : yq2 20 nX11_feed ([(-2147483648, 2147483647), (-2147483648, 2147483647), (-2147483648, 2147483647), (-2147483648, 2147483647), (-2147483648, 2147483647)], 0) 5 yB0 = true := by decide +kernel
theorem ykc0 : yq3 yA0 yB0 = true := by decide +kernel
theorem ykd0 : yA0.all (fun q => Nat.ble q.1.length 5) = true := by decide +kernel
