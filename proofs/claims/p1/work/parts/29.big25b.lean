theorem ykb36 : yq2 20 nX11_count ([(-2147483648, 2147483647)], 0) 1 yB36 = true := by decide +kernel
theorem ykc36 : yq3 yA36 yB36 = true := by decide +kernel
theorem ykd36 : yA36.all (fun q => Nat.ble q.1.length 1) = true := by decide +kernel
