theorem ykb17 : yq2 20 nX11_nextHalt ([], 0) 0 yB17 = true := by decide +kernel
theorem ykc17 : yq3 yA17 yB17 = true := by decide +kernel
theorem ykd17 : yA17.all (fun q => Nat.ble q.1.length 0) = true := by decide +kernel
