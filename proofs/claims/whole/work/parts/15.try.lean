set_option maxRecDepth 1000000 in
theorem zz_try1 : ((zevF (zXt false []) zIT zmcl zMt 12 nX7_init [.ref 0, .int 6, .int 5] [(7, zobj zD7)]).isSome) = true := by decide +kernel
