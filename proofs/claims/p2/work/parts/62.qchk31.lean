theorem qk230_e : ack0 qY zIT zmcl qW qPt zMt qKH qKB qc230 qn230 12 3000 = true := by decide +kernel
