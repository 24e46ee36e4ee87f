theorem qk224_e : ack0 qY zIT zmcl qW qPt zMt qKH qKB qc224 qn224 6 3000 = true := by decide +kernel
