theorem qk199_e : ack0 qY zIT zmcl qW qPt zMt qKH qKB qc199 qn199 6 3000 = true := by decide +kernel
