theorem qk1_e : ack0 qY zIT zmcl qW qPt zMt qKH qKB qc1 qn1 6 3000 = true := by decide +kernel
