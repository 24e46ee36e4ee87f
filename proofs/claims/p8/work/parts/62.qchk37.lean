theorem qk198_e : ack0 qY zIT zmcl qW qPt zMt qKH qKB qc198 qn198 6 3000 = true := by decide +kernel
