theorem qk226_e : ack0 qY zIT zmcl qW qPt zMt qKH qKB qc226 qn226 12 3000 = true := by decide +kernel
