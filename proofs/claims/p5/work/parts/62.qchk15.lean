theorem qk104_e : ack0 qY zIT zmcl qW qPt zMt qKH qKB qc104 qn104 6 3000 = true := by decide +kernel
