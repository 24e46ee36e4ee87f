theorem qk43_e : ack0 qY zIT zmcl qW qPt zMt qKH qKB qc43 qn43 6 3000 = true := by decide +kernel
