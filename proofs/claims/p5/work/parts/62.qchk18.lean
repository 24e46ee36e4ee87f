theorem qk108_e : ack0 qY zIT zmcl qW qPt zMt qKH qKB qc108 qn108 6 3000 = true := by decide +kernel
