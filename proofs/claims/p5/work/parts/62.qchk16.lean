theorem qk105_e : ack0 qY zIT zmcl qW qPt zMt qKH qKB qc105 qn105 6 3000 = true := by decide +kernel
