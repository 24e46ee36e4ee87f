theorem qk130_e : ack0 qY zIT zmcl qW qPt zMt qKH qKB qc130 qn130 6 3000 = true := by decide +kernel
