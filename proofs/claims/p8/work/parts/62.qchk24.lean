theorem qk138_e : ack0 qY zIT zmcl qW qPt zMt qKH qKB qc138 qn138 6 3000 = true := by decide +kernel
