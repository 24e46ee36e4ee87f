theorem qk0_e : ack0 qY zIT zmcl qW qPt zMt qKH qKB qc0 qn0 6 3000 = true := by decide +kernel
theorem qk0_0 : qn0_0.all (ackN qY zIT zmcl qW qPt zMt qKH qKB qc0 qn0 6 3000) = true := by decide +kernel
