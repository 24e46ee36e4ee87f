theorem qk13_e : ack0 qY zIT zmcl qW qPt zMt qKH qKB qc13 qn13 6 3000 = true := by decide +kernel
theorem qk13_0 : qn13_0.all (ackN qY zIT zmcl qW qPt zMt qKH qKB qc13 qn13 6 3000) = true := by decide +kernel
