theorem qk18_e : ack0 qY zIT zmcl qW qPt zMt qKH qKB qc18 qn18 6 3000 = true := by decide +kernel
theorem qk18_0 : qn18_0.all (ackN qY zIT zmcl qW qPt zMt qKH qKB qc18 qn18 6 3000) = true := by decide +kernel
