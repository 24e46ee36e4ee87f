theorem qk113_e : ack0 qY zIT zmcl qW qPt zMt qKH qKB qc113 qn113 6 3000 = true := by decide +kernel
theorem qk113_0 : qn113_0.all (ackN qY zIT zmcl qW qPt zMt qKH qKB qc113 qn113 6 3000) = true := by decide +kernel
theorem qk113_1 : qn113_1.all (ackN qY zIT zmcl qW qPt zMt qKH qKB qc113 qn113 6 3000) = true := by decide +kernel
