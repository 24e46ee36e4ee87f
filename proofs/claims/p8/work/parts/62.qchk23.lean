theorem qk137_e : ack0 qY zIT zmcl qW qPt zMt qKH qKB qc137 qn137 6 3000 = true := by decide +kernel
theorem qk137_0 : qn137_0.all (ackN qY zIT zmcl qW qPt zMt qKH qKB qc137 qn137 6 3000) = true := by decide +kernel
