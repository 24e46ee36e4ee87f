theorem qk229_e : ack0 qY zIT zmcl qW qPt zMt qKH qKB qc229 qn229 6 3000 = true := by decide +kernel
theorem qk229_0 : qn229_0.all (ackN qY zIT zmcl qW qPt zMt qKH qKB qc229 qn229 6 3000) = true := by decide +kernel
