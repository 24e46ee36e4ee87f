theorem qk229_e : ack0 qY zIT zmcl qW qPt zMt qKH qKB qc229 qn229 12 3000 = true := by decide +kernel
theorem qk229_0 : qn229_0.all (ackN qY zIT zmcl qW qPt zMt qKH qKB qc229 qn229 12 3000) = true := by decide +kernel
theorem qk229_1 : qn229_1.all (ackN qY zIT zmcl qW qPt zMt qKH qKB qc229 qn229 12 3000) = true := by decide +kernel
theorem qk229_2 : qn229_2.all (ackN qY zIT zmcl qW qPt zMt qKH qKB qc229 qn229 12 3000) = true := by decide +kernel
