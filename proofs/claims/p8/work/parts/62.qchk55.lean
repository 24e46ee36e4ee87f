theorem qk278_e : ack0 qY zIT zmcl qW qPt zMt qKH qKB qc278 qn278 6 3000 = true := by decide +kernel
theorem qk278_0 : qn278_0.all (ackN qY zIT zmcl qW qPt zMt qKH qKB qc278 qn278 6 3000) = true := by decide +kernel
theorem qk278_1 : qn278_1.all (ackN qY zIT zmcl qW qPt zMt qKH qKB qc278 qn278 6 3000) = true := by decide +kernel
theorem qk279_e : ack0 qY zIT zmcl qW qPt zMt qKH qKB qc279 qn279 6 3000 = true := by decide +kernel
theorem qk279_0 : qn279_0.all (ackN qY zIT zmcl qW qPt zMt qKH qKB qc279 qn279 6 3000) = true := by decide +kernel
