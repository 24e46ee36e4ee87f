theorem qk78_e : ack0 qY zIT zmcl qW qPt zMt qK0 qKA qc78 qn78 6 3000 = true := by decide +kernel
theorem qk79_e : ack0 qY zIT zmcl qW qPt zMt qK0 qKA qc79 qn79 6 3000 = true := by decide +kernel
theorem qk81_e : ack0 qY zIT zmcl qW qPt zMt qKH qKB qc81 qn81 6 3000 = true := by decide +kernel
theorem qk81_0 : qn81_0.all (ackN qY zIT zmcl qW qPt zMt qKH qKB qc81 qn81 6 3000) = true := by decide +kernel
theorem qk82_e : ack0 qY zIT zmcl qW qPt zMt qKH qKB qc82 qn82 6 3000 = true := by decide +kernel
theorem qk82_0 : qn82_0.all (ackN qY zIT zmcl qW qPt zMt qKH qKB qc82 qn82 6 3000) = true := by decide +kernel
