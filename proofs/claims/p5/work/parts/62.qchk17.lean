theorem qk106_e : ack0 qY zIT zmcl qW qPt zMt qKH qKB qc106 qn106 6 3000 = true := by decide +kernel
theorem qk106_0 : qn106_0.all (ackN qY zIT zmcl qW qPt zMt qKH qKB qc106 qn106 6 3000) = true := by decide +kernel
theorem qk107_e : ack0 qY zIT zmcl qW qPt zMt qKH qKB qc107 qn107 6 3000 = true := by decide +kernel
theorem qk107_0 : qn107_0.all (ackN qY zIT zmcl qW qPt zMt qKH qKB qc107 qn107 6 3000) = true := by decide +kernel
