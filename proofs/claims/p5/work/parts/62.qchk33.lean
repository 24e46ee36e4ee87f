theorem qk172_e : ack0 qY zIT zmcl qW qPt zMt qKH qKB qc172 qn172 6 3000 = true := by decide +kernel
theorem qk172_0 : qn172_0.all (ackN qY zIT zmcl qW qPt zMt qKH qKB qc172 qn172 6 3000) = true := by decide +kernel
theorem qk173_e : ack0 qY zIT zmcl qW qPt zMt qKH qKB qc173 qn173 6 3000 = true := by decide +kernel
theorem qk174_e : ack0 qY zIT zmcl qW qPt zMt qKH qKB qc174 qn174 6 3000 = true := by decide +kernel
theorem qk174_0 : qn174_0.all (ackN qY zIT zmcl qW qPt zMt qKH qKB qc174 qn174 6 3000) = true := by decide +kernel
