theorem qk167_e : ack0 qY zIT zmcl qW qPt zMt qKH qKB qc167 qn167 6 3000 = true := by decide +kernel
theorem qk168_e : ack0 qY zIT zmcl qW qPt zMt qKH qKB qc168 qn168 6 3000 = true := by decide +kernel
theorem qk169_e : ack0 qY zIT zmcl qW qPt zMt qKH qKB qc169 qn169 6 3000 = true := by decide +kernel
theorem qk170_e : ack0 qY zIT zmcl qW qPt zMt qKH qKB qc170 qn170 6 3000 = true := by decide +kernel
theorem qk170_0 : qn170_0.all (ackN qY zIT zmcl qW qPt zMt qKH qKB qc170 qn170 6 3000) = true := by decide +kernel
theorem qk171_e : ack0 qY zIT zmcl qW qPt zMt qKH qKB qc171 qn171 6 3000 = true := by decide +kernel
