theorem qk231_e : ack0 qY zIT zmcl qW qPt zMt qKH qKB qc231 qn231 6 3000 = true := by decide +kernel
theorem qk231_0 : qn231_0.all (ackN qY zIT zmcl qW qPt zMt qKH qKB qc231 qn231 6 3000) = true := by decide +kernel
theorem qk231_1 : qn231_1.all (ackN qY zIT zmcl qW qPt zMt qKH qKB qc231 qn231 6 3000) = true := by decide +kernel
theorem qk231_2 : qn231_2.all (ackN qY zIT zmcl qW qPt zMt qKH qKB qc231 qn231 6 3000) = true := by decide +kernel
