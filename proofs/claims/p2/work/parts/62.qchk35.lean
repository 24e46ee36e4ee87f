theorem qk231_e : ack0 qY zIT zmcl qW qPt zMt qKH qKB qc231 qn231 6 3000 = true := by decide +kernel
theorem qk231_0 : qn231_0.all (ackN qY zIT zmcl qW qPt zMt qKH qKB qc231 qn231 6 3000) = true := by decide +kernel
theorem qk231_1 : qn231_1.all (ackN qY zIT zmcl qW qPt zMt qKH qKB qc231 qn231 6 3000) = true := by decide +kernel
theorem qk231_2 : qn231_2.all (ackN qY zIT zmcl qW qPt zMt qKH qKB qc231 qn231 6 3000) = true := by decide +kernel
theorem qk231_3 : qn231_3.all (ackN qY zIT zmcl qW qPt zMt qKH qKB qc231 qn231 6 3000) = true := by decide +kernel
theorem qk231_4 : qn231_4.all (ackN qY zIT zmcl qW qPt zMt qKH qKB qc231 qn231 6 3000) = true := by decide +kernel
theorem qk231_5 : qn231_5.all (ackN qY zIT zmcl qW qPt zMt qKH qKB qc231 qn231 6 3000) = true := by decide +kernel
