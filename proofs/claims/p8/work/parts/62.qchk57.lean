theorem qk281_e : ack0 qY zIT zmcl qW qPt zMt qKH qKB qc281 qn281 6 3000 = true := by decide +kernel
theorem qk281_0 : qn281_0.all (ackN qY zIT zmcl qW qPt zMt qKH qKB qc281 qn281 6 3000) = true := by decide +kernel
theorem qk281_1 : qn281_1.all (ackN qY zIT zmcl qW qPt zMt qKH qKB qc281 qn281 6 3000) = true := by decide +kernel
theorem qk281_2 : qn281_2.all (ackN qY zIT zmcl qW qPt zMt qKH qKB qc281 qn281 6 3000) = true := by decide +kernel
theorem qk281_3 : qn281_3.all (ackN qY zIT zmcl qW qPt zMt qKH qKB qc281 qn281 6 3000) = true := by decide +kernel
