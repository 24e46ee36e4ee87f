theorem qk281_20 : qn281_20.all (ackN qY zIT zmcl qW qPt zMt qKH qKB qc281 qn281 6 3000) = true := by decide +kernel
theorem qk281_21 : qn281_21.all (ackN qY zIT zmcl qW qPt zMt qKH qKB qc281 qn281 6 3000) = true := by decide +kernel
theorem qk281_22 : qn281_22.all (ackN qY zIT zmcl qW qPt zMt qKH qKB qc281 qn281 6 3000) = true := by decide +kernel
theorem qk281_23 : qn281_23.all (ackN qY zIT zmcl qW qPt zMt qKH qKB qc281 qn281 6 3000) = true := by decide +kernel
