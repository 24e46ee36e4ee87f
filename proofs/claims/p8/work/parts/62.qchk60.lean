theorem qk281_13 : qn281_13.all (ackN qY zIT zmcl qW qPt zMt qKH qKB qc281 qn281 6 3000) = true := by decide +kernel
theorem qk281_14 : qn281_14.all (ackN qY zIT zmcl qW qPt zMt qKH qKB qc281 qn281 6 3000) = true := by decide +kernel
theorem qk281_15 : qn281_15.all (ackN qY zIT zmcl qW qPt zMt qKH qKB qc281 qn281 6 3000) = true := by decide +kernel
