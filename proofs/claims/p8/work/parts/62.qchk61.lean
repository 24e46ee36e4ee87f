theorem qk281_16 : qn281_16.all (ackN qY zIT zmcl qW qPt zMt qKH qKB qc281 qn281 6 3000) = true := by decide +kernel
theorem qk281_17 : qn281_17.all (ackN qY zIT zmcl qW qPt zMt qKH qKB qc281 qn281 6 3000) = true := by decide +kernel
