theorem qk281_28 : qn281_28.all (ackN qY zIT zmcl qW qPt zMt qKH qKB qc281 qn281 6 3000) = true := by decide +kernel
theorem qk281_29 : qn281_29.all (ackN qY zIT zmcl qW qPt zMt qKH qKB qc281 qn281 6 3000) = true := by decide +kernel
