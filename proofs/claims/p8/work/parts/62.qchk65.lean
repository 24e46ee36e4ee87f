theorem qk281_24 : qn281_24.all (ackN qY zIT zmcl qW qPt zMt qKH qKB qc281 qn281 6 3000) = true := by decide +kernel
theorem qk281_25 : qn281_25.all (ackN qY zIT zmcl qW qPt zMt qKH qKB qc281 qn281 6 3000) = true := by decide +kernel
theorem qk281_26 : qn281_26.all (ackN qY zIT zmcl qW qPt zMt qKH qKB qc281 qn281 6 3000) = true := by decide +kernel
theorem qk281_27 : qn281_27.all (ackN qY zIT zmcl qW qPt zMt qKH qKB qc281 qn281 6 3000) = true := by decide +kernel
