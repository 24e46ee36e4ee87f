theorem qk231_27 : qn231_27.all (ackN qY zIT zmcl qW qPt zMt qKH qKB qc231 qn231 6 3000) = true := by decide +kernel
theorem qk231_28 : qn231_28.all (ackN qY zIT zmcl qW qPt zMt qKH qKB qc231 qn231 6 3000) = true := by decide +kernel
