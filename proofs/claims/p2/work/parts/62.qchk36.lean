theorem qk231_6 : qn231_6.all (ackN qY zIT zmcl qW qPt zMt qKH qKB qc231 qn231 6 3000) = true := by decide +kernel
theorem qk231_7 : qn231_7.all (ackN qY zIT zmcl qW qPt zMt qKH qKB qc231 qn231 6 3000) = true := by decide +kernel
theorem qk231_8 : qn231_8.all (ackN qY zIT zmcl qW qPt zMt qKH qKB qc231 qn231 6 3000) = true := by decide +kernel
theorem qk231_9 : qn231_9.all (ackN qY zIT zmcl qW qPt zMt qKH qKB qc231 qn231 6 3000) = true := by decide +kernel
theorem qk231_10 : qn231_10.all (ackN qY zIT zmcl qW qPt zMt qKH qKB qc231 qn231 6 3000) = true := by decide +kernel
theorem qk231_11 : qn231_11.all (ackN qY zIT zmcl qW qPt zMt qKH qKB qc231 qn231 6 3000) = true := by decide +kernel
theorem qk231_12 : qn231_12.all (ackN qY zIT zmcl qW qPt zMt qKH qKB qc231 qn231 6 3000) = true := by decide +kernel
