theorem qk231_13 : qn231_13.all (ackN qY zIT zmcl qW qPt zMt qKH qKB qc231 qn231 6 3000) = true := by decide +kernel
theorem qk231_14 : qn231_14.all (ackN qY zIT zmcl qW qPt zMt qKH qKB qc231 qn231 6 3000) = true := by decide +kernel
theorem qk231_15 : qn231_15.all (ackN qY zIT zmcl qW qPt zMt qKH qKB qc231 qn231 6 3000) = true := by decide +kernel
theorem qk231_16 : qn231_16.all (ackN qY zIT zmcl qW qPt zMt qKH qKB qc231 qn231 6 3000) = true := by decide +kernel
theorem qk231_17 : qn231_17.all (ackN qY zIT zmcl qW qPt zMt qKH qKB qc231 qn231 6 3000) = true := by decide +kernel
theorem qk231_18 : qn231_18.all (ackN qY zIT zmcl qW qPt zMt qKH qKB qc231 qn231 6 3000) = true := by decide +kernel
theorem qk231_19 : qn231_19.all (ackN qY zIT zmcl qW qPt zMt qKH qKB qc231 qn231 6 3000) = true := by decide +kernel
