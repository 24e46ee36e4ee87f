theorem qk225_e : ack0 qY zIT zmcl qW qPt zMt qKH qKB qc225 qn225 6 3000 = true := by decide +kernel
theorem qk225_0 : qn225_0.all (ackN qY zIT zmcl qW qPt zMt qKH qKB qc225 qn225 6 3000) = true := by decide +kernel
theorem qk226_e : ack0 qY zIT zmcl qW qPt zMt qKH qKB qc226 qn226 6 3000 = true := by decide +kernel
theorem qk226_0 : qn226_0.all (ackN qY zIT zmcl qW qPt zMt qKH qKB qc226 qn226 6 3000) = true := by decide +kernel
