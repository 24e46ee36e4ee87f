theorem qk224_e : ack0 qY zIT zmcl qW qPt zMt qKH qKB qc224 qn224 12 3000 = true := by decide +kernel
theorem qk224_0 : qn224_0.all (ackN qY zIT zmcl qW qPt zMt qKH qKB qc224 qn224 12 3000) = true := by decide +kernel
theorem qk225_e : ack0 qY zIT zmcl qW qPt zMt qKH qKB qc225 qn225 12 3000 = true := by decide +kernel
theorem qk225_0 : qn225_0.all (ackN qY zIT zmcl qW qPt zMt qKH qKB qc225 qn225 12 3000) = true := by decide +kernel
