theorem qk280_e : ack0 qY zIT zmcl qW qPt zMt qKH qKB qc280 qn280 6 3000 = true := by decide +kernel
theorem qk280_0 : qn280_0.all (ackN qY zIT zmcl qW qPt zMt qKH qKB qc280 qn280 6 3000) = true := by decide +kernel
