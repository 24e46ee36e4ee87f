theorem qk143_e : ack0 qY zIT zmcl qW qPt zMt qKH qKB qc143 qn143 6 3000 = true := by decide +kernel
theorem qk143_0 : qn143_0.all (ackN qY zIT zmcl qW qPt zMt qKH qKB qc143 qn143 6 3000) = true := by decide +kernel
theorem qk143_1 : qn143_1.all (ackN qY zIT zmcl qW qPt zMt qKH qKB qc143 qn143 6 3000) = true := by decide +kernel
