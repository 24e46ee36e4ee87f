theorem qk43_e : ack0 qY zIT zmcl qW qPt zMt qKH qKB qc43 qn43 6 3000 = true := by decide +kernel
theorem qk43_0 : qn43_0.all (ackN qY zIT zmcl qW qPt zMt qKH qKB qc43 qn43 6 3000) = true := by decide +kernel
theorem qk43_1 : qn43_1.all (ackN qY zIT zmcl qW qPt zMt qKH qKB qc43 qn43 6 3000) = true := by decide +kernel
theorem qk43_2 : qn43_2.all (ackN qY zIT zmcl qW qPt zMt qKH qKB qc43 qn43 6 3000) = true := by decide +kernel
