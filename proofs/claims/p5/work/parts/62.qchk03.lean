theorem qk12_e : ack0 qY zIT zmcl qW qPt zMt qKH qKB qc12 qn12 6 3000 = true := by decide +kernel
theorem qk12_0 : qn12_0.all (ackN qY zIT zmcl qW qPt zMt qKH qKB qc12 qn12 6 3000) = true := by decide +kernel
