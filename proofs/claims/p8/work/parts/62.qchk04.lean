theorem qk17_e : ack0 qY zIT zmcl qW qPt zMt qKH qKB qc17 qn17 6 3000 = true := by decide +kernel
theorem qk17_0 : qn17_0.all (ackN qY zIT zmcl qW qPt zMt qKH qKB qc17 qn17 6 3000) = true := by decide +kernel
