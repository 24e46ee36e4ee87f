theorem qk199_0 : qn199_0.all (ackN qY zIT zmcl qW qPt zMt qKH qKB qc199 qn199 6 3000) = true := by decide +kernel
