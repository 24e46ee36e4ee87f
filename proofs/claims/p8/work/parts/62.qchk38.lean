theorem qk198_0 : qn198_0.all (ackN qY zIT zmcl qW qPt zMt qKH qKB qc198 qn198 6 3000) = true := by decide +kernel
