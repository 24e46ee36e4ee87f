theorem qk138_0 : qn138_0.all (ackN qY zIT zmcl qW qPt zMt qKH qKB qc138 qn138 6 3000) = true := by decide +kernel
