theorem qk231_34 : qn231_34.all (ackN qY zIT zmcl qW qPt zMt qKH qKB qc231 qn231 6 3000) = true := by decide +kernel
