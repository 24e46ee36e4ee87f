theorem qk113_2 : qn113_2.all (ackN qY zIT zmcl qW qPt zMt qKH qKB qc113 qn113 6 3000) = true := by decide +kernel
